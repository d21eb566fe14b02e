/-! The class reads a text. Written by l2_73.py. -/
theorem dz_up_o {f : Nat → Nat → Int} {q k q2 k2 : Nat} {v : Int} (h : ¬ (q2 = q ∧ k2 = k)) : dz_up f q k v q2 k2 = f q2 k2 := by
  unfold dz_up
  rw [if_neg h]
set_option maxRecDepth 100000 in
theorem S_readPlace {xo : Nat → List Int} {d : Nat} {Q : dz_Q} {sh : List (Nat ⊕ (Nat × Nat))} {rf : Nat → Nat → Nat} {M : Nat → Nat → Int} {tx nn p : Nat} {c : Nat → Int} (hl : cl sh rf) (htx : tx < 4) (hrf : rf 41 1 = 10 + tx + 1) (hn : nn ≤ 60) (hc2 : ∀ k, k < nn → M (10 + tx) k = c k ∧ -128 ≤ c k ∧ c k ≤ 127) (h2 : M 41 2 = (nn : Int)) (h3 : M 41 3 = (p : Int)) (hp : p ≤ nn) {i : Nat} {pl : Int} {P : Nat → Int} (hpl : M 42 1 = pl) (h69 : 6 ≤ pl ∧ pl ≤ 9) (hi : i ≤ 5) (hw : M 42 0 = (i : Int)) (hP : ∀ k, k < i → M 44 k = P k) (h1 : fig c nn 0 (pl - 1) p → ly_at P (c p - 48) i 0 = -9 → ∀ M2 : Nat → Nat → Int, (∀ q2 k2, ¬ (q2 = 41 ∧ k2 = 3) → ¬ (q2 = 44 ∧ k2 = i) → M2 q2 k2 = M q2 k2) → M2 41 3 = ((p + 1 : Nat) : Int) → M2 44 i = c p - 48 → Q (some (dz_i 1)) (sh, rf, M2)) (h0 : (¬ fig c nn 0 (pl - 1) p ∨ ly_at P (c p - 48) i 0 ≠ -9) → ∀ M2 : Nat → Nat → Int, (∀ q2 k2, ¬ (q2 = 41 ∧ k2 = 3) → ¬ (q2 = 44 ∧ k2 = i) → M2 q2 k2 = M q2 k2) → M2 41 3 = (p : Int) → Q (some (dz_i 0)) (sh, rf, M2)) : dz_E dz_pp xo (d + 3) 42 [dz_r 41, dz_i (i : Int)] (sh, rf, M) Q := by
  refine ⟨Nat.le_of_ble_eq_true rfl, ?_⟩
  have hc := dz_E_m dz_pp xo (d + 2)
  show dz_X (dz_E dz_pp xo (d + 2)) dz_pp xo (dz_pp 42) Q 0 [some (dz_r 41), some (dz_i (i : Int)), none] [] 0 0 (sh, rf, M)
  obtain ⟨c0, c1, c2, c3, c4, c5, c6, c7, c8, c9, c10, c11, c12, c13, c14, c15, c16, c17, c18, c19, c20, c21, c22, c23, c24, c25, c26, c27, c28, c29, c30, c31, c32, c33, c34, c35, c36⟩ := id hl
  have r0 : sh[41]? = some (.inl 3) := c22
  have r1 : rf 41 0 = 42 + 1 := c23
  have r2 : sh[42]? = some (.inl 1) := c24.1
  have r3 : rf 42 6 = 43 + 1 := c24.2.1
  have r4 : sh[43]? = some (.inr (0, 6)) := c24.2.2.1
  have r5 : rf 42 7 = 44 + 1 := c24.2.2.2.1
  have r6 : sh[44]? = some (.inr (0, 6)) := c24.2.2.2.2.1
  have r7 : rf 42 8 = 45 + 1 := c24.2.2.2.2.2.1
  have r8 : sh[45]? = some (.inr (0, 6)) := c24.2.2.2.2.2.2.1
  have r9 : rf 42 9 = 46 + 1 := c24.2.2.2.2.2.2.2.1
  have r10 : sh[46]? = some (.inr (0, 6)) := c24.2.2.2.2.2.2.2.2.1
  have r11 : rf 42 10 = 47 + 1 := c24.2.2.2.2.2.2.2.2.2.1
  have r12 : sh[47]? = some (.inr (0, 6)) := c24.2.2.2.2.2.2.2.2.2.2.1
  have r13 := c10 tx htx
  refine xr_aloadn hc rfl rfl ?_
  refine xr_iconst hc rfl ?_
  refine xr_aloadn hc rfl rfl ?_
  refine xr_getfr hc rfl rfl (by first | assumption | rfl) (by first | assumption | rfl) ?_
  refine xr_getfi hc rfl (Or.inl rfl) (by first | assumption | rfl) ?_
  rw [hpl]
  refine xr_iconst hc rfl ?_
  refine xr_isubz hc rfl (by first | exact dz_wid (by first | omega | (unfold dz_w; omega)) (by first | omega | (unfold dz_w; omega)) | rfl) ?_
  refine xr_callv2 hc rfl (by first | assumption | rfl) rfl rfl rfl (Nat.le_of_ble_eq_true rfl) (Nat.zero_le _) (Nat.zero_le _) ?_
  refine S_readFigure hl htx hrf hn hc2 h2 h3 hp (fun y N2 y1 y2 => ?_) (fun y => ?_)
  · refine xk_1 ?_
    refine xr_istore2 hc rfl rfl ?_
    refine xr_iloadn hc rfl rfl ?_
    refine xr_bipush hc rfl ?_
    refine xr_icmp_ne hc rfl (t := 23) rfl (fun b18 => ?_) (fun b18 => ?_)
    · first
      | (exfalso; omega)
      | (skip
         refine xr_aloadn hc rfl rfl ?_
         refine xr_getfr hc rfl rfl (by first | assumption | rfl) (by first | assumption | rfl) ?_
         refine xr_iloadn hc rfl rfl ?_
         refine xr_callv1 hc rfl (by first | assumption | rfl) rfl rfl rfl (Nat.le_of_ble_eq_true rfl) (Nat.zero_le _) (Nat.zero_le _) ?_
         have hfe : free (N2 44) (i : Int) (c p - 48) ↔ ly_at P (c p - 48) i 0 = -9 := by
           have z := ly_free (f := P) (w := (i : Int)) (p := c p - 48) (by omega)
           rw [Int.toNat_natCast] at z
           rw [z]
           exact free_c (fun k hk => by rw [y1 _ _ (by omega)]; exact hP k (by omega))
         have n42 : N2 42 0 = (i : Int) := by rw [y1 _ _ (by omega)]; exact hw
         refine S_isFree (q := 42) c24 (by rw [n42]; omega) (fun v => ?_) (fun v => ?_)
         all_goals rw [n42] at v
         · refine xk_1 ?_
           refine xr_ift hc rfl (t := 46) rfl (by simp [dz_cmp]) ?_
           refine xr_aloadn hc rfl rfl ?_
           refine xr_getfr hc rfl rfl (by first | assumption | rfl) (by first | assumption | rfl) ?_
           refine xr_getfr hc rfl rfl (by first | assumption | rfl) (by first | assumption | rfl) ?_
           refine xr_iloadn hc rfl rfl ?_
           refine xr_iloadn hc rfl rfl ?_
           refine xr_iastore hc rfl (by first | assumption | rfl) (by first | omega | (unfold dz_w; omega)) (by first | omega | (unfold dz_w; omega)) ?_
           rw [Int.toNat_natCast]
           refine xr_iconst hc rfl ?_
           refine xr_zreturn hc rfl rfl (Nat.zero_le _) (Nat.zero_le _) (by first | exact Or.inl rfl | exact Or.inr rfl | assumption) ?_
           refine h1 y (hfe.mp v) _ (fun q2 k2 v1 v2 => ?_) (by rw [dz_up_ne (by omega)]; exact y2) (by rw [dz_up_eq])
           by_cases e : q2 = 44
           · subst e
             rw [dz_up_k (by omega), y1 _ _ v1]
           · rw [dz_up_ne e, y1 _ _ v1]
         · refine xk_1 ?_
           refine xr_iff hc rfl (by simp [dz_cmp]) ?_
           refine xr_aloadn hc rfl rfl ?_
           refine xr_dup hc rfl rfl ?_
           
           refine xr_getfi hc rfl (Or.inl rfl) (by first | assumption | rfl) ?_
           rw [y2]
           refine xr_iconst hc rfl ?_
           refine xr_isubz hc rfl (by first | exact dz_wid (by first | omega | (unfold dz_w; omega)) (by first | omega | (unfold dz_w; omega)) | rfl) ?_
           refine xr_putfi hc rfl rfl (by first | assumption | rfl) ?_
           refine xr_iconst hc rfl ?_
           refine xr_zreturn hc rfl rfl (Nat.zero_le _) (Nat.zero_le _) (by first | exact Or.inl rfl | exact Or.inr rfl | assumption) ?_
           refine h0 (Or.inr (fun z => v (hfe.mpr z))) _ (fun q2 k2 v1 v2 => ?_) (by rw [dz_up_eq]; omega)
           by_cases e : q2 = 41
           · subst e
             rw [dz_up_k (by omega), y1 _ _ v1]
           · rw [dz_up_ne e, y1 _ _ v1])
    · first
      | (exfalso; omega)
      | (skip
         refine xr_iconst hc rfl ?_
         refine xr_zreturn hc rfl rfl (Nat.zero_le _) (Nat.zero_le _) (by first | exact Or.inl rfl | exact Or.inr rfl | assumption) ?_
         exact h0 (Or.inl y) M (fun _ _ _ _ => rfl) h3)
  · refine xk_1 ?_
    refine xr_istore2 hc rfl rfl ?_
    refine xr_iloadn hc rfl rfl ?_
    refine xr_bipush hc rfl ?_
    refine xr_icmp_ne hc rfl (t := 23) rfl (fun b18 => ?_) (fun b18 => ?_)
    · first
      | (exfalso; omega)
      | (skip
         refine xr_aloadn hc rfl rfl ?_
         refine xr_getfr hc rfl rfl (by first | assumption | rfl) (by first | assumption | rfl) ?_
         refine xr_iloadn hc rfl rfl ?_
         refine xr_callv1 hc rfl (by first | assumption | rfl) rfl rfl rfl (Nat.le_of_ble_eq_true rfl) (Nat.zero_le _) (Nat.zero_le _) ?_
         have hfe : free (N2 44) (i : Int) (c p - 48) ↔ ly_at P (c p - 48) i 0 = -9 := by
           have z := ly_free (f := P) (w := (i : Int)) (p := c p - 48) (by omega)
           rw [Int.toNat_natCast] at z
           rw [z]
           exact free_c (fun k hk => by rw [y1 _ _ (by omega)]; exact hP k (by omega))
         have n42 : N2 42 0 = (i : Int) := by rw [y1 _ _ (by omega)]; exact hw
         refine S_isFree (q := 42) c24 (by rw [n42]; omega) (fun v => ?_) (fun v => ?_)
         all_goals rw [n42] at v
         · refine xk_1 ?_
           refine xr_ift hc rfl (t := 46) rfl (by simp [dz_cmp]) ?_
           refine xr_aloadn hc rfl rfl ?_
           refine xr_getfr hc rfl rfl (by first | assumption | rfl) (by first | assumption | rfl) ?_
           refine xr_getfr hc rfl rfl (by first | assumption | rfl) (by first | assumption | rfl) ?_
           refine xr_iloadn hc rfl rfl ?_
           refine xr_iloadn hc rfl rfl ?_
           refine xr_iastore hc rfl (by first | assumption | rfl) (by first | omega | (unfold dz_w; omega)) (by first | omega | (unfold dz_w; omega)) ?_
           rw [Int.toNat_natCast]
           refine xr_iconst hc rfl ?_
           refine xr_zreturn hc rfl rfl (Nat.zero_le _) (Nat.zero_le _) (by first | exact Or.inl rfl | exact Or.inr rfl | assumption) ?_
           refine h1 y (hfe.mp v) _ (fun q2 k2 v1 v2 => ?_) (by rw [dz_up_ne (by omega)]; exact y2) (by rw [dz_up_eq])
           by_cases e : q2 = 44
           · subst e
             rw [dz_up_k (by omega), y1 _ _ v1]
           · rw [dz_up_ne e, y1 _ _ v1]
         · refine xk_1 ?_
           refine xr_iff hc rfl (by simp [dz_cmp]) ?_
           refine xr_aloadn hc rfl rfl ?_
           refine xr_dup hc rfl rfl ?_
           
           refine xr_getfi hc rfl (Or.inl rfl) (by first | assumption | rfl) ?_
           rw [y2]
           refine xr_iconst hc rfl ?_
           refine xr_isubz hc rfl (by first | exact dz_wid (by first | omega | (unfold dz_w; omega)) (by first | omega | (unfold dz_w; omega)) | rfl) ?_
           refine xr_putfi hc rfl rfl (by first | assumption | rfl) ?_
           refine xr_iconst hc rfl ?_
           refine xr_zreturn hc rfl rfl (Nat.zero_le _) (Nat.zero_le _) (by first | exact Or.inl rfl | exact Or.inr rfl | assumption) ?_
           refine h0 (Or.inr (fun z => v (hfe.mpr z))) _ (fun q2 k2 v1 v2 => ?_) (by rw [dz_up_eq]; omega)
           by_cases e : q2 = 41
           · subst e
             rw [dz_up_k (by omega), y1 _ _ v1]
           · rw [dz_up_ne e, y1 _ _ v1])
    · first
      | (exfalso; omega)
      | (skip
         refine xr_iconst hc rfl ?_
         refine xr_zreturn hc rfl rfl (Nat.zero_le _) (Nat.zero_le _) (by first | exact Or.inl rfl | exact Or.inr rfl | assumption) ?_
         exact h0 (Or.inl y) M (fun _ _ _ _ => rfl) h3)
set_option maxRecDepth 100000 in
theorem S_rWord {xo : Nat → List Int} {d : Nat} {Q : dz_Q} {sh : List (Nat ⊕ (Nat × Nat))} {rf : Nat → Nat → Nat} {M : Nat → Nat → Int} {tx nn p : Nat} {c : Nat → Int} (hl : cl sh rf) (htx : tx < 4) (hrf : rf 41 1 = 10 + tx + 1) (hn : nn ≤ 60) (hc2 : ∀ k, k < nn → M (10 + tx) k = c k ∧ -128 ≤ c k ∧ c k ≤ 127) (h2 : M 41 2 = (nn : Int)) (h3 : M 41 3 = (p : Int)) (hp : p ≤ nn) {i : Nat} {pl : Int} {ps : Nat → Nat} (hx1 : xo 1 = dz_xs1) (hlt : p < nn) (hpl : M 42 1 = pl) (h69 : 6 ≤ pl ∧ pl ≤ 9) (hi : i ≤ 5) (hw : M 42 0 = (i : Int)) (hP : ∀ k, k < i → M 44 k = c (ps k + 1) - 48) (hT : (rwd c nn pl ps i p).1 = true → (rwd c nn pl ps i p).2 = p + 4 → ∀ M2 : Nat → Nat → Int, (∀ q2 k2, ¬ (q2 = 41 ∧ k2 = 3) → ¬ (q2 = 42 ∧ k2 = 0) → ¬ (43 ≤ q2 ∧ q2 ≤ 47 ∧ k2 = i) → M2 q2 k2 = M q2 k2) → M2 41 3 = ((p + 4 : Nat) : Int) → M2 42 0 = ((i + 1 : Nat) : Int) → M2 43 i = wKd c (pup ps i p) i → M2 44 i = wPl c (pup ps i p) i → M2 45 i = wVl c (pup ps i p) i → M2 46 i = wWt c (pup ps i p) i → M2 47 i = wNx c (pup ps i p) i → fig c nn 0 (pl - 1) (p + 1) → fig c nn 0 (if kl (c p) = 0 then (9 : Int) else 5) (p + 2) → fig c nn 0 (if kl (c p) = 0 then (9 : Int) else 5) (p + 3) → kl (c p) ≠ -9 → ly_at (fun k => c (ps k + 1) - 48) (c (p + 1) - 48) i 0 = -9 → Q (some (dz_i 1)) (sh, rf, M2)) (hF : (rwd c nn pl ps i p).1 = false → ∀ M2 : Nat → Nat → Int, (∀ q2 k2, ¬ (q2 = 41 ∧ k2 = 3) → ¬ (q2 = 42 ∧ k2 = 0) → ¬ (43 ≤ q2 ∧ q2 ≤ 47 ∧ k2 = i) → M2 q2 k2 = M q2 k2) → M2 41 3 = ((rwd c nn pl ps i p).2 : Int) → (rwd c nn pl ps i p).2 ≤ nn → Q (some (dz_i 0)) (sh, rf, M2)) : dz_E dz_pp xo (d + 4) 40 [dz_r 41, dz_i (i : Int)] (sh, rf, M) Q := by
  refine ⟨Nat.le_of_ble_eq_true rfl, ?_⟩
  have hc := dz_E_m dz_pp xo (d + 3)
  show dz_X (dz_E dz_pp xo (d + 3)) dz_pp xo (dz_pp 40) Q 0 [some (dz_r 41), some (dz_i (i : Int)), none, none, none, none] [] 0 0 (sh, rf, M)
  obtain ⟨c0, c1, c2, c3, c4, c5, c6, c7, c8, c9, c10, c11, c12, c13, c14, c15, c16, c17, c18, c19, c20, c21, c22, c23, c24, c25, c26, c27, c28, c29, c30, c31, c32, c33, c34, c35, c36⟩ := id hl
  have r0 : sh[41]? = some (.inl 3) := c22
  have r1 : rf 41 0 = 42 + 1 := c23
  have r2 : sh[42]? = some (.inl 1) := c24.1
  have r3 : rf 42 6 = 43 + 1 := c24.2.1
  have r4 : sh[43]? = some (.inr (0, 6)) := c24.2.2.1
  have r5 : rf 42 7 = 44 + 1 := c24.2.2.2.1
  have r6 : sh[44]? = some (.inr (0, 6)) := c24.2.2.2.2.1
  have r7 : rf 42 8 = 45 + 1 := c24.2.2.2.2.2.1
  have r8 : sh[45]? = some (.inr (0, 6)) := c24.2.2.2.2.2.2.1
  have r9 : rf 42 9 = 46 + 1 := c24.2.2.2.2.2.2.2.1
  have r10 : sh[46]? = some (.inr (0, 6)) := c24.2.2.2.2.2.2.2.2.1
  have r11 : rf 42 10 = 47 + 1 := c24.2.2.2.2.2.2.2.2.2.1
  have r12 : sh[47]? = some (.inr (0, 6)) := c24.2.2.2.2.2.2.2.2.2.2.1
  have r13 := c10 tx htx
  have t21 : ∀ (N : Nat → Nat → Int) (k : Int), kl (c p) = k → k ≠ -9 → (∀ q2 k2, ¬ (q2 = 41 ∧ k2 = 3) → ¬ (q2 = 44 ∧ k2 = i) → N q2 k2 = M q2 k2) → N 41 3 = ((p + 2 : Nat) : Int) → N 44 i = c (p + 1) - 48 → fig c nn 0 (pl - 1) (p + 1) → ly_at (fun k => c (ps k + 1) - 48) (c (p + 1) - 48) i 0 = -9 → dz_X (dz_E dz_pp xo (d + 3)) dz_pp xo (dz_pp 40) Q 21 [some (dz_r 41), some (dz_i (i : Int)), some (dz_i k), none, none, none] [] 0 0 (sh, rf, N) := by
    intro N k hk hk9 n1 n2 n3 f1 f2
    have hkin := kl_in (c p)
    have ep : pup ps i p i = p := if_pos rfl
    have eK : wKd c (pup ps i p) i = kl (c p) := by unfold wKd; rw [ep]
    have eP : wPl c (pup ps i p) i = c (p + 1) - 48 := by unfold wPl; rw [ep]
    have eV : wVl c (pup ps i p) i = if kl (c p) = 0 then 10 * (c (p + 2) - 48) + (c (p + 3) - 48) else 0 := by unfold wVl; rw [ep]
    have eW : wWt c (pup ps i p) i = if kl (c p) = 0 then 0 else c (p + 2) - 48 := by unfold wWt; rw [ep]
    have eN : wNx c (pup ps i p) i = if kl (c p) = 0 then 0 else c (p + 3) - 48 := by unfold wNx; rw [ep]
    refine xr_iloadn hc rfl rfl ?_
    refine xr_if_ne hc rfl (t := 30) rfl (fun b22 => ?_) (fun b22 => ?_)
    · first
      | (exfalso; omega)
      | (skip
         refine xr_iconst hc rfl ?_
         refine xr_istore3 hc rfl rfl ?_
         have ehi : (if kl (c p) = 0 then (9 : Int) else 5) = 5 := by first | rw [if_pos (by omega)] | rw [if_neg (by omega)]
         refine xr_aloadn hc rfl rfl ?_
         refine xr_iconst hc rfl ?_
         refine xr_iloadn hc rfl rfl ?_
         refine xr_callv2 hc rfl (by first | assumption | rfl) rfl rfl rfl (Nat.le_of_ble_eq_true rfl) (Nat.zero_le _) (Nat.zero_le _) ?_
         refine S_readFigure (tx := tx) (nn := nn) (p := p + 2) (c := c) hl htx hrf hn (fun k hk => by rw [n1 _ _ (by omega) (by omega)]; exact hc2 k hk) (by rw [n1 _ _ (by omega) (by omega)]; exact h2) n2 (by have z := f1.1; omega) (fun f3 N2 y1 y2 => ?_) (fun f3 => ?_)
         all_goals rw [← ehi] at f3
         · refine xk_1 ?_
           refine xr_istore4 hc rfl rfl ?_
           refine xr_iload hc rfl rfl ?_
           refine xr_bipush hc rfl ?_
           refine xr_icmp_ne hc rfl (t := 52) rfl (fun b44 => ?_) (fun b44 => ?_)
           · first
             | (exfalso; omega)
             | (skip
                refine xr_aloadn hc rfl rfl ?_
                refine xr_iconst hc rfl ?_
                refine xr_iloadn hc rfl rfl ?_
                refine xr_callv2 hc rfl (by first | assumption | rfl) rfl rfl rfl (Nat.le_of_ble_eq_true rfl) (Nat.zero_le _) (Nat.zero_le _) ?_
                refine S_readFigure (tx := tx) (nn := nn) (p := p + 3) (c := c) hl htx hrf hn (fun k hk => by rw [y1 _ _ (by omega), n1 _ _ (by omega) (by omega)]; exact hc2 k hk) (by rw [y1 _ _ (by omega), n1 _ _ (by omega) (by omega)]; exact h2) y2 (by have z := f3.1; omega) (fun f4 N3 w1 w2 => ?_) (fun f4 => ?_)
                all_goals rw [← ehi] at f4
                · refine xk_1 ?_
                  refine xr_istore5 hc rfl rfl ?_
                  refine xr_iload hc rfl rfl ?_
                  refine xr_bipush hc rfl ?_
                  refine xr_icmp_ne hc rfl (t := 69) rfl (fun b64 => ?_) (fun b64 => ?_)
                  · first
                    | (exfalso; omega)
                    | (skip
                       refine xr_aloadn hc rfl rfl ?_
                       refine xr_getfr hc rfl rfl (by first | assumption | rfl) (by first | assumption | rfl) ?_
                       refine xr_getfr hc rfl rfl (by first | assumption | rfl) (by first | assumption | rfl) ?_
                       refine xr_iloadn hc rfl rfl ?_
                       refine xr_iloadn hc rfl rfl ?_
                       refine xr_iastore hc rfl (by first | assumption | rfl) (by first | omega | (unfold dz_w; omega)) (by first | omega | (unfold dz_w; omega)) ?_
                       rw [Int.toNat_natCast]
                       refine xr_aloadn hc rfl rfl ?_
                       refine xr_getfr hc rfl rfl (by first | assumption | rfl) (by first | assumption | rfl) ?_
                       refine xr_getfr hc rfl rfl (by first | assumption | rfl) (by first | assumption | rfl) ?_
                       refine xr_iloadn hc rfl rfl ?_
                       refine xr_iloadn hc rfl rfl ?_
                       refine xr_if_ne hc rfl (t := 102) rfl (fun b88 => ?_) (fun b88 => ?_)
                       · first
                         | (exfalso; omega)
                         | (skip
                            refine xr_iconst hc rfl ?_
                            refine xr_iastore hc rfl (by first | assumption | rfl) (by first | omega | (unfold dz_w; omega)) (by first | omega | (unfold dz_w; omega)) ?_
                            rw [Int.toNat_natCast]
                            refine xr_aloadn hc rfl rfl ?_
                            refine xr_getfr hc rfl rfl (by first | assumption | rfl) (by first | assumption | rfl) ?_
                            refine xr_getfr hc rfl rfl (by first | assumption | rfl) (by first | assumption | rfl) ?_
                            refine xr_iloadn hc rfl rfl ?_
                            refine xr_iloadn hc rfl rfl ?_
                            refine xr_if_ne hc rfl (t := 120) rfl (fun b113 => ?_) (fun b113 => ?_)
                            · first
                              | (exfalso; omega)
                              | (skip
                                 refine xr_iload hc rfl rfl ?_
                                 refine xr_iastore hc rfl (by first | assumption | rfl) (by first | omega | (unfold dz_w; omega)) (by first | omega | (unfold dz_w; omega)) ?_
                                 rw [Int.toNat_natCast]
                                 refine xr_aloadn hc rfl rfl ?_
                                 refine xr_getfr hc rfl rfl (by first | assumption | rfl) (by first | assumption | rfl) ?_
                                 refine xr_getfr hc rfl rfl (by first | assumption | rfl) (by first | assumption | rfl) ?_
                                 refine xr_iloadn hc rfl rfl ?_
                                 refine xr_iloadn hc rfl rfl ?_
                                 refine xr_if_ne hc rfl (t := 139) rfl (fun b132 => ?_) (fun b132 => ?_)
                                 · first
                                   | (exfalso; omega)
                                   | (skip
                                      refine xr_iload hc rfl rfl ?_
                                      refine xr_iastore hc rfl (by first | assumption | rfl) (by first | omega | (unfold dz_w; omega)) (by first | omega | (unfold dz_w; omega)) ?_
                                      rw [Int.toNat_natCast]
                                      refine xr_aloadn hc rfl rfl ?_
                                      refine xr_getfr hc rfl rfl (by first | assumption | rfl) (by first | assumption | rfl) ?_
                                      refine xr_iloadn hc rfl rfl ?_
                                      refine xr_iconst hc rfl ?_
                                      refine xr_iaddz hc rfl (by first | exact dz_wid (by first | omega | (unfold dz_w; omega)) (by first | omega | (unfold dz_w; omega)) | rfl) ?_
                                      refine xr_putfi hc rfl rfl (by first | assumption | rfl) ?_
                                      refine xr_iconst hc rfl ?_
                                      refine xr_zreturn hc rfl rfl (Nat.zero_le _) (Nat.zero_le _) (by first | exact Or.inl rfl | exact Or.inr rfl | assumption) ?_
                                      have hr : rwd c nn pl ps i p = (true, p + 4) := by
                                        unfold rwd
                                        rw [if_neg (by omega), if_neg (fun z => z f1), if_neg (fun z => z f2), if_neg (fun z => z f3), if_neg (fun z => z f4)]
                                      refine hT (by rw [hr]) (by rw [hr]) _ (fun q2 k2 v1 v2 v3 => ?_) ?_ ?_ ?_ ?_ ?_ ?_ ?_ f1 f3 f4 (by omega) f2
                                      · rw [dz_up_o (by omega), dz_up_o (by omega), dz_up_o (by omega), dz_up_o (by omega), dz_up_o (by omega)]
                                        rw [w1 _ _ v1, y1 _ _ v1, n1 _ _ v1 (by omega)]
                                      · repeat (first | rw [dz_up_ne (by omega)])
                                        exact w2
                                      · rw [dz_up_eq]
                                        omega
                                      · repeat (first | rw [dz_up_ne (by omega)])
                                        rw [dz_up_eq, eK, hk]
                                      · repeat (first | rw [dz_up_ne (by omega)])
                                        rw [w1 _ _ (by omega), y1 _ _ (by omega), n3, eP]
                                      · repeat (first | rw [dz_up_ne (by omega)])
                                        rw [dz_up_eq, eV]
                                        first
                                          | rw [if_pos (by omega)]
                                          | rw [if_neg (by omega)]
                                      · repeat (first | rw [dz_up_ne (by omega)])
                                        rw [dz_up_eq, eW]
                                        first
                                          | rw [if_pos (by omega)]
                                          | rw [if_neg (by omega)]
                                      · repeat (first | rw [dz_up_ne (by omega)])
                                        rw [dz_up_eq, eN]
                                        first
                                          | rw [if_pos (by omega)]
                                          | rw [if_neg (by omega)])
                                 · first
                                   | (exfalso; omega)
                                   | (skip
                                      refine xr_iconst hc rfl ?_
                                      refine xr_goto hc rfl (t := 141) rfl ?_
                                      refine xr_iastore hc rfl (by first | assumption | rfl) (by first | omega | (unfold dz_w; omega)) (by first | omega | (unfold dz_w; omega)) ?_
                                      rw [Int.toNat_natCast]
                                      refine xr_aloadn hc rfl rfl ?_
                                      refine xr_getfr hc rfl rfl (by first | assumption | rfl) (by first | assumption | rfl) ?_
                                      refine xr_iloadn hc rfl rfl ?_
                                      refine xr_iconst hc rfl ?_
                                      refine xr_iaddz hc rfl (by first | exact dz_wid (by first | omega | (unfold dz_w; omega)) (by first | omega | (unfold dz_w; omega)) | rfl) ?_
                                      refine xr_putfi hc rfl rfl (by first | assumption | rfl) ?_
                                      refine xr_iconst hc rfl ?_
                                      refine xr_zreturn hc rfl rfl (Nat.zero_le _) (Nat.zero_le _) (by first | exact Or.inl rfl | exact Or.inr rfl | assumption) ?_
                                      have hr : rwd c nn pl ps i p = (true, p + 4) := by
                                        unfold rwd
                                        rw [if_neg (by omega), if_neg (fun z => z f1), if_neg (fun z => z f2), if_neg (fun z => z f3), if_neg (fun z => z f4)]
                                      refine hT (by rw [hr]) (by rw [hr]) _ (fun q2 k2 v1 v2 v3 => ?_) ?_ ?_ ?_ ?_ ?_ ?_ ?_ f1 f3 f4 (by omega) f2
                                      · rw [dz_up_o (by omega), dz_up_o (by omega), dz_up_o (by omega), dz_up_o (by omega), dz_up_o (by omega)]
                                        rw [w1 _ _ v1, y1 _ _ v1, n1 _ _ v1 (by omega)]
                                      · repeat (first | rw [dz_up_ne (by omega)])
                                        exact w2
                                      · rw [dz_up_eq]
                                        omega
                                      · repeat (first | rw [dz_up_ne (by omega)])
                                        rw [dz_up_eq, eK, hk]
                                      · repeat (first | rw [dz_up_ne (by omega)])
                                        rw [w1 _ _ (by omega), y1 _ _ (by omega), n3, eP]
                                      · repeat (first | rw [dz_up_ne (by omega)])
                                        rw [dz_up_eq, eV]
                                        first
                                          | rw [if_pos (by omega)]
                                          | rw [if_neg (by omega)]
                                      · repeat (first | rw [dz_up_ne (by omega)])
                                        rw [dz_up_eq, eW]
                                        first
                                          | rw [if_pos (by omega)]
                                          | rw [if_neg (by omega)]
                                      · repeat (first | rw [dz_up_ne (by omega)])
                                        rw [dz_up_eq, eN]
                                        first
                                          | rw [if_pos (by omega)]
                                          | rw [if_neg (by omega)]))
                            · first
                              | (exfalso; omega)
                              | (skip
                                 refine xr_iconst hc rfl ?_
                                 refine xr_goto hc rfl (t := 122) rfl ?_
                                 refine xr_iastore hc rfl (by first | assumption | rfl) (by first | omega | (unfold dz_w; omega)) (by first | omega | (unfold dz_w; omega)) ?_
                                 rw [Int.toNat_natCast]
                                 refine xr_aloadn hc rfl rfl ?_
                                 refine xr_getfr hc rfl rfl (by first | assumption | rfl) (by first | assumption | rfl) ?_
                                 refine xr_getfr hc rfl rfl (by first | assumption | rfl) (by first | assumption | rfl) ?_
                                 refine xr_iloadn hc rfl rfl ?_
                                 refine xr_iloadn hc rfl rfl ?_
                                 refine xr_if_ne hc rfl (t := 139) rfl (fun b132 => ?_) (fun b132 => ?_)
                                 · first
                                   | (exfalso; omega)
                                   | (skip
                                      refine xr_iload hc rfl rfl ?_
                                      refine xr_iastore hc rfl (by first | assumption | rfl) (by first | omega | (unfold dz_w; omega)) (by first | omega | (unfold dz_w; omega)) ?_
                                      rw [Int.toNat_natCast]
                                      refine xr_aloadn hc rfl rfl ?_
                                      refine xr_getfr hc rfl rfl (by first | assumption | rfl) (by first | assumption | rfl) ?_
                                      refine xr_iloadn hc rfl rfl ?_
                                      refine xr_iconst hc rfl ?_
                                      refine xr_iaddz hc rfl (by first | exact dz_wid (by first | omega | (unfold dz_w; omega)) (by first | omega | (unfold dz_w; omega)) | rfl) ?_
                                      refine xr_putfi hc rfl rfl (by first | assumption | rfl) ?_
                                      refine xr_iconst hc rfl ?_
                                      refine xr_zreturn hc rfl rfl (Nat.zero_le _) (Nat.zero_le _) (by first | exact Or.inl rfl | exact Or.inr rfl | assumption) ?_
                                      have hr : rwd c nn pl ps i p = (true, p + 4) := by
                                        unfold rwd
                                        rw [if_neg (by omega), if_neg (fun z => z f1), if_neg (fun z => z f2), if_neg (fun z => z f3), if_neg (fun z => z f4)]
                                      refine hT (by rw [hr]) (by rw [hr]) _ (fun q2 k2 v1 v2 v3 => ?_) ?_ ?_ ?_ ?_ ?_ ?_ ?_ f1 f3 f4 (by omega) f2
                                      · rw [dz_up_o (by omega), dz_up_o (by omega), dz_up_o (by omega), dz_up_o (by omega), dz_up_o (by omega)]
                                        rw [w1 _ _ v1, y1 _ _ v1, n1 _ _ v1 (by omega)]
                                      · repeat (first | rw [dz_up_ne (by omega)])
                                        exact w2
                                      · rw [dz_up_eq]
                                        omega
                                      · repeat (first | rw [dz_up_ne (by omega)])
                                        rw [dz_up_eq, eK, hk]
                                      · repeat (first | rw [dz_up_ne (by omega)])
                                        rw [w1 _ _ (by omega), y1 _ _ (by omega), n3, eP]
                                      · repeat (first | rw [dz_up_ne (by omega)])
                                        rw [dz_up_eq, eV]
                                        first
                                          | rw [if_pos (by omega)]
                                          | rw [if_neg (by omega)]
                                      · repeat (first | rw [dz_up_ne (by omega)])
                                        rw [dz_up_eq, eW]
                                        first
                                          | rw [if_pos (by omega)]
                                          | rw [if_neg (by omega)]
                                      · repeat (first | rw [dz_up_ne (by omega)])
                                        rw [dz_up_eq, eN]
                                        first
                                          | rw [if_pos (by omega)]
                                          | rw [if_neg (by omega)])
                                 · first
                                   | (exfalso; omega)
                                   | (skip
                                      refine xr_iconst hc rfl ?_
                                      refine xr_goto hc rfl (t := 141) rfl ?_
                                      refine xr_iastore hc rfl (by first | assumption | rfl) (by first | omega | (unfold dz_w; omega)) (by first | omega | (unfold dz_w; omega)) ?_
                                      rw [Int.toNat_natCast]
                                      refine xr_aloadn hc rfl rfl ?_
                                      refine xr_getfr hc rfl rfl (by first | assumption | rfl) (by first | assumption | rfl) ?_
                                      refine xr_iloadn hc rfl rfl ?_
                                      refine xr_iconst hc rfl ?_
                                      refine xr_iaddz hc rfl (by first | exact dz_wid (by first | omega | (unfold dz_w; omega)) (by first | omega | (unfold dz_w; omega)) | rfl) ?_
                                      refine xr_putfi hc rfl rfl (by first | assumption | rfl) ?_
                                      refine xr_iconst hc rfl ?_
                                      refine xr_zreturn hc rfl rfl (Nat.zero_le _) (Nat.zero_le _) (by first | exact Or.inl rfl | exact Or.inr rfl | assumption) ?_
                                      have hr : rwd c nn pl ps i p = (true, p + 4) := by
                                        unfold rwd
                                        rw [if_neg (by omega), if_neg (fun z => z f1), if_neg (fun z => z f2), if_neg (fun z => z f3), if_neg (fun z => z f4)]
                                      refine hT (by rw [hr]) (by rw [hr]) _ (fun q2 k2 v1 v2 v3 => ?_) ?_ ?_ ?_ ?_ ?_ ?_ ?_ f1 f3 f4 (by omega) f2
                                      · rw [dz_up_o (by omega), dz_up_o (by omega), dz_up_o (by omega), dz_up_o (by omega), dz_up_o (by omega)]
                                        rw [w1 _ _ v1, y1 _ _ v1, n1 _ _ v1 (by omega)]
                                      · repeat (first | rw [dz_up_ne (by omega)])
                                        exact w2
                                      · rw [dz_up_eq]
                                        omega
                                      · repeat (first | rw [dz_up_ne (by omega)])
                                        rw [dz_up_eq, eK, hk]
                                      · repeat (first | rw [dz_up_ne (by omega)])
                                        rw [w1 _ _ (by omega), y1 _ _ (by omega), n3, eP]
                                      · repeat (first | rw [dz_up_ne (by omega)])
                                        rw [dz_up_eq, eV]
                                        first
                                          | rw [if_pos (by omega)]
                                          | rw [if_neg (by omega)]
                                      · repeat (first | rw [dz_up_ne (by omega)])
                                        rw [dz_up_eq, eW]
                                        first
                                          | rw [if_pos (by omega)]
                                          | rw [if_neg (by omega)]
                                      · repeat (first | rw [dz_up_ne (by omega)])
                                        rw [dz_up_eq, eN]
                                        first
                                          | rw [if_pos (by omega)]
                                          | rw [if_neg (by omega)])))
                       · first
                         | (exfalso; omega)
                         | (skip
                            refine xr_bipush hc rfl ?_
                            refine xr_iload hc rfl rfl ?_
                            refine xr_imulz hc rfl (by first | exact dz_wid (by first | omega | (unfold dz_w; omega)) (by first | omega | (unfold dz_w; omega)) | rfl) ?_
                            refine xr_iload hc rfl rfl ?_
                            refine xr_iaddz hc rfl (by first | exact dz_wid (by first | omega | (unfold dz_w; omega)) (by first | omega | (unfold dz_w; omega)) | rfl) ?_
                            refine xr_goto hc rfl (t := 103) rfl ?_
                            refine xr_iastore hc rfl (by first | assumption | rfl) (by first | omega | (unfold dz_w; omega)) (by first | omega | (unfold dz_w; omega)) ?_
                            rw [Int.toNat_natCast]
                            refine xr_aloadn hc rfl rfl ?_
                            refine xr_getfr hc rfl rfl (by first | assumption | rfl) (by first | assumption | rfl) ?_
                            refine xr_getfr hc rfl rfl (by first | assumption | rfl) (by first | assumption | rfl) ?_
                            refine xr_iloadn hc rfl rfl ?_
                            refine xr_iloadn hc rfl rfl ?_
                            refine xr_if_ne hc rfl (t := 120) rfl (fun b113 => ?_) (fun b113 => ?_)
                            · first
                              | (exfalso; omega)
                              | (skip
                                 refine xr_iload hc rfl rfl ?_
                                 refine xr_iastore hc rfl (by first | assumption | rfl) (by first | omega | (unfold dz_w; omega)) (by first | omega | (unfold dz_w; omega)) ?_
                                 rw [Int.toNat_natCast]
                                 refine xr_aloadn hc rfl rfl ?_
                                 refine xr_getfr hc rfl rfl (by first | assumption | rfl) (by first | assumption | rfl) ?_
                                 refine xr_getfr hc rfl rfl (by first | assumption | rfl) (by first | assumption | rfl) ?_
                                 refine xr_iloadn hc rfl rfl ?_
                                 refine xr_iloadn hc rfl rfl ?_
                                 refine xr_if_ne hc rfl (t := 139) rfl (fun b132 => ?_) (fun b132 => ?_)
                                 · first
                                   | (exfalso; omega)
                                   | (skip
                                      refine xr_iload hc rfl rfl ?_
                                      refine xr_iastore hc rfl (by first | assumption | rfl) (by first | omega | (unfold dz_w; omega)) (by first | omega | (unfold dz_w; omega)) ?_
                                      rw [Int.toNat_natCast]
                                      refine xr_aloadn hc rfl rfl ?_
                                      refine xr_getfr hc rfl rfl (by first | assumption | rfl) (by first | assumption | rfl) ?_
                                      refine xr_iloadn hc rfl rfl ?_
                                      refine xr_iconst hc rfl ?_
                                      refine xr_iaddz hc rfl (by first | exact dz_wid (by first | omega | (unfold dz_w; omega)) (by first | omega | (unfold dz_w; omega)) | rfl) ?_
                                      refine xr_putfi hc rfl rfl (by first | assumption | rfl) ?_
                                      refine xr_iconst hc rfl ?_
                                      refine xr_zreturn hc rfl rfl (Nat.zero_le _) (Nat.zero_le _) (by first | exact Or.inl rfl | exact Or.inr rfl | assumption) ?_
                                      have hr : rwd c nn pl ps i p = (true, p + 4) := by
                                        unfold rwd
                                        rw [if_neg (by omega), if_neg (fun z => z f1), if_neg (fun z => z f2), if_neg (fun z => z f3), if_neg (fun z => z f4)]
                                      refine hT (by rw [hr]) (by rw [hr]) _ (fun q2 k2 v1 v2 v3 => ?_) ?_ ?_ ?_ ?_ ?_ ?_ ?_ f1 f3 f4 (by omega) f2
                                      · rw [dz_up_o (by omega), dz_up_o (by omega), dz_up_o (by omega), dz_up_o (by omega), dz_up_o (by omega)]
                                        rw [w1 _ _ v1, y1 _ _ v1, n1 _ _ v1 (by omega)]
                                      · repeat (first | rw [dz_up_ne (by omega)])
                                        exact w2
                                      · rw [dz_up_eq]
                                        omega
                                      · repeat (first | rw [dz_up_ne (by omega)])
                                        rw [dz_up_eq, eK, hk]
                                      · repeat (first | rw [dz_up_ne (by omega)])
                                        rw [w1 _ _ (by omega), y1 _ _ (by omega), n3, eP]
                                      · repeat (first | rw [dz_up_ne (by omega)])
                                        rw [dz_up_eq, eV]
                                        first
                                          | rw [if_pos (by omega)]
                                          | rw [if_neg (by omega)]
                                      · repeat (first | rw [dz_up_ne (by omega)])
                                        rw [dz_up_eq, eW]
                                        first
                                          | rw [if_pos (by omega)]
                                          | rw [if_neg (by omega)]
                                      · repeat (first | rw [dz_up_ne (by omega)])
                                        rw [dz_up_eq, eN]
                                        first
                                          | rw [if_pos (by omega)]
                                          | rw [if_neg (by omega)])
                                 · first
                                   | (exfalso; omega)
                                   | (skip
                                      refine xr_iconst hc rfl ?_
                                      refine xr_goto hc rfl (t := 141) rfl ?_
                                      refine xr_iastore hc rfl (by first | assumption | rfl) (by first | omega | (unfold dz_w; omega)) (by first | omega | (unfold dz_w; omega)) ?_
                                      rw [Int.toNat_natCast]
                                      refine xr_aloadn hc rfl rfl ?_
                                      refine xr_getfr hc rfl rfl (by first | assumption | rfl) (by first | assumption | rfl) ?_
                                      refine xr_iloadn hc rfl rfl ?_
                                      refine xr_iconst hc rfl ?_
                                      refine xr_iaddz hc rfl (by first | exact dz_wid (by first | omega | (unfold dz_w; omega)) (by first | omega | (unfold dz_w; omega)) | rfl) ?_
                                      refine xr_putfi hc rfl rfl (by first | assumption | rfl) ?_
                                      refine xr_iconst hc rfl ?_
                                      refine xr_zreturn hc rfl rfl (Nat.zero_le _) (Nat.zero_le _) (by first | exact Or.inl rfl | exact Or.inr rfl | assumption) ?_
                                      have hr : rwd c nn pl ps i p = (true, p + 4) := by
                                        unfold rwd
                                        rw [if_neg (by omega), if_neg (fun z => z f1), if_neg (fun z => z f2), if_neg (fun z => z f3), if_neg (fun z => z f4)]
                                      refine hT (by rw [hr]) (by rw [hr]) _ (fun q2 k2 v1 v2 v3 => ?_) ?_ ?_ ?_ ?_ ?_ ?_ ?_ f1 f3 f4 (by omega) f2
                                      · rw [dz_up_o (by omega), dz_up_o (by omega), dz_up_o (by omega), dz_up_o (by omega), dz_up_o (by omega)]
                                        rw [w1 _ _ v1, y1 _ _ v1, n1 _ _ v1 (by omega)]
                                      · repeat (first | rw [dz_up_ne (by omega)])
                                        exact w2
                                      · rw [dz_up_eq]
                                        omega
                                      · repeat (first | rw [dz_up_ne (by omega)])
                                        rw [dz_up_eq, eK, hk]
                                      · repeat (first | rw [dz_up_ne (by omega)])
                                        rw [w1 _ _ (by omega), y1 _ _ (by omega), n3, eP]
                                      · repeat (first | rw [dz_up_ne (by omega)])
                                        rw [dz_up_eq, eV]
                                        first
                                          | rw [if_pos (by omega)]
                                          | rw [if_neg (by omega)]
                                      · repeat (first | rw [dz_up_ne (by omega)])
                                        rw [dz_up_eq, eW]
                                        first
                                          | rw [if_pos (by omega)]
                                          | rw [if_neg (by omega)]
                                      · repeat (first | rw [dz_up_ne (by omega)])
                                        rw [dz_up_eq, eN]
                                        first
                                          | rw [if_pos (by omega)]
                                          | rw [if_neg (by omega)]))
                            · first
                              | (exfalso; omega)
                              | (skip
                                 refine xr_iconst hc rfl ?_
                                 refine xr_goto hc rfl (t := 122) rfl ?_
                                 refine xr_iastore hc rfl (by first | assumption | rfl) (by first | omega | (unfold dz_w; omega)) (by first | omega | (unfold dz_w; omega)) ?_
                                 rw [Int.toNat_natCast]
                                 refine xr_aloadn hc rfl rfl ?_
                                 refine xr_getfr hc rfl rfl (by first | assumption | rfl) (by first | assumption | rfl) ?_
                                 refine xr_getfr hc rfl rfl (by first | assumption | rfl) (by first | assumption | rfl) ?_
                                 refine xr_iloadn hc rfl rfl ?_
                                 refine xr_iloadn hc rfl rfl ?_
                                 refine xr_if_ne hc rfl (t := 139) rfl (fun b132 => ?_) (fun b132 => ?_)
                                 · first
                                   | (exfalso; omega)
                                   | (skip
                                      refine xr_iload hc rfl rfl ?_
                                      refine xr_iastore hc rfl (by first | assumption | rfl) (by first | omega | (unfold dz_w; omega)) (by first | omega | (unfold dz_w; omega)) ?_
                                      rw [Int.toNat_natCast]
                                      refine xr_aloadn hc rfl rfl ?_
                                      refine xr_getfr hc rfl rfl (by first | assumption | rfl) (by first | assumption | rfl) ?_
                                      refine xr_iloadn hc rfl rfl ?_
                                      refine xr_iconst hc rfl ?_
                                      refine xr_iaddz hc rfl (by first | exact dz_wid (by first | omega | (unfold dz_w; omega)) (by first | omega | (unfold dz_w; omega)) | rfl) ?_
                                      refine xr_putfi hc rfl rfl (by first | assumption | rfl) ?_
                                      refine xr_iconst hc rfl ?_
                                      refine xr_zreturn hc rfl rfl (Nat.zero_le _) (Nat.zero_le _) (by first | exact Or.inl rfl | exact Or.inr rfl | assumption) ?_
                                      have hr : rwd c nn pl ps i p = (true, p + 4) := by
                                        unfold rwd
                                        rw [if_neg (by omega), if_neg (fun z => z f1), if_neg (fun z => z f2), if_neg (fun z => z f3), if_neg (fun z => z f4)]
                                      refine hT (by rw [hr]) (by rw [hr]) _ (fun q2 k2 v1 v2 v3 => ?_) ?_ ?_ ?_ ?_ ?_ ?_ ?_ f1 f3 f4 (by omega) f2
                                      · rw [dz_up_o (by omega), dz_up_o (by omega), dz_up_o (by omega), dz_up_o (by omega), dz_up_o (by omega)]
                                        rw [w1 _ _ v1, y1 _ _ v1, n1 _ _ v1 (by omega)]
                                      · repeat (first | rw [dz_up_ne (by omega)])
                                        exact w2
                                      · rw [dz_up_eq]
                                        omega
                                      · repeat (first | rw [dz_up_ne (by omega)])
                                        rw [dz_up_eq, eK, hk]
                                      · repeat (first | rw [dz_up_ne (by omega)])
                                        rw [w1 _ _ (by omega), y1 _ _ (by omega), n3, eP]
                                      · repeat (first | rw [dz_up_ne (by omega)])
                                        rw [dz_up_eq, eV]
                                        first
                                          | rw [if_pos (by omega)]
                                          | rw [if_neg (by omega)]
                                      · repeat (first | rw [dz_up_ne (by omega)])
                                        rw [dz_up_eq, eW]
                                        first
                                          | rw [if_pos (by omega)]
                                          | rw [if_neg (by omega)]
                                      · repeat (first | rw [dz_up_ne (by omega)])
                                        rw [dz_up_eq, eN]
                                        first
                                          | rw [if_pos (by omega)]
                                          | rw [if_neg (by omega)])
                                 · first
                                   | (exfalso; omega)
                                   | (skip
                                      refine xr_iconst hc rfl ?_
                                      refine xr_goto hc rfl (t := 141) rfl ?_
                                      refine xr_iastore hc rfl (by first | assumption | rfl) (by first | omega | (unfold dz_w; omega)) (by first | omega | (unfold dz_w; omega)) ?_
                                      rw [Int.toNat_natCast]
                                      refine xr_aloadn hc rfl rfl ?_
                                      refine xr_getfr hc rfl rfl (by first | assumption | rfl) (by first | assumption | rfl) ?_
                                      refine xr_iloadn hc rfl rfl ?_
                                      refine xr_iconst hc rfl ?_
                                      refine xr_iaddz hc rfl (by first | exact dz_wid (by first | omega | (unfold dz_w; omega)) (by first | omega | (unfold dz_w; omega)) | rfl) ?_
                                      refine xr_putfi hc rfl rfl (by first | assumption | rfl) ?_
                                      refine xr_iconst hc rfl ?_
                                      refine xr_zreturn hc rfl rfl (Nat.zero_le _) (Nat.zero_le _) (by first | exact Or.inl rfl | exact Or.inr rfl | assumption) ?_
                                      have hr : rwd c nn pl ps i p = (true, p + 4) := by
                                        unfold rwd
                                        rw [if_neg (by omega), if_neg (fun z => z f1), if_neg (fun z => z f2), if_neg (fun z => z f3), if_neg (fun z => z f4)]
                                      refine hT (by rw [hr]) (by rw [hr]) _ (fun q2 k2 v1 v2 v3 => ?_) ?_ ?_ ?_ ?_ ?_ ?_ ?_ f1 f3 f4 (by omega) f2
                                      · rw [dz_up_o (by omega), dz_up_o (by omega), dz_up_o (by omega), dz_up_o (by omega), dz_up_o (by omega)]
                                        rw [w1 _ _ v1, y1 _ _ v1, n1 _ _ v1 (by omega)]
                                      · repeat (first | rw [dz_up_ne (by omega)])
                                        exact w2
                                      · rw [dz_up_eq]
                                        omega
                                      · repeat (first | rw [dz_up_ne (by omega)])
                                        rw [dz_up_eq, eK, hk]
                                      · repeat (first | rw [dz_up_ne (by omega)])
                                        rw [w1 _ _ (by omega), y1 _ _ (by omega), n3, eP]
                                      · repeat (first | rw [dz_up_ne (by omega)])
                                        rw [dz_up_eq, eV]
                                        first
                                          | rw [if_pos (by omega)]
                                          | rw [if_neg (by omega)]
                                      · repeat (first | rw [dz_up_ne (by omega)])
                                        rw [dz_up_eq, eW]
                                        first
                                          | rw [if_pos (by omega)]
                                          | rw [if_neg (by omega)]
                                      · repeat (first | rw [dz_up_ne (by omega)])
                                        rw [dz_up_eq, eN]
                                        first
                                          | rw [if_pos (by omega)]
                                          | rw [if_neg (by omega)]))))
                  · first
                    | (exfalso; omega)
                    | (skip
                       refine xr_iconst hc rfl ?_
                       refine xr_zreturn hc rfl rfl (Nat.zero_le _) (Nat.zero_le _) (by first | exact Or.inl rfl | exact Or.inr rfl | assumption) ?_
                       first
                         | (exfalso; omega)
                         | (have hr : rwd c nn pl ps i p = (false, p + 3) := by
                              unfold rwd
                              rw [if_neg (by omega), if_neg (fun z => z f1), if_neg (fun z => z f2), if_neg (fun z => z f3), if_pos f4]
                            refine hF (by rw [hr]) N2 (fun q2 k2 v1 v2 v3 => by rw [y1 _ _ v1, n1 _ _ v1 (by omega)]) (by rw [hr]; exact y2) (by rw [hr]; have z := f3.1; show p + 3 ≤ nn; omega))
                         | (have hr : rwd c nn pl ps i p = (false, p + 2) := by
                              unfold rwd
                              rw [if_neg (by omega), if_neg (fun z => z f1), if_neg (fun z => z f2), if_pos f3]
                            refine hF (by rw [hr]) N (fun q2 k2 v1 v2 v3 => by rw [n1 _ _ v1 (by omega)]) (by rw [hr]; exact n2) (by rw [hr]; have z := f1.1; show p + 2 ≤ nn; omega)))
                · refine xk_1 ?_
                  refine xr_istore5 hc rfl rfl ?_
                  refine xr_iload hc rfl rfl ?_
                  refine xr_bipush hc rfl ?_
                  refine xr_icmp_ne hc rfl (t := 69) rfl (fun b64 => ?_) (fun b64 => ?_)
                  · first
                    | (exfalso; omega)
                    | (skip
                       refine xr_aloadn hc rfl rfl ?_
                       refine xr_getfr hc rfl rfl (by first | assumption | rfl) (by first | assumption | rfl) ?_
                       refine xr_getfr hc rfl rfl (by first | assumption | rfl) (by first | assumption | rfl) ?_
                       refine xr_iloadn hc rfl rfl ?_
                       refine xr_iloadn hc rfl rfl ?_
                       refine xr_iastore hc rfl (by first | assumption | rfl) (by first | omega | (unfold dz_w; omega)) (by first | omega | (unfold dz_w; omega)) ?_
                       rw [Int.toNat_natCast]
                       refine xr_aloadn hc rfl rfl ?_
                       refine xr_getfr hc rfl rfl (by first | assumption | rfl) (by first | assumption | rfl) ?_
                       refine xr_getfr hc rfl rfl (by first | assumption | rfl) (by first | assumption | rfl) ?_
                       refine xr_iloadn hc rfl rfl ?_
                       refine xr_iloadn hc rfl rfl ?_
                       refine xr_if_ne hc rfl (t := 102) rfl (fun b88 => ?_) (fun b88 => ?_)
                       · first
                         | (exfalso; omega)
                         | (skip
                            refine xr_iconst hc rfl ?_
                            refine xr_iastore hc rfl (by first | assumption | rfl) (by first | omega | (unfold dz_w; omega)) (by first | omega | (unfold dz_w; omega)) ?_
                            rw [Int.toNat_natCast]
                            refine xr_aloadn hc rfl rfl ?_
                            refine xr_getfr hc rfl rfl (by first | assumption | rfl) (by first | assumption | rfl) ?_
                            refine xr_getfr hc rfl rfl (by first | assumption | rfl) (by first | assumption | rfl) ?_
                            refine xr_iloadn hc rfl rfl ?_
                            refine xr_iloadn hc rfl rfl ?_
                            refine xr_if_ne hc rfl (t := 120) rfl (fun b113 => ?_) (fun b113 => ?_)
                            · first
                              | (exfalso; omega)
                              | (skip
                                 refine xr_iload hc rfl rfl ?_
                                 refine xr_iastore hc rfl (by first | assumption | rfl) (by first | omega | (unfold dz_w; omega)) (by first | omega | (unfold dz_w; omega)) ?_
                                 rw [Int.toNat_natCast]
                                 refine xr_aloadn hc rfl rfl ?_
                                 refine xr_getfr hc rfl rfl (by first | assumption | rfl) (by first | assumption | rfl) ?_
                                 refine xr_getfr hc rfl rfl (by first | assumption | rfl) (by first | assumption | rfl) ?_
                                 refine xr_iloadn hc rfl rfl ?_
                                 refine xr_iloadn hc rfl rfl ?_
                                 refine xr_if_ne hc rfl (t := 139) rfl (fun b132 => ?_) (fun b132 => ?_)
                                 · first
                                   | (exfalso; omega)
                                   | (skip
                                      refine xr_iload hc rfl rfl ?_
                                      refine xr_iastore hc rfl (by first | assumption | rfl) (by first | omega | (unfold dz_w; omega)) (by first | omega | (unfold dz_w; omega)) ?_
                                      rw [Int.toNat_natCast]
                                      refine xr_aloadn hc rfl rfl ?_
                                      refine xr_getfr hc rfl rfl (by first | assumption | rfl) (by first | assumption | rfl) ?_
                                      refine xr_iloadn hc rfl rfl ?_
                                      refine xr_iconst hc rfl ?_
                                      refine xr_iaddz hc rfl (by first | exact dz_wid (by first | omega | (unfold dz_w; omega)) (by first | omega | (unfold dz_w; omega)) | rfl) ?_
                                      refine xr_putfi hc rfl rfl (by first | assumption | rfl) ?_
                                      refine xr_iconst hc rfl ?_
                                      refine xr_zreturn hc rfl rfl (Nat.zero_le _) (Nat.zero_le _) (by first | exact Or.inl rfl | exact Or.inr rfl | assumption) ?_
                                      have hr : rwd c nn pl ps i p = (true, p + 4) := by
                                        unfold rwd
                                        rw [if_neg (by omega), if_neg (fun z => z f1), if_neg (fun z => z f2), if_neg (fun z => z f3), if_neg (fun z => z f4)]
                                      refine hT (by rw [hr]) (by rw [hr]) _ (fun q2 k2 v1 v2 v3 => ?_) ?_ ?_ ?_ ?_ ?_ ?_ ?_ f1 f3 f4 (by omega) f2
                                      · rw [dz_up_o (by omega), dz_up_o (by omega), dz_up_o (by omega), dz_up_o (by omega), dz_up_o (by omega)]
                                        rw [w1 _ _ v1, y1 _ _ v1, n1 _ _ v1 (by omega)]
                                      · repeat (first | rw [dz_up_ne (by omega)])
                                        exact w2
                                      · rw [dz_up_eq]
                                        omega
                                      · repeat (first | rw [dz_up_ne (by omega)])
                                        rw [dz_up_eq, eK, hk]
                                      · repeat (first | rw [dz_up_ne (by omega)])
                                        rw [w1 _ _ (by omega), y1 _ _ (by omega), n3, eP]
                                      · repeat (first | rw [dz_up_ne (by omega)])
                                        rw [dz_up_eq, eV]
                                        first
                                          | rw [if_pos (by omega)]
                                          | rw [if_neg (by omega)]
                                      · repeat (first | rw [dz_up_ne (by omega)])
                                        rw [dz_up_eq, eW]
                                        first
                                          | rw [if_pos (by omega)]
                                          | rw [if_neg (by omega)]
                                      · repeat (first | rw [dz_up_ne (by omega)])
                                        rw [dz_up_eq, eN]
                                        first
                                          | rw [if_pos (by omega)]
                                          | rw [if_neg (by omega)])
                                 · first
                                   | (exfalso; omega)
                                   | (skip
                                      refine xr_iconst hc rfl ?_
                                      refine xr_goto hc rfl (t := 141) rfl ?_
                                      refine xr_iastore hc rfl (by first | assumption | rfl) (by first | omega | (unfold dz_w; omega)) (by first | omega | (unfold dz_w; omega)) ?_
                                      rw [Int.toNat_natCast]
                                      refine xr_aloadn hc rfl rfl ?_
                                      refine xr_getfr hc rfl rfl (by first | assumption | rfl) (by first | assumption | rfl) ?_
                                      refine xr_iloadn hc rfl rfl ?_
                                      refine xr_iconst hc rfl ?_
                                      refine xr_iaddz hc rfl (by first | exact dz_wid (by first | omega | (unfold dz_w; omega)) (by first | omega | (unfold dz_w; omega)) | rfl) ?_
                                      refine xr_putfi hc rfl rfl (by first | assumption | rfl) ?_
                                      refine xr_iconst hc rfl ?_
                                      refine xr_zreturn hc rfl rfl (Nat.zero_le _) (Nat.zero_le _) (by first | exact Or.inl rfl | exact Or.inr rfl | assumption) ?_
                                      have hr : rwd c nn pl ps i p = (true, p + 4) := by
                                        unfold rwd
                                        rw [if_neg (by omega), if_neg (fun z => z f1), if_neg (fun z => z f2), if_neg (fun z => z f3), if_neg (fun z => z f4)]
                                      refine hT (by rw [hr]) (by rw [hr]) _ (fun q2 k2 v1 v2 v3 => ?_) ?_ ?_ ?_ ?_ ?_ ?_ ?_ f1 f3 f4 (by omega) f2
                                      · rw [dz_up_o (by omega), dz_up_o (by omega), dz_up_o (by omega), dz_up_o (by omega), dz_up_o (by omega)]
                                        rw [w1 _ _ v1, y1 _ _ v1, n1 _ _ v1 (by omega)]
                                      · repeat (first | rw [dz_up_ne (by omega)])
                                        exact w2
                                      · rw [dz_up_eq]
                                        omega
                                      · repeat (first | rw [dz_up_ne (by omega)])
                                        rw [dz_up_eq, eK, hk]
                                      · repeat (first | rw [dz_up_ne (by omega)])
                                        rw [w1 _ _ (by omega), y1 _ _ (by omega), n3, eP]
                                      · repeat (first | rw [dz_up_ne (by omega)])
                                        rw [dz_up_eq, eV]
                                        first
                                          | rw [if_pos (by omega)]
                                          | rw [if_neg (by omega)]
                                      · repeat (first | rw [dz_up_ne (by omega)])
                                        rw [dz_up_eq, eW]
                                        first
                                          | rw [if_pos (by omega)]
                                          | rw [if_neg (by omega)]
                                      · repeat (first | rw [dz_up_ne (by omega)])
                                        rw [dz_up_eq, eN]
                                        first
                                          | rw [if_pos (by omega)]
                                          | rw [if_neg (by omega)]))
                            · first
                              | (exfalso; omega)
                              | (skip
                                 refine xr_iconst hc rfl ?_
                                 refine xr_goto hc rfl (t := 122) rfl ?_
                                 refine xr_iastore hc rfl (by first | assumption | rfl) (by first | omega | (unfold dz_w; omega)) (by first | omega | (unfold dz_w; omega)) ?_
                                 rw [Int.toNat_natCast]
                                 refine xr_aloadn hc rfl rfl ?_
                                 refine xr_getfr hc rfl rfl (by first | assumption | rfl) (by first | assumption | rfl) ?_
                                 refine xr_getfr hc rfl rfl (by first | assumption | rfl) (by first | assumption | rfl) ?_
                                 refine xr_iloadn hc rfl rfl ?_
                                 refine xr_iloadn hc rfl rfl ?_
                                 refine xr_if_ne hc rfl (t := 139) rfl (fun b132 => ?_) (fun b132 => ?_)
                                 · first
                                   | (exfalso; omega)
                                   | (skip
                                      refine xr_iload hc rfl rfl ?_
                                      refine xr_iastore hc rfl (by first | assumption | rfl) (by first | omega | (unfold dz_w; omega)) (by first | omega | (unfold dz_w; omega)) ?_
                                      rw [Int.toNat_natCast]
                                      refine xr_aloadn hc rfl rfl ?_
                                      refine xr_getfr hc rfl rfl (by first | assumption | rfl) (by first | assumption | rfl) ?_
                                      refine xr_iloadn hc rfl rfl ?_
                                      refine xr_iconst hc rfl ?_
                                      refine xr_iaddz hc rfl (by first | exact dz_wid (by first | omega | (unfold dz_w; omega)) (by first | omega | (unfold dz_w; omega)) | rfl) ?_
                                      refine xr_putfi hc rfl rfl (by first | assumption | rfl) ?_
                                      refine xr_iconst hc rfl ?_
                                      refine xr_zreturn hc rfl rfl (Nat.zero_le _) (Nat.zero_le _) (by first | exact Or.inl rfl | exact Or.inr rfl | assumption) ?_
                                      have hr : rwd c nn pl ps i p = (true, p + 4) := by
                                        unfold rwd
                                        rw [if_neg (by omega), if_neg (fun z => z f1), if_neg (fun z => z f2), if_neg (fun z => z f3), if_neg (fun z => z f4)]
                                      refine hT (by rw [hr]) (by rw [hr]) _ (fun q2 k2 v1 v2 v3 => ?_) ?_ ?_ ?_ ?_ ?_ ?_ ?_ f1 f3 f4 (by omega) f2
                                      · rw [dz_up_o (by omega), dz_up_o (by omega), dz_up_o (by omega), dz_up_o (by omega), dz_up_o (by omega)]
                                        rw [w1 _ _ v1, y1 _ _ v1, n1 _ _ v1 (by omega)]
                                      · repeat (first | rw [dz_up_ne (by omega)])
                                        exact w2
                                      · rw [dz_up_eq]
                                        omega
                                      · repeat (first | rw [dz_up_ne (by omega)])
                                        rw [dz_up_eq, eK, hk]
                                      · repeat (first | rw [dz_up_ne (by omega)])
                                        rw [w1 _ _ (by omega), y1 _ _ (by omega), n3, eP]
                                      · repeat (first | rw [dz_up_ne (by omega)])
                                        rw [dz_up_eq, eV]
                                        first
                                          | rw [if_pos (by omega)]
                                          | rw [if_neg (by omega)]
                                      · repeat (first | rw [dz_up_ne (by omega)])
                                        rw [dz_up_eq, eW]
                                        first
                                          | rw [if_pos (by omega)]
                                          | rw [if_neg (by omega)]
                                      · repeat (first | rw [dz_up_ne (by omega)])
                                        rw [dz_up_eq, eN]
                                        first
                                          | rw [if_pos (by omega)]
                                          | rw [if_neg (by omega)])
                                 · first
                                   | (exfalso; omega)
                                   | (skip
                                      refine xr_iconst hc rfl ?_
                                      refine xr_goto hc rfl (t := 141) rfl ?_
                                      refine xr_iastore hc rfl (by first | assumption | rfl) (by first | omega | (unfold dz_w; omega)) (by first | omega | (unfold dz_w; omega)) ?_
                                      rw [Int.toNat_natCast]
                                      refine xr_aloadn hc rfl rfl ?_
                                      refine xr_getfr hc rfl rfl (by first | assumption | rfl) (by first | assumption | rfl) ?_
                                      refine xr_iloadn hc rfl rfl ?_
                                      refine xr_iconst hc rfl ?_
                                      refine xr_iaddz hc rfl (by first | exact dz_wid (by first | omega | (unfold dz_w; omega)) (by first | omega | (unfold dz_w; omega)) | rfl) ?_
                                      refine xr_putfi hc rfl rfl (by first | assumption | rfl) ?_
                                      refine xr_iconst hc rfl ?_
                                      refine xr_zreturn hc rfl rfl (Nat.zero_le _) (Nat.zero_le _) (by first | exact Or.inl rfl | exact Or.inr rfl | assumption) ?_
                                      have hr : rwd c nn pl ps i p = (true, p + 4) := by
                                        unfold rwd
                                        rw [if_neg (by omega), if_neg (fun z => z f1), if_neg (fun z => z f2), if_neg (fun z => z f3), if_neg (fun z => z f4)]
                                      refine hT (by rw [hr]) (by rw [hr]) _ (fun q2 k2 v1 v2 v3 => ?_) ?_ ?_ ?_ ?_ ?_ ?_ ?_ f1 f3 f4 (by omega) f2
                                      · rw [dz_up_o (by omega), dz_up_o (by omega), dz_up_o (by omega), dz_up_o (by omega), dz_up_o (by omega)]
                                        rw [w1 _ _ v1, y1 _ _ v1, n1 _ _ v1 (by omega)]
                                      · repeat (first | rw [dz_up_ne (by omega)])
                                        exact w2
                                      · rw [dz_up_eq]
                                        omega
                                      · repeat (first | rw [dz_up_ne (by omega)])
                                        rw [dz_up_eq, eK, hk]
                                      · repeat (first | rw [dz_up_ne (by omega)])
                                        rw [w1 _ _ (by omega), y1 _ _ (by omega), n3, eP]
                                      · repeat (first | rw [dz_up_ne (by omega)])
                                        rw [dz_up_eq, eV]
                                        first
                                          | rw [if_pos (by omega)]
                                          | rw [if_neg (by omega)]
                                      · repeat (first | rw [dz_up_ne (by omega)])
                                        rw [dz_up_eq, eW]
                                        first
                                          | rw [if_pos (by omega)]
                                          | rw [if_neg (by omega)]
                                      · repeat (first | rw [dz_up_ne (by omega)])
                                        rw [dz_up_eq, eN]
                                        first
                                          | rw [if_pos (by omega)]
                                          | rw [if_neg (by omega)])))
                       · first
                         | (exfalso; omega)
                         | (skip
                            refine xr_bipush hc rfl ?_
                            refine xr_iload hc rfl rfl ?_
                            refine xr_imulz hc rfl (by first | exact dz_wid (by first | omega | (unfold dz_w; omega)) (by first | omega | (unfold dz_w; omega)) | rfl) ?_
                            refine xr_iload hc rfl rfl ?_
                            refine xr_iaddz hc rfl (by first | exact dz_wid (by first | omega | (unfold dz_w; omega)) (by first | omega | (unfold dz_w; omega)) | rfl) ?_
                            refine xr_goto hc rfl (t := 103) rfl ?_
                            refine xr_iastore hc rfl (by first | assumption | rfl) (by first | omega | (unfold dz_w; omega)) (by first | omega | (unfold dz_w; omega)) ?_
                            rw [Int.toNat_natCast]
                            refine xr_aloadn hc rfl rfl ?_
                            refine xr_getfr hc rfl rfl (by first | assumption | rfl) (by first | assumption | rfl) ?_
                            refine xr_getfr hc rfl rfl (by first | assumption | rfl) (by first | assumption | rfl) ?_
                            refine xr_iloadn hc rfl rfl ?_
                            refine xr_iloadn hc rfl rfl ?_
                            refine xr_if_ne hc rfl (t := 120) rfl (fun b113 => ?_) (fun b113 => ?_)
                            · first
                              | (exfalso; omega)
                              | (skip
                                 refine xr_iload hc rfl rfl ?_
                                 refine xr_iastore hc rfl (by first | assumption | rfl) (by first | omega | (unfold dz_w; omega)) (by first | omega | (unfold dz_w; omega)) ?_
                                 rw [Int.toNat_natCast]
                                 refine xr_aloadn hc rfl rfl ?_
                                 refine xr_getfr hc rfl rfl (by first | assumption | rfl) (by first | assumption | rfl) ?_
                                 refine xr_getfr hc rfl rfl (by first | assumption | rfl) (by first | assumption | rfl) ?_
                                 refine xr_iloadn hc rfl rfl ?_
                                 refine xr_iloadn hc rfl rfl ?_
                                 refine xr_if_ne hc rfl (t := 139) rfl (fun b132 => ?_) (fun b132 => ?_)
                                 · first
                                   | (exfalso; omega)
                                   | (skip
                                      refine xr_iload hc rfl rfl ?_
                                      refine xr_iastore hc rfl (by first | assumption | rfl) (by first | omega | (unfold dz_w; omega)) (by first | omega | (unfold dz_w; omega)) ?_
                                      rw [Int.toNat_natCast]
                                      refine xr_aloadn hc rfl rfl ?_
                                      refine xr_getfr hc rfl rfl (by first | assumption | rfl) (by first | assumption | rfl) ?_
                                      refine xr_iloadn hc rfl rfl ?_
                                      refine xr_iconst hc rfl ?_
                                      refine xr_iaddz hc rfl (by first | exact dz_wid (by first | omega | (unfold dz_w; omega)) (by first | omega | (unfold dz_w; omega)) | rfl) ?_
                                      refine xr_putfi hc rfl rfl (by first | assumption | rfl) ?_
                                      refine xr_iconst hc rfl ?_
                                      refine xr_zreturn hc rfl rfl (Nat.zero_le _) (Nat.zero_le _) (by first | exact Or.inl rfl | exact Or.inr rfl | assumption) ?_
                                      have hr : rwd c nn pl ps i p = (true, p + 4) := by
                                        unfold rwd
                                        rw [if_neg (by omega), if_neg (fun z => z f1), if_neg (fun z => z f2), if_neg (fun z => z f3), if_neg (fun z => z f4)]
                                      refine hT (by rw [hr]) (by rw [hr]) _ (fun q2 k2 v1 v2 v3 => ?_) ?_ ?_ ?_ ?_ ?_ ?_ ?_ f1 f3 f4 (by omega) f2
                                      · rw [dz_up_o (by omega), dz_up_o (by omega), dz_up_o (by omega), dz_up_o (by omega), dz_up_o (by omega)]
                                        rw [w1 _ _ v1, y1 _ _ v1, n1 _ _ v1 (by omega)]
                                      · repeat (first | rw [dz_up_ne (by omega)])
                                        exact w2
                                      · rw [dz_up_eq]
                                        omega
                                      · repeat (first | rw [dz_up_ne (by omega)])
                                        rw [dz_up_eq, eK, hk]
                                      · repeat (first | rw [dz_up_ne (by omega)])
                                        rw [w1 _ _ (by omega), y1 _ _ (by omega), n3, eP]
                                      · repeat (first | rw [dz_up_ne (by omega)])
                                        rw [dz_up_eq, eV]
                                        first
                                          | rw [if_pos (by omega)]
                                          | rw [if_neg (by omega)]
                                      · repeat (first | rw [dz_up_ne (by omega)])
                                        rw [dz_up_eq, eW]
                                        first
                                          | rw [if_pos (by omega)]
                                          | rw [if_neg (by omega)]
                                      · repeat (first | rw [dz_up_ne (by omega)])
                                        rw [dz_up_eq, eN]
                                        first
                                          | rw [if_pos (by omega)]
                                          | rw [if_neg (by omega)])
                                 · first
                                   | (exfalso; omega)
                                   | (skip
                                      refine xr_iconst hc rfl ?_
                                      refine xr_goto hc rfl (t := 141) rfl ?_
                                      refine xr_iastore hc rfl (by first | assumption | rfl) (by first | omega | (unfold dz_w; omega)) (by first | omega | (unfold dz_w; omega)) ?_
                                      rw [Int.toNat_natCast]
                                      refine xr_aloadn hc rfl rfl ?_
                                      refine xr_getfr hc rfl rfl (by first | assumption | rfl) (by first | assumption | rfl) ?_
                                      refine xr_iloadn hc rfl rfl ?_
                                      refine xr_iconst hc rfl ?_
                                      refine xr_iaddz hc rfl (by first | exact dz_wid (by first | omega | (unfold dz_w; omega)) (by first | omega | (unfold dz_w; omega)) | rfl) ?_
                                      refine xr_putfi hc rfl rfl (by first | assumption | rfl) ?_
                                      refine xr_iconst hc rfl ?_
                                      refine xr_zreturn hc rfl rfl (Nat.zero_le _) (Nat.zero_le _) (by first | exact Or.inl rfl | exact Or.inr rfl | assumption) ?_
                                      have hr : rwd c nn pl ps i p = (true, p + 4) := by
                                        unfold rwd
                                        rw [if_neg (by omega), if_neg (fun z => z f1), if_neg (fun z => z f2), if_neg (fun z => z f3), if_neg (fun z => z f4)]
                                      refine hT (by rw [hr]) (by rw [hr]) _ (fun q2 k2 v1 v2 v3 => ?_) ?_ ?_ ?_ ?_ ?_ ?_ ?_ f1 f3 f4 (by omega) f2
                                      · rw [dz_up_o (by omega), dz_up_o (by omega), dz_up_o (by omega), dz_up_o (by omega), dz_up_o (by omega)]
                                        rw [w1 _ _ v1, y1 _ _ v1, n1 _ _ v1 (by omega)]
                                      · repeat (first | rw [dz_up_ne (by omega)])
                                        exact w2
                                      · rw [dz_up_eq]
                                        omega
                                      · repeat (first | rw [dz_up_ne (by omega)])
                                        rw [dz_up_eq, eK, hk]
                                      · repeat (first | rw [dz_up_ne (by omega)])
                                        rw [w1 _ _ (by omega), y1 _ _ (by omega), n3, eP]
                                      · repeat (first | rw [dz_up_ne (by omega)])
                                        rw [dz_up_eq, eV]
                                        first
                                          | rw [if_pos (by omega)]
                                          | rw [if_neg (by omega)]
                                      · repeat (first | rw [dz_up_ne (by omega)])
                                        rw [dz_up_eq, eW]
                                        first
                                          | rw [if_pos (by omega)]
                                          | rw [if_neg (by omega)]
                                      · repeat (first | rw [dz_up_ne (by omega)])
                                        rw [dz_up_eq, eN]
                                        first
                                          | rw [if_pos (by omega)]
                                          | rw [if_neg (by omega)]))
                            · first
                              | (exfalso; omega)
                              | (skip
                                 refine xr_iconst hc rfl ?_
                                 refine xr_goto hc rfl (t := 122) rfl ?_
                                 refine xr_iastore hc rfl (by first | assumption | rfl) (by first | omega | (unfold dz_w; omega)) (by first | omega | (unfold dz_w; omega)) ?_
                                 rw [Int.toNat_natCast]
                                 refine xr_aloadn hc rfl rfl ?_
                                 refine xr_getfr hc rfl rfl (by first | assumption | rfl) (by first | assumption | rfl) ?_
                                 refine xr_getfr hc rfl rfl (by first | assumption | rfl) (by first | assumption | rfl) ?_
                                 refine xr_iloadn hc rfl rfl ?_
                                 refine xr_iloadn hc rfl rfl ?_
                                 refine xr_if_ne hc rfl (t := 139) rfl (fun b132 => ?_) (fun b132 => ?_)
                                 · first
                                   | (exfalso; omega)
                                   | (skip
                                      refine xr_iload hc rfl rfl ?_
                                      refine xr_iastore hc rfl (by first | assumption | rfl) (by first | omega | (unfold dz_w; omega)) (by first | omega | (unfold dz_w; omega)) ?_
                                      rw [Int.toNat_natCast]
                                      refine xr_aloadn hc rfl rfl ?_
                                      refine xr_getfr hc rfl rfl (by first | assumption | rfl) (by first | assumption | rfl) ?_
                                      refine xr_iloadn hc rfl rfl ?_
                                      refine xr_iconst hc rfl ?_
                                      refine xr_iaddz hc rfl (by first | exact dz_wid (by first | omega | (unfold dz_w; omega)) (by first | omega | (unfold dz_w; omega)) | rfl) ?_
                                      refine xr_putfi hc rfl rfl (by first | assumption | rfl) ?_
                                      refine xr_iconst hc rfl ?_
                                      refine xr_zreturn hc rfl rfl (Nat.zero_le _) (Nat.zero_le _) (by first | exact Or.inl rfl | exact Or.inr rfl | assumption) ?_
                                      have hr : rwd c nn pl ps i p = (true, p + 4) := by
                                        unfold rwd
                                        rw [if_neg (by omega), if_neg (fun z => z f1), if_neg (fun z => z f2), if_neg (fun z => z f3), if_neg (fun z => z f4)]
                                      refine hT (by rw [hr]) (by rw [hr]) _ (fun q2 k2 v1 v2 v3 => ?_) ?_ ?_ ?_ ?_ ?_ ?_ ?_ f1 f3 f4 (by omega) f2
                                      · rw [dz_up_o (by omega), dz_up_o (by omega), dz_up_o (by omega), dz_up_o (by omega), dz_up_o (by omega)]
                                        rw [w1 _ _ v1, y1 _ _ v1, n1 _ _ v1 (by omega)]
                                      · repeat (first | rw [dz_up_ne (by omega)])
                                        exact w2
                                      · rw [dz_up_eq]
                                        omega
                                      · repeat (first | rw [dz_up_ne (by omega)])
                                        rw [dz_up_eq, eK, hk]
                                      · repeat (first | rw [dz_up_ne (by omega)])
                                        rw [w1 _ _ (by omega), y1 _ _ (by omega), n3, eP]
                                      · repeat (first | rw [dz_up_ne (by omega)])
                                        rw [dz_up_eq, eV]
                                        first
                                          | rw [if_pos (by omega)]
                                          | rw [if_neg (by omega)]
                                      · repeat (first | rw [dz_up_ne (by omega)])
                                        rw [dz_up_eq, eW]
                                        first
                                          | rw [if_pos (by omega)]
                                          | rw [if_neg (by omega)]
                                      · repeat (first | rw [dz_up_ne (by omega)])
                                        rw [dz_up_eq, eN]
                                        first
                                          | rw [if_pos (by omega)]
                                          | rw [if_neg (by omega)])
                                 · first
                                   | (exfalso; omega)
                                   | (skip
                                      refine xr_iconst hc rfl ?_
                                      refine xr_goto hc rfl (t := 141) rfl ?_
                                      refine xr_iastore hc rfl (by first | assumption | rfl) (by first | omega | (unfold dz_w; omega)) (by first | omega | (unfold dz_w; omega)) ?_
                                      rw [Int.toNat_natCast]
                                      refine xr_aloadn hc rfl rfl ?_
                                      refine xr_getfr hc rfl rfl (by first | assumption | rfl) (by first | assumption | rfl) ?_
                                      refine xr_iloadn hc rfl rfl ?_
                                      refine xr_iconst hc rfl ?_
                                      refine xr_iaddz hc rfl (by first | exact dz_wid (by first | omega | (unfold dz_w; omega)) (by first | omega | (unfold dz_w; omega)) | rfl) ?_
                                      refine xr_putfi hc rfl rfl (by first | assumption | rfl) ?_
                                      refine xr_iconst hc rfl ?_
                                      refine xr_zreturn hc rfl rfl (Nat.zero_le _) (Nat.zero_le _) (by first | exact Or.inl rfl | exact Or.inr rfl | assumption) ?_
                                      have hr : rwd c nn pl ps i p = (true, p + 4) := by
                                        unfold rwd
                                        rw [if_neg (by omega), if_neg (fun z => z f1), if_neg (fun z => z f2), if_neg (fun z => z f3), if_neg (fun z => z f4)]
                                      refine hT (by rw [hr]) (by rw [hr]) _ (fun q2 k2 v1 v2 v3 => ?_) ?_ ?_ ?_ ?_ ?_ ?_ ?_ f1 f3 f4 (by omega) f2
                                      · rw [dz_up_o (by omega), dz_up_o (by omega), dz_up_o (by omega), dz_up_o (by omega), dz_up_o (by omega)]
                                        rw [w1 _ _ v1, y1 _ _ v1, n1 _ _ v1 (by omega)]
                                      · repeat (first | rw [dz_up_ne (by omega)])
                                        exact w2
                                      · rw [dz_up_eq]
                                        omega
                                      · repeat (first | rw [dz_up_ne (by omega)])
                                        rw [dz_up_eq, eK, hk]
                                      · repeat (first | rw [dz_up_ne (by omega)])
                                        rw [w1 _ _ (by omega), y1 _ _ (by omega), n3, eP]
                                      · repeat (first | rw [dz_up_ne (by omega)])
                                        rw [dz_up_eq, eV]
                                        first
                                          | rw [if_pos (by omega)]
                                          | rw [if_neg (by omega)]
                                      · repeat (first | rw [dz_up_ne (by omega)])
                                        rw [dz_up_eq, eW]
                                        first
                                          | rw [if_pos (by omega)]
                                          | rw [if_neg (by omega)]
                                      · repeat (first | rw [dz_up_ne (by omega)])
                                        rw [dz_up_eq, eN]
                                        first
                                          | rw [if_pos (by omega)]
                                          | rw [if_neg (by omega)]))))
                  · first
                    | (exfalso; omega)
                    | (skip
                       refine xr_iconst hc rfl ?_
                       refine xr_zreturn hc rfl rfl (Nat.zero_le _) (Nat.zero_le _) (by first | exact Or.inl rfl | exact Or.inr rfl | assumption) ?_
                       first
                         | (exfalso; omega)
                         | (have hr : rwd c nn pl ps i p = (false, p + 3) := by
                              unfold rwd
                              rw [if_neg (by omega), if_neg (fun z => z f1), if_neg (fun z => z f2), if_neg (fun z => z f3), if_pos f4]
                            refine hF (by rw [hr]) N2 (fun q2 k2 v1 v2 v3 => by rw [y1 _ _ v1, n1 _ _ v1 (by omega)]) (by rw [hr]; exact y2) (by rw [hr]; have z := f3.1; show p + 3 ≤ nn; omega))
                         | (have hr : rwd c nn pl ps i p = (false, p + 2) := by
                              unfold rwd
                              rw [if_neg (by omega), if_neg (fun z => z f1), if_neg (fun z => z f2), if_pos f3]
                            refine hF (by rw [hr]) N (fun q2 k2 v1 v2 v3 => by rw [n1 _ _ v1 (by omega)]) (by rw [hr]; exact n2) (by rw [hr]; have z := f1.1; show p + 2 ≤ nn; omega))))
           · first
             | (exfalso; omega)
             | (skip
                refine xr_bipush hc rfl ?_
                refine xr_goto hc rfl (t := 58) rfl ?_
                refine xr_istore5 hc rfl rfl ?_
                refine xr_iload hc rfl rfl ?_
                refine xr_bipush hc rfl ?_
                refine xr_icmp_ne hc rfl (t := 69) rfl (fun b64 => ?_) (fun b64 => ?_)
                · first
                  | (exfalso; omega)
                  | (skip
                     refine xr_aloadn hc rfl rfl ?_
                     refine xr_getfr hc rfl rfl (by first | assumption | rfl) (by first | assumption | rfl) ?_
                     refine xr_getfr hc rfl rfl (by first | assumption | rfl) (by first | assumption | rfl) ?_
                     refine xr_iloadn hc rfl rfl ?_
                     refine xr_iloadn hc rfl rfl ?_
                     refine xr_iastore hc rfl (by first | assumption | rfl) (by first | omega | (unfold dz_w; omega)) (by first | omega | (unfold dz_w; omega)) ?_
                     rw [Int.toNat_natCast]
                     refine xr_aloadn hc rfl rfl ?_
                     refine xr_getfr hc rfl rfl (by first | assumption | rfl) (by first | assumption | rfl) ?_
                     refine xr_getfr hc rfl rfl (by first | assumption | rfl) (by first | assumption | rfl) ?_
                     refine xr_iloadn hc rfl rfl ?_
                     refine xr_iloadn hc rfl rfl ?_
                     refine xr_if_ne hc rfl (t := 102) rfl (fun b88 => ?_) (fun b88 => ?_)
                     · first
                       | (exfalso; omega)
                       | (skip
                          refine xr_iconst hc rfl ?_
                          refine xr_iastore hc rfl (by first | assumption | rfl) (by first | omega | (unfold dz_w; omega)) (by first | omega | (unfold dz_w; omega)) ?_
                          rw [Int.toNat_natCast]
                          refine xr_aloadn hc rfl rfl ?_
                          refine xr_getfr hc rfl rfl (by first | assumption | rfl) (by first | assumption | rfl) ?_
                          refine xr_getfr hc rfl rfl (by first | assumption | rfl) (by first | assumption | rfl) ?_
                          refine xr_iloadn hc rfl rfl ?_
                          refine xr_iloadn hc rfl rfl ?_
                          refine xr_if_ne hc rfl (t := 120) rfl (fun b113 => ?_) (fun b113 => ?_)
                          · first
                            | (exfalso; omega)
                            | (skip
                               refine xr_iload hc rfl rfl ?_
                               refine xr_iastore hc rfl (by first | assumption | rfl) (by first | omega | (unfold dz_w; omega)) (by first | omega | (unfold dz_w; omega)) ?_
                               rw [Int.toNat_natCast]
                               refine xr_aloadn hc rfl rfl ?_
                               refine xr_getfr hc rfl rfl (by first | assumption | rfl) (by first | assumption | rfl) ?_
                               refine xr_getfr hc rfl rfl (by first | assumption | rfl) (by first | assumption | rfl) ?_
                               refine xr_iloadn hc rfl rfl ?_
                               refine xr_iloadn hc rfl rfl ?_
                               refine xr_if_ne hc rfl (t := 139) rfl (fun b132 => ?_) (fun b132 => ?_)
                               · first
                                 | (exfalso; omega)
                                 | (skip
                                    refine xr_iload hc rfl rfl ?_
                                    refine xr_iastore hc rfl (by first | assumption | rfl) (by first | omega | (unfold dz_w; omega)) (by first | omega | (unfold dz_w; omega)) ?_
                                    rw [Int.toNat_natCast]
                                    refine xr_aloadn hc rfl rfl ?_
                                    refine xr_getfr hc rfl rfl (by first | assumption | rfl) (by first | assumption | rfl) ?_
                                    refine xr_iloadn hc rfl rfl ?_
                                    refine xr_iconst hc rfl ?_
                                    refine xr_iaddz hc rfl (by first | exact dz_wid (by first | omega | (unfold dz_w; omega)) (by first | omega | (unfold dz_w; omega)) | rfl) ?_
                                    refine xr_putfi hc rfl rfl (by first | assumption | rfl) ?_
                                    refine xr_iconst hc rfl ?_
                                    refine xr_zreturn hc rfl rfl (Nat.zero_le _) (Nat.zero_le _) (by first | exact Or.inl rfl | exact Or.inr rfl | assumption) ?_
                                    have hr : rwd c nn pl ps i p = (true, p + 4) := by
                                      unfold rwd
                                      rw [if_neg (by omega), if_neg (fun z => z f1), if_neg (fun z => z f2), if_neg (fun z => z f3), if_neg (fun z => z f4)]
                                    refine hT (by rw [hr]) (by rw [hr]) _ (fun q2 k2 v1 v2 v3 => ?_) ?_ ?_ ?_ ?_ ?_ ?_ ?_ f1 f3 f4 (by omega) f2
                                    · rw [dz_up_o (by omega), dz_up_o (by omega), dz_up_o (by omega), dz_up_o (by omega), dz_up_o (by omega)]
                                      rw [w1 _ _ v1, y1 _ _ v1, n1 _ _ v1 (by omega)]
                                    · repeat (first | rw [dz_up_ne (by omega)])
                                      exact w2
                                    · rw [dz_up_eq]
                                      omega
                                    · repeat (first | rw [dz_up_ne (by omega)])
                                      rw [dz_up_eq, eK, hk]
                                    · repeat (first | rw [dz_up_ne (by omega)])
                                      rw [w1 _ _ (by omega), y1 _ _ (by omega), n3, eP]
                                    · repeat (first | rw [dz_up_ne (by omega)])
                                      rw [dz_up_eq, eV]
                                      first
                                        | rw [if_pos (by omega)]
                                        | rw [if_neg (by omega)]
                                    · repeat (first | rw [dz_up_ne (by omega)])
                                      rw [dz_up_eq, eW]
                                      first
                                        | rw [if_pos (by omega)]
                                        | rw [if_neg (by omega)]
                                    · repeat (first | rw [dz_up_ne (by omega)])
                                      rw [dz_up_eq, eN]
                                      first
                                        | rw [if_pos (by omega)]
                                        | rw [if_neg (by omega)])
                               · first
                                 | (exfalso; omega)
                                 | (skip
                                    refine xr_iconst hc rfl ?_
                                    refine xr_goto hc rfl (t := 141) rfl ?_
                                    refine xr_iastore hc rfl (by first | assumption | rfl) (by first | omega | (unfold dz_w; omega)) (by first | omega | (unfold dz_w; omega)) ?_
                                    rw [Int.toNat_natCast]
                                    refine xr_aloadn hc rfl rfl ?_
                                    refine xr_getfr hc rfl rfl (by first | assumption | rfl) (by first | assumption | rfl) ?_
                                    refine xr_iloadn hc rfl rfl ?_
                                    refine xr_iconst hc rfl ?_
                                    refine xr_iaddz hc rfl (by first | exact dz_wid (by first | omega | (unfold dz_w; omega)) (by first | omega | (unfold dz_w; omega)) | rfl) ?_
                                    refine xr_putfi hc rfl rfl (by first | assumption | rfl) ?_
                                    refine xr_iconst hc rfl ?_
                                    refine xr_zreturn hc rfl rfl (Nat.zero_le _) (Nat.zero_le _) (by first | exact Or.inl rfl | exact Or.inr rfl | assumption) ?_
                                    have hr : rwd c nn pl ps i p = (true, p + 4) := by
                                      unfold rwd
                                      rw [if_neg (by omega), if_neg (fun z => z f1), if_neg (fun z => z f2), if_neg (fun z => z f3), if_neg (fun z => z f4)]
                                    refine hT (by rw [hr]) (by rw [hr]) _ (fun q2 k2 v1 v2 v3 => ?_) ?_ ?_ ?_ ?_ ?_ ?_ ?_ f1 f3 f4 (by omega) f2
                                    · rw [dz_up_o (by omega), dz_up_o (by omega), dz_up_o (by omega), dz_up_o (by omega), dz_up_o (by omega)]
                                      rw [w1 _ _ v1, y1 _ _ v1, n1 _ _ v1 (by omega)]
                                    · repeat (first | rw [dz_up_ne (by omega)])
                                      exact w2
                                    · rw [dz_up_eq]
                                      omega
                                    · repeat (first | rw [dz_up_ne (by omega)])
                                      rw [dz_up_eq, eK, hk]
                                    · repeat (first | rw [dz_up_ne (by omega)])
                                      rw [w1 _ _ (by omega), y1 _ _ (by omega), n3, eP]
                                    · repeat (first | rw [dz_up_ne (by omega)])
                                      rw [dz_up_eq, eV]
                                      first
                                        | rw [if_pos (by omega)]
                                        | rw [if_neg (by omega)]
                                    · repeat (first | rw [dz_up_ne (by omega)])
                                      rw [dz_up_eq, eW]
                                      first
                                        | rw [if_pos (by omega)]
                                        | rw [if_neg (by omega)]
                                    · repeat (first | rw [dz_up_ne (by omega)])
                                      rw [dz_up_eq, eN]
                                      first
                                        | rw [if_pos (by omega)]
                                        | rw [if_neg (by omega)]))
                          · first
                            | (exfalso; omega)
                            | (skip
                               refine xr_iconst hc rfl ?_
                               refine xr_goto hc rfl (t := 122) rfl ?_
                               refine xr_iastore hc rfl (by first | assumption | rfl) (by first | omega | (unfold dz_w; omega)) (by first | omega | (unfold dz_w; omega)) ?_
                               rw [Int.toNat_natCast]
                               refine xr_aloadn hc rfl rfl ?_
                               refine xr_getfr hc rfl rfl (by first | assumption | rfl) (by first | assumption | rfl) ?_
                               refine xr_getfr hc rfl rfl (by first | assumption | rfl) (by first | assumption | rfl) ?_
                               refine xr_iloadn hc rfl rfl ?_
                               refine xr_iloadn hc rfl rfl ?_
                               refine xr_if_ne hc rfl (t := 139) rfl (fun b132 => ?_) (fun b132 => ?_)
                               · first
                                 | (exfalso; omega)
                                 | (skip
                                    refine xr_iload hc rfl rfl ?_
                                    refine xr_iastore hc rfl (by first | assumption | rfl) (by first | omega | (unfold dz_w; omega)) (by first | omega | (unfold dz_w; omega)) ?_
                                    rw [Int.toNat_natCast]
                                    refine xr_aloadn hc rfl rfl ?_
                                    refine xr_getfr hc rfl rfl (by first | assumption | rfl) (by first | assumption | rfl) ?_
                                    refine xr_iloadn hc rfl rfl ?_
                                    refine xr_iconst hc rfl ?_
                                    refine xr_iaddz hc rfl (by first | exact dz_wid (by first | omega | (unfold dz_w; omega)) (by first | omega | (unfold dz_w; omega)) | rfl) ?_
                                    refine xr_putfi hc rfl rfl (by first | assumption | rfl) ?_
                                    refine xr_iconst hc rfl ?_
                                    refine xr_zreturn hc rfl rfl (Nat.zero_le _) (Nat.zero_le _) (by first | exact Or.inl rfl | exact Or.inr rfl | assumption) ?_
                                    have hr : rwd c nn pl ps i p = (true, p + 4) := by
                                      unfold rwd
                                      rw [if_neg (by omega), if_neg (fun z => z f1), if_neg (fun z => z f2), if_neg (fun z => z f3), if_neg (fun z => z f4)]
                                    refine hT (by rw [hr]) (by rw [hr]) _ (fun q2 k2 v1 v2 v3 => ?_) ?_ ?_ ?_ ?_ ?_ ?_ ?_ f1 f3 f4 (by omega) f2
                                    · rw [dz_up_o (by omega), dz_up_o (by omega), dz_up_o (by omega), dz_up_o (by omega), dz_up_o (by omega)]
                                      rw [w1 _ _ v1, y1 _ _ v1, n1 _ _ v1 (by omega)]
                                    · repeat (first | rw [dz_up_ne (by omega)])
                                      exact w2
                                    · rw [dz_up_eq]
                                      omega
                                    · repeat (first | rw [dz_up_ne (by omega)])
                                      rw [dz_up_eq, eK, hk]
                                    · repeat (first | rw [dz_up_ne (by omega)])
                                      rw [w1 _ _ (by omega), y1 _ _ (by omega), n3, eP]
                                    · repeat (first | rw [dz_up_ne (by omega)])
                                      rw [dz_up_eq, eV]
                                      first
                                        | rw [if_pos (by omega)]
                                        | rw [if_neg (by omega)]
                                    · repeat (first | rw [dz_up_ne (by omega)])
                                      rw [dz_up_eq, eW]
                                      first
                                        | rw [if_pos (by omega)]
                                        | rw [if_neg (by omega)]
                                    · repeat (first | rw [dz_up_ne (by omega)])
                                      rw [dz_up_eq, eN]
                                      first
                                        | rw [if_pos (by omega)]
                                        | rw [if_neg (by omega)])
                               · first
                                 | (exfalso; omega)
                                 | (skip
                                    refine xr_iconst hc rfl ?_
                                    refine xr_goto hc rfl (t := 141) rfl ?_
                                    refine xr_iastore hc rfl (by first | assumption | rfl) (by first | omega | (unfold dz_w; omega)) (by first | omega | (unfold dz_w; omega)) ?_
                                    rw [Int.toNat_natCast]
                                    refine xr_aloadn hc rfl rfl ?_
                                    refine xr_getfr hc rfl rfl (by first | assumption | rfl) (by first | assumption | rfl) ?_
                                    refine xr_iloadn hc rfl rfl ?_
                                    refine xr_iconst hc rfl ?_
                                    refine xr_iaddz hc rfl (by first | exact dz_wid (by first | omega | (unfold dz_w; omega)) (by first | omega | (unfold dz_w; omega)) | rfl) ?_
                                    refine xr_putfi hc rfl rfl (by first | assumption | rfl) ?_
                                    refine xr_iconst hc rfl ?_
                                    refine xr_zreturn hc rfl rfl (Nat.zero_le _) (Nat.zero_le _) (by first | exact Or.inl rfl | exact Or.inr rfl | assumption) ?_
                                    have hr : rwd c nn pl ps i p = (true, p + 4) := by
                                      unfold rwd
                                      rw [if_neg (by omega), if_neg (fun z => z f1), if_neg (fun z => z f2), if_neg (fun z => z f3), if_neg (fun z => z f4)]
                                    refine hT (by rw [hr]) (by rw [hr]) _ (fun q2 k2 v1 v2 v3 => ?_) ?_ ?_ ?_ ?_ ?_ ?_ ?_ f1 f3 f4 (by omega) f2
                                    · rw [dz_up_o (by omega), dz_up_o (by omega), dz_up_o (by omega), dz_up_o (by omega), dz_up_o (by omega)]
                                      rw [w1 _ _ v1, y1 _ _ v1, n1 _ _ v1 (by omega)]
                                    · repeat (first | rw [dz_up_ne (by omega)])
                                      exact w2
                                    · rw [dz_up_eq]
                                      omega
                                    · repeat (first | rw [dz_up_ne (by omega)])
                                      rw [dz_up_eq, eK, hk]
                                    · repeat (first | rw [dz_up_ne (by omega)])
                                      rw [w1 _ _ (by omega), y1 _ _ (by omega), n3, eP]
                                    · repeat (first | rw [dz_up_ne (by omega)])
                                      rw [dz_up_eq, eV]
                                      first
                                        | rw [if_pos (by omega)]
                                        | rw [if_neg (by omega)]
                                    · repeat (first | rw [dz_up_ne (by omega)])
                                      rw [dz_up_eq, eW]
                                      first
                                        | rw [if_pos (by omega)]
                                        | rw [if_neg (by omega)]
                                    · repeat (first | rw [dz_up_ne (by omega)])
                                      rw [dz_up_eq, eN]
                                      first
                                        | rw [if_pos (by omega)]
                                        | rw [if_neg (by omega)])))
                     · first
                       | (exfalso; omega)
                       | (skip
                          refine xr_bipush hc rfl ?_
                          refine xr_iload hc rfl rfl ?_
                          refine xr_imulz hc rfl (by first | exact dz_wid (by first | omega | (unfold dz_w; omega)) (by first | omega | (unfold dz_w; omega)) | rfl) ?_
                          refine xr_iload hc rfl rfl ?_
                          refine xr_iaddz hc rfl (by first | exact dz_wid (by first | omega | (unfold dz_w; omega)) (by first | omega | (unfold dz_w; omega)) | rfl) ?_
                          refine xr_goto hc rfl (t := 103) rfl ?_
                          refine xr_iastore hc rfl (by first | assumption | rfl) (by first | omega | (unfold dz_w; omega)) (by first | omega | (unfold dz_w; omega)) ?_
                          rw [Int.toNat_natCast]
                          refine xr_aloadn hc rfl rfl ?_
                          refine xr_getfr hc rfl rfl (by first | assumption | rfl) (by first | assumption | rfl) ?_
                          refine xr_getfr hc rfl rfl (by first | assumption | rfl) (by first | assumption | rfl) ?_
                          refine xr_iloadn hc rfl rfl ?_
                          refine xr_iloadn hc rfl rfl ?_
                          refine xr_if_ne hc rfl (t := 120) rfl (fun b113 => ?_) (fun b113 => ?_)
                          · first
                            | (exfalso; omega)
                            | (skip
                               refine xr_iload hc rfl rfl ?_
                               refine xr_iastore hc rfl (by first | assumption | rfl) (by first | omega | (unfold dz_w; omega)) (by first | omega | (unfold dz_w; omega)) ?_
                               rw [Int.toNat_natCast]
                               refine xr_aloadn hc rfl rfl ?_
                               refine xr_getfr hc rfl rfl (by first | assumption | rfl) (by first | assumption | rfl) ?_
                               refine xr_getfr hc rfl rfl (by first | assumption | rfl) (by first | assumption | rfl) ?_
                               refine xr_iloadn hc rfl rfl ?_
                               refine xr_iloadn hc rfl rfl ?_
                               refine xr_if_ne hc rfl (t := 139) rfl (fun b132 => ?_) (fun b132 => ?_)
                               · first
                                 | (exfalso; omega)
                                 | (skip
                                    refine xr_iload hc rfl rfl ?_
                                    refine xr_iastore hc rfl (by first | assumption | rfl) (by first | omega | (unfold dz_w; omega)) (by first | omega | (unfold dz_w; omega)) ?_
                                    rw [Int.toNat_natCast]
                                    refine xr_aloadn hc rfl rfl ?_
                                    refine xr_getfr hc rfl rfl (by first | assumption | rfl) (by first | assumption | rfl) ?_
                                    refine xr_iloadn hc rfl rfl ?_
                                    refine xr_iconst hc rfl ?_
                                    refine xr_iaddz hc rfl (by first | exact dz_wid (by first | omega | (unfold dz_w; omega)) (by first | omega | (unfold dz_w; omega)) | rfl) ?_
                                    refine xr_putfi hc rfl rfl (by first | assumption | rfl) ?_
                                    refine xr_iconst hc rfl ?_
                                    refine xr_zreturn hc rfl rfl (Nat.zero_le _) (Nat.zero_le _) (by first | exact Or.inl rfl | exact Or.inr rfl | assumption) ?_
                                    have hr : rwd c nn pl ps i p = (true, p + 4) := by
                                      unfold rwd
                                      rw [if_neg (by omega), if_neg (fun z => z f1), if_neg (fun z => z f2), if_neg (fun z => z f3), if_neg (fun z => z f4)]
                                    refine hT (by rw [hr]) (by rw [hr]) _ (fun q2 k2 v1 v2 v3 => ?_) ?_ ?_ ?_ ?_ ?_ ?_ ?_ f1 f3 f4 (by omega) f2
                                    · rw [dz_up_o (by omega), dz_up_o (by omega), dz_up_o (by omega), dz_up_o (by omega), dz_up_o (by omega)]
                                      rw [w1 _ _ v1, y1 _ _ v1, n1 _ _ v1 (by omega)]
                                    · repeat (first | rw [dz_up_ne (by omega)])
                                      exact w2
                                    · rw [dz_up_eq]
                                      omega
                                    · repeat (first | rw [dz_up_ne (by omega)])
                                      rw [dz_up_eq, eK, hk]
                                    · repeat (first | rw [dz_up_ne (by omega)])
                                      rw [w1 _ _ (by omega), y1 _ _ (by omega), n3, eP]
                                    · repeat (first | rw [dz_up_ne (by omega)])
                                      rw [dz_up_eq, eV]
                                      first
                                        | rw [if_pos (by omega)]
                                        | rw [if_neg (by omega)]
                                    · repeat (first | rw [dz_up_ne (by omega)])
                                      rw [dz_up_eq, eW]
                                      first
                                        | rw [if_pos (by omega)]
                                        | rw [if_neg (by omega)]
                                    · repeat (first | rw [dz_up_ne (by omega)])
                                      rw [dz_up_eq, eN]
                                      first
                                        | rw [if_pos (by omega)]
                                        | rw [if_neg (by omega)])
                               · first
                                 | (exfalso; omega)
                                 | (skip
                                    refine xr_iconst hc rfl ?_
                                    refine xr_goto hc rfl (t := 141) rfl ?_
                                    refine xr_iastore hc rfl (by first | assumption | rfl) (by first | omega | (unfold dz_w; omega)) (by first | omega | (unfold dz_w; omega)) ?_
                                    rw [Int.toNat_natCast]
                                    refine xr_aloadn hc rfl rfl ?_
                                    refine xr_getfr hc rfl rfl (by first | assumption | rfl) (by first | assumption | rfl) ?_
                                    refine xr_iloadn hc rfl rfl ?_
                                    refine xr_iconst hc rfl ?_
                                    refine xr_iaddz hc rfl (by first | exact dz_wid (by first | omega | (unfold dz_w; omega)) (by first | omega | (unfold dz_w; omega)) | rfl) ?_
                                    refine xr_putfi hc rfl rfl (by first | assumption | rfl) ?_
                                    refine xr_iconst hc rfl ?_
                                    refine xr_zreturn hc rfl rfl (Nat.zero_le _) (Nat.zero_le _) (by first | exact Or.inl rfl | exact Or.inr rfl | assumption) ?_
                                    have hr : rwd c nn pl ps i p = (true, p + 4) := by
                                      unfold rwd
                                      rw [if_neg (by omega), if_neg (fun z => z f1), if_neg (fun z => z f2), if_neg (fun z => z f3), if_neg (fun z => z f4)]
                                    refine hT (by rw [hr]) (by rw [hr]) _ (fun q2 k2 v1 v2 v3 => ?_) ?_ ?_ ?_ ?_ ?_ ?_ ?_ f1 f3 f4 (by omega) f2
                                    · rw [dz_up_o (by omega), dz_up_o (by omega), dz_up_o (by omega), dz_up_o (by omega), dz_up_o (by omega)]
                                      rw [w1 _ _ v1, y1 _ _ v1, n1 _ _ v1 (by omega)]
                                    · repeat (first | rw [dz_up_ne (by omega)])
                                      exact w2
                                    · rw [dz_up_eq]
                                      omega
                                    · repeat (first | rw [dz_up_ne (by omega)])
                                      rw [dz_up_eq, eK, hk]
                                    · repeat (first | rw [dz_up_ne (by omega)])
                                      rw [w1 _ _ (by omega), y1 _ _ (by omega), n3, eP]
                                    · repeat (first | rw [dz_up_ne (by omega)])
                                      rw [dz_up_eq, eV]
                                      first
                                        | rw [if_pos (by omega)]
                                        | rw [if_neg (by omega)]
                                    · repeat (first | rw [dz_up_ne (by omega)])
                                      rw [dz_up_eq, eW]
                                      first
                                        | rw [if_pos (by omega)]
                                        | rw [if_neg (by omega)]
                                    · repeat (first | rw [dz_up_ne (by omega)])
                                      rw [dz_up_eq, eN]
                                      first
                                        | rw [if_pos (by omega)]
                                        | rw [if_neg (by omega)]))
                          · first
                            | (exfalso; omega)
                            | (skip
                               refine xr_iconst hc rfl ?_
                               refine xr_goto hc rfl (t := 122) rfl ?_
                               refine xr_iastore hc rfl (by first | assumption | rfl) (by first | omega | (unfold dz_w; omega)) (by first | omega | (unfold dz_w; omega)) ?_
                               rw [Int.toNat_natCast]
                               refine xr_aloadn hc rfl rfl ?_
                               refine xr_getfr hc rfl rfl (by first | assumption | rfl) (by first | assumption | rfl) ?_
                               refine xr_getfr hc rfl rfl (by first | assumption | rfl) (by first | assumption | rfl) ?_
                               refine xr_iloadn hc rfl rfl ?_
                               refine xr_iloadn hc rfl rfl ?_
                               refine xr_if_ne hc rfl (t := 139) rfl (fun b132 => ?_) (fun b132 => ?_)
                               · first
                                 | (exfalso; omega)
                                 | (skip
                                    refine xr_iload hc rfl rfl ?_
                                    refine xr_iastore hc rfl (by first | assumption | rfl) (by first | omega | (unfold dz_w; omega)) (by first | omega | (unfold dz_w; omega)) ?_
                                    rw [Int.toNat_natCast]
                                    refine xr_aloadn hc rfl rfl ?_
                                    refine xr_getfr hc rfl rfl (by first | assumption | rfl) (by first | assumption | rfl) ?_
                                    refine xr_iloadn hc rfl rfl ?_
                                    refine xr_iconst hc rfl ?_
                                    refine xr_iaddz hc rfl (by first | exact dz_wid (by first | omega | (unfold dz_w; omega)) (by first | omega | (unfold dz_w; omega)) | rfl) ?_
                                    refine xr_putfi hc rfl rfl (by first | assumption | rfl) ?_
                                    refine xr_iconst hc rfl ?_
                                    refine xr_zreturn hc rfl rfl (Nat.zero_le _) (Nat.zero_le _) (by first | exact Or.inl rfl | exact Or.inr rfl | assumption) ?_
                                    have hr : rwd c nn pl ps i p = (true, p + 4) := by
                                      unfold rwd
                                      rw [if_neg (by omega), if_neg (fun z => z f1), if_neg (fun z => z f2), if_neg (fun z => z f3), if_neg (fun z => z f4)]
                                    refine hT (by rw [hr]) (by rw [hr]) _ (fun q2 k2 v1 v2 v3 => ?_) ?_ ?_ ?_ ?_ ?_ ?_ ?_ f1 f3 f4 (by omega) f2
                                    · rw [dz_up_o (by omega), dz_up_o (by omega), dz_up_o (by omega), dz_up_o (by omega), dz_up_o (by omega)]
                                      rw [w1 _ _ v1, y1 _ _ v1, n1 _ _ v1 (by omega)]
                                    · repeat (first | rw [dz_up_ne (by omega)])
                                      exact w2
                                    · rw [dz_up_eq]
                                      omega
                                    · repeat (first | rw [dz_up_ne (by omega)])
                                      rw [dz_up_eq, eK, hk]
                                    · repeat (first | rw [dz_up_ne (by omega)])
                                      rw [w1 _ _ (by omega), y1 _ _ (by omega), n3, eP]
                                    · repeat (first | rw [dz_up_ne (by omega)])
                                      rw [dz_up_eq, eV]
                                      first
                                        | rw [if_pos (by omega)]
                                        | rw [if_neg (by omega)]
                                    · repeat (first | rw [dz_up_ne (by omega)])
                                      rw [dz_up_eq, eW]
                                      first
                                        | rw [if_pos (by omega)]
                                        | rw [if_neg (by omega)]
                                    · repeat (first | rw [dz_up_ne (by omega)])
                                      rw [dz_up_eq, eN]
                                      first
                                        | rw [if_pos (by omega)]
                                        | rw [if_neg (by omega)])
                               · first
                                 | (exfalso; omega)
                                 | (skip
                                    refine xr_iconst hc rfl ?_
                                    refine xr_goto hc rfl (t := 141) rfl ?_
                                    refine xr_iastore hc rfl (by first | assumption | rfl) (by first | omega | (unfold dz_w; omega)) (by first | omega | (unfold dz_w; omega)) ?_
                                    rw [Int.toNat_natCast]
                                    refine xr_aloadn hc rfl rfl ?_
                                    refine xr_getfr hc rfl rfl (by first | assumption | rfl) (by first | assumption | rfl) ?_
                                    refine xr_iloadn hc rfl rfl ?_
                                    refine xr_iconst hc rfl ?_
                                    refine xr_iaddz hc rfl (by first | exact dz_wid (by first | omega | (unfold dz_w; omega)) (by first | omega | (unfold dz_w; omega)) | rfl) ?_
                                    refine xr_putfi hc rfl rfl (by first | assumption | rfl) ?_
                                    refine xr_iconst hc rfl ?_
                                    refine xr_zreturn hc rfl rfl (Nat.zero_le _) (Nat.zero_le _) (by first | exact Or.inl rfl | exact Or.inr rfl | assumption) ?_
                                    have hr : rwd c nn pl ps i p = (true, p + 4) := by
                                      unfold rwd
                                      rw [if_neg (by omega), if_neg (fun z => z f1), if_neg (fun z => z f2), if_neg (fun z => z f3), if_neg (fun z => z f4)]
                                    refine hT (by rw [hr]) (by rw [hr]) _ (fun q2 k2 v1 v2 v3 => ?_) ?_ ?_ ?_ ?_ ?_ ?_ ?_ f1 f3 f4 (by omega) f2
                                    · rw [dz_up_o (by omega), dz_up_o (by omega), dz_up_o (by omega), dz_up_o (by omega), dz_up_o (by omega)]
                                      rw [w1 _ _ v1, y1 _ _ v1, n1 _ _ v1 (by omega)]
                                    · repeat (first | rw [dz_up_ne (by omega)])
                                      exact w2
                                    · rw [dz_up_eq]
                                      omega
                                    · repeat (first | rw [dz_up_ne (by omega)])
                                      rw [dz_up_eq, eK, hk]
                                    · repeat (first | rw [dz_up_ne (by omega)])
                                      rw [w1 _ _ (by omega), y1 _ _ (by omega), n3, eP]
                                    · repeat (first | rw [dz_up_ne (by omega)])
                                      rw [dz_up_eq, eV]
                                      first
                                        | rw [if_pos (by omega)]
                                        | rw [if_neg (by omega)]
                                    · repeat (first | rw [dz_up_ne (by omega)])
                                      rw [dz_up_eq, eW]
                                      first
                                        | rw [if_pos (by omega)]
                                        | rw [if_neg (by omega)]
                                    · repeat (first | rw [dz_up_ne (by omega)])
                                      rw [dz_up_eq, eN]
                                      first
                                        | rw [if_pos (by omega)]
                                        | rw [if_neg (by omega)]))))
                · first
                  | (exfalso; omega)
                  | (skip
                     refine xr_iconst hc rfl ?_
                     refine xr_zreturn hc rfl rfl (Nat.zero_le _) (Nat.zero_le _) (by first | exact Or.inl rfl | exact Or.inr rfl | assumption) ?_
                     first
                       | (exfalso; omega)
                       | (have hr : rwd c nn pl ps i p = (false, p + 3) := by
                            unfold rwd
                            rw [if_neg (by omega), if_neg (fun z => z f1), if_neg (fun z => z f2), if_neg (fun z => z f3), if_pos f4]
                          refine hF (by rw [hr]) N2 (fun q2 k2 v1 v2 v3 => by rw [y1 _ _ v1, n1 _ _ v1 (by omega)]) (by rw [hr]; exact y2) (by rw [hr]; have z := f3.1; show p + 3 ≤ nn; omega))
                       | (have hr : rwd c nn pl ps i p = (false, p + 2) := by
                            unfold rwd
                            rw [if_neg (by omega), if_neg (fun z => z f1), if_neg (fun z => z f2), if_pos f3]
                          refine hF (by rw [hr]) N (fun q2 k2 v1 v2 v3 => by rw [n1 _ _ v1 (by omega)]) (by rw [hr]; exact n2) (by rw [hr]; have z := f1.1; show p + 2 ≤ nn; omega))))
         · refine xk_1 ?_
           refine xr_istore4 hc rfl rfl ?_
           refine xr_iload hc rfl rfl ?_
           refine xr_bipush hc rfl ?_
           refine xr_icmp_ne hc rfl (t := 52) rfl (fun b44 => ?_) (fun b44 => ?_)
           · first
             | (exfalso; omega)
             | (skip
                refine xr_aloadn hc rfl rfl ?_
                refine xr_iconst hc rfl ?_
                refine xr_iloadn hc rfl rfl ?_
                refine xr_callv2 hc rfl (by first | assumption | rfl) rfl rfl rfl (Nat.le_of_ble_eq_true rfl) (Nat.zero_le _) (Nat.zero_le _) ?_
                refine S_readFigure (tx := tx) (nn := nn) (p := p + 3) (c := c) hl htx hrf hn (fun k hk => by rw [y1 _ _ (by omega), n1 _ _ (by omega) (by omega)]; exact hc2 k hk) (by rw [y1 _ _ (by omega), n1 _ _ (by omega) (by omega)]; exact h2) y2 (by have z := f3.1; omega) (fun f4 N3 w1 w2 => ?_) (fun f4 => ?_)
                all_goals rw [← ehi] at f4
                · refine xk_1 ?_
                  refine xr_istore5 hc rfl rfl ?_
                  refine xr_iload hc rfl rfl ?_
                  refine xr_bipush hc rfl ?_
                  refine xr_icmp_ne hc rfl (t := 69) rfl (fun b64 => ?_) (fun b64 => ?_)
                  · first
                    | (exfalso; omega)
                    | (skip
                       refine xr_aloadn hc rfl rfl ?_
                       refine xr_getfr hc rfl rfl (by first | assumption | rfl) (by first | assumption | rfl) ?_
                       refine xr_getfr hc rfl rfl (by first | assumption | rfl) (by first | assumption | rfl) ?_
                       refine xr_iloadn hc rfl rfl ?_
                       refine xr_iloadn hc rfl rfl ?_
                       refine xr_iastore hc rfl (by first | assumption | rfl) (by first | omega | (unfold dz_w; omega)) (by first | omega | (unfold dz_w; omega)) ?_
                       rw [Int.toNat_natCast]
                       refine xr_aloadn hc rfl rfl ?_
                       refine xr_getfr hc rfl rfl (by first | assumption | rfl) (by first | assumption | rfl) ?_
                       refine xr_getfr hc rfl rfl (by first | assumption | rfl) (by first | assumption | rfl) ?_
                       refine xr_iloadn hc rfl rfl ?_
                       refine xr_iloadn hc rfl rfl ?_
                       refine xr_if_ne hc rfl (t := 102) rfl (fun b88 => ?_) (fun b88 => ?_)
                       · first
                         | (exfalso; omega)
                         | (skip
                            refine xr_iconst hc rfl ?_
                            refine xr_iastore hc rfl (by first | assumption | rfl) (by first | omega | (unfold dz_w; omega)) (by first | omega | (unfold dz_w; omega)) ?_
                            rw [Int.toNat_natCast]
                            refine xr_aloadn hc rfl rfl ?_
                            refine xr_getfr hc rfl rfl (by first | assumption | rfl) (by first | assumption | rfl) ?_
                            refine xr_getfr hc rfl rfl (by first | assumption | rfl) (by first | assumption | rfl) ?_
                            refine xr_iloadn hc rfl rfl ?_
                            refine xr_iloadn hc rfl rfl ?_
                            refine xr_if_ne hc rfl (t := 120) rfl (fun b113 => ?_) (fun b113 => ?_)
                            · first
                              | (exfalso; omega)
                              | (skip
                                 refine xr_iload hc rfl rfl ?_
                                 refine xr_iastore hc rfl (by first | assumption | rfl) (by first | omega | (unfold dz_w; omega)) (by first | omega | (unfold dz_w; omega)) ?_
                                 rw [Int.toNat_natCast]
                                 refine xr_aloadn hc rfl rfl ?_
                                 refine xr_getfr hc rfl rfl (by first | assumption | rfl) (by first | assumption | rfl) ?_
                                 refine xr_getfr hc rfl rfl (by first | assumption | rfl) (by first | assumption | rfl) ?_
                                 refine xr_iloadn hc rfl rfl ?_
                                 refine xr_iloadn hc rfl rfl ?_
                                 refine xr_if_ne hc rfl (t := 139) rfl (fun b132 => ?_) (fun b132 => ?_)
                                 · first
                                   | (exfalso; omega)
                                   | (skip
                                      refine xr_iload hc rfl rfl ?_
                                      refine xr_iastore hc rfl (by first | assumption | rfl) (by first | omega | (unfold dz_w; omega)) (by first | omega | (unfold dz_w; omega)) ?_
                                      rw [Int.toNat_natCast]
                                      refine xr_aloadn hc rfl rfl ?_
                                      refine xr_getfr hc rfl rfl (by first | assumption | rfl) (by first | assumption | rfl) ?_
                                      refine xr_iloadn hc rfl rfl ?_
                                      refine xr_iconst hc rfl ?_
                                      refine xr_iaddz hc rfl (by first | exact dz_wid (by first | omega | (unfold dz_w; omega)) (by first | omega | (unfold dz_w; omega)) | rfl) ?_
                                      refine xr_putfi hc rfl rfl (by first | assumption | rfl) ?_
                                      refine xr_iconst hc rfl ?_
                                      refine xr_zreturn hc rfl rfl (Nat.zero_le _) (Nat.zero_le _) (by first | exact Or.inl rfl | exact Or.inr rfl | assumption) ?_
                                      have hr : rwd c nn pl ps i p = (true, p + 4) := by
                                        unfold rwd
                                        rw [if_neg (by omega), if_neg (fun z => z f1), if_neg (fun z => z f2), if_neg (fun z => z f3), if_neg (fun z => z f4)]
                                      refine hT (by rw [hr]) (by rw [hr]) _ (fun q2 k2 v1 v2 v3 => ?_) ?_ ?_ ?_ ?_ ?_ ?_ ?_ f1 f3 f4 (by omega) f2
                                      · rw [dz_up_o (by omega), dz_up_o (by omega), dz_up_o (by omega), dz_up_o (by omega), dz_up_o (by omega)]
                                        rw [w1 _ _ v1, y1 _ _ v1, n1 _ _ v1 (by omega)]
                                      · repeat (first | rw [dz_up_ne (by omega)])
                                        exact w2
                                      · rw [dz_up_eq]
                                        omega
                                      · repeat (first | rw [dz_up_ne (by omega)])
                                        rw [dz_up_eq, eK, hk]
                                      · repeat (first | rw [dz_up_ne (by omega)])
                                        rw [w1 _ _ (by omega), y1 _ _ (by omega), n3, eP]
                                      · repeat (first | rw [dz_up_ne (by omega)])
                                        rw [dz_up_eq, eV]
                                        first
                                          | rw [if_pos (by omega)]
                                          | rw [if_neg (by omega)]
                                      · repeat (first | rw [dz_up_ne (by omega)])
                                        rw [dz_up_eq, eW]
                                        first
                                          | rw [if_pos (by omega)]
                                          | rw [if_neg (by omega)]
                                      · repeat (first | rw [dz_up_ne (by omega)])
                                        rw [dz_up_eq, eN]
                                        first
                                          | rw [if_pos (by omega)]
                                          | rw [if_neg (by omega)])
                                 · first
                                   | (exfalso; omega)
                                   | (skip
                                      refine xr_iconst hc rfl ?_
                                      refine xr_goto hc rfl (t := 141) rfl ?_
                                      refine xr_iastore hc rfl (by first | assumption | rfl) (by first | omega | (unfold dz_w; omega)) (by first | omega | (unfold dz_w; omega)) ?_
                                      rw [Int.toNat_natCast]
                                      refine xr_aloadn hc rfl rfl ?_
                                      refine xr_getfr hc rfl rfl (by first | assumption | rfl) (by first | assumption | rfl) ?_
                                      refine xr_iloadn hc rfl rfl ?_
                                      refine xr_iconst hc rfl ?_
                                      refine xr_iaddz hc rfl (by first | exact dz_wid (by first | omega | (unfold dz_w; omega)) (by first | omega | (unfold dz_w; omega)) | rfl) ?_
                                      refine xr_putfi hc rfl rfl (by first | assumption | rfl) ?_
                                      refine xr_iconst hc rfl ?_
                                      refine xr_zreturn hc rfl rfl (Nat.zero_le _) (Nat.zero_le _) (by first | exact Or.inl rfl | exact Or.inr rfl | assumption) ?_
                                      have hr : rwd c nn pl ps i p = (true, p + 4) := by
                                        unfold rwd
                                        rw [if_neg (by omega), if_neg (fun z => z f1), if_neg (fun z => z f2), if_neg (fun z => z f3), if_neg (fun z => z f4)]
                                      refine hT (by rw [hr]) (by rw [hr]) _ (fun q2 k2 v1 v2 v3 => ?_) ?_ ?_ ?_ ?_ ?_ ?_ ?_ f1 f3 f4 (by omega) f2
                                      · rw [dz_up_o (by omega), dz_up_o (by omega), dz_up_o (by omega), dz_up_o (by omega), dz_up_o (by omega)]
                                        rw [w1 _ _ v1, y1 _ _ v1, n1 _ _ v1 (by omega)]
                                      · repeat (first | rw [dz_up_ne (by omega)])
                                        exact w2
                                      · rw [dz_up_eq]
                                        omega
                                      · repeat (first | rw [dz_up_ne (by omega)])
                                        rw [dz_up_eq, eK, hk]
                                      · repeat (first | rw [dz_up_ne (by omega)])
                                        rw [w1 _ _ (by omega), y1 _ _ (by omega), n3, eP]
                                      · repeat (first | rw [dz_up_ne (by omega)])
                                        rw [dz_up_eq, eV]
                                        first
                                          | rw [if_pos (by omega)]
                                          | rw [if_neg (by omega)]
                                      · repeat (first | rw [dz_up_ne (by omega)])
                                        rw [dz_up_eq, eW]
                                        first
                                          | rw [if_pos (by omega)]
                                          | rw [if_neg (by omega)]
                                      · repeat (first | rw [dz_up_ne (by omega)])
                                        rw [dz_up_eq, eN]
                                        first
                                          | rw [if_pos (by omega)]
                                          | rw [if_neg (by omega)]))
                            · first
                              | (exfalso; omega)
                              | (skip
                                 refine xr_iconst hc rfl ?_
                                 refine xr_goto hc rfl (t := 122) rfl ?_
                                 refine xr_iastore hc rfl (by first | assumption | rfl) (by first | omega | (unfold dz_w; omega)) (by first | omega | (unfold dz_w; omega)) ?_
                                 rw [Int.toNat_natCast]
                                 refine xr_aloadn hc rfl rfl ?_
                                 refine xr_getfr hc rfl rfl (by first | assumption | rfl) (by first | assumption | rfl) ?_
                                 refine xr_getfr hc rfl rfl (by first | assumption | rfl) (by first | assumption | rfl) ?_
                                 refine xr_iloadn hc rfl rfl ?_
                                 refine xr_iloadn hc rfl rfl ?_
                                 refine xr_if_ne hc rfl (t := 139) rfl (fun b132 => ?_) (fun b132 => ?_)
                                 · first
                                   | (exfalso; omega)
                                   | (skip
                                      refine xr_iload hc rfl rfl ?_
                                      refine xr_iastore hc rfl (by first | assumption | rfl) (by first | omega | (unfold dz_w; omega)) (by first | omega | (unfold dz_w; omega)) ?_
                                      rw [Int.toNat_natCast]
                                      refine xr_aloadn hc rfl rfl ?_
                                      refine xr_getfr hc rfl rfl (by first | assumption | rfl) (by first | assumption | rfl) ?_
                                      refine xr_iloadn hc rfl rfl ?_
                                      refine xr_iconst hc rfl ?_
                                      refine xr_iaddz hc rfl (by first | exact dz_wid (by first | omega | (unfold dz_w; omega)) (by first | omega | (unfold dz_w; omega)) | rfl) ?_
                                      refine xr_putfi hc rfl rfl (by first | assumption | rfl) ?_
                                      refine xr_iconst hc rfl ?_
                                      refine xr_zreturn hc rfl rfl (Nat.zero_le _) (Nat.zero_le _) (by first | exact Or.inl rfl | exact Or.inr rfl | assumption) ?_
                                      have hr : rwd c nn pl ps i p = (true, p + 4) := by
                                        unfold rwd
                                        rw [if_neg (by omega), if_neg (fun z => z f1), if_neg (fun z => z f2), if_neg (fun z => z f3), if_neg (fun z => z f4)]
                                      refine hT (by rw [hr]) (by rw [hr]) _ (fun q2 k2 v1 v2 v3 => ?_) ?_ ?_ ?_ ?_ ?_ ?_ ?_ f1 f3 f4 (by omega) f2
                                      · rw [dz_up_o (by omega), dz_up_o (by omega), dz_up_o (by omega), dz_up_o (by omega), dz_up_o (by omega)]
                                        rw [w1 _ _ v1, y1 _ _ v1, n1 _ _ v1 (by omega)]
                                      · repeat (first | rw [dz_up_ne (by omega)])
                                        exact w2
                                      · rw [dz_up_eq]
                                        omega
                                      · repeat (first | rw [dz_up_ne (by omega)])
                                        rw [dz_up_eq, eK, hk]
                                      · repeat (first | rw [dz_up_ne (by omega)])
                                        rw [w1 _ _ (by omega), y1 _ _ (by omega), n3, eP]
                                      · repeat (first | rw [dz_up_ne (by omega)])
                                        rw [dz_up_eq, eV]
                                        first
                                          | rw [if_pos (by omega)]
                                          | rw [if_neg (by omega)]
                                      · repeat (first | rw [dz_up_ne (by omega)])
                                        rw [dz_up_eq, eW]
                                        first
                                          | rw [if_pos (by omega)]
                                          | rw [if_neg (by omega)]
                                      · repeat (first | rw [dz_up_ne (by omega)])
                                        rw [dz_up_eq, eN]
                                        first
                                          | rw [if_pos (by omega)]
                                          | rw [if_neg (by omega)])
                                 · first
                                   | (exfalso; omega)
                                   | (skip
                                      refine xr_iconst hc rfl ?_
                                      refine xr_goto hc rfl (t := 141) rfl ?_
                                      refine xr_iastore hc rfl (by first | assumption | rfl) (by first | omega | (unfold dz_w; omega)) (by first | omega | (unfold dz_w; omega)) ?_
                                      rw [Int.toNat_natCast]
                                      refine xr_aloadn hc rfl rfl ?_
                                      refine xr_getfr hc rfl rfl (by first | assumption | rfl) (by first | assumption | rfl) ?_
                                      refine xr_iloadn hc rfl rfl ?_
                                      refine xr_iconst hc rfl ?_
                                      refine xr_iaddz hc rfl (by first | exact dz_wid (by first | omega | (unfold dz_w; omega)) (by first | omega | (unfold dz_w; omega)) | rfl) ?_
                                      refine xr_putfi hc rfl rfl (by first | assumption | rfl) ?_
                                      refine xr_iconst hc rfl ?_
                                      refine xr_zreturn hc rfl rfl (Nat.zero_le _) (Nat.zero_le _) (by first | exact Or.inl rfl | exact Or.inr rfl | assumption) ?_
                                      have hr : rwd c nn pl ps i p = (true, p + 4) := by
                                        unfold rwd
                                        rw [if_neg (by omega), if_neg (fun z => z f1), if_neg (fun z => z f2), if_neg (fun z => z f3), if_neg (fun z => z f4)]
                                      refine hT (by rw [hr]) (by rw [hr]) _ (fun q2 k2 v1 v2 v3 => ?_) ?_ ?_ ?_ ?_ ?_ ?_ ?_ f1 f3 f4 (by omega) f2
                                      · rw [dz_up_o (by omega), dz_up_o (by omega), dz_up_o (by omega), dz_up_o (by omega), dz_up_o (by omega)]
                                        rw [w1 _ _ v1, y1 _ _ v1, n1 _ _ v1 (by omega)]
                                      · repeat (first | rw [dz_up_ne (by omega)])
                                        exact w2
                                      · rw [dz_up_eq]
                                        omega
                                      · repeat (first | rw [dz_up_ne (by omega)])
                                        rw [dz_up_eq, eK, hk]
                                      · repeat (first | rw [dz_up_ne (by omega)])
                                        rw [w1 _ _ (by omega), y1 _ _ (by omega), n3, eP]
                                      · repeat (first | rw [dz_up_ne (by omega)])
                                        rw [dz_up_eq, eV]
                                        first
                                          | rw [if_pos (by omega)]
                                          | rw [if_neg (by omega)]
                                      · repeat (first | rw [dz_up_ne (by omega)])
                                        rw [dz_up_eq, eW]
                                        first
                                          | rw [if_pos (by omega)]
                                          | rw [if_neg (by omega)]
                                      · repeat (first | rw [dz_up_ne (by omega)])
                                        rw [dz_up_eq, eN]
                                        first
                                          | rw [if_pos (by omega)]
                                          | rw [if_neg (by omega)])))
                       · first
                         | (exfalso; omega)
                         | (skip
                            refine xr_bipush hc rfl ?_
                            refine xr_iload hc rfl rfl ?_
                            refine xr_imulz hc rfl (by first | exact dz_wid (by first | omega | (unfold dz_w; omega)) (by first | omega | (unfold dz_w; omega)) | rfl) ?_
                            refine xr_iload hc rfl rfl ?_
                            refine xr_iaddz hc rfl (by first | exact dz_wid (by first | omega | (unfold dz_w; omega)) (by first | omega | (unfold dz_w; omega)) | rfl) ?_
                            refine xr_goto hc rfl (t := 103) rfl ?_
                            refine xr_iastore hc rfl (by first | assumption | rfl) (by first | omega | (unfold dz_w; omega)) (by first | omega | (unfold dz_w; omega)) ?_
                            rw [Int.toNat_natCast]
                            refine xr_aloadn hc rfl rfl ?_
                            refine xr_getfr hc rfl rfl (by first | assumption | rfl) (by first | assumption | rfl) ?_
                            refine xr_getfr hc rfl rfl (by first | assumption | rfl) (by first | assumption | rfl) ?_
                            refine xr_iloadn hc rfl rfl ?_
                            refine xr_iloadn hc rfl rfl ?_
                            refine xr_if_ne hc rfl (t := 120) rfl (fun b113 => ?_) (fun b113 => ?_)
                            · first
                              | (exfalso; omega)
                              | (skip
                                 refine xr_iload hc rfl rfl ?_
                                 refine xr_iastore hc rfl (by first | assumption | rfl) (by first | omega | (unfold dz_w; omega)) (by first | omega | (unfold dz_w; omega)) ?_
                                 rw [Int.toNat_natCast]
                                 refine xr_aloadn hc rfl rfl ?_
                                 refine xr_getfr hc rfl rfl (by first | assumption | rfl) (by first | assumption | rfl) ?_
                                 refine xr_getfr hc rfl rfl (by first | assumption | rfl) (by first | assumption | rfl) ?_
                                 refine xr_iloadn hc rfl rfl ?_
                                 refine xr_iloadn hc rfl rfl ?_
                                 refine xr_if_ne hc rfl (t := 139) rfl (fun b132 => ?_) (fun b132 => ?_)
                                 · first
                                   | (exfalso; omega)
                                   | (skip
                                      refine xr_iload hc rfl rfl ?_
                                      refine xr_iastore hc rfl (by first | assumption | rfl) (by first | omega | (unfold dz_w; omega)) (by first | omega | (unfold dz_w; omega)) ?_
                                      rw [Int.toNat_natCast]
                                      refine xr_aloadn hc rfl rfl ?_
                                      refine xr_getfr hc rfl rfl (by first | assumption | rfl) (by first | assumption | rfl) ?_
                                      refine xr_iloadn hc rfl rfl ?_
                                      refine xr_iconst hc rfl ?_
                                      refine xr_iaddz hc rfl (by first | exact dz_wid (by first | omega | (unfold dz_w; omega)) (by first | omega | (unfold dz_w; omega)) | rfl) ?_
                                      refine xr_putfi hc rfl rfl (by first | assumption | rfl) ?_
                                      refine xr_iconst hc rfl ?_
                                      refine xr_zreturn hc rfl rfl (Nat.zero_le _) (Nat.zero_le _) (by first | exact Or.inl rfl | exact Or.inr rfl | assumption) ?_
                                      have hr : rwd c nn pl ps i p = (true, p + 4) := by
                                        unfold rwd
                                        rw [if_neg (by omega), if_neg (fun z => z f1), if_neg (fun z => z f2), if_neg (fun z => z f3), if_neg (fun z => z f4)]
                                      refine hT (by rw [hr]) (by rw [hr]) _ (fun q2 k2 v1 v2 v3 => ?_) ?_ ?_ ?_ ?_ ?_ ?_ ?_ f1 f3 f4 (by omega) f2
                                      · rw [dz_up_o (by omega), dz_up_o (by omega), dz_up_o (by omega), dz_up_o (by omega), dz_up_o (by omega)]
                                        rw [w1 _ _ v1, y1 _ _ v1, n1 _ _ v1 (by omega)]
                                      · repeat (first | rw [dz_up_ne (by omega)])
                                        exact w2
                                      · rw [dz_up_eq]
                                        omega
                                      · repeat (first | rw [dz_up_ne (by omega)])
                                        rw [dz_up_eq, eK, hk]
                                      · repeat (first | rw [dz_up_ne (by omega)])
                                        rw [w1 _ _ (by omega), y1 _ _ (by omega), n3, eP]
                                      · repeat (first | rw [dz_up_ne (by omega)])
                                        rw [dz_up_eq, eV]
                                        first
                                          | rw [if_pos (by omega)]
                                          | rw [if_neg (by omega)]
                                      · repeat (first | rw [dz_up_ne (by omega)])
                                        rw [dz_up_eq, eW]
                                        first
                                          | rw [if_pos (by omega)]
                                          | rw [if_neg (by omega)]
                                      · repeat (first | rw [dz_up_ne (by omega)])
                                        rw [dz_up_eq, eN]
                                        first
                                          | rw [if_pos (by omega)]
                                          | rw [if_neg (by omega)])
                                 · first
                                   | (exfalso; omega)
                                   | (skip
                                      refine xr_iconst hc rfl ?_
                                      refine xr_goto hc rfl (t := 141) rfl ?_
                                      refine xr_iastore hc rfl (by first | assumption | rfl) (by first | omega | (unfold dz_w; omega)) (by first | omega | (unfold dz_w; omega)) ?_
                                      rw [Int.toNat_natCast]
                                      refine xr_aloadn hc rfl rfl ?_
                                      refine xr_getfr hc rfl rfl (by first | assumption | rfl) (by first | assumption | rfl) ?_
                                      refine xr_iloadn hc rfl rfl ?_
                                      refine xr_iconst hc rfl ?_
                                      refine xr_iaddz hc rfl (by first | exact dz_wid (by first | omega | (unfold dz_w; omega)) (by first | omega | (unfold dz_w; omega)) | rfl) ?_
                                      refine xr_putfi hc rfl rfl (by first | assumption | rfl) ?_
                                      refine xr_iconst hc rfl ?_
                                      refine xr_zreturn hc rfl rfl (Nat.zero_le _) (Nat.zero_le _) (by first | exact Or.inl rfl | exact Or.inr rfl | assumption) ?_
                                      have hr : rwd c nn pl ps i p = (true, p + 4) := by
                                        unfold rwd
                                        rw [if_neg (by omega), if_neg (fun z => z f1), if_neg (fun z => z f2), if_neg (fun z => z f3), if_neg (fun z => z f4)]
                                      refine hT (by rw [hr]) (by rw [hr]) _ (fun q2 k2 v1 v2 v3 => ?_) ?_ ?_ ?_ ?_ ?_ ?_ ?_ f1 f3 f4 (by omega) f2
                                      · rw [dz_up_o (by omega), dz_up_o (by omega), dz_up_o (by omega), dz_up_o (by omega), dz_up_o (by omega)]
                                        rw [w1 _ _ v1, y1 _ _ v1, n1 _ _ v1 (by omega)]
                                      · repeat (first | rw [dz_up_ne (by omega)])
                                        exact w2
                                      · rw [dz_up_eq]
                                        omega
                                      · repeat (first | rw [dz_up_ne (by omega)])
                                        rw [dz_up_eq, eK, hk]
                                      · repeat (first | rw [dz_up_ne (by omega)])
                                        rw [w1 _ _ (by omega), y1 _ _ (by omega), n3, eP]
                                      · repeat (first | rw [dz_up_ne (by omega)])
                                        rw [dz_up_eq, eV]
                                        first
                                          | rw [if_pos (by omega)]
                                          | rw [if_neg (by omega)]
                                      · repeat (first | rw [dz_up_ne (by omega)])
                                        rw [dz_up_eq, eW]
                                        first
                                          | rw [if_pos (by omega)]
                                          | rw [if_neg (by omega)]
                                      · repeat (first | rw [dz_up_ne (by omega)])
                                        rw [dz_up_eq, eN]
                                        first
                                          | rw [if_pos (by omega)]
                                          | rw [if_neg (by omega)]))
                            · first
                              | (exfalso; omega)
                              | (skip
                                 refine xr_iconst hc rfl ?_
                                 refine xr_goto hc rfl (t := 122) rfl ?_
                                 refine xr_iastore hc rfl (by first | assumption | rfl) (by first | omega | (unfold dz_w; omega)) (by first | omega | (unfold dz_w; omega)) ?_
                                 rw [Int.toNat_natCast]
                                 refine xr_aloadn hc rfl rfl ?_
                                 refine xr_getfr hc rfl rfl (by first | assumption | rfl) (by first | assumption | rfl) ?_
                                 refine xr_getfr hc rfl rfl (by first | assumption | rfl) (by first | assumption | rfl) ?_
                                 refine xr_iloadn hc rfl rfl ?_
                                 refine xr_iloadn hc rfl rfl ?_
                                 refine xr_if_ne hc rfl (t := 139) rfl (fun b132 => ?_) (fun b132 => ?_)
                                 · first
                                   | (exfalso; omega)
                                   | (skip
                                      refine xr_iload hc rfl rfl ?_
                                      refine xr_iastore hc rfl (by first | assumption | rfl) (by first | omega | (unfold dz_w; omega)) (by first | omega | (unfold dz_w; omega)) ?_
                                      rw [Int.toNat_natCast]
                                      refine xr_aloadn hc rfl rfl ?_
                                      refine xr_getfr hc rfl rfl (by first | assumption | rfl) (by first | assumption | rfl) ?_
                                      refine xr_iloadn hc rfl rfl ?_
                                      refine xr_iconst hc rfl ?_
                                      refine xr_iaddz hc rfl (by first | exact dz_wid (by first | omega | (unfold dz_w; omega)) (by first | omega | (unfold dz_w; omega)) | rfl) ?_
                                      refine xr_putfi hc rfl rfl (by first | assumption | rfl) ?_
                                      refine xr_iconst hc rfl ?_
                                      refine xr_zreturn hc rfl rfl (Nat.zero_le _) (Nat.zero_le _) (by first | exact Or.inl rfl | exact Or.inr rfl | assumption) ?_
                                      have hr : rwd c nn pl ps i p = (true, p + 4) := by
                                        unfold rwd
                                        rw [if_neg (by omega), if_neg (fun z => z f1), if_neg (fun z => z f2), if_neg (fun z => z f3), if_neg (fun z => z f4)]
                                      refine hT (by rw [hr]) (by rw [hr]) _ (fun q2 k2 v1 v2 v3 => ?_) ?_ ?_ ?_ ?_ ?_ ?_ ?_ f1 f3 f4 (by omega) f2
                                      · rw [dz_up_o (by omega), dz_up_o (by omega), dz_up_o (by omega), dz_up_o (by omega), dz_up_o (by omega)]
                                        rw [w1 _ _ v1, y1 _ _ v1, n1 _ _ v1 (by omega)]
                                      · repeat (first | rw [dz_up_ne (by omega)])
                                        exact w2
                                      · rw [dz_up_eq]
                                        omega
                                      · repeat (first | rw [dz_up_ne (by omega)])
                                        rw [dz_up_eq, eK, hk]
                                      · repeat (first | rw [dz_up_ne (by omega)])
                                        rw [w1 _ _ (by omega), y1 _ _ (by omega), n3, eP]
                                      · repeat (first | rw [dz_up_ne (by omega)])
                                        rw [dz_up_eq, eV]
                                        first
                                          | rw [if_pos (by omega)]
                                          | rw [if_neg (by omega)]
                                      · repeat (first | rw [dz_up_ne (by omega)])
                                        rw [dz_up_eq, eW]
                                        first
                                          | rw [if_pos (by omega)]
                                          | rw [if_neg (by omega)]
                                      · repeat (first | rw [dz_up_ne (by omega)])
                                        rw [dz_up_eq, eN]
                                        first
                                          | rw [if_pos (by omega)]
                                          | rw [if_neg (by omega)])
                                 · first
                                   | (exfalso; omega)
                                   | (skip
                                      refine xr_iconst hc rfl ?_
                                      refine xr_goto hc rfl (t := 141) rfl ?_
                                      refine xr_iastore hc rfl (by first | assumption | rfl) (by first | omega | (unfold dz_w; omega)) (by first | omega | (unfold dz_w; omega)) ?_
                                      rw [Int.toNat_natCast]
                                      refine xr_aloadn hc rfl rfl ?_
                                      refine xr_getfr hc rfl rfl (by first | assumption | rfl) (by first | assumption | rfl) ?_
                                      refine xr_iloadn hc rfl rfl ?_
                                      refine xr_iconst hc rfl ?_
                                      refine xr_iaddz hc rfl (by first | exact dz_wid (by first | omega | (unfold dz_w; omega)) (by first | omega | (unfold dz_w; omega)) | rfl) ?_
                                      refine xr_putfi hc rfl rfl (by first | assumption | rfl) ?_
                                      refine xr_iconst hc rfl ?_
                                      refine xr_zreturn hc rfl rfl (Nat.zero_le _) (Nat.zero_le _) (by first | exact Or.inl rfl | exact Or.inr rfl | assumption) ?_
                                      have hr : rwd c nn pl ps i p = (true, p + 4) := by
                                        unfold rwd
                                        rw [if_neg (by omega), if_neg (fun z => z f1), if_neg (fun z => z f2), if_neg (fun z => z f3), if_neg (fun z => z f4)]
                                      refine hT (by rw [hr]) (by rw [hr]) _ (fun q2 k2 v1 v2 v3 => ?_) ?_ ?_ ?_ ?_ ?_ ?_ ?_ f1 f3 f4 (by omega) f2
                                      · rw [dz_up_o (by omega), dz_up_o (by omega), dz_up_o (by omega), dz_up_o (by omega), dz_up_o (by omega)]
                                        rw [w1 _ _ v1, y1 _ _ v1, n1 _ _ v1 (by omega)]
                                      · repeat (first | rw [dz_up_ne (by omega)])
                                        exact w2
                                      · rw [dz_up_eq]
                                        omega
                                      · repeat (first | rw [dz_up_ne (by omega)])
                                        rw [dz_up_eq, eK, hk]
                                      · repeat (first | rw [dz_up_ne (by omega)])
                                        rw [w1 _ _ (by omega), y1 _ _ (by omega), n3, eP]
                                      · repeat (first | rw [dz_up_ne (by omega)])
                                        rw [dz_up_eq, eV]
                                        first
                                          | rw [if_pos (by omega)]
                                          | rw [if_neg (by omega)]
                                      · repeat (first | rw [dz_up_ne (by omega)])
                                        rw [dz_up_eq, eW]
                                        first
                                          | rw [if_pos (by omega)]
                                          | rw [if_neg (by omega)]
                                      · repeat (first | rw [dz_up_ne (by omega)])
                                        rw [dz_up_eq, eN]
                                        first
                                          | rw [if_pos (by omega)]
                                          | rw [if_neg (by omega)]))))
                  · first
                    | (exfalso; omega)
                    | (skip
                       refine xr_iconst hc rfl ?_
                       refine xr_zreturn hc rfl rfl (Nat.zero_le _) (Nat.zero_le _) (by first | exact Or.inl rfl | exact Or.inr rfl | assumption) ?_
                       first
                         | (exfalso; omega)
                         | (have hr : rwd c nn pl ps i p = (false, p + 3) := by
                              unfold rwd
                              rw [if_neg (by omega), if_neg (fun z => z f1), if_neg (fun z => z f2), if_neg (fun z => z f3), if_pos f4]
                            refine hF (by rw [hr]) N2 (fun q2 k2 v1 v2 v3 => by rw [y1 _ _ v1, n1 _ _ v1 (by omega)]) (by rw [hr]; exact y2) (by rw [hr]; have z := f3.1; show p + 3 ≤ nn; omega))
                         | (have hr : rwd c nn pl ps i p = (false, p + 2) := by
                              unfold rwd
                              rw [if_neg (by omega), if_neg (fun z => z f1), if_neg (fun z => z f2), if_pos f3]
                            refine hF (by rw [hr]) N (fun q2 k2 v1 v2 v3 => by rw [n1 _ _ v1 (by omega)]) (by rw [hr]; exact n2) (by rw [hr]; have z := f1.1; show p + 2 ≤ nn; omega)))
                · refine xk_1 ?_
                  refine xr_istore5 hc rfl rfl ?_
                  refine xr_iload hc rfl rfl ?_
                  refine xr_bipush hc rfl ?_
                  refine xr_icmp_ne hc rfl (t := 69) rfl (fun b64 => ?_) (fun b64 => ?_)
                  · first
                    | (exfalso; omega)
                    | (skip
                       refine xr_aloadn hc rfl rfl ?_
                       refine xr_getfr hc rfl rfl (by first | assumption | rfl) (by first | assumption | rfl) ?_
                       refine xr_getfr hc rfl rfl (by first | assumption | rfl) (by first | assumption | rfl) ?_
                       refine xr_iloadn hc rfl rfl ?_
                       refine xr_iloadn hc rfl rfl ?_
                       refine xr_iastore hc rfl (by first | assumption | rfl) (by first | omega | (unfold dz_w; omega)) (by first | omega | (unfold dz_w; omega)) ?_
                       rw [Int.toNat_natCast]
                       refine xr_aloadn hc rfl rfl ?_
                       refine xr_getfr hc rfl rfl (by first | assumption | rfl) (by first | assumption | rfl) ?_
                       refine xr_getfr hc rfl rfl (by first | assumption | rfl) (by first | assumption | rfl) ?_
                       refine xr_iloadn hc rfl rfl ?_
                       refine xr_iloadn hc rfl rfl ?_
                       refine xr_if_ne hc rfl (t := 102) rfl (fun b88 => ?_) (fun b88 => ?_)
                       · first
                         | (exfalso; omega)
                         | (skip
                            refine xr_iconst hc rfl ?_
                            refine xr_iastore hc rfl (by first | assumption | rfl) (by first | omega | (unfold dz_w; omega)) (by first | omega | (unfold dz_w; omega)) ?_
                            rw [Int.toNat_natCast]
                            refine xr_aloadn hc rfl rfl ?_
                            refine xr_getfr hc rfl rfl (by first | assumption | rfl) (by first | assumption | rfl) ?_
                            refine xr_getfr hc rfl rfl (by first | assumption | rfl) (by first | assumption | rfl) ?_
                            refine xr_iloadn hc rfl rfl ?_
                            refine xr_iloadn hc rfl rfl ?_
                            refine xr_if_ne hc rfl (t := 120) rfl (fun b113 => ?_) (fun b113 => ?_)
                            · first
                              | (exfalso; omega)
                              | (skip
                                 refine xr_iload hc rfl rfl ?_
                                 refine xr_iastore hc rfl (by first | assumption | rfl) (by first | omega | (unfold dz_w; omega)) (by first | omega | (unfold dz_w; omega)) ?_
                                 rw [Int.toNat_natCast]
                                 refine xr_aloadn hc rfl rfl ?_
                                 refine xr_getfr hc rfl rfl (by first | assumption | rfl) (by first | assumption | rfl) ?_
                                 refine xr_getfr hc rfl rfl (by first | assumption | rfl) (by first | assumption | rfl) ?_
                                 refine xr_iloadn hc rfl rfl ?_
                                 refine xr_iloadn hc rfl rfl ?_
                                 refine xr_if_ne hc rfl (t := 139) rfl (fun b132 => ?_) (fun b132 => ?_)
                                 · first
                                   | (exfalso; omega)
                                   | (skip
                                      refine xr_iload hc rfl rfl ?_
                                      refine xr_iastore hc rfl (by first | assumption | rfl) (by first | omega | (unfold dz_w; omega)) (by first | omega | (unfold dz_w; omega)) ?_
                                      rw [Int.toNat_natCast]
                                      refine xr_aloadn hc rfl rfl ?_
                                      refine xr_getfr hc rfl rfl (by first | assumption | rfl) (by first | assumption | rfl) ?_
                                      refine xr_iloadn hc rfl rfl ?_
                                      refine xr_iconst hc rfl ?_
                                      refine xr_iaddz hc rfl (by first | exact dz_wid (by first | omega | (unfold dz_w; omega)) (by first | omega | (unfold dz_w; omega)) | rfl) ?_
                                      refine xr_putfi hc rfl rfl (by first | assumption | rfl) ?_
                                      refine xr_iconst hc rfl ?_
                                      refine xr_zreturn hc rfl rfl (Nat.zero_le _) (Nat.zero_le _) (by first | exact Or.inl rfl | exact Or.inr rfl | assumption) ?_
                                      have hr : rwd c nn pl ps i p = (true, p + 4) := by
                                        unfold rwd
                                        rw [if_neg (by omega), if_neg (fun z => z f1), if_neg (fun z => z f2), if_neg (fun z => z f3), if_neg (fun z => z f4)]
                                      refine hT (by rw [hr]) (by rw [hr]) _ (fun q2 k2 v1 v2 v3 => ?_) ?_ ?_ ?_ ?_ ?_ ?_ ?_ f1 f3 f4 (by omega) f2
                                      · rw [dz_up_o (by omega), dz_up_o (by omega), dz_up_o (by omega), dz_up_o (by omega), dz_up_o (by omega)]
                                        rw [w1 _ _ v1, y1 _ _ v1, n1 _ _ v1 (by omega)]
                                      · repeat (first | rw [dz_up_ne (by omega)])
                                        exact w2
                                      · rw [dz_up_eq]
                                        omega
                                      · repeat (first | rw [dz_up_ne (by omega)])
                                        rw [dz_up_eq, eK, hk]
                                      · repeat (first | rw [dz_up_ne (by omega)])
                                        rw [w1 _ _ (by omega), y1 _ _ (by omega), n3, eP]
                                      · repeat (first | rw [dz_up_ne (by omega)])
                                        rw [dz_up_eq, eV]
                                        first
                                          | rw [if_pos (by omega)]
                                          | rw [if_neg (by omega)]
                                      · repeat (first | rw [dz_up_ne (by omega)])
                                        rw [dz_up_eq, eW]
                                        first
                                          | rw [if_pos (by omega)]
                                          | rw [if_neg (by omega)]
                                      · repeat (first | rw [dz_up_ne (by omega)])
                                        rw [dz_up_eq, eN]
                                        first
                                          | rw [if_pos (by omega)]
                                          | rw [if_neg (by omega)])
                                 · first
                                   | (exfalso; omega)
                                   | (skip
                                      refine xr_iconst hc rfl ?_
                                      refine xr_goto hc rfl (t := 141) rfl ?_
                                      refine xr_iastore hc rfl (by first | assumption | rfl) (by first | omega | (unfold dz_w; omega)) (by first | omega | (unfold dz_w; omega)) ?_
                                      rw [Int.toNat_natCast]
                                      refine xr_aloadn hc rfl rfl ?_
                                      refine xr_getfr hc rfl rfl (by first | assumption | rfl) (by first | assumption | rfl) ?_
                                      refine xr_iloadn hc rfl rfl ?_
                                      refine xr_iconst hc rfl ?_
                                      refine xr_iaddz hc rfl (by first | exact dz_wid (by first | omega | (unfold dz_w; omega)) (by first | omega | (unfold dz_w; omega)) | rfl) ?_
                                      refine xr_putfi hc rfl rfl (by first | assumption | rfl) ?_
                                      refine xr_iconst hc rfl ?_
                                      refine xr_zreturn hc rfl rfl (Nat.zero_le _) (Nat.zero_le _) (by first | exact Or.inl rfl | exact Or.inr rfl | assumption) ?_
                                      have hr : rwd c nn pl ps i p = (true, p + 4) := by
                                        unfold rwd
                                        rw [if_neg (by omega), if_neg (fun z => z f1), if_neg (fun z => z f2), if_neg (fun z => z f3), if_neg (fun z => z f4)]
                                      refine hT (by rw [hr]) (by rw [hr]) _ (fun q2 k2 v1 v2 v3 => ?_) ?_ ?_ ?_ ?_ ?_ ?_ ?_ f1 f3 f4 (by omega) f2
                                      · rw [dz_up_o (by omega), dz_up_o (by omega), dz_up_o (by omega), dz_up_o (by omega), dz_up_o (by omega)]
                                        rw [w1 _ _ v1, y1 _ _ v1, n1 _ _ v1 (by omega)]
                                      · repeat (first | rw [dz_up_ne (by omega)])
                                        exact w2
                                      · rw [dz_up_eq]
                                        omega
                                      · repeat (first | rw [dz_up_ne (by omega)])
                                        rw [dz_up_eq, eK, hk]
                                      · repeat (first | rw [dz_up_ne (by omega)])
                                        rw [w1 _ _ (by omega), y1 _ _ (by omega), n3, eP]
                                      · repeat (first | rw [dz_up_ne (by omega)])
                                        rw [dz_up_eq, eV]
                                        first
                                          | rw [if_pos (by omega)]
                                          | rw [if_neg (by omega)]
                                      · repeat (first | rw [dz_up_ne (by omega)])
                                        rw [dz_up_eq, eW]
                                        first
                                          | rw [if_pos (by omega)]
                                          | rw [if_neg (by omega)]
                                      · repeat (first | rw [dz_up_ne (by omega)])
                                        rw [dz_up_eq, eN]
                                        first
                                          | rw [if_pos (by omega)]
                                          | rw [if_neg (by omega)]))
                            · first
                              | (exfalso; omega)
                              | (skip
                                 refine xr_iconst hc rfl ?_
                                 refine xr_goto hc rfl (t := 122) rfl ?_
                                 refine xr_iastore hc rfl (by first | assumption | rfl) (by first | omega | (unfold dz_w; omega)) (by first | omega | (unfold dz_w; omega)) ?_
                                 rw [Int.toNat_natCast]
                                 refine xr_aloadn hc rfl rfl ?_
                                 refine xr_getfr hc rfl rfl (by first | assumption | rfl) (by first | assumption | rfl) ?_
                                 refine xr_getfr hc rfl rfl (by first | assumption | rfl) (by first | assumption | rfl) ?_
                                 refine xr_iloadn hc rfl rfl ?_
                                 refine xr_iloadn hc rfl rfl ?_
                                 refine xr_if_ne hc rfl (t := 139) rfl (fun b132 => ?_) (fun b132 => ?_)
                                 · first
                                   | (exfalso; omega)
                                   | (skip
                                      refine xr_iload hc rfl rfl ?_
                                      refine xr_iastore hc rfl (by first | assumption | rfl) (by first | omega | (unfold dz_w; omega)) (by first | omega | (unfold dz_w; omega)) ?_
                                      rw [Int.toNat_natCast]
                                      refine xr_aloadn hc rfl rfl ?_
                                      refine xr_getfr hc rfl rfl (by first | assumption | rfl) (by first | assumption | rfl) ?_
                                      refine xr_iloadn hc rfl rfl ?_
                                      refine xr_iconst hc rfl ?_
                                      refine xr_iaddz hc rfl (by first | exact dz_wid (by first | omega | (unfold dz_w; omega)) (by first | omega | (unfold dz_w; omega)) | rfl) ?_
                                      refine xr_putfi hc rfl rfl (by first | assumption | rfl) ?_
                                      refine xr_iconst hc rfl ?_
                                      refine xr_zreturn hc rfl rfl (Nat.zero_le _) (Nat.zero_le _) (by first | exact Or.inl rfl | exact Or.inr rfl | assumption) ?_
                                      have hr : rwd c nn pl ps i p = (true, p + 4) := by
                                        unfold rwd
                                        rw [if_neg (by omega), if_neg (fun z => z f1), if_neg (fun z => z f2), if_neg (fun z => z f3), if_neg (fun z => z f4)]
                                      refine hT (by rw [hr]) (by rw [hr]) _ (fun q2 k2 v1 v2 v3 => ?_) ?_ ?_ ?_ ?_ ?_ ?_ ?_ f1 f3 f4 (by omega) f2
                                      · rw [dz_up_o (by omega), dz_up_o (by omega), dz_up_o (by omega), dz_up_o (by omega), dz_up_o (by omega)]
                                        rw [w1 _ _ v1, y1 _ _ v1, n1 _ _ v1 (by omega)]
                                      · repeat (first | rw [dz_up_ne (by omega)])
                                        exact w2
                                      · rw [dz_up_eq]
                                        omega
                                      · repeat (first | rw [dz_up_ne (by omega)])
                                        rw [dz_up_eq, eK, hk]
                                      · repeat (first | rw [dz_up_ne (by omega)])
                                        rw [w1 _ _ (by omega), y1 _ _ (by omega), n3, eP]
                                      · repeat (first | rw [dz_up_ne (by omega)])
                                        rw [dz_up_eq, eV]
                                        first
                                          | rw [if_pos (by omega)]
                                          | rw [if_neg (by omega)]
                                      · repeat (first | rw [dz_up_ne (by omega)])
                                        rw [dz_up_eq, eW]
                                        first
                                          | rw [if_pos (by omega)]
                                          | rw [if_neg (by omega)]
                                      · repeat (first | rw [dz_up_ne (by omega)])
                                        rw [dz_up_eq, eN]
                                        first
                                          | rw [if_pos (by omega)]
                                          | rw [if_neg (by omega)])
                                 · first
                                   | (exfalso; omega)
                                   | (skip
                                      refine xr_iconst hc rfl ?_
                                      refine xr_goto hc rfl (t := 141) rfl ?_
                                      refine xr_iastore hc rfl (by first | assumption | rfl) (by first | omega | (unfold dz_w; omega)) (by first | omega | (unfold dz_w; omega)) ?_
                                      rw [Int.toNat_natCast]
                                      refine xr_aloadn hc rfl rfl ?_
                                      refine xr_getfr hc rfl rfl (by first | assumption | rfl) (by first | assumption | rfl) ?_
                                      refine xr_iloadn hc rfl rfl ?_
                                      refine xr_iconst hc rfl ?_
                                      refine xr_iaddz hc rfl (by first | exact dz_wid (by first | omega | (unfold dz_w; omega)) (by first | omega | (unfold dz_w; omega)) | rfl) ?_
                                      refine xr_putfi hc rfl rfl (by first | assumption | rfl) ?_
                                      refine xr_iconst hc rfl ?_
                                      refine xr_zreturn hc rfl rfl (Nat.zero_le _) (Nat.zero_le _) (by first | exact Or.inl rfl | exact Or.inr rfl | assumption) ?_
                                      have hr : rwd c nn pl ps i p = (true, p + 4) := by
                                        unfold rwd
                                        rw [if_neg (by omega), if_neg (fun z => z f1), if_neg (fun z => z f2), if_neg (fun z => z f3), if_neg (fun z => z f4)]
                                      refine hT (by rw [hr]) (by rw [hr]) _ (fun q2 k2 v1 v2 v3 => ?_) ?_ ?_ ?_ ?_ ?_ ?_ ?_ f1 f3 f4 (by omega) f2
                                      · rw [dz_up_o (by omega), dz_up_o (by omega), dz_up_o (by omega), dz_up_o (by omega), dz_up_o (by omega)]
                                        rw [w1 _ _ v1, y1 _ _ v1, n1 _ _ v1 (by omega)]
                                      · repeat (first | rw [dz_up_ne (by omega)])
                                        exact w2
                                      · rw [dz_up_eq]
                                        omega
                                      · repeat (first | rw [dz_up_ne (by omega)])
                                        rw [dz_up_eq, eK, hk]
                                      · repeat (first | rw [dz_up_ne (by omega)])
                                        rw [w1 _ _ (by omega), y1 _ _ (by omega), n3, eP]
                                      · repeat (first | rw [dz_up_ne (by omega)])
                                        rw [dz_up_eq, eV]
                                        first
                                          | rw [if_pos (by omega)]
                                          | rw [if_neg (by omega)]
                                      · repeat (first | rw [dz_up_ne (by omega)])
                                        rw [dz_up_eq, eW]
                                        first
                                          | rw [if_pos (by omega)]
                                          | rw [if_neg (by omega)]
                                      · repeat (first | rw [dz_up_ne (by omega)])
                                        rw [dz_up_eq, eN]
                                        first
                                          | rw [if_pos (by omega)]
                                          | rw [if_neg (by omega)])))
                       · first
                         | (exfalso; omega)
                         | (skip
                            refine xr_bipush hc rfl ?_
                            refine xr_iload hc rfl rfl ?_
                            refine xr_imulz hc rfl (by first | exact dz_wid (by first | omega | (unfold dz_w; omega)) (by first | omega | (unfold dz_w; omega)) | rfl) ?_
                            refine xr_iload hc rfl rfl ?_
                            refine xr_iaddz hc rfl (by first | exact dz_wid (by first | omega | (unfold dz_w; omega)) (by first | omega | (unfold dz_w; omega)) | rfl) ?_
                            refine xr_goto hc rfl (t := 103) rfl ?_
                            refine xr_iastore hc rfl (by first | assumption | rfl) (by first | omega | (unfold dz_w; omega)) (by first | omega | (unfold dz_w; omega)) ?_
                            rw [Int.toNat_natCast]
                            refine xr_aloadn hc rfl rfl ?_
                            refine xr_getfr hc rfl rfl (by first | assumption | rfl) (by first | assumption | rfl) ?_
                            refine xr_getfr hc rfl rfl (by first | assumption | rfl) (by first | assumption | rfl) ?_
                            refine xr_iloadn hc rfl rfl ?_
                            refine xr_iloadn hc rfl rfl ?_
                            refine xr_if_ne hc rfl (t := 120) rfl (fun b113 => ?_) (fun b113 => ?_)
                            · first
                              | (exfalso; omega)
                              | (skip
                                 refine xr_iload hc rfl rfl ?_
                                 refine xr_iastore hc rfl (by first | assumption | rfl) (by first | omega | (unfold dz_w; omega)) (by first | omega | (unfold dz_w; omega)) ?_
                                 rw [Int.toNat_natCast]
                                 refine xr_aloadn hc rfl rfl ?_
                                 refine xr_getfr hc rfl rfl (by first | assumption | rfl) (by first | assumption | rfl) ?_
                                 refine xr_getfr hc rfl rfl (by first | assumption | rfl) (by first | assumption | rfl) ?_
                                 refine xr_iloadn hc rfl rfl ?_
                                 refine xr_iloadn hc rfl rfl ?_
                                 refine xr_if_ne hc rfl (t := 139) rfl (fun b132 => ?_) (fun b132 => ?_)
                                 · first
                                   | (exfalso; omega)
                                   | (skip
                                      refine xr_iload hc rfl rfl ?_
                                      refine xr_iastore hc rfl (by first | assumption | rfl) (by first | omega | (unfold dz_w; omega)) (by first | omega | (unfold dz_w; omega)) ?_
                                      rw [Int.toNat_natCast]
                                      refine xr_aloadn hc rfl rfl ?_
                                      refine xr_getfr hc rfl rfl (by first | assumption | rfl) (by first | assumption | rfl) ?_
                                      refine xr_iloadn hc rfl rfl ?_
                                      refine xr_iconst hc rfl ?_
                                      refine xr_iaddz hc rfl (by first | exact dz_wid (by first | omega | (unfold dz_w; omega)) (by first | omega | (unfold dz_w; omega)) | rfl) ?_
                                      refine xr_putfi hc rfl rfl (by first | assumption | rfl) ?_
                                      refine xr_iconst hc rfl ?_
                                      refine xr_zreturn hc rfl rfl (Nat.zero_le _) (Nat.zero_le _) (by first | exact Or.inl rfl | exact Or.inr rfl | assumption) ?_
                                      have hr : rwd c nn pl ps i p = (true, p + 4) := by
                                        unfold rwd
                                        rw [if_neg (by omega), if_neg (fun z => z f1), if_neg (fun z => z f2), if_neg (fun z => z f3), if_neg (fun z => z f4)]
                                      refine hT (by rw [hr]) (by rw [hr]) _ (fun q2 k2 v1 v2 v3 => ?_) ?_ ?_ ?_ ?_ ?_ ?_ ?_ f1 f3 f4 (by omega) f2
                                      · rw [dz_up_o (by omega), dz_up_o (by omega), dz_up_o (by omega), dz_up_o (by omega), dz_up_o (by omega)]
                                        rw [w1 _ _ v1, y1 _ _ v1, n1 _ _ v1 (by omega)]
                                      · repeat (first | rw [dz_up_ne (by omega)])
                                        exact w2
                                      · rw [dz_up_eq]
                                        omega
                                      · repeat (first | rw [dz_up_ne (by omega)])
                                        rw [dz_up_eq, eK, hk]
                                      · repeat (first | rw [dz_up_ne (by omega)])
                                        rw [w1 _ _ (by omega), y1 _ _ (by omega), n3, eP]
                                      · repeat (first | rw [dz_up_ne (by omega)])
                                        rw [dz_up_eq, eV]
                                        first
                                          | rw [if_pos (by omega)]
                                          | rw [if_neg (by omega)]
                                      · repeat (first | rw [dz_up_ne (by omega)])
                                        rw [dz_up_eq, eW]
                                        first
                                          | rw [if_pos (by omega)]
                                          | rw [if_neg (by omega)]
                                      · repeat (first | rw [dz_up_ne (by omega)])
                                        rw [dz_up_eq, eN]
                                        first
                                          | rw [if_pos (by omega)]
                                          | rw [if_neg (by omega)])
                                 · first
                                   | (exfalso; omega)
                                   | (skip
                                      refine xr_iconst hc rfl ?_
                                      refine xr_goto hc rfl (t := 141) rfl ?_
                                      refine xr_iastore hc rfl (by first | assumption | rfl) (by first | omega | (unfold dz_w; omega)) (by first | omega | (unfold dz_w; omega)) ?_
                                      rw [Int.toNat_natCast]
                                      refine xr_aloadn hc rfl rfl ?_
                                      refine xr_getfr hc rfl rfl (by first | assumption | rfl) (by first | assumption | rfl) ?_
                                      refine xr_iloadn hc rfl rfl ?_
                                      refine xr_iconst hc rfl ?_
                                      refine xr_iaddz hc rfl (by first | exact dz_wid (by first | omega | (unfold dz_w; omega)) (by first | omega | (unfold dz_w; omega)) | rfl) ?_
                                      refine xr_putfi hc rfl rfl (by first | assumption | rfl) ?_
                                      refine xr_iconst hc rfl ?_
                                      refine xr_zreturn hc rfl rfl (Nat.zero_le _) (Nat.zero_le _) (by first | exact Or.inl rfl | exact Or.inr rfl | assumption) ?_
                                      have hr : rwd c nn pl ps i p = (true, p + 4) := by
                                        unfold rwd
                                        rw [if_neg (by omega), if_neg (fun z => z f1), if_neg (fun z => z f2), if_neg (fun z => z f3), if_neg (fun z => z f4)]
                                      refine hT (by rw [hr]) (by rw [hr]) _ (fun q2 k2 v1 v2 v3 => ?_) ?_ ?_ ?_ ?_ ?_ ?_ ?_ f1 f3 f4 (by omega) f2
                                      · rw [dz_up_o (by omega), dz_up_o (by omega), dz_up_o (by omega), dz_up_o (by omega), dz_up_o (by omega)]
                                        rw [w1 _ _ v1, y1 _ _ v1, n1 _ _ v1 (by omega)]
                                      · repeat (first | rw [dz_up_ne (by omega)])
                                        exact w2
                                      · rw [dz_up_eq]
                                        omega
                                      · repeat (first | rw [dz_up_ne (by omega)])
                                        rw [dz_up_eq, eK, hk]
                                      · repeat (first | rw [dz_up_ne (by omega)])
                                        rw [w1 _ _ (by omega), y1 _ _ (by omega), n3, eP]
                                      · repeat (first | rw [dz_up_ne (by omega)])
                                        rw [dz_up_eq, eV]
                                        first
                                          | rw [if_pos (by omega)]
                                          | rw [if_neg (by omega)]
                                      · repeat (first | rw [dz_up_ne (by omega)])
                                        rw [dz_up_eq, eW]
                                        first
                                          | rw [if_pos (by omega)]
                                          | rw [if_neg (by omega)]
                                      · repeat (first | rw [dz_up_ne (by omega)])
                                        rw [dz_up_eq, eN]
                                        first
                                          | rw [if_pos (by omega)]
                                          | rw [if_neg (by omega)]))
                            · first
                              | (exfalso; omega)
                              | (skip
                                 refine xr_iconst hc rfl ?_
                                 refine xr_goto hc rfl (t := 122) rfl ?_
                                 refine xr_iastore hc rfl (by first | assumption | rfl) (by first | omega | (unfold dz_w; omega)) (by first | omega | (unfold dz_w; omega)) ?_
                                 rw [Int.toNat_natCast]
                                 refine xr_aloadn hc rfl rfl ?_
                                 refine xr_getfr hc rfl rfl (by first | assumption | rfl) (by first | assumption | rfl) ?_
                                 refine xr_getfr hc rfl rfl (by first | assumption | rfl) (by first | assumption | rfl) ?_
                                 refine xr_iloadn hc rfl rfl ?_
                                 refine xr_iloadn hc rfl rfl ?_
                                 refine xr_if_ne hc rfl (t := 139) rfl (fun b132 => ?_) (fun b132 => ?_)
                                 · first
                                   | (exfalso; omega)
                                   | (skip
                                      refine xr_iload hc rfl rfl ?_
                                      refine xr_iastore hc rfl (by first | assumption | rfl) (by first | omega | (unfold dz_w; omega)) (by first | omega | (unfold dz_w; omega)) ?_
                                      rw [Int.toNat_natCast]
                                      refine xr_aloadn hc rfl rfl ?_
                                      refine xr_getfr hc rfl rfl (by first | assumption | rfl) (by first | assumption | rfl) ?_
                                      refine xr_iloadn hc rfl rfl ?_
                                      refine xr_iconst hc rfl ?_
                                      refine xr_iaddz hc rfl (by first | exact dz_wid (by first | omega | (unfold dz_w; omega)) (by first | omega | (unfold dz_w; omega)) | rfl) ?_
                                      refine xr_putfi hc rfl rfl (by first | assumption | rfl) ?_
                                      refine xr_iconst hc rfl ?_
                                      refine xr_zreturn hc rfl rfl (Nat.zero_le _) (Nat.zero_le _) (by first | exact Or.inl rfl | exact Or.inr rfl | assumption) ?_
                                      have hr : rwd c nn pl ps i p = (true, p + 4) := by
                                        unfold rwd
                                        rw [if_neg (by omega), if_neg (fun z => z f1), if_neg (fun z => z f2), if_neg (fun z => z f3), if_neg (fun z => z f4)]
                                      refine hT (by rw [hr]) (by rw [hr]) _ (fun q2 k2 v1 v2 v3 => ?_) ?_ ?_ ?_ ?_ ?_ ?_ ?_ f1 f3 f4 (by omega) f2
                                      · rw [dz_up_o (by omega), dz_up_o (by omega), dz_up_o (by omega), dz_up_o (by omega), dz_up_o (by omega)]
                                        rw [w1 _ _ v1, y1 _ _ v1, n1 _ _ v1 (by omega)]
                                      · repeat (first | rw [dz_up_ne (by omega)])
                                        exact w2
                                      · rw [dz_up_eq]
                                        omega
                                      · repeat (first | rw [dz_up_ne (by omega)])
                                        rw [dz_up_eq, eK, hk]
                                      · repeat (first | rw [dz_up_ne (by omega)])
                                        rw [w1 _ _ (by omega), y1 _ _ (by omega), n3, eP]
                                      · repeat (first | rw [dz_up_ne (by omega)])
                                        rw [dz_up_eq, eV]
                                        first
                                          | rw [if_pos (by omega)]
                                          | rw [if_neg (by omega)]
                                      · repeat (first | rw [dz_up_ne (by omega)])
                                        rw [dz_up_eq, eW]
                                        first
                                          | rw [if_pos (by omega)]
                                          | rw [if_neg (by omega)]
                                      · repeat (first | rw [dz_up_ne (by omega)])
                                        rw [dz_up_eq, eN]
                                        first
                                          | rw [if_pos (by omega)]
                                          | rw [if_neg (by omega)])
                                 · first
                                   | (exfalso; omega)
                                   | (skip
                                      refine xr_iconst hc rfl ?_
                                      refine xr_goto hc rfl (t := 141) rfl ?_
                                      refine xr_iastore hc rfl (by first | assumption | rfl) (by first | omega | (unfold dz_w; omega)) (by first | omega | (unfold dz_w; omega)) ?_
                                      rw [Int.toNat_natCast]
                                      refine xr_aloadn hc rfl rfl ?_
                                      refine xr_getfr hc rfl rfl (by first | assumption | rfl) (by first | assumption | rfl) ?_
                                      refine xr_iloadn hc rfl rfl ?_
                                      refine xr_iconst hc rfl ?_
                                      refine xr_iaddz hc rfl (by first | exact dz_wid (by first | omega | (unfold dz_w; omega)) (by first | omega | (unfold dz_w; omega)) | rfl) ?_
                                      refine xr_putfi hc rfl rfl (by first | assumption | rfl) ?_
                                      refine xr_iconst hc rfl ?_
                                      refine xr_zreturn hc rfl rfl (Nat.zero_le _) (Nat.zero_le _) (by first | exact Or.inl rfl | exact Or.inr rfl | assumption) ?_
                                      have hr : rwd c nn pl ps i p = (true, p + 4) := by
                                        unfold rwd
                                        rw [if_neg (by omega), if_neg (fun z => z f1), if_neg (fun z => z f2), if_neg (fun z => z f3), if_neg (fun z => z f4)]
                                      refine hT (by rw [hr]) (by rw [hr]) _ (fun q2 k2 v1 v2 v3 => ?_) ?_ ?_ ?_ ?_ ?_ ?_ ?_ f1 f3 f4 (by omega) f2
                                      · rw [dz_up_o (by omega), dz_up_o (by omega), dz_up_o (by omega), dz_up_o (by omega), dz_up_o (by omega)]
                                        rw [w1 _ _ v1, y1 _ _ v1, n1 _ _ v1 (by omega)]
                                      · repeat (first | rw [dz_up_ne (by omega)])
                                        exact w2
                                      · rw [dz_up_eq]
                                        omega
                                      · repeat (first | rw [dz_up_ne (by omega)])
                                        rw [dz_up_eq, eK, hk]
                                      · repeat (first | rw [dz_up_ne (by omega)])
                                        rw [w1 _ _ (by omega), y1 _ _ (by omega), n3, eP]
                                      · repeat (first | rw [dz_up_ne (by omega)])
                                        rw [dz_up_eq, eV]
                                        first
                                          | rw [if_pos (by omega)]
                                          | rw [if_neg (by omega)]
                                      · repeat (first | rw [dz_up_ne (by omega)])
                                        rw [dz_up_eq, eW]
                                        first
                                          | rw [if_pos (by omega)]
                                          | rw [if_neg (by omega)]
                                      · repeat (first | rw [dz_up_ne (by omega)])
                                        rw [dz_up_eq, eN]
                                        first
                                          | rw [if_pos (by omega)]
                                          | rw [if_neg (by omega)]))))
                  · first
                    | (exfalso; omega)
                    | (skip
                       refine xr_iconst hc rfl ?_
                       refine xr_zreturn hc rfl rfl (Nat.zero_le _) (Nat.zero_le _) (by first | exact Or.inl rfl | exact Or.inr rfl | assumption) ?_
                       first
                         | (exfalso; omega)
                         | (have hr : rwd c nn pl ps i p = (false, p + 3) := by
                              unfold rwd
                              rw [if_neg (by omega), if_neg (fun z => z f1), if_neg (fun z => z f2), if_neg (fun z => z f3), if_pos f4]
                            refine hF (by rw [hr]) N2 (fun q2 k2 v1 v2 v3 => by rw [y1 _ _ v1, n1 _ _ v1 (by omega)]) (by rw [hr]; exact y2) (by rw [hr]; have z := f3.1; show p + 3 ≤ nn; omega))
                         | (have hr : rwd c nn pl ps i p = (false, p + 2) := by
                              unfold rwd
                              rw [if_neg (by omega), if_neg (fun z => z f1), if_neg (fun z => z f2), if_pos f3]
                            refine hF (by rw [hr]) N (fun q2 k2 v1 v2 v3 => by rw [n1 _ _ v1 (by omega)]) (by rw [hr]; exact n2) (by rw [hr]; have z := f1.1; show p + 2 ≤ nn; omega))))
           · first
             | (exfalso; omega)
             | (skip
                refine xr_bipush hc rfl ?_
                refine xr_goto hc rfl (t := 58) rfl ?_
                refine xr_istore5 hc rfl rfl ?_
                refine xr_iload hc rfl rfl ?_
                refine xr_bipush hc rfl ?_
                refine xr_icmp_ne hc rfl (t := 69) rfl (fun b64 => ?_) (fun b64 => ?_)
                · first
                  | (exfalso; omega)
                  | (skip
                     refine xr_aloadn hc rfl rfl ?_
                     refine xr_getfr hc rfl rfl (by first | assumption | rfl) (by first | assumption | rfl) ?_
                     refine xr_getfr hc rfl rfl (by first | assumption | rfl) (by first | assumption | rfl) ?_
                     refine xr_iloadn hc rfl rfl ?_
                     refine xr_iloadn hc rfl rfl ?_
                     refine xr_iastore hc rfl (by first | assumption | rfl) (by first | omega | (unfold dz_w; omega)) (by first | omega | (unfold dz_w; omega)) ?_
                     rw [Int.toNat_natCast]
                     refine xr_aloadn hc rfl rfl ?_
                     refine xr_getfr hc rfl rfl (by first | assumption | rfl) (by first | assumption | rfl) ?_
                     refine xr_getfr hc rfl rfl (by first | assumption | rfl) (by first | assumption | rfl) ?_
                     refine xr_iloadn hc rfl rfl ?_
                     refine xr_iloadn hc rfl rfl ?_
                     refine xr_if_ne hc rfl (t := 102) rfl (fun b88 => ?_) (fun b88 => ?_)
                     · first
                       | (exfalso; omega)
                       | (skip
                          refine xr_iconst hc rfl ?_
                          refine xr_iastore hc rfl (by first | assumption | rfl) (by first | omega | (unfold dz_w; omega)) (by first | omega | (unfold dz_w; omega)) ?_
                          rw [Int.toNat_natCast]
                          refine xr_aloadn hc rfl rfl ?_
                          refine xr_getfr hc rfl rfl (by first | assumption | rfl) (by first | assumption | rfl) ?_
                          refine xr_getfr hc rfl rfl (by first | assumption | rfl) (by first | assumption | rfl) ?_
                          refine xr_iloadn hc rfl rfl ?_
                          refine xr_iloadn hc rfl rfl ?_
                          refine xr_if_ne hc rfl (t := 120) rfl (fun b113 => ?_) (fun b113 => ?_)
                          · first
                            | (exfalso; omega)
                            | (skip
                               refine xr_iload hc rfl rfl ?_
                               refine xr_iastore hc rfl (by first | assumption | rfl) (by first | omega | (unfold dz_w; omega)) (by first | omega | (unfold dz_w; omega)) ?_
                               rw [Int.toNat_natCast]
                               refine xr_aloadn hc rfl rfl ?_
                               refine xr_getfr hc rfl rfl (by first | assumption | rfl) (by first | assumption | rfl) ?_
                               refine xr_getfr hc rfl rfl (by first | assumption | rfl) (by first | assumption | rfl) ?_
                               refine xr_iloadn hc rfl rfl ?_
                               refine xr_iloadn hc rfl rfl ?_
                               refine xr_if_ne hc rfl (t := 139) rfl (fun b132 => ?_) (fun b132 => ?_)
                               · first
                                 | (exfalso; omega)
                                 | (skip
                                    refine xr_iload hc rfl rfl ?_
                                    refine xr_iastore hc rfl (by first | assumption | rfl) (by first | omega | (unfold dz_w; omega)) (by first | omega | (unfold dz_w; omega)) ?_
                                    rw [Int.toNat_natCast]
                                    refine xr_aloadn hc rfl rfl ?_
                                    refine xr_getfr hc rfl rfl (by first | assumption | rfl) (by first | assumption | rfl) ?_
                                    refine xr_iloadn hc rfl rfl ?_
                                    refine xr_iconst hc rfl ?_
                                    refine xr_iaddz hc rfl (by first | exact dz_wid (by first | omega | (unfold dz_w; omega)) (by first | omega | (unfold dz_w; omega)) | rfl) ?_
                                    refine xr_putfi hc rfl rfl (by first | assumption | rfl) ?_
                                    refine xr_iconst hc rfl ?_
                                    refine xr_zreturn hc rfl rfl (Nat.zero_le _) (Nat.zero_le _) (by first | exact Or.inl rfl | exact Or.inr rfl | assumption) ?_
                                    have hr : rwd c nn pl ps i p = (true, p + 4) := by
                                      unfold rwd
                                      rw [if_neg (by omega), if_neg (fun z => z f1), if_neg (fun z => z f2), if_neg (fun z => z f3), if_neg (fun z => z f4)]
                                    refine hT (by rw [hr]) (by rw [hr]) _ (fun q2 k2 v1 v2 v3 => ?_) ?_ ?_ ?_ ?_ ?_ ?_ ?_ f1 f3 f4 (by omega) f2
                                    · rw [dz_up_o (by omega), dz_up_o (by omega), dz_up_o (by omega), dz_up_o (by omega), dz_up_o (by omega)]
                                      rw [w1 _ _ v1, y1 _ _ v1, n1 _ _ v1 (by omega)]
                                    · repeat (first | rw [dz_up_ne (by omega)])
                                      exact w2
                                    · rw [dz_up_eq]
                                      omega
                                    · repeat (first | rw [dz_up_ne (by omega)])
                                      rw [dz_up_eq, eK, hk]
                                    · repeat (first | rw [dz_up_ne (by omega)])
                                      rw [w1 _ _ (by omega), y1 _ _ (by omega), n3, eP]
                                    · repeat (first | rw [dz_up_ne (by omega)])
                                      rw [dz_up_eq, eV]
                                      first
                                        | rw [if_pos (by omega)]
                                        | rw [if_neg (by omega)]
                                    · repeat (first | rw [dz_up_ne (by omega)])
                                      rw [dz_up_eq, eW]
                                      first
                                        | rw [if_pos (by omega)]
                                        | rw [if_neg (by omega)]
                                    · repeat (first | rw [dz_up_ne (by omega)])
                                      rw [dz_up_eq, eN]
                                      first
                                        | rw [if_pos (by omega)]
                                        | rw [if_neg (by omega)])
                               · first
                                 | (exfalso; omega)
                                 | (skip
                                    refine xr_iconst hc rfl ?_
                                    refine xr_goto hc rfl (t := 141) rfl ?_
                                    refine xr_iastore hc rfl (by first | assumption | rfl) (by first | omega | (unfold dz_w; omega)) (by first | omega | (unfold dz_w; omega)) ?_
                                    rw [Int.toNat_natCast]
                                    refine xr_aloadn hc rfl rfl ?_
                                    refine xr_getfr hc rfl rfl (by first | assumption | rfl) (by first | assumption | rfl) ?_
                                    refine xr_iloadn hc rfl rfl ?_
                                    refine xr_iconst hc rfl ?_
                                    refine xr_iaddz hc rfl (by first | exact dz_wid (by first | omega | (unfold dz_w; omega)) (by first | omega | (unfold dz_w; omega)) | rfl) ?_
                                    refine xr_putfi hc rfl rfl (by first | assumption | rfl) ?_
                                    refine xr_iconst hc rfl ?_
                                    refine xr_zreturn hc rfl rfl (Nat.zero_le _) (Nat.zero_le _) (by first | exact Or.inl rfl | exact Or.inr rfl | assumption) ?_
                                    have hr : rwd c nn pl ps i p = (true, p + 4) := by
                                      unfold rwd
                                      rw [if_neg (by omega), if_neg (fun z => z f1), if_neg (fun z => z f2), if_neg (fun z => z f3), if_neg (fun z => z f4)]
                                    refine hT (by rw [hr]) (by rw [hr]) _ (fun q2 k2 v1 v2 v3 => ?_) ?_ ?_ ?_ ?_ ?_ ?_ ?_ f1 f3 f4 (by omega) f2
                                    · rw [dz_up_o (by omega), dz_up_o (by omega), dz_up_o (by omega), dz_up_o (by omega), dz_up_o (by omega)]
                                      rw [w1 _ _ v1, y1 _ _ v1, n1 _ _ v1 (by omega)]
                                    · repeat (first | rw [dz_up_ne (by omega)])
                                      exact w2
                                    · rw [dz_up_eq]
                                      omega
                                    · repeat (first | rw [dz_up_ne (by omega)])
                                      rw [dz_up_eq, eK, hk]
                                    · repeat (first | rw [dz_up_ne (by omega)])
                                      rw [w1 _ _ (by omega), y1 _ _ (by omega), n3, eP]
                                    · repeat (first | rw [dz_up_ne (by omega)])
                                      rw [dz_up_eq, eV]
                                      first
                                        | rw [if_pos (by omega)]
                                        | rw [if_neg (by omega)]
                                    · repeat (first | rw [dz_up_ne (by omega)])
                                      rw [dz_up_eq, eW]
                                      first
                                        | rw [if_pos (by omega)]
                                        | rw [if_neg (by omega)]
                                    · repeat (first | rw [dz_up_ne (by omega)])
                                      rw [dz_up_eq, eN]
                                      first
                                        | rw [if_pos (by omega)]
                                        | rw [if_neg (by omega)]))
                          · first
                            | (exfalso; omega)
                            | (skip
                               refine xr_iconst hc rfl ?_
                               refine xr_goto hc rfl (t := 122) rfl ?_
                               refine xr_iastore hc rfl (by first | assumption | rfl) (by first | omega | (unfold dz_w; omega)) (by first | omega | (unfold dz_w; omega)) ?_
                               rw [Int.toNat_natCast]
                               refine xr_aloadn hc rfl rfl ?_
                               refine xr_getfr hc rfl rfl (by first | assumption | rfl) (by first | assumption | rfl) ?_
                               refine xr_getfr hc rfl rfl (by first | assumption | rfl) (by first | assumption | rfl) ?_
                               refine xr_iloadn hc rfl rfl ?_
                               refine xr_iloadn hc rfl rfl ?_
                               refine xr_if_ne hc rfl (t := 139) rfl (fun b132 => ?_) (fun b132 => ?_)
                               · first
                                 | (exfalso; omega)
                                 | (skip
                                    refine xr_iload hc rfl rfl ?_
                                    refine xr_iastore hc rfl (by first | assumption | rfl) (by first | omega | (unfold dz_w; omega)) (by first | omega | (unfold dz_w; omega)) ?_
                                    rw [Int.toNat_natCast]
                                    refine xr_aloadn hc rfl rfl ?_
                                    refine xr_getfr hc rfl rfl (by first | assumption | rfl) (by first | assumption | rfl) ?_
                                    refine xr_iloadn hc rfl rfl ?_
                                    refine xr_iconst hc rfl ?_
                                    refine xr_iaddz hc rfl (by first | exact dz_wid (by first | omega | (unfold dz_w; omega)) (by first | omega | (unfold dz_w; omega)) | rfl) ?_
                                    refine xr_putfi hc rfl rfl (by first | assumption | rfl) ?_
                                    refine xr_iconst hc rfl ?_
                                    refine xr_zreturn hc rfl rfl (Nat.zero_le _) (Nat.zero_le _) (by first | exact Or.inl rfl | exact Or.inr rfl | assumption) ?_
                                    have hr : rwd c nn pl ps i p = (true, p + 4) := by
                                      unfold rwd
                                      rw [if_neg (by omega), if_neg (fun z => z f1), if_neg (fun z => z f2), if_neg (fun z => z f3), if_neg (fun z => z f4)]
                                    refine hT (by rw [hr]) (by rw [hr]) _ (fun q2 k2 v1 v2 v3 => ?_) ?_ ?_ ?_ ?_ ?_ ?_ ?_ f1 f3 f4 (by omega) f2
                                    · rw [dz_up_o (by omega), dz_up_o (by omega), dz_up_o (by omega), dz_up_o (by omega), dz_up_o (by omega)]
                                      rw [w1 _ _ v1, y1 _ _ v1, n1 _ _ v1 (by omega)]
                                    · repeat (first | rw [dz_up_ne (by omega)])
                                      exact w2
                                    · rw [dz_up_eq]
                                      omega
                                    · repeat (first | rw [dz_up_ne (by omega)])
                                      rw [dz_up_eq, eK, hk]
                                    · repeat (first | rw [dz_up_ne (by omega)])
                                      rw [w1 _ _ (by omega), y1 _ _ (by omega), n3, eP]
                                    · repeat (first | rw [dz_up_ne (by omega)])
                                      rw [dz_up_eq, eV]
                                      first
                                        | rw [if_pos (by omega)]
                                        | rw [if_neg (by omega)]
                                    · repeat (first | rw [dz_up_ne (by omega)])
                                      rw [dz_up_eq, eW]
                                      first
                                        | rw [if_pos (by omega)]
                                        | rw [if_neg (by omega)]
                                    · repeat (first | rw [dz_up_ne (by omega)])
                                      rw [dz_up_eq, eN]
                                      first
                                        | rw [if_pos (by omega)]
                                        | rw [if_neg (by omega)])
                               · first
                                 | (exfalso; omega)
                                 | (skip
                                    refine xr_iconst hc rfl ?_
                                    refine xr_goto hc rfl (t := 141) rfl ?_
                                    refine xr_iastore hc rfl (by first | assumption | rfl) (by first | omega | (unfold dz_w; omega)) (by first | omega | (unfold dz_w; omega)) ?_
                                    rw [Int.toNat_natCast]
                                    refine xr_aloadn hc rfl rfl ?_
                                    refine xr_getfr hc rfl rfl (by first | assumption | rfl) (by first | assumption | rfl) ?_
                                    refine xr_iloadn hc rfl rfl ?_
                                    refine xr_iconst hc rfl ?_
                                    refine xr_iaddz hc rfl (by first | exact dz_wid (by first | omega | (unfold dz_w; omega)) (by first | omega | (unfold dz_w; omega)) | rfl) ?_
                                    refine xr_putfi hc rfl rfl (by first | assumption | rfl) ?_
                                    refine xr_iconst hc rfl ?_
                                    refine xr_zreturn hc rfl rfl (Nat.zero_le _) (Nat.zero_le _) (by first | exact Or.inl rfl | exact Or.inr rfl | assumption) ?_
                                    have hr : rwd c nn pl ps i p = (true, p + 4) := by
                                      unfold rwd
                                      rw [if_neg (by omega), if_neg (fun z => z f1), if_neg (fun z => z f2), if_neg (fun z => z f3), if_neg (fun z => z f4)]
                                    refine hT (by rw [hr]) (by rw [hr]) _ (fun q2 k2 v1 v2 v3 => ?_) ?_ ?_ ?_ ?_ ?_ ?_ ?_ f1 f3 f4 (by omega) f2
                                    · rw [dz_up_o (by omega), dz_up_o (by omega), dz_up_o (by omega), dz_up_o (by omega), dz_up_o (by omega)]
                                      rw [w1 _ _ v1, y1 _ _ v1, n1 _ _ v1 (by omega)]
                                    · repeat (first | rw [dz_up_ne (by omega)])
                                      exact w2
                                    · rw [dz_up_eq]
                                      omega
                                    · repeat (first | rw [dz_up_ne (by omega)])
                                      rw [dz_up_eq, eK, hk]
                                    · repeat (first | rw [dz_up_ne (by omega)])
                                      rw [w1 _ _ (by omega), y1 _ _ (by omega), n3, eP]
                                    · repeat (first | rw [dz_up_ne (by omega)])
                                      rw [dz_up_eq, eV]
                                      first
                                        | rw [if_pos (by omega)]
                                        | rw [if_neg (by omega)]
                                    · repeat (first | rw [dz_up_ne (by omega)])
                                      rw [dz_up_eq, eW]
                                      first
                                        | rw [if_pos (by omega)]
                                        | rw [if_neg (by omega)]
                                    · repeat (first | rw [dz_up_ne (by omega)])
                                      rw [dz_up_eq, eN]
                                      first
                                        | rw [if_pos (by omega)]
                                        | rw [if_neg (by omega)])))
                     · first
                       | (exfalso; omega)
                       | (skip
                          refine xr_bipush hc rfl ?_
                          refine xr_iload hc rfl rfl ?_
                          refine xr_imulz hc rfl (by first | exact dz_wid (by first | omega | (unfold dz_w; omega)) (by first | omega | (unfold dz_w; omega)) | rfl) ?_
                          refine xr_iload hc rfl rfl ?_
                          refine xr_iaddz hc rfl (by first | exact dz_wid (by first | omega | (unfold dz_w; omega)) (by first | omega | (unfold dz_w; omega)) | rfl) ?_
                          refine xr_goto hc rfl (t := 103) rfl ?_
                          refine xr_iastore hc rfl (by first | assumption | rfl) (by first | omega | (unfold dz_w; omega)) (by first | omega | (unfold dz_w; omega)) ?_
                          rw [Int.toNat_natCast]
                          refine xr_aloadn hc rfl rfl ?_
                          refine xr_getfr hc rfl rfl (by first | assumption | rfl) (by first | assumption | rfl) ?_
                          refine xr_getfr hc rfl rfl (by first | assumption | rfl) (by first | assumption | rfl) ?_
                          refine xr_iloadn hc rfl rfl ?_
                          refine xr_iloadn hc rfl rfl ?_
                          refine xr_if_ne hc rfl (t := 120) rfl (fun b113 => ?_) (fun b113 => ?_)
                          · first
                            | (exfalso; omega)
                            | (skip
                               refine xr_iload hc rfl rfl ?_
                               refine xr_iastore hc rfl (by first | assumption | rfl) (by first | omega | (unfold dz_w; omega)) (by first | omega | (unfold dz_w; omega)) ?_
                               rw [Int.toNat_natCast]
                               refine xr_aloadn hc rfl rfl ?_
                               refine xr_getfr hc rfl rfl (by first | assumption | rfl) (by first | assumption | rfl) ?_
                               refine xr_getfr hc rfl rfl (by first | assumption | rfl) (by first | assumption | rfl) ?_
                               refine xr_iloadn hc rfl rfl ?_
                               refine xr_iloadn hc rfl rfl ?_
                               refine xr_if_ne hc rfl (t := 139) rfl (fun b132 => ?_) (fun b132 => ?_)
                               · first
                                 | (exfalso; omega)
                                 | (skip
                                    refine xr_iload hc rfl rfl ?_
                                    refine xr_iastore hc rfl (by first | assumption | rfl) (by first | omega | (unfold dz_w; omega)) (by first | omega | (unfold dz_w; omega)) ?_
                                    rw [Int.toNat_natCast]
                                    refine xr_aloadn hc rfl rfl ?_
                                    refine xr_getfr hc rfl rfl (by first | assumption | rfl) (by first | assumption | rfl) ?_
                                    refine xr_iloadn hc rfl rfl ?_
                                    refine xr_iconst hc rfl ?_
                                    refine xr_iaddz hc rfl (by first | exact dz_wid (by first | omega | (unfold dz_w; omega)) (by first | omega | (unfold dz_w; omega)) | rfl) ?_
                                    refine xr_putfi hc rfl rfl (by first | assumption | rfl) ?_
                                    refine xr_iconst hc rfl ?_
                                    refine xr_zreturn hc rfl rfl (Nat.zero_le _) (Nat.zero_le _) (by first | exact Or.inl rfl | exact Or.inr rfl | assumption) ?_
                                    have hr : rwd c nn pl ps i p = (true, p + 4) := by
                                      unfold rwd
                                      rw [if_neg (by omega), if_neg (fun z => z f1), if_neg (fun z => z f2), if_neg (fun z => z f3), if_neg (fun z => z f4)]
                                    refine hT (by rw [hr]) (by rw [hr]) _ (fun q2 k2 v1 v2 v3 => ?_) ?_ ?_ ?_ ?_ ?_ ?_ ?_ f1 f3 f4 (by omega) f2
                                    · rw [dz_up_o (by omega), dz_up_o (by omega), dz_up_o (by omega), dz_up_o (by omega), dz_up_o (by omega)]
                                      rw [w1 _ _ v1, y1 _ _ v1, n1 _ _ v1 (by omega)]
                                    · repeat (first | rw [dz_up_ne (by omega)])
                                      exact w2
                                    · rw [dz_up_eq]
                                      omega
                                    · repeat (first | rw [dz_up_ne (by omega)])
                                      rw [dz_up_eq, eK, hk]
                                    · repeat (first | rw [dz_up_ne (by omega)])
                                      rw [w1 _ _ (by omega), y1 _ _ (by omega), n3, eP]
                                    · repeat (first | rw [dz_up_ne (by omega)])
                                      rw [dz_up_eq, eV]
                                      first
                                        | rw [if_pos (by omega)]
                                        | rw [if_neg (by omega)]
                                    · repeat (first | rw [dz_up_ne (by omega)])
                                      rw [dz_up_eq, eW]
                                      first
                                        | rw [if_pos (by omega)]
                                        | rw [if_neg (by omega)]
                                    · repeat (first | rw [dz_up_ne (by omega)])
                                      rw [dz_up_eq, eN]
                                      first
                                        | rw [if_pos (by omega)]
                                        | rw [if_neg (by omega)])
                               · first
                                 | (exfalso; omega)
                                 | (skip
                                    refine xr_iconst hc rfl ?_
                                    refine xr_goto hc rfl (t := 141) rfl ?_
                                    refine xr_iastore hc rfl (by first | assumption | rfl) (by first | omega | (unfold dz_w; omega)) (by first | omega | (unfold dz_w; omega)) ?_
                                    rw [Int.toNat_natCast]
                                    refine xr_aloadn hc rfl rfl ?_
                                    refine xr_getfr hc rfl rfl (by first | assumption | rfl) (by first | assumption | rfl) ?_
                                    refine xr_iloadn hc rfl rfl ?_
                                    refine xr_iconst hc rfl ?_
                                    refine xr_iaddz hc rfl (by first | exact dz_wid (by first | omega | (unfold dz_w; omega)) (by first | omega | (unfold dz_w; omega)) | rfl) ?_
                                    refine xr_putfi hc rfl rfl (by first | assumption | rfl) ?_
                                    refine xr_iconst hc rfl ?_
                                    refine xr_zreturn hc rfl rfl (Nat.zero_le _) (Nat.zero_le _) (by first | exact Or.inl rfl | exact Or.inr rfl | assumption) ?_
                                    have hr : rwd c nn pl ps i p = (true, p + 4) := by
                                      unfold rwd
                                      rw [if_neg (by omega), if_neg (fun z => z f1), if_neg (fun z => z f2), if_neg (fun z => z f3), if_neg (fun z => z f4)]
                                    refine hT (by rw [hr]) (by rw [hr]) _ (fun q2 k2 v1 v2 v3 => ?_) ?_ ?_ ?_ ?_ ?_ ?_ ?_ f1 f3 f4 (by omega) f2
                                    · rw [dz_up_o (by omega), dz_up_o (by omega), dz_up_o (by omega), dz_up_o (by omega), dz_up_o (by omega)]
                                      rw [w1 _ _ v1, y1 _ _ v1, n1 _ _ v1 (by omega)]
                                    · repeat (first | rw [dz_up_ne (by omega)])
                                      exact w2
                                    · rw [dz_up_eq]
                                      omega
                                    · repeat (first | rw [dz_up_ne (by omega)])
                                      rw [dz_up_eq, eK, hk]
                                    · repeat (first | rw [dz_up_ne (by omega)])
                                      rw [w1 _ _ (by omega), y1 _ _ (by omega), n3, eP]
                                    · repeat (first | rw [dz_up_ne (by omega)])
                                      rw [dz_up_eq, eV]
                                      first
                                        | rw [if_pos (by omega)]
                                        | rw [if_neg (by omega)]
                                    · repeat (first | rw [dz_up_ne (by omega)])
                                      rw [dz_up_eq, eW]
                                      first
                                        | rw [if_pos (by omega)]
                                        | rw [if_neg (by omega)]
                                    · repeat (first | rw [dz_up_ne (by omega)])
                                      rw [dz_up_eq, eN]
                                      first
                                        | rw [if_pos (by omega)]
                                        | rw [if_neg (by omega)]))
                          · first
                            | (exfalso; omega)
                            | (skip
                               refine xr_iconst hc rfl ?_
                               refine xr_goto hc rfl (t := 122) rfl ?_
                               refine xr_iastore hc rfl (by first | assumption | rfl) (by first | omega | (unfold dz_w; omega)) (by first | omega | (unfold dz_w; omega)) ?_
                               rw [Int.toNat_natCast]
                               refine xr_aloadn hc rfl rfl ?_
                               refine xr_getfr hc rfl rfl (by first | assumption | rfl) (by first | assumption | rfl) ?_
                               refine xr_getfr hc rfl rfl (by first | assumption | rfl) (by first | assumption | rfl) ?_
                               refine xr_iloadn hc rfl rfl ?_
                               refine xr_iloadn hc rfl rfl ?_
                               refine xr_if_ne hc rfl (t := 139) rfl (fun b132 => ?_) (fun b132 => ?_)
                               · first
                                 | (exfalso; omega)
                                 | (skip
                                    refine xr_iload hc rfl rfl ?_
                                    refine xr_iastore hc rfl (by first | assumption | rfl) (by first | omega | (unfold dz_w; omega)) (by first | omega | (unfold dz_w; omega)) ?_
                                    rw [Int.toNat_natCast]
                                    refine xr_aloadn hc rfl rfl ?_
                                    refine xr_getfr hc rfl rfl (by first | assumption | rfl) (by first | assumption | rfl) ?_
                                    refine xr_iloadn hc rfl rfl ?_
                                    refine xr_iconst hc rfl ?_
                                    refine xr_iaddz hc rfl (by first | exact dz_wid (by first | omega | (unfold dz_w; omega)) (by first | omega | (unfold dz_w; omega)) | rfl) ?_
                                    refine xr_putfi hc rfl rfl (by first | assumption | rfl) ?_
                                    refine xr_iconst hc rfl ?_
                                    refine xr_zreturn hc rfl rfl (Nat.zero_le _) (Nat.zero_le _) (by first | exact Or.inl rfl | exact Or.inr rfl | assumption) ?_
                                    have hr : rwd c nn pl ps i p = (true, p + 4) := by
                                      unfold rwd
                                      rw [if_neg (by omega), if_neg (fun z => z f1), if_neg (fun z => z f2), if_neg (fun z => z f3), if_neg (fun z => z f4)]
                                    refine hT (by rw [hr]) (by rw [hr]) _ (fun q2 k2 v1 v2 v3 => ?_) ?_ ?_ ?_ ?_ ?_ ?_ ?_ f1 f3 f4 (by omega) f2
                                    · rw [dz_up_o (by omega), dz_up_o (by omega), dz_up_o (by omega), dz_up_o (by omega), dz_up_o (by omega)]
                                      rw [w1 _ _ v1, y1 _ _ v1, n1 _ _ v1 (by omega)]
                                    · repeat (first | rw [dz_up_ne (by omega)])
                                      exact w2
                                    · rw [dz_up_eq]
                                      omega
                                    · repeat (first | rw [dz_up_ne (by omega)])
                                      rw [dz_up_eq, eK, hk]
                                    · repeat (first | rw [dz_up_ne (by omega)])
                                      rw [w1 _ _ (by omega), y1 _ _ (by omega), n3, eP]
                                    · repeat (first | rw [dz_up_ne (by omega)])
                                      rw [dz_up_eq, eV]
                                      first
                                        | rw [if_pos (by omega)]
                                        | rw [if_neg (by omega)]
                                    · repeat (first | rw [dz_up_ne (by omega)])
                                      rw [dz_up_eq, eW]
                                      first
                                        | rw [if_pos (by omega)]
                                        | rw [if_neg (by omega)]
                                    · repeat (first | rw [dz_up_ne (by omega)])
                                      rw [dz_up_eq, eN]
                                      first
                                        | rw [if_pos (by omega)]
                                        | rw [if_neg (by omega)])
                               · first
                                 | (exfalso; omega)
                                 | (skip
                                    refine xr_iconst hc rfl ?_
                                    refine xr_goto hc rfl (t := 141) rfl ?_
                                    refine xr_iastore hc rfl (by first | assumption | rfl) (by first | omega | (unfold dz_w; omega)) (by first | omega | (unfold dz_w; omega)) ?_
                                    rw [Int.toNat_natCast]
                                    refine xr_aloadn hc rfl rfl ?_
                                    refine xr_getfr hc rfl rfl (by first | assumption | rfl) (by first | assumption | rfl) ?_
                                    refine xr_iloadn hc rfl rfl ?_
                                    refine xr_iconst hc rfl ?_
                                    refine xr_iaddz hc rfl (by first | exact dz_wid (by first | omega | (unfold dz_w; omega)) (by first | omega | (unfold dz_w; omega)) | rfl) ?_
                                    refine xr_putfi hc rfl rfl (by first | assumption | rfl) ?_
                                    refine xr_iconst hc rfl ?_
                                    refine xr_zreturn hc rfl rfl (Nat.zero_le _) (Nat.zero_le _) (by first | exact Or.inl rfl | exact Or.inr rfl | assumption) ?_
                                    have hr : rwd c nn pl ps i p = (true, p + 4) := by
                                      unfold rwd
                                      rw [if_neg (by omega), if_neg (fun z => z f1), if_neg (fun z => z f2), if_neg (fun z => z f3), if_neg (fun z => z f4)]
                                    refine hT (by rw [hr]) (by rw [hr]) _ (fun q2 k2 v1 v2 v3 => ?_) ?_ ?_ ?_ ?_ ?_ ?_ ?_ f1 f3 f4 (by omega) f2
                                    · rw [dz_up_o (by omega), dz_up_o (by omega), dz_up_o (by omega), dz_up_o (by omega), dz_up_o (by omega)]
                                      rw [w1 _ _ v1, y1 _ _ v1, n1 _ _ v1 (by omega)]
                                    · repeat (first | rw [dz_up_ne (by omega)])
                                      exact w2
                                    · rw [dz_up_eq]
                                      omega
                                    · repeat (first | rw [dz_up_ne (by omega)])
                                      rw [dz_up_eq, eK, hk]
                                    · repeat (first | rw [dz_up_ne (by omega)])
                                      rw [w1 _ _ (by omega), y1 _ _ (by omega), n3, eP]
                                    · repeat (first | rw [dz_up_ne (by omega)])
                                      rw [dz_up_eq, eV]
                                      first
                                        | rw [if_pos (by omega)]
                                        | rw [if_neg (by omega)]
                                    · repeat (first | rw [dz_up_ne (by omega)])
                                      rw [dz_up_eq, eW]
                                      first
                                        | rw [if_pos (by omega)]
                                        | rw [if_neg (by omega)]
                                    · repeat (first | rw [dz_up_ne (by omega)])
                                      rw [dz_up_eq, eN]
                                      first
                                        | rw [if_pos (by omega)]
                                        | rw [if_neg (by omega)]))))
                · first
                  | (exfalso; omega)
                  | (skip
                     refine xr_iconst hc rfl ?_
                     refine xr_zreturn hc rfl rfl (Nat.zero_le _) (Nat.zero_le _) (by first | exact Or.inl rfl | exact Or.inr rfl | assumption) ?_
                     first
                       | (exfalso; omega)
                       | (have hr : rwd c nn pl ps i p = (false, p + 3) := by
                            unfold rwd
                            rw [if_neg (by omega), if_neg (fun z => z f1), if_neg (fun z => z f2), if_neg (fun z => z f3), if_pos f4]
                          refine hF (by rw [hr]) N2 (fun q2 k2 v1 v2 v3 => by rw [y1 _ _ v1, n1 _ _ v1 (by omega)]) (by rw [hr]; exact y2) (by rw [hr]; have z := f3.1; show p + 3 ≤ nn; omega))
                       | (have hr : rwd c nn pl ps i p = (false, p + 2) := by
                            unfold rwd
                            rw [if_neg (by omega), if_neg (fun z => z f1), if_neg (fun z => z f2), if_pos f3]
                          refine hF (by rw [hr]) N (fun q2 k2 v1 v2 v3 => by rw [n1 _ _ v1 (by omega)]) (by rw [hr]; exact n2) (by rw [hr]; have z := f1.1; show p + 2 ≤ nn; omega)))))
    · first
      | (exfalso; omega)
      | (skip
         refine xr_bipush hc rfl ?_
         refine xr_goto hc rfl (t := 31) rfl ?_
         refine xr_istore3 hc rfl rfl ?_
         have ehi : (if kl (c p) = 0 then (9 : Int) else 5) = 9 := by first | rw [if_pos (by omega)] | rw [if_neg (by omega)]
         refine xr_aloadn hc rfl rfl ?_
         refine xr_iconst hc rfl ?_
         refine xr_iloadn hc rfl rfl ?_
         refine xr_callv2 hc rfl (by first | assumption | rfl) rfl rfl rfl (Nat.le_of_ble_eq_true rfl) (Nat.zero_le _) (Nat.zero_le _) ?_
         refine S_readFigure (tx := tx) (nn := nn) (p := p + 2) (c := c) hl htx hrf hn (fun k hk => by rw [n1 _ _ (by omega) (by omega)]; exact hc2 k hk) (by rw [n1 _ _ (by omega) (by omega)]; exact h2) n2 (by have z := f1.1; omega) (fun f3 N2 y1 y2 => ?_) (fun f3 => ?_)
         all_goals rw [← ehi] at f3
         · refine xk_1 ?_
           refine xr_istore4 hc rfl rfl ?_
           refine xr_iload hc rfl rfl ?_
           refine xr_bipush hc rfl ?_
           refine xr_icmp_ne hc rfl (t := 52) rfl (fun b44 => ?_) (fun b44 => ?_)
           · first
             | (exfalso; omega)
             | (skip
                refine xr_aloadn hc rfl rfl ?_
                refine xr_iconst hc rfl ?_
                refine xr_iloadn hc rfl rfl ?_
                refine xr_callv2 hc rfl (by first | assumption | rfl) rfl rfl rfl (Nat.le_of_ble_eq_true rfl) (Nat.zero_le _) (Nat.zero_le _) ?_
                refine S_readFigure (tx := tx) (nn := nn) (p := p + 3) (c := c) hl htx hrf hn (fun k hk => by rw [y1 _ _ (by omega), n1 _ _ (by omega) (by omega)]; exact hc2 k hk) (by rw [y1 _ _ (by omega), n1 _ _ (by omega) (by omega)]; exact h2) y2 (by have z := f3.1; omega) (fun f4 N3 w1 w2 => ?_) (fun f4 => ?_)
                all_goals rw [← ehi] at f4
                · refine xk_1 ?_
                  refine xr_istore5 hc rfl rfl ?_
                  refine xr_iload hc rfl rfl ?_
                  refine xr_bipush hc rfl ?_
                  refine xr_icmp_ne hc rfl (t := 69) rfl (fun b64 => ?_) (fun b64 => ?_)
                  · first
                    | (exfalso; omega)
                    | (skip
                       refine xr_aloadn hc rfl rfl ?_
                       refine xr_getfr hc rfl rfl (by first | assumption | rfl) (by first | assumption | rfl) ?_
                       refine xr_getfr hc rfl rfl (by first | assumption | rfl) (by first | assumption | rfl) ?_
                       refine xr_iloadn hc rfl rfl ?_
                       refine xr_iloadn hc rfl rfl ?_
                       refine xr_iastore hc rfl (by first | assumption | rfl) (by first | omega | (unfold dz_w; omega)) (by first | omega | (unfold dz_w; omega)) ?_
                       rw [Int.toNat_natCast]
                       refine xr_aloadn hc rfl rfl ?_
                       refine xr_getfr hc rfl rfl (by first | assumption | rfl) (by first | assumption | rfl) ?_
                       refine xr_getfr hc rfl rfl (by first | assumption | rfl) (by first | assumption | rfl) ?_
                       refine xr_iloadn hc rfl rfl ?_
                       refine xr_iloadn hc rfl rfl ?_
                       refine xr_if_ne hc rfl (t := 102) rfl (fun b88 => ?_) (fun b88 => ?_)
                       · first
                         | (exfalso; omega)
                         | (skip
                            refine xr_iconst hc rfl ?_
                            refine xr_iastore hc rfl (by first | assumption | rfl) (by first | omega | (unfold dz_w; omega)) (by first | omega | (unfold dz_w; omega)) ?_
                            rw [Int.toNat_natCast]
                            refine xr_aloadn hc rfl rfl ?_
                            refine xr_getfr hc rfl rfl (by first | assumption | rfl) (by first | assumption | rfl) ?_
                            refine xr_getfr hc rfl rfl (by first | assumption | rfl) (by first | assumption | rfl) ?_
                            refine xr_iloadn hc rfl rfl ?_
                            refine xr_iloadn hc rfl rfl ?_
                            refine xr_if_ne hc rfl (t := 120) rfl (fun b113 => ?_) (fun b113 => ?_)
                            · first
                              | (exfalso; omega)
                              | (skip
                                 refine xr_iload hc rfl rfl ?_
                                 refine xr_iastore hc rfl (by first | assumption | rfl) (by first | omega | (unfold dz_w; omega)) (by first | omega | (unfold dz_w; omega)) ?_
                                 rw [Int.toNat_natCast]
                                 refine xr_aloadn hc rfl rfl ?_
                                 refine xr_getfr hc rfl rfl (by first | assumption | rfl) (by first | assumption | rfl) ?_
                                 refine xr_getfr hc rfl rfl (by first | assumption | rfl) (by first | assumption | rfl) ?_
                                 refine xr_iloadn hc rfl rfl ?_
                                 refine xr_iloadn hc rfl rfl ?_
                                 refine xr_if_ne hc rfl (t := 139) rfl (fun b132 => ?_) (fun b132 => ?_)
                                 · first
                                   | (exfalso; omega)
                                   | (skip
                                      refine xr_iload hc rfl rfl ?_
                                      refine xr_iastore hc rfl (by first | assumption | rfl) (by first | omega | (unfold dz_w; omega)) (by first | omega | (unfold dz_w; omega)) ?_
                                      rw [Int.toNat_natCast]
                                      refine xr_aloadn hc rfl rfl ?_
                                      refine xr_getfr hc rfl rfl (by first | assumption | rfl) (by first | assumption | rfl) ?_
                                      refine xr_iloadn hc rfl rfl ?_
                                      refine xr_iconst hc rfl ?_
                                      refine xr_iaddz hc rfl (by first | exact dz_wid (by first | omega | (unfold dz_w; omega)) (by first | omega | (unfold dz_w; omega)) | rfl) ?_
                                      refine xr_putfi hc rfl rfl (by first | assumption | rfl) ?_
                                      refine xr_iconst hc rfl ?_
                                      refine xr_zreturn hc rfl rfl (Nat.zero_le _) (Nat.zero_le _) (by first | exact Or.inl rfl | exact Or.inr rfl | assumption) ?_
                                      have hr : rwd c nn pl ps i p = (true, p + 4) := by
                                        unfold rwd
                                        rw [if_neg (by omega), if_neg (fun z => z f1), if_neg (fun z => z f2), if_neg (fun z => z f3), if_neg (fun z => z f4)]
                                      refine hT (by rw [hr]) (by rw [hr]) _ (fun q2 k2 v1 v2 v3 => ?_) ?_ ?_ ?_ ?_ ?_ ?_ ?_ f1 f3 f4 (by omega) f2
                                      · rw [dz_up_o (by omega), dz_up_o (by omega), dz_up_o (by omega), dz_up_o (by omega), dz_up_o (by omega)]
                                        rw [w1 _ _ v1, y1 _ _ v1, n1 _ _ v1 (by omega)]
                                      · repeat (first | rw [dz_up_ne (by omega)])
                                        exact w2
                                      · rw [dz_up_eq]
                                        omega
                                      · repeat (first | rw [dz_up_ne (by omega)])
                                        rw [dz_up_eq, eK, hk]
                                      · repeat (first | rw [dz_up_ne (by omega)])
                                        rw [w1 _ _ (by omega), y1 _ _ (by omega), n3, eP]
                                      · repeat (first | rw [dz_up_ne (by omega)])
                                        rw [dz_up_eq, eV]
                                        first
                                          | rw [if_pos (by omega)]
                                          | rw [if_neg (by omega)]
                                      · repeat (first | rw [dz_up_ne (by omega)])
                                        rw [dz_up_eq, eW]
                                        first
                                          | rw [if_pos (by omega)]
                                          | rw [if_neg (by omega)]
                                      · repeat (first | rw [dz_up_ne (by omega)])
                                        rw [dz_up_eq, eN]
                                        first
                                          | rw [if_pos (by omega)]
                                          | rw [if_neg (by omega)])
                                 · first
                                   | (exfalso; omega)
                                   | (skip
                                      refine xr_iconst hc rfl ?_
                                      refine xr_goto hc rfl (t := 141) rfl ?_
                                      refine xr_iastore hc rfl (by first | assumption | rfl) (by first | omega | (unfold dz_w; omega)) (by first | omega | (unfold dz_w; omega)) ?_
                                      rw [Int.toNat_natCast]
                                      refine xr_aloadn hc rfl rfl ?_
                                      refine xr_getfr hc rfl rfl (by first | assumption | rfl) (by first | assumption | rfl) ?_
                                      refine xr_iloadn hc rfl rfl ?_
                                      refine xr_iconst hc rfl ?_
                                      refine xr_iaddz hc rfl (by first | exact dz_wid (by first | omega | (unfold dz_w; omega)) (by first | omega | (unfold dz_w; omega)) | rfl) ?_
                                      refine xr_putfi hc rfl rfl (by first | assumption | rfl) ?_
                                      refine xr_iconst hc rfl ?_
                                      refine xr_zreturn hc rfl rfl (Nat.zero_le _) (Nat.zero_le _) (by first | exact Or.inl rfl | exact Or.inr rfl | assumption) ?_
                                      have hr : rwd c nn pl ps i p = (true, p + 4) := by
                                        unfold rwd
                                        rw [if_neg (by omega), if_neg (fun z => z f1), if_neg (fun z => z f2), if_neg (fun z => z f3), if_neg (fun z => z f4)]
                                      refine hT (by rw [hr]) (by rw [hr]) _ (fun q2 k2 v1 v2 v3 => ?_) ?_ ?_ ?_ ?_ ?_ ?_ ?_ f1 f3 f4 (by omega) f2
                                      · rw [dz_up_o (by omega), dz_up_o (by omega), dz_up_o (by omega), dz_up_o (by omega), dz_up_o (by omega)]
                                        rw [w1 _ _ v1, y1 _ _ v1, n1 _ _ v1 (by omega)]
                                      · repeat (first | rw [dz_up_ne (by omega)])
                                        exact w2
                                      · rw [dz_up_eq]
                                        omega
                                      · repeat (first | rw [dz_up_ne (by omega)])
                                        rw [dz_up_eq, eK, hk]
                                      · repeat (first | rw [dz_up_ne (by omega)])
                                        rw [w1 _ _ (by omega), y1 _ _ (by omega), n3, eP]
                                      · repeat (first | rw [dz_up_ne (by omega)])
                                        rw [dz_up_eq, eV]
                                        first
                                          | rw [if_pos (by omega)]
                                          | rw [if_neg (by omega)]
                                      · repeat (first | rw [dz_up_ne (by omega)])
                                        rw [dz_up_eq, eW]
                                        first
                                          | rw [if_pos (by omega)]
                                          | rw [if_neg (by omega)]
                                      · repeat (first | rw [dz_up_ne (by omega)])
                                        rw [dz_up_eq, eN]
                                        first
                                          | rw [if_pos (by omega)]
                                          | rw [if_neg (by omega)]))
                            · first
                              | (exfalso; omega)
                              | (skip
                                 refine xr_iconst hc rfl ?_
                                 refine xr_goto hc rfl (t := 122) rfl ?_
                                 refine xr_iastore hc rfl (by first | assumption | rfl) (by first | omega | (unfold dz_w; omega)) (by first | omega | (unfold dz_w; omega)) ?_
                                 rw [Int.toNat_natCast]
                                 refine xr_aloadn hc rfl rfl ?_
                                 refine xr_getfr hc rfl rfl (by first | assumption | rfl) (by first | assumption | rfl) ?_
                                 refine xr_getfr hc rfl rfl (by first | assumption | rfl) (by first | assumption | rfl) ?_
                                 refine xr_iloadn hc rfl rfl ?_
                                 refine xr_iloadn hc rfl rfl ?_
                                 refine xr_if_ne hc rfl (t := 139) rfl (fun b132 => ?_) (fun b132 => ?_)
                                 · first
                                   | (exfalso; omega)
                                   | (skip
                                      refine xr_iload hc rfl rfl ?_
                                      refine xr_iastore hc rfl (by first | assumption | rfl) (by first | omega | (unfold dz_w; omega)) (by first | omega | (unfold dz_w; omega)) ?_
                                      rw [Int.toNat_natCast]
                                      refine xr_aloadn hc rfl rfl ?_
                                      refine xr_getfr hc rfl rfl (by first | assumption | rfl) (by first | assumption | rfl) ?_
                                      refine xr_iloadn hc rfl rfl ?_
                                      refine xr_iconst hc rfl ?_
                                      refine xr_iaddz hc rfl (by first | exact dz_wid (by first | omega | (unfold dz_w; omega)) (by first | omega | (unfold dz_w; omega)) | rfl) ?_
                                      refine xr_putfi hc rfl rfl (by first | assumption | rfl) ?_
                                      refine xr_iconst hc rfl ?_
                                      refine xr_zreturn hc rfl rfl (Nat.zero_le _) (Nat.zero_le _) (by first | exact Or.inl rfl | exact Or.inr rfl | assumption) ?_
                                      have hr : rwd c nn pl ps i p = (true, p + 4) := by
                                        unfold rwd
                                        rw [if_neg (by omega), if_neg (fun z => z f1), if_neg (fun z => z f2), if_neg (fun z => z f3), if_neg (fun z => z f4)]
                                      refine hT (by rw [hr]) (by rw [hr]) _ (fun q2 k2 v1 v2 v3 => ?_) ?_ ?_ ?_ ?_ ?_ ?_ ?_ f1 f3 f4 (by omega) f2
                                      · rw [dz_up_o (by omega), dz_up_o (by omega), dz_up_o (by omega), dz_up_o (by omega), dz_up_o (by omega)]
                                        rw [w1 _ _ v1, y1 _ _ v1, n1 _ _ v1 (by omega)]
                                      · repeat (first | rw [dz_up_ne (by omega)])
                                        exact w2
                                      · rw [dz_up_eq]
                                        omega
                                      · repeat (first | rw [dz_up_ne (by omega)])
                                        rw [dz_up_eq, eK, hk]
                                      · repeat (first | rw [dz_up_ne (by omega)])
                                        rw [w1 _ _ (by omega), y1 _ _ (by omega), n3, eP]
                                      · repeat (first | rw [dz_up_ne (by omega)])
                                        rw [dz_up_eq, eV]
                                        first
                                          | rw [if_pos (by omega)]
                                          | rw [if_neg (by omega)]
                                      · repeat (first | rw [dz_up_ne (by omega)])
                                        rw [dz_up_eq, eW]
                                        first
                                          | rw [if_pos (by omega)]
                                          | rw [if_neg (by omega)]
                                      · repeat (first | rw [dz_up_ne (by omega)])
                                        rw [dz_up_eq, eN]
                                        first
                                          | rw [if_pos (by omega)]
                                          | rw [if_neg (by omega)])
                                 · first
                                   | (exfalso; omega)
                                   | (skip
                                      refine xr_iconst hc rfl ?_
                                      refine xr_goto hc rfl (t := 141) rfl ?_
                                      refine xr_iastore hc rfl (by first | assumption | rfl) (by first | omega | (unfold dz_w; omega)) (by first | omega | (unfold dz_w; omega)) ?_
                                      rw [Int.toNat_natCast]
                                      refine xr_aloadn hc rfl rfl ?_
                                      refine xr_getfr hc rfl rfl (by first | assumption | rfl) (by first | assumption | rfl) ?_
                                      refine xr_iloadn hc rfl rfl ?_
                                      refine xr_iconst hc rfl ?_
                                      refine xr_iaddz hc rfl (by first | exact dz_wid (by first | omega | (unfold dz_w; omega)) (by first | omega | (unfold dz_w; omega)) | rfl) ?_
                                      refine xr_putfi hc rfl rfl (by first | assumption | rfl) ?_
                                      refine xr_iconst hc rfl ?_
                                      refine xr_zreturn hc rfl rfl (Nat.zero_le _) (Nat.zero_le _) (by first | exact Or.inl rfl | exact Or.inr rfl | assumption) ?_
                                      have hr : rwd c nn pl ps i p = (true, p + 4) := by
                                        unfold rwd
                                        rw [if_neg (by omega), if_neg (fun z => z f1), if_neg (fun z => z f2), if_neg (fun z => z f3), if_neg (fun z => z f4)]
                                      refine hT (by rw [hr]) (by rw [hr]) _ (fun q2 k2 v1 v2 v3 => ?_) ?_ ?_ ?_ ?_ ?_ ?_ ?_ f1 f3 f4 (by omega) f2
                                      · rw [dz_up_o (by omega), dz_up_o (by omega), dz_up_o (by omega), dz_up_o (by omega), dz_up_o (by omega)]
                                        rw [w1 _ _ v1, y1 _ _ v1, n1 _ _ v1 (by omega)]
                                      · repeat (first | rw [dz_up_ne (by omega)])
                                        exact w2
                                      · rw [dz_up_eq]
                                        omega
                                      · repeat (first | rw [dz_up_ne (by omega)])
                                        rw [dz_up_eq, eK, hk]
                                      · repeat (first | rw [dz_up_ne (by omega)])
                                        rw [w1 _ _ (by omega), y1 _ _ (by omega), n3, eP]
                                      · repeat (first | rw [dz_up_ne (by omega)])
                                        rw [dz_up_eq, eV]
                                        first
                                          | rw [if_pos (by omega)]
                                          | rw [if_neg (by omega)]
                                      · repeat (first | rw [dz_up_ne (by omega)])
                                        rw [dz_up_eq, eW]
                                        first
                                          | rw [if_pos (by omega)]
                                          | rw [if_neg (by omega)]
                                      · repeat (first | rw [dz_up_ne (by omega)])
                                        rw [dz_up_eq, eN]
                                        first
                                          | rw [if_pos (by omega)]
                                          | rw [if_neg (by omega)])))
                       · first
                         | (exfalso; omega)
                         | (skip
                            refine xr_bipush hc rfl ?_
                            refine xr_iload hc rfl rfl ?_
                            refine xr_imulz hc rfl (by first | exact dz_wid (by first | omega | (unfold dz_w; omega)) (by first | omega | (unfold dz_w; omega)) | rfl) ?_
                            refine xr_iload hc rfl rfl ?_
                            refine xr_iaddz hc rfl (by first | exact dz_wid (by first | omega | (unfold dz_w; omega)) (by first | omega | (unfold dz_w; omega)) | rfl) ?_
                            refine xr_goto hc rfl (t := 103) rfl ?_
                            refine xr_iastore hc rfl (by first | assumption | rfl) (by first | omega | (unfold dz_w; omega)) (by first | omega | (unfold dz_w; omega)) ?_
                            rw [Int.toNat_natCast]
                            refine xr_aloadn hc rfl rfl ?_
                            refine xr_getfr hc rfl rfl (by first | assumption | rfl) (by first | assumption | rfl) ?_
                            refine xr_getfr hc rfl rfl (by first | assumption | rfl) (by first | assumption | rfl) ?_
                            refine xr_iloadn hc rfl rfl ?_
                            refine xr_iloadn hc rfl rfl ?_
                            refine xr_if_ne hc rfl (t := 120) rfl (fun b113 => ?_) (fun b113 => ?_)
                            · first
                              | (exfalso; omega)
                              | (skip
                                 refine xr_iload hc rfl rfl ?_
                                 refine xr_iastore hc rfl (by first | assumption | rfl) (by first | omega | (unfold dz_w; omega)) (by first | omega | (unfold dz_w; omega)) ?_
                                 rw [Int.toNat_natCast]
                                 refine xr_aloadn hc rfl rfl ?_
                                 refine xr_getfr hc rfl rfl (by first | assumption | rfl) (by first | assumption | rfl) ?_
                                 refine xr_getfr hc rfl rfl (by first | assumption | rfl) (by first | assumption | rfl) ?_
                                 refine xr_iloadn hc rfl rfl ?_
                                 refine xr_iloadn hc rfl rfl ?_
                                 refine xr_if_ne hc rfl (t := 139) rfl (fun b132 => ?_) (fun b132 => ?_)
                                 · first
                                   | (exfalso; omega)
                                   | (skip
                                      refine xr_iload hc rfl rfl ?_
                                      refine xr_iastore hc rfl (by first | assumption | rfl) (by first | omega | (unfold dz_w; omega)) (by first | omega | (unfold dz_w; omega)) ?_
                                      rw [Int.toNat_natCast]
                                      refine xr_aloadn hc rfl rfl ?_
                                      refine xr_getfr hc rfl rfl (by first | assumption | rfl) (by first | assumption | rfl) ?_
                                      refine xr_iloadn hc rfl rfl ?_
                                      refine xr_iconst hc rfl ?_
                                      refine xr_iaddz hc rfl (by first | exact dz_wid (by first | omega | (unfold dz_w; omega)) (by first | omega | (unfold dz_w; omega)) | rfl) ?_
                                      refine xr_putfi hc rfl rfl (by first | assumption | rfl) ?_
                                      refine xr_iconst hc rfl ?_
                                      refine xr_zreturn hc rfl rfl (Nat.zero_le _) (Nat.zero_le _) (by first | exact Or.inl rfl | exact Or.inr rfl | assumption) ?_
                                      have hr : rwd c nn pl ps i p = (true, p + 4) := by
                                        unfold rwd
                                        rw [if_neg (by omega), if_neg (fun z => z f1), if_neg (fun z => z f2), if_neg (fun z => z f3), if_neg (fun z => z f4)]
                                      refine hT (by rw [hr]) (by rw [hr]) _ (fun q2 k2 v1 v2 v3 => ?_) ?_ ?_ ?_ ?_ ?_ ?_ ?_ f1 f3 f4 (by omega) f2
                                      · rw [dz_up_o (by omega), dz_up_o (by omega), dz_up_o (by omega), dz_up_o (by omega), dz_up_o (by omega)]
                                        rw [w1 _ _ v1, y1 _ _ v1, n1 _ _ v1 (by omega)]
                                      · repeat (first | rw [dz_up_ne (by omega)])
                                        exact w2
                                      · rw [dz_up_eq]
                                        omega
                                      · repeat (first | rw [dz_up_ne (by omega)])
                                        rw [dz_up_eq, eK, hk]
                                      · repeat (first | rw [dz_up_ne (by omega)])
                                        rw [w1 _ _ (by omega), y1 _ _ (by omega), n3, eP]
                                      · repeat (first | rw [dz_up_ne (by omega)])
                                        rw [dz_up_eq, eV]
                                        first
                                          | rw [if_pos (by omega)]
                                          | rw [if_neg (by omega)]
                                      · repeat (first | rw [dz_up_ne (by omega)])
                                        rw [dz_up_eq, eW]
                                        first
                                          | rw [if_pos (by omega)]
                                          | rw [if_neg (by omega)]
                                      · repeat (first | rw [dz_up_ne (by omega)])
                                        rw [dz_up_eq, eN]
                                        first
                                          | rw [if_pos (by omega)]
                                          | rw [if_neg (by omega)])
                                 · first
                                   | (exfalso; omega)
                                   | (skip
                                      refine xr_iconst hc rfl ?_
                                      refine xr_goto hc rfl (t := 141) rfl ?_
                                      refine xr_iastore hc rfl (by first | assumption | rfl) (by first | omega | (unfold dz_w; omega)) (by first | omega | (unfold dz_w; omega)) ?_
                                      rw [Int.toNat_natCast]
                                      refine xr_aloadn hc rfl rfl ?_
                                      refine xr_getfr hc rfl rfl (by first | assumption | rfl) (by first | assumption | rfl) ?_
                                      refine xr_iloadn hc rfl rfl ?_
                                      refine xr_iconst hc rfl ?_
                                      refine xr_iaddz hc rfl (by first | exact dz_wid (by first | omega | (unfold dz_w; omega)) (by first | omega | (unfold dz_w; omega)) | rfl) ?_
                                      refine xr_putfi hc rfl rfl (by first | assumption | rfl) ?_
                                      refine xr_iconst hc rfl ?_
                                      refine xr_zreturn hc rfl rfl (Nat.zero_le _) (Nat.zero_le _) (by first | exact Or.inl rfl | exact Or.inr rfl | assumption) ?_
                                      have hr : rwd c nn pl ps i p = (true, p + 4) := by
                                        unfold rwd
                                        rw [if_neg (by omega), if_neg (fun z => z f1), if_neg (fun z => z f2), if_neg (fun z => z f3), if_neg (fun z => z f4)]
                                      refine hT (by rw [hr]) (by rw [hr]) _ (fun q2 k2 v1 v2 v3 => ?_) ?_ ?_ ?_ ?_ ?_ ?_ ?_ f1 f3 f4 (by omega) f2
                                      · rw [dz_up_o (by omega), dz_up_o (by omega), dz_up_o (by omega), dz_up_o (by omega), dz_up_o (by omega)]
                                        rw [w1 _ _ v1, y1 _ _ v1, n1 _ _ v1 (by omega)]
                                      · repeat (first | rw [dz_up_ne (by omega)])
                                        exact w2
                                      · rw [dz_up_eq]
                                        omega
                                      · repeat (first | rw [dz_up_ne (by omega)])
                                        rw [dz_up_eq, eK, hk]
                                      · repeat (first | rw [dz_up_ne (by omega)])
                                        rw [w1 _ _ (by omega), y1 _ _ (by omega), n3, eP]
                                      · repeat (first | rw [dz_up_ne (by omega)])
                                        rw [dz_up_eq, eV]
                                        first
                                          | rw [if_pos (by omega)]
                                          | rw [if_neg (by omega)]
                                      · repeat (first | rw [dz_up_ne (by omega)])
                                        rw [dz_up_eq, eW]
                                        first
                                          | rw [if_pos (by omega)]
                                          | rw [if_neg (by omega)]
                                      · repeat (first | rw [dz_up_ne (by omega)])
                                        rw [dz_up_eq, eN]
                                        first
                                          | rw [if_pos (by omega)]
                                          | rw [if_neg (by omega)]))
                            · first
                              | (exfalso; omega)
                              | (skip
                                 refine xr_iconst hc rfl ?_
                                 refine xr_goto hc rfl (t := 122) rfl ?_
                                 refine xr_iastore hc rfl (by first | assumption | rfl) (by first | omega | (unfold dz_w; omega)) (by first | omega | (unfold dz_w; omega)) ?_
                                 rw [Int.toNat_natCast]
                                 refine xr_aloadn hc rfl rfl ?_
                                 refine xr_getfr hc rfl rfl (by first | assumption | rfl) (by first | assumption | rfl) ?_
                                 refine xr_getfr hc rfl rfl (by first | assumption | rfl) (by first | assumption | rfl) ?_
                                 refine xr_iloadn hc rfl rfl ?_
                                 refine xr_iloadn hc rfl rfl ?_
                                 refine xr_if_ne hc rfl (t := 139) rfl (fun b132 => ?_) (fun b132 => ?_)
                                 · first
                                   | (exfalso; omega)
                                   | (skip
                                      refine xr_iload hc rfl rfl ?_
                                      refine xr_iastore hc rfl (by first | assumption | rfl) (by first | omega | (unfold dz_w; omega)) (by first | omega | (unfold dz_w; omega)) ?_
                                      rw [Int.toNat_natCast]
                                      refine xr_aloadn hc rfl rfl ?_
                                      refine xr_getfr hc rfl rfl (by first | assumption | rfl) (by first | assumption | rfl) ?_
                                      refine xr_iloadn hc rfl rfl ?_
                                      refine xr_iconst hc rfl ?_
                                      refine xr_iaddz hc rfl (by first | exact dz_wid (by first | omega | (unfold dz_w; omega)) (by first | omega | (unfold dz_w; omega)) | rfl) ?_
                                      refine xr_putfi hc rfl rfl (by first | assumption | rfl) ?_
                                      refine xr_iconst hc rfl ?_
                                      refine xr_zreturn hc rfl rfl (Nat.zero_le _) (Nat.zero_le _) (by first | exact Or.inl rfl | exact Or.inr rfl | assumption) ?_
                                      have hr : rwd c nn pl ps i p = (true, p + 4) := by
                                        unfold rwd
                                        rw [if_neg (by omega), if_neg (fun z => z f1), if_neg (fun z => z f2), if_neg (fun z => z f3), if_neg (fun z => z f4)]
                                      refine hT (by rw [hr]) (by rw [hr]) _ (fun q2 k2 v1 v2 v3 => ?_) ?_ ?_ ?_ ?_ ?_ ?_ ?_ f1 f3 f4 (by omega) f2
                                      · rw [dz_up_o (by omega), dz_up_o (by omega), dz_up_o (by omega), dz_up_o (by omega), dz_up_o (by omega)]
                                        rw [w1 _ _ v1, y1 _ _ v1, n1 _ _ v1 (by omega)]
                                      · repeat (first | rw [dz_up_ne (by omega)])
                                        exact w2
                                      · rw [dz_up_eq]
                                        omega
                                      · repeat (first | rw [dz_up_ne (by omega)])
                                        rw [dz_up_eq, eK, hk]
                                      · repeat (first | rw [dz_up_ne (by omega)])
                                        rw [w1 _ _ (by omega), y1 _ _ (by omega), n3, eP]
                                      · repeat (first | rw [dz_up_ne (by omega)])
                                        rw [dz_up_eq, eV]
                                        first
                                          | rw [if_pos (by omega)]
                                          | rw [if_neg (by omega)]
                                      · repeat (first | rw [dz_up_ne (by omega)])
                                        rw [dz_up_eq, eW]
                                        first
                                          | rw [if_pos (by omega)]
                                          | rw [if_neg (by omega)]
                                      · repeat (first | rw [dz_up_ne (by omega)])
                                        rw [dz_up_eq, eN]
                                        first
                                          | rw [if_pos (by omega)]
                                          | rw [if_neg (by omega)])
                                 · first
                                   | (exfalso; omega)
                                   | (skip
                                      refine xr_iconst hc rfl ?_
                                      refine xr_goto hc rfl (t := 141) rfl ?_
                                      refine xr_iastore hc rfl (by first | assumption | rfl) (by first | omega | (unfold dz_w; omega)) (by first | omega | (unfold dz_w; omega)) ?_
                                      rw [Int.toNat_natCast]
                                      refine xr_aloadn hc rfl rfl ?_
                                      refine xr_getfr hc rfl rfl (by first | assumption | rfl) (by first | assumption | rfl) ?_
                                      refine xr_iloadn hc rfl rfl ?_
                                      refine xr_iconst hc rfl ?_
                                      refine xr_iaddz hc rfl (by first | exact dz_wid (by first | omega | (unfold dz_w; omega)) (by first | omega | (unfold dz_w; omega)) | rfl) ?_
                                      refine xr_putfi hc rfl rfl (by first | assumption | rfl) ?_
                                      refine xr_iconst hc rfl ?_
                                      refine xr_zreturn hc rfl rfl (Nat.zero_le _) (Nat.zero_le _) (by first | exact Or.inl rfl | exact Or.inr rfl | assumption) ?_
                                      have hr : rwd c nn pl ps i p = (true, p + 4) := by
                                        unfold rwd
                                        rw [if_neg (by omega), if_neg (fun z => z f1), if_neg (fun z => z f2), if_neg (fun z => z f3), if_neg (fun z => z f4)]
                                      refine hT (by rw [hr]) (by rw [hr]) _ (fun q2 k2 v1 v2 v3 => ?_) ?_ ?_ ?_ ?_ ?_ ?_ ?_ f1 f3 f4 (by omega) f2
                                      · rw [dz_up_o (by omega), dz_up_o (by omega), dz_up_o (by omega), dz_up_o (by omega), dz_up_o (by omega)]
                                        rw [w1 _ _ v1, y1 _ _ v1, n1 _ _ v1 (by omega)]
                                      · repeat (first | rw [dz_up_ne (by omega)])
                                        exact w2
                                      · rw [dz_up_eq]
                                        omega
                                      · repeat (first | rw [dz_up_ne (by omega)])
                                        rw [dz_up_eq, eK, hk]
                                      · repeat (first | rw [dz_up_ne (by omega)])
                                        rw [w1 _ _ (by omega), y1 _ _ (by omega), n3, eP]
                                      · repeat (first | rw [dz_up_ne (by omega)])
                                        rw [dz_up_eq, eV]
                                        first
                                          | rw [if_pos (by omega)]
                                          | rw [if_neg (by omega)]
                                      · repeat (first | rw [dz_up_ne (by omega)])
                                        rw [dz_up_eq, eW]
                                        first
                                          | rw [if_pos (by omega)]
                                          | rw [if_neg (by omega)]
                                      · repeat (first | rw [dz_up_ne (by omega)])
                                        rw [dz_up_eq, eN]
                                        first
                                          | rw [if_pos (by omega)]
                                          | rw [if_neg (by omega)]))))
                  · first
                    | (exfalso; omega)
                    | (skip
                       refine xr_iconst hc rfl ?_
                       refine xr_zreturn hc rfl rfl (Nat.zero_le _) (Nat.zero_le _) (by first | exact Or.inl rfl | exact Or.inr rfl | assumption) ?_
                       first
                         | (exfalso; omega)
                         | (have hr : rwd c nn pl ps i p = (false, p + 3) := by
                              unfold rwd
                              rw [if_neg (by omega), if_neg (fun z => z f1), if_neg (fun z => z f2), if_neg (fun z => z f3), if_pos f4]
                            refine hF (by rw [hr]) N2 (fun q2 k2 v1 v2 v3 => by rw [y1 _ _ v1, n1 _ _ v1 (by omega)]) (by rw [hr]; exact y2) (by rw [hr]; have z := f3.1; show p + 3 ≤ nn; omega))
                         | (have hr : rwd c nn pl ps i p = (false, p + 2) := by
                              unfold rwd
                              rw [if_neg (by omega), if_neg (fun z => z f1), if_neg (fun z => z f2), if_pos f3]
                            refine hF (by rw [hr]) N (fun q2 k2 v1 v2 v3 => by rw [n1 _ _ v1 (by omega)]) (by rw [hr]; exact n2) (by rw [hr]; have z := f1.1; show p + 2 ≤ nn; omega)))
                · refine xk_1 ?_
                  refine xr_istore5 hc rfl rfl ?_
                  refine xr_iload hc rfl rfl ?_
                  refine xr_bipush hc rfl ?_
                  refine xr_icmp_ne hc rfl (t := 69) rfl (fun b64 => ?_) (fun b64 => ?_)
                  · first
                    | (exfalso; omega)
                    | (skip
                       refine xr_aloadn hc rfl rfl ?_
                       refine xr_getfr hc rfl rfl (by first | assumption | rfl) (by first | assumption | rfl) ?_
                       refine xr_getfr hc rfl rfl (by first | assumption | rfl) (by first | assumption | rfl) ?_
                       refine xr_iloadn hc rfl rfl ?_
                       refine xr_iloadn hc rfl rfl ?_
                       refine xr_iastore hc rfl (by first | assumption | rfl) (by first | omega | (unfold dz_w; omega)) (by first | omega | (unfold dz_w; omega)) ?_
                       rw [Int.toNat_natCast]
                       refine xr_aloadn hc rfl rfl ?_
                       refine xr_getfr hc rfl rfl (by first | assumption | rfl) (by first | assumption | rfl) ?_
                       refine xr_getfr hc rfl rfl (by first | assumption | rfl) (by first | assumption | rfl) ?_
                       refine xr_iloadn hc rfl rfl ?_
                       refine xr_iloadn hc rfl rfl ?_
                       refine xr_if_ne hc rfl (t := 102) rfl (fun b88 => ?_) (fun b88 => ?_)
                       · first
                         | (exfalso; omega)
                         | (skip
                            refine xr_iconst hc rfl ?_
                            refine xr_iastore hc rfl (by first | assumption | rfl) (by first | omega | (unfold dz_w; omega)) (by first | omega | (unfold dz_w; omega)) ?_
                            rw [Int.toNat_natCast]
                            refine xr_aloadn hc rfl rfl ?_
                            refine xr_getfr hc rfl rfl (by first | assumption | rfl) (by first | assumption | rfl) ?_
                            refine xr_getfr hc rfl rfl (by first | assumption | rfl) (by first | assumption | rfl) ?_
                            refine xr_iloadn hc rfl rfl ?_
                            refine xr_iloadn hc rfl rfl ?_
                            refine xr_if_ne hc rfl (t := 120) rfl (fun b113 => ?_) (fun b113 => ?_)
                            · first
                              | (exfalso; omega)
                              | (skip
                                 refine xr_iload hc rfl rfl ?_
                                 refine xr_iastore hc rfl (by first | assumption | rfl) (by first | omega | (unfold dz_w; omega)) (by first | omega | (unfold dz_w; omega)) ?_
                                 rw [Int.toNat_natCast]
                                 refine xr_aloadn hc rfl rfl ?_
                                 refine xr_getfr hc rfl rfl (by first | assumption | rfl) (by first | assumption | rfl) ?_
                                 refine xr_getfr hc rfl rfl (by first | assumption | rfl) (by first | assumption | rfl) ?_
                                 refine xr_iloadn hc rfl rfl ?_
                                 refine xr_iloadn hc rfl rfl ?_
                                 refine xr_if_ne hc rfl (t := 139) rfl (fun b132 => ?_) (fun b132 => ?_)
                                 · first
                                   | (exfalso; omega)
                                   | (skip
                                      refine xr_iload hc rfl rfl ?_
                                      refine xr_iastore hc rfl (by first | assumption | rfl) (by first | omega | (unfold dz_w; omega)) (by first | omega | (unfold dz_w; omega)) ?_
                                      rw [Int.toNat_natCast]
                                      refine xr_aloadn hc rfl rfl ?_
                                      refine xr_getfr hc rfl rfl (by first | assumption | rfl) (by first | assumption | rfl) ?_
                                      refine xr_iloadn hc rfl rfl ?_
                                      refine xr_iconst hc rfl ?_
                                      refine xr_iaddz hc rfl (by first | exact dz_wid (by first | omega | (unfold dz_w; omega)) (by first | omega | (unfold dz_w; omega)) | rfl) ?_
                                      refine xr_putfi hc rfl rfl (by first | assumption | rfl) ?_
                                      refine xr_iconst hc rfl ?_
                                      refine xr_zreturn hc rfl rfl (Nat.zero_le _) (Nat.zero_le _) (by first | exact Or.inl rfl | exact Or.inr rfl | assumption) ?_
                                      have hr : rwd c nn pl ps i p = (true, p + 4) := by
                                        unfold rwd
                                        rw [if_neg (by omega), if_neg (fun z => z f1), if_neg (fun z => z f2), if_neg (fun z => z f3), if_neg (fun z => z f4)]
                                      refine hT (by rw [hr]) (by rw [hr]) _ (fun q2 k2 v1 v2 v3 => ?_) ?_ ?_ ?_ ?_ ?_ ?_ ?_ f1 f3 f4 (by omega) f2
                                      · rw [dz_up_o (by omega), dz_up_o (by omega), dz_up_o (by omega), dz_up_o (by omega), dz_up_o (by omega)]
                                        rw [w1 _ _ v1, y1 _ _ v1, n1 _ _ v1 (by omega)]
                                      · repeat (first | rw [dz_up_ne (by omega)])
                                        exact w2
                                      · rw [dz_up_eq]
                                        omega
                                      · repeat (first | rw [dz_up_ne (by omega)])
                                        rw [dz_up_eq, eK, hk]
                                      · repeat (first | rw [dz_up_ne (by omega)])
                                        rw [w1 _ _ (by omega), y1 _ _ (by omega), n3, eP]
                                      · repeat (first | rw [dz_up_ne (by omega)])
                                        rw [dz_up_eq, eV]
                                        first
                                          | rw [if_pos (by omega)]
                                          | rw [if_neg (by omega)]
                                      · repeat (first | rw [dz_up_ne (by omega)])
                                        rw [dz_up_eq, eW]
                                        first
                                          | rw [if_pos (by omega)]
                                          | rw [if_neg (by omega)]
                                      · repeat (first | rw [dz_up_ne (by omega)])
                                        rw [dz_up_eq, eN]
                                        first
                                          | rw [if_pos (by omega)]
                                          | rw [if_neg (by omega)])
                                 · first
                                   | (exfalso; omega)
                                   | (skip
                                      refine xr_iconst hc rfl ?_
                                      refine xr_goto hc rfl (t := 141) rfl ?_
                                      refine xr_iastore hc rfl (by first | assumption | rfl) (by first | omega | (unfold dz_w; omega)) (by first | omega | (unfold dz_w; omega)) ?_
                                      rw [Int.toNat_natCast]
                                      refine xr_aloadn hc rfl rfl ?_
                                      refine xr_getfr hc rfl rfl (by first | assumption | rfl) (by first | assumption | rfl) ?_
                                      refine xr_iloadn hc rfl rfl ?_
                                      refine xr_iconst hc rfl ?_
                                      refine xr_iaddz hc rfl (by first | exact dz_wid (by first | omega | (unfold dz_w; omega)) (by first | omega | (unfold dz_w; omega)) | rfl) ?_
                                      refine xr_putfi hc rfl rfl (by first | assumption | rfl) ?_
                                      refine xr_iconst hc rfl ?_
                                      refine xr_zreturn hc rfl rfl (Nat.zero_le _) (Nat.zero_le _) (by first | exact Or.inl rfl | exact Or.inr rfl | assumption) ?_
                                      have hr : rwd c nn pl ps i p = (true, p + 4) := by
                                        unfold rwd
                                        rw [if_neg (by omega), if_neg (fun z => z f1), if_neg (fun z => z f2), if_neg (fun z => z f3), if_neg (fun z => z f4)]
                                      refine hT (by rw [hr]) (by rw [hr]) _ (fun q2 k2 v1 v2 v3 => ?_) ?_ ?_ ?_ ?_ ?_ ?_ ?_ f1 f3 f4 (by omega) f2
                                      · rw [dz_up_o (by omega), dz_up_o (by omega), dz_up_o (by omega), dz_up_o (by omega), dz_up_o (by omega)]
                                        rw [w1 _ _ v1, y1 _ _ v1, n1 _ _ v1 (by omega)]
                                      · repeat (first | rw [dz_up_ne (by omega)])
                                        exact w2
                                      · rw [dz_up_eq]
                                        omega
                                      · repeat (first | rw [dz_up_ne (by omega)])
                                        rw [dz_up_eq, eK, hk]
                                      · repeat (first | rw [dz_up_ne (by omega)])
                                        rw [w1 _ _ (by omega), y1 _ _ (by omega), n3, eP]
                                      · repeat (first | rw [dz_up_ne (by omega)])
                                        rw [dz_up_eq, eV]
                                        first
                                          | rw [if_pos (by omega)]
                                          | rw [if_neg (by omega)]
                                      · repeat (first | rw [dz_up_ne (by omega)])
                                        rw [dz_up_eq, eW]
                                        first
                                          | rw [if_pos (by omega)]
                                          | rw [if_neg (by omega)]
                                      · repeat (first | rw [dz_up_ne (by omega)])
                                        rw [dz_up_eq, eN]
                                        first
                                          | rw [if_pos (by omega)]
                                          | rw [if_neg (by omega)]))
                            · first
                              | (exfalso; omega)
                              | (skip
                                 refine xr_iconst hc rfl ?_
                                 refine xr_goto hc rfl (t := 122) rfl ?_
                                 refine xr_iastore hc rfl (by first | assumption | rfl) (by first | omega | (unfold dz_w; omega)) (by first | omega | (unfold dz_w; omega)) ?_
                                 rw [Int.toNat_natCast]
                                 refine xr_aloadn hc rfl rfl ?_
                                 refine xr_getfr hc rfl rfl (by first | assumption | rfl) (by first | assumption | rfl) ?_
                                 refine xr_getfr hc rfl rfl (by first | assumption | rfl) (by first | assumption | rfl) ?_
                                 refine xr_iloadn hc rfl rfl ?_
                                 refine xr_iloadn hc rfl rfl ?_
                                 refine xr_if_ne hc rfl (t := 139) rfl (fun b132 => ?_) (fun b132 => ?_)
                                 · first
                                   | (exfalso; omega)
                                   | (skip
                                      refine xr_iload hc rfl rfl ?_
                                      refine xr_iastore hc rfl (by first | assumption | rfl) (by first | omega | (unfold dz_w; omega)) (by first | omega | (unfold dz_w; omega)) ?_
                                      rw [Int.toNat_natCast]
                                      refine xr_aloadn hc rfl rfl ?_
                                      refine xr_getfr hc rfl rfl (by first | assumption | rfl) (by first | assumption | rfl) ?_
                                      refine xr_iloadn hc rfl rfl ?_
                                      refine xr_iconst hc rfl ?_
                                      refine xr_iaddz hc rfl (by first | exact dz_wid (by first | omega | (unfold dz_w; omega)) (by first | omega | (unfold dz_w; omega)) | rfl) ?_
                                      refine xr_putfi hc rfl rfl (by first | assumption | rfl) ?_
                                      refine xr_iconst hc rfl ?_
                                      refine xr_zreturn hc rfl rfl (Nat.zero_le _) (Nat.zero_le _) (by first | exact Or.inl rfl | exact Or.inr rfl | assumption) ?_
                                      have hr : rwd c nn pl ps i p = (true, p + 4) := by
                                        unfold rwd
                                        rw [if_neg (by omega), if_neg (fun z => z f1), if_neg (fun z => z f2), if_neg (fun z => z f3), if_neg (fun z => z f4)]
                                      refine hT (by rw [hr]) (by rw [hr]) _ (fun q2 k2 v1 v2 v3 => ?_) ?_ ?_ ?_ ?_ ?_ ?_ ?_ f1 f3 f4 (by omega) f2
                                      · rw [dz_up_o (by omega), dz_up_o (by omega), dz_up_o (by omega), dz_up_o (by omega), dz_up_o (by omega)]
                                        rw [w1 _ _ v1, y1 _ _ v1, n1 _ _ v1 (by omega)]
                                      · repeat (first | rw [dz_up_ne (by omega)])
                                        exact w2
                                      · rw [dz_up_eq]
                                        omega
                                      · repeat (first | rw [dz_up_ne (by omega)])
                                        rw [dz_up_eq, eK, hk]
                                      · repeat (first | rw [dz_up_ne (by omega)])
                                        rw [w1 _ _ (by omega), y1 _ _ (by omega), n3, eP]
                                      · repeat (first | rw [dz_up_ne (by omega)])
                                        rw [dz_up_eq, eV]
                                        first
                                          | rw [if_pos (by omega)]
                                          | rw [if_neg (by omega)]
                                      · repeat (first | rw [dz_up_ne (by omega)])
                                        rw [dz_up_eq, eW]
                                        first
                                          | rw [if_pos (by omega)]
                                          | rw [if_neg (by omega)]
                                      · repeat (first | rw [dz_up_ne (by omega)])
                                        rw [dz_up_eq, eN]
                                        first
                                          | rw [if_pos (by omega)]
                                          | rw [if_neg (by omega)])
                                 · first
                                   | (exfalso; omega)
                                   | (skip
                                      refine xr_iconst hc rfl ?_
                                      refine xr_goto hc rfl (t := 141) rfl ?_
                                      refine xr_iastore hc rfl (by first | assumption | rfl) (by first | omega | (unfold dz_w; omega)) (by first | omega | (unfold dz_w; omega)) ?_
                                      rw [Int.toNat_natCast]
                                      refine xr_aloadn hc rfl rfl ?_
                                      refine xr_getfr hc rfl rfl (by first | assumption | rfl) (by first | assumption | rfl) ?_
                                      refine xr_iloadn hc rfl rfl ?_
                                      refine xr_iconst hc rfl ?_
                                      refine xr_iaddz hc rfl (by first | exact dz_wid (by first | omega | (unfold dz_w; omega)) (by first | omega | (unfold dz_w; omega)) | rfl) ?_
                                      refine xr_putfi hc rfl rfl (by first | assumption | rfl) ?_
                                      refine xr_iconst hc rfl ?_
                                      refine xr_zreturn hc rfl rfl (Nat.zero_le _) (Nat.zero_le _) (by first | exact Or.inl rfl | exact Or.inr rfl | assumption) ?_
                                      have hr : rwd c nn pl ps i p = (true, p + 4) := by
                                        unfold rwd
                                        rw [if_neg (by omega), if_neg (fun z => z f1), if_neg (fun z => z f2), if_neg (fun z => z f3), if_neg (fun z => z f4)]
                                      refine hT (by rw [hr]) (by rw [hr]) _ (fun q2 k2 v1 v2 v3 => ?_) ?_ ?_ ?_ ?_ ?_ ?_ ?_ f1 f3 f4 (by omega) f2
                                      · rw [dz_up_o (by omega), dz_up_o (by omega), dz_up_o (by omega), dz_up_o (by omega), dz_up_o (by omega)]
                                        rw [w1 _ _ v1, y1 _ _ v1, n1 _ _ v1 (by omega)]
                                      · repeat (first | rw [dz_up_ne (by omega)])
                                        exact w2
                                      · rw [dz_up_eq]
                                        omega
                                      · repeat (first | rw [dz_up_ne (by omega)])
                                        rw [dz_up_eq, eK, hk]
                                      · repeat (first | rw [dz_up_ne (by omega)])
                                        rw [w1 _ _ (by omega), y1 _ _ (by omega), n3, eP]
                                      · repeat (first | rw [dz_up_ne (by omega)])
                                        rw [dz_up_eq, eV]
                                        first
                                          | rw [if_pos (by omega)]
                                          | rw [if_neg (by omega)]
                                      · repeat (first | rw [dz_up_ne (by omega)])
                                        rw [dz_up_eq, eW]
                                        first
                                          | rw [if_pos (by omega)]
                                          | rw [if_neg (by omega)]
                                      · repeat (first | rw [dz_up_ne (by omega)])
                                        rw [dz_up_eq, eN]
                                        first
                                          | rw [if_pos (by omega)]
                                          | rw [if_neg (by omega)])))
                       · first
                         | (exfalso; omega)
                         | (skip
                            refine xr_bipush hc rfl ?_
                            refine xr_iload hc rfl rfl ?_
                            refine xr_imulz hc rfl (by first | exact dz_wid (by first | omega | (unfold dz_w; omega)) (by first | omega | (unfold dz_w; omega)) | rfl) ?_
                            refine xr_iload hc rfl rfl ?_
                            refine xr_iaddz hc rfl (by first | exact dz_wid (by first | omega | (unfold dz_w; omega)) (by first | omega | (unfold dz_w; omega)) | rfl) ?_
                            refine xr_goto hc rfl (t := 103) rfl ?_
                            refine xr_iastore hc rfl (by first | assumption | rfl) (by first | omega | (unfold dz_w; omega)) (by first | omega | (unfold dz_w; omega)) ?_
                            rw [Int.toNat_natCast]
                            refine xr_aloadn hc rfl rfl ?_
                            refine xr_getfr hc rfl rfl (by first | assumption | rfl) (by first | assumption | rfl) ?_
                            refine xr_getfr hc rfl rfl (by first | assumption | rfl) (by first | assumption | rfl) ?_
                            refine xr_iloadn hc rfl rfl ?_
                            refine xr_iloadn hc rfl rfl ?_
                            refine xr_if_ne hc rfl (t := 120) rfl (fun b113 => ?_) (fun b113 => ?_)
                            · first
                              | (exfalso; omega)
                              | (skip
                                 refine xr_iload hc rfl rfl ?_
                                 refine xr_iastore hc rfl (by first | assumption | rfl) (by first | omega | (unfold dz_w; omega)) (by first | omega | (unfold dz_w; omega)) ?_
                                 rw [Int.toNat_natCast]
                                 refine xr_aloadn hc rfl rfl ?_
                                 refine xr_getfr hc rfl rfl (by first | assumption | rfl) (by first | assumption | rfl) ?_
                                 refine xr_getfr hc rfl rfl (by first | assumption | rfl) (by first | assumption | rfl) ?_
                                 refine xr_iloadn hc rfl rfl ?_
                                 refine xr_iloadn hc rfl rfl ?_
                                 refine xr_if_ne hc rfl (t := 139) rfl (fun b132 => ?_) (fun b132 => ?_)
                                 · first
                                   | (exfalso; omega)
                                   | (skip
                                      refine xr_iload hc rfl rfl ?_
                                      refine xr_iastore hc rfl (by first | assumption | rfl) (by first | omega | (unfold dz_w; omega)) (by first | omega | (unfold dz_w; omega)) ?_
                                      rw [Int.toNat_natCast]
                                      refine xr_aloadn hc rfl rfl ?_
                                      refine xr_getfr hc rfl rfl (by first | assumption | rfl) (by first | assumption | rfl) ?_
                                      refine xr_iloadn hc rfl rfl ?_
                                      refine xr_iconst hc rfl ?_
                                      refine xr_iaddz hc rfl (by first | exact dz_wid (by first | omega | (unfold dz_w; omega)) (by first | omega | (unfold dz_w; omega)) | rfl) ?_
                                      refine xr_putfi hc rfl rfl (by first | assumption | rfl) ?_
                                      refine xr_iconst hc rfl ?_
                                      refine xr_zreturn hc rfl rfl (Nat.zero_le _) (Nat.zero_le _) (by first | exact Or.inl rfl | exact Or.inr rfl | assumption) ?_
                                      have hr : rwd c nn pl ps i p = (true, p + 4) := by
                                        unfold rwd
                                        rw [if_neg (by omega), if_neg (fun z => z f1), if_neg (fun z => z f2), if_neg (fun z => z f3), if_neg (fun z => z f4)]
                                      refine hT (by rw [hr]) (by rw [hr]) _ (fun q2 k2 v1 v2 v3 => ?_) ?_ ?_ ?_ ?_ ?_ ?_ ?_ f1 f3 f4 (by omega) f2
                                      · rw [dz_up_o (by omega), dz_up_o (by omega), dz_up_o (by omega), dz_up_o (by omega), dz_up_o (by omega)]
                                        rw [w1 _ _ v1, y1 _ _ v1, n1 _ _ v1 (by omega)]
                                      · repeat (first | rw [dz_up_ne (by omega)])
                                        exact w2
                                      · rw [dz_up_eq]
                                        omega
                                      · repeat (first | rw [dz_up_ne (by omega)])
                                        rw [dz_up_eq, eK, hk]
                                      · repeat (first | rw [dz_up_ne (by omega)])
                                        rw [w1 _ _ (by omega), y1 _ _ (by omega), n3, eP]
                                      · repeat (first | rw [dz_up_ne (by omega)])
                                        rw [dz_up_eq, eV]
                                        first
                                          | rw [if_pos (by omega)]
                                          | rw [if_neg (by omega)]
                                      · repeat (first | rw [dz_up_ne (by omega)])
                                        rw [dz_up_eq, eW]
                                        first
                                          | rw [if_pos (by omega)]
                                          | rw [if_neg (by omega)]
                                      · repeat (first | rw [dz_up_ne (by omega)])
                                        rw [dz_up_eq, eN]
                                        first
                                          | rw [if_pos (by omega)]
                                          | rw [if_neg (by omega)])
                                 · first
                                   | (exfalso; omega)
                                   | (skip
                                      refine xr_iconst hc rfl ?_
                                      refine xr_goto hc rfl (t := 141) rfl ?_
                                      refine xr_iastore hc rfl (by first | assumption | rfl) (by first | omega | (unfold dz_w; omega)) (by first | omega | (unfold dz_w; omega)) ?_
                                      rw [Int.toNat_natCast]
                                      refine xr_aloadn hc rfl rfl ?_
                                      refine xr_getfr hc rfl rfl (by first | assumption | rfl) (by first | assumption | rfl) ?_
                                      refine xr_iloadn hc rfl rfl ?_
                                      refine xr_iconst hc rfl ?_
                                      refine xr_iaddz hc rfl (by first | exact dz_wid (by first | omega | (unfold dz_w; omega)) (by first | omega | (unfold dz_w; omega)) | rfl) ?_
                                      refine xr_putfi hc rfl rfl (by first | assumption | rfl) ?_
                                      refine xr_iconst hc rfl ?_
                                      refine xr_zreturn hc rfl rfl (Nat.zero_le _) (Nat.zero_le _) (by first | exact Or.inl rfl | exact Or.inr rfl | assumption) ?_
                                      have hr : rwd c nn pl ps i p = (true, p + 4) := by
                                        unfold rwd
                                        rw [if_neg (by omega), if_neg (fun z => z f1), if_neg (fun z => z f2), if_neg (fun z => z f3), if_neg (fun z => z f4)]
                                      refine hT (by rw [hr]) (by rw [hr]) _ (fun q2 k2 v1 v2 v3 => ?_) ?_ ?_ ?_ ?_ ?_ ?_ ?_ f1 f3 f4 (by omega) f2
                                      · rw [dz_up_o (by omega), dz_up_o (by omega), dz_up_o (by omega), dz_up_o (by omega), dz_up_o (by omega)]
                                        rw [w1 _ _ v1, y1 _ _ v1, n1 _ _ v1 (by omega)]
                                      · repeat (first | rw [dz_up_ne (by omega)])
                                        exact w2
                                      · rw [dz_up_eq]
                                        omega
                                      · repeat (first | rw [dz_up_ne (by omega)])
                                        rw [dz_up_eq, eK, hk]
                                      · repeat (first | rw [dz_up_ne (by omega)])
                                        rw [w1 _ _ (by omega), y1 _ _ (by omega), n3, eP]
                                      · repeat (first | rw [dz_up_ne (by omega)])
                                        rw [dz_up_eq, eV]
                                        first
                                          | rw [if_pos (by omega)]
                                          | rw [if_neg (by omega)]
                                      · repeat (first | rw [dz_up_ne (by omega)])
                                        rw [dz_up_eq, eW]
                                        first
                                          | rw [if_pos (by omega)]
                                          | rw [if_neg (by omega)]
                                      · repeat (first | rw [dz_up_ne (by omega)])
                                        rw [dz_up_eq, eN]
                                        first
                                          | rw [if_pos (by omega)]
                                          | rw [if_neg (by omega)]))
                            · first
                              | (exfalso; omega)
                              | (skip
                                 refine xr_iconst hc rfl ?_
                                 refine xr_goto hc rfl (t := 122) rfl ?_
                                 refine xr_iastore hc rfl (by first | assumption | rfl) (by first | omega | (unfold dz_w; omega)) (by first | omega | (unfold dz_w; omega)) ?_
                                 rw [Int.toNat_natCast]
                                 refine xr_aloadn hc rfl rfl ?_
                                 refine xr_getfr hc rfl rfl (by first | assumption | rfl) (by first | assumption | rfl) ?_
                                 refine xr_getfr hc rfl rfl (by first | assumption | rfl) (by first | assumption | rfl) ?_
                                 refine xr_iloadn hc rfl rfl ?_
                                 refine xr_iloadn hc rfl rfl ?_
                                 refine xr_if_ne hc rfl (t := 139) rfl (fun b132 => ?_) (fun b132 => ?_)
                                 · first
                                   | (exfalso; omega)
                                   | (skip
                                      refine xr_iload hc rfl rfl ?_
                                      refine xr_iastore hc rfl (by first | assumption | rfl) (by first | omega | (unfold dz_w; omega)) (by first | omega | (unfold dz_w; omega)) ?_
                                      rw [Int.toNat_natCast]
                                      refine xr_aloadn hc rfl rfl ?_
                                      refine xr_getfr hc rfl rfl (by first | assumption | rfl) (by first | assumption | rfl) ?_
                                      refine xr_iloadn hc rfl rfl ?_
                                      refine xr_iconst hc rfl ?_
                                      refine xr_iaddz hc rfl (by first | exact dz_wid (by first | omega | (unfold dz_w; omega)) (by first | omega | (unfold dz_w; omega)) | rfl) ?_
                                      refine xr_putfi hc rfl rfl (by first | assumption | rfl) ?_
                                      refine xr_iconst hc rfl ?_
                                      refine xr_zreturn hc rfl rfl (Nat.zero_le _) (Nat.zero_le _) (by first | exact Or.inl rfl | exact Or.inr rfl | assumption) ?_
                                      have hr : rwd c nn pl ps i p = (true, p + 4) := by
                                        unfold rwd
                                        rw [if_neg (by omega), if_neg (fun z => z f1), if_neg (fun z => z f2), if_neg (fun z => z f3), if_neg (fun z => z f4)]
                                      refine hT (by rw [hr]) (by rw [hr]) _ (fun q2 k2 v1 v2 v3 => ?_) ?_ ?_ ?_ ?_ ?_ ?_ ?_ f1 f3 f4 (by omega) f2
                                      · rw [dz_up_o (by omega), dz_up_o (by omega), dz_up_o (by omega), dz_up_o (by omega), dz_up_o (by omega)]
                                        rw [w1 _ _ v1, y1 _ _ v1, n1 _ _ v1 (by omega)]
                                      · repeat (first | rw [dz_up_ne (by omega)])
                                        exact w2
                                      · rw [dz_up_eq]
                                        omega
                                      · repeat (first | rw [dz_up_ne (by omega)])
                                        rw [dz_up_eq, eK, hk]
                                      · repeat (first | rw [dz_up_ne (by omega)])
                                        rw [w1 _ _ (by omega), y1 _ _ (by omega), n3, eP]
                                      · repeat (first | rw [dz_up_ne (by omega)])
                                        rw [dz_up_eq, eV]
                                        first
                                          | rw [if_pos (by omega)]
                                          | rw [if_neg (by omega)]
                                      · repeat (first | rw [dz_up_ne (by omega)])
                                        rw [dz_up_eq, eW]
                                        first
                                          | rw [if_pos (by omega)]
                                          | rw [if_neg (by omega)]
                                      · repeat (first | rw [dz_up_ne (by omega)])
                                        rw [dz_up_eq, eN]
                                        first
                                          | rw [if_pos (by omega)]
                                          | rw [if_neg (by omega)])
                                 · first
                                   | (exfalso; omega)
                                   | (skip
                                      refine xr_iconst hc rfl ?_
                                      refine xr_goto hc rfl (t := 141) rfl ?_
                                      refine xr_iastore hc rfl (by first | assumption | rfl) (by first | omega | (unfold dz_w; omega)) (by first | omega | (unfold dz_w; omega)) ?_
                                      rw [Int.toNat_natCast]
                                      refine xr_aloadn hc rfl rfl ?_
                                      refine xr_getfr hc rfl rfl (by first | assumption | rfl) (by first | assumption | rfl) ?_
                                      refine xr_iloadn hc rfl rfl ?_
                                      refine xr_iconst hc rfl ?_
                                      refine xr_iaddz hc rfl (by first | exact dz_wid (by first | omega | (unfold dz_w; omega)) (by first | omega | (unfold dz_w; omega)) | rfl) ?_
                                      refine xr_putfi hc rfl rfl (by first | assumption | rfl) ?_
                                      refine xr_iconst hc rfl ?_
                                      refine xr_zreturn hc rfl rfl (Nat.zero_le _) (Nat.zero_le _) (by first | exact Or.inl rfl | exact Or.inr rfl | assumption) ?_
                                      have hr : rwd c nn pl ps i p = (true, p + 4) := by
                                        unfold rwd
                                        rw [if_neg (by omega), if_neg (fun z => z f1), if_neg (fun z => z f2), if_neg (fun z => z f3), if_neg (fun z => z f4)]
                                      refine hT (by rw [hr]) (by rw [hr]) _ (fun q2 k2 v1 v2 v3 => ?_) ?_ ?_ ?_ ?_ ?_ ?_ ?_ f1 f3 f4 (by omega) f2
                                      · rw [dz_up_o (by omega), dz_up_o (by omega), dz_up_o (by omega), dz_up_o (by omega), dz_up_o (by omega)]
                                        rw [w1 _ _ v1, y1 _ _ v1, n1 _ _ v1 (by omega)]
                                      · repeat (first | rw [dz_up_ne (by omega)])
                                        exact w2
                                      · rw [dz_up_eq]
                                        omega
                                      · repeat (first | rw [dz_up_ne (by omega)])
                                        rw [dz_up_eq, eK, hk]
                                      · repeat (first | rw [dz_up_ne (by omega)])
                                        rw [w1 _ _ (by omega), y1 _ _ (by omega), n3, eP]
                                      · repeat (first | rw [dz_up_ne (by omega)])
                                        rw [dz_up_eq, eV]
                                        first
                                          | rw [if_pos (by omega)]
                                          | rw [if_neg (by omega)]
                                      · repeat (first | rw [dz_up_ne (by omega)])
                                        rw [dz_up_eq, eW]
                                        first
                                          | rw [if_pos (by omega)]
                                          | rw [if_neg (by omega)]
                                      · repeat (first | rw [dz_up_ne (by omega)])
                                        rw [dz_up_eq, eN]
                                        first
                                          | rw [if_pos (by omega)]
                                          | rw [if_neg (by omega)]))))
                  · first
                    | (exfalso; omega)
                    | (skip
                       refine xr_iconst hc rfl ?_
                       refine xr_zreturn hc rfl rfl (Nat.zero_le _) (Nat.zero_le _) (by first | exact Or.inl rfl | exact Or.inr rfl | assumption) ?_
                       first
                         | (exfalso; omega)
                         | (have hr : rwd c nn pl ps i p = (false, p + 3) := by
                              unfold rwd
                              rw [if_neg (by omega), if_neg (fun z => z f1), if_neg (fun z => z f2), if_neg (fun z => z f3), if_pos f4]
                            refine hF (by rw [hr]) N2 (fun q2 k2 v1 v2 v3 => by rw [y1 _ _ v1, n1 _ _ v1 (by omega)]) (by rw [hr]; exact y2) (by rw [hr]; have z := f3.1; show p + 3 ≤ nn; omega))
                         | (have hr : rwd c nn pl ps i p = (false, p + 2) := by
                              unfold rwd
                              rw [if_neg (by omega), if_neg (fun z => z f1), if_neg (fun z => z f2), if_pos f3]
                            refine hF (by rw [hr]) N (fun q2 k2 v1 v2 v3 => by rw [n1 _ _ v1 (by omega)]) (by rw [hr]; exact n2) (by rw [hr]; have z := f1.1; show p + 2 ≤ nn; omega))))
           · first
             | (exfalso; omega)
             | (skip
                refine xr_bipush hc rfl ?_
                refine xr_goto hc rfl (t := 58) rfl ?_
                refine xr_istore5 hc rfl rfl ?_
                refine xr_iload hc rfl rfl ?_
                refine xr_bipush hc rfl ?_
                refine xr_icmp_ne hc rfl (t := 69) rfl (fun b64 => ?_) (fun b64 => ?_)
                · first
                  | (exfalso; omega)
                  | (skip
                     refine xr_aloadn hc rfl rfl ?_
                     refine xr_getfr hc rfl rfl (by first | assumption | rfl) (by first | assumption | rfl) ?_
                     refine xr_getfr hc rfl rfl (by first | assumption | rfl) (by first | assumption | rfl) ?_
                     refine xr_iloadn hc rfl rfl ?_
                     refine xr_iloadn hc rfl rfl ?_
                     refine xr_iastore hc rfl (by first | assumption | rfl) (by first | omega | (unfold dz_w; omega)) (by first | omega | (unfold dz_w; omega)) ?_
                     rw [Int.toNat_natCast]
                     refine xr_aloadn hc rfl rfl ?_
                     refine xr_getfr hc rfl rfl (by first | assumption | rfl) (by first | assumption | rfl) ?_
                     refine xr_getfr hc rfl rfl (by first | assumption | rfl) (by first | assumption | rfl) ?_
                     refine xr_iloadn hc rfl rfl ?_
                     refine xr_iloadn hc rfl rfl ?_
                     refine xr_if_ne hc rfl (t := 102) rfl (fun b88 => ?_) (fun b88 => ?_)
                     · first
                       | (exfalso; omega)
                       | (skip
                          refine xr_iconst hc rfl ?_
                          refine xr_iastore hc rfl (by first | assumption | rfl) (by first | omega | (unfold dz_w; omega)) (by first | omega | (unfold dz_w; omega)) ?_
                          rw [Int.toNat_natCast]
                          refine xr_aloadn hc rfl rfl ?_
                          refine xr_getfr hc rfl rfl (by first | assumption | rfl) (by first | assumption | rfl) ?_
                          refine xr_getfr hc rfl rfl (by first | assumption | rfl) (by first | assumption | rfl) ?_
                          refine xr_iloadn hc rfl rfl ?_
                          refine xr_iloadn hc rfl rfl ?_
                          refine xr_if_ne hc rfl (t := 120) rfl (fun b113 => ?_) (fun b113 => ?_)
                          · first
                            | (exfalso; omega)
                            | (skip
                               refine xr_iload hc rfl rfl ?_
                               refine xr_iastore hc rfl (by first | assumption | rfl) (by first | omega | (unfold dz_w; omega)) (by first | omega | (unfold dz_w; omega)) ?_
                               rw [Int.toNat_natCast]
                               refine xr_aloadn hc rfl rfl ?_
                               refine xr_getfr hc rfl rfl (by first | assumption | rfl) (by first | assumption | rfl) ?_
                               refine xr_getfr hc rfl rfl (by first | assumption | rfl) (by first | assumption | rfl) ?_
                               refine xr_iloadn hc rfl rfl ?_
                               refine xr_iloadn hc rfl rfl ?_
                               refine xr_if_ne hc rfl (t := 139) rfl (fun b132 => ?_) (fun b132 => ?_)
                               · first
                                 | (exfalso; omega)
                                 | (skip
                                    refine xr_iload hc rfl rfl ?_
                                    refine xr_iastore hc rfl (by first | assumption | rfl) (by first | omega | (unfold dz_w; omega)) (by first | omega | (unfold dz_w; omega)) ?_
                                    rw [Int.toNat_natCast]
                                    refine xr_aloadn hc rfl rfl ?_
                                    refine xr_getfr hc rfl rfl (by first | assumption | rfl) (by first | assumption | rfl) ?_
                                    refine xr_iloadn hc rfl rfl ?_
                                    refine xr_iconst hc rfl ?_
                                    refine xr_iaddz hc rfl (by first | exact dz_wid (by first | omega | (unfold dz_w; omega)) (by first | omega | (unfold dz_w; omega)) | rfl) ?_
                                    refine xr_putfi hc rfl rfl (by first | assumption | rfl) ?_
                                    refine xr_iconst hc rfl ?_
                                    refine xr_zreturn hc rfl rfl (Nat.zero_le _) (Nat.zero_le _) (by first | exact Or.inl rfl | exact Or.inr rfl | assumption) ?_
                                    have hr : rwd c nn pl ps i p = (true, p + 4) := by
                                      unfold rwd
                                      rw [if_neg (by omega), if_neg (fun z => z f1), if_neg (fun z => z f2), if_neg (fun z => z f3), if_neg (fun z => z f4)]
                                    refine hT (by rw [hr]) (by rw [hr]) _ (fun q2 k2 v1 v2 v3 => ?_) ?_ ?_ ?_ ?_ ?_ ?_ ?_ f1 f3 f4 (by omega) f2
                                    · rw [dz_up_o (by omega), dz_up_o (by omega), dz_up_o (by omega), dz_up_o (by omega), dz_up_o (by omega)]
                                      rw [w1 _ _ v1, y1 _ _ v1, n1 _ _ v1 (by omega)]
                                    · repeat (first | rw [dz_up_ne (by omega)])
                                      exact w2
                                    · rw [dz_up_eq]
                                      omega
                                    · repeat (first | rw [dz_up_ne (by omega)])
                                      rw [dz_up_eq, eK, hk]
                                    · repeat (first | rw [dz_up_ne (by omega)])
                                      rw [w1 _ _ (by omega), y1 _ _ (by omega), n3, eP]
                                    · repeat (first | rw [dz_up_ne (by omega)])
                                      rw [dz_up_eq, eV]
                                      first
                                        | rw [if_pos (by omega)]
                                        | rw [if_neg (by omega)]
                                    · repeat (first | rw [dz_up_ne (by omega)])
                                      rw [dz_up_eq, eW]
                                      first
                                        | rw [if_pos (by omega)]
                                        | rw [if_neg (by omega)]
                                    · repeat (first | rw [dz_up_ne (by omega)])
                                      rw [dz_up_eq, eN]
                                      first
                                        | rw [if_pos (by omega)]
                                        | rw [if_neg (by omega)])
                               · first
                                 | (exfalso; omega)
                                 | (skip
                                    refine xr_iconst hc rfl ?_
                                    refine xr_goto hc rfl (t := 141) rfl ?_
                                    refine xr_iastore hc rfl (by first | assumption | rfl) (by first | omega | (unfold dz_w; omega)) (by first | omega | (unfold dz_w; omega)) ?_
                                    rw [Int.toNat_natCast]
                                    refine xr_aloadn hc rfl rfl ?_
                                    refine xr_getfr hc rfl rfl (by first | assumption | rfl) (by first | assumption | rfl) ?_
                                    refine xr_iloadn hc rfl rfl ?_
                                    refine xr_iconst hc rfl ?_
                                    refine xr_iaddz hc rfl (by first | exact dz_wid (by first | omega | (unfold dz_w; omega)) (by first | omega | (unfold dz_w; omega)) | rfl) ?_
                                    refine xr_putfi hc rfl rfl (by first | assumption | rfl) ?_
                                    refine xr_iconst hc rfl ?_
                                    refine xr_zreturn hc rfl rfl (Nat.zero_le _) (Nat.zero_le _) (by first | exact Or.inl rfl | exact Or.inr rfl | assumption) ?_
                                    have hr : rwd c nn pl ps i p = (true, p + 4) := by
                                      unfold rwd
                                      rw [if_neg (by omega), if_neg (fun z => z f1), if_neg (fun z => z f2), if_neg (fun z => z f3), if_neg (fun z => z f4)]
                                    refine hT (by rw [hr]) (by rw [hr]) _ (fun q2 k2 v1 v2 v3 => ?_) ?_ ?_ ?_ ?_ ?_ ?_ ?_ f1 f3 f4 (by omega) f2
                                    · rw [dz_up_o (by omega), dz_up_o (by omega), dz_up_o (by omega), dz_up_o (by omega), dz_up_o (by omega)]
                                      rw [w1 _ _ v1, y1 _ _ v1, n1 _ _ v1 (by omega)]
                                    · repeat (first | rw [dz_up_ne (by omega)])
                                      exact w2
                                    · rw [dz_up_eq]
                                      omega
                                    · repeat (first | rw [dz_up_ne (by omega)])
                                      rw [dz_up_eq, eK, hk]
                                    · repeat (first | rw [dz_up_ne (by omega)])
                                      rw [w1 _ _ (by omega), y1 _ _ (by omega), n3, eP]
                                    · repeat (first | rw [dz_up_ne (by omega)])
                                      rw [dz_up_eq, eV]
                                      first
                                        | rw [if_pos (by omega)]
                                        | rw [if_neg (by omega)]
                                    · repeat (first | rw [dz_up_ne (by omega)])
                                      rw [dz_up_eq, eW]
                                      first
                                        | rw [if_pos (by omega)]
                                        | rw [if_neg (by omega)]
                                    · repeat (first | rw [dz_up_ne (by omega)])
                                      rw [dz_up_eq, eN]
                                      first
                                        | rw [if_pos (by omega)]
                                        | rw [if_neg (by omega)]))
                          · first
                            | (exfalso; omega)
                            | (skip
                               refine xr_iconst hc rfl ?_
                               refine xr_goto hc rfl (t := 122) rfl ?_
                               refine xr_iastore hc rfl (by first | assumption | rfl) (by first | omega | (unfold dz_w; omega)) (by first | omega | (unfold dz_w; omega)) ?_
                               rw [Int.toNat_natCast]
                               refine xr_aloadn hc rfl rfl ?_
                               refine xr_getfr hc rfl rfl (by first | assumption | rfl) (by first | assumption | rfl) ?_
                               refine xr_getfr hc rfl rfl (by first | assumption | rfl) (by first | assumption | rfl) ?_
                               refine xr_iloadn hc rfl rfl ?_
                               refine xr_iloadn hc rfl rfl ?_
                               refine xr_if_ne hc rfl (t := 139) rfl (fun b132 => ?_) (fun b132 => ?_)
                               · first
                                 | (exfalso; omega)
                                 | (skip
                                    refine xr_iload hc rfl rfl ?_
                                    refine xr_iastore hc rfl (by first | assumption | rfl) (by first | omega | (unfold dz_w; omega)) (by first | omega | (unfold dz_w; omega)) ?_
                                    rw [Int.toNat_natCast]
                                    refine xr_aloadn hc rfl rfl ?_
                                    refine xr_getfr hc rfl rfl (by first | assumption | rfl) (by first | assumption | rfl) ?_
                                    refine xr_iloadn hc rfl rfl ?_
                                    refine xr_iconst hc rfl ?_
                                    refine xr_iaddz hc rfl (by first | exact dz_wid (by first | omega | (unfold dz_w; omega)) (by first | omega | (unfold dz_w; omega)) | rfl) ?_
                                    refine xr_putfi hc rfl rfl (by first | assumption | rfl) ?_
                                    refine xr_iconst hc rfl ?_
                                    refine xr_zreturn hc rfl rfl (Nat.zero_le _) (Nat.zero_le _) (by first | exact Or.inl rfl | exact Or.inr rfl | assumption) ?_
                                    have hr : rwd c nn pl ps i p = (true, p + 4) := by
                                      unfold rwd
                                      rw [if_neg (by omega), if_neg (fun z => z f1), if_neg (fun z => z f2), if_neg (fun z => z f3), if_neg (fun z => z f4)]
                                    refine hT (by rw [hr]) (by rw [hr]) _ (fun q2 k2 v1 v2 v3 => ?_) ?_ ?_ ?_ ?_ ?_ ?_ ?_ f1 f3 f4 (by omega) f2
                                    · rw [dz_up_o (by omega), dz_up_o (by omega), dz_up_o (by omega), dz_up_o (by omega), dz_up_o (by omega)]
                                      rw [w1 _ _ v1, y1 _ _ v1, n1 _ _ v1 (by omega)]
                                    · repeat (first | rw [dz_up_ne (by omega)])
                                      exact w2
                                    · rw [dz_up_eq]
                                      omega
                                    · repeat (first | rw [dz_up_ne (by omega)])
                                      rw [dz_up_eq, eK, hk]
                                    · repeat (first | rw [dz_up_ne (by omega)])
                                      rw [w1 _ _ (by omega), y1 _ _ (by omega), n3, eP]
                                    · repeat (first | rw [dz_up_ne (by omega)])
                                      rw [dz_up_eq, eV]
                                      first
                                        | rw [if_pos (by omega)]
                                        | rw [if_neg (by omega)]
                                    · repeat (first | rw [dz_up_ne (by omega)])
                                      rw [dz_up_eq, eW]
                                      first
                                        | rw [if_pos (by omega)]
                                        | rw [if_neg (by omega)]
                                    · repeat (first | rw [dz_up_ne (by omega)])
                                      rw [dz_up_eq, eN]
                                      first
                                        | rw [if_pos (by omega)]
                                        | rw [if_neg (by omega)])
                               · first
                                 | (exfalso; omega)
                                 | (skip
                                    refine xr_iconst hc rfl ?_
                                    refine xr_goto hc rfl (t := 141) rfl ?_
                                    refine xr_iastore hc rfl (by first | assumption | rfl) (by first | omega | (unfold dz_w; omega)) (by first | omega | (unfold dz_w; omega)) ?_
                                    rw [Int.toNat_natCast]
                                    refine xr_aloadn hc rfl rfl ?_
                                    refine xr_getfr hc rfl rfl (by first | assumption | rfl) (by first | assumption | rfl) ?_
                                    refine xr_iloadn hc rfl rfl ?_
                                    refine xr_iconst hc rfl ?_
                                    refine xr_iaddz hc rfl (by first | exact dz_wid (by first | omega | (unfold dz_w; omega)) (by first | omega | (unfold dz_w; omega)) | rfl) ?_
                                    refine xr_putfi hc rfl rfl (by first | assumption | rfl) ?_
                                    refine xr_iconst hc rfl ?_
                                    refine xr_zreturn hc rfl rfl (Nat.zero_le _) (Nat.zero_le _) (by first | exact Or.inl rfl | exact Or.inr rfl | assumption) ?_
                                    have hr : rwd c nn pl ps i p = (true, p + 4) := by
                                      unfold rwd
                                      rw [if_neg (by omega), if_neg (fun z => z f1), if_neg (fun z => z f2), if_neg (fun z => z f3), if_neg (fun z => z f4)]
                                    refine hT (by rw [hr]) (by rw [hr]) _ (fun q2 k2 v1 v2 v3 => ?_) ?_ ?_ ?_ ?_ ?_ ?_ ?_ f1 f3 f4 (by omega) f2
                                    · rw [dz_up_o (by omega), dz_up_o (by omega), dz_up_o (by omega), dz_up_o (by omega), dz_up_o (by omega)]
                                      rw [w1 _ _ v1, y1 _ _ v1, n1 _ _ v1 (by omega)]
                                    · repeat (first | rw [dz_up_ne (by omega)])
                                      exact w2
                                    · rw [dz_up_eq]
                                      omega
                                    · repeat (first | rw [dz_up_ne (by omega)])
                                      rw [dz_up_eq, eK, hk]
                                    · repeat (first | rw [dz_up_ne (by omega)])
                                      rw [w1 _ _ (by omega), y1 _ _ (by omega), n3, eP]
                                    · repeat (first | rw [dz_up_ne (by omega)])
                                      rw [dz_up_eq, eV]
                                      first
                                        | rw [if_pos (by omega)]
                                        | rw [if_neg (by omega)]
                                    · repeat (first | rw [dz_up_ne (by omega)])
                                      rw [dz_up_eq, eW]
                                      first
                                        | rw [if_pos (by omega)]
                                        | rw [if_neg (by omega)]
                                    · repeat (first | rw [dz_up_ne (by omega)])
                                      rw [dz_up_eq, eN]
                                      first
                                        | rw [if_pos (by omega)]
                                        | rw [if_neg (by omega)])))
                     · first
                       | (exfalso; omega)
                       | (skip
                          refine xr_bipush hc rfl ?_
                          refine xr_iload hc rfl rfl ?_
                          refine xr_imulz hc rfl (by first | exact dz_wid (by first | omega | (unfold dz_w; omega)) (by first | omega | (unfold dz_w; omega)) | rfl) ?_
                          refine xr_iload hc rfl rfl ?_
                          refine xr_iaddz hc rfl (by first | exact dz_wid (by first | omega | (unfold dz_w; omega)) (by first | omega | (unfold dz_w; omega)) | rfl) ?_
                          refine xr_goto hc rfl (t := 103) rfl ?_
                          refine xr_iastore hc rfl (by first | assumption | rfl) (by first | omega | (unfold dz_w; omega)) (by first | omega | (unfold dz_w; omega)) ?_
                          rw [Int.toNat_natCast]
                          refine xr_aloadn hc rfl rfl ?_
                          refine xr_getfr hc rfl rfl (by first | assumption | rfl) (by first | assumption | rfl) ?_
                          refine xr_getfr hc rfl rfl (by first | assumption | rfl) (by first | assumption | rfl) ?_
                          refine xr_iloadn hc rfl rfl ?_
                          refine xr_iloadn hc rfl rfl ?_
                          refine xr_if_ne hc rfl (t := 120) rfl (fun b113 => ?_) (fun b113 => ?_)
                          · first
                            | (exfalso; omega)
                            | (skip
                               refine xr_iload hc rfl rfl ?_
                               refine xr_iastore hc rfl (by first | assumption | rfl) (by first | omega | (unfold dz_w; omega)) (by first | omega | (unfold dz_w; omega)) ?_
                               rw [Int.toNat_natCast]
                               refine xr_aloadn hc rfl rfl ?_
                               refine xr_getfr hc rfl rfl (by first | assumption | rfl) (by first | assumption | rfl) ?_
                               refine xr_getfr hc rfl rfl (by first | assumption | rfl) (by first | assumption | rfl) ?_
                               refine xr_iloadn hc rfl rfl ?_
                               refine xr_iloadn hc rfl rfl ?_
                               refine xr_if_ne hc rfl (t := 139) rfl (fun b132 => ?_) (fun b132 => ?_)
                               · first
                                 | (exfalso; omega)
                                 | (skip
                                    refine xr_iload hc rfl rfl ?_
                                    refine xr_iastore hc rfl (by first | assumption | rfl) (by first | omega | (unfold dz_w; omega)) (by first | omega | (unfold dz_w; omega)) ?_
                                    rw [Int.toNat_natCast]
                                    refine xr_aloadn hc rfl rfl ?_
                                    refine xr_getfr hc rfl rfl (by first | assumption | rfl) (by first | assumption | rfl) ?_
                                    refine xr_iloadn hc rfl rfl ?_
                                    refine xr_iconst hc rfl ?_
                                    refine xr_iaddz hc rfl (by first | exact dz_wid (by first | omega | (unfold dz_w; omega)) (by first | omega | (unfold dz_w; omega)) | rfl) ?_
                                    refine xr_putfi hc rfl rfl (by first | assumption | rfl) ?_
                                    refine xr_iconst hc rfl ?_
                                    refine xr_zreturn hc rfl rfl (Nat.zero_le _) (Nat.zero_le _) (by first | exact Or.inl rfl | exact Or.inr rfl | assumption) ?_
                                    have hr : rwd c nn pl ps i p = (true, p + 4) := by
                                      unfold rwd
                                      rw [if_neg (by omega), if_neg (fun z => z f1), if_neg (fun z => z f2), if_neg (fun z => z f3), if_neg (fun z => z f4)]
                                    refine hT (by rw [hr]) (by rw [hr]) _ (fun q2 k2 v1 v2 v3 => ?_) ?_ ?_ ?_ ?_ ?_ ?_ ?_ f1 f3 f4 (by omega) f2
                                    · rw [dz_up_o (by omega), dz_up_o (by omega), dz_up_o (by omega), dz_up_o (by omega), dz_up_o (by omega)]
                                      rw [w1 _ _ v1, y1 _ _ v1, n1 _ _ v1 (by omega)]
                                    · repeat (first | rw [dz_up_ne (by omega)])
                                      exact w2
                                    · rw [dz_up_eq]
                                      omega
                                    · repeat (first | rw [dz_up_ne (by omega)])
                                      rw [dz_up_eq, eK, hk]
                                    · repeat (first | rw [dz_up_ne (by omega)])
                                      rw [w1 _ _ (by omega), y1 _ _ (by omega), n3, eP]
                                    · repeat (first | rw [dz_up_ne (by omega)])
                                      rw [dz_up_eq, eV]
                                      first
                                        | rw [if_pos (by omega)]
                                        | rw [if_neg (by omega)]
                                    · repeat (first | rw [dz_up_ne (by omega)])
                                      rw [dz_up_eq, eW]
                                      first
                                        | rw [if_pos (by omega)]
                                        | rw [if_neg (by omega)]
                                    · repeat (first | rw [dz_up_ne (by omega)])
                                      rw [dz_up_eq, eN]
                                      first
                                        | rw [if_pos (by omega)]
                                        | rw [if_neg (by omega)])
                               · first
                                 | (exfalso; omega)
                                 | (skip
                                    refine xr_iconst hc rfl ?_
                                    refine xr_goto hc rfl (t := 141) rfl ?_
                                    refine xr_iastore hc rfl (by first | assumption | rfl) (by first | omega | (unfold dz_w; omega)) (by first | omega | (unfold dz_w; omega)) ?_
                                    rw [Int.toNat_natCast]
                                    refine xr_aloadn hc rfl rfl ?_
                                    refine xr_getfr hc rfl rfl (by first | assumption | rfl) (by first | assumption | rfl) ?_
                                    refine xr_iloadn hc rfl rfl ?_
                                    refine xr_iconst hc rfl ?_
                                    refine xr_iaddz hc rfl (by first | exact dz_wid (by first | omega | (unfold dz_w; omega)) (by first | omega | (unfold dz_w; omega)) | rfl) ?_
                                    refine xr_putfi hc rfl rfl (by first | assumption | rfl) ?_
                                    refine xr_iconst hc rfl ?_
                                    refine xr_zreturn hc rfl rfl (Nat.zero_le _) (Nat.zero_le _) (by first | exact Or.inl rfl | exact Or.inr rfl | assumption) ?_
                                    have hr : rwd c nn pl ps i p = (true, p + 4) := by
                                      unfold rwd
                                      rw [if_neg (by omega), if_neg (fun z => z f1), if_neg (fun z => z f2), if_neg (fun z => z f3), if_neg (fun z => z f4)]
                                    refine hT (by rw [hr]) (by rw [hr]) _ (fun q2 k2 v1 v2 v3 => ?_) ?_ ?_ ?_ ?_ ?_ ?_ ?_ f1 f3 f4 (by omega) f2
                                    · rw [dz_up_o (by omega), dz_up_o (by omega), dz_up_o (by omega), dz_up_o (by omega), dz_up_o (by omega)]
                                      rw [w1 _ _ v1, y1 _ _ v1, n1 _ _ v1 (by omega)]
                                    · repeat (first | rw [dz_up_ne (by omega)])
                                      exact w2
                                    · rw [dz_up_eq]
                                      omega
                                    · repeat (first | rw [dz_up_ne (by omega)])
                                      rw [dz_up_eq, eK, hk]
                                    · repeat (first | rw [dz_up_ne (by omega)])
                                      rw [w1 _ _ (by omega), y1 _ _ (by omega), n3, eP]
                                    · repeat (first | rw [dz_up_ne (by omega)])
                                      rw [dz_up_eq, eV]
                                      first
                                        | rw [if_pos (by omega)]
                                        | rw [if_neg (by omega)]
                                    · repeat (first | rw [dz_up_ne (by omega)])
                                      rw [dz_up_eq, eW]
                                      first
                                        | rw [if_pos (by omega)]
                                        | rw [if_neg (by omega)]
                                    · repeat (first | rw [dz_up_ne (by omega)])
                                      rw [dz_up_eq, eN]
                                      first
                                        | rw [if_pos (by omega)]
                                        | rw [if_neg (by omega)]))
                          · first
                            | (exfalso; omega)
                            | (skip
                               refine xr_iconst hc rfl ?_
                               refine xr_goto hc rfl (t := 122) rfl ?_
                               refine xr_iastore hc rfl (by first | assumption | rfl) (by first | omega | (unfold dz_w; omega)) (by first | omega | (unfold dz_w; omega)) ?_
                               rw [Int.toNat_natCast]
                               refine xr_aloadn hc rfl rfl ?_
                               refine xr_getfr hc rfl rfl (by first | assumption | rfl) (by first | assumption | rfl) ?_
                               refine xr_getfr hc rfl rfl (by first | assumption | rfl) (by first | assumption | rfl) ?_
                               refine xr_iloadn hc rfl rfl ?_
                               refine xr_iloadn hc rfl rfl ?_
                               refine xr_if_ne hc rfl (t := 139) rfl (fun b132 => ?_) (fun b132 => ?_)
                               · first
                                 | (exfalso; omega)
                                 | (skip
                                    refine xr_iload hc rfl rfl ?_
                                    refine xr_iastore hc rfl (by first | assumption | rfl) (by first | omega | (unfold dz_w; omega)) (by first | omega | (unfold dz_w; omega)) ?_
                                    rw [Int.toNat_natCast]
                                    refine xr_aloadn hc rfl rfl ?_
                                    refine xr_getfr hc rfl rfl (by first | assumption | rfl) (by first | assumption | rfl) ?_
                                    refine xr_iloadn hc rfl rfl ?_
                                    refine xr_iconst hc rfl ?_
                                    refine xr_iaddz hc rfl (by first | exact dz_wid (by first | omega | (unfold dz_w; omega)) (by first | omega | (unfold dz_w; omega)) | rfl) ?_
                                    refine xr_putfi hc rfl rfl (by first | assumption | rfl) ?_
                                    refine xr_iconst hc rfl ?_
                                    refine xr_zreturn hc rfl rfl (Nat.zero_le _) (Nat.zero_le _) (by first | exact Or.inl rfl | exact Or.inr rfl | assumption) ?_
                                    have hr : rwd c nn pl ps i p = (true, p + 4) := by
                                      unfold rwd
                                      rw [if_neg (by omega), if_neg (fun z => z f1), if_neg (fun z => z f2), if_neg (fun z => z f3), if_neg (fun z => z f4)]
                                    refine hT (by rw [hr]) (by rw [hr]) _ (fun q2 k2 v1 v2 v3 => ?_) ?_ ?_ ?_ ?_ ?_ ?_ ?_ f1 f3 f4 (by omega) f2
                                    · rw [dz_up_o (by omega), dz_up_o (by omega), dz_up_o (by omega), dz_up_o (by omega), dz_up_o (by omega)]
                                      rw [w1 _ _ v1, y1 _ _ v1, n1 _ _ v1 (by omega)]
                                    · repeat (first | rw [dz_up_ne (by omega)])
                                      exact w2
                                    · rw [dz_up_eq]
                                      omega
                                    · repeat (first | rw [dz_up_ne (by omega)])
                                      rw [dz_up_eq, eK, hk]
                                    · repeat (first | rw [dz_up_ne (by omega)])
                                      rw [w1 _ _ (by omega), y1 _ _ (by omega), n3, eP]
                                    · repeat (first | rw [dz_up_ne (by omega)])
                                      rw [dz_up_eq, eV]
                                      first
                                        | rw [if_pos (by omega)]
                                        | rw [if_neg (by omega)]
                                    · repeat (first | rw [dz_up_ne (by omega)])
                                      rw [dz_up_eq, eW]
                                      first
                                        | rw [if_pos (by omega)]
                                        | rw [if_neg (by omega)]
                                    · repeat (first | rw [dz_up_ne (by omega)])
                                      rw [dz_up_eq, eN]
                                      first
                                        | rw [if_pos (by omega)]
                                        | rw [if_neg (by omega)])
                               · first
                                 | (exfalso; omega)
                                 | (skip
                                    refine xr_iconst hc rfl ?_
                                    refine xr_goto hc rfl (t := 141) rfl ?_
                                    refine xr_iastore hc rfl (by first | assumption | rfl) (by first | omega | (unfold dz_w; omega)) (by first | omega | (unfold dz_w; omega)) ?_
                                    rw [Int.toNat_natCast]
                                    refine xr_aloadn hc rfl rfl ?_
                                    refine xr_getfr hc rfl rfl (by first | assumption | rfl) (by first | assumption | rfl) ?_
                                    refine xr_iloadn hc rfl rfl ?_
                                    refine xr_iconst hc rfl ?_
                                    refine xr_iaddz hc rfl (by first | exact dz_wid (by first | omega | (unfold dz_w; omega)) (by first | omega | (unfold dz_w; omega)) | rfl) ?_
                                    refine xr_putfi hc rfl rfl (by first | assumption | rfl) ?_
                                    refine xr_iconst hc rfl ?_
                                    refine xr_zreturn hc rfl rfl (Nat.zero_le _) (Nat.zero_le _) (by first | exact Or.inl rfl | exact Or.inr rfl | assumption) ?_
                                    have hr : rwd c nn pl ps i p = (true, p + 4) := by
                                      unfold rwd
                                      rw [if_neg (by omega), if_neg (fun z => z f1), if_neg (fun z => z f2), if_neg (fun z => z f3), if_neg (fun z => z f4)]
                                    refine hT (by rw [hr]) (by rw [hr]) _ (fun q2 k2 v1 v2 v3 => ?_) ?_ ?_ ?_ ?_ ?_ ?_ ?_ f1 f3 f4 (by omega) f2
                                    · rw [dz_up_o (by omega), dz_up_o (by omega), dz_up_o (by omega), dz_up_o (by omega), dz_up_o (by omega)]
                                      rw [w1 _ _ v1, y1 _ _ v1, n1 _ _ v1 (by omega)]
                                    · repeat (first | rw [dz_up_ne (by omega)])
                                      exact w2
                                    · rw [dz_up_eq]
                                      omega
                                    · repeat (first | rw [dz_up_ne (by omega)])
                                      rw [dz_up_eq, eK, hk]
                                    · repeat (first | rw [dz_up_ne (by omega)])
                                      rw [w1 _ _ (by omega), y1 _ _ (by omega), n3, eP]
                                    · repeat (first | rw [dz_up_ne (by omega)])
                                      rw [dz_up_eq, eV]
                                      first
                                        | rw [if_pos (by omega)]
                                        | rw [if_neg (by omega)]
                                    · repeat (first | rw [dz_up_ne (by omega)])
                                      rw [dz_up_eq, eW]
                                      first
                                        | rw [if_pos (by omega)]
                                        | rw [if_neg (by omega)]
                                    · repeat (first | rw [dz_up_ne (by omega)])
                                      rw [dz_up_eq, eN]
                                      first
                                        | rw [if_pos (by omega)]
                                        | rw [if_neg (by omega)]))))
                · first
                  | (exfalso; omega)
                  | (skip
                     refine xr_iconst hc rfl ?_
                     refine xr_zreturn hc rfl rfl (Nat.zero_le _) (Nat.zero_le _) (by first | exact Or.inl rfl | exact Or.inr rfl | assumption) ?_
                     first
                       | (exfalso; omega)
                       | (have hr : rwd c nn pl ps i p = (false, p + 3) := by
                            unfold rwd
                            rw [if_neg (by omega), if_neg (fun z => z f1), if_neg (fun z => z f2), if_neg (fun z => z f3), if_pos f4]
                          refine hF (by rw [hr]) N2 (fun q2 k2 v1 v2 v3 => by rw [y1 _ _ v1, n1 _ _ v1 (by omega)]) (by rw [hr]; exact y2) (by rw [hr]; have z := f3.1; show p + 3 ≤ nn; omega))
                       | (have hr : rwd c nn pl ps i p = (false, p + 2) := by
                            unfold rwd
                            rw [if_neg (by omega), if_neg (fun z => z f1), if_neg (fun z => z f2), if_pos f3]
                          refine hF (by rw [hr]) N (fun q2 k2 v1 v2 v3 => by rw [n1 _ _ v1 (by omega)]) (by rw [hr]; exact n2) (by rw [hr]; have z := f1.1; show p + 2 ≤ nn; omega))))
         · refine xk_1 ?_
           refine xr_istore4 hc rfl rfl ?_
           refine xr_iload hc rfl rfl ?_
           refine xr_bipush hc rfl ?_
           refine xr_icmp_ne hc rfl (t := 52) rfl (fun b44 => ?_) (fun b44 => ?_)
           · first
             | (exfalso; omega)
             | (skip
                refine xr_aloadn hc rfl rfl ?_
                refine xr_iconst hc rfl ?_
                refine xr_iloadn hc rfl rfl ?_
                refine xr_callv2 hc rfl (by first | assumption | rfl) rfl rfl rfl (Nat.le_of_ble_eq_true rfl) (Nat.zero_le _) (Nat.zero_le _) ?_
                refine S_readFigure (tx := tx) (nn := nn) (p := p + 3) (c := c) hl htx hrf hn (fun k hk => by rw [y1 _ _ (by omega), n1 _ _ (by omega) (by omega)]; exact hc2 k hk) (by rw [y1 _ _ (by omega), n1 _ _ (by omega) (by omega)]; exact h2) y2 (by have z := f3.1; omega) (fun f4 N3 w1 w2 => ?_) (fun f4 => ?_)
                all_goals rw [← ehi] at f4
                · refine xk_1 ?_
                  refine xr_istore5 hc rfl rfl ?_
                  refine xr_iload hc rfl rfl ?_
                  refine xr_bipush hc rfl ?_
                  refine xr_icmp_ne hc rfl (t := 69) rfl (fun b64 => ?_) (fun b64 => ?_)
                  · first
                    | (exfalso; omega)
                    | (skip
                       refine xr_aloadn hc rfl rfl ?_
                       refine xr_getfr hc rfl rfl (by first | assumption | rfl) (by first | assumption | rfl) ?_
                       refine xr_getfr hc rfl rfl (by first | assumption | rfl) (by first | assumption | rfl) ?_
                       refine xr_iloadn hc rfl rfl ?_
                       refine xr_iloadn hc rfl rfl ?_
                       refine xr_iastore hc rfl (by first | assumption | rfl) (by first | omega | (unfold dz_w; omega)) (by first | omega | (unfold dz_w; omega)) ?_
                       rw [Int.toNat_natCast]
                       refine xr_aloadn hc rfl rfl ?_
                       refine xr_getfr hc rfl rfl (by first | assumption | rfl) (by first | assumption | rfl) ?_
                       refine xr_getfr hc rfl rfl (by first | assumption | rfl) (by first | assumption | rfl) ?_
                       refine xr_iloadn hc rfl rfl ?_
                       refine xr_iloadn hc rfl rfl ?_
                       refine xr_if_ne hc rfl (t := 102) rfl (fun b88 => ?_) (fun b88 => ?_)
                       · first
                         | (exfalso; omega)
                         | (skip
                            refine xr_iconst hc rfl ?_
                            refine xr_iastore hc rfl (by first | assumption | rfl) (by first | omega | (unfold dz_w; omega)) (by first | omega | (unfold dz_w; omega)) ?_
                            rw [Int.toNat_natCast]
                            refine xr_aloadn hc rfl rfl ?_
                            refine xr_getfr hc rfl rfl (by first | assumption | rfl) (by first | assumption | rfl) ?_
                            refine xr_getfr hc rfl rfl (by first | assumption | rfl) (by first | assumption | rfl) ?_
                            refine xr_iloadn hc rfl rfl ?_
                            refine xr_iloadn hc rfl rfl ?_
                            refine xr_if_ne hc rfl (t := 120) rfl (fun b113 => ?_) (fun b113 => ?_)
                            · first
                              | (exfalso; omega)
                              | (skip
                                 refine xr_iload hc rfl rfl ?_
                                 refine xr_iastore hc rfl (by first | assumption | rfl) (by first | omega | (unfold dz_w; omega)) (by first | omega | (unfold dz_w; omega)) ?_
                                 rw [Int.toNat_natCast]
                                 refine xr_aloadn hc rfl rfl ?_
                                 refine xr_getfr hc rfl rfl (by first | assumption | rfl) (by first | assumption | rfl) ?_
                                 refine xr_getfr hc rfl rfl (by first | assumption | rfl) (by first | assumption | rfl) ?_
                                 refine xr_iloadn hc rfl rfl ?_
                                 refine xr_iloadn hc rfl rfl ?_
                                 refine xr_if_ne hc rfl (t := 139) rfl (fun b132 => ?_) (fun b132 => ?_)
                                 · first
                                   | (exfalso; omega)
                                   | (skip
                                      refine xr_iload hc rfl rfl ?_
                                      refine xr_iastore hc rfl (by first | assumption | rfl) (by first | omega | (unfold dz_w; omega)) (by first | omega | (unfold dz_w; omega)) ?_
                                      rw [Int.toNat_natCast]
                                      refine xr_aloadn hc rfl rfl ?_
                                      refine xr_getfr hc rfl rfl (by first | assumption | rfl) (by first | assumption | rfl) ?_
                                      refine xr_iloadn hc rfl rfl ?_
                                      refine xr_iconst hc rfl ?_
                                      refine xr_iaddz hc rfl (by first | exact dz_wid (by first | omega | (unfold dz_w; omega)) (by first | omega | (unfold dz_w; omega)) | rfl) ?_
                                      refine xr_putfi hc rfl rfl (by first | assumption | rfl) ?_
                                      refine xr_iconst hc rfl ?_
                                      refine xr_zreturn hc rfl rfl (Nat.zero_le _) (Nat.zero_le _) (by first | exact Or.inl rfl | exact Or.inr rfl | assumption) ?_
                                      have hr : rwd c nn pl ps i p = (true, p + 4) := by
                                        unfold rwd
                                        rw [if_neg (by omega), if_neg (fun z => z f1), if_neg (fun z => z f2), if_neg (fun z => z f3), if_neg (fun z => z f4)]
                                      refine hT (by rw [hr]) (by rw [hr]) _ (fun q2 k2 v1 v2 v3 => ?_) ?_ ?_ ?_ ?_ ?_ ?_ ?_ f1 f3 f4 (by omega) f2
                                      · rw [dz_up_o (by omega), dz_up_o (by omega), dz_up_o (by omega), dz_up_o (by omega), dz_up_o (by omega)]
                                        rw [w1 _ _ v1, y1 _ _ v1, n1 _ _ v1 (by omega)]
                                      · repeat (first | rw [dz_up_ne (by omega)])
                                        exact w2
                                      · rw [dz_up_eq]
                                        omega
                                      · repeat (first | rw [dz_up_ne (by omega)])
                                        rw [dz_up_eq, eK, hk]
                                      · repeat (first | rw [dz_up_ne (by omega)])
                                        rw [w1 _ _ (by omega), y1 _ _ (by omega), n3, eP]
                                      · repeat (first | rw [dz_up_ne (by omega)])
                                        rw [dz_up_eq, eV]
                                        first
                                          | rw [if_pos (by omega)]
                                          | rw [if_neg (by omega)]
                                      · repeat (first | rw [dz_up_ne (by omega)])
                                        rw [dz_up_eq, eW]
                                        first
                                          | rw [if_pos (by omega)]
                                          | rw [if_neg (by omega)]
                                      · repeat (first | rw [dz_up_ne (by omega)])
                                        rw [dz_up_eq, eN]
                                        first
                                          | rw [if_pos (by omega)]
                                          | rw [if_neg (by omega)])
                                 · first
                                   | (exfalso; omega)
                                   | (skip
                                      refine xr_iconst hc rfl ?_
                                      refine xr_goto hc rfl (t := 141) rfl ?_
                                      refine xr_iastore hc rfl (by first | assumption | rfl) (by first | omega | (unfold dz_w; omega)) (by first | omega | (unfold dz_w; omega)) ?_
                                      rw [Int.toNat_natCast]
                                      refine xr_aloadn hc rfl rfl ?_
                                      refine xr_getfr hc rfl rfl (by first | assumption | rfl) (by first | assumption | rfl) ?_
                                      refine xr_iloadn hc rfl rfl ?_
                                      refine xr_iconst hc rfl ?_
                                      refine xr_iaddz hc rfl (by first | exact dz_wid (by first | omega | (unfold dz_w; omega)) (by first | omega | (unfold dz_w; omega)) | rfl) ?_
                                      refine xr_putfi hc rfl rfl (by first | assumption | rfl) ?_
                                      refine xr_iconst hc rfl ?_
                                      refine xr_zreturn hc rfl rfl (Nat.zero_le _) (Nat.zero_le _) (by first | exact Or.inl rfl | exact Or.inr rfl | assumption) ?_
                                      have hr : rwd c nn pl ps i p = (true, p + 4) := by
                                        unfold rwd
                                        rw [if_neg (by omega), if_neg (fun z => z f1), if_neg (fun z => z f2), if_neg (fun z => z f3), if_neg (fun z => z f4)]
                                      refine hT (by rw [hr]) (by rw [hr]) _ (fun q2 k2 v1 v2 v3 => ?_) ?_ ?_ ?_ ?_ ?_ ?_ ?_ f1 f3 f4 (by omega) f2
                                      · rw [dz_up_o (by omega), dz_up_o (by omega), dz_up_o (by omega), dz_up_o (by omega), dz_up_o (by omega)]
                                        rw [w1 _ _ v1, y1 _ _ v1, n1 _ _ v1 (by omega)]
                                      · repeat (first | rw [dz_up_ne (by omega)])
                                        exact w2
                                      · rw [dz_up_eq]
                                        omega
                                      · repeat (first | rw [dz_up_ne (by omega)])
                                        rw [dz_up_eq, eK, hk]
                                      · repeat (first | rw [dz_up_ne (by omega)])
                                        rw [w1 _ _ (by omega), y1 _ _ (by omega), n3, eP]
                                      · repeat (first | rw [dz_up_ne (by omega)])
                                        rw [dz_up_eq, eV]
                                        first
                                          | rw [if_pos (by omega)]
                                          | rw [if_neg (by omega)]
                                      · repeat (first | rw [dz_up_ne (by omega)])
                                        rw [dz_up_eq, eW]
                                        first
                                          | rw [if_pos (by omega)]
                                          | rw [if_neg (by omega)]
                                      · repeat (first | rw [dz_up_ne (by omega)])
                                        rw [dz_up_eq, eN]
                                        first
                                          | rw [if_pos (by omega)]
                                          | rw [if_neg (by omega)]))
                            · first
                              | (exfalso; omega)
                              | (skip
                                 refine xr_iconst hc rfl ?_
                                 refine xr_goto hc rfl (t := 122) rfl ?_
                                 refine xr_iastore hc rfl (by first | assumption | rfl) (by first | omega | (unfold dz_w; omega)) (by first | omega | (unfold dz_w; omega)) ?_
                                 rw [Int.toNat_natCast]
                                 refine xr_aloadn hc rfl rfl ?_
                                 refine xr_getfr hc rfl rfl (by first | assumption | rfl) (by first | assumption | rfl) ?_
                                 refine xr_getfr hc rfl rfl (by first | assumption | rfl) (by first | assumption | rfl) ?_
                                 refine xr_iloadn hc rfl rfl ?_
                                 refine xr_iloadn hc rfl rfl ?_
                                 refine xr_if_ne hc rfl (t := 139) rfl (fun b132 => ?_) (fun b132 => ?_)
                                 · first
                                   | (exfalso; omega)
                                   | (skip
                                      refine xr_iload hc rfl rfl ?_
                                      refine xr_iastore hc rfl (by first | assumption | rfl) (by first | omega | (unfold dz_w; omega)) (by first | omega | (unfold dz_w; omega)) ?_
                                      rw [Int.toNat_natCast]
                                      refine xr_aloadn hc rfl rfl ?_
                                      refine xr_getfr hc rfl rfl (by first | assumption | rfl) (by first | assumption | rfl) ?_
                                      refine xr_iloadn hc rfl rfl ?_
                                      refine xr_iconst hc rfl ?_
                                      refine xr_iaddz hc rfl (by first | exact dz_wid (by first | omega | (unfold dz_w; omega)) (by first | omega | (unfold dz_w; omega)) | rfl) ?_
                                      refine xr_putfi hc rfl rfl (by first | assumption | rfl) ?_
                                      refine xr_iconst hc rfl ?_
                                      refine xr_zreturn hc rfl rfl (Nat.zero_le _) (Nat.zero_le _) (by first | exact Or.inl rfl | exact Or.inr rfl | assumption) ?_
                                      have hr : rwd c nn pl ps i p = (true, p + 4) := by
                                        unfold rwd
                                        rw [if_neg (by omega), if_neg (fun z => z f1), if_neg (fun z => z f2), if_neg (fun z => z f3), if_neg (fun z => z f4)]
                                      refine hT (by rw [hr]) (by rw [hr]) _ (fun q2 k2 v1 v2 v3 => ?_) ?_ ?_ ?_ ?_ ?_ ?_ ?_ f1 f3 f4 (by omega) f2
                                      · rw [dz_up_o (by omega), dz_up_o (by omega), dz_up_o (by omega), dz_up_o (by omega), dz_up_o (by omega)]
                                        rw [w1 _ _ v1, y1 _ _ v1, n1 _ _ v1 (by omega)]
                                      · repeat (first | rw [dz_up_ne (by omega)])
                                        exact w2
                                      · rw [dz_up_eq]
                                        omega
                                      · repeat (first | rw [dz_up_ne (by omega)])
                                        rw [dz_up_eq, eK, hk]
                                      · repeat (first | rw [dz_up_ne (by omega)])
                                        rw [w1 _ _ (by omega), y1 _ _ (by omega), n3, eP]
                                      · repeat (first | rw [dz_up_ne (by omega)])
                                        rw [dz_up_eq, eV]
                                        first
                                          | rw [if_pos (by omega)]
                                          | rw [if_neg (by omega)]
                                      · repeat (first | rw [dz_up_ne (by omega)])
                                        rw [dz_up_eq, eW]
                                        first
                                          | rw [if_pos (by omega)]
                                          | rw [if_neg (by omega)]
                                      · repeat (first | rw [dz_up_ne (by omega)])
                                        rw [dz_up_eq, eN]
                                        first
                                          | rw [if_pos (by omega)]
                                          | rw [if_neg (by omega)])
                                 · first
                                   | (exfalso; omega)
                                   | (skip
                                      refine xr_iconst hc rfl ?_
                                      refine xr_goto hc rfl (t := 141) rfl ?_
                                      refine xr_iastore hc rfl (by first | assumption | rfl) (by first | omega | (unfold dz_w; omega)) (by first | omega | (unfold dz_w; omega)) ?_
                                      rw [Int.toNat_natCast]
                                      refine xr_aloadn hc rfl rfl ?_
                                      refine xr_getfr hc rfl rfl (by first | assumption | rfl) (by first | assumption | rfl) ?_
                                      refine xr_iloadn hc rfl rfl ?_
                                      refine xr_iconst hc rfl ?_
                                      refine xr_iaddz hc rfl (by first | exact dz_wid (by first | omega | (unfold dz_w; omega)) (by first | omega | (unfold dz_w; omega)) | rfl) ?_
                                      refine xr_putfi hc rfl rfl (by first | assumption | rfl) ?_
                                      refine xr_iconst hc rfl ?_
                                      refine xr_zreturn hc rfl rfl (Nat.zero_le _) (Nat.zero_le _) (by first | exact Or.inl rfl | exact Or.inr rfl | assumption) ?_
                                      have hr : rwd c nn pl ps i p = (true, p + 4) := by
                                        unfold rwd
                                        rw [if_neg (by omega), if_neg (fun z => z f1), if_neg (fun z => z f2), if_neg (fun z => z f3), if_neg (fun z => z f4)]
                                      refine hT (by rw [hr]) (by rw [hr]) _ (fun q2 k2 v1 v2 v3 => ?_) ?_ ?_ ?_ ?_ ?_ ?_ ?_ f1 f3 f4 (by omega) f2
                                      · rw [dz_up_o (by omega), dz_up_o (by omega), dz_up_o (by omega), dz_up_o (by omega), dz_up_o (by omega)]
                                        rw [w1 _ _ v1, y1 _ _ v1, n1 _ _ v1 (by omega)]
                                      · repeat (first | rw [dz_up_ne (by omega)])
                                        exact w2
                                      · rw [dz_up_eq]
                                        omega
                                      · repeat (first | rw [dz_up_ne (by omega)])
                                        rw [dz_up_eq, eK, hk]
                                      · repeat (first | rw [dz_up_ne (by omega)])
                                        rw [w1 _ _ (by omega), y1 _ _ (by omega), n3, eP]
                                      · repeat (first | rw [dz_up_ne (by omega)])
                                        rw [dz_up_eq, eV]
                                        first
                                          | rw [if_pos (by omega)]
                                          | rw [if_neg (by omega)]
                                      · repeat (first | rw [dz_up_ne (by omega)])
                                        rw [dz_up_eq, eW]
                                        first
                                          | rw [if_pos (by omega)]
                                          | rw [if_neg (by omega)]
                                      · repeat (first | rw [dz_up_ne (by omega)])
                                        rw [dz_up_eq, eN]
                                        first
                                          | rw [if_pos (by omega)]
                                          | rw [if_neg (by omega)])))
                       · first
                         | (exfalso; omega)
                         | (skip
                            refine xr_bipush hc rfl ?_
                            refine xr_iload hc rfl rfl ?_
                            refine xr_imulz hc rfl (by first | exact dz_wid (by first | omega | (unfold dz_w; omega)) (by first | omega | (unfold dz_w; omega)) | rfl) ?_
                            refine xr_iload hc rfl rfl ?_
                            refine xr_iaddz hc rfl (by first | exact dz_wid (by first | omega | (unfold dz_w; omega)) (by first | omega | (unfold dz_w; omega)) | rfl) ?_
                            refine xr_goto hc rfl (t := 103) rfl ?_
                            refine xr_iastore hc rfl (by first | assumption | rfl) (by first | omega | (unfold dz_w; omega)) (by first | omega | (unfold dz_w; omega)) ?_
                            rw [Int.toNat_natCast]
                            refine xr_aloadn hc rfl rfl ?_
                            refine xr_getfr hc rfl rfl (by first | assumption | rfl) (by first | assumption | rfl) ?_
                            refine xr_getfr hc rfl rfl (by first | assumption | rfl) (by first | assumption | rfl) ?_
                            refine xr_iloadn hc rfl rfl ?_
                            refine xr_iloadn hc rfl rfl ?_
                            refine xr_if_ne hc rfl (t := 120) rfl (fun b113 => ?_) (fun b113 => ?_)
                            · first
                              | (exfalso; omega)
                              | (skip
                                 refine xr_iload hc rfl rfl ?_
                                 refine xr_iastore hc rfl (by first | assumption | rfl) (by first | omega | (unfold dz_w; omega)) (by first | omega | (unfold dz_w; omega)) ?_
                                 rw [Int.toNat_natCast]
                                 refine xr_aloadn hc rfl rfl ?_
                                 refine xr_getfr hc rfl rfl (by first | assumption | rfl) (by first | assumption | rfl) ?_
                                 refine xr_getfr hc rfl rfl (by first | assumption | rfl) (by first | assumption | rfl) ?_
                                 refine xr_iloadn hc rfl rfl ?_
                                 refine xr_iloadn hc rfl rfl ?_
                                 refine xr_if_ne hc rfl (t := 139) rfl (fun b132 => ?_) (fun b132 => ?_)
                                 · first
                                   | (exfalso; omega)
                                   | (skip
                                      refine xr_iload hc rfl rfl ?_
                                      refine xr_iastore hc rfl (by first | assumption | rfl) (by first | omega | (unfold dz_w; omega)) (by first | omega | (unfold dz_w; omega)) ?_
                                      rw [Int.toNat_natCast]
                                      refine xr_aloadn hc rfl rfl ?_
                                      refine xr_getfr hc rfl rfl (by first | assumption | rfl) (by first | assumption | rfl) ?_
                                      refine xr_iloadn hc rfl rfl ?_
                                      refine xr_iconst hc rfl ?_
                                      refine xr_iaddz hc rfl (by first | exact dz_wid (by first | omega | (unfold dz_w; omega)) (by first | omega | (unfold dz_w; omega)) | rfl) ?_
                                      refine xr_putfi hc rfl rfl (by first | assumption | rfl) ?_
                                      refine xr_iconst hc rfl ?_
                                      refine xr_zreturn hc rfl rfl (Nat.zero_le _) (Nat.zero_le _) (by first | exact Or.inl rfl | exact Or.inr rfl | assumption) ?_
                                      have hr : rwd c nn pl ps i p = (true, p + 4) := by
                                        unfold rwd
                                        rw [if_neg (by omega), if_neg (fun z => z f1), if_neg (fun z => z f2), if_neg (fun z => z f3), if_neg (fun z => z f4)]
                                      refine hT (by rw [hr]) (by rw [hr]) _ (fun q2 k2 v1 v2 v3 => ?_) ?_ ?_ ?_ ?_ ?_ ?_ ?_ f1 f3 f4 (by omega) f2
                                      · rw [dz_up_o (by omega), dz_up_o (by omega), dz_up_o (by omega), dz_up_o (by omega), dz_up_o (by omega)]
                                        rw [w1 _ _ v1, y1 _ _ v1, n1 _ _ v1 (by omega)]
                                      · repeat (first | rw [dz_up_ne (by omega)])
                                        exact w2
                                      · rw [dz_up_eq]
                                        omega
                                      · repeat (first | rw [dz_up_ne (by omega)])
                                        rw [dz_up_eq, eK, hk]
                                      · repeat (first | rw [dz_up_ne (by omega)])
                                        rw [w1 _ _ (by omega), y1 _ _ (by omega), n3, eP]
                                      · repeat (first | rw [dz_up_ne (by omega)])
                                        rw [dz_up_eq, eV]
                                        first
                                          | rw [if_pos (by omega)]
                                          | rw [if_neg (by omega)]
                                      · repeat (first | rw [dz_up_ne (by omega)])
                                        rw [dz_up_eq, eW]
                                        first
                                          | rw [if_pos (by omega)]
                                          | rw [if_neg (by omega)]
                                      · repeat (first | rw [dz_up_ne (by omega)])
                                        rw [dz_up_eq, eN]
                                        first
                                          | rw [if_pos (by omega)]
                                          | rw [if_neg (by omega)])
                                 · first
                                   | (exfalso; omega)
                                   | (skip
                                      refine xr_iconst hc rfl ?_
                                      refine xr_goto hc rfl (t := 141) rfl ?_
                                      refine xr_iastore hc rfl (by first | assumption | rfl) (by first | omega | (unfold dz_w; omega)) (by first | omega | (unfold dz_w; omega)) ?_
                                      rw [Int.toNat_natCast]
                                      refine xr_aloadn hc rfl rfl ?_
                                      refine xr_getfr hc rfl rfl (by first | assumption | rfl) (by first | assumption | rfl) ?_
                                      refine xr_iloadn hc rfl rfl ?_
                                      refine xr_iconst hc rfl ?_
                                      refine xr_iaddz hc rfl (by first | exact dz_wid (by first | omega | (unfold dz_w; omega)) (by first | omega | (unfold dz_w; omega)) | rfl) ?_
                                      refine xr_putfi hc rfl rfl (by first | assumption | rfl) ?_
                                      refine xr_iconst hc rfl ?_
                                      refine xr_zreturn hc rfl rfl (Nat.zero_le _) (Nat.zero_le _) (by first | exact Or.inl rfl | exact Or.inr rfl | assumption) ?_
                                      have hr : rwd c nn pl ps i p = (true, p + 4) := by
                                        unfold rwd
                                        rw [if_neg (by omega), if_neg (fun z => z f1), if_neg (fun z => z f2), if_neg (fun z => z f3), if_neg (fun z => z f4)]
                                      refine hT (by rw [hr]) (by rw [hr]) _ (fun q2 k2 v1 v2 v3 => ?_) ?_ ?_ ?_ ?_ ?_ ?_ ?_ f1 f3 f4 (by omega) f2
                                      · rw [dz_up_o (by omega), dz_up_o (by omega), dz_up_o (by omega), dz_up_o (by omega), dz_up_o (by omega)]
                                        rw [w1 _ _ v1, y1 _ _ v1, n1 _ _ v1 (by omega)]
                                      · repeat (first | rw [dz_up_ne (by omega)])
                                        exact w2
                                      · rw [dz_up_eq]
                                        omega
                                      · repeat (first | rw [dz_up_ne (by omega)])
                                        rw [dz_up_eq, eK, hk]
                                      · repeat (first | rw [dz_up_ne (by omega)])
                                        rw [w1 _ _ (by omega), y1 _ _ (by omega), n3, eP]
                                      · repeat (first | rw [dz_up_ne (by omega)])
                                        rw [dz_up_eq, eV]
                                        first
                                          | rw [if_pos (by omega)]
                                          | rw [if_neg (by omega)]
                                      · repeat (first | rw [dz_up_ne (by omega)])
                                        rw [dz_up_eq, eW]
                                        first
                                          | rw [if_pos (by omega)]
                                          | rw [if_neg (by omega)]
                                      · repeat (first | rw [dz_up_ne (by omega)])
                                        rw [dz_up_eq, eN]
                                        first
                                          | rw [if_pos (by omega)]
                                          | rw [if_neg (by omega)]))
                            · first
                              | (exfalso; omega)
                              | (skip
                                 refine xr_iconst hc rfl ?_
                                 refine xr_goto hc rfl (t := 122) rfl ?_
                                 refine xr_iastore hc rfl (by first | assumption | rfl) (by first | omega | (unfold dz_w; omega)) (by first | omega | (unfold dz_w; omega)) ?_
                                 rw [Int.toNat_natCast]
                                 refine xr_aloadn hc rfl rfl ?_
                                 refine xr_getfr hc rfl rfl (by first | assumption | rfl) (by first | assumption | rfl) ?_
                                 refine xr_getfr hc rfl rfl (by first | assumption | rfl) (by first | assumption | rfl) ?_
                                 refine xr_iloadn hc rfl rfl ?_
                                 refine xr_iloadn hc rfl rfl ?_
                                 refine xr_if_ne hc rfl (t := 139) rfl (fun b132 => ?_) (fun b132 => ?_)
                                 · first
                                   | (exfalso; omega)
                                   | (skip
                                      refine xr_iload hc rfl rfl ?_
                                      refine xr_iastore hc rfl (by first | assumption | rfl) (by first | omega | (unfold dz_w; omega)) (by first | omega | (unfold dz_w; omega)) ?_
                                      rw [Int.toNat_natCast]
                                      refine xr_aloadn hc rfl rfl ?_
                                      refine xr_getfr hc rfl rfl (by first | assumption | rfl) (by first | assumption | rfl) ?_
                                      refine xr_iloadn hc rfl rfl ?_
                                      refine xr_iconst hc rfl ?_
                                      refine xr_iaddz hc rfl (by first | exact dz_wid (by first | omega | (unfold dz_w; omega)) (by first | omega | (unfold dz_w; omega)) | rfl) ?_
                                      refine xr_putfi hc rfl rfl (by first | assumption | rfl) ?_
                                      refine xr_iconst hc rfl ?_
                                      refine xr_zreturn hc rfl rfl (Nat.zero_le _) (Nat.zero_le _) (by first | exact Or.inl rfl | exact Or.inr rfl | assumption) ?_
                                      have hr : rwd c nn pl ps i p = (true, p + 4) := by
                                        unfold rwd
                                        rw [if_neg (by omega), if_neg (fun z => z f1), if_neg (fun z => z f2), if_neg (fun z => z f3), if_neg (fun z => z f4)]
                                      refine hT (by rw [hr]) (by rw [hr]) _ (fun q2 k2 v1 v2 v3 => ?_) ?_ ?_ ?_ ?_ ?_ ?_ ?_ f1 f3 f4 (by omega) f2
                                      · rw [dz_up_o (by omega), dz_up_o (by omega), dz_up_o (by omega), dz_up_o (by omega), dz_up_o (by omega)]
                                        rw [w1 _ _ v1, y1 _ _ v1, n1 _ _ v1 (by omega)]
                                      · repeat (first | rw [dz_up_ne (by omega)])
                                        exact w2
                                      · rw [dz_up_eq]
                                        omega
                                      · repeat (first | rw [dz_up_ne (by omega)])
                                        rw [dz_up_eq, eK, hk]
                                      · repeat (first | rw [dz_up_ne (by omega)])
                                        rw [w1 _ _ (by omega), y1 _ _ (by omega), n3, eP]
                                      · repeat (first | rw [dz_up_ne (by omega)])
                                        rw [dz_up_eq, eV]
                                        first
                                          | rw [if_pos (by omega)]
                                          | rw [if_neg (by omega)]
                                      · repeat (first | rw [dz_up_ne (by omega)])
                                        rw [dz_up_eq, eW]
                                        first
                                          | rw [if_pos (by omega)]
                                          | rw [if_neg (by omega)]
                                      · repeat (first | rw [dz_up_ne (by omega)])
                                        rw [dz_up_eq, eN]
                                        first
                                          | rw [if_pos (by omega)]
                                          | rw [if_neg (by omega)])
                                 · first
                                   | (exfalso; omega)
                                   | (skip
                                      refine xr_iconst hc rfl ?_
                                      refine xr_goto hc rfl (t := 141) rfl ?_
                                      refine xr_iastore hc rfl (by first | assumption | rfl) (by first | omega | (unfold dz_w; omega)) (by first | omega | (unfold dz_w; omega)) ?_
                                      rw [Int.toNat_natCast]
                                      refine xr_aloadn hc rfl rfl ?_
                                      refine xr_getfr hc rfl rfl (by first | assumption | rfl) (by first | assumption | rfl) ?_
                                      refine xr_iloadn hc rfl rfl ?_
                                      refine xr_iconst hc rfl ?_
                                      refine xr_iaddz hc rfl (by first | exact dz_wid (by first | omega | (unfold dz_w; omega)) (by first | omega | (unfold dz_w; omega)) | rfl) ?_
                                      refine xr_putfi hc rfl rfl (by first | assumption | rfl) ?_
                                      refine xr_iconst hc rfl ?_
                                      refine xr_zreturn hc rfl rfl (Nat.zero_le _) (Nat.zero_le _) (by first | exact Or.inl rfl | exact Or.inr rfl | assumption) ?_
                                      have hr : rwd c nn pl ps i p = (true, p + 4) := by
                                        unfold rwd
                                        rw [if_neg (by omega), if_neg (fun z => z f1), if_neg (fun z => z f2), if_neg (fun z => z f3), if_neg (fun z => z f4)]
                                      refine hT (by rw [hr]) (by rw [hr]) _ (fun q2 k2 v1 v2 v3 => ?_) ?_ ?_ ?_ ?_ ?_ ?_ ?_ f1 f3 f4 (by omega) f2
                                      · rw [dz_up_o (by omega), dz_up_o (by omega), dz_up_o (by omega), dz_up_o (by omega), dz_up_o (by omega)]
                                        rw [w1 _ _ v1, y1 _ _ v1, n1 _ _ v1 (by omega)]
                                      · repeat (first | rw [dz_up_ne (by omega)])
                                        exact w2
                                      · rw [dz_up_eq]
                                        omega
                                      · repeat (first | rw [dz_up_ne (by omega)])
                                        rw [dz_up_eq, eK, hk]
                                      · repeat (first | rw [dz_up_ne (by omega)])
                                        rw [w1 _ _ (by omega), y1 _ _ (by omega), n3, eP]
                                      · repeat (first | rw [dz_up_ne (by omega)])
                                        rw [dz_up_eq, eV]
                                        first
                                          | rw [if_pos (by omega)]
                                          | rw [if_neg (by omega)]
                                      · repeat (first | rw [dz_up_ne (by omega)])
                                        rw [dz_up_eq, eW]
                                        first
                                          | rw [if_pos (by omega)]
                                          | rw [if_neg (by omega)]
                                      · repeat (first | rw [dz_up_ne (by omega)])
                                        rw [dz_up_eq, eN]
                                        first
                                          | rw [if_pos (by omega)]
                                          | rw [if_neg (by omega)]))))
                  · first
                    | (exfalso; omega)
                    | (skip
                       refine xr_iconst hc rfl ?_
                       refine xr_zreturn hc rfl rfl (Nat.zero_le _) (Nat.zero_le _) (by first | exact Or.inl rfl | exact Or.inr rfl | assumption) ?_
                       first
                         | (exfalso; omega)
                         | (have hr : rwd c nn pl ps i p = (false, p + 3) := by
                              unfold rwd
                              rw [if_neg (by omega), if_neg (fun z => z f1), if_neg (fun z => z f2), if_neg (fun z => z f3), if_pos f4]
                            refine hF (by rw [hr]) N2 (fun q2 k2 v1 v2 v3 => by rw [y1 _ _ v1, n1 _ _ v1 (by omega)]) (by rw [hr]; exact y2) (by rw [hr]; have z := f3.1; show p + 3 ≤ nn; omega))
                         | (have hr : rwd c nn pl ps i p = (false, p + 2) := by
                              unfold rwd
                              rw [if_neg (by omega), if_neg (fun z => z f1), if_neg (fun z => z f2), if_pos f3]
                            refine hF (by rw [hr]) N (fun q2 k2 v1 v2 v3 => by rw [n1 _ _ v1 (by omega)]) (by rw [hr]; exact n2) (by rw [hr]; have z := f1.1; show p + 2 ≤ nn; omega)))
                · refine xk_1 ?_
                  refine xr_istore5 hc rfl rfl ?_
                  refine xr_iload hc rfl rfl ?_
                  refine xr_bipush hc rfl ?_
                  refine xr_icmp_ne hc rfl (t := 69) rfl (fun b64 => ?_) (fun b64 => ?_)
                  · first
                    | (exfalso; omega)
                    | (skip
                       refine xr_aloadn hc rfl rfl ?_
                       refine xr_getfr hc rfl rfl (by first | assumption | rfl) (by first | assumption | rfl) ?_
                       refine xr_getfr hc rfl rfl (by first | assumption | rfl) (by first | assumption | rfl) ?_
                       refine xr_iloadn hc rfl rfl ?_
                       refine xr_iloadn hc rfl rfl ?_
                       refine xr_iastore hc rfl (by first | assumption | rfl) (by first | omega | (unfold dz_w; omega)) (by first | omega | (unfold dz_w; omega)) ?_
                       rw [Int.toNat_natCast]
                       refine xr_aloadn hc rfl rfl ?_
                       refine xr_getfr hc rfl rfl (by first | assumption | rfl) (by first | assumption | rfl) ?_
                       refine xr_getfr hc rfl rfl (by first | assumption | rfl) (by first | assumption | rfl) ?_
                       refine xr_iloadn hc rfl rfl ?_
                       refine xr_iloadn hc rfl rfl ?_
                       refine xr_if_ne hc rfl (t := 102) rfl (fun b88 => ?_) (fun b88 => ?_)
                       · first
                         | (exfalso; omega)
                         | (skip
                            refine xr_iconst hc rfl ?_
                            refine xr_iastore hc rfl (by first | assumption | rfl) (by first | omega | (unfold dz_w; omega)) (by first | omega | (unfold dz_w; omega)) ?_
                            rw [Int.toNat_natCast]
                            refine xr_aloadn hc rfl rfl ?_
                            refine xr_getfr hc rfl rfl (by first | assumption | rfl) (by first | assumption | rfl) ?_
                            refine xr_getfr hc rfl rfl (by first | assumption | rfl) (by first | assumption | rfl) ?_
                            refine xr_iloadn hc rfl rfl ?_
                            refine xr_iloadn hc rfl rfl ?_
                            refine xr_if_ne hc rfl (t := 120) rfl (fun b113 => ?_) (fun b113 => ?_)
                            · first
                              | (exfalso; omega)
                              | (skip
                                 refine xr_iload hc rfl rfl ?_
                                 refine xr_iastore hc rfl (by first | assumption | rfl) (by first | omega | (unfold dz_w; omega)) (by first | omega | (unfold dz_w; omega)) ?_
                                 rw [Int.toNat_natCast]
                                 refine xr_aloadn hc rfl rfl ?_
                                 refine xr_getfr hc rfl rfl (by first | assumption | rfl) (by first | assumption | rfl) ?_
                                 refine xr_getfr hc rfl rfl (by first | assumption | rfl) (by first | assumption | rfl) ?_
                                 refine xr_iloadn hc rfl rfl ?_
                                 refine xr_iloadn hc rfl rfl ?_
                                 refine xr_if_ne hc rfl (t := 139) rfl (fun b132 => ?_) (fun b132 => ?_)
                                 · first
                                   | (exfalso; omega)
                                   | (skip
                                      refine xr_iload hc rfl rfl ?_
                                      refine xr_iastore hc rfl (by first | assumption | rfl) (by first | omega | (unfold dz_w; omega)) (by first | omega | (unfold dz_w; omega)) ?_
                                      rw [Int.toNat_natCast]
                                      refine xr_aloadn hc rfl rfl ?_
                                      refine xr_getfr hc rfl rfl (by first | assumption | rfl) (by first | assumption | rfl) ?_
                                      refine xr_iloadn hc rfl rfl ?_
                                      refine xr_iconst hc rfl ?_
                                      refine xr_iaddz hc rfl (by first | exact dz_wid (by first | omega | (unfold dz_w; omega)) (by first | omega | (unfold dz_w; omega)) | rfl) ?_
                                      refine xr_putfi hc rfl rfl (by first | assumption | rfl) ?_
                                      refine xr_iconst hc rfl ?_
                                      refine xr_zreturn hc rfl rfl (Nat.zero_le _) (Nat.zero_le _) (by first | exact Or.inl rfl | exact Or.inr rfl | assumption) ?_
                                      have hr : rwd c nn pl ps i p = (true, p + 4) := by
                                        unfold rwd
                                        rw [if_neg (by omega), if_neg (fun z => z f1), if_neg (fun z => z f2), if_neg (fun z => z f3), if_neg (fun z => z f4)]
                                      refine hT (by rw [hr]) (by rw [hr]) _ (fun q2 k2 v1 v2 v3 => ?_) ?_ ?_ ?_ ?_ ?_ ?_ ?_ f1 f3 f4 (by omega) f2
                                      · rw [dz_up_o (by omega), dz_up_o (by omega), dz_up_o (by omega), dz_up_o (by omega), dz_up_o (by omega)]
                                        rw [w1 _ _ v1, y1 _ _ v1, n1 _ _ v1 (by omega)]
                                      · repeat (first | rw [dz_up_ne (by omega)])
                                        exact w2
                                      · rw [dz_up_eq]
                                        omega
                                      · repeat (first | rw [dz_up_ne (by omega)])
                                        rw [dz_up_eq, eK, hk]
                                      · repeat (first | rw [dz_up_ne (by omega)])
                                        rw [w1 _ _ (by omega), y1 _ _ (by omega), n3, eP]
                                      · repeat (first | rw [dz_up_ne (by omega)])
                                        rw [dz_up_eq, eV]
                                        first
                                          | rw [if_pos (by omega)]
                                          | rw [if_neg (by omega)]
                                      · repeat (first | rw [dz_up_ne (by omega)])
                                        rw [dz_up_eq, eW]
                                        first
                                          | rw [if_pos (by omega)]
                                          | rw [if_neg (by omega)]
                                      · repeat (first | rw [dz_up_ne (by omega)])
                                        rw [dz_up_eq, eN]
                                        first
                                          | rw [if_pos (by omega)]
                                          | rw [if_neg (by omega)])
                                 · first
                                   | (exfalso; omega)
                                   | (skip
                                      refine xr_iconst hc rfl ?_
                                      refine xr_goto hc rfl (t := 141) rfl ?_
                                      refine xr_iastore hc rfl (by first | assumption | rfl) (by first | omega | (unfold dz_w; omega)) (by first | omega | (unfold dz_w; omega)) ?_
                                      rw [Int.toNat_natCast]
                                      refine xr_aloadn hc rfl rfl ?_
                                      refine xr_getfr hc rfl rfl (by first | assumption | rfl) (by first | assumption | rfl) ?_
                                      refine xr_iloadn hc rfl rfl ?_
                                      refine xr_iconst hc rfl ?_
                                      refine xr_iaddz hc rfl (by first | exact dz_wid (by first | omega | (unfold dz_w; omega)) (by first | omega | (unfold dz_w; omega)) | rfl) ?_
                                      refine xr_putfi hc rfl rfl (by first | assumption | rfl) ?_
                                      refine xr_iconst hc rfl ?_
                                      refine xr_zreturn hc rfl rfl (Nat.zero_le _) (Nat.zero_le _) (by first | exact Or.inl rfl | exact Or.inr rfl | assumption) ?_
                                      have hr : rwd c nn pl ps i p = (true, p + 4) := by
                                        unfold rwd
                                        rw [if_neg (by omega), if_neg (fun z => z f1), if_neg (fun z => z f2), if_neg (fun z => z f3), if_neg (fun z => z f4)]
                                      refine hT (by rw [hr]) (by rw [hr]) _ (fun q2 k2 v1 v2 v3 => ?_) ?_ ?_ ?_ ?_ ?_ ?_ ?_ f1 f3 f4 (by omega) f2
                                      · rw [dz_up_o (by omega), dz_up_o (by omega), dz_up_o (by omega), dz_up_o (by omega), dz_up_o (by omega)]
                                        rw [w1 _ _ v1, y1 _ _ v1, n1 _ _ v1 (by omega)]
                                      · repeat (first | rw [dz_up_ne (by omega)])
                                        exact w2
                                      · rw [dz_up_eq]
                                        omega
                                      · repeat (first | rw [dz_up_ne (by omega)])
                                        rw [dz_up_eq, eK, hk]
                                      · repeat (first | rw [dz_up_ne (by omega)])
                                        rw [w1 _ _ (by omega), y1 _ _ (by omega), n3, eP]
                                      · repeat (first | rw [dz_up_ne (by omega)])
                                        rw [dz_up_eq, eV]
                                        first
                                          | rw [if_pos (by omega)]
                                          | rw [if_neg (by omega)]
                                      · repeat (first | rw [dz_up_ne (by omega)])
                                        rw [dz_up_eq, eW]
                                        first
                                          | rw [if_pos (by omega)]
                                          | rw [if_neg (by omega)]
                                      · repeat (first | rw [dz_up_ne (by omega)])
                                        rw [dz_up_eq, eN]
                                        first
                                          | rw [if_pos (by omega)]
                                          | rw [if_neg (by omega)]))
                            · first
                              | (exfalso; omega)
                              | (skip
                                 refine xr_iconst hc rfl ?_
                                 refine xr_goto hc rfl (t := 122) rfl ?_
                                 refine xr_iastore hc rfl (by first | assumption | rfl) (by first | omega | (unfold dz_w; omega)) (by first | omega | (unfold dz_w; omega)) ?_
                                 rw [Int.toNat_natCast]
                                 refine xr_aloadn hc rfl rfl ?_
                                 refine xr_getfr hc rfl rfl (by first | assumption | rfl) (by first | assumption | rfl) ?_
                                 refine xr_getfr hc rfl rfl (by first | assumption | rfl) (by first | assumption | rfl) ?_
                                 refine xr_iloadn hc rfl rfl ?_
                                 refine xr_iloadn hc rfl rfl ?_
                                 refine xr_if_ne hc rfl (t := 139) rfl (fun b132 => ?_) (fun b132 => ?_)
                                 · first
                                   | (exfalso; omega)
                                   | (skip
                                      refine xr_iload hc rfl rfl ?_
                                      refine xr_iastore hc rfl (by first | assumption | rfl) (by first | omega | (unfold dz_w; omega)) (by first | omega | (unfold dz_w; omega)) ?_
                                      rw [Int.toNat_natCast]
                                      refine xr_aloadn hc rfl rfl ?_
                                      refine xr_getfr hc rfl rfl (by first | assumption | rfl) (by first | assumption | rfl) ?_
                                      refine xr_iloadn hc rfl rfl ?_
                                      refine xr_iconst hc rfl ?_
                                      refine xr_iaddz hc rfl (by first | exact dz_wid (by first | omega | (unfold dz_w; omega)) (by first | omega | (unfold dz_w; omega)) | rfl) ?_
                                      refine xr_putfi hc rfl rfl (by first | assumption | rfl) ?_
                                      refine xr_iconst hc rfl ?_
                                      refine xr_zreturn hc rfl rfl (Nat.zero_le _) (Nat.zero_le _) (by first | exact Or.inl rfl | exact Or.inr rfl | assumption) ?_
                                      have hr : rwd c nn pl ps i p = (true, p + 4) := by
                                        unfold rwd
                                        rw [if_neg (by omega), if_neg (fun z => z f1), if_neg (fun z => z f2), if_neg (fun z => z f3), if_neg (fun z => z f4)]
                                      refine hT (by rw [hr]) (by rw [hr]) _ (fun q2 k2 v1 v2 v3 => ?_) ?_ ?_ ?_ ?_ ?_ ?_ ?_ f1 f3 f4 (by omega) f2
                                      · rw [dz_up_o (by omega), dz_up_o (by omega), dz_up_o (by omega), dz_up_o (by omega), dz_up_o (by omega)]
                                        rw [w1 _ _ v1, y1 _ _ v1, n1 _ _ v1 (by omega)]
                                      · repeat (first | rw [dz_up_ne (by omega)])
                                        exact w2
                                      · rw [dz_up_eq]
                                        omega
                                      · repeat (first | rw [dz_up_ne (by omega)])
                                        rw [dz_up_eq, eK, hk]
                                      · repeat (first | rw [dz_up_ne (by omega)])
                                        rw [w1 _ _ (by omega), y1 _ _ (by omega), n3, eP]
                                      · repeat (first | rw [dz_up_ne (by omega)])
                                        rw [dz_up_eq, eV]
                                        first
                                          | rw [if_pos (by omega)]
                                          | rw [if_neg (by omega)]
                                      · repeat (first | rw [dz_up_ne (by omega)])
                                        rw [dz_up_eq, eW]
                                        first
                                          | rw [if_pos (by omega)]
                                          | rw [if_neg (by omega)]
                                      · repeat (first | rw [dz_up_ne (by omega)])
                                        rw [dz_up_eq, eN]
                                        first
                                          | rw [if_pos (by omega)]
                                          | rw [if_neg (by omega)])
                                 · first
                                   | (exfalso; omega)
                                   | (skip
                                      refine xr_iconst hc rfl ?_
                                      refine xr_goto hc rfl (t := 141) rfl ?_
                                      refine xr_iastore hc rfl (by first | assumption | rfl) (by first | omega | (unfold dz_w; omega)) (by first | omega | (unfold dz_w; omega)) ?_
                                      rw [Int.toNat_natCast]
                                      refine xr_aloadn hc rfl rfl ?_
                                      refine xr_getfr hc rfl rfl (by first | assumption | rfl) (by first | assumption | rfl) ?_
                                      refine xr_iloadn hc rfl rfl ?_
                                      refine xr_iconst hc rfl ?_
                                      refine xr_iaddz hc rfl (by first | exact dz_wid (by first | omega | (unfold dz_w; omega)) (by first | omega | (unfold dz_w; omega)) | rfl) ?_
                                      refine xr_putfi hc rfl rfl (by first | assumption | rfl) ?_
                                      refine xr_iconst hc rfl ?_
                                      refine xr_zreturn hc rfl rfl (Nat.zero_le _) (Nat.zero_le _) (by first | exact Or.inl rfl | exact Or.inr rfl | assumption) ?_
                                      have hr : rwd c nn pl ps i p = (true, p + 4) := by
                                        unfold rwd
                                        rw [if_neg (by omega), if_neg (fun z => z f1), if_neg (fun z => z f2), if_neg (fun z => z f3), if_neg (fun z => z f4)]
                                      refine hT (by rw [hr]) (by rw [hr]) _ (fun q2 k2 v1 v2 v3 => ?_) ?_ ?_ ?_ ?_ ?_ ?_ ?_ f1 f3 f4 (by omega) f2
                                      · rw [dz_up_o (by omega), dz_up_o (by omega), dz_up_o (by omega), dz_up_o (by omega), dz_up_o (by omega)]
                                        rw [w1 _ _ v1, y1 _ _ v1, n1 _ _ v1 (by omega)]
                                      · repeat (first | rw [dz_up_ne (by omega)])
                                        exact w2
                                      · rw [dz_up_eq]
                                        omega
                                      · repeat (first | rw [dz_up_ne (by omega)])
                                        rw [dz_up_eq, eK, hk]
                                      · repeat (first | rw [dz_up_ne (by omega)])
                                        rw [w1 _ _ (by omega), y1 _ _ (by omega), n3, eP]
                                      · repeat (first | rw [dz_up_ne (by omega)])
                                        rw [dz_up_eq, eV]
                                        first
                                          | rw [if_pos (by omega)]
                                          | rw [if_neg (by omega)]
                                      · repeat (first | rw [dz_up_ne (by omega)])
                                        rw [dz_up_eq, eW]
                                        first
                                          | rw [if_pos (by omega)]
                                          | rw [if_neg (by omega)]
                                      · repeat (first | rw [dz_up_ne (by omega)])
                                        rw [dz_up_eq, eN]
                                        first
                                          | rw [if_pos (by omega)]
                                          | rw [if_neg (by omega)])))
                       · first
                         | (exfalso; omega)
                         | (skip
                            refine xr_bipush hc rfl ?_
                            refine xr_iload hc rfl rfl ?_
                            refine xr_imulz hc rfl (by first | exact dz_wid (by first | omega | (unfold dz_w; omega)) (by first | omega | (unfold dz_w; omega)) | rfl) ?_
                            refine xr_iload hc rfl rfl ?_
                            refine xr_iaddz hc rfl (by first | exact dz_wid (by first | omega | (unfold dz_w; omega)) (by first | omega | (unfold dz_w; omega)) | rfl) ?_
                            refine xr_goto hc rfl (t := 103) rfl ?_
                            refine xr_iastore hc rfl (by first | assumption | rfl) (by first | omega | (unfold dz_w; omega)) (by first | omega | (unfold dz_w; omega)) ?_
                            rw [Int.toNat_natCast]
                            refine xr_aloadn hc rfl rfl ?_
                            refine xr_getfr hc rfl rfl (by first | assumption | rfl) (by first | assumption | rfl) ?_
                            refine xr_getfr hc rfl rfl (by first | assumption | rfl) (by first | assumption | rfl) ?_
                            refine xr_iloadn hc rfl rfl ?_
                            refine xr_iloadn hc rfl rfl ?_
                            refine xr_if_ne hc rfl (t := 120) rfl (fun b113 => ?_) (fun b113 => ?_)
                            · first
                              | (exfalso; omega)
                              | (skip
                                 refine xr_iload hc rfl rfl ?_
                                 refine xr_iastore hc rfl (by first | assumption | rfl) (by first | omega | (unfold dz_w; omega)) (by first | omega | (unfold dz_w; omega)) ?_
                                 rw [Int.toNat_natCast]
                                 refine xr_aloadn hc rfl rfl ?_
                                 refine xr_getfr hc rfl rfl (by first | assumption | rfl) (by first | assumption | rfl) ?_
                                 refine xr_getfr hc rfl rfl (by first | assumption | rfl) (by first | assumption | rfl) ?_
                                 refine xr_iloadn hc rfl rfl ?_
                                 refine xr_iloadn hc rfl rfl ?_
                                 refine xr_if_ne hc rfl (t := 139) rfl (fun b132 => ?_) (fun b132 => ?_)
                                 · first
                                   | (exfalso; omega)
                                   | (skip
                                      refine xr_iload hc rfl rfl ?_
                                      refine xr_iastore hc rfl (by first | assumption | rfl) (by first | omega | (unfold dz_w; omega)) (by first | omega | (unfold dz_w; omega)) ?_
                                      rw [Int.toNat_natCast]
                                      refine xr_aloadn hc rfl rfl ?_
                                      refine xr_getfr hc rfl rfl (by first | assumption | rfl) (by first | assumption | rfl) ?_
                                      refine xr_iloadn hc rfl rfl ?_
                                      refine xr_iconst hc rfl ?_
                                      refine xr_iaddz hc rfl (by first | exact dz_wid (by first | omega | (unfold dz_w; omega)) (by first | omega | (unfold dz_w; omega)) | rfl) ?_
                                      refine xr_putfi hc rfl rfl (by first | assumption | rfl) ?_
                                      refine xr_iconst hc rfl ?_
                                      refine xr_zreturn hc rfl rfl (Nat.zero_le _) (Nat.zero_le _) (by first | exact Or.inl rfl | exact Or.inr rfl | assumption) ?_
                                      have hr : rwd c nn pl ps i p = (true, p + 4) := by
                                        unfold rwd
                                        rw [if_neg (by omega), if_neg (fun z => z f1), if_neg (fun z => z f2), if_neg (fun z => z f3), if_neg (fun z => z f4)]
                                      refine hT (by rw [hr]) (by rw [hr]) _ (fun q2 k2 v1 v2 v3 => ?_) ?_ ?_ ?_ ?_ ?_ ?_ ?_ f1 f3 f4 (by omega) f2
                                      · rw [dz_up_o (by omega), dz_up_o (by omega), dz_up_o (by omega), dz_up_o (by omega), dz_up_o (by omega)]
                                        rw [w1 _ _ v1, y1 _ _ v1, n1 _ _ v1 (by omega)]
                                      · repeat (first | rw [dz_up_ne (by omega)])
                                        exact w2
                                      · rw [dz_up_eq]
                                        omega
                                      · repeat (first | rw [dz_up_ne (by omega)])
                                        rw [dz_up_eq, eK, hk]
                                      · repeat (first | rw [dz_up_ne (by omega)])
                                        rw [w1 _ _ (by omega), y1 _ _ (by omega), n3, eP]
                                      · repeat (first | rw [dz_up_ne (by omega)])
                                        rw [dz_up_eq, eV]
                                        first
                                          | rw [if_pos (by omega)]
                                          | rw [if_neg (by omega)]
                                      · repeat (first | rw [dz_up_ne (by omega)])
                                        rw [dz_up_eq, eW]
                                        first
                                          | rw [if_pos (by omega)]
                                          | rw [if_neg (by omega)]
                                      · repeat (first | rw [dz_up_ne (by omega)])
                                        rw [dz_up_eq, eN]
                                        first
                                          | rw [if_pos (by omega)]
                                          | rw [if_neg (by omega)])
                                 · first
                                   | (exfalso; omega)
                                   | (skip
                                      refine xr_iconst hc rfl ?_
                                      refine xr_goto hc rfl (t := 141) rfl ?_
                                      refine xr_iastore hc rfl (by first | assumption | rfl) (by first | omega | (unfold dz_w; omega)) (by first | omega | (unfold dz_w; omega)) ?_
                                      rw [Int.toNat_natCast]
                                      refine xr_aloadn hc rfl rfl ?_
                                      refine xr_getfr hc rfl rfl (by first | assumption | rfl) (by first | assumption | rfl) ?_
                                      refine xr_iloadn hc rfl rfl ?_
                                      refine xr_iconst hc rfl ?_
                                      refine xr_iaddz hc rfl (by first | exact dz_wid (by first | omega | (unfold dz_w; omega)) (by first | omega | (unfold dz_w; omega)) | rfl) ?_
                                      refine xr_putfi hc rfl rfl (by first | assumption | rfl) ?_
                                      refine xr_iconst hc rfl ?_
                                      refine xr_zreturn hc rfl rfl (Nat.zero_le _) (Nat.zero_le _) (by first | exact Or.inl rfl | exact Or.inr rfl | assumption) ?_
                                      have hr : rwd c nn pl ps i p = (true, p + 4) := by
                                        unfold rwd
                                        rw [if_neg (by omega), if_neg (fun z => z f1), if_neg (fun z => z f2), if_neg (fun z => z f3), if_neg (fun z => z f4)]
                                      refine hT (by rw [hr]) (by rw [hr]) _ (fun q2 k2 v1 v2 v3 => ?_) ?_ ?_ ?_ ?_ ?_ ?_ ?_ f1 f3 f4 (by omega) f2
                                      · rw [dz_up_o (by omega), dz_up_o (by omega), dz_up_o (by omega), dz_up_o (by omega), dz_up_o (by omega)]
                                        rw [w1 _ _ v1, y1 _ _ v1, n1 _ _ v1 (by omega)]
                                      · repeat (first | rw [dz_up_ne (by omega)])
                                        exact w2
                                      · rw [dz_up_eq]
                                        omega
                                      · repeat (first | rw [dz_up_ne (by omega)])
                                        rw [dz_up_eq, eK, hk]
                                      · repeat (first | rw [dz_up_ne (by omega)])
                                        rw [w1 _ _ (by omega), y1 _ _ (by omega), n3, eP]
                                      · repeat (first | rw [dz_up_ne (by omega)])
                                        rw [dz_up_eq, eV]
                                        first
                                          | rw [if_pos (by omega)]
                                          | rw [if_neg (by omega)]
                                      · repeat (first | rw [dz_up_ne (by omega)])
                                        rw [dz_up_eq, eW]
                                        first
                                          | rw [if_pos (by omega)]
                                          | rw [if_neg (by omega)]
                                      · repeat (first | rw [dz_up_ne (by omega)])
                                        rw [dz_up_eq, eN]
                                        first
                                          | rw [if_pos (by omega)]
                                          | rw [if_neg (by omega)]))
                            · first
                              | (exfalso; omega)
                              | (skip
                                 refine xr_iconst hc rfl ?_
                                 refine xr_goto hc rfl (t := 122) rfl ?_
                                 refine xr_iastore hc rfl (by first | assumption | rfl) (by first | omega | (unfold dz_w; omega)) (by first | omega | (unfold dz_w; omega)) ?_
                                 rw [Int.toNat_natCast]
                                 refine xr_aloadn hc rfl rfl ?_
                                 refine xr_getfr hc rfl rfl (by first | assumption | rfl) (by first | assumption | rfl) ?_
                                 refine xr_getfr hc rfl rfl (by first | assumption | rfl) (by first | assumption | rfl) ?_
                                 refine xr_iloadn hc rfl rfl ?_
                                 refine xr_iloadn hc rfl rfl ?_
                                 refine xr_if_ne hc rfl (t := 139) rfl (fun b132 => ?_) (fun b132 => ?_)
                                 · first
                                   | (exfalso; omega)
                                   | (skip
                                      refine xr_iload hc rfl rfl ?_
                                      refine xr_iastore hc rfl (by first | assumption | rfl) (by first | omega | (unfold dz_w; omega)) (by first | omega | (unfold dz_w; omega)) ?_
                                      rw [Int.toNat_natCast]
                                      refine xr_aloadn hc rfl rfl ?_
                                      refine xr_getfr hc rfl rfl (by first | assumption | rfl) (by first | assumption | rfl) ?_
                                      refine xr_iloadn hc rfl rfl ?_
                                      refine xr_iconst hc rfl ?_
                                      refine xr_iaddz hc rfl (by first | exact dz_wid (by first | omega | (unfold dz_w; omega)) (by first | omega | (unfold dz_w; omega)) | rfl) ?_
                                      refine xr_putfi hc rfl rfl (by first | assumption | rfl) ?_
                                      refine xr_iconst hc rfl ?_
                                      refine xr_zreturn hc rfl rfl (Nat.zero_le _) (Nat.zero_le _) (by first | exact Or.inl rfl | exact Or.inr rfl | assumption) ?_
                                      have hr : rwd c nn pl ps i p = (true, p + 4) := by
                                        unfold rwd
                                        rw [if_neg (by omega), if_neg (fun z => z f1), if_neg (fun z => z f2), if_neg (fun z => z f3), if_neg (fun z => z f4)]
                                      refine hT (by rw [hr]) (by rw [hr]) _ (fun q2 k2 v1 v2 v3 => ?_) ?_ ?_ ?_ ?_ ?_ ?_ ?_ f1 f3 f4 (by omega) f2
                                      · rw [dz_up_o (by omega), dz_up_o (by omega), dz_up_o (by omega), dz_up_o (by omega), dz_up_o (by omega)]
                                        rw [w1 _ _ v1, y1 _ _ v1, n1 _ _ v1 (by omega)]
                                      · repeat (first | rw [dz_up_ne (by omega)])
                                        exact w2
                                      · rw [dz_up_eq]
                                        omega
                                      · repeat (first | rw [dz_up_ne (by omega)])
                                        rw [dz_up_eq, eK, hk]
                                      · repeat (first | rw [dz_up_ne (by omega)])
                                        rw [w1 _ _ (by omega), y1 _ _ (by omega), n3, eP]
                                      · repeat (first | rw [dz_up_ne (by omega)])
                                        rw [dz_up_eq, eV]
                                        first
                                          | rw [if_pos (by omega)]
                                          | rw [if_neg (by omega)]
                                      · repeat (first | rw [dz_up_ne (by omega)])
                                        rw [dz_up_eq, eW]
                                        first
                                          | rw [if_pos (by omega)]
                                          | rw [if_neg (by omega)]
                                      · repeat (first | rw [dz_up_ne (by omega)])
                                        rw [dz_up_eq, eN]
                                        first
                                          | rw [if_pos (by omega)]
                                          | rw [if_neg (by omega)])
                                 · first
                                   | (exfalso; omega)
                                   | (skip
                                      refine xr_iconst hc rfl ?_
                                      refine xr_goto hc rfl (t := 141) rfl ?_
                                      refine xr_iastore hc rfl (by first | assumption | rfl) (by first | omega | (unfold dz_w; omega)) (by first | omega | (unfold dz_w; omega)) ?_
                                      rw [Int.toNat_natCast]
                                      refine xr_aloadn hc rfl rfl ?_
                                      refine xr_getfr hc rfl rfl (by first | assumption | rfl) (by first | assumption | rfl) ?_
                                      refine xr_iloadn hc rfl rfl ?_
                                      refine xr_iconst hc rfl ?_
                                      refine xr_iaddz hc rfl (by first | exact dz_wid (by first | omega | (unfold dz_w; omega)) (by first | omega | (unfold dz_w; omega)) | rfl) ?_
                                      refine xr_putfi hc rfl rfl (by first | assumption | rfl) ?_
                                      refine xr_iconst hc rfl ?_
                                      refine xr_zreturn hc rfl rfl (Nat.zero_le _) (Nat.zero_le _) (by first | exact Or.inl rfl | exact Or.inr rfl | assumption) ?_
                                      have hr : rwd c nn pl ps i p = (true, p + 4) := by
                                        unfold rwd
                                        rw [if_neg (by omega), if_neg (fun z => z f1), if_neg (fun z => z f2), if_neg (fun z => z f3), if_neg (fun z => z f4)]
                                      refine hT (by rw [hr]) (by rw [hr]) _ (fun q2 k2 v1 v2 v3 => ?_) ?_ ?_ ?_ ?_ ?_ ?_ ?_ f1 f3 f4 (by omega) f2
                                      · rw [dz_up_o (by omega), dz_up_o (by omega), dz_up_o (by omega), dz_up_o (by omega), dz_up_o (by omega)]
                                        rw [w1 _ _ v1, y1 _ _ v1, n1 _ _ v1 (by omega)]
                                      · repeat (first | rw [dz_up_ne (by omega)])
                                        exact w2
                                      · rw [dz_up_eq]
                                        omega
                                      · repeat (first | rw [dz_up_ne (by omega)])
                                        rw [dz_up_eq, eK, hk]
                                      · repeat (first | rw [dz_up_ne (by omega)])
                                        rw [w1 _ _ (by omega), y1 _ _ (by omega), n3, eP]
                                      · repeat (first | rw [dz_up_ne (by omega)])
                                        rw [dz_up_eq, eV]
                                        first
                                          | rw [if_pos (by omega)]
                                          | rw [if_neg (by omega)]
                                      · repeat (first | rw [dz_up_ne (by omega)])
                                        rw [dz_up_eq, eW]
                                        first
                                          | rw [if_pos (by omega)]
                                          | rw [if_neg (by omega)]
                                      · repeat (first | rw [dz_up_ne (by omega)])
                                        rw [dz_up_eq, eN]
                                        first
                                          | rw [if_pos (by omega)]
                                          | rw [if_neg (by omega)]))))
                  · first
                    | (exfalso; omega)
                    | (skip
                       refine xr_iconst hc rfl ?_
                       refine xr_zreturn hc rfl rfl (Nat.zero_le _) (Nat.zero_le _) (by first | exact Or.inl rfl | exact Or.inr rfl | assumption) ?_
                       first
                         | (exfalso; omega)
                         | (have hr : rwd c nn pl ps i p = (false, p + 3) := by
                              unfold rwd
                              rw [if_neg (by omega), if_neg (fun z => z f1), if_neg (fun z => z f2), if_neg (fun z => z f3), if_pos f4]
                            refine hF (by rw [hr]) N2 (fun q2 k2 v1 v2 v3 => by rw [y1 _ _ v1, n1 _ _ v1 (by omega)]) (by rw [hr]; exact y2) (by rw [hr]; have z := f3.1; show p + 3 ≤ nn; omega))
                         | (have hr : rwd c nn pl ps i p = (false, p + 2) := by
                              unfold rwd
                              rw [if_neg (by omega), if_neg (fun z => z f1), if_neg (fun z => z f2), if_pos f3]
                            refine hF (by rw [hr]) N (fun q2 k2 v1 v2 v3 => by rw [n1 _ _ v1 (by omega)]) (by rw [hr]; exact n2) (by rw [hr]; have z := f1.1; show p + 2 ≤ nn; omega))))
           · first
             | (exfalso; omega)
             | (skip
                refine xr_bipush hc rfl ?_
                refine xr_goto hc rfl (t := 58) rfl ?_
                refine xr_istore5 hc rfl rfl ?_
                refine xr_iload hc rfl rfl ?_
                refine xr_bipush hc rfl ?_
                refine xr_icmp_ne hc rfl (t := 69) rfl (fun b64 => ?_) (fun b64 => ?_)
                · first
                  | (exfalso; omega)
                  | (skip
                     refine xr_aloadn hc rfl rfl ?_
                     refine xr_getfr hc rfl rfl (by first | assumption | rfl) (by first | assumption | rfl) ?_
                     refine xr_getfr hc rfl rfl (by first | assumption | rfl) (by first | assumption | rfl) ?_
                     refine xr_iloadn hc rfl rfl ?_
                     refine xr_iloadn hc rfl rfl ?_
                     refine xr_iastore hc rfl (by first | assumption | rfl) (by first | omega | (unfold dz_w; omega)) (by first | omega | (unfold dz_w; omega)) ?_
                     rw [Int.toNat_natCast]
                     refine xr_aloadn hc rfl rfl ?_
                     refine xr_getfr hc rfl rfl (by first | assumption | rfl) (by first | assumption | rfl) ?_
                     refine xr_getfr hc rfl rfl (by first | assumption | rfl) (by first | assumption | rfl) ?_
                     refine xr_iloadn hc rfl rfl ?_
                     refine xr_iloadn hc rfl rfl ?_
                     refine xr_if_ne hc rfl (t := 102) rfl (fun b88 => ?_) (fun b88 => ?_)
                     · first
                       | (exfalso; omega)
                       | (skip
                          refine xr_iconst hc rfl ?_
                          refine xr_iastore hc rfl (by first | assumption | rfl) (by first | omega | (unfold dz_w; omega)) (by first | omega | (unfold dz_w; omega)) ?_
                          rw [Int.toNat_natCast]
                          refine xr_aloadn hc rfl rfl ?_
                          refine xr_getfr hc rfl rfl (by first | assumption | rfl) (by first | assumption | rfl) ?_
                          refine xr_getfr hc rfl rfl (by first | assumption | rfl) (by first | assumption | rfl) ?_
                          refine xr_iloadn hc rfl rfl ?_
                          refine xr_iloadn hc rfl rfl ?_
                          refine xr_if_ne hc rfl (t := 120) rfl (fun b113 => ?_) (fun b113 => ?_)
                          · first
                            | (exfalso; omega)
                            | (skip
                               refine xr_iload hc rfl rfl ?_
                               refine xr_iastore hc rfl (by first | assumption | rfl) (by first | omega | (unfold dz_w; omega)) (by first | omega | (unfold dz_w; omega)) ?_
                               rw [Int.toNat_natCast]
                               refine xr_aloadn hc rfl rfl ?_
                               refine xr_getfr hc rfl rfl (by first | assumption | rfl) (by first | assumption | rfl) ?_
                               refine xr_getfr hc rfl rfl (by first | assumption | rfl) (by first | assumption | rfl) ?_
                               refine xr_iloadn hc rfl rfl ?_
                               refine xr_iloadn hc rfl rfl ?_
                               refine xr_if_ne hc rfl (t := 139) rfl (fun b132 => ?_) (fun b132 => ?_)
                               · first
                                 | (exfalso; omega)
                                 | (skip
                                    refine xr_iload hc rfl rfl ?_
                                    refine xr_iastore hc rfl (by first | assumption | rfl) (by first | omega | (unfold dz_w; omega)) (by first | omega | (unfold dz_w; omega)) ?_
                                    rw [Int.toNat_natCast]
                                    refine xr_aloadn hc rfl rfl ?_
                                    refine xr_getfr hc rfl rfl (by first | assumption | rfl) (by first | assumption | rfl) ?_
                                    refine xr_iloadn hc rfl rfl ?_
                                    refine xr_iconst hc rfl ?_
                                    refine xr_iaddz hc rfl (by first | exact dz_wid (by first | omega | (unfold dz_w; omega)) (by first | omega | (unfold dz_w; omega)) | rfl) ?_
                                    refine xr_putfi hc rfl rfl (by first | assumption | rfl) ?_
                                    refine xr_iconst hc rfl ?_
                                    refine xr_zreturn hc rfl rfl (Nat.zero_le _) (Nat.zero_le _) (by first | exact Or.inl rfl | exact Or.inr rfl | assumption) ?_
                                    have hr : rwd c nn pl ps i p = (true, p + 4) := by
                                      unfold rwd
                                      rw [if_neg (by omega), if_neg (fun z => z f1), if_neg (fun z => z f2), if_neg (fun z => z f3), if_neg (fun z => z f4)]
                                    refine hT (by rw [hr]) (by rw [hr]) _ (fun q2 k2 v1 v2 v3 => ?_) ?_ ?_ ?_ ?_ ?_ ?_ ?_ f1 f3 f4 (by omega) f2
                                    · rw [dz_up_o (by omega), dz_up_o (by omega), dz_up_o (by omega), dz_up_o (by omega), dz_up_o (by omega)]
                                      rw [w1 _ _ v1, y1 _ _ v1, n1 _ _ v1 (by omega)]
                                    · repeat (first | rw [dz_up_ne (by omega)])
                                      exact w2
                                    · rw [dz_up_eq]
                                      omega
                                    · repeat (first | rw [dz_up_ne (by omega)])
                                      rw [dz_up_eq, eK, hk]
                                    · repeat (first | rw [dz_up_ne (by omega)])
                                      rw [w1 _ _ (by omega), y1 _ _ (by omega), n3, eP]
                                    · repeat (first | rw [dz_up_ne (by omega)])
                                      rw [dz_up_eq, eV]
                                      first
                                        | rw [if_pos (by omega)]
                                        | rw [if_neg (by omega)]
                                    · repeat (first | rw [dz_up_ne (by omega)])
                                      rw [dz_up_eq, eW]
                                      first
                                        | rw [if_pos (by omega)]
                                        | rw [if_neg (by omega)]
                                    · repeat (first | rw [dz_up_ne (by omega)])
                                      rw [dz_up_eq, eN]
                                      first
                                        | rw [if_pos (by omega)]
                                        | rw [if_neg (by omega)])
                               · first
                                 | (exfalso; omega)
                                 | (skip
                                    refine xr_iconst hc rfl ?_
                                    refine xr_goto hc rfl (t := 141) rfl ?_
                                    refine xr_iastore hc rfl (by first | assumption | rfl) (by first | omega | (unfold dz_w; omega)) (by first | omega | (unfold dz_w; omega)) ?_
                                    rw [Int.toNat_natCast]
                                    refine xr_aloadn hc rfl rfl ?_
                                    refine xr_getfr hc rfl rfl (by first | assumption | rfl) (by first | assumption | rfl) ?_
                                    refine xr_iloadn hc rfl rfl ?_
                                    refine xr_iconst hc rfl ?_
                                    refine xr_iaddz hc rfl (by first | exact dz_wid (by first | omega | (unfold dz_w; omega)) (by first | omega | (unfold dz_w; omega)) | rfl) ?_
                                    refine xr_putfi hc rfl rfl (by first | assumption | rfl) ?_
                                    refine xr_iconst hc rfl ?_
                                    refine xr_zreturn hc rfl rfl (Nat.zero_le _) (Nat.zero_le _) (by first | exact Or.inl rfl | exact Or.inr rfl | assumption) ?_
                                    have hr : rwd c nn pl ps i p = (true, p + 4) := by
                                      unfold rwd
                                      rw [if_neg (by omega), if_neg (fun z => z f1), if_neg (fun z => z f2), if_neg (fun z => z f3), if_neg (fun z => z f4)]
                                    refine hT (by rw [hr]) (by rw [hr]) _ (fun q2 k2 v1 v2 v3 => ?_) ?_ ?_ ?_ ?_ ?_ ?_ ?_ f1 f3 f4 (by omega) f2
                                    · rw [dz_up_o (by omega), dz_up_o (by omega), dz_up_o (by omega), dz_up_o (by omega), dz_up_o (by omega)]
                                      rw [w1 _ _ v1, y1 _ _ v1, n1 _ _ v1 (by omega)]
                                    · repeat (first | rw [dz_up_ne (by omega)])
                                      exact w2
                                    · rw [dz_up_eq]
                                      omega
                                    · repeat (first | rw [dz_up_ne (by omega)])
                                      rw [dz_up_eq, eK, hk]
                                    · repeat (first | rw [dz_up_ne (by omega)])
                                      rw [w1 _ _ (by omega), y1 _ _ (by omega), n3, eP]
                                    · repeat (first | rw [dz_up_ne (by omega)])
                                      rw [dz_up_eq, eV]
                                      first
                                        | rw [if_pos (by omega)]
                                        | rw [if_neg (by omega)]
                                    · repeat (first | rw [dz_up_ne (by omega)])
                                      rw [dz_up_eq, eW]
                                      first
                                        | rw [if_pos (by omega)]
                                        | rw [if_neg (by omega)]
                                    · repeat (first | rw [dz_up_ne (by omega)])
                                      rw [dz_up_eq, eN]
                                      first
                                        | rw [if_pos (by omega)]
                                        | rw [if_neg (by omega)]))
                          · first
                            | (exfalso; omega)
                            | (skip
                               refine xr_iconst hc rfl ?_
                               refine xr_goto hc rfl (t := 122) rfl ?_
                               refine xr_iastore hc rfl (by first | assumption | rfl) (by first | omega | (unfold dz_w; omega)) (by first | omega | (unfold dz_w; omega)) ?_
                               rw [Int.toNat_natCast]
                               refine xr_aloadn hc rfl rfl ?_
                               refine xr_getfr hc rfl rfl (by first | assumption | rfl) (by first | assumption | rfl) ?_
                               refine xr_getfr hc rfl rfl (by first | assumption | rfl) (by first | assumption | rfl) ?_
                               refine xr_iloadn hc rfl rfl ?_
                               refine xr_iloadn hc rfl rfl ?_
                               refine xr_if_ne hc rfl (t := 139) rfl (fun b132 => ?_) (fun b132 => ?_)
                               · first
                                 | (exfalso; omega)
                                 | (skip
                                    refine xr_iload hc rfl rfl ?_
                                    refine xr_iastore hc rfl (by first | assumption | rfl) (by first | omega | (unfold dz_w; omega)) (by first | omega | (unfold dz_w; omega)) ?_
                                    rw [Int.toNat_natCast]
                                    refine xr_aloadn hc rfl rfl ?_
                                    refine xr_getfr hc rfl rfl (by first | assumption | rfl) (by first | assumption | rfl) ?_
                                    refine xr_iloadn hc rfl rfl ?_
                                    refine xr_iconst hc rfl ?_
                                    refine xr_iaddz hc rfl (by first | exact dz_wid (by first | omega | (unfold dz_w; omega)) (by first | omega | (unfold dz_w; omega)) | rfl) ?_
                                    refine xr_putfi hc rfl rfl (by first | assumption | rfl) ?_
                                    refine xr_iconst hc rfl ?_
                                    refine xr_zreturn hc rfl rfl (Nat.zero_le _) (Nat.zero_le _) (by first | exact Or.inl rfl | exact Or.inr rfl | assumption) ?_
                                    have hr : rwd c nn pl ps i p = (true, p + 4) := by
                                      unfold rwd
                                      rw [if_neg (by omega), if_neg (fun z => z f1), if_neg (fun z => z f2), if_neg (fun z => z f3), if_neg (fun z => z f4)]
                                    refine hT (by rw [hr]) (by rw [hr]) _ (fun q2 k2 v1 v2 v3 => ?_) ?_ ?_ ?_ ?_ ?_ ?_ ?_ f1 f3 f4 (by omega) f2
                                    · rw [dz_up_o (by omega), dz_up_o (by omega), dz_up_o (by omega), dz_up_o (by omega), dz_up_o (by omega)]
                                      rw [w1 _ _ v1, y1 _ _ v1, n1 _ _ v1 (by omega)]
                                    · repeat (first | rw [dz_up_ne (by omega)])
                                      exact w2
                                    · rw [dz_up_eq]
                                      omega
                                    · repeat (first | rw [dz_up_ne (by omega)])
                                      rw [dz_up_eq, eK, hk]
                                    · repeat (first | rw [dz_up_ne (by omega)])
                                      rw [w1 _ _ (by omega), y1 _ _ (by omega), n3, eP]
                                    · repeat (first | rw [dz_up_ne (by omega)])
                                      rw [dz_up_eq, eV]
                                      first
                                        | rw [if_pos (by omega)]
                                        | rw [if_neg (by omega)]
                                    · repeat (first | rw [dz_up_ne (by omega)])
                                      rw [dz_up_eq, eW]
                                      first
                                        | rw [if_pos (by omega)]
                                        | rw [if_neg (by omega)]
                                    · repeat (first | rw [dz_up_ne (by omega)])
                                      rw [dz_up_eq, eN]
                                      first
                                        | rw [if_pos (by omega)]
                                        | rw [if_neg (by omega)])
                               · first
                                 | (exfalso; omega)
                                 | (skip
                                    refine xr_iconst hc rfl ?_
                                    refine xr_goto hc rfl (t := 141) rfl ?_
                                    refine xr_iastore hc rfl (by first | assumption | rfl) (by first | omega | (unfold dz_w; omega)) (by first | omega | (unfold dz_w; omega)) ?_
                                    rw [Int.toNat_natCast]
                                    refine xr_aloadn hc rfl rfl ?_
                                    refine xr_getfr hc rfl rfl (by first | assumption | rfl) (by first | assumption | rfl) ?_
                                    refine xr_iloadn hc rfl rfl ?_
                                    refine xr_iconst hc rfl ?_
                                    refine xr_iaddz hc rfl (by first | exact dz_wid (by first | omega | (unfold dz_w; omega)) (by first | omega | (unfold dz_w; omega)) | rfl) ?_
                                    refine xr_putfi hc rfl rfl (by first | assumption | rfl) ?_
                                    refine xr_iconst hc rfl ?_
                                    refine xr_zreturn hc rfl rfl (Nat.zero_le _) (Nat.zero_le _) (by first | exact Or.inl rfl | exact Or.inr rfl | assumption) ?_
                                    have hr : rwd c nn pl ps i p = (true, p + 4) := by
                                      unfold rwd
                                      rw [if_neg (by omega), if_neg (fun z => z f1), if_neg (fun z => z f2), if_neg (fun z => z f3), if_neg (fun z => z f4)]
                                    refine hT (by rw [hr]) (by rw [hr]) _ (fun q2 k2 v1 v2 v3 => ?_) ?_ ?_ ?_ ?_ ?_ ?_ ?_ f1 f3 f4 (by omega) f2
                                    · rw [dz_up_o (by omega), dz_up_o (by omega), dz_up_o (by omega), dz_up_o (by omega), dz_up_o (by omega)]
                                      rw [w1 _ _ v1, y1 _ _ v1, n1 _ _ v1 (by omega)]
                                    · repeat (first | rw [dz_up_ne (by omega)])
                                      exact w2
                                    · rw [dz_up_eq]
                                      omega
                                    · repeat (first | rw [dz_up_ne (by omega)])
                                      rw [dz_up_eq, eK, hk]
                                    · repeat (first | rw [dz_up_ne (by omega)])
                                      rw [w1 _ _ (by omega), y1 _ _ (by omega), n3, eP]
                                    · repeat (first | rw [dz_up_ne (by omega)])
                                      rw [dz_up_eq, eV]
                                      first
                                        | rw [if_pos (by omega)]
                                        | rw [if_neg (by omega)]
                                    · repeat (first | rw [dz_up_ne (by omega)])
                                      rw [dz_up_eq, eW]
                                      first
                                        | rw [if_pos (by omega)]
                                        | rw [if_neg (by omega)]
                                    · repeat (first | rw [dz_up_ne (by omega)])
                                      rw [dz_up_eq, eN]
                                      first
                                        | rw [if_pos (by omega)]
                                        | rw [if_neg (by omega)])))
                     · first
                       | (exfalso; omega)
                       | (skip
                          refine xr_bipush hc rfl ?_
                          refine xr_iload hc rfl rfl ?_
                          refine xr_imulz hc rfl (by first | exact dz_wid (by first | omega | (unfold dz_w; omega)) (by first | omega | (unfold dz_w; omega)) | rfl) ?_
                          refine xr_iload hc rfl rfl ?_
                          refine xr_iaddz hc rfl (by first | exact dz_wid (by first | omega | (unfold dz_w; omega)) (by first | omega | (unfold dz_w; omega)) | rfl) ?_
                          refine xr_goto hc rfl (t := 103) rfl ?_
                          refine xr_iastore hc rfl (by first | assumption | rfl) (by first | omega | (unfold dz_w; omega)) (by first | omega | (unfold dz_w; omega)) ?_
                          rw [Int.toNat_natCast]
                          refine xr_aloadn hc rfl rfl ?_
                          refine xr_getfr hc rfl rfl (by first | assumption | rfl) (by first | assumption | rfl) ?_
                          refine xr_getfr hc rfl rfl (by first | assumption | rfl) (by first | assumption | rfl) ?_
                          refine xr_iloadn hc rfl rfl ?_
                          refine xr_iloadn hc rfl rfl ?_
                          refine xr_if_ne hc rfl (t := 120) rfl (fun b113 => ?_) (fun b113 => ?_)
                          · first
                            | (exfalso; omega)
                            | (skip
                               refine xr_iload hc rfl rfl ?_
                               refine xr_iastore hc rfl (by first | assumption | rfl) (by first | omega | (unfold dz_w; omega)) (by first | omega | (unfold dz_w; omega)) ?_
                               rw [Int.toNat_natCast]
                               refine xr_aloadn hc rfl rfl ?_
                               refine xr_getfr hc rfl rfl (by first | assumption | rfl) (by first | assumption | rfl) ?_
                               refine xr_getfr hc rfl rfl (by first | assumption | rfl) (by first | assumption | rfl) ?_
                               refine xr_iloadn hc rfl rfl ?_
                               refine xr_iloadn hc rfl rfl ?_
                               refine xr_if_ne hc rfl (t := 139) rfl (fun b132 => ?_) (fun b132 => ?_)
                               · first
                                 | (exfalso; omega)
                                 | (skip
                                    refine xr_iload hc rfl rfl ?_
                                    refine xr_iastore hc rfl (by first | assumption | rfl) (by first | omega | (unfold dz_w; omega)) (by first | omega | (unfold dz_w; omega)) ?_
                                    rw [Int.toNat_natCast]
                                    refine xr_aloadn hc rfl rfl ?_
                                    refine xr_getfr hc rfl rfl (by first | assumption | rfl) (by first | assumption | rfl) ?_
                                    refine xr_iloadn hc rfl rfl ?_
                                    refine xr_iconst hc rfl ?_
                                    refine xr_iaddz hc rfl (by first | exact dz_wid (by first | omega | (unfold dz_w; omega)) (by first | omega | (unfold dz_w; omega)) | rfl) ?_
                                    refine xr_putfi hc rfl rfl (by first | assumption | rfl) ?_
                                    refine xr_iconst hc rfl ?_
                                    refine xr_zreturn hc rfl rfl (Nat.zero_le _) (Nat.zero_le _) (by first | exact Or.inl rfl | exact Or.inr rfl | assumption) ?_
                                    have hr : rwd c nn pl ps i p = (true, p + 4) := by
                                      unfold rwd
                                      rw [if_neg (by omega), if_neg (fun z => z f1), if_neg (fun z => z f2), if_neg (fun z => z f3), if_neg (fun z => z f4)]
                                    refine hT (by rw [hr]) (by rw [hr]) _ (fun q2 k2 v1 v2 v3 => ?_) ?_ ?_ ?_ ?_ ?_ ?_ ?_ f1 f3 f4 (by omega) f2
                                    · rw [dz_up_o (by omega), dz_up_o (by omega), dz_up_o (by omega), dz_up_o (by omega), dz_up_o (by omega)]
                                      rw [w1 _ _ v1, y1 _ _ v1, n1 _ _ v1 (by omega)]
                                    · repeat (first | rw [dz_up_ne (by omega)])
                                      exact w2
                                    · rw [dz_up_eq]
                                      omega
                                    · repeat (first | rw [dz_up_ne (by omega)])
                                      rw [dz_up_eq, eK, hk]
                                    · repeat (first | rw [dz_up_ne (by omega)])
                                      rw [w1 _ _ (by omega), y1 _ _ (by omega), n3, eP]
                                    · repeat (first | rw [dz_up_ne (by omega)])
                                      rw [dz_up_eq, eV]
                                      first
                                        | rw [if_pos (by omega)]
                                        | rw [if_neg (by omega)]
                                    · repeat (first | rw [dz_up_ne (by omega)])
                                      rw [dz_up_eq, eW]
                                      first
                                        | rw [if_pos (by omega)]
                                        | rw [if_neg (by omega)]
                                    · repeat (first | rw [dz_up_ne (by omega)])
                                      rw [dz_up_eq, eN]
                                      first
                                        | rw [if_pos (by omega)]
                                        | rw [if_neg (by omega)])
                               · first
                                 | (exfalso; omega)
                                 | (skip
                                    refine xr_iconst hc rfl ?_
                                    refine xr_goto hc rfl (t := 141) rfl ?_
                                    refine xr_iastore hc rfl (by first | assumption | rfl) (by first | omega | (unfold dz_w; omega)) (by first | omega | (unfold dz_w; omega)) ?_
                                    rw [Int.toNat_natCast]
                                    refine xr_aloadn hc rfl rfl ?_
                                    refine xr_getfr hc rfl rfl (by first | assumption | rfl) (by first | assumption | rfl) ?_
                                    refine xr_iloadn hc rfl rfl ?_
                                    refine xr_iconst hc rfl ?_
                                    refine xr_iaddz hc rfl (by first | exact dz_wid (by first | omega | (unfold dz_w; omega)) (by first | omega | (unfold dz_w; omega)) | rfl) ?_
                                    refine xr_putfi hc rfl rfl (by first | assumption | rfl) ?_
                                    refine xr_iconst hc rfl ?_
                                    refine xr_zreturn hc rfl rfl (Nat.zero_le _) (Nat.zero_le _) (by first | exact Or.inl rfl | exact Or.inr rfl | assumption) ?_
                                    have hr : rwd c nn pl ps i p = (true, p + 4) := by
                                      unfold rwd
                                      rw [if_neg (by omega), if_neg (fun z => z f1), if_neg (fun z => z f2), if_neg (fun z => z f3), if_neg (fun z => z f4)]
                                    refine hT (by rw [hr]) (by rw [hr]) _ (fun q2 k2 v1 v2 v3 => ?_) ?_ ?_ ?_ ?_ ?_ ?_ ?_ f1 f3 f4 (by omega) f2
                                    · rw [dz_up_o (by omega), dz_up_o (by omega), dz_up_o (by omega), dz_up_o (by omega), dz_up_o (by omega)]
                                      rw [w1 _ _ v1, y1 _ _ v1, n1 _ _ v1 (by omega)]
                                    · repeat (first | rw [dz_up_ne (by omega)])
                                      exact w2
                                    · rw [dz_up_eq]
                                      omega
                                    · repeat (first | rw [dz_up_ne (by omega)])
                                      rw [dz_up_eq, eK, hk]
                                    · repeat (first | rw [dz_up_ne (by omega)])
                                      rw [w1 _ _ (by omega), y1 _ _ (by omega), n3, eP]
                                    · repeat (first | rw [dz_up_ne (by omega)])
                                      rw [dz_up_eq, eV]
                                      first
                                        | rw [if_pos (by omega)]
                                        | rw [if_neg (by omega)]
                                    · repeat (first | rw [dz_up_ne (by omega)])
                                      rw [dz_up_eq, eW]
                                      first
                                        | rw [if_pos (by omega)]
                                        | rw [if_neg (by omega)]
                                    · repeat (first | rw [dz_up_ne (by omega)])
                                      rw [dz_up_eq, eN]
                                      first
                                        | rw [if_pos (by omega)]
                                        | rw [if_neg (by omega)]))
                          · first
                            | (exfalso; omega)
                            | (skip
                               refine xr_iconst hc rfl ?_
                               refine xr_goto hc rfl (t := 122) rfl ?_
                               refine xr_iastore hc rfl (by first | assumption | rfl) (by first | omega | (unfold dz_w; omega)) (by first | omega | (unfold dz_w; omega)) ?_
                               rw [Int.toNat_natCast]
                               refine xr_aloadn hc rfl rfl ?_
                               refine xr_getfr hc rfl rfl (by first | assumption | rfl) (by first | assumption | rfl) ?_
                               refine xr_getfr hc rfl rfl (by first | assumption | rfl) (by first | assumption | rfl) ?_
                               refine xr_iloadn hc rfl rfl ?_
                               refine xr_iloadn hc rfl rfl ?_
                               refine xr_if_ne hc rfl (t := 139) rfl (fun b132 => ?_) (fun b132 => ?_)
                               · first
                                 | (exfalso; omega)
                                 | (skip
                                    refine xr_iload hc rfl rfl ?_
                                    refine xr_iastore hc rfl (by first | assumption | rfl) (by first | omega | (unfold dz_w; omega)) (by first | omega | (unfold dz_w; omega)) ?_
                                    rw [Int.toNat_natCast]
                                    refine xr_aloadn hc rfl rfl ?_
                                    refine xr_getfr hc rfl rfl (by first | assumption | rfl) (by first | assumption | rfl) ?_
                                    refine xr_iloadn hc rfl rfl ?_
                                    refine xr_iconst hc rfl ?_
                                    refine xr_iaddz hc rfl (by first | exact dz_wid (by first | omega | (unfold dz_w; omega)) (by first | omega | (unfold dz_w; omega)) | rfl) ?_
                                    refine xr_putfi hc rfl rfl (by first | assumption | rfl) ?_
                                    refine xr_iconst hc rfl ?_
                                    refine xr_zreturn hc rfl rfl (Nat.zero_le _) (Nat.zero_le _) (by first | exact Or.inl rfl | exact Or.inr rfl | assumption) ?_
                                    have hr : rwd c nn pl ps i p = (true, p + 4) := by
                                      unfold rwd
                                      rw [if_neg (by omega), if_neg (fun z => z f1), if_neg (fun z => z f2), if_neg (fun z => z f3), if_neg (fun z => z f4)]
                                    refine hT (by rw [hr]) (by rw [hr]) _ (fun q2 k2 v1 v2 v3 => ?_) ?_ ?_ ?_ ?_ ?_ ?_ ?_ f1 f3 f4 (by omega) f2
                                    · rw [dz_up_o (by omega), dz_up_o (by omega), dz_up_o (by omega), dz_up_o (by omega), dz_up_o (by omega)]
                                      rw [w1 _ _ v1, y1 _ _ v1, n1 _ _ v1 (by omega)]
                                    · repeat (first | rw [dz_up_ne (by omega)])
                                      exact w2
                                    · rw [dz_up_eq]
                                      omega
                                    · repeat (first | rw [dz_up_ne (by omega)])
                                      rw [dz_up_eq, eK, hk]
                                    · repeat (first | rw [dz_up_ne (by omega)])
                                      rw [w1 _ _ (by omega), y1 _ _ (by omega), n3, eP]
                                    · repeat (first | rw [dz_up_ne (by omega)])
                                      rw [dz_up_eq, eV]
                                      first
                                        | rw [if_pos (by omega)]
                                        | rw [if_neg (by omega)]
                                    · repeat (first | rw [dz_up_ne (by omega)])
                                      rw [dz_up_eq, eW]
                                      first
                                        | rw [if_pos (by omega)]
                                        | rw [if_neg (by omega)]
                                    · repeat (first | rw [dz_up_ne (by omega)])
                                      rw [dz_up_eq, eN]
                                      first
                                        | rw [if_pos (by omega)]
                                        | rw [if_neg (by omega)])
                               · first
                                 | (exfalso; omega)
                                 | (skip
                                    refine xr_iconst hc rfl ?_
                                    refine xr_goto hc rfl (t := 141) rfl ?_
                                    refine xr_iastore hc rfl (by first | assumption | rfl) (by first | omega | (unfold dz_w; omega)) (by first | omega | (unfold dz_w; omega)) ?_
                                    rw [Int.toNat_natCast]
                                    refine xr_aloadn hc rfl rfl ?_
                                    refine xr_getfr hc rfl rfl (by first | assumption | rfl) (by first | assumption | rfl) ?_
                                    refine xr_iloadn hc rfl rfl ?_
                                    refine xr_iconst hc rfl ?_
                                    refine xr_iaddz hc rfl (by first | exact dz_wid (by first | omega | (unfold dz_w; omega)) (by first | omega | (unfold dz_w; omega)) | rfl) ?_
                                    refine xr_putfi hc rfl rfl (by first | assumption | rfl) ?_
                                    refine xr_iconst hc rfl ?_
                                    refine xr_zreturn hc rfl rfl (Nat.zero_le _) (Nat.zero_le _) (by first | exact Or.inl rfl | exact Or.inr rfl | assumption) ?_
                                    have hr : rwd c nn pl ps i p = (true, p + 4) := by
                                      unfold rwd
                                      rw [if_neg (by omega), if_neg (fun z => z f1), if_neg (fun z => z f2), if_neg (fun z => z f3), if_neg (fun z => z f4)]
                                    refine hT (by rw [hr]) (by rw [hr]) _ (fun q2 k2 v1 v2 v3 => ?_) ?_ ?_ ?_ ?_ ?_ ?_ ?_ f1 f3 f4 (by omega) f2
                                    · rw [dz_up_o (by omega), dz_up_o (by omega), dz_up_o (by omega), dz_up_o (by omega), dz_up_o (by omega)]
                                      rw [w1 _ _ v1, y1 _ _ v1, n1 _ _ v1 (by omega)]
                                    · repeat (first | rw [dz_up_ne (by omega)])
                                      exact w2
                                    · rw [dz_up_eq]
                                      omega
                                    · repeat (first | rw [dz_up_ne (by omega)])
                                      rw [dz_up_eq, eK, hk]
                                    · repeat (first | rw [dz_up_ne (by omega)])
                                      rw [w1 _ _ (by omega), y1 _ _ (by omega), n3, eP]
                                    · repeat (first | rw [dz_up_ne (by omega)])
                                      rw [dz_up_eq, eV]
                                      first
                                        | rw [if_pos (by omega)]
                                        | rw [if_neg (by omega)]
                                    · repeat (first | rw [dz_up_ne (by omega)])
                                      rw [dz_up_eq, eW]
                                      first
                                        | rw [if_pos (by omega)]
                                        | rw [if_neg (by omega)]
                                    · repeat (first | rw [dz_up_ne (by omega)])
                                      rw [dz_up_eq, eN]
                                      first
                                        | rw [if_pos (by omega)]
                                        | rw [if_neg (by omega)]))))
                · first
                  | (exfalso; omega)
                  | (skip
                     refine xr_iconst hc rfl ?_
                     refine xr_zreturn hc rfl rfl (Nat.zero_le _) (Nat.zero_le _) (by first | exact Or.inl rfl | exact Or.inr rfl | assumption) ?_
                     first
                       | (exfalso; omega)
                       | (have hr : rwd c nn pl ps i p = (false, p + 3) := by
                            unfold rwd
                            rw [if_neg (by omega), if_neg (fun z => z f1), if_neg (fun z => z f2), if_neg (fun z => z f3), if_pos f4]
                          refine hF (by rw [hr]) N2 (fun q2 k2 v1 v2 v3 => by rw [y1 _ _ v1, n1 _ _ v1 (by omega)]) (by rw [hr]; exact y2) (by rw [hr]; have z := f3.1; show p + 3 ≤ nn; omega))
                       | (have hr : rwd c nn pl ps i p = (false, p + 2) := by
                            unfold rwd
                            rw [if_neg (by omega), if_neg (fun z => z f1), if_neg (fun z => z f2), if_pos f3]
                          refine hF (by rw [hr]) N (fun q2 k2 v1 v2 v3 => by rw [n1 _ _ v1 (by omega)]) (by rw [hr]; exact n2) (by rw [hr]; have z := f1.1; show p + 2 ≤ nn; omega)))))
  refine xr_aloadn hc rfl rfl ?_
  refine xr_callv0 hc rfl (by first | assumption | rfl) rfl rfl rfl (Nat.le_of_ble_eq_true rfl) (Nat.zero_le _) (Nat.zero_le _) ?_
  refine S_readLetter hl htx hrf hn hc2 h2 h3 hp hx1 hlt (fun {k} hk N0 a1 a2 => ?_) (fun hk => ?_)
  · refine xk_1 ?_
    refine xr_istore2 hc rfl rfl ?_
    refine xr_iloadn hc rfl rfl ?_
    refine xr_bipush hc rfl ?_
    refine xr_icmp_eq hc rfl (t := 19) rfl (fun b8 => ?_) (fun b8 => ?_)
    · first
      | (exfalso; omega)
      | (skip
         refine xr_iconst hc rfl ?_
         refine xr_zreturn hc rfl rfl (Nat.zero_le _) (Nat.zero_le _) (by first | exact Or.inl rfl | exact Or.inr rfl | assumption) ?_
         first
           | (exfalso; omega)
           | (have hr : rwd c nn pl ps i p = (false, p + 1) := by
                unfold rwd
                rw [if_neg (by omega)]
                rcases f1 with z | z
                · rw [if_pos z]
                · by_cases e : fig c nn 0 (pl - 1) (p + 1)
                  · rw [if_neg (fun y => y e), if_pos z]
                  · rw [if_pos e]
              exact hF (by rw [hr]) N (fun q2 k2 v1 v2 v3 => by rw [b1 _ _ v1 (by omega), a1 _ _ v1]) (by rw [hr]; exact b2) (by rw [hr]; show p + 1 ≤ nn; omega))
           | (have hr : rwd c nn pl ps i p = (false, p) := by
                unfold rwd
                rw [if_pos (Or.inl hk)]
              exact hF (by rw [hr]) M (fun _ _ _ _ _ => rfl) (by rw [hr]; exact h3) (by rw [hr]; exact hp)))
    · first
      | (exfalso; omega)
      | (skip
         refine xr_aloadn hc rfl rfl ?_
         refine xr_iloadn hc rfl rfl ?_
         refine xr_callv1 hc rfl (by first | assumption | rfl) rfl rfl rfl (Nat.le_of_ble_eq_true rfl) (Nat.zero_le _) (Nat.zero_le _) ?_
         refine S_readPlace (tx := tx) (nn := nn) (p := p + 1) (c := c) (P := fun k => c (ps k + 1) - 48) hl htx hrf hn (fun k hk => by rw [a1 _ _ (by omega)]; exact hc2 k hk) (by rw [a1 _ _ (by omega)]; exact h2) a2 (by omega) (by rw [a1 _ _ (by omega)]; exact hpl) h69 hi (by rw [a1 _ _ (by omega)]; exact hw) (fun k hk => by rw [a1 _ _ (by omega)]; exact hP k hk) (fun f1 f2 N b1 b2 b3 => ?_) (fun f1 N b1 b2 => ?_)
         · refine xk_1 ?_
           refine xr_ift hc rfl (t := 21) rfl (by simp [dz_cmp]) ?_
           exact t21 N _ hk (by omega) (fun q2 k2 v1 v2 => by rw [b1 _ _ v1 v2, a1 _ _ v1]) b2 b3 f1 f2
         · refine xk_1 ?_
           refine xr_iff hc rfl (by simp [dz_cmp]) ?_
           refine xr_iconst hc rfl ?_
           refine xr_zreturn hc rfl rfl (Nat.zero_le _) (Nat.zero_le _) (by first | exact Or.inl rfl | exact Or.inr rfl | assumption) ?_
           first
             | (exfalso; omega)
             | (have hr : rwd c nn pl ps i p = (false, p + 1) := by
                  unfold rwd
                  rw [if_neg (by omega)]
                  rcases f1 with z | z
                  · rw [if_pos z]
                  · by_cases e : fig c nn 0 (pl - 1) (p + 1)
                    · rw [if_neg (fun y => y e), if_pos z]
                    · rw [if_pos e]
                exact hF (by rw [hr]) N (fun q2 k2 v1 v2 v3 => by rw [b1 _ _ v1 (by omega), a1 _ _ v1]) (by rw [hr]; exact b2) (by rw [hr]; show p + 1 ≤ nn; omega))
             | (have hr : rwd c nn pl ps i p = (false, p) := by
                  unfold rwd
                  rw [if_pos (Or.inl hk)]
                exact hF (by rw [hr]) M (fun _ _ _ _ _ => rfl) (by rw [hr]; exact h3) (by rw [hr]; exact hp)))
  · refine xk_1 ?_
    refine xr_istore2 hc rfl rfl ?_
    refine xr_iloadn hc rfl rfl ?_
    refine xr_bipush hc rfl ?_
    refine xr_icmp_eq hc rfl (t := 19) rfl (fun b8 => ?_) (fun b8 => ?_)
    · first
      | (exfalso; omega)
      | (skip
         refine xr_iconst hc rfl ?_
         refine xr_zreturn hc rfl rfl (Nat.zero_le _) (Nat.zero_le _) (by first | exact Or.inl rfl | exact Or.inr rfl | assumption) ?_
         first
           | (exfalso; omega)
           | (have hr : rwd c nn pl ps i p = (false, p + 1) := by
                unfold rwd
                rw [if_neg (by omega)]
                rcases f1 with z | z
                · rw [if_pos z]
                · by_cases e : fig c nn 0 (pl - 1) (p + 1)
                  · rw [if_neg (fun y => y e), if_pos z]
                  · rw [if_pos e]
              exact hF (by rw [hr]) N (fun q2 k2 v1 v2 v3 => by rw [b1 _ _ v1 (by omega), a1 _ _ v1]) (by rw [hr]; exact b2) (by rw [hr]; show p + 1 ≤ nn; omega))
           | (have hr : rwd c nn pl ps i p = (false, p) := by
                unfold rwd
                rw [if_pos (Or.inl hk)]
              exact hF (by rw [hr]) M (fun _ _ _ _ _ => rfl) (by rw [hr]; exact h3) (by rw [hr]; exact hp)))
    · first
      | (exfalso; omega)
      | (skip
         refine xr_aloadn hc rfl rfl ?_
         refine xr_iloadn hc rfl rfl ?_
         refine xr_callv1 hc rfl (by first | assumption | rfl) rfl rfl rfl (Nat.le_of_ble_eq_true rfl) (Nat.zero_le _) (Nat.zero_le _) ?_
         refine S_readPlace (tx := tx) (nn := nn) (p := p + 1) (c := c) (P := fun k => c (ps k + 1) - 48) hl htx hrf hn (fun k hk => by rw [a1 _ _ (by omega)]; exact hc2 k hk) (by rw [a1 _ _ (by omega)]; exact h2) a2 (by omega) (by rw [a1 _ _ (by omega)]; exact hpl) h69 hi (by rw [a1 _ _ (by omega)]; exact hw) (fun k hk => by rw [a1 _ _ (by omega)]; exact hP k hk) (fun f1 f2 N b1 b2 b3 => ?_) (fun f1 N b1 b2 => ?_)
         · refine xk_1 ?_
           refine xr_ift hc rfl (t := 21) rfl (by simp [dz_cmp]) ?_
           exact t21 N _ hk (by omega) (fun q2 k2 v1 v2 => by rw [b1 _ _ v1 v2, a1 _ _ v1]) b2 b3 f1 f2
         · refine xk_1 ?_
           refine xr_iff hc rfl (by simp [dz_cmp]) ?_
           refine xr_iconst hc rfl ?_
           refine xr_zreturn hc rfl rfl (Nat.zero_le _) (Nat.zero_le _) (by first | exact Or.inl rfl | exact Or.inr rfl | assumption) ?_
           first
             | (exfalso; omega)
             | (have hr : rwd c nn pl ps i p = (false, p + 1) := by
                  unfold rwd
                  rw [if_neg (by omega)]
                  rcases f1 with z | z
                  · rw [if_pos z]
                  · by_cases e : fig c nn 0 (pl - 1) (p + 1)
                    · rw [if_neg (fun y => y e), if_pos z]
                    · rw [if_pos e]
                exact hF (by rw [hr]) N (fun q2 k2 v1 v2 v3 => by rw [b1 _ _ v1 (by omega), a1 _ _ v1]) (by rw [hr]; exact b2) (by rw [hr]; show p + 1 ≤ nn; omega))
             | (have hr : rwd c nn pl ps i p = (false, p) := by
                  unfold rwd
                  rw [if_pos (Or.inl hk)]
                exact hF (by rw [hr]) M (fun _ _ _ _ _ => rfl) (by rw [hr]; exact h3) (by rw [hr]; exact hp)))
