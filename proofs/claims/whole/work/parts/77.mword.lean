/-! The other one reads a word, a text. Written by l2_77.py. -/
set_option maxHeartbeats 2000000 in
set_option maxRecDepth 100000 in
theorem D_readsWord {xo : Nat → List Int} {d : Nat} {Q : dz_Q} {sh : List (Nat ⊕ (Nat × Nat))} {rf : Nat → Nat → Nat} {M : Nat → Nat → Int} {tx nn p : Nat} {c : Nat → Int} (hl : ml sh rf) (htx : tx < 4) (hn : nn ≤ 60) (hc2 : ∀ k, k < nn → M 123 (60 * tx + k) = c k ∧ -128 ≤ c k ∧ c k ≤ 127) (h1f : M 115 15 = ((60 * tx : Nat) : Int)) (h2 : M 115 17 = (nn : Int)) (h3 : M 115 16 = (p : Int)) (hp : p ≤ nn) {i : Nat} {pl : Int} {ps : Nat → Nat} (hlt : p < nn) (hpl : M 115 18 = pl) (h69 : 6 ≤ pl ∧ pl ≤ 9) (hi : i ≤ 6) (hw : M 115 20 = (i : Int)) (hP : ∀ k, k < i → M 125 (5 * k + 1) = c (ps k + 1) - 48) (hT : (rwd c nn pl ps i p).1 = true → (rwd c nn pl ps i p).2 = p + 4 → ∀ M2 : Nat → Nat → Int, (∀ q2 k2, ¬ (q2 = 115 ∧ (k2 = 16 ∨ k2 = 20)) → ¬ (q2 = 125 ∧ 5 * i ≤ k2 ∧ k2 < 5 * i + 5) → M2 q2 k2 = M q2 k2) → M2 115 16 = ((p + 4 : Nat) : Int) → M2 115 20 = ((i + 1 : Nat) : Int) → M2 125 (5 * i) = wKd c (pup ps i p) i → M2 125 (5 * i + 1) = wPl c (pup ps i p) i → M2 125 (5 * i + 2) = wVl c (pup ps i p) i → M2 125 (5 * i + 3) = wWt c (pup ps i p) i → M2 125 (5 * i + 4) = wNx c (pup ps i p) i → fig c nn 0 (pl - 1) (p + 1) → fig c nn 0 (if kl (c p) = 0 then (9 : Int) else 5) (p + 2) → fig c nn 0 (if kl (c p) = 0 then (9 : Int) else 5) (p + 3) → kl (c p) ≠ -9 → i ≤ 5 → Q (some (dz_i 1)) (sh, rf, M2)) (hF : (rwd c nn pl ps i p).1 = false → ∀ M2 : Nat → Nat → Int, (∀ q2 k2, ¬ (q2 = 115 ∧ (k2 = 16 ∨ k2 = 20)) → ¬ (q2 = 125 ∧ 5 * i ≤ k2 ∧ k2 < 5 * i + 5) → M2 q2 k2 = M q2 k2) → M2 115 16 = ((rwd c nn pl ps i p).2 : Int) → (rwd c nn pl ps i p).2 ≤ nn → Q (some (dz_i 0)) (sh, rf, M2)) : dz_E dz_pp xo (d + 3) 142 [dz_r 115] (sh, rf, M) Q := by
  refine ⟨Nat.le_of_ble_eq_true rfl, ?_⟩
  have hc := dz_E_m dz_pp xo (d + 2)
  show dz_X (dz_E dz_pp xo (d + 2)) dz_pp xo (dz_pp 142) Q 0 [some (dz_r 115), none, none, none, none, none] [] 0 0 (sh, rf, M)
  obtain ⟨c0, c1, c2, c3, c4, c5, c6, c7, c8, c9, c10, c11, c12, c13, c14, c15, c16, c17, c18, c19, c20, c21, c22, c23, c24, c25, c26, c27, c28, c29⟩ := id hl
  have hkin := kl_in (c p)
  have ehi : ∀ x : Int, ((x = 9 ∧ kl (c p) = 0) ∨ (x = 5 ∧ kl (c p) ≠ 0)) → (if kl (c p) = 0 then (9 : Int) else 5) = x := fun x z => by
    rcases z with z | z
    · rw [if_pos z.2]
      exact z.1.symm
    · rw [if_neg z.2]
      exact z.1.symm
  have t137 : ∀ (N : Nat → Nat → Int), (∀ q2 k2, ¬ (q2 = 115 ∧ k2 = 16) → N q2 k2 = M q2 k2) → N 115 16 = ((p + 4 : Nat) : Int) → fig c nn 0 (pl - 1) (p + 1) → ly_at (fun k => c (ps k + 1) - 48) (c (p + 1) - 48) i 0 = -9 → fig c nn 0 (if kl (c p) = 0 then (9 : Int) else 5) (p + 2) → fig c nn 0 (if kl (c p) = 0 then (9 : Int) else 5) (p + 3) → kl (c p) ≠ -9 → i ≤ 5 → dz_X (dz_E dz_pp xo (d + 2)) dz_pp xo (dz_pp 142) Q 137 [some (dz_r 115), some (dz_i (5 * (i : Int))), some (dz_i (kl (c p))), some (dz_i (c (p + 1) - 48)), some (dz_i (c (p + 2) - 48)), some (dz_i (c (p + 3) - 48))] [] 0 0 (sh, rf, N) := by
    intro N n1 n2 f1 f2 f3 f4 hk9 hi5
    have n20 : N 115 20 = (i : Int) := by rw [n1 _ _ (by omega)]; exact hw
    obtain ⟨zc1, zc2, zc3⟩ := hc2 (p + 2) f3.1
    obtain ⟨zd1, zd2, zd3⟩ := hc2 (p + 3) f4.1
    have ep : pup ps i p i = p := if_pos rfl
    have eK : wKd c (pup ps i p) i = kl (c p) := by unfold wKd; rw [ep]
    have eP : wPl c (pup ps i p) i = c (p + 1) - 48 := by unfold wPl; rw [ep]
    have eV : wVl c (pup ps i p) i = if kl (c p) = 0 then 10 * (c (p + 2) - 48) + (c (p + 3) - 48) else 0 := by unfold wVl; rw [ep]
    have eW : wWt c (pup ps i p) i = if kl (c p) = 0 then 0 else c (p + 2) - 48 := by unfold wWt; rw [ep]
    have eN : wNx c (pup ps i p) i = if kl (c p) = 0 then 0 else c (p + 3) - 48 := by unfold wNx; rw [ep]
    have ix0 : (5 * (i : Int)).toNat = 5 * i := by omega
    have ix1 : (5 * (i : Int) + 1).toNat = 5 * i + 1 := by omega
    have ix2 : (5 * (i : Int) + 2).toNat = 5 * i + 2 := by omega
    have ix3 : (5 * (i : Int) + 3).toNat = 5 * i + 3 := by omega
    have ix4 : (5 * (i : Int) + 4).toNat = 5 * i + 4 := by omega
    refine xr_aloadn hc rfl rfl ?_
    refine xr_getfr hc rfl rfl (by first | assumption | rfl) (by first | assumption | rfl) ?_
    refine xr_iloadn hc rfl rfl ?_
    refine xr_iloadn hc rfl rfl ?_
    refine xr_iastore hc rfl (by first | assumption | rfl) (by first | omega | (unfold dz_w; omega)) (by first | omega | (unfold dz_w; omega)) ?_
    rw [ix0]
    refine xr_aloadn hc rfl rfl ?_
    refine xr_getfr hc rfl rfl (by first | assumption | rfl) (by first | assumption | rfl) ?_
    refine xr_iloadn hc rfl rfl ?_
    refine xr_iconst hc rfl ?_
    refine xr_iaddz hc rfl (by first | exact dz_wid (by first | omega | (unfold dz_w; omega)) (by first | omega | (unfold dz_w; omega)) | rfl) ?_
    refine xr_iloadn hc rfl rfl ?_
    refine xr_iastore hc rfl (by first | assumption | rfl) (by first | omega | (unfold dz_w; omega)) (by first | omega | (unfold dz_w; omega)) ?_
    rw [ix1]
    refine xr_aloadn hc rfl rfl ?_
    refine xr_getfr hc rfl rfl (by first | assumption | rfl) (by first | assumption | rfl) ?_
    refine xr_iloadn hc rfl rfl ?_
    refine xr_iconst hc rfl ?_
    refine xr_iaddz hc rfl (by first | exact dz_wid (by first | omega | (unfold dz_w; omega)) (by first | omega | (unfold dz_w; omega)) | rfl) ?_
    refine xr_iloadn hc rfl rfl ?_
    refine xr_if_ne hc rfl (t := 175) rfl (fun b161 => ?_) (fun b161 => ?_)
    · first
      | (exfalso; omega)
      | (skip
         refine xr_iconst hc rfl ?_
         refine xr_iastore hc rfl (by first | assumption | rfl) (by first | omega | (unfold dz_w; omega)) (by first | omega | (unfold dz_w; omega)) ?_
         rw [ix2]
         refine xr_aloadn hc rfl rfl ?_
         refine xr_getfr hc rfl rfl (by first | assumption | rfl) (by first | assumption | rfl) ?_
         refine xr_iloadn hc rfl rfl ?_
         refine xr_iconst hc rfl ?_
         refine xr_iaddz hc rfl (by first | exact dz_wid (by first | omega | (unfold dz_w; omega)) (by first | omega | (unfold dz_w; omega)) | rfl) ?_
         refine xr_iloadn hc rfl rfl ?_
         refine xr_if_ne hc rfl (t := 192) rfl (fun b185 => ?_) (fun b185 => ?_)
         · first
           | (exfalso; omega)
           | (skip
              refine xr_iload hc rfl rfl ?_
              refine xr_iastore hc rfl (by first | assumption | rfl) (by first | omega | (unfold dz_w; omega)) (by first | omega | (unfold dz_w; omega)) ?_
              rw [ix3]
              refine xr_aloadn hc rfl rfl ?_
              refine xr_getfr hc rfl rfl (by first | assumption | rfl) (by first | assumption | rfl) ?_
              refine xr_iloadn hc rfl rfl ?_
              refine xr_iconst hc rfl ?_
              refine xr_iaddz hc rfl (by first | exact dz_wid (by first | omega | (unfold dz_w; omega)) (by first | omega | (unfold dz_w; omega)) | rfl) ?_
              refine xr_iloadn hc rfl rfl ?_
              refine xr_if_ne hc rfl (t := 210) rfl (fun b203 => ?_) (fun b203 => ?_)
              · first
                | (exfalso; omega)
                | (skip
                   refine xr_iload hc rfl rfl ?_
                   refine xr_iastore hc rfl (by first | assumption | rfl) (by first | omega | (unfold dz_w; omega)) (by first | omega | (unfold dz_w; omega)) ?_
                   rw [ix4]
                   refine xr_aloadn hc rfl rfl ?_
                   refine xr_dup hc rfl rfl ?_
                   refine xr_getfi hc rfl (Or.inl rfl) (by first | assumption | rfl) ?_
                   repeat (first | rw [dz_up_ne (by omega)] | rw [dz_up_k (by omega)])
                   rw [n20]
                   refine xr_iconst hc rfl ?_
                   refine xr_iaddz hc rfl (by first | exact dz_wid (by first | omega | (unfold dz_w; omega)) (by first | omega | (unfold dz_w; omega)) | rfl) ?_
                   refine xr_putfi hc rfl rfl (by first | assumption | rfl) ?_
                   refine xr_iconst hc rfl ?_
                   refine xr_zreturn hc rfl rfl (Nat.zero_le _) (Nat.zero_le _) (by first | exact Or.inl rfl | exact Or.inr rfl | assumption) ?_
                   have hr : rwd c nn pl ps i p = (true, p + 4) := by
                     unfold rwd
                     rw [if_neg (by omega), if_neg (fun z => z f1), if_neg (fun z => z f2), if_neg (fun z => z f3), if_neg (fun z => z f4)]
                   refine hT (by rw [hr]) (by rw [hr]) _ (fun q2 k2 v1 v2 => ?_) ?_ ?_ ?_ ?_ ?_ ?_ ?_ f1 f3 f4 hk9 hi5
                   · rw [dz_up_o (by omega), dz_up_o (by omega), dz_up_o (by omega), dz_up_o (by omega), dz_up_o (by omega), dz_up_o (by omega)]
                     exact n1 _ _ (by omega)
                   · repeat (first | rw [dz_up_ne (by omega)] | rw [dz_up_k (by omega)])
                     exact n2
                   · rw [dz_up_eq]
                     omega
                   · repeat (first | rw [dz_up_ne (by omega)] | rw [dz_up_k (by omega)])
                     rw [dz_up_eq, eK]
                   · repeat (first | rw [dz_up_ne (by omega)] | rw [dz_up_k (by omega)])
                     rw [dz_up_eq, eP]
                   · repeat (first | rw [dz_up_ne (by omega)] | rw [dz_up_k (by omega)])
                     rw [dz_up_eq, eV]
                     first
                       | rw [if_pos (by omega)]
                       | rw [if_neg (by omega)]
                   · repeat (first | rw [dz_up_ne (by omega)] | rw [dz_up_k (by omega)])
                     rw [dz_up_eq, eW]
                     first
                       | rw [if_pos (by omega)]
                       | rw [if_neg (by omega)]
                   · repeat (first | rw [dz_up_ne (by omega)] | rw [dz_up_k (by omega)])
                     rw [dz_up_eq, eN]
                     first
                       | rw [if_pos (by omega)]
                       | rw [if_neg (by omega)])
              · first
                | (exfalso; omega)
                | (skip
                   refine xr_iconst hc rfl ?_
                   refine xr_goto hc rfl (t := 212) rfl ?_
                   refine xr_iastore hc rfl (by first | assumption | rfl) (by first | omega | (unfold dz_w; omega)) (by first | omega | (unfold dz_w; omega)) ?_
                   rw [ix4]
                   refine xr_aloadn hc rfl rfl ?_
                   refine xr_dup hc rfl rfl ?_
                   refine xr_getfi hc rfl (Or.inl rfl) (by first | assumption | rfl) ?_
                   repeat (first | rw [dz_up_ne (by omega)] | rw [dz_up_k (by omega)])
                   rw [n20]
                   refine xr_iconst hc rfl ?_
                   refine xr_iaddz hc rfl (by first | exact dz_wid (by first | omega | (unfold dz_w; omega)) (by first | omega | (unfold dz_w; omega)) | rfl) ?_
                   refine xr_putfi hc rfl rfl (by first | assumption | rfl) ?_
                   refine xr_iconst hc rfl ?_
                   refine xr_zreturn hc rfl rfl (Nat.zero_le _) (Nat.zero_le _) (by first | exact Or.inl rfl | exact Or.inr rfl | assumption) ?_
                   have hr : rwd c nn pl ps i p = (true, p + 4) := by
                     unfold rwd
                     rw [if_neg (by omega), if_neg (fun z => z f1), if_neg (fun z => z f2), if_neg (fun z => z f3), if_neg (fun z => z f4)]
                   refine hT (by rw [hr]) (by rw [hr]) _ (fun q2 k2 v1 v2 => ?_) ?_ ?_ ?_ ?_ ?_ ?_ ?_ f1 f3 f4 hk9 hi5
                   · rw [dz_up_o (by omega), dz_up_o (by omega), dz_up_o (by omega), dz_up_o (by omega), dz_up_o (by omega), dz_up_o (by omega)]
                     exact n1 _ _ (by omega)
                   · repeat (first | rw [dz_up_ne (by omega)] | rw [dz_up_k (by omega)])
                     exact n2
                   · rw [dz_up_eq]
                     omega
                   · repeat (first | rw [dz_up_ne (by omega)] | rw [dz_up_k (by omega)])
                     rw [dz_up_eq, eK]
                   · repeat (first | rw [dz_up_ne (by omega)] | rw [dz_up_k (by omega)])
                     rw [dz_up_eq, eP]
                   · repeat (first | rw [dz_up_ne (by omega)] | rw [dz_up_k (by omega)])
                     rw [dz_up_eq, eV]
                     first
                       | rw [if_pos (by omega)]
                       | rw [if_neg (by omega)]
                   · repeat (first | rw [dz_up_ne (by omega)] | rw [dz_up_k (by omega)])
                     rw [dz_up_eq, eW]
                     first
                       | rw [if_pos (by omega)]
                       | rw [if_neg (by omega)]
                   · repeat (first | rw [dz_up_ne (by omega)] | rw [dz_up_k (by omega)])
                     rw [dz_up_eq, eN]
                     first
                       | rw [if_pos (by omega)]
                       | rw [if_neg (by omega)]))
         · first
           | (exfalso; omega)
           | (skip
              refine xr_iconst hc rfl ?_
              refine xr_goto hc rfl (t := 194) rfl ?_
              refine xr_iastore hc rfl (by first | assumption | rfl) (by first | omega | (unfold dz_w; omega)) (by first | omega | (unfold dz_w; omega)) ?_
              rw [ix3]
              refine xr_aloadn hc rfl rfl ?_
              refine xr_getfr hc rfl rfl (by first | assumption | rfl) (by first | assumption | rfl) ?_
              refine xr_iloadn hc rfl rfl ?_
              refine xr_iconst hc rfl ?_
              refine xr_iaddz hc rfl (by first | exact dz_wid (by first | omega | (unfold dz_w; omega)) (by first | omega | (unfold dz_w; omega)) | rfl) ?_
              refine xr_iloadn hc rfl rfl ?_
              refine xr_if_ne hc rfl (t := 210) rfl (fun b203 => ?_) (fun b203 => ?_)
              · first
                | (exfalso; omega)
                | (skip
                   refine xr_iload hc rfl rfl ?_
                   refine xr_iastore hc rfl (by first | assumption | rfl) (by first | omega | (unfold dz_w; omega)) (by first | omega | (unfold dz_w; omega)) ?_
                   rw [ix4]
                   refine xr_aloadn hc rfl rfl ?_
                   refine xr_dup hc rfl rfl ?_
                   refine xr_getfi hc rfl (Or.inl rfl) (by first | assumption | rfl) ?_
                   repeat (first | rw [dz_up_ne (by omega)] | rw [dz_up_k (by omega)])
                   rw [n20]
                   refine xr_iconst hc rfl ?_
                   refine xr_iaddz hc rfl (by first | exact dz_wid (by first | omega | (unfold dz_w; omega)) (by first | omega | (unfold dz_w; omega)) | rfl) ?_
                   refine xr_putfi hc rfl rfl (by first | assumption | rfl) ?_
                   refine xr_iconst hc rfl ?_
                   refine xr_zreturn hc rfl rfl (Nat.zero_le _) (Nat.zero_le _) (by first | exact Or.inl rfl | exact Or.inr rfl | assumption) ?_
                   have hr : rwd c nn pl ps i p = (true, p + 4) := by
                     unfold rwd
                     rw [if_neg (by omega), if_neg (fun z => z f1), if_neg (fun z => z f2), if_neg (fun z => z f3), if_neg (fun z => z f4)]
                   refine hT (by rw [hr]) (by rw [hr]) _ (fun q2 k2 v1 v2 => ?_) ?_ ?_ ?_ ?_ ?_ ?_ ?_ f1 f3 f4 hk9 hi5
                   · rw [dz_up_o (by omega), dz_up_o (by omega), dz_up_o (by omega), dz_up_o (by omega), dz_up_o (by omega), dz_up_o (by omega)]
                     exact n1 _ _ (by omega)
                   · repeat (first | rw [dz_up_ne (by omega)] | rw [dz_up_k (by omega)])
                     exact n2
                   · rw [dz_up_eq]
                     omega
                   · repeat (first | rw [dz_up_ne (by omega)] | rw [dz_up_k (by omega)])
                     rw [dz_up_eq, eK]
                   · repeat (first | rw [dz_up_ne (by omega)] | rw [dz_up_k (by omega)])
                     rw [dz_up_eq, eP]
                   · repeat (first | rw [dz_up_ne (by omega)] | rw [dz_up_k (by omega)])
                     rw [dz_up_eq, eV]
                     first
                       | rw [if_pos (by omega)]
                       | rw [if_neg (by omega)]
                   · repeat (first | rw [dz_up_ne (by omega)] | rw [dz_up_k (by omega)])
                     rw [dz_up_eq, eW]
                     first
                       | rw [if_pos (by omega)]
                       | rw [if_neg (by omega)]
                   · repeat (first | rw [dz_up_ne (by omega)] | rw [dz_up_k (by omega)])
                     rw [dz_up_eq, eN]
                     first
                       | rw [if_pos (by omega)]
                       | rw [if_neg (by omega)])
              · first
                | (exfalso; omega)
                | (skip
                   refine xr_iconst hc rfl ?_
                   refine xr_goto hc rfl (t := 212) rfl ?_
                   refine xr_iastore hc rfl (by first | assumption | rfl) (by first | omega | (unfold dz_w; omega)) (by first | omega | (unfold dz_w; omega)) ?_
                   rw [ix4]
                   refine xr_aloadn hc rfl rfl ?_
                   refine xr_dup hc rfl rfl ?_
                   refine xr_getfi hc rfl (Or.inl rfl) (by first | assumption | rfl) ?_
                   repeat (first | rw [dz_up_ne (by omega)] | rw [dz_up_k (by omega)])
                   rw [n20]
                   refine xr_iconst hc rfl ?_
                   refine xr_iaddz hc rfl (by first | exact dz_wid (by first | omega | (unfold dz_w; omega)) (by first | omega | (unfold dz_w; omega)) | rfl) ?_
                   refine xr_putfi hc rfl rfl (by first | assumption | rfl) ?_
                   refine xr_iconst hc rfl ?_
                   refine xr_zreturn hc rfl rfl (Nat.zero_le _) (Nat.zero_le _) (by first | exact Or.inl rfl | exact Or.inr rfl | assumption) ?_
                   have hr : rwd c nn pl ps i p = (true, p + 4) := by
                     unfold rwd
                     rw [if_neg (by omega), if_neg (fun z => z f1), if_neg (fun z => z f2), if_neg (fun z => z f3), if_neg (fun z => z f4)]
                   refine hT (by rw [hr]) (by rw [hr]) _ (fun q2 k2 v1 v2 => ?_) ?_ ?_ ?_ ?_ ?_ ?_ ?_ f1 f3 f4 hk9 hi5
                   · rw [dz_up_o (by omega), dz_up_o (by omega), dz_up_o (by omega), dz_up_o (by omega), dz_up_o (by omega), dz_up_o (by omega)]
                     exact n1 _ _ (by omega)
                   · repeat (first | rw [dz_up_ne (by omega)] | rw [dz_up_k (by omega)])
                     exact n2
                   · rw [dz_up_eq]
                     omega
                   · repeat (first | rw [dz_up_ne (by omega)] | rw [dz_up_k (by omega)])
                     rw [dz_up_eq, eK]
                   · repeat (first | rw [dz_up_ne (by omega)] | rw [dz_up_k (by omega)])
                     rw [dz_up_eq, eP]
                   · repeat (first | rw [dz_up_ne (by omega)] | rw [dz_up_k (by omega)])
                     rw [dz_up_eq, eV]
                     first
                       | rw [if_pos (by omega)]
                       | rw [if_neg (by omega)]
                   · repeat (first | rw [dz_up_ne (by omega)] | rw [dz_up_k (by omega)])
                     rw [dz_up_eq, eW]
                     first
                       | rw [if_pos (by omega)]
                       | rw [if_neg (by omega)]
                   · repeat (first | rw [dz_up_ne (by omega)] | rw [dz_up_k (by omega)])
                     rw [dz_up_eq, eN]
                     first
                       | rw [if_pos (by omega)]
                       | rw [if_neg (by omega)])))
    · first
      | (exfalso; omega)
      | (skip
         refine xr_bipush hc rfl ?_
         refine xr_iload hc rfl rfl ?_
         refine xr_imulz hc rfl (by first | exact dz_wid (by first | omega | (unfold dz_w; omega)) (by first | omega | (unfold dz_w; omega)) | rfl) ?_
         refine xr_iload hc rfl rfl ?_
         refine xr_iaddz hc rfl (by first | exact dz_wid (by first | omega | (unfold dz_w; omega)) (by first | omega | (unfold dz_w; omega)) | rfl) ?_
         refine xr_goto hc rfl (t := 176) rfl ?_
         refine xr_iastore hc rfl (by first | assumption | rfl) (by first | omega | (unfold dz_w; omega)) (by first | omega | (unfold dz_w; omega)) ?_
         rw [ix2]
         refine xr_aloadn hc rfl rfl ?_
         refine xr_getfr hc rfl rfl (by first | assumption | rfl) (by first | assumption | rfl) ?_
         refine xr_iloadn hc rfl rfl ?_
         refine xr_iconst hc rfl ?_
         refine xr_iaddz hc rfl (by first | exact dz_wid (by first | omega | (unfold dz_w; omega)) (by first | omega | (unfold dz_w; omega)) | rfl) ?_
         refine xr_iloadn hc rfl rfl ?_
         refine xr_if_ne hc rfl (t := 192) rfl (fun b185 => ?_) (fun b185 => ?_)
         · first
           | (exfalso; omega)
           | (skip
              refine xr_iload hc rfl rfl ?_
              refine xr_iastore hc rfl (by first | assumption | rfl) (by first | omega | (unfold dz_w; omega)) (by first | omega | (unfold dz_w; omega)) ?_
              rw [ix3]
              refine xr_aloadn hc rfl rfl ?_
              refine xr_getfr hc rfl rfl (by first | assumption | rfl) (by first | assumption | rfl) ?_
              refine xr_iloadn hc rfl rfl ?_
              refine xr_iconst hc rfl ?_
              refine xr_iaddz hc rfl (by first | exact dz_wid (by first | omega | (unfold dz_w; omega)) (by first | omega | (unfold dz_w; omega)) | rfl) ?_
              refine xr_iloadn hc rfl rfl ?_
              refine xr_if_ne hc rfl (t := 210) rfl (fun b203 => ?_) (fun b203 => ?_)
              · first
                | (exfalso; omega)
                | (skip
                   refine xr_iload hc rfl rfl ?_
                   refine xr_iastore hc rfl (by first | assumption | rfl) (by first | omega | (unfold dz_w; omega)) (by first | omega | (unfold dz_w; omega)) ?_
                   rw [ix4]
                   refine xr_aloadn hc rfl rfl ?_
                   refine xr_dup hc rfl rfl ?_
                   refine xr_getfi hc rfl (Or.inl rfl) (by first | assumption | rfl) ?_
                   repeat (first | rw [dz_up_ne (by omega)] | rw [dz_up_k (by omega)])
                   rw [n20]
                   refine xr_iconst hc rfl ?_
                   refine xr_iaddz hc rfl (by first | exact dz_wid (by first | omega | (unfold dz_w; omega)) (by first | omega | (unfold dz_w; omega)) | rfl) ?_
                   refine xr_putfi hc rfl rfl (by first | assumption | rfl) ?_
                   refine xr_iconst hc rfl ?_
                   refine xr_zreturn hc rfl rfl (Nat.zero_le _) (Nat.zero_le _) (by first | exact Or.inl rfl | exact Or.inr rfl | assumption) ?_
                   have hr : rwd c nn pl ps i p = (true, p + 4) := by
                     unfold rwd
                     rw [if_neg (by omega), if_neg (fun z => z f1), if_neg (fun z => z f2), if_neg (fun z => z f3), if_neg (fun z => z f4)]
                   refine hT (by rw [hr]) (by rw [hr]) _ (fun q2 k2 v1 v2 => ?_) ?_ ?_ ?_ ?_ ?_ ?_ ?_ f1 f3 f4 hk9 hi5
                   · rw [dz_up_o (by omega), dz_up_o (by omega), dz_up_o (by omega), dz_up_o (by omega), dz_up_o (by omega), dz_up_o (by omega)]
                     exact n1 _ _ (by omega)
                   · repeat (first | rw [dz_up_ne (by omega)] | rw [dz_up_k (by omega)])
                     exact n2
                   · rw [dz_up_eq]
                     omega
                   · repeat (first | rw [dz_up_ne (by omega)] | rw [dz_up_k (by omega)])
                     rw [dz_up_eq, eK]
                   · repeat (first | rw [dz_up_ne (by omega)] | rw [dz_up_k (by omega)])
                     rw [dz_up_eq, eP]
                   · repeat (first | rw [dz_up_ne (by omega)] | rw [dz_up_k (by omega)])
                     rw [dz_up_eq, eV]
                     first
                       | rw [if_pos (by omega)]
                       | rw [if_neg (by omega)]
                   · repeat (first | rw [dz_up_ne (by omega)] | rw [dz_up_k (by omega)])
                     rw [dz_up_eq, eW]
                     first
                       | rw [if_pos (by omega)]
                       | rw [if_neg (by omega)]
                   · repeat (first | rw [dz_up_ne (by omega)] | rw [dz_up_k (by omega)])
                     rw [dz_up_eq, eN]
                     first
                       | rw [if_pos (by omega)]
                       | rw [if_neg (by omega)])
              · first
                | (exfalso; omega)
                | (skip
                   refine xr_iconst hc rfl ?_
                   refine xr_goto hc rfl (t := 212) rfl ?_
                   refine xr_iastore hc rfl (by first | assumption | rfl) (by first | omega | (unfold dz_w; omega)) (by first | omega | (unfold dz_w; omega)) ?_
                   rw [ix4]
                   refine xr_aloadn hc rfl rfl ?_
                   refine xr_dup hc rfl rfl ?_
                   refine xr_getfi hc rfl (Or.inl rfl) (by first | assumption | rfl) ?_
                   repeat (first | rw [dz_up_ne (by omega)] | rw [dz_up_k (by omega)])
                   rw [n20]
                   refine xr_iconst hc rfl ?_
                   refine xr_iaddz hc rfl (by first | exact dz_wid (by first | omega | (unfold dz_w; omega)) (by first | omega | (unfold dz_w; omega)) | rfl) ?_
                   refine xr_putfi hc rfl rfl (by first | assumption | rfl) ?_
                   refine xr_iconst hc rfl ?_
                   refine xr_zreturn hc rfl rfl (Nat.zero_le _) (Nat.zero_le _) (by first | exact Or.inl rfl | exact Or.inr rfl | assumption) ?_
                   have hr : rwd c nn pl ps i p = (true, p + 4) := by
                     unfold rwd
                     rw [if_neg (by omega), if_neg (fun z => z f1), if_neg (fun z => z f2), if_neg (fun z => z f3), if_neg (fun z => z f4)]
                   refine hT (by rw [hr]) (by rw [hr]) _ (fun q2 k2 v1 v2 => ?_) ?_ ?_ ?_ ?_ ?_ ?_ ?_ f1 f3 f4 hk9 hi5
                   · rw [dz_up_o (by omega), dz_up_o (by omega), dz_up_o (by omega), dz_up_o (by omega), dz_up_o (by omega), dz_up_o (by omega)]
                     exact n1 _ _ (by omega)
                   · repeat (first | rw [dz_up_ne (by omega)] | rw [dz_up_k (by omega)])
                     exact n2
                   · rw [dz_up_eq]
                     omega
                   · repeat (first | rw [dz_up_ne (by omega)] | rw [dz_up_k (by omega)])
                     rw [dz_up_eq, eK]
                   · repeat (first | rw [dz_up_ne (by omega)] | rw [dz_up_k (by omega)])
                     rw [dz_up_eq, eP]
                   · repeat (first | rw [dz_up_ne (by omega)] | rw [dz_up_k (by omega)])
                     rw [dz_up_eq, eV]
                     first
                       | rw [if_pos (by omega)]
                       | rw [if_neg (by omega)]
                   · repeat (first | rw [dz_up_ne (by omega)] | rw [dz_up_k (by omega)])
                     rw [dz_up_eq, eW]
                     first
                       | rw [if_pos (by omega)]
                       | rw [if_neg (by omega)]
                   · repeat (first | rw [dz_up_ne (by omega)] | rw [dz_up_k (by omega)])
                     rw [dz_up_eq, eN]
                     first
                       | rw [if_pos (by omega)]
                       | rw [if_neg (by omega)]))
         · first
           | (exfalso; omega)
           | (skip
              refine xr_iconst hc rfl ?_
              refine xr_goto hc rfl (t := 194) rfl ?_
              refine xr_iastore hc rfl (by first | assumption | rfl) (by first | omega | (unfold dz_w; omega)) (by first | omega | (unfold dz_w; omega)) ?_
              rw [ix3]
              refine xr_aloadn hc rfl rfl ?_
              refine xr_getfr hc rfl rfl (by first | assumption | rfl) (by first | assumption | rfl) ?_
              refine xr_iloadn hc rfl rfl ?_
              refine xr_iconst hc rfl ?_
              refine xr_iaddz hc rfl (by first | exact dz_wid (by first | omega | (unfold dz_w; omega)) (by first | omega | (unfold dz_w; omega)) | rfl) ?_
              refine xr_iloadn hc rfl rfl ?_
              refine xr_if_ne hc rfl (t := 210) rfl (fun b203 => ?_) (fun b203 => ?_)
              · first
                | (exfalso; omega)
                | (skip
                   refine xr_iload hc rfl rfl ?_
                   refine xr_iastore hc rfl (by first | assumption | rfl) (by first | omega | (unfold dz_w; omega)) (by first | omega | (unfold dz_w; omega)) ?_
                   rw [ix4]
                   refine xr_aloadn hc rfl rfl ?_
                   refine xr_dup hc rfl rfl ?_
                   refine xr_getfi hc rfl (Or.inl rfl) (by first | assumption | rfl) ?_
                   repeat (first | rw [dz_up_ne (by omega)] | rw [dz_up_k (by omega)])
                   rw [n20]
                   refine xr_iconst hc rfl ?_
                   refine xr_iaddz hc rfl (by first | exact dz_wid (by first | omega | (unfold dz_w; omega)) (by first | omega | (unfold dz_w; omega)) | rfl) ?_
                   refine xr_putfi hc rfl rfl (by first | assumption | rfl) ?_
                   refine xr_iconst hc rfl ?_
                   refine xr_zreturn hc rfl rfl (Nat.zero_le _) (Nat.zero_le _) (by first | exact Or.inl rfl | exact Or.inr rfl | assumption) ?_
                   have hr : rwd c nn pl ps i p = (true, p + 4) := by
                     unfold rwd
                     rw [if_neg (by omega), if_neg (fun z => z f1), if_neg (fun z => z f2), if_neg (fun z => z f3), if_neg (fun z => z f4)]
                   refine hT (by rw [hr]) (by rw [hr]) _ (fun q2 k2 v1 v2 => ?_) ?_ ?_ ?_ ?_ ?_ ?_ ?_ f1 f3 f4 hk9 hi5
                   · rw [dz_up_o (by omega), dz_up_o (by omega), dz_up_o (by omega), dz_up_o (by omega), dz_up_o (by omega), dz_up_o (by omega)]
                     exact n1 _ _ (by omega)
                   · repeat (first | rw [dz_up_ne (by omega)] | rw [dz_up_k (by omega)])
                     exact n2
                   · rw [dz_up_eq]
                     omega
                   · repeat (first | rw [dz_up_ne (by omega)] | rw [dz_up_k (by omega)])
                     rw [dz_up_eq, eK]
                   · repeat (first | rw [dz_up_ne (by omega)] | rw [dz_up_k (by omega)])
                     rw [dz_up_eq, eP]
                   · repeat (first | rw [dz_up_ne (by omega)] | rw [dz_up_k (by omega)])
                     rw [dz_up_eq, eV]
                     first
                       | rw [if_pos (by omega)]
                       | rw [if_neg (by omega)]
                   · repeat (first | rw [dz_up_ne (by omega)] | rw [dz_up_k (by omega)])
                     rw [dz_up_eq, eW]
                     first
                       | rw [if_pos (by omega)]
                       | rw [if_neg (by omega)]
                   · repeat (first | rw [dz_up_ne (by omega)] | rw [dz_up_k (by omega)])
                     rw [dz_up_eq, eN]
                     first
                       | rw [if_pos (by omega)]
                       | rw [if_neg (by omega)])
              · first
                | (exfalso; omega)
                | (skip
                   refine xr_iconst hc rfl ?_
                   refine xr_goto hc rfl (t := 212) rfl ?_
                   refine xr_iastore hc rfl (by first | assumption | rfl) (by first | omega | (unfold dz_w; omega)) (by first | omega | (unfold dz_w; omega)) ?_
                   rw [ix4]
                   refine xr_aloadn hc rfl rfl ?_
                   refine xr_dup hc rfl rfl ?_
                   refine xr_getfi hc rfl (Or.inl rfl) (by first | assumption | rfl) ?_
                   repeat (first | rw [dz_up_ne (by omega)] | rw [dz_up_k (by omega)])
                   rw [n20]
                   refine xr_iconst hc rfl ?_
                   refine xr_iaddz hc rfl (by first | exact dz_wid (by first | omega | (unfold dz_w; omega)) (by first | omega | (unfold dz_w; omega)) | rfl) ?_
                   refine xr_putfi hc rfl rfl (by first | assumption | rfl) ?_
                   refine xr_iconst hc rfl ?_
                   refine xr_zreturn hc rfl rfl (Nat.zero_le _) (Nat.zero_le _) (by first | exact Or.inl rfl | exact Or.inr rfl | assumption) ?_
                   have hr : rwd c nn pl ps i p = (true, p + 4) := by
                     unfold rwd
                     rw [if_neg (by omega), if_neg (fun z => z f1), if_neg (fun z => z f2), if_neg (fun z => z f3), if_neg (fun z => z f4)]
                   refine hT (by rw [hr]) (by rw [hr]) _ (fun q2 k2 v1 v2 => ?_) ?_ ?_ ?_ ?_ ?_ ?_ ?_ f1 f3 f4 hk9 hi5
                   · rw [dz_up_o (by omega), dz_up_o (by omega), dz_up_o (by omega), dz_up_o (by omega), dz_up_o (by omega), dz_up_o (by omega)]
                     exact n1 _ _ (by omega)
                   · repeat (first | rw [dz_up_ne (by omega)] | rw [dz_up_k (by omega)])
                     exact n2
                   · rw [dz_up_eq]
                     omega
                   · repeat (first | rw [dz_up_ne (by omega)] | rw [dz_up_k (by omega)])
                     rw [dz_up_eq, eK]
                   · repeat (first | rw [dz_up_ne (by omega)] | rw [dz_up_k (by omega)])
                     rw [dz_up_eq, eP]
                   · repeat (first | rw [dz_up_ne (by omega)] | rw [dz_up_k (by omega)])
                     rw [dz_up_eq, eV]
                     first
                       | rw [if_pos (by omega)]
                       | rw [if_neg (by omega)]
                   · repeat (first | rw [dz_up_ne (by omega)] | rw [dz_up_k (by omega)])
                     rw [dz_up_eq, eW]
                     first
                       | rw [if_pos (by omega)]
                       | rw [if_neg (by omega)]
                   · repeat (first | rw [dz_up_ne (by omega)] | rw [dz_up_k (by omega)])
                     rw [dz_up_eq, eN]
                     first
                       | rw [if_pos (by omega)]
                       | rw [if_neg (by omega)])))
  refine xr_iconst hc rfl ?_
  refine xr_aloadn hc rfl rfl ?_
  refine xr_getfi hc rfl (Or.inl rfl) (by first | assumption | rfl) ?_
  rw [hw]
  refine xr_imulz hc rfl (by first | exact dz_wid (by first | omega | (unfold dz_w; omega)) (by first | omega | (unfold dz_w; omega)) | rfl) ?_
  refine xr_istore1 hc rfl rfl ?_
  refine xr_aloadn hc rfl rfl ?_
  refine xr_callv0 hc rfl (by first | assumption | rfl) rfl rfl rfl (Nat.le_of_ble_eq_true rfl) (Nat.zero_le _) (Nat.zero_le _) ?_
  refine D_here hl htx hn hc2 h1f h2 h3 hp hlt ?_
  refine xk_1 ?_
  refine xr_calls1 hc rfl (by decide) rfl rfl rfl (Nat.le_of_ble_eq_true rfl) (Nat.zero_le _) (Nat.zero_le _) ?_
  refine D_kindOfLetter ?_
  refine xk_1 ?_
  refine xr_istore2 hc rfl rfl ?_
  refine xr_iloadn hc rfl rfl ?_
  refine xr_bipush hc rfl ?_
  refine xr_icmp_eq hc rfl (t := 30) rfl (fun b18 => ?_) (fun b18 => ?_)
  · first
    | (exfalso; omega)
    | (skip
       refine xr_iconst hc rfl ?_
       refine xr_zreturn hc rfl rfl (Nat.zero_le _) (Nat.zero_le _) (by first | exact Or.inl rfl | exact Or.inr rfl | assumption) ?_
       have hr : rwd c nn pl ps i p = (false, p) := by
         unfold rwd
         rw [if_pos (by omega)]
       exact hF (by rw [hr]) M (fun _ _ _ _ => rfl) (by rw [hr]; exact h3) (by rw [hr]; exact hp))
  · first
    | (exfalso; omega)
    | (skip
       refine xr_aloadn hc rfl rfl ?_
       refine xr_getfi hc rfl (Or.inl rfl) (by first | assumption | rfl) ?_
       rw [hw]
       refine xr_bipush hc rfl ?_
       refine xr_icmp_ne hc rfl (t := 32) rfl (fun b27 => ?_) (fun b27 => ?_)
       · first
         | (exfalso; omega)
         | (skip
            refine xr_aloadn hc rfl rfl ?_
            refine xr_dup hc rfl rfl ?_
            refine xr_getfi hc rfl (Or.inl rfl) (by first | assumption | rfl) ?_
            rw [h3]
            refine xr_iconst hc rfl ?_
            refine xr_iaddz hc rfl (by first | exact dz_wid (by first | omega | (unfold dz_w; omega)) (by first | omega | (unfold dz_w; omega)) | rfl) ?_
            refine xr_putfi hc rfl rfl (by first | assumption | rfl) ?_
            refine xr_aloadn hc rfl rfl ?_
            refine xr_iconst hc rfl ?_
            refine xr_aloadn hc rfl rfl ?_
            refine xr_getfi hc rfl (Or.inl rfl) (by first | assumption | rfl) ?_
            rw [dz_up_k (by omega), hpl]
            refine xr_iconst hc rfl ?_
            refine xr_isubz hc rfl (by first | exact dz_wid (by first | omega | (unfold dz_w; omega)) (by first | omega | (unfold dz_w; omega)) | rfl) ?_
            refine xr_callv2 hc rfl (by first | assumption | rfl) rfl rfl rfl (Nat.le_of_ble_eq_true rfl) (Nat.zero_le _) (Nat.zero_le _) ?_
            refine D_figure (tx := tx) (nn := nn) (p := p + 1) (c := c) hl htx hn (fun k hk => by rw [dz_up_ne (by omega)]; exact hc2 k hk) (by rw [dz_up_k (by omega)]; exact h1f) (by rw [dz_up_k (by omega)]; exact h2) (by rw [dz_up_eq]; omega) (by omega) (by omega) (by omega) (fun f1 N y1 y2 => ?_) (fun f1 => ?_)
            · refine xk_1 ?_
              refine xr_istore3 hc rfl rfl ?_
              refine xr_iloadn hc rfl rfl ?_
              refine xr_bipush hc rfl ?_
              refine xr_icmp_ne hc rfl (t := 62) rfl (fun b57 => ?_) (fun b57 => ?_)
              · first
                | (exfalso; omega)
                | (skip
                   refine xr_aloadn hc rfl rfl ?_
                   refine xr_iloadn hc rfl rfl ?_
                   refine xr_callv1 hc rfl (by first | assumption | rfl) rfl rfl rfl (Nat.le_of_ble_eq_true rfl) (Nat.zero_le _) (Nat.zero_le _) ?_
                   refine D_isTaken (i := i) (P := fun k => c (ps k + 1) - 48) hl hi (by rw [y1 _ _ (by omega), dz_up_o (by omega)]; exact hw) (fun k hk => by rw [y1 _ _ (by omega), dz_up_o (by omega)]; exact hP k hk) (fun f2 => ?_) (fun f2 => ?_)
                   · refine xk_1 ?_
                     refine xr_iff hc rfl (by simp [dz_cmp]) ?_
                     refine xr_aloadn hc rfl rfl ?_
                     refine xr_dup hc rfl rfl ?_
                     refine xr_getfi hc rfl (Or.inl rfl) (by first | assumption | rfl) ?_
                     rw [y2]
                     refine xr_iconst hc rfl ?_
                     refine xr_isubz hc rfl (by first | exact dz_wid (by first | omega | (unfold dz_w; omega)) (by first | omega | (unfold dz_w; omega)) | rfl) ?_
                     refine xr_putfi hc rfl rfl (by first | assumption | rfl) ?_
                     refine xr_iconst hc rfl ?_
                     refine xr_zreturn hc rfl rfl (Nat.zero_le _) (Nat.zero_le _) (by first | exact Or.inl rfl | exact Or.inr rfl | assumption) ?_
                     have hr : rwd c nn pl ps i p = (false, p + 1) := by
                       unfold rwd
                       rw [if_neg (by omega), if_neg (fun z => z f1), if_pos f2]
                     exact hF (by rw [hr]) _ (fun q2 k2 v1 v2 => by rw [dz_up_o (by omega)]; rw [y1 _ _ (by omega), dz_up_o (by omega)]) (by rw [hr, dz_up_eq]; show ((p + 1 + 1 : Nat) : Int) - 1 = ((p + 1 : Nat) : Int); omega) (by rw [hr]; show p + 1 ≤ nn; omega)
                   · refine xk_1 ?_
                     refine xr_ift hc rfl (t := 82) rfl (by simp [dz_cmp]) ?_
                     refine xr_aloadn hc rfl rfl ?_
                     refine xr_iconst hc rfl ?_
                     refine xr_iloadn hc rfl rfl ?_
                     refine xr_if_ne hc rfl (t := 93) rfl (fun b85 => ?_) (fun b85 => ?_)
                     · first
                       | (exfalso; omega)
                       | (skip
                          refine xr_iconst hc rfl ?_
                          refine xr_callv2 hc rfl (by first | assumption | rfl) rfl rfl rfl (Nat.le_of_ble_eq_true rfl) (Nat.zero_le _) (Nat.zero_le _) ?_
                          refine D_figure (tx := tx) (nn := nn) (p := p + 2) (c := c) hl htx hn (fun k hk => by rw [y1 _ _ (by omega), dz_up_o (by omega)]; exact hc2 k hk) (by rw [y1 _ _ (by omega), dz_up_o (by omega)]; exact h1f) (by rw [y1 _ _ (by omega), dz_up_o (by omega)]; exact h2) y2 (by have z := f1.1; omega) (by omega) (by omega) (fun f3 N2 w1 w2 => ?_) (fun f3 => ?_)
                          all_goals first | rw [← ehi 9 (by omega)] at f3 | rw [← ehi 5 (by omega)] at f3
                          · refine xk_1 ?_
                            refine xr_istore4 hc rfl rfl ?_
                            refine xr_iload hc rfl rfl ?_
                            refine xr_bipush hc rfl ?_
                            refine xr_icmp_ne hc rfl (t := 111) rfl (fun b103 => ?_) (fun b103 => ?_)
                            · first
                              | (exfalso; omega)
                              | (skip
                                 refine xr_aloadn hc rfl rfl ?_
                                 refine xr_iconst hc rfl ?_
                                 refine xr_iloadn hc rfl rfl ?_
                                 refine xr_if_ne hc rfl (t := 122) rfl (fun b114 => ?_) (fun b114 => ?_)
                                 · first
                                   | (exfalso; omega)
                                   | (skip
                                      refine xr_iconst hc rfl ?_
                                      refine xr_callv2 hc rfl (by first | assumption | rfl) rfl rfl rfl (Nat.le_of_ble_eq_true rfl) (Nat.zero_le _) (Nat.zero_le _) ?_
                                      refine D_figure (tx := tx) (nn := nn) (p := p + 3) (c := c) hl htx hn (fun k hk => by rw [w1 _ _ (by omega), y1 _ _ (by omega), dz_up_o (by omega)]; exact hc2 k hk) (by rw [w1 _ _ (by omega), y1 _ _ (by omega), dz_up_o (by omega)]; exact h1f) (by rw [w1 _ _ (by omega), y1 _ _ (by omega), dz_up_o (by omega)]; exact h2) w2 (by have z := f3.1; omega) (by omega) (by omega) (fun f4 N3 x1 x2 => ?_) (fun f4 => ?_)
                                      all_goals first | rw [← ehi 9 (by omega)] at f4 | rw [← ehi 5 (by omega)] at f4
                                      · refine xk_1 ?_
                                        refine xr_istore5 hc rfl rfl ?_
                                        refine xr_iload hc rfl rfl ?_
                                        refine xr_bipush hc rfl ?_
                                        refine xr_icmp_ne hc rfl (t := 137) rfl (fun b132 => ?_) (fun b132 => ?_)
                                        · first
                                          | (exfalso; omega)
                                          | (skip
                                             exact t137 N3 (fun q2 k2 v => by rw [x1 _ _ v, w1 _ _ v, y1 _ _ v, dz_up_o v]) x2 f1 f2 f3 f4 (by omega) (by omega))
                                        · first
                                          | (exfalso; omega)
                                          | (skip
                                             refine xr_iconst hc rfl ?_
                                             refine xr_zreturn hc rfl rfl (Nat.zero_le _) (Nat.zero_le _) (by first | exact Or.inl rfl | exact Or.inr rfl | assumption) ?_
                                             first
                                               | (exfalso; omega)
                                               | (have hr : rwd c nn pl ps i p = (false, p + 3) := by
                                                    unfold rwd
                                                    rw [if_neg (by omega), if_neg (fun z => z f1), if_neg (fun z => z f2), if_neg (fun z => z f3), if_pos f4]
                                                  exact hF (by rw [hr]) N2 (fun q2 k2 v1 v2 => by rw [w1 _ _ (by omega), y1 _ _ (by omega), dz_up_o (by omega)]) (by rw [hr]; exact w2) (by rw [hr]; have z := f3.1; show p + 3 ≤ nn; omega))
                                               | (have hr : rwd c nn pl ps i p = (false, p + 2) := by
                                                    unfold rwd
                                                    rw [if_neg (by omega), if_neg (fun z => z f1), if_neg (fun z => z f2), if_pos f3]
                                                  exact hF (by rw [hr]) N (fun q2 k2 v1 v2 => by rw [y1 _ _ (by omega), dz_up_o (by omega)]) (by rw [hr]; exact y2) (by rw [hr]; have z := f1.1; show p + 2 ≤ nn; omega)))
                                      · refine xk_1 ?_
                                        refine xr_istore5 hc rfl rfl ?_
                                        refine xr_iload hc rfl rfl ?_
                                        refine xr_bipush hc rfl ?_
                                        refine xr_icmp_ne hc rfl (t := 137) rfl (fun b132 => ?_) (fun b132 => ?_)
                                        · first
                                          | (exfalso; omega)
                                          | (skip
                                             exact t137 N3 (fun q2 k2 v => by rw [x1 _ _ v, w1 _ _ v, y1 _ _ v, dz_up_o v]) x2 f1 f2 f3 f4 (by omega) (by omega))
                                        · first
                                          | (exfalso; omega)
                                          | (skip
                                             refine xr_iconst hc rfl ?_
                                             refine xr_zreturn hc rfl rfl (Nat.zero_le _) (Nat.zero_le _) (by first | exact Or.inl rfl | exact Or.inr rfl | assumption) ?_
                                             first
                                               | (exfalso; omega)
                                               | (have hr : rwd c nn pl ps i p = (false, p + 3) := by
                                                    unfold rwd
                                                    rw [if_neg (by omega), if_neg (fun z => z f1), if_neg (fun z => z f2), if_neg (fun z => z f3), if_pos f4]
                                                  exact hF (by rw [hr]) N2 (fun q2 k2 v1 v2 => by rw [w1 _ _ (by omega), y1 _ _ (by omega), dz_up_o (by omega)]) (by rw [hr]; exact w2) (by rw [hr]; have z := f3.1; show p + 3 ≤ nn; omega))
                                               | (have hr : rwd c nn pl ps i p = (false, p + 2) := by
                                                    unfold rwd
                                                    rw [if_neg (by omega), if_neg (fun z => z f1), if_neg (fun z => z f2), if_pos f3]
                                                  exact hF (by rw [hr]) N (fun q2 k2 v1 v2 => by rw [y1 _ _ (by omega), dz_up_o (by omega)]) (by rw [hr]; exact y2) (by rw [hr]; have z := f1.1; show p + 2 ≤ nn; omega))))
                                 · first
                                   | (exfalso; omega)
                                   | (skip
                                      refine xr_bipush hc rfl ?_
                                      refine xr_goto hc rfl (t := 123) rfl ?_
                                      refine xr_callv2 hc rfl (by first | assumption | rfl) rfl rfl rfl (Nat.le_of_ble_eq_true rfl) (Nat.zero_le _) (Nat.zero_le _) ?_
                                      refine D_figure (tx := tx) (nn := nn) (p := p + 3) (c := c) hl htx hn (fun k hk => by rw [w1 _ _ (by omega), y1 _ _ (by omega), dz_up_o (by omega)]; exact hc2 k hk) (by rw [w1 _ _ (by omega), y1 _ _ (by omega), dz_up_o (by omega)]; exact h1f) (by rw [w1 _ _ (by omega), y1 _ _ (by omega), dz_up_o (by omega)]; exact h2) w2 (by have z := f3.1; omega) (by omega) (by omega) (fun f4 N3 x1 x2 => ?_) (fun f4 => ?_)
                                      all_goals first | rw [← ehi 9 (by omega)] at f4 | rw [← ehi 5 (by omega)] at f4
                                      · refine xk_1 ?_
                                        refine xr_istore5 hc rfl rfl ?_
                                        refine xr_iload hc rfl rfl ?_
                                        refine xr_bipush hc rfl ?_
                                        refine xr_icmp_ne hc rfl (t := 137) rfl (fun b132 => ?_) (fun b132 => ?_)
                                        · first
                                          | (exfalso; omega)
                                          | (skip
                                             exact t137 N3 (fun q2 k2 v => by rw [x1 _ _ v, w1 _ _ v, y1 _ _ v, dz_up_o v]) x2 f1 f2 f3 f4 (by omega) (by omega))
                                        · first
                                          | (exfalso; omega)
                                          | (skip
                                             refine xr_iconst hc rfl ?_
                                             refine xr_zreturn hc rfl rfl (Nat.zero_le _) (Nat.zero_le _) (by first | exact Or.inl rfl | exact Or.inr rfl | assumption) ?_
                                             first
                                               | (exfalso; omega)
                                               | (have hr : rwd c nn pl ps i p = (false, p + 3) := by
                                                    unfold rwd
                                                    rw [if_neg (by omega), if_neg (fun z => z f1), if_neg (fun z => z f2), if_neg (fun z => z f3), if_pos f4]
                                                  exact hF (by rw [hr]) N2 (fun q2 k2 v1 v2 => by rw [w1 _ _ (by omega), y1 _ _ (by omega), dz_up_o (by omega)]) (by rw [hr]; exact w2) (by rw [hr]; have z := f3.1; show p + 3 ≤ nn; omega))
                                               | (have hr : rwd c nn pl ps i p = (false, p + 2) := by
                                                    unfold rwd
                                                    rw [if_neg (by omega), if_neg (fun z => z f1), if_neg (fun z => z f2), if_pos f3]
                                                  exact hF (by rw [hr]) N (fun q2 k2 v1 v2 => by rw [y1 _ _ (by omega), dz_up_o (by omega)]) (by rw [hr]; exact y2) (by rw [hr]; have z := f1.1; show p + 2 ≤ nn; omega)))
                                      · refine xk_1 ?_
                                        refine xr_istore5 hc rfl rfl ?_
                                        refine xr_iload hc rfl rfl ?_
                                        refine xr_bipush hc rfl ?_
                                        refine xr_icmp_ne hc rfl (t := 137) rfl (fun b132 => ?_) (fun b132 => ?_)
                                        · first
                                          | (exfalso; omega)
                                          | (skip
                                             exact t137 N3 (fun q2 k2 v => by rw [x1 _ _ v, w1 _ _ v, y1 _ _ v, dz_up_o v]) x2 f1 f2 f3 f4 (by omega) (by omega))
                                        · first
                                          | (exfalso; omega)
                                          | (skip
                                             refine xr_iconst hc rfl ?_
                                             refine xr_zreturn hc rfl rfl (Nat.zero_le _) (Nat.zero_le _) (by first | exact Or.inl rfl | exact Or.inr rfl | assumption) ?_
                                             first
                                               | (exfalso; omega)
                                               | (have hr : rwd c nn pl ps i p = (false, p + 3) := by
                                                    unfold rwd
                                                    rw [if_neg (by omega), if_neg (fun z => z f1), if_neg (fun z => z f2), if_neg (fun z => z f3), if_pos f4]
                                                  exact hF (by rw [hr]) N2 (fun q2 k2 v1 v2 => by rw [w1 _ _ (by omega), y1 _ _ (by omega), dz_up_o (by omega)]) (by rw [hr]; exact w2) (by rw [hr]; have z := f3.1; show p + 3 ≤ nn; omega))
                                               | (have hr : rwd c nn pl ps i p = (false, p + 2) := by
                                                    unfold rwd
                                                    rw [if_neg (by omega), if_neg (fun z => z f1), if_neg (fun z => z f2), if_pos f3]
                                                  exact hF (by rw [hr]) N (fun q2 k2 v1 v2 => by rw [y1 _ _ (by omega), dz_up_o (by omega)]) (by rw [hr]; exact y2) (by rw [hr]; have z := f1.1; show p + 2 ≤ nn; omega)))))
                            · first
                              | (exfalso; omega)
                              | (skip
                                 refine xr_bipush hc rfl ?_
                                 refine xr_goto hc rfl (t := 126) rfl ?_
                                 refine xr_istore5 hc rfl rfl ?_
                                 refine xr_iload hc rfl rfl ?_
                                 refine xr_bipush hc rfl ?_
                                 refine xr_icmp_ne hc rfl (t := 137) rfl (fun b132 => ?_) (fun b132 => ?_)
                                 · first
                                   | (exfalso; omega)
                                   | (skip
                                      exact t137 N3 (fun q2 k2 v => by rw [x1 _ _ v, w1 _ _ v, y1 _ _ v, dz_up_o v]) x2 f1 f2 f3 f4 (by omega) (by omega))
                                 · first
                                   | (exfalso; omega)
                                   | (skip
                                      refine xr_iconst hc rfl ?_
                                      refine xr_zreturn hc rfl rfl (Nat.zero_le _) (Nat.zero_le _) (by first | exact Or.inl rfl | exact Or.inr rfl | assumption) ?_
                                      first
                                        | (exfalso; omega)
                                        | (have hr : rwd c nn pl ps i p = (false, p + 3) := by
                                             unfold rwd
                                             rw [if_neg (by omega), if_neg (fun z => z f1), if_neg (fun z => z f2), if_neg (fun z => z f3), if_pos f4]
                                           exact hF (by rw [hr]) N2 (fun q2 k2 v1 v2 => by rw [w1 _ _ (by omega), y1 _ _ (by omega), dz_up_o (by omega)]) (by rw [hr]; exact w2) (by rw [hr]; have z := f3.1; show p + 3 ≤ nn; omega))
                                        | (have hr : rwd c nn pl ps i p = (false, p + 2) := by
                                             unfold rwd
                                             rw [if_neg (by omega), if_neg (fun z => z f1), if_neg (fun z => z f2), if_pos f3]
                                           exact hF (by rw [hr]) N (fun q2 k2 v1 v2 => by rw [y1 _ _ (by omega), dz_up_o (by omega)]) (by rw [hr]; exact y2) (by rw [hr]; have z := f1.1; show p + 2 ≤ nn; omega))))
                          · refine xk_1 ?_
                            refine xr_istore4 hc rfl rfl ?_
                            refine xr_iload hc rfl rfl ?_
                            refine xr_bipush hc rfl ?_
                            refine xr_icmp_ne hc rfl (t := 111) rfl (fun b103 => ?_) (fun b103 => ?_)
                            · first
                              | (exfalso; omega)
                              | (skip
                                 refine xr_aloadn hc rfl rfl ?_
                                 refine xr_iconst hc rfl ?_
                                 refine xr_iloadn hc rfl rfl ?_
                                 refine xr_if_ne hc rfl (t := 122) rfl (fun b114 => ?_) (fun b114 => ?_)
                                 · first
                                   | (exfalso; omega)
                                   | (skip
                                      refine xr_iconst hc rfl ?_
                                      refine xr_callv2 hc rfl (by first | assumption | rfl) rfl rfl rfl (Nat.le_of_ble_eq_true rfl) (Nat.zero_le _) (Nat.zero_le _) ?_
                                      refine D_figure (tx := tx) (nn := nn) (p := p + 3) (c := c) hl htx hn (fun k hk => by rw [w1 _ _ (by omega), y1 _ _ (by omega), dz_up_o (by omega)]; exact hc2 k hk) (by rw [w1 _ _ (by omega), y1 _ _ (by omega), dz_up_o (by omega)]; exact h1f) (by rw [w1 _ _ (by omega), y1 _ _ (by omega), dz_up_o (by omega)]; exact h2) w2 (by have z := f3.1; omega) (by omega) (by omega) (fun f4 N3 x1 x2 => ?_) (fun f4 => ?_)
                                      all_goals first | rw [← ehi 9 (by omega)] at f4 | rw [← ehi 5 (by omega)] at f4
                                      · refine xk_1 ?_
                                        refine xr_istore5 hc rfl rfl ?_
                                        refine xr_iload hc rfl rfl ?_
                                        refine xr_bipush hc rfl ?_
                                        refine xr_icmp_ne hc rfl (t := 137) rfl (fun b132 => ?_) (fun b132 => ?_)
                                        · first
                                          | (exfalso; omega)
                                          | (skip
                                             exact t137 N3 (fun q2 k2 v => by rw [x1 _ _ v, w1 _ _ v, y1 _ _ v, dz_up_o v]) x2 f1 f2 f3 f4 (by omega) (by omega))
                                        · first
                                          | (exfalso; omega)
                                          | (skip
                                             refine xr_iconst hc rfl ?_
                                             refine xr_zreturn hc rfl rfl (Nat.zero_le _) (Nat.zero_le _) (by first | exact Or.inl rfl | exact Or.inr rfl | assumption) ?_
                                             first
                                               | (exfalso; omega)
                                               | (have hr : rwd c nn pl ps i p = (false, p + 3) := by
                                                    unfold rwd
                                                    rw [if_neg (by omega), if_neg (fun z => z f1), if_neg (fun z => z f2), if_neg (fun z => z f3), if_pos f4]
                                                  exact hF (by rw [hr]) N2 (fun q2 k2 v1 v2 => by rw [w1 _ _ (by omega), y1 _ _ (by omega), dz_up_o (by omega)]) (by rw [hr]; exact w2) (by rw [hr]; have z := f3.1; show p + 3 ≤ nn; omega))
                                               | (have hr : rwd c nn pl ps i p = (false, p + 2) := by
                                                    unfold rwd
                                                    rw [if_neg (by omega), if_neg (fun z => z f1), if_neg (fun z => z f2), if_pos f3]
                                                  exact hF (by rw [hr]) N (fun q2 k2 v1 v2 => by rw [y1 _ _ (by omega), dz_up_o (by omega)]) (by rw [hr]; exact y2) (by rw [hr]; have z := f1.1; show p + 2 ≤ nn; omega)))
                                      · refine xk_1 ?_
                                        refine xr_istore5 hc rfl rfl ?_
                                        refine xr_iload hc rfl rfl ?_
                                        refine xr_bipush hc rfl ?_
                                        refine xr_icmp_ne hc rfl (t := 137) rfl (fun b132 => ?_) (fun b132 => ?_)
                                        · first
                                          | (exfalso; omega)
                                          | (skip
                                             exact t137 N3 (fun q2 k2 v => by rw [x1 _ _ v, w1 _ _ v, y1 _ _ v, dz_up_o v]) x2 f1 f2 f3 f4 (by omega) (by omega))
                                        · first
                                          | (exfalso; omega)
                                          | (skip
                                             refine xr_iconst hc rfl ?_
                                             refine xr_zreturn hc rfl rfl (Nat.zero_le _) (Nat.zero_le _) (by first | exact Or.inl rfl | exact Or.inr rfl | assumption) ?_
                                             first
                                               | (exfalso; omega)
                                               | (have hr : rwd c nn pl ps i p = (false, p + 3) := by
                                                    unfold rwd
                                                    rw [if_neg (by omega), if_neg (fun z => z f1), if_neg (fun z => z f2), if_neg (fun z => z f3), if_pos f4]
                                                  exact hF (by rw [hr]) N2 (fun q2 k2 v1 v2 => by rw [w1 _ _ (by omega), y1 _ _ (by omega), dz_up_o (by omega)]) (by rw [hr]; exact w2) (by rw [hr]; have z := f3.1; show p + 3 ≤ nn; omega))
                                               | (have hr : rwd c nn pl ps i p = (false, p + 2) := by
                                                    unfold rwd
                                                    rw [if_neg (by omega), if_neg (fun z => z f1), if_neg (fun z => z f2), if_pos f3]
                                                  exact hF (by rw [hr]) N (fun q2 k2 v1 v2 => by rw [y1 _ _ (by omega), dz_up_o (by omega)]) (by rw [hr]; exact y2) (by rw [hr]; have z := f1.1; show p + 2 ≤ nn; omega))))
                                 · first
                                   | (exfalso; omega)
                                   | (skip
                                      refine xr_bipush hc rfl ?_
                                      refine xr_goto hc rfl (t := 123) rfl ?_
                                      refine xr_callv2 hc rfl (by first | assumption | rfl) rfl rfl rfl (Nat.le_of_ble_eq_true rfl) (Nat.zero_le _) (Nat.zero_le _) ?_
                                      refine D_figure (tx := tx) (nn := nn) (p := p + 3) (c := c) hl htx hn (fun k hk => by rw [w1 _ _ (by omega), y1 _ _ (by omega), dz_up_o (by omega)]; exact hc2 k hk) (by rw [w1 _ _ (by omega), y1 _ _ (by omega), dz_up_o (by omega)]; exact h1f) (by rw [w1 _ _ (by omega), y1 _ _ (by omega), dz_up_o (by omega)]; exact h2) w2 (by have z := f3.1; omega) (by omega) (by omega) (fun f4 N3 x1 x2 => ?_) (fun f4 => ?_)
                                      all_goals first | rw [← ehi 9 (by omega)] at f4 | rw [← ehi 5 (by omega)] at f4
                                      · refine xk_1 ?_
                                        refine xr_istore5 hc rfl rfl ?_
                                        refine xr_iload hc rfl rfl ?_
                                        refine xr_bipush hc rfl ?_
                                        refine xr_icmp_ne hc rfl (t := 137) rfl (fun b132 => ?_) (fun b132 => ?_)
                                        · first
                                          | (exfalso; omega)
                                          | (skip
                                             exact t137 N3 (fun q2 k2 v => by rw [x1 _ _ v, w1 _ _ v, y1 _ _ v, dz_up_o v]) x2 f1 f2 f3 f4 (by omega) (by omega))
                                        · first
                                          | (exfalso; omega)
                                          | (skip
                                             refine xr_iconst hc rfl ?_
                                             refine xr_zreturn hc rfl rfl (Nat.zero_le _) (Nat.zero_le _) (by first | exact Or.inl rfl | exact Or.inr rfl | assumption) ?_
                                             first
                                               | (exfalso; omega)
                                               | (have hr : rwd c nn pl ps i p = (false, p + 3) := by
                                                    unfold rwd
                                                    rw [if_neg (by omega), if_neg (fun z => z f1), if_neg (fun z => z f2), if_neg (fun z => z f3), if_pos f4]
                                                  exact hF (by rw [hr]) N2 (fun q2 k2 v1 v2 => by rw [w1 _ _ (by omega), y1 _ _ (by omega), dz_up_o (by omega)]) (by rw [hr]; exact w2) (by rw [hr]; have z := f3.1; show p + 3 ≤ nn; omega))
                                               | (have hr : rwd c nn pl ps i p = (false, p + 2) := by
                                                    unfold rwd
                                                    rw [if_neg (by omega), if_neg (fun z => z f1), if_neg (fun z => z f2), if_pos f3]
                                                  exact hF (by rw [hr]) N (fun q2 k2 v1 v2 => by rw [y1 _ _ (by omega), dz_up_o (by omega)]) (by rw [hr]; exact y2) (by rw [hr]; have z := f1.1; show p + 2 ≤ nn; omega)))
                                      · refine xk_1 ?_
                                        refine xr_istore5 hc rfl rfl ?_
                                        refine xr_iload hc rfl rfl ?_
                                        refine xr_bipush hc rfl ?_
                                        refine xr_icmp_ne hc rfl (t := 137) rfl (fun b132 => ?_) (fun b132 => ?_)
                                        · first
                                          | (exfalso; omega)
                                          | (skip
                                             exact t137 N3 (fun q2 k2 v => by rw [x1 _ _ v, w1 _ _ v, y1 _ _ v, dz_up_o v]) x2 f1 f2 f3 f4 (by omega) (by omega))
                                        · first
                                          | (exfalso; omega)
                                          | (skip
                                             refine xr_iconst hc rfl ?_
                                             refine xr_zreturn hc rfl rfl (Nat.zero_le _) (Nat.zero_le _) (by first | exact Or.inl rfl | exact Or.inr rfl | assumption) ?_
                                             first
                                               | (exfalso; omega)
                                               | (have hr : rwd c nn pl ps i p = (false, p + 3) := by
                                                    unfold rwd
                                                    rw [if_neg (by omega), if_neg (fun z => z f1), if_neg (fun z => z f2), if_neg (fun z => z f3), if_pos f4]
                                                  exact hF (by rw [hr]) N2 (fun q2 k2 v1 v2 => by rw [w1 _ _ (by omega), y1 _ _ (by omega), dz_up_o (by omega)]) (by rw [hr]; exact w2) (by rw [hr]; have z := f3.1; show p + 3 ≤ nn; omega))
                                               | (have hr : rwd c nn pl ps i p = (false, p + 2) := by
                                                    unfold rwd
                                                    rw [if_neg (by omega), if_neg (fun z => z f1), if_neg (fun z => z f2), if_pos f3]
                                                  exact hF (by rw [hr]) N (fun q2 k2 v1 v2 => by rw [y1 _ _ (by omega), dz_up_o (by omega)]) (by rw [hr]; exact y2) (by rw [hr]; have z := f1.1; show p + 2 ≤ nn; omega)))))
                            · first
                              | (exfalso; omega)
                              | (skip
                                 refine xr_bipush hc rfl ?_
                                 refine xr_goto hc rfl (t := 126) rfl ?_
                                 refine xr_istore5 hc rfl rfl ?_
                                 refine xr_iload hc rfl rfl ?_
                                 refine xr_bipush hc rfl ?_
                                 refine xr_icmp_ne hc rfl (t := 137) rfl (fun b132 => ?_) (fun b132 => ?_)
                                 · first
                                   | (exfalso; omega)
                                   | (skip
                                      exact t137 N3 (fun q2 k2 v => by rw [x1 _ _ v, w1 _ _ v, y1 _ _ v, dz_up_o v]) x2 f1 f2 f3 f4 (by omega) (by omega))
                                 · first
                                   | (exfalso; omega)
                                   | (skip
                                      refine xr_iconst hc rfl ?_
                                      refine xr_zreturn hc rfl rfl (Nat.zero_le _) (Nat.zero_le _) (by first | exact Or.inl rfl | exact Or.inr rfl | assumption) ?_
                                      first
                                        | (exfalso; omega)
                                        | (have hr : rwd c nn pl ps i p = (false, p + 3) := by
                                             unfold rwd
                                             rw [if_neg (by omega), if_neg (fun z => z f1), if_neg (fun z => z f2), if_neg (fun z => z f3), if_pos f4]
                                           exact hF (by rw [hr]) N2 (fun q2 k2 v1 v2 => by rw [w1 _ _ (by omega), y1 _ _ (by omega), dz_up_o (by omega)]) (by rw [hr]; exact w2) (by rw [hr]; have z := f3.1; show p + 3 ≤ nn; omega))
                                        | (have hr : rwd c nn pl ps i p = (false, p + 2) := by
                                             unfold rwd
                                             rw [if_neg (by omega), if_neg (fun z => z f1), if_neg (fun z => z f2), if_pos f3]
                                           exact hF (by rw [hr]) N (fun q2 k2 v1 v2 => by rw [y1 _ _ (by omega), dz_up_o (by omega)]) (by rw [hr]; exact y2) (by rw [hr]; have z := f1.1; show p + 2 ≤ nn; omega)))))
                     · first
                       | (exfalso; omega)
                       | (skip
                          refine xr_bipush hc rfl ?_
                          refine xr_goto hc rfl (t := 94) rfl ?_
                          refine xr_callv2 hc rfl (by first | assumption | rfl) rfl rfl rfl (Nat.le_of_ble_eq_true rfl) (Nat.zero_le _) (Nat.zero_le _) ?_
                          refine D_figure (tx := tx) (nn := nn) (p := p + 2) (c := c) hl htx hn (fun k hk => by rw [y1 _ _ (by omega), dz_up_o (by omega)]; exact hc2 k hk) (by rw [y1 _ _ (by omega), dz_up_o (by omega)]; exact h1f) (by rw [y1 _ _ (by omega), dz_up_o (by omega)]; exact h2) y2 (by have z := f1.1; omega) (by omega) (by omega) (fun f3 N2 w1 w2 => ?_) (fun f3 => ?_)
                          all_goals first | rw [← ehi 9 (by omega)] at f3 | rw [← ehi 5 (by omega)] at f3
                          · refine xk_1 ?_
                            refine xr_istore4 hc rfl rfl ?_
                            refine xr_iload hc rfl rfl ?_
                            refine xr_bipush hc rfl ?_
                            refine xr_icmp_ne hc rfl (t := 111) rfl (fun b103 => ?_) (fun b103 => ?_)
                            · first
                              | (exfalso; omega)
                              | (skip
                                 refine xr_aloadn hc rfl rfl ?_
                                 refine xr_iconst hc rfl ?_
                                 refine xr_iloadn hc rfl rfl ?_
                                 refine xr_if_ne hc rfl (t := 122) rfl (fun b114 => ?_) (fun b114 => ?_)
                                 · first
                                   | (exfalso; omega)
                                   | (skip
                                      refine xr_iconst hc rfl ?_
                                      refine xr_callv2 hc rfl (by first | assumption | rfl) rfl rfl rfl (Nat.le_of_ble_eq_true rfl) (Nat.zero_le _) (Nat.zero_le _) ?_
                                      refine D_figure (tx := tx) (nn := nn) (p := p + 3) (c := c) hl htx hn (fun k hk => by rw [w1 _ _ (by omega), y1 _ _ (by omega), dz_up_o (by omega)]; exact hc2 k hk) (by rw [w1 _ _ (by omega), y1 _ _ (by omega), dz_up_o (by omega)]; exact h1f) (by rw [w1 _ _ (by omega), y1 _ _ (by omega), dz_up_o (by omega)]; exact h2) w2 (by have z := f3.1; omega) (by omega) (by omega) (fun f4 N3 x1 x2 => ?_) (fun f4 => ?_)
                                      all_goals first | rw [← ehi 9 (by omega)] at f4 | rw [← ehi 5 (by omega)] at f4
                                      · refine xk_1 ?_
                                        refine xr_istore5 hc rfl rfl ?_
                                        refine xr_iload hc rfl rfl ?_
                                        refine xr_bipush hc rfl ?_
                                        refine xr_icmp_ne hc rfl (t := 137) rfl (fun b132 => ?_) (fun b132 => ?_)
                                        · first
                                          | (exfalso; omega)
                                          | (skip
                                             exact t137 N3 (fun q2 k2 v => by rw [x1 _ _ v, w1 _ _ v, y1 _ _ v, dz_up_o v]) x2 f1 f2 f3 f4 (by omega) (by omega))
                                        · first
                                          | (exfalso; omega)
                                          | (skip
                                             refine xr_iconst hc rfl ?_
                                             refine xr_zreturn hc rfl rfl (Nat.zero_le _) (Nat.zero_le _) (by first | exact Or.inl rfl | exact Or.inr rfl | assumption) ?_
                                             first
                                               | (exfalso; omega)
                                               | (have hr : rwd c nn pl ps i p = (false, p + 3) := by
                                                    unfold rwd
                                                    rw [if_neg (by omega), if_neg (fun z => z f1), if_neg (fun z => z f2), if_neg (fun z => z f3), if_pos f4]
                                                  exact hF (by rw [hr]) N2 (fun q2 k2 v1 v2 => by rw [w1 _ _ (by omega), y1 _ _ (by omega), dz_up_o (by omega)]) (by rw [hr]; exact w2) (by rw [hr]; have z := f3.1; show p + 3 ≤ nn; omega))
                                               | (have hr : rwd c nn pl ps i p = (false, p + 2) := by
                                                    unfold rwd
                                                    rw [if_neg (by omega), if_neg (fun z => z f1), if_neg (fun z => z f2), if_pos f3]
                                                  exact hF (by rw [hr]) N (fun q2 k2 v1 v2 => by rw [y1 _ _ (by omega), dz_up_o (by omega)]) (by rw [hr]; exact y2) (by rw [hr]; have z := f1.1; show p + 2 ≤ nn; omega)))
                                      · refine xk_1 ?_
                                        refine xr_istore5 hc rfl rfl ?_
                                        refine xr_iload hc rfl rfl ?_
                                        refine xr_bipush hc rfl ?_
                                        refine xr_icmp_ne hc rfl (t := 137) rfl (fun b132 => ?_) (fun b132 => ?_)
                                        · first
                                          | (exfalso; omega)
                                          | (skip
                                             exact t137 N3 (fun q2 k2 v => by rw [x1 _ _ v, w1 _ _ v, y1 _ _ v, dz_up_o v]) x2 f1 f2 f3 f4 (by omega) (by omega))
                                        · first
                                          | (exfalso; omega)
                                          | (skip
                                             refine xr_iconst hc rfl ?_
                                             refine xr_zreturn hc rfl rfl (Nat.zero_le _) (Nat.zero_le _) (by first | exact Or.inl rfl | exact Or.inr rfl | assumption) ?_
                                             first
                                               | (exfalso; omega)
                                               | (have hr : rwd c nn pl ps i p = (false, p + 3) := by
                                                    unfold rwd
                                                    rw [if_neg (by omega), if_neg (fun z => z f1), if_neg (fun z => z f2), if_neg (fun z => z f3), if_pos f4]
                                                  exact hF (by rw [hr]) N2 (fun q2 k2 v1 v2 => by rw [w1 _ _ (by omega), y1 _ _ (by omega), dz_up_o (by omega)]) (by rw [hr]; exact w2) (by rw [hr]; have z := f3.1; show p + 3 ≤ nn; omega))
                                               | (have hr : rwd c nn pl ps i p = (false, p + 2) := by
                                                    unfold rwd
                                                    rw [if_neg (by omega), if_neg (fun z => z f1), if_neg (fun z => z f2), if_pos f3]
                                                  exact hF (by rw [hr]) N (fun q2 k2 v1 v2 => by rw [y1 _ _ (by omega), dz_up_o (by omega)]) (by rw [hr]; exact y2) (by rw [hr]; have z := f1.1; show p + 2 ≤ nn; omega))))
                                 · first
                                   | (exfalso; omega)
                                   | (skip
                                      refine xr_bipush hc rfl ?_
                                      refine xr_goto hc rfl (t := 123) rfl ?_
                                      refine xr_callv2 hc rfl (by first | assumption | rfl) rfl rfl rfl (Nat.le_of_ble_eq_true rfl) (Nat.zero_le _) (Nat.zero_le _) ?_
                                      refine D_figure (tx := tx) (nn := nn) (p := p + 3) (c := c) hl htx hn (fun k hk => by rw [w1 _ _ (by omega), y1 _ _ (by omega), dz_up_o (by omega)]; exact hc2 k hk) (by rw [w1 _ _ (by omega), y1 _ _ (by omega), dz_up_o (by omega)]; exact h1f) (by rw [w1 _ _ (by omega), y1 _ _ (by omega), dz_up_o (by omega)]; exact h2) w2 (by have z := f3.1; omega) (by omega) (by omega) (fun f4 N3 x1 x2 => ?_) (fun f4 => ?_)
                                      all_goals first | rw [← ehi 9 (by omega)] at f4 | rw [← ehi 5 (by omega)] at f4
                                      · refine xk_1 ?_
                                        refine xr_istore5 hc rfl rfl ?_
                                        refine xr_iload hc rfl rfl ?_
                                        refine xr_bipush hc rfl ?_
                                        refine xr_icmp_ne hc rfl (t := 137) rfl (fun b132 => ?_) (fun b132 => ?_)
                                        · first
                                          | (exfalso; omega)
                                          | (skip
                                             exact t137 N3 (fun q2 k2 v => by rw [x1 _ _ v, w1 _ _ v, y1 _ _ v, dz_up_o v]) x2 f1 f2 f3 f4 (by omega) (by omega))
                                        · first
                                          | (exfalso; omega)
                                          | (skip
                                             refine xr_iconst hc rfl ?_
                                             refine xr_zreturn hc rfl rfl (Nat.zero_le _) (Nat.zero_le _) (by first | exact Or.inl rfl | exact Or.inr rfl | assumption) ?_
                                             first
                                               | (exfalso; omega)
                                               | (have hr : rwd c nn pl ps i p = (false, p + 3) := by
                                                    unfold rwd
                                                    rw [if_neg (by omega), if_neg (fun z => z f1), if_neg (fun z => z f2), if_neg (fun z => z f3), if_pos f4]
                                                  exact hF (by rw [hr]) N2 (fun q2 k2 v1 v2 => by rw [w1 _ _ (by omega), y1 _ _ (by omega), dz_up_o (by omega)]) (by rw [hr]; exact w2) (by rw [hr]; have z := f3.1; show p + 3 ≤ nn; omega))
                                               | (have hr : rwd c nn pl ps i p = (false, p + 2) := by
                                                    unfold rwd
                                                    rw [if_neg (by omega), if_neg (fun z => z f1), if_neg (fun z => z f2), if_pos f3]
                                                  exact hF (by rw [hr]) N (fun q2 k2 v1 v2 => by rw [y1 _ _ (by omega), dz_up_o (by omega)]) (by rw [hr]; exact y2) (by rw [hr]; have z := f1.1; show p + 2 ≤ nn; omega)))
                                      · refine xk_1 ?_
                                        refine xr_istore5 hc rfl rfl ?_
                                        refine xr_iload hc rfl rfl ?_
                                        refine xr_bipush hc rfl ?_
                                        refine xr_icmp_ne hc rfl (t := 137) rfl (fun b132 => ?_) (fun b132 => ?_)
                                        · first
                                          | (exfalso; omega)
                                          | (skip
                                             exact t137 N3 (fun q2 k2 v => by rw [x1 _ _ v, w1 _ _ v, y1 _ _ v, dz_up_o v]) x2 f1 f2 f3 f4 (by omega) (by omega))
                                        · first
                                          | (exfalso; omega)
                                          | (skip
                                             refine xr_iconst hc rfl ?_
                                             refine xr_zreturn hc rfl rfl (Nat.zero_le _) (Nat.zero_le _) (by first | exact Or.inl rfl | exact Or.inr rfl | assumption) ?_
                                             first
                                               | (exfalso; omega)
                                               | (have hr : rwd c nn pl ps i p = (false, p + 3) := by
                                                    unfold rwd
                                                    rw [if_neg (by omega), if_neg (fun z => z f1), if_neg (fun z => z f2), if_neg (fun z => z f3), if_pos f4]
                                                  exact hF (by rw [hr]) N2 (fun q2 k2 v1 v2 => by rw [w1 _ _ (by omega), y1 _ _ (by omega), dz_up_o (by omega)]) (by rw [hr]; exact w2) (by rw [hr]; have z := f3.1; show p + 3 ≤ nn; omega))
                                               | (have hr : rwd c nn pl ps i p = (false, p + 2) := by
                                                    unfold rwd
                                                    rw [if_neg (by omega), if_neg (fun z => z f1), if_neg (fun z => z f2), if_pos f3]
                                                  exact hF (by rw [hr]) N (fun q2 k2 v1 v2 => by rw [y1 _ _ (by omega), dz_up_o (by omega)]) (by rw [hr]; exact y2) (by rw [hr]; have z := f1.1; show p + 2 ≤ nn; omega)))))
                            · first
                              | (exfalso; omega)
                              | (skip
                                 refine xr_bipush hc rfl ?_
                                 refine xr_goto hc rfl (t := 126) rfl ?_
                                 refine xr_istore5 hc rfl rfl ?_
                                 refine xr_iload hc rfl rfl ?_
                                 refine xr_bipush hc rfl ?_
                                 refine xr_icmp_ne hc rfl (t := 137) rfl (fun b132 => ?_) (fun b132 => ?_)
                                 · first
                                   | (exfalso; omega)
                                   | (skip
                                      exact t137 N3 (fun q2 k2 v => by rw [x1 _ _ v, w1 _ _ v, y1 _ _ v, dz_up_o v]) x2 f1 f2 f3 f4 (by omega) (by omega))
                                 · first
                                   | (exfalso; omega)
                                   | (skip
                                      refine xr_iconst hc rfl ?_
                                      refine xr_zreturn hc rfl rfl (Nat.zero_le _) (Nat.zero_le _) (by first | exact Or.inl rfl | exact Or.inr rfl | assumption) ?_
                                      first
                                        | (exfalso; omega)
                                        | (have hr : rwd c nn pl ps i p = (false, p + 3) := by
                                             unfold rwd
                                             rw [if_neg (by omega), if_neg (fun z => z f1), if_neg (fun z => z f2), if_neg (fun z => z f3), if_pos f4]
                                           exact hF (by rw [hr]) N2 (fun q2 k2 v1 v2 => by rw [w1 _ _ (by omega), y1 _ _ (by omega), dz_up_o (by omega)]) (by rw [hr]; exact w2) (by rw [hr]; have z := f3.1; show p + 3 ≤ nn; omega))
                                        | (have hr : rwd c nn pl ps i p = (false, p + 2) := by
                                             unfold rwd
                                             rw [if_neg (by omega), if_neg (fun z => z f1), if_neg (fun z => z f2), if_pos f3]
                                           exact hF (by rw [hr]) N (fun q2 k2 v1 v2 => by rw [y1 _ _ (by omega), dz_up_o (by omega)]) (by rw [hr]; exact y2) (by rw [hr]; have z := f1.1; show p + 2 ≤ nn; omega))))
                          · refine xk_1 ?_
                            refine xr_istore4 hc rfl rfl ?_
                            refine xr_iload hc rfl rfl ?_
                            refine xr_bipush hc rfl ?_
                            refine xr_icmp_ne hc rfl (t := 111) rfl (fun b103 => ?_) (fun b103 => ?_)
                            · first
                              | (exfalso; omega)
                              | (skip
                                 refine xr_aloadn hc rfl rfl ?_
                                 refine xr_iconst hc rfl ?_
                                 refine xr_iloadn hc rfl rfl ?_
                                 refine xr_if_ne hc rfl (t := 122) rfl (fun b114 => ?_) (fun b114 => ?_)
                                 · first
                                   | (exfalso; omega)
                                   | (skip
                                      refine xr_iconst hc rfl ?_
                                      refine xr_callv2 hc rfl (by first | assumption | rfl) rfl rfl rfl (Nat.le_of_ble_eq_true rfl) (Nat.zero_le _) (Nat.zero_le _) ?_
                                      refine D_figure (tx := tx) (nn := nn) (p := p + 3) (c := c) hl htx hn (fun k hk => by rw [w1 _ _ (by omega), y1 _ _ (by omega), dz_up_o (by omega)]; exact hc2 k hk) (by rw [w1 _ _ (by omega), y1 _ _ (by omega), dz_up_o (by omega)]; exact h1f) (by rw [w1 _ _ (by omega), y1 _ _ (by omega), dz_up_o (by omega)]; exact h2) w2 (by have z := f3.1; omega) (by omega) (by omega) (fun f4 N3 x1 x2 => ?_) (fun f4 => ?_)
                                      all_goals first | rw [← ehi 9 (by omega)] at f4 | rw [← ehi 5 (by omega)] at f4
                                      · refine xk_1 ?_
                                        refine xr_istore5 hc rfl rfl ?_
                                        refine xr_iload hc rfl rfl ?_
                                        refine xr_bipush hc rfl ?_
                                        refine xr_icmp_ne hc rfl (t := 137) rfl (fun b132 => ?_) (fun b132 => ?_)
                                        · first
                                          | (exfalso; omega)
                                          | (skip
                                             exact t137 N3 (fun q2 k2 v => by rw [x1 _ _ v, w1 _ _ v, y1 _ _ v, dz_up_o v]) x2 f1 f2 f3 f4 (by omega) (by omega))
                                        · first
                                          | (exfalso; omega)
                                          | (skip
                                             refine xr_iconst hc rfl ?_
                                             refine xr_zreturn hc rfl rfl (Nat.zero_le _) (Nat.zero_le _) (by first | exact Or.inl rfl | exact Or.inr rfl | assumption) ?_
                                             first
                                               | (exfalso; omega)
                                               | (have hr : rwd c nn pl ps i p = (false, p + 3) := by
                                                    unfold rwd
                                                    rw [if_neg (by omega), if_neg (fun z => z f1), if_neg (fun z => z f2), if_neg (fun z => z f3), if_pos f4]
                                                  exact hF (by rw [hr]) N2 (fun q2 k2 v1 v2 => by rw [w1 _ _ (by omega), y1 _ _ (by omega), dz_up_o (by omega)]) (by rw [hr]; exact w2) (by rw [hr]; have z := f3.1; show p + 3 ≤ nn; omega))
                                               | (have hr : rwd c nn pl ps i p = (false, p + 2) := by
                                                    unfold rwd
                                                    rw [if_neg (by omega), if_neg (fun z => z f1), if_neg (fun z => z f2), if_pos f3]
                                                  exact hF (by rw [hr]) N (fun q2 k2 v1 v2 => by rw [y1 _ _ (by omega), dz_up_o (by omega)]) (by rw [hr]; exact y2) (by rw [hr]; have z := f1.1; show p + 2 ≤ nn; omega)))
                                      · refine xk_1 ?_
                                        refine xr_istore5 hc rfl rfl ?_
                                        refine xr_iload hc rfl rfl ?_
                                        refine xr_bipush hc rfl ?_
                                        refine xr_icmp_ne hc rfl (t := 137) rfl (fun b132 => ?_) (fun b132 => ?_)
                                        · first
                                          | (exfalso; omega)
                                          | (skip
                                             exact t137 N3 (fun q2 k2 v => by rw [x1 _ _ v, w1 _ _ v, y1 _ _ v, dz_up_o v]) x2 f1 f2 f3 f4 (by omega) (by omega))
                                        · first
                                          | (exfalso; omega)
                                          | (skip
                                             refine xr_iconst hc rfl ?_
                                             refine xr_zreturn hc rfl rfl (Nat.zero_le _) (Nat.zero_le _) (by first | exact Or.inl rfl | exact Or.inr rfl | assumption) ?_
                                             first
                                               | (exfalso; omega)
                                               | (have hr : rwd c nn pl ps i p = (false, p + 3) := by
                                                    unfold rwd
                                                    rw [if_neg (by omega), if_neg (fun z => z f1), if_neg (fun z => z f2), if_neg (fun z => z f3), if_pos f4]
                                                  exact hF (by rw [hr]) N2 (fun q2 k2 v1 v2 => by rw [w1 _ _ (by omega), y1 _ _ (by omega), dz_up_o (by omega)]) (by rw [hr]; exact w2) (by rw [hr]; have z := f3.1; show p + 3 ≤ nn; omega))
                                               | (have hr : rwd c nn pl ps i p = (false, p + 2) := by
                                                    unfold rwd
                                                    rw [if_neg (by omega), if_neg (fun z => z f1), if_neg (fun z => z f2), if_pos f3]
                                                  exact hF (by rw [hr]) N (fun q2 k2 v1 v2 => by rw [y1 _ _ (by omega), dz_up_o (by omega)]) (by rw [hr]; exact y2) (by rw [hr]; have z := f1.1; show p + 2 ≤ nn; omega))))
                                 · first
                                   | (exfalso; omega)
                                   | (skip
                                      refine xr_bipush hc rfl ?_
                                      refine xr_goto hc rfl (t := 123) rfl ?_
                                      refine xr_callv2 hc rfl (by first | assumption | rfl) rfl rfl rfl (Nat.le_of_ble_eq_true rfl) (Nat.zero_le _) (Nat.zero_le _) ?_
                                      refine D_figure (tx := tx) (nn := nn) (p := p + 3) (c := c) hl htx hn (fun k hk => by rw [w1 _ _ (by omega), y1 _ _ (by omega), dz_up_o (by omega)]; exact hc2 k hk) (by rw [w1 _ _ (by omega), y1 _ _ (by omega), dz_up_o (by omega)]; exact h1f) (by rw [w1 _ _ (by omega), y1 _ _ (by omega), dz_up_o (by omega)]; exact h2) w2 (by have z := f3.1; omega) (by omega) (by omega) (fun f4 N3 x1 x2 => ?_) (fun f4 => ?_)
                                      all_goals first | rw [← ehi 9 (by omega)] at f4 | rw [← ehi 5 (by omega)] at f4
                                      · refine xk_1 ?_
                                        refine xr_istore5 hc rfl rfl ?_
                                        refine xr_iload hc rfl rfl ?_
                                        refine xr_bipush hc rfl ?_
                                        refine xr_icmp_ne hc rfl (t := 137) rfl (fun b132 => ?_) (fun b132 => ?_)
                                        · first
                                          | (exfalso; omega)
                                          | (skip
                                             exact t137 N3 (fun q2 k2 v => by rw [x1 _ _ v, w1 _ _ v, y1 _ _ v, dz_up_o v]) x2 f1 f2 f3 f4 (by omega) (by omega))
                                        · first
                                          | (exfalso; omega)
                                          | (skip
                                             refine xr_iconst hc rfl ?_
                                             refine xr_zreturn hc rfl rfl (Nat.zero_le _) (Nat.zero_le _) (by first | exact Or.inl rfl | exact Or.inr rfl | assumption) ?_
                                             first
                                               | (exfalso; omega)
                                               | (have hr : rwd c nn pl ps i p = (false, p + 3) := by
                                                    unfold rwd
                                                    rw [if_neg (by omega), if_neg (fun z => z f1), if_neg (fun z => z f2), if_neg (fun z => z f3), if_pos f4]
                                                  exact hF (by rw [hr]) N2 (fun q2 k2 v1 v2 => by rw [w1 _ _ (by omega), y1 _ _ (by omega), dz_up_o (by omega)]) (by rw [hr]; exact w2) (by rw [hr]; have z := f3.1; show p + 3 ≤ nn; omega))
                                               | (have hr : rwd c nn pl ps i p = (false, p + 2) := by
                                                    unfold rwd
                                                    rw [if_neg (by omega), if_neg (fun z => z f1), if_neg (fun z => z f2), if_pos f3]
                                                  exact hF (by rw [hr]) N (fun q2 k2 v1 v2 => by rw [y1 _ _ (by omega), dz_up_o (by omega)]) (by rw [hr]; exact y2) (by rw [hr]; have z := f1.1; show p + 2 ≤ nn; omega)))
                                      · refine xk_1 ?_
                                        refine xr_istore5 hc rfl rfl ?_
                                        refine xr_iload hc rfl rfl ?_
                                        refine xr_bipush hc rfl ?_
                                        refine xr_icmp_ne hc rfl (t := 137) rfl (fun b132 => ?_) (fun b132 => ?_)
                                        · first
                                          | (exfalso; omega)
                                          | (skip
                                             exact t137 N3 (fun q2 k2 v => by rw [x1 _ _ v, w1 _ _ v, y1 _ _ v, dz_up_o v]) x2 f1 f2 f3 f4 (by omega) (by omega))
                                        · first
                                          | (exfalso; omega)
                                          | (skip
                                             refine xr_iconst hc rfl ?_
                                             refine xr_zreturn hc rfl rfl (Nat.zero_le _) (Nat.zero_le _) (by first | exact Or.inl rfl | exact Or.inr rfl | assumption) ?_
                                             first
                                               | (exfalso; omega)
                                               | (have hr : rwd c nn pl ps i p = (false, p + 3) := by
                                                    unfold rwd
                                                    rw [if_neg (by omega), if_neg (fun z => z f1), if_neg (fun z => z f2), if_neg (fun z => z f3), if_pos f4]
                                                  exact hF (by rw [hr]) N2 (fun q2 k2 v1 v2 => by rw [w1 _ _ (by omega), y1 _ _ (by omega), dz_up_o (by omega)]) (by rw [hr]; exact w2) (by rw [hr]; have z := f3.1; show p + 3 ≤ nn; omega))
                                               | (have hr : rwd c nn pl ps i p = (false, p + 2) := by
                                                    unfold rwd
                                                    rw [if_neg (by omega), if_neg (fun z => z f1), if_neg (fun z => z f2), if_pos f3]
                                                  exact hF (by rw [hr]) N (fun q2 k2 v1 v2 => by rw [y1 _ _ (by omega), dz_up_o (by omega)]) (by rw [hr]; exact y2) (by rw [hr]; have z := f1.1; show p + 2 ≤ nn; omega)))))
                            · first
                              | (exfalso; omega)
                              | (skip
                                 refine xr_bipush hc rfl ?_
                                 refine xr_goto hc rfl (t := 126) rfl ?_
                                 refine xr_istore5 hc rfl rfl ?_
                                 refine xr_iload hc rfl rfl ?_
                                 refine xr_bipush hc rfl ?_
                                 refine xr_icmp_ne hc rfl (t := 137) rfl (fun b132 => ?_) (fun b132 => ?_)
                                 · first
                                   | (exfalso; omega)
                                   | (skip
                                      exact t137 N3 (fun q2 k2 v => by rw [x1 _ _ v, w1 _ _ v, y1 _ _ v, dz_up_o v]) x2 f1 f2 f3 f4 (by omega) (by omega))
                                 · first
                                   | (exfalso; omega)
                                   | (skip
                                      refine xr_iconst hc rfl ?_
                                      refine xr_zreturn hc rfl rfl (Nat.zero_le _) (Nat.zero_le _) (by first | exact Or.inl rfl | exact Or.inr rfl | assumption) ?_
                                      first
                                        | (exfalso; omega)
                                        | (have hr : rwd c nn pl ps i p = (false, p + 3) := by
                                             unfold rwd
                                             rw [if_neg (by omega), if_neg (fun z => z f1), if_neg (fun z => z f2), if_neg (fun z => z f3), if_pos f4]
                                           exact hF (by rw [hr]) N2 (fun q2 k2 v1 v2 => by rw [w1 _ _ (by omega), y1 _ _ (by omega), dz_up_o (by omega)]) (by rw [hr]; exact w2) (by rw [hr]; have z := f3.1; show p + 3 ≤ nn; omega))
                                        | (have hr : rwd c nn pl ps i p = (false, p + 2) := by
                                             unfold rwd
                                             rw [if_neg (by omega), if_neg (fun z => z f1), if_neg (fun z => z f2), if_pos f3]
                                           exact hF (by rw [hr]) N (fun q2 k2 v1 v2 => by rw [y1 _ _ (by omega), dz_up_o (by omega)]) (by rw [hr]; exact y2) (by rw [hr]; have z := f1.1; show p + 2 ≤ nn; omega))))))
              · first
                | (exfalso; omega)
                | (skip
                   refine xr_iconst hc rfl ?_
                   refine xr_zreturn hc rfl rfl (Nat.zero_le _) (Nat.zero_le _) (by first | exact Or.inl rfl | exact Or.inr rfl | assumption) ?_
                   first
                     | (exfalso; omega)
                     | (have hr : rwd c nn pl ps i p = (false, p + 1) := by
                          unfold rwd
                          rw [if_neg (by omega), if_pos f1]
                        exact hF (by rw [hr]) _ (fun q2 k2 v1 v2 => by rw [dz_up_o (by omega)]) (by rw [hr, dz_up_eq]; show (p : Int) + 1 = ((p + 1 : Nat) : Int); omega) (by rw [hr]; show p + 1 ≤ nn; omega)))
            · refine xk_1 ?_
              refine xr_istore3 hc rfl rfl ?_
              refine xr_iloadn hc rfl rfl ?_
              refine xr_bipush hc rfl ?_
              refine xr_icmp_ne hc rfl (t := 62) rfl (fun b57 => ?_) (fun b57 => ?_)
              · first
                | (exfalso; omega)
                | (skip
                   refine xr_aloadn hc rfl rfl ?_
                   refine xr_iloadn hc rfl rfl ?_
                   refine xr_callv1 hc rfl (by first | assumption | rfl) rfl rfl rfl (Nat.le_of_ble_eq_true rfl) (Nat.zero_le _) (Nat.zero_le _) ?_
                   refine D_isTaken (i := i) (P := fun k => c (ps k + 1) - 48) hl hi (by rw [y1 _ _ (by omega), dz_up_o (by omega)]; exact hw) (fun k hk => by rw [y1 _ _ (by omega), dz_up_o (by omega)]; exact hP k hk) (fun f2 => ?_) (fun f2 => ?_)
                   · refine xk_1 ?_
                     refine xr_iff hc rfl (by simp [dz_cmp]) ?_
                     refine xr_aloadn hc rfl rfl ?_
                     refine xr_dup hc rfl rfl ?_
                     refine xr_getfi hc rfl (Or.inl rfl) (by first | assumption | rfl) ?_
                     rw [y2]
                     refine xr_iconst hc rfl ?_
                     refine xr_isubz hc rfl (by first | exact dz_wid (by first | omega | (unfold dz_w; omega)) (by first | omega | (unfold dz_w; omega)) | rfl) ?_
                     refine xr_putfi hc rfl rfl (by first | assumption | rfl) ?_
                     refine xr_iconst hc rfl ?_
                     refine xr_zreturn hc rfl rfl (Nat.zero_le _) (Nat.zero_le _) (by first | exact Or.inl rfl | exact Or.inr rfl | assumption) ?_
                     have hr : rwd c nn pl ps i p = (false, p + 1) := by
                       unfold rwd
                       rw [if_neg (by omega), if_neg (fun z => z f1), if_pos f2]
                     exact hF (by rw [hr]) _ (fun q2 k2 v1 v2 => by rw [dz_up_o (by omega)]; rw [y1 _ _ (by omega), dz_up_o (by omega)]) (by rw [hr, dz_up_eq]; show ((p + 1 + 1 : Nat) : Int) - 1 = ((p + 1 : Nat) : Int); omega) (by rw [hr]; show p + 1 ≤ nn; omega)
                   · refine xk_1 ?_
                     refine xr_ift hc rfl (t := 82) rfl (by simp [dz_cmp]) ?_
                     refine xr_aloadn hc rfl rfl ?_
                     refine xr_iconst hc rfl ?_
                     refine xr_iloadn hc rfl rfl ?_
                     refine xr_if_ne hc rfl (t := 93) rfl (fun b85 => ?_) (fun b85 => ?_)
                     · first
                       | (exfalso; omega)
                       | (skip
                          refine xr_iconst hc rfl ?_
                          refine xr_callv2 hc rfl (by first | assumption | rfl) rfl rfl rfl (Nat.le_of_ble_eq_true rfl) (Nat.zero_le _) (Nat.zero_le _) ?_
                          refine D_figure (tx := tx) (nn := nn) (p := p + 2) (c := c) hl htx hn (fun k hk => by rw [y1 _ _ (by omega), dz_up_o (by omega)]; exact hc2 k hk) (by rw [y1 _ _ (by omega), dz_up_o (by omega)]; exact h1f) (by rw [y1 _ _ (by omega), dz_up_o (by omega)]; exact h2) y2 (by have z := f1.1; omega) (by omega) (by omega) (fun f3 N2 w1 w2 => ?_) (fun f3 => ?_)
                          all_goals first | rw [← ehi 9 (by omega)] at f3 | rw [← ehi 5 (by omega)] at f3
                          · refine xk_1 ?_
                            refine xr_istore4 hc rfl rfl ?_
                            refine xr_iload hc rfl rfl ?_
                            refine xr_bipush hc rfl ?_
                            refine xr_icmp_ne hc rfl (t := 111) rfl (fun b103 => ?_) (fun b103 => ?_)
                            · first
                              | (exfalso; omega)
                              | (skip
                                 refine xr_aloadn hc rfl rfl ?_
                                 refine xr_iconst hc rfl ?_
                                 refine xr_iloadn hc rfl rfl ?_
                                 refine xr_if_ne hc rfl (t := 122) rfl (fun b114 => ?_) (fun b114 => ?_)
                                 · first
                                   | (exfalso; omega)
                                   | (skip
                                      refine xr_iconst hc rfl ?_
                                      refine xr_callv2 hc rfl (by first | assumption | rfl) rfl rfl rfl (Nat.le_of_ble_eq_true rfl) (Nat.zero_le _) (Nat.zero_le _) ?_
                                      refine D_figure (tx := tx) (nn := nn) (p := p + 3) (c := c) hl htx hn (fun k hk => by rw [w1 _ _ (by omega), y1 _ _ (by omega), dz_up_o (by omega)]; exact hc2 k hk) (by rw [w1 _ _ (by omega), y1 _ _ (by omega), dz_up_o (by omega)]; exact h1f) (by rw [w1 _ _ (by omega), y1 _ _ (by omega), dz_up_o (by omega)]; exact h2) w2 (by have z := f3.1; omega) (by omega) (by omega) (fun f4 N3 x1 x2 => ?_) (fun f4 => ?_)
                                      all_goals first | rw [← ehi 9 (by omega)] at f4 | rw [← ehi 5 (by omega)] at f4
                                      · refine xk_1 ?_
                                        refine xr_istore5 hc rfl rfl ?_
                                        refine xr_iload hc rfl rfl ?_
                                        refine xr_bipush hc rfl ?_
                                        refine xr_icmp_ne hc rfl (t := 137) rfl (fun b132 => ?_) (fun b132 => ?_)
                                        · first
                                          | (exfalso; omega)
                                          | (skip
                                             exact t137 N3 (fun q2 k2 v => by rw [x1 _ _ v, w1 _ _ v, y1 _ _ v, dz_up_o v]) x2 f1 f2 f3 f4 (by omega) (by omega))
                                        · first
                                          | (exfalso; omega)
                                          | (skip
                                             refine xr_iconst hc rfl ?_
                                             refine xr_zreturn hc rfl rfl (Nat.zero_le _) (Nat.zero_le _) (by first | exact Or.inl rfl | exact Or.inr rfl | assumption) ?_
                                             first
                                               | (exfalso; omega)
                                               | (have hr : rwd c nn pl ps i p = (false, p + 3) := by
                                                    unfold rwd
                                                    rw [if_neg (by omega), if_neg (fun z => z f1), if_neg (fun z => z f2), if_neg (fun z => z f3), if_pos f4]
                                                  exact hF (by rw [hr]) N2 (fun q2 k2 v1 v2 => by rw [w1 _ _ (by omega), y1 _ _ (by omega), dz_up_o (by omega)]) (by rw [hr]; exact w2) (by rw [hr]; have z := f3.1; show p + 3 ≤ nn; omega))
                                               | (have hr : rwd c nn pl ps i p = (false, p + 2) := by
                                                    unfold rwd
                                                    rw [if_neg (by omega), if_neg (fun z => z f1), if_neg (fun z => z f2), if_pos f3]
                                                  exact hF (by rw [hr]) N (fun q2 k2 v1 v2 => by rw [y1 _ _ (by omega), dz_up_o (by omega)]) (by rw [hr]; exact y2) (by rw [hr]; have z := f1.1; show p + 2 ≤ nn; omega)))
                                      · refine xk_1 ?_
                                        refine xr_istore5 hc rfl rfl ?_
                                        refine xr_iload hc rfl rfl ?_
                                        refine xr_bipush hc rfl ?_
                                        refine xr_icmp_ne hc rfl (t := 137) rfl (fun b132 => ?_) (fun b132 => ?_)
                                        · first
                                          | (exfalso; omega)
                                          | (skip
                                             exact t137 N3 (fun q2 k2 v => by rw [x1 _ _ v, w1 _ _ v, y1 _ _ v, dz_up_o v]) x2 f1 f2 f3 f4 (by omega) (by omega))
                                        · first
                                          | (exfalso; omega)
                                          | (skip
                                             refine xr_iconst hc rfl ?_
                                             refine xr_zreturn hc rfl rfl (Nat.zero_le _) (Nat.zero_le _) (by first | exact Or.inl rfl | exact Or.inr rfl | assumption) ?_
                                             first
                                               | (exfalso; omega)
                                               | (have hr : rwd c nn pl ps i p = (false, p + 3) := by
                                                    unfold rwd
                                                    rw [if_neg (by omega), if_neg (fun z => z f1), if_neg (fun z => z f2), if_neg (fun z => z f3), if_pos f4]
                                                  exact hF (by rw [hr]) N2 (fun q2 k2 v1 v2 => by rw [w1 _ _ (by omega), y1 _ _ (by omega), dz_up_o (by omega)]) (by rw [hr]; exact w2) (by rw [hr]; have z := f3.1; show p + 3 ≤ nn; omega))
                                               | (have hr : rwd c nn pl ps i p = (false, p + 2) := by
                                                    unfold rwd
                                                    rw [if_neg (by omega), if_neg (fun z => z f1), if_neg (fun z => z f2), if_pos f3]
                                                  exact hF (by rw [hr]) N (fun q2 k2 v1 v2 => by rw [y1 _ _ (by omega), dz_up_o (by omega)]) (by rw [hr]; exact y2) (by rw [hr]; have z := f1.1; show p + 2 ≤ nn; omega))))
                                 · first
                                   | (exfalso; omega)
                                   | (skip
                                      refine xr_bipush hc rfl ?_
                                      refine xr_goto hc rfl (t := 123) rfl ?_
                                      refine xr_callv2 hc rfl (by first | assumption | rfl) rfl rfl rfl (Nat.le_of_ble_eq_true rfl) (Nat.zero_le _) (Nat.zero_le _) ?_
                                      refine D_figure (tx := tx) (nn := nn) (p := p + 3) (c := c) hl htx hn (fun k hk => by rw [w1 _ _ (by omega), y1 _ _ (by omega), dz_up_o (by omega)]; exact hc2 k hk) (by rw [w1 _ _ (by omega), y1 _ _ (by omega), dz_up_o (by omega)]; exact h1f) (by rw [w1 _ _ (by omega), y1 _ _ (by omega), dz_up_o (by omega)]; exact h2) w2 (by have z := f3.1; omega) (by omega) (by omega) (fun f4 N3 x1 x2 => ?_) (fun f4 => ?_)
                                      all_goals first | rw [← ehi 9 (by omega)] at f4 | rw [← ehi 5 (by omega)] at f4
                                      · refine xk_1 ?_
                                        refine xr_istore5 hc rfl rfl ?_
                                        refine xr_iload hc rfl rfl ?_
                                        refine xr_bipush hc rfl ?_
                                        refine xr_icmp_ne hc rfl (t := 137) rfl (fun b132 => ?_) (fun b132 => ?_)
                                        · first
                                          | (exfalso; omega)
                                          | (skip
                                             exact t137 N3 (fun q2 k2 v => by rw [x1 _ _ v, w1 _ _ v, y1 _ _ v, dz_up_o v]) x2 f1 f2 f3 f4 (by omega) (by omega))
                                        · first
                                          | (exfalso; omega)
                                          | (skip
                                             refine xr_iconst hc rfl ?_
                                             refine xr_zreturn hc rfl rfl (Nat.zero_le _) (Nat.zero_le _) (by first | exact Or.inl rfl | exact Or.inr rfl | assumption) ?_
                                             first
                                               | (exfalso; omega)
                                               | (have hr : rwd c nn pl ps i p = (false, p + 3) := by
                                                    unfold rwd
                                                    rw [if_neg (by omega), if_neg (fun z => z f1), if_neg (fun z => z f2), if_neg (fun z => z f3), if_pos f4]
                                                  exact hF (by rw [hr]) N2 (fun q2 k2 v1 v2 => by rw [w1 _ _ (by omega), y1 _ _ (by omega), dz_up_o (by omega)]) (by rw [hr]; exact w2) (by rw [hr]; have z := f3.1; show p + 3 ≤ nn; omega))
                                               | (have hr : rwd c nn pl ps i p = (false, p + 2) := by
                                                    unfold rwd
                                                    rw [if_neg (by omega), if_neg (fun z => z f1), if_neg (fun z => z f2), if_pos f3]
                                                  exact hF (by rw [hr]) N (fun q2 k2 v1 v2 => by rw [y1 _ _ (by omega), dz_up_o (by omega)]) (by rw [hr]; exact y2) (by rw [hr]; have z := f1.1; show p + 2 ≤ nn; omega)))
                                      · refine xk_1 ?_
                                        refine xr_istore5 hc rfl rfl ?_
                                        refine xr_iload hc rfl rfl ?_
                                        refine xr_bipush hc rfl ?_
                                        refine xr_icmp_ne hc rfl (t := 137) rfl (fun b132 => ?_) (fun b132 => ?_)
                                        · first
                                          | (exfalso; omega)
                                          | (skip
                                             exact t137 N3 (fun q2 k2 v => by rw [x1 _ _ v, w1 _ _ v, y1 _ _ v, dz_up_o v]) x2 f1 f2 f3 f4 (by omega) (by omega))
                                        · first
                                          | (exfalso; omega)
                                          | (skip
                                             refine xr_iconst hc rfl ?_
                                             refine xr_zreturn hc rfl rfl (Nat.zero_le _) (Nat.zero_le _) (by first | exact Or.inl rfl | exact Or.inr rfl | assumption) ?_
                                             first
                                               | (exfalso; omega)
                                               | (have hr : rwd c nn pl ps i p = (false, p + 3) := by
                                                    unfold rwd
                                                    rw [if_neg (by omega), if_neg (fun z => z f1), if_neg (fun z => z f2), if_neg (fun z => z f3), if_pos f4]
                                                  exact hF (by rw [hr]) N2 (fun q2 k2 v1 v2 => by rw [w1 _ _ (by omega), y1 _ _ (by omega), dz_up_o (by omega)]) (by rw [hr]; exact w2) (by rw [hr]; have z := f3.1; show p + 3 ≤ nn; omega))
                                               | (have hr : rwd c nn pl ps i p = (false, p + 2) := by
                                                    unfold rwd
                                                    rw [if_neg (by omega), if_neg (fun z => z f1), if_neg (fun z => z f2), if_pos f3]
                                                  exact hF (by rw [hr]) N (fun q2 k2 v1 v2 => by rw [y1 _ _ (by omega), dz_up_o (by omega)]) (by rw [hr]; exact y2) (by rw [hr]; have z := f1.1; show p + 2 ≤ nn; omega)))))
                            · first
                              | (exfalso; omega)
                              | (skip
                                 refine xr_bipush hc rfl ?_
                                 refine xr_goto hc rfl (t := 126) rfl ?_
                                 refine xr_istore5 hc rfl rfl ?_
                                 refine xr_iload hc rfl rfl ?_
                                 refine xr_bipush hc rfl ?_
                                 refine xr_icmp_ne hc rfl (t := 137) rfl (fun b132 => ?_) (fun b132 => ?_)
                                 · first
                                   | (exfalso; omega)
                                   | (skip
                                      exact t137 N3 (fun q2 k2 v => by rw [x1 _ _ v, w1 _ _ v, y1 _ _ v, dz_up_o v]) x2 f1 f2 f3 f4 (by omega) (by omega))
                                 · first
                                   | (exfalso; omega)
                                   | (skip
                                      refine xr_iconst hc rfl ?_
                                      refine xr_zreturn hc rfl rfl (Nat.zero_le _) (Nat.zero_le _) (by first | exact Or.inl rfl | exact Or.inr rfl | assumption) ?_
                                      first
                                        | (exfalso; omega)
                                        | (have hr : rwd c nn pl ps i p = (false, p + 3) := by
                                             unfold rwd
                                             rw [if_neg (by omega), if_neg (fun z => z f1), if_neg (fun z => z f2), if_neg (fun z => z f3), if_pos f4]
                                           exact hF (by rw [hr]) N2 (fun q2 k2 v1 v2 => by rw [w1 _ _ (by omega), y1 _ _ (by omega), dz_up_o (by omega)]) (by rw [hr]; exact w2) (by rw [hr]; have z := f3.1; show p + 3 ≤ nn; omega))
                                        | (have hr : rwd c nn pl ps i p = (false, p + 2) := by
                                             unfold rwd
                                             rw [if_neg (by omega), if_neg (fun z => z f1), if_neg (fun z => z f2), if_pos f3]
                                           exact hF (by rw [hr]) N (fun q2 k2 v1 v2 => by rw [y1 _ _ (by omega), dz_up_o (by omega)]) (by rw [hr]; exact y2) (by rw [hr]; have z := f1.1; show p + 2 ≤ nn; omega))))
                          · refine xk_1 ?_
                            refine xr_istore4 hc rfl rfl ?_
                            refine xr_iload hc rfl rfl ?_
                            refine xr_bipush hc rfl ?_
                            refine xr_icmp_ne hc rfl (t := 111) rfl (fun b103 => ?_) (fun b103 => ?_)
                            · first
                              | (exfalso; omega)
                              | (skip
                                 refine xr_aloadn hc rfl rfl ?_
                                 refine xr_iconst hc rfl ?_
                                 refine xr_iloadn hc rfl rfl ?_
                                 refine xr_if_ne hc rfl (t := 122) rfl (fun b114 => ?_) (fun b114 => ?_)
                                 · first
                                   | (exfalso; omega)
                                   | (skip
                                      refine xr_iconst hc rfl ?_
                                      refine xr_callv2 hc rfl (by first | assumption | rfl) rfl rfl rfl (Nat.le_of_ble_eq_true rfl) (Nat.zero_le _) (Nat.zero_le _) ?_
                                      refine D_figure (tx := tx) (nn := nn) (p := p + 3) (c := c) hl htx hn (fun k hk => by rw [w1 _ _ (by omega), y1 _ _ (by omega), dz_up_o (by omega)]; exact hc2 k hk) (by rw [w1 _ _ (by omega), y1 _ _ (by omega), dz_up_o (by omega)]; exact h1f) (by rw [w1 _ _ (by omega), y1 _ _ (by omega), dz_up_o (by omega)]; exact h2) w2 (by have z := f3.1; omega) (by omega) (by omega) (fun f4 N3 x1 x2 => ?_) (fun f4 => ?_)
                                      all_goals first | rw [← ehi 9 (by omega)] at f4 | rw [← ehi 5 (by omega)] at f4
                                      · refine xk_1 ?_
                                        refine xr_istore5 hc rfl rfl ?_
                                        refine xr_iload hc rfl rfl ?_
                                        refine xr_bipush hc rfl ?_
                                        refine xr_icmp_ne hc rfl (t := 137) rfl (fun b132 => ?_) (fun b132 => ?_)
                                        · first
                                          | (exfalso; omega)
                                          | (skip
                                             exact t137 N3 (fun q2 k2 v => by rw [x1 _ _ v, w1 _ _ v, y1 _ _ v, dz_up_o v]) x2 f1 f2 f3 f4 (by omega) (by omega))
                                        · first
                                          | (exfalso; omega)
                                          | (skip
                                             refine xr_iconst hc rfl ?_
                                             refine xr_zreturn hc rfl rfl (Nat.zero_le _) (Nat.zero_le _) (by first | exact Or.inl rfl | exact Or.inr rfl | assumption) ?_
                                             first
                                               | (exfalso; omega)
                                               | (have hr : rwd c nn pl ps i p = (false, p + 3) := by
                                                    unfold rwd
                                                    rw [if_neg (by omega), if_neg (fun z => z f1), if_neg (fun z => z f2), if_neg (fun z => z f3), if_pos f4]
                                                  exact hF (by rw [hr]) N2 (fun q2 k2 v1 v2 => by rw [w1 _ _ (by omega), y1 _ _ (by omega), dz_up_o (by omega)]) (by rw [hr]; exact w2) (by rw [hr]; have z := f3.1; show p + 3 ≤ nn; omega))
                                               | (have hr : rwd c nn pl ps i p = (false, p + 2) := by
                                                    unfold rwd
                                                    rw [if_neg (by omega), if_neg (fun z => z f1), if_neg (fun z => z f2), if_pos f3]
                                                  exact hF (by rw [hr]) N (fun q2 k2 v1 v2 => by rw [y1 _ _ (by omega), dz_up_o (by omega)]) (by rw [hr]; exact y2) (by rw [hr]; have z := f1.1; show p + 2 ≤ nn; omega)))
                                      · refine xk_1 ?_
                                        refine xr_istore5 hc rfl rfl ?_
                                        refine xr_iload hc rfl rfl ?_
                                        refine xr_bipush hc rfl ?_
                                        refine xr_icmp_ne hc rfl (t := 137) rfl (fun b132 => ?_) (fun b132 => ?_)
                                        · first
                                          | (exfalso; omega)
                                          | (skip
                                             exact t137 N3 (fun q2 k2 v => by rw [x1 _ _ v, w1 _ _ v, y1 _ _ v, dz_up_o v]) x2 f1 f2 f3 f4 (by omega) (by omega))
                                        · first
                                          | (exfalso; omega)
                                          | (skip
                                             refine xr_iconst hc rfl ?_
                                             refine xr_zreturn hc rfl rfl (Nat.zero_le _) (Nat.zero_le _) (by first | exact Or.inl rfl | exact Or.inr rfl | assumption) ?_
                                             first
                                               | (exfalso; omega)
                                               | (have hr : rwd c nn pl ps i p = (false, p + 3) := by
                                                    unfold rwd
                                                    rw [if_neg (by omega), if_neg (fun z => z f1), if_neg (fun z => z f2), if_neg (fun z => z f3), if_pos f4]
                                                  exact hF (by rw [hr]) N2 (fun q2 k2 v1 v2 => by rw [w1 _ _ (by omega), y1 _ _ (by omega), dz_up_o (by omega)]) (by rw [hr]; exact w2) (by rw [hr]; have z := f3.1; show p + 3 ≤ nn; omega))
                                               | (have hr : rwd c nn pl ps i p = (false, p + 2) := by
                                                    unfold rwd
                                                    rw [if_neg (by omega), if_neg (fun z => z f1), if_neg (fun z => z f2), if_pos f3]
                                                  exact hF (by rw [hr]) N (fun q2 k2 v1 v2 => by rw [y1 _ _ (by omega), dz_up_o (by omega)]) (by rw [hr]; exact y2) (by rw [hr]; have z := f1.1; show p + 2 ≤ nn; omega))))
                                 · first
                                   | (exfalso; omega)
                                   | (skip
                                      refine xr_bipush hc rfl ?_
                                      refine xr_goto hc rfl (t := 123) rfl ?_
                                      refine xr_callv2 hc rfl (by first | assumption | rfl) rfl rfl rfl (Nat.le_of_ble_eq_true rfl) (Nat.zero_le _) (Nat.zero_le _) ?_
                                      refine D_figure (tx := tx) (nn := nn) (p := p + 3) (c := c) hl htx hn (fun k hk => by rw [w1 _ _ (by omega), y1 _ _ (by omega), dz_up_o (by omega)]; exact hc2 k hk) (by rw [w1 _ _ (by omega), y1 _ _ (by omega), dz_up_o (by omega)]; exact h1f) (by rw [w1 _ _ (by omega), y1 _ _ (by omega), dz_up_o (by omega)]; exact h2) w2 (by have z := f3.1; omega) (by omega) (by omega) (fun f4 N3 x1 x2 => ?_) (fun f4 => ?_)
                                      all_goals first | rw [← ehi 9 (by omega)] at f4 | rw [← ehi 5 (by omega)] at f4
                                      · refine xk_1 ?_
                                        refine xr_istore5 hc rfl rfl ?_
                                        refine xr_iload hc rfl rfl ?_
                                        refine xr_bipush hc rfl ?_
                                        refine xr_icmp_ne hc rfl (t := 137) rfl (fun b132 => ?_) (fun b132 => ?_)
                                        · first
                                          | (exfalso; omega)
                                          | (skip
                                             exact t137 N3 (fun q2 k2 v => by rw [x1 _ _ v, w1 _ _ v, y1 _ _ v, dz_up_o v]) x2 f1 f2 f3 f4 (by omega) (by omega))
                                        · first
                                          | (exfalso; omega)
                                          | (skip
                                             refine xr_iconst hc rfl ?_
                                             refine xr_zreturn hc rfl rfl (Nat.zero_le _) (Nat.zero_le _) (by first | exact Or.inl rfl | exact Or.inr rfl | assumption) ?_
                                             first
                                               | (exfalso; omega)
                                               | (have hr : rwd c nn pl ps i p = (false, p + 3) := by
                                                    unfold rwd
                                                    rw [if_neg (by omega), if_neg (fun z => z f1), if_neg (fun z => z f2), if_neg (fun z => z f3), if_pos f4]
                                                  exact hF (by rw [hr]) N2 (fun q2 k2 v1 v2 => by rw [w1 _ _ (by omega), y1 _ _ (by omega), dz_up_o (by omega)]) (by rw [hr]; exact w2) (by rw [hr]; have z := f3.1; show p + 3 ≤ nn; omega))
                                               | (have hr : rwd c nn pl ps i p = (false, p + 2) := by
                                                    unfold rwd
                                                    rw [if_neg (by omega), if_neg (fun z => z f1), if_neg (fun z => z f2), if_pos f3]
                                                  exact hF (by rw [hr]) N (fun q2 k2 v1 v2 => by rw [y1 _ _ (by omega), dz_up_o (by omega)]) (by rw [hr]; exact y2) (by rw [hr]; have z := f1.1; show p + 2 ≤ nn; omega)))
                                      · refine xk_1 ?_
                                        refine xr_istore5 hc rfl rfl ?_
                                        refine xr_iload hc rfl rfl ?_
                                        refine xr_bipush hc rfl ?_
                                        refine xr_icmp_ne hc rfl (t := 137) rfl (fun b132 => ?_) (fun b132 => ?_)
                                        · first
                                          | (exfalso; omega)
                                          | (skip
                                             exact t137 N3 (fun q2 k2 v => by rw [x1 _ _ v, w1 _ _ v, y1 _ _ v, dz_up_o v]) x2 f1 f2 f3 f4 (by omega) (by omega))
                                        · first
                                          | (exfalso; omega)
                                          | (skip
                                             refine xr_iconst hc rfl ?_
                                             refine xr_zreturn hc rfl rfl (Nat.zero_le _) (Nat.zero_le _) (by first | exact Or.inl rfl | exact Or.inr rfl | assumption) ?_
                                             first
                                               | (exfalso; omega)
                                               | (have hr : rwd c nn pl ps i p = (false, p + 3) := by
                                                    unfold rwd
                                                    rw [if_neg (by omega), if_neg (fun z => z f1), if_neg (fun z => z f2), if_neg (fun z => z f3), if_pos f4]
                                                  exact hF (by rw [hr]) N2 (fun q2 k2 v1 v2 => by rw [w1 _ _ (by omega), y1 _ _ (by omega), dz_up_o (by omega)]) (by rw [hr]; exact w2) (by rw [hr]; have z := f3.1; show p + 3 ≤ nn; omega))
                                               | (have hr : rwd c nn pl ps i p = (false, p + 2) := by
                                                    unfold rwd
                                                    rw [if_neg (by omega), if_neg (fun z => z f1), if_neg (fun z => z f2), if_pos f3]
                                                  exact hF (by rw [hr]) N (fun q2 k2 v1 v2 => by rw [y1 _ _ (by omega), dz_up_o (by omega)]) (by rw [hr]; exact y2) (by rw [hr]; have z := f1.1; show p + 2 ≤ nn; omega)))))
                            · first
                              | (exfalso; omega)
                              | (skip
                                 refine xr_bipush hc rfl ?_
                                 refine xr_goto hc rfl (t := 126) rfl ?_
                                 refine xr_istore5 hc rfl rfl ?_
                                 refine xr_iload hc rfl rfl ?_
                                 refine xr_bipush hc rfl ?_
                                 refine xr_icmp_ne hc rfl (t := 137) rfl (fun b132 => ?_) (fun b132 => ?_)
                                 · first
                                   | (exfalso; omega)
                                   | (skip
                                      exact t137 N3 (fun q2 k2 v => by rw [x1 _ _ v, w1 _ _ v, y1 _ _ v, dz_up_o v]) x2 f1 f2 f3 f4 (by omega) (by omega))
                                 · first
                                   | (exfalso; omega)
                                   | (skip
                                      refine xr_iconst hc rfl ?_
                                      refine xr_zreturn hc rfl rfl (Nat.zero_le _) (Nat.zero_le _) (by first | exact Or.inl rfl | exact Or.inr rfl | assumption) ?_
                                      first
                                        | (exfalso; omega)
                                        | (have hr : rwd c nn pl ps i p = (false, p + 3) := by
                                             unfold rwd
                                             rw [if_neg (by omega), if_neg (fun z => z f1), if_neg (fun z => z f2), if_neg (fun z => z f3), if_pos f4]
                                           exact hF (by rw [hr]) N2 (fun q2 k2 v1 v2 => by rw [w1 _ _ (by omega), y1 _ _ (by omega), dz_up_o (by omega)]) (by rw [hr]; exact w2) (by rw [hr]; have z := f3.1; show p + 3 ≤ nn; omega))
                                        | (have hr : rwd c nn pl ps i p = (false, p + 2) := by
                                             unfold rwd
                                             rw [if_neg (by omega), if_neg (fun z => z f1), if_neg (fun z => z f2), if_pos f3]
                                           exact hF (by rw [hr]) N (fun q2 k2 v1 v2 => by rw [y1 _ _ (by omega), dz_up_o (by omega)]) (by rw [hr]; exact y2) (by rw [hr]; have z := f1.1; show p + 2 ≤ nn; omega)))))
                     · first
                       | (exfalso; omega)
                       | (skip
                          refine xr_bipush hc rfl ?_
                          refine xr_goto hc rfl (t := 94) rfl ?_
                          refine xr_callv2 hc rfl (by first | assumption | rfl) rfl rfl rfl (Nat.le_of_ble_eq_true rfl) (Nat.zero_le _) (Nat.zero_le _) ?_
                          refine D_figure (tx := tx) (nn := nn) (p := p + 2) (c := c) hl htx hn (fun k hk => by rw [y1 _ _ (by omega), dz_up_o (by omega)]; exact hc2 k hk) (by rw [y1 _ _ (by omega), dz_up_o (by omega)]; exact h1f) (by rw [y1 _ _ (by omega), dz_up_o (by omega)]; exact h2) y2 (by have z := f1.1; omega) (by omega) (by omega) (fun f3 N2 w1 w2 => ?_) (fun f3 => ?_)
                          all_goals first | rw [← ehi 9 (by omega)] at f3 | rw [← ehi 5 (by omega)] at f3
                          · refine xk_1 ?_
                            refine xr_istore4 hc rfl rfl ?_
                            refine xr_iload hc rfl rfl ?_
                            refine xr_bipush hc rfl ?_
                            refine xr_icmp_ne hc rfl (t := 111) rfl (fun b103 => ?_) (fun b103 => ?_)
                            · first
                              | (exfalso; omega)
                              | (skip
                                 refine xr_aloadn hc rfl rfl ?_
                                 refine xr_iconst hc rfl ?_
                                 refine xr_iloadn hc rfl rfl ?_
                                 refine xr_if_ne hc rfl (t := 122) rfl (fun b114 => ?_) (fun b114 => ?_)
                                 · first
                                   | (exfalso; omega)
                                   | (skip
                                      refine xr_iconst hc rfl ?_
                                      refine xr_callv2 hc rfl (by first | assumption | rfl) rfl rfl rfl (Nat.le_of_ble_eq_true rfl) (Nat.zero_le _) (Nat.zero_le _) ?_
                                      refine D_figure (tx := tx) (nn := nn) (p := p + 3) (c := c) hl htx hn (fun k hk => by rw [w1 _ _ (by omega), y1 _ _ (by omega), dz_up_o (by omega)]; exact hc2 k hk) (by rw [w1 _ _ (by omega), y1 _ _ (by omega), dz_up_o (by omega)]; exact h1f) (by rw [w1 _ _ (by omega), y1 _ _ (by omega), dz_up_o (by omega)]; exact h2) w2 (by have z := f3.1; omega) (by omega) (by omega) (fun f4 N3 x1 x2 => ?_) (fun f4 => ?_)
                                      all_goals first | rw [← ehi 9 (by omega)] at f4 | rw [← ehi 5 (by omega)] at f4
                                      · refine xk_1 ?_
                                        refine xr_istore5 hc rfl rfl ?_
                                        refine xr_iload hc rfl rfl ?_
                                        refine xr_bipush hc rfl ?_
                                        refine xr_icmp_ne hc rfl (t := 137) rfl (fun b132 => ?_) (fun b132 => ?_)
                                        · first
                                          | (exfalso; omega)
                                          | (skip
                                             exact t137 N3 (fun q2 k2 v => by rw [x1 _ _ v, w1 _ _ v, y1 _ _ v, dz_up_o v]) x2 f1 f2 f3 f4 (by omega) (by omega))
                                        · first
                                          | (exfalso; omega)
                                          | (skip
                                             refine xr_iconst hc rfl ?_
                                             refine xr_zreturn hc rfl rfl (Nat.zero_le _) (Nat.zero_le _) (by first | exact Or.inl rfl | exact Or.inr rfl | assumption) ?_
                                             first
                                               | (exfalso; omega)
                                               | (have hr : rwd c nn pl ps i p = (false, p + 3) := by
                                                    unfold rwd
                                                    rw [if_neg (by omega), if_neg (fun z => z f1), if_neg (fun z => z f2), if_neg (fun z => z f3), if_pos f4]
                                                  exact hF (by rw [hr]) N2 (fun q2 k2 v1 v2 => by rw [w1 _ _ (by omega), y1 _ _ (by omega), dz_up_o (by omega)]) (by rw [hr]; exact w2) (by rw [hr]; have z := f3.1; show p + 3 ≤ nn; omega))
                                               | (have hr : rwd c nn pl ps i p = (false, p + 2) := by
                                                    unfold rwd
                                                    rw [if_neg (by omega), if_neg (fun z => z f1), if_neg (fun z => z f2), if_pos f3]
                                                  exact hF (by rw [hr]) N (fun q2 k2 v1 v2 => by rw [y1 _ _ (by omega), dz_up_o (by omega)]) (by rw [hr]; exact y2) (by rw [hr]; have z := f1.1; show p + 2 ≤ nn; omega)))
                                      · refine xk_1 ?_
                                        refine xr_istore5 hc rfl rfl ?_
                                        refine xr_iload hc rfl rfl ?_
                                        refine xr_bipush hc rfl ?_
                                        refine xr_icmp_ne hc rfl (t := 137) rfl (fun b132 => ?_) (fun b132 => ?_)
                                        · first
                                          | (exfalso; omega)
                                          | (skip
                                             exact t137 N3 (fun q2 k2 v => by rw [x1 _ _ v, w1 _ _ v, y1 _ _ v, dz_up_o v]) x2 f1 f2 f3 f4 (by omega) (by omega))
                                        · first
                                          | (exfalso; omega)
                                          | (skip
                                             refine xr_iconst hc rfl ?_
                                             refine xr_zreturn hc rfl rfl (Nat.zero_le _) (Nat.zero_le _) (by first | exact Or.inl rfl | exact Or.inr rfl | assumption) ?_
                                             first
                                               | (exfalso; omega)
                                               | (have hr : rwd c nn pl ps i p = (false, p + 3) := by
                                                    unfold rwd
                                                    rw [if_neg (by omega), if_neg (fun z => z f1), if_neg (fun z => z f2), if_neg (fun z => z f3), if_pos f4]
                                                  exact hF (by rw [hr]) N2 (fun q2 k2 v1 v2 => by rw [w1 _ _ (by omega), y1 _ _ (by omega), dz_up_o (by omega)]) (by rw [hr]; exact w2) (by rw [hr]; have z := f3.1; show p + 3 ≤ nn; omega))
                                               | (have hr : rwd c nn pl ps i p = (false, p + 2) := by
                                                    unfold rwd
                                                    rw [if_neg (by omega), if_neg (fun z => z f1), if_neg (fun z => z f2), if_pos f3]
                                                  exact hF (by rw [hr]) N (fun q2 k2 v1 v2 => by rw [y1 _ _ (by omega), dz_up_o (by omega)]) (by rw [hr]; exact y2) (by rw [hr]; have z := f1.1; show p + 2 ≤ nn; omega))))
                                 · first
                                   | (exfalso; omega)
                                   | (skip
                                      refine xr_bipush hc rfl ?_
                                      refine xr_goto hc rfl (t := 123) rfl ?_
                                      refine xr_callv2 hc rfl (by first | assumption | rfl) rfl rfl rfl (Nat.le_of_ble_eq_true rfl) (Nat.zero_le _) (Nat.zero_le _) ?_
                                      refine D_figure (tx := tx) (nn := nn) (p := p + 3) (c := c) hl htx hn (fun k hk => by rw [w1 _ _ (by omega), y1 _ _ (by omega), dz_up_o (by omega)]; exact hc2 k hk) (by rw [w1 _ _ (by omega), y1 _ _ (by omega), dz_up_o (by omega)]; exact h1f) (by rw [w1 _ _ (by omega), y1 _ _ (by omega), dz_up_o (by omega)]; exact h2) w2 (by have z := f3.1; omega) (by omega) (by omega) (fun f4 N3 x1 x2 => ?_) (fun f4 => ?_)
                                      all_goals first | rw [← ehi 9 (by omega)] at f4 | rw [← ehi 5 (by omega)] at f4
                                      · refine xk_1 ?_
                                        refine xr_istore5 hc rfl rfl ?_
                                        refine xr_iload hc rfl rfl ?_
                                        refine xr_bipush hc rfl ?_
                                        refine xr_icmp_ne hc rfl (t := 137) rfl (fun b132 => ?_) (fun b132 => ?_)
                                        · first
                                          | (exfalso; omega)
                                          | (skip
                                             exact t137 N3 (fun q2 k2 v => by rw [x1 _ _ v, w1 _ _ v, y1 _ _ v, dz_up_o v]) x2 f1 f2 f3 f4 (by omega) (by omega))
                                        · first
                                          | (exfalso; omega)
                                          | (skip
                                             refine xr_iconst hc rfl ?_
                                             refine xr_zreturn hc rfl rfl (Nat.zero_le _) (Nat.zero_le _) (by first | exact Or.inl rfl | exact Or.inr rfl | assumption) ?_
                                             first
                                               | (exfalso; omega)
                                               | (have hr : rwd c nn pl ps i p = (false, p + 3) := by
                                                    unfold rwd
                                                    rw [if_neg (by omega), if_neg (fun z => z f1), if_neg (fun z => z f2), if_neg (fun z => z f3), if_pos f4]
                                                  exact hF (by rw [hr]) N2 (fun q2 k2 v1 v2 => by rw [w1 _ _ (by omega), y1 _ _ (by omega), dz_up_o (by omega)]) (by rw [hr]; exact w2) (by rw [hr]; have z := f3.1; show p + 3 ≤ nn; omega))
                                               | (have hr : rwd c nn pl ps i p = (false, p + 2) := by
                                                    unfold rwd
                                                    rw [if_neg (by omega), if_neg (fun z => z f1), if_neg (fun z => z f2), if_pos f3]
                                                  exact hF (by rw [hr]) N (fun q2 k2 v1 v2 => by rw [y1 _ _ (by omega), dz_up_o (by omega)]) (by rw [hr]; exact y2) (by rw [hr]; have z := f1.1; show p + 2 ≤ nn; omega)))
                                      · refine xk_1 ?_
                                        refine xr_istore5 hc rfl rfl ?_
                                        refine xr_iload hc rfl rfl ?_
                                        refine xr_bipush hc rfl ?_
                                        refine xr_icmp_ne hc rfl (t := 137) rfl (fun b132 => ?_) (fun b132 => ?_)
                                        · first
                                          | (exfalso; omega)
                                          | (skip
                                             exact t137 N3 (fun q2 k2 v => by rw [x1 _ _ v, w1 _ _ v, y1 _ _ v, dz_up_o v]) x2 f1 f2 f3 f4 (by omega) (by omega))
                                        · first
                                          | (exfalso; omega)
                                          | (skip
                                             refine xr_iconst hc rfl ?_
                                             refine xr_zreturn hc rfl rfl (Nat.zero_le _) (Nat.zero_le _) (by first | exact Or.inl rfl | exact Or.inr rfl | assumption) ?_
                                             first
                                               | (exfalso; omega)
                                               | (have hr : rwd c nn pl ps i p = (false, p + 3) := by
                                                    unfold rwd
                                                    rw [if_neg (by omega), if_neg (fun z => z f1), if_neg (fun z => z f2), if_neg (fun z => z f3), if_pos f4]
                                                  exact hF (by rw [hr]) N2 (fun q2 k2 v1 v2 => by rw [w1 _ _ (by omega), y1 _ _ (by omega), dz_up_o (by omega)]) (by rw [hr]; exact w2) (by rw [hr]; have z := f3.1; show p + 3 ≤ nn; omega))
                                               | (have hr : rwd c nn pl ps i p = (false, p + 2) := by
                                                    unfold rwd
                                                    rw [if_neg (by omega), if_neg (fun z => z f1), if_neg (fun z => z f2), if_pos f3]
                                                  exact hF (by rw [hr]) N (fun q2 k2 v1 v2 => by rw [y1 _ _ (by omega), dz_up_o (by omega)]) (by rw [hr]; exact y2) (by rw [hr]; have z := f1.1; show p + 2 ≤ nn; omega)))))
                            · first
                              | (exfalso; omega)
                              | (skip
                                 refine xr_bipush hc rfl ?_
                                 refine xr_goto hc rfl (t := 126) rfl ?_
                                 refine xr_istore5 hc rfl rfl ?_
                                 refine xr_iload hc rfl rfl ?_
                                 refine xr_bipush hc rfl ?_
                                 refine xr_icmp_ne hc rfl (t := 137) rfl (fun b132 => ?_) (fun b132 => ?_)
                                 · first
                                   | (exfalso; omega)
                                   | (skip
                                      exact t137 N3 (fun q2 k2 v => by rw [x1 _ _ v, w1 _ _ v, y1 _ _ v, dz_up_o v]) x2 f1 f2 f3 f4 (by omega) (by omega))
                                 · first
                                   | (exfalso; omega)
                                   | (skip
                                      refine xr_iconst hc rfl ?_
                                      refine xr_zreturn hc rfl rfl (Nat.zero_le _) (Nat.zero_le _) (by first | exact Or.inl rfl | exact Or.inr rfl | assumption) ?_
                                      first
                                        | (exfalso; omega)
                                        | (have hr : rwd c nn pl ps i p = (false, p + 3) := by
                                             unfold rwd
                                             rw [if_neg (by omega), if_neg (fun z => z f1), if_neg (fun z => z f2), if_neg (fun z => z f3), if_pos f4]
                                           exact hF (by rw [hr]) N2 (fun q2 k2 v1 v2 => by rw [w1 _ _ (by omega), y1 _ _ (by omega), dz_up_o (by omega)]) (by rw [hr]; exact w2) (by rw [hr]; have z := f3.1; show p + 3 ≤ nn; omega))
                                        | (have hr : rwd c nn pl ps i p = (false, p + 2) := by
                                             unfold rwd
                                             rw [if_neg (by omega), if_neg (fun z => z f1), if_neg (fun z => z f2), if_pos f3]
                                           exact hF (by rw [hr]) N (fun q2 k2 v1 v2 => by rw [y1 _ _ (by omega), dz_up_o (by omega)]) (by rw [hr]; exact y2) (by rw [hr]; have z := f1.1; show p + 2 ≤ nn; omega))))
                          · refine xk_1 ?_
                            refine xr_istore4 hc rfl rfl ?_
                            refine xr_iload hc rfl rfl ?_
                            refine xr_bipush hc rfl ?_
                            refine xr_icmp_ne hc rfl (t := 111) rfl (fun b103 => ?_) (fun b103 => ?_)
                            · first
                              | (exfalso; omega)
                              | (skip
                                 refine xr_aloadn hc rfl rfl ?_
                                 refine xr_iconst hc rfl ?_
                                 refine xr_iloadn hc rfl rfl ?_
                                 refine xr_if_ne hc rfl (t := 122) rfl (fun b114 => ?_) (fun b114 => ?_)
                                 · first
                                   | (exfalso; omega)
                                   | (skip
                                      refine xr_iconst hc rfl ?_
                                      refine xr_callv2 hc rfl (by first | assumption | rfl) rfl rfl rfl (Nat.le_of_ble_eq_true rfl) (Nat.zero_le _) (Nat.zero_le _) ?_
                                      refine D_figure (tx := tx) (nn := nn) (p := p + 3) (c := c) hl htx hn (fun k hk => by rw [w1 _ _ (by omega), y1 _ _ (by omega), dz_up_o (by omega)]; exact hc2 k hk) (by rw [w1 _ _ (by omega), y1 _ _ (by omega), dz_up_o (by omega)]; exact h1f) (by rw [w1 _ _ (by omega), y1 _ _ (by omega), dz_up_o (by omega)]; exact h2) w2 (by have z := f3.1; omega) (by omega) (by omega) (fun f4 N3 x1 x2 => ?_) (fun f4 => ?_)
                                      all_goals first | rw [← ehi 9 (by omega)] at f4 | rw [← ehi 5 (by omega)] at f4
                                      · refine xk_1 ?_
                                        refine xr_istore5 hc rfl rfl ?_
                                        refine xr_iload hc rfl rfl ?_
                                        refine xr_bipush hc rfl ?_
                                        refine xr_icmp_ne hc rfl (t := 137) rfl (fun b132 => ?_) (fun b132 => ?_)
                                        · first
                                          | (exfalso; omega)
                                          | (skip
                                             exact t137 N3 (fun q2 k2 v => by rw [x1 _ _ v, w1 _ _ v, y1 _ _ v, dz_up_o v]) x2 f1 f2 f3 f4 (by omega) (by omega))
                                        · first
                                          | (exfalso; omega)
                                          | (skip
                                             refine xr_iconst hc rfl ?_
                                             refine xr_zreturn hc rfl rfl (Nat.zero_le _) (Nat.zero_le _) (by first | exact Or.inl rfl | exact Or.inr rfl | assumption) ?_
                                             first
                                               | (exfalso; omega)
                                               | (have hr : rwd c nn pl ps i p = (false, p + 3) := by
                                                    unfold rwd
                                                    rw [if_neg (by omega), if_neg (fun z => z f1), if_neg (fun z => z f2), if_neg (fun z => z f3), if_pos f4]
                                                  exact hF (by rw [hr]) N2 (fun q2 k2 v1 v2 => by rw [w1 _ _ (by omega), y1 _ _ (by omega), dz_up_o (by omega)]) (by rw [hr]; exact w2) (by rw [hr]; have z := f3.1; show p + 3 ≤ nn; omega))
                                               | (have hr : rwd c nn pl ps i p = (false, p + 2) := by
                                                    unfold rwd
                                                    rw [if_neg (by omega), if_neg (fun z => z f1), if_neg (fun z => z f2), if_pos f3]
                                                  exact hF (by rw [hr]) N (fun q2 k2 v1 v2 => by rw [y1 _ _ (by omega), dz_up_o (by omega)]) (by rw [hr]; exact y2) (by rw [hr]; have z := f1.1; show p + 2 ≤ nn; omega)))
                                      · refine xk_1 ?_
                                        refine xr_istore5 hc rfl rfl ?_
                                        refine xr_iload hc rfl rfl ?_
                                        refine xr_bipush hc rfl ?_
                                        refine xr_icmp_ne hc rfl (t := 137) rfl (fun b132 => ?_) (fun b132 => ?_)
                                        · first
                                          | (exfalso; omega)
                                          | (skip
                                             exact t137 N3 (fun q2 k2 v => by rw [x1 _ _ v, w1 _ _ v, y1 _ _ v, dz_up_o v]) x2 f1 f2 f3 f4 (by omega) (by omega))
                                        · first
                                          | (exfalso; omega)
                                          | (skip
                                             refine xr_iconst hc rfl ?_
                                             refine xr_zreturn hc rfl rfl (Nat.zero_le _) (Nat.zero_le _) (by first | exact Or.inl rfl | exact Or.inr rfl | assumption) ?_
                                             first
                                               | (exfalso; omega)
                                               | (have hr : rwd c nn pl ps i p = (false, p + 3) := by
                                                    unfold rwd
                                                    rw [if_neg (by omega), if_neg (fun z => z f1), if_neg (fun z => z f2), if_neg (fun z => z f3), if_pos f4]
                                                  exact hF (by rw [hr]) N2 (fun q2 k2 v1 v2 => by rw [w1 _ _ (by omega), y1 _ _ (by omega), dz_up_o (by omega)]) (by rw [hr]; exact w2) (by rw [hr]; have z := f3.1; show p + 3 ≤ nn; omega))
                                               | (have hr : rwd c nn pl ps i p = (false, p + 2) := by
                                                    unfold rwd
                                                    rw [if_neg (by omega), if_neg (fun z => z f1), if_neg (fun z => z f2), if_pos f3]
                                                  exact hF (by rw [hr]) N (fun q2 k2 v1 v2 => by rw [y1 _ _ (by omega), dz_up_o (by omega)]) (by rw [hr]; exact y2) (by rw [hr]; have z := f1.1; show p + 2 ≤ nn; omega))))
                                 · first
                                   | (exfalso; omega)
                                   | (skip
                                      refine xr_bipush hc rfl ?_
                                      refine xr_goto hc rfl (t := 123) rfl ?_
                                      refine xr_callv2 hc rfl (by first | assumption | rfl) rfl rfl rfl (Nat.le_of_ble_eq_true rfl) (Nat.zero_le _) (Nat.zero_le _) ?_
                                      refine D_figure (tx := tx) (nn := nn) (p := p + 3) (c := c) hl htx hn (fun k hk => by rw [w1 _ _ (by omega), y1 _ _ (by omega), dz_up_o (by omega)]; exact hc2 k hk) (by rw [w1 _ _ (by omega), y1 _ _ (by omega), dz_up_o (by omega)]; exact h1f) (by rw [w1 _ _ (by omega), y1 _ _ (by omega), dz_up_o (by omega)]; exact h2) w2 (by have z := f3.1; omega) (by omega) (by omega) (fun f4 N3 x1 x2 => ?_) (fun f4 => ?_)
                                      all_goals first | rw [← ehi 9 (by omega)] at f4 | rw [← ehi 5 (by omega)] at f4
                                      · refine xk_1 ?_
                                        refine xr_istore5 hc rfl rfl ?_
                                        refine xr_iload hc rfl rfl ?_
                                        refine xr_bipush hc rfl ?_
                                        refine xr_icmp_ne hc rfl (t := 137) rfl (fun b132 => ?_) (fun b132 => ?_)
                                        · first
                                          | (exfalso; omega)
                                          | (skip
                                             exact t137 N3 (fun q2 k2 v => by rw [x1 _ _ v, w1 _ _ v, y1 _ _ v, dz_up_o v]) x2 f1 f2 f3 f4 (by omega) (by omega))
                                        · first
                                          | (exfalso; omega)
                                          | (skip
                                             refine xr_iconst hc rfl ?_
                                             refine xr_zreturn hc rfl rfl (Nat.zero_le _) (Nat.zero_le _) (by first | exact Or.inl rfl | exact Or.inr rfl | assumption) ?_
                                             first
                                               | (exfalso; omega)
                                               | (have hr : rwd c nn pl ps i p = (false, p + 3) := by
                                                    unfold rwd
                                                    rw [if_neg (by omega), if_neg (fun z => z f1), if_neg (fun z => z f2), if_neg (fun z => z f3), if_pos f4]
                                                  exact hF (by rw [hr]) N2 (fun q2 k2 v1 v2 => by rw [w1 _ _ (by omega), y1 _ _ (by omega), dz_up_o (by omega)]) (by rw [hr]; exact w2) (by rw [hr]; have z := f3.1; show p + 3 ≤ nn; omega))
                                               | (have hr : rwd c nn pl ps i p = (false, p + 2) := by
                                                    unfold rwd
                                                    rw [if_neg (by omega), if_neg (fun z => z f1), if_neg (fun z => z f2), if_pos f3]
                                                  exact hF (by rw [hr]) N (fun q2 k2 v1 v2 => by rw [y1 _ _ (by omega), dz_up_o (by omega)]) (by rw [hr]; exact y2) (by rw [hr]; have z := f1.1; show p + 2 ≤ nn; omega)))
                                      · refine xk_1 ?_
                                        refine xr_istore5 hc rfl rfl ?_
                                        refine xr_iload hc rfl rfl ?_
                                        refine xr_bipush hc rfl ?_
                                        refine xr_icmp_ne hc rfl (t := 137) rfl (fun b132 => ?_) (fun b132 => ?_)
                                        · first
                                          | (exfalso; omega)
                                          | (skip
                                             exact t137 N3 (fun q2 k2 v => by rw [x1 _ _ v, w1 _ _ v, y1 _ _ v, dz_up_o v]) x2 f1 f2 f3 f4 (by omega) (by omega))
                                        · first
                                          | (exfalso; omega)
                                          | (skip
                                             refine xr_iconst hc rfl ?_
                                             refine xr_zreturn hc rfl rfl (Nat.zero_le _) (Nat.zero_le _) (by first | exact Or.inl rfl | exact Or.inr rfl | assumption) ?_
                                             first
                                               | (exfalso; omega)
                                               | (have hr : rwd c nn pl ps i p = (false, p + 3) := by
                                                    unfold rwd
                                                    rw [if_neg (by omega), if_neg (fun z => z f1), if_neg (fun z => z f2), if_neg (fun z => z f3), if_pos f4]
                                                  exact hF (by rw [hr]) N2 (fun q2 k2 v1 v2 => by rw [w1 _ _ (by omega), y1 _ _ (by omega), dz_up_o (by omega)]) (by rw [hr]; exact w2) (by rw [hr]; have z := f3.1; show p + 3 ≤ nn; omega))
                                               | (have hr : rwd c nn pl ps i p = (false, p + 2) := by
                                                    unfold rwd
                                                    rw [if_neg (by omega), if_neg (fun z => z f1), if_neg (fun z => z f2), if_pos f3]
                                                  exact hF (by rw [hr]) N (fun q2 k2 v1 v2 => by rw [y1 _ _ (by omega), dz_up_o (by omega)]) (by rw [hr]; exact y2) (by rw [hr]; have z := f1.1; show p + 2 ≤ nn; omega)))))
                            · first
                              | (exfalso; omega)
                              | (skip
                                 refine xr_bipush hc rfl ?_
                                 refine xr_goto hc rfl (t := 126) rfl ?_
                                 refine xr_istore5 hc rfl rfl ?_
                                 refine xr_iload hc rfl rfl ?_
                                 refine xr_bipush hc rfl ?_
                                 refine xr_icmp_ne hc rfl (t := 137) rfl (fun b132 => ?_) (fun b132 => ?_)
                                 · first
                                   | (exfalso; omega)
                                   | (skip
                                      exact t137 N3 (fun q2 k2 v => by rw [x1 _ _ v, w1 _ _ v, y1 _ _ v, dz_up_o v]) x2 f1 f2 f3 f4 (by omega) (by omega))
                                 · first
                                   | (exfalso; omega)
                                   | (skip
                                      refine xr_iconst hc rfl ?_
                                      refine xr_zreturn hc rfl rfl (Nat.zero_le _) (Nat.zero_le _) (by first | exact Or.inl rfl | exact Or.inr rfl | assumption) ?_
                                      first
                                        | (exfalso; omega)
                                        | (have hr : rwd c nn pl ps i p = (false, p + 3) := by
                                             unfold rwd
                                             rw [if_neg (by omega), if_neg (fun z => z f1), if_neg (fun z => z f2), if_neg (fun z => z f3), if_pos f4]
                                           exact hF (by rw [hr]) N2 (fun q2 k2 v1 v2 => by rw [w1 _ _ (by omega), y1 _ _ (by omega), dz_up_o (by omega)]) (by rw [hr]; exact w2) (by rw [hr]; have z := f3.1; show p + 3 ≤ nn; omega))
                                        | (have hr : rwd c nn pl ps i p = (false, p + 2) := by
                                             unfold rwd
                                             rw [if_neg (by omega), if_neg (fun z => z f1), if_neg (fun z => z f2), if_pos f3]
                                           exact hF (by rw [hr]) N (fun q2 k2 v1 v2 => by rw [y1 _ _ (by omega), dz_up_o (by omega)]) (by rw [hr]; exact y2) (by rw [hr]; have z := f1.1; show p + 2 ≤ nn; omega))))))
              · first
                | (exfalso; omega)
                | (skip
                   refine xr_iconst hc rfl ?_
                   refine xr_zreturn hc rfl rfl (Nat.zero_le _) (Nat.zero_le _) (by first | exact Or.inl rfl | exact Or.inr rfl | assumption) ?_
                   first
                     | (exfalso; omega)
                     | (have hr : rwd c nn pl ps i p = (false, p + 1) := by
                          unfold rwd
                          rw [if_neg (by omega), if_pos f1]
                        exact hF (by rw [hr]) _ (fun q2 k2 v1 v2 => by rw [dz_up_o (by omega)]) (by rw [hr, dz_up_eq]; show (p : Int) + 1 = ((p + 1 : Nat) : Int); omega) (by rw [hr]; show p + 1 ≤ nn; omega))))
       · first
         | (exfalso; omega)
         | (skip
            refine xr_iconst hc rfl ?_
            refine xr_zreturn hc rfl rfl (Nat.zero_le _) (Nat.zero_le _) (by first | exact Or.inl rfl | exact Or.inr rfl | assumption) ?_
            have hr : rwd c nn pl ps i p = (false, p) := by
              unfold rwd
              rw [if_pos (by omega)]
            exact hF (by rw [hr]) M (fun _ _ _ _ => rfl) (by rw [hr]; exact h3) (by rw [hr]; exact hp)))
