/-! The other one: fault. Written by l2_78.py. -/
set_option maxRecDepth 100000 in
theorem D_faultOf {xo : Nat → List Int} {d : Nat} {Q : dz_Q} {sh : List (Nat ⊕ (Nat × Nat))} {rf : Nat → Nat → Nat} {M : Nat → Nat → Int} {tx nn : Nat} {c : Nat → Int} (hl : ml sh rf) (htx : tx < 4) (hn : nn ≤ 60) (hlen : M 122 tx = (nn : Int)) (hc2 : ∀ k, k < nn → M 123 (60 * tx + k) = c k ∧ -128 ≤ c k ∧ c k ≤ 127) (hQ : ∀ M2 : Nat → Nat → Int, (∀ q2 k2, ¬ (q2 = 115 ∧ 15 ≤ k2 ∧ k2 ≤ 20) → q2 ≠ 125 → M2 q2 k2 = M q2 k2) → (rflt c nn = -9 → M2 115 18 = (c (rh c nn + 1) - 48) ∧ (M2 115 20 = ((rdt c nn).2.2.1 : Int) ∧ ∀ k, k < (rdt c nn).2.2.1 → M2 125 (5 * k) = wKd c (rdt c nn).2.2.2 k ∧ M2 125 (5 * k + 1) = wPl c (rdt c nn).2.2.2 k ∧ M2 125 (5 * k + 2) = wVl c (rdt c nn).2.2.2 k ∧ M2 125 (5 * k + 3) = wWt c (rdt c nn).2.2.2 k ∧ M2 125 (5 * k + 4) = wNx c (rdt c nn).2.2.2 k) ∧ wok c nn (c (rh c nn + 1) - 48) (rdt c nn).2.2.2 (rdt c nn).2.2.1 ∧ 2 ≤ (rdt c nn).2.2.1 ∧ (rdt c nn).2.2.1 ≤ 6 ∧ rat c (rdt c nn).2.2.2 (rdt c nn).2.2.1 (rdt c nn).2.2.1 = true ∧ 6 ≤ (c (rh c nn + 1) - 48) ∧ (c (rh c nn + 1) - 48) ≤ 9) → Q (some (dz_i (rflt c nn))) (sh, rf, M2)) : dz_E dz_pp xo (d + 5) 144 [dz_r 115, dz_i (tx : Int)] (sh, rf, M) Q := by
  refine ⟨Nat.le_of_ble_eq_true rfl, ?_⟩
  have hc := dz_E_m dz_pp xo (d + 4)
  show dz_X (dz_E dz_pp xo (d + 4)) dz_pp xo (dz_pp 144) Q 0 [some (dz_r 115), some (dz_i (tx : Int)), none] [] 0 0 (sh, rf, M)
  obtain ⟨c0, c1, c2, c3, c4, c5, c6, c7, c8, c9, c10, c11, c12, c13, c14, c15, c16, c17, c18, c19, c20, c21, c22, c23, c24, c25, c26, c27, c28, c29⟩ := id hl
  refine xr_aloadn hc rfl rfl ?_
  refine xr_bipush hc rfl ?_
  refine xr_iloadn hc rfl rfl ?_
  refine xr_imulz hc rfl (by first | exact dz_wid (by first | omega | (unfold dz_w; omega)) (by first | omega | (unfold dz_w; omega)) | rfl) ?_
  refine xr_putfi hc rfl rfl (by first | assumption | rfl) ?_
  refine xr_aloadn hc rfl rfl ?_
  refine xr_iconst hc rfl ?_
  refine xr_putfi hc rfl rfl (by first | assumption | rfl) ?_
  refine xr_aloadn hc rfl rfl ?_
  refine xr_aloadn hc rfl rfl ?_
  refine xr_getfr hc rfl rfl (by first | assumption | rfl) (by first | assumption | rfl) ?_
  refine xr_iloadn hc rfl rfl ?_
  first | refine xr_iaload hc rfl (by first | assumption | rfl) (by first | omega | (unfold dz_w; omega)) (by first | omega | (unfold dz_w; omega)) ?_ | refine xr_ialoado hc rfl (by first | omega | (unfold dz_w; omega)) (by first | omega | (unfold dz_w; omega)) ?_
  rw [Int.toNat_natCast, dz_up_ne (by omega), dz_up_ne (by omega), hlen]
  refine xr_putfi hc rfl rfl (by first | assumption | rfl) ?_
  refine xr_aloadn hc rfl rfl ?_
  refine xr_iconst hc rfl ?_
  refine xr_putfi hc rfl rfl (by first | assumption | rfl) ?_
  obtain ⟨MM, hMM⟩ : ∃ MM, MM = dz_up (dz_up (dz_up (dz_up M 115 15 (60 * (tx : Int))) 115 16 0) 115 17 (nn : Int)) 115 20 0 := ⟨_, rfl⟩
  rw [← hMM]
  have m0 : (∀ q2 k2, ¬ (q2 = 115 ∧ 15 ≤ k2 ∧ k2 ≤ 20) → q2 ≠ 125 → MM q2 k2 = M q2 k2) := fun q2 k2 v1 v2 => by rw [hMM, dz_up_o (by omega), dz_up_o (by omega), dz_up_o (by omega), dz_up_o (by omega)]
  have m15 : MM 115 15 = ((60 * tx : Nat) : Int) := by rw [hMM, dz_up_k (by omega), dz_up_k (by omega), dz_up_k (by omega), dz_up_eq]; omega
  have m2 : MM 115 17 = (nn : Int) := by rw [hMM, dz_up_k (by omega), dz_up_eq]
  have m3 : MM 115 16 = ((0 : Nat) : Int) := by rw [hMM, dz_up_k (by omega), dz_up_k (by omega), dz_up_eq]; rfl
  have m4 : MM 115 20 = 0 := by rw [hMM, dz_up_eq]
  clear hMM
  have t0 : ∀ (N : Nat → Nat → Int), (∀ q2 k2, ¬ (q2 = 115 ∧ 15 ≤ k2 ∧ k2 ≤ 20) → q2 ≠ 125 → N q2 k2 = M q2 k2) → rflt c nn = N 115 16 → 0 ≤ N 115 16 → dz_X (dz_E dz_pp xo (d + 4)) dz_pp xo (dz_pp 144) Q 41 [some (dz_r 115), some (dz_i (tx : Int)), some (dz_i 0)] [] 0 0 (sh, rf, N) := by
    intro N g1 hv hv0
    refine xr_iloadn hc rfl rfl ?_
    refine xr_ift hc rfl (t := 72) rfl (by simp [dz_cmp]) ?_
    refine xr_iloadn hc rfl rfl ?_
    refine xr_ift hc rfl (t := 96) rfl (by simp [dz_cmp]) ?_
    refine xr_aloadn hc rfl rfl ?_
    refine xr_getfi hc rfl (Or.inl rfl) (by first | assumption | rfl) ?_
    refine xr_ireturn hc rfl rfl (Nat.zero_le _) (Nat.zero_le _) ?_
    rw [← hv]
    exact hQ N g1 (fun z => by omega)
  have lp : (rdt c nn) = rml c nn (c (rh c nn + 1) - 48) 8 0 (fun _ => 0) (skp c nn (rh c nn + 2)) → (6 ≤ (c (rh c nn + 1) - 48) ∧ (c (rh c nn + 1) - 48) ≤ 9) → ∀ (m_ i : Nat) (ps : Nat → Nat) (p : Nat) (N : Nat → Nat → Int), i + m_ = 7 → (∀ q2 k2, ¬ (q2 = 115 ∧ 15 ≤ k2 ∧ k2 ≤ 20) → q2 ≠ 125 → N q2 k2 = M q2 k2) → N 115 16 = (p : Int) → p ≤ nn → (N 115 20 = (i : Int) ∧ ∀ k, k < i → N 125 (5 * k) = wKd c ps k ∧ N 125 (5 * k + 1) = wPl c ps k ∧ N 125 (5 * k + 2) = wVl c ps k ∧ N 125 (5 * k + 3) = wWt c ps k ∧ N 125 (5 * k + 4) = wNx c ps k) → (∀ k, k < nn → N 123 (60 * tx + k) = c k ∧ -128 ≤ c k ∧ c k ≤ 127) → wok c nn (c (rh c nn + 1) - 48) ps i → N 115 15 = ((60 * tx : Nat) : Int) → N 115 17 = (nn : Int) → N 115 18 = (c (rh c nn + 1) - 48) → i ≤ 6 → rml c nn (c (rh c nn + 1) - 48) 8 0 (fun _ => 0) (skp c nn (rh c nn + 2)) = rml c nn (c (rh c nn + 1) - 48) (m_ + 1) i ps p → dz_X (dz_E dz_pp xo (d + 4)) dz_pp xo (dz_pp 144) Q 41 [some (dz_r 115), some (dz_i (tx : Int)), some (dz_i 1)] [] 0 0 (sh, rf, N) := by
    intro her hpl69 m_
    induction m_ with
    | zero =>
      intro i ps p N him g1 g3 g4 g5 g6 g7 g15 g8 g9 hi6 hrm
      omega
    | succ m_ ih =>
      intro i ps p N him g1 g3 g4 g5 g6 g7 g15 g8 g9 hi6 hrm
      refine xr_iloadn hc rfl rfl ?_
      refine xr_iff hc rfl (by simp [dz_cmp]) ?_
      refine xr_aloadn hc rfl rfl ?_
      refine xr_getfi hc rfl (Or.inl rfl) (by first | assumption | rfl) ?_
      rw [g3]
      refine xr_aloadn hc rfl rfl ?_
      refine xr_getfi hc rfl (Or.inl rfl) (by first | assumption | rfl) ?_
      rw [g8]
      refine xr_icmp_ge hc rfl (t := 72) rfl (fun b53 => ?_) (fun b53 => ?_)
      · first
        | (exfalso; omega)
        | (skip
           have hpn : p = nn := by omega
           have er2 : (rdt c nn) = (true, p, i, ps) := by
             rw [her, hrm]
             show (if p < nn then _ else _) = _
             rw [if_neg (by omega)]
           refine xr_iloadn hc rfl rfl ?_
           refine xr_iff hc rfl (by simp [dz_cmp]) ?_
           refine xr_aloadn hc rfl rfl ?_
           refine xr_getfi hc rfl (Or.inl rfl) (by first | assumption | rfl) ?_
           rw [g5.1]
           refine xr_iconst hc rfl ?_
           refine xr_icmp_le hc rfl (t := 96) rfl (fun b81 => ?_) (fun b81 => ?_)
           · first
             | (exfalso; omega)
             | (skip
                refine xr_aloadn hc rfl rfl ?_
                refine xr_getfi hc rfl (Or.inl rfl) (by first | assumption | rfl) ?_
                refine xr_ireturn hc rfl rfl (Nat.zero_le _) (Nat.zero_le _) ?_
                first
                  | (have ef : rflt c nn = -9 := by
                       unfold rflt
                       rw [er2]
                       show (if true = false then _ else if 2 ≤ i ∧ rat c ps i i = true then (-9 : Int) else (nn : Int)) = _
                       rw [if_neg (by decide), if_pos ⟨by omega, y⟩]
                     have z := hQ N g1 (fun _ => by
                       rw [er2]
                       exact ⟨g9, g5, g7, by show 2 ≤ i; omega, by show i ≤ 6; omega, y, hpl69.1, hpl69.2⟩)
                     rw [ef] at z
                     exact z)
                  | (have ef : rflt c nn = (nn : Int) := by
                       unfold rflt
                       rw [er2]
                       show (if true = false then _ else if 2 ≤ i ∧ rat c ps i i = true then (-9 : Int) else (nn : Int)) = _
                       rw [if_neg (by decide), if_neg (fun z => by first | (have z1 := z.1; omega) | exact y z.2)]
                     have z := hQ N g1 (fun z => by rw [ef] at z; omega)
                     rw [ef] at z
                     rw [g3, hpn]
                     exact z))
           · first
             | (exfalso; omega)
             | (skip
                refine xr_aloadn hc rfl rfl ?_
                refine xr_callv0 hc rfl (by first | assumption | rfl) rfl rfl rfl (Nat.le_of_ble_eq_true rfl) (Nat.zero_le _) (Nat.zero_le _) ?_
                refine D_areAllThere (c := c) (ps := ps) (W := i) hl (by omega) g5 (fun y => ?_) (fun y => ?_)
                · refine xk_1 ?_
                  refine xr_iff hc rfl (by simp [dz_cmp]) ?_
                  refine xr_bipush hc rfl ?_
                  refine xr_goto hc rfl (t := 100) rfl ?_
                  refine xr_ireturn hc rfl rfl (Nat.zero_le _) (Nat.zero_le _) ?_
                  first
                    | (have ef : rflt c nn = -9 := by
                         unfold rflt
                         rw [er2]
                         show (if true = false then _ else if 2 ≤ i ∧ rat c ps i i = true then (-9 : Int) else (nn : Int)) = _
                         rw [if_neg (by decide), if_pos ⟨by omega, y⟩]
                       have z := hQ N g1 (fun _ => by
                         rw [er2]
                         exact ⟨g9, g5, g7, by show 2 ≤ i; omega, by show i ≤ 6; omega, y, hpl69.1, hpl69.2⟩)
                       rw [ef] at z
                       exact z)
                    | (have ef : rflt c nn = (nn : Int) := by
                         unfold rflt
                         rw [er2]
                         show (if true = false then _ else if 2 ≤ i ∧ rat c ps i i = true then (-9 : Int) else (nn : Int)) = _
                         rw [if_neg (by decide), if_neg (fun z => by first | (have z1 := z.1; omega) | exact y z.2)]
                       have z := hQ N g1 (fun z => by rw [ef] at z; omega)
                       rw [ef] at z
                       rw [g3, hpn]
                       exact z)
                · refine xk_1 ?_
                  refine xr_ift hc rfl (t := 96) rfl (by simp [dz_cmp]) ?_
                  refine xr_aloadn hc rfl rfl ?_
                  refine xr_getfi hc rfl (Or.inl rfl) (by first | assumption | rfl) ?_
                  refine xr_ireturn hc rfl rfl (Nat.zero_le _) (Nat.zero_le _) ?_
                  first
                    | (have ef : rflt c nn = -9 := by
                         unfold rflt
                         rw [er2]
                         show (if true = false then _ else if 2 ≤ i ∧ rat c ps i i = true then (-9 : Int) else (nn : Int)) = _
                         rw [if_neg (by decide), if_pos ⟨by omega, y⟩]
                       have z := hQ N g1 (fun _ => by
                         rw [er2]
                         exact ⟨g9, g5, g7, by show 2 ≤ i; omega, by show i ≤ 6; omega, y, hpl69.1, hpl69.2⟩)
                       rw [ef] at z
                       exact z)
                    | (have ef : rflt c nn = (nn : Int) := by
                         unfold rflt
                         rw [er2]
                         show (if true = false then _ else if 2 ≤ i ∧ rat c ps i i = true then (-9 : Int) else (nn : Int)) = _
                         rw [if_neg (by decide), if_neg (fun z => by first | (have z1 := z.1; omega) | exact y z.2)]
                       have z := hQ N g1 (fun z => by rw [ef] at z; omega)
                       rw [ef] at z
                       rw [g3, hpn]
                       exact z)))
      · first
        | (exfalso; omega)
        | (skip
           refine xr_aloadn hc rfl rfl ?_
           refine xr_callv0 hc rfl (by first | assumption | rfl) rfl rfl rfl (Nat.le_of_ble_eq_true rfl) (Nat.zero_le _) (Nat.zero_le _) ?_
           have hlt : p < nn := by omega
           have erm : rml c nn (c (rh c nn + 1) - 48) (m_ + 1 + 1) i ps p = if (rwd c nn (c (rh c nn + 1) - 48) ps i p).1 = true then rml c nn (c (rh c nn + 1) - 48) (m_ + 1) (i + 1) (pup ps i p) (skp c nn (rwd c nn (c (rh c nn + 1) - 48) ps i p).2) else (false, (rwd c nn (c (rh c nn + 1) - 48) ps i p).2, i, ps) := by
             show (if p < nn then _ else _) = _
             rw [if_pos hlt]
           refine D_readsWord (tx := tx) (nn := nn) (p := p) (c := c) (ps := ps) (pl := (c (rh c nn + 1) - 48)) hl htx hn g6 g15 g8 g3 g4 hlt g9 hpl69 hi6 g5.1 (fun k hk => (g5.2 k hk).2.1) (fun y1 y2 N2 y3 y4 y5 z1 z2 z3 z4 z5 z6 z7 z8 z9 hi5 => ?_) (fun y1 N2 y3 y4 y5 => ?_)
           · refine xk_1 ?_
             refine xr_istore2 hc rfl rfl ?_
             refine xr_iloadn hc rfl rfl ?_
             refine xr_iff hc rfl (by simp [dz_cmp]) ?_
             refine xr_aloadn hc rfl rfl ?_
             refine xr_callv0 hc rfl (by first | assumption | rfl) rfl rfl rfl (Nat.le_of_ble_eq_true rfl) (Nat.zero_le _) (Nat.zero_le _) ?_
             have hp4 : p + 4 ≤ nn := by have z := z8.1; omega
             refine D_skip (tx := tx) (nn := nn) (p := p + 4) (c := c) hl htx hn (fun k hk => by rw [y3 _ _ (by omega) (by omega)]; exact g6 k hk) (by rw [y3 _ _ (by omega) (by omega)]; exact g15) (by rw [y3 _ _ (by omega) (by omega)]; exact g8) y4 hp4 (fun N3 v1 v2 => ?_)
             refine xk_0 ?_
             refine xr_goto hc rfl (t := 41) rfl ?_
             first
               | (have er2 : (rdt c nn) = (false, (rwd c nn (c (rh c nn + 1) - 48) ps i p).2, i, ps) := by
                    rw [her, hrm, erm, if_neg (by rw [y1]; decide)]
                  have ef : rflt c nn = ((rwd c nn (c (rh c nn + 1) - 48) ps i p).2 : Int) := by unfold rflt; rw [er2]; rfl
                  exact t0 N2 (fun q2 k2 v1 v2 => by rw [y3 _ _ (by omega) (by omega), g1 _ _ v1 v2]) (by rw [ef, y4]) (by rw [y4]; omega))
               | (refine ih (i + 1) (pup ps i p) (skp c nn (p + 4)) N3 (by omega) (fun q2 k2 u1 u2 => ?_) v2 (skp_in hp4).2 ⟨by rw [v1 _ _ (by omega)]; exact y5, fun k hk => ?_⟩ (fun k hk => ?_) (fun k hk => ?_) (by rw [v1 _ _ (by omega), y3 _ _ (by omega) (by omega)]; exact g15) (by rw [v1 _ _ (by omega), y3 _ _ (by omega) (by omega)]; exact g8) (by rw [v1 _ _ (by omega), y3 _ _ (by omega) (by omega)]; exact g9) (by omega) (by rw [hrm, erm, if_pos y1, y2])
                  · rw [v1 _ _ (by omega), y3 _ _ (by omega) (by omega), g1 _ _ u1 u2]
                  · rw [v1 _ _ (by omega), v1 _ _ (by omega), v1 _ _ (by omega), v1 _ _ (by omega), v1 _ _ (by omega)]
                    by_cases e : k = i
                    · rw [e]
                      exact ⟨z1, z2, z3, z4, z5⟩
                    · obtain ⟨w1, w2, w3, w4, w5⟩ := pup_c (c := c) (ps := ps) (i := i) (p := p) e
                      rw [w1, w2, w3, w4, w5, y3 125 (5 * k) (by omega) (by omega), y3 125 (5 * k + 1) (by omega) (by omega), y3 125 (5 * k + 2) (by omega) (by omega), y3 125 (5 * k + 3) (by omega) (by omega), y3 125 (5 * k + 4) (by omega) (by omega)]
                      exact g5.2 k (by omega)
                  · rw [v1 _ _ (by omega), y3 _ _ (by omega) (by omega)]
                    exact g6 k hk
                  · by_cases e : k = i
                    · rw [e, show pup ps i p i = p from if_pos rfl]
                      exact ⟨z9, z6, z7, z8⟩
                    · rw [show pup ps i p k = ps k from if_neg e]
                      exact g7 k (by omega))
           · refine xk_1 ?_
             refine xr_istore2 hc rfl rfl ?_
             refine xr_iloadn hc rfl rfl ?_
             refine xr_ift hc rfl (t := 41) rfl (by simp [dz_cmp]) ?_
             first
               | (have er2 : (rdt c nn) = (false, (rwd c nn (c (rh c nn + 1) - 48) ps i p).2, i, ps) := by
                    rw [her, hrm, erm, if_neg (by rw [y1]; decide)]
                  have ef : rflt c nn = ((rwd c nn (c (rh c nn + 1) - 48) ps i p).2 : Int) := by unfold rflt; rw [er2]; rfl
                  exact t0 N2 (fun q2 k2 v1 v2 => by rw [y3 _ _ (by omega) (by omega), g1 _ _ v1 v2]) (by rw [ef, y4]) (by rw [y4]; omega))
               | (refine ih (i + 1) (pup ps i p) (skp c nn (p + 4)) N3 (by omega) (fun q2 k2 u1 u2 => ?_) v2 (skp_in hp4).2 ⟨by rw [v1 _ _ (by omega)]; exact y5, fun k hk => ?_⟩ (fun k hk => ?_) (fun k hk => ?_) (by rw [v1 _ _ (by omega), y3 _ _ (by omega) (by omega)]; exact g15) (by rw [v1 _ _ (by omega), y3 _ _ (by omega) (by omega)]; exact g8) (by rw [v1 _ _ (by omega), y3 _ _ (by omega) (by omega)]; exact g9) (by omega) (by rw [hrm, erm, if_pos y1, y2])
                  · rw [v1 _ _ (by omega), y3 _ _ (by omega) (by omega), g1 _ _ u1 u2]
                  · rw [v1 _ _ (by omega), v1 _ _ (by omega), v1 _ _ (by omega), v1 _ _ (by omega), v1 _ _ (by omega)]
                    by_cases e : k = i
                    · rw [e]
                      exact ⟨z1, z2, z3, z4, z5⟩
                    · obtain ⟨w1, w2, w3, w4, w5⟩ := pup_c (c := c) (ps := ps) (i := i) (p := p) e
                      rw [w1, w2, w3, w4, w5, y3 125 (5 * k) (by omega) (by omega), y3 125 (5 * k + 1) (by omega) (by omega), y3 125 (5 * k + 2) (by omega) (by omega), y3 125 (5 * k + 3) (by omega) (by omega), y3 125 (5 * k + 4) (by omega) (by omega)]
                      exact g5.2 k (by omega)
                  · rw [v1 _ _ (by omega), y3 _ _ (by omega) (by omega)]
                    exact g6 k hk
                  · by_cases e : k = i
                    · rw [e, show pup ps i p i = p from if_pos rfl]
                      exact ⟨z9, z6, z7, z8⟩
                    · rw [show pup ps i p k = ps k from if_neg e]
                      exact g7 k (by omega)))
  refine xr_aloadn hc rfl rfl ?_
  refine xr_callv0 hc rfl (by first | assumption | rfl) rfl rfl rfl (Nat.le_of_ble_eq_true rfl) (Nat.zero_le _) (Nat.zero_le _) ?_
  refine D_readsPlaces (tx := tx) (nn := nn) (p := 0) (c := c) hl htx hn (fun k hk => by rw [m0 _ _ (by omega) (by omega)]; exact hc2 k hk) m15 m2 m3 (by omega) rfl (fun f1 f2 N a1 a2 a3 => ?_) (fun f1 N a1 a2 => ?_) (fun f1 f2 N a1 a2 => ?_)
  · refine xk_1 ?_
    refine xr_istore2 hc rfl rfl ?_
    refine xr_iloadn hc rfl rfl ?_
    refine xr_iff hc rfl (by simp [dz_cmp]) ?_
    refine xr_aloadn hc rfl rfl ?_
    refine xr_callv0 hc rfl (by first | assumption | rfl) rfl rfl rfl (Nat.le_of_ble_eq_true rfl) (Nat.zero_le _) (Nat.zero_le _) ?_
    have hple : rh c nn + 2 ≤ nn := by have z := f2.1; omega
    refine D_skip (tx := tx) (nn := nn) (p := rh c nn + 2) (c := c) hl htx hn (fun k hk => by rw [a1 _ _ (by omega) (by omega), m0 _ _ (by omega) (by omega)]; exact hc2 k hk) (by rw [a1 _ _ (by omega) (by omega)]; exact m15) (by rw [a1 _ _ (by omega) (by omega)]; exact m2) a2 hple (fun N3 v1 v2 => ?_)
    refine xk_0 ?_
    first
      | (have er2 : (rdt c nn) = (false, rh c nn, 0, fun _ => 0) := by unfold rdt; rw [if_pos f1]
         have ef : rflt c nn = (rh c nn : Int) := by unfold rflt; rw [er2]; rfl
         exact t0 N (fun q2 k2 u1 u2 => by rw [a1 _ _ (by omega) (by omega), m0 _ _ u1 u2]) (by rw [ef, a2]) (by rw [a2]; omega))
      | (have er2 : (rdt c nn) = (false, rh c nn + 1, 0, fun _ => 0) := by unfold rdt; rw [if_neg (fun z => z f1), if_pos f2]
         have ef : rflt c nn = ((rh c nn + 1 : Nat) : Int) := by unfold rflt; rw [er2]; rfl
         exact t0 N (fun q2 k2 u1 u2 => by rw [a1 _ _ (by omega) (by omega), m0 _ _ u1 u2]) (by rw [ef, a2]) (by rw [a2]; omega))
      | (have her : (rdt c nn) = rml c nn (c (rh c nn + 1) - 48) 8 0 (fun _ => 0) (skp c nn (rh c nn + 2)) := by
           unfold rdt
           rw [if_neg (fun z => z f1), if_neg (fun z => z f2)]
         have hf := f2.2
         exact lp her (by omega) 7 0 (fun _ => 0) (skp c nn (rh c nn + 2)) N3 (by omega) (fun q2 k2 u1 u2 => by rw [v1 _ _ (by omega), a1 _ _ (by omega) (by omega), m0 _ _ u1 u2]) v2 (skp_in hple).2 ⟨by rw [v1 _ _ (by omega), a1 _ _ (by omega) (by omega)]; exact m4, fun k hk => by omega⟩ (fun k hk => by rw [v1 _ _ (by omega), a1 _ _ (by omega) (by omega), m0 _ _ (by omega) (by omega)]; exact hc2 k hk) (fun k hk => by omega) (by rw [v1 _ _ (by omega), a1 _ _ (by omega) (by omega)]; exact m15) (by rw [v1 _ _ (by omega), a1 _ _ (by omega) (by omega)]; exact m2) (by rw [v1 _ _ (by omega)]; exact a3) (by omega) rfl)
  · refine xk_1 ?_
    refine xr_istore2 hc rfl rfl ?_
    refine xr_iloadn hc rfl rfl ?_
    refine xr_ift hc rfl (t := 41) rfl (by simp [dz_cmp]) ?_
    first
      | (have er2 : (rdt c nn) = (false, rh c nn, 0, fun _ => 0) := by unfold rdt; rw [if_pos f1]
         have ef : rflt c nn = (rh c nn : Int) := by unfold rflt; rw [er2]; rfl
         exact t0 N (fun q2 k2 u1 u2 => by rw [a1 _ _ (by omega) (by omega), m0 _ _ u1 u2]) (by rw [ef, a2]) (by rw [a2]; omega))
      | (have er2 : (rdt c nn) = (false, rh c nn + 1, 0, fun _ => 0) := by unfold rdt; rw [if_neg (fun z => z f1), if_pos f2]
         have ef : rflt c nn = ((rh c nn + 1 : Nat) : Int) := by unfold rflt; rw [er2]; rfl
         exact t0 N (fun q2 k2 u1 u2 => by rw [a1 _ _ (by omega) (by omega), m0 _ _ u1 u2]) (by rw [ef, a2]) (by rw [a2]; omega))
      | (have her : (rdt c nn) = rml c nn (c (rh c nn + 1) - 48) 8 0 (fun _ => 0) (skp c nn (rh c nn + 2)) := by
           unfold rdt
           rw [if_neg (fun z => z f1), if_neg (fun z => z f2)]
         have hf := f2.2
         exact lp her (by omega) 7 0 (fun _ => 0) (skp c nn (rh c nn + 2)) N3 (by omega) (fun q2 k2 u1 u2 => by rw [v1 _ _ (by omega), a1 _ _ (by omega) (by omega), m0 _ _ u1 u2]) v2 (skp_in hple).2 ⟨by rw [v1 _ _ (by omega), a1 _ _ (by omega) (by omega)]; exact m4, fun k hk => by omega⟩ (fun k hk => by rw [v1 _ _ (by omega), a1 _ _ (by omega) (by omega), m0 _ _ (by omega) (by omega)]; exact hc2 k hk) (fun k hk => by omega) (by rw [v1 _ _ (by omega), a1 _ _ (by omega) (by omega)]; exact m15) (by rw [v1 _ _ (by omega), a1 _ _ (by omega) (by omega)]; exact m2) (by rw [v1 _ _ (by omega)]; exact a3) (by omega) rfl)
  · refine xk_1 ?_
    refine xr_istore2 hc rfl rfl ?_
    refine xr_iloadn hc rfl rfl ?_
    refine xr_ift hc rfl (t := 41) rfl (by simp [dz_cmp]) ?_
    first
      | (have er2 : (rdt c nn) = (false, rh c nn, 0, fun _ => 0) := by unfold rdt; rw [if_pos f1]
         have ef : rflt c nn = (rh c nn : Int) := by unfold rflt; rw [er2]; rfl
         exact t0 N (fun q2 k2 u1 u2 => by rw [a1 _ _ (by omega) (by omega), m0 _ _ u1 u2]) (by rw [ef, a2]) (by rw [a2]; omega))
      | (have er2 : (rdt c nn) = (false, rh c nn + 1, 0, fun _ => 0) := by unfold rdt; rw [if_neg (fun z => z f1), if_pos f2]
         have ef : rflt c nn = ((rh c nn + 1 : Nat) : Int) := by unfold rflt; rw [er2]; rfl
         exact t0 N (fun q2 k2 u1 u2 => by rw [a1 _ _ (by omega) (by omega), m0 _ _ u1 u2]) (by rw [ef, a2]) (by rw [a2]; omega))
      | (have her : (rdt c nn) = rml c nn (c (rh c nn + 1) - 48) 8 0 (fun _ => 0) (skp c nn (rh c nn + 2)) := by
           unfold rdt
           rw [if_neg (fun z => z f1), if_neg (fun z => z f2)]
         have hf := f2.2
         exact lp her (by omega) 7 0 (fun _ => 0) (skp c nn (rh c nn + 2)) N3 (by omega) (fun q2 k2 u1 u2 => by rw [v1 _ _ (by omega), a1 _ _ (by omega) (by omega), m0 _ _ u1 u2]) v2 (skp_in hple).2 ⟨by rw [v1 _ _ (by omega), a1 _ _ (by omega) (by omega)]; exact m4, fun k hk => by omega⟩ (fun k hk => by rw [v1 _ _ (by omega), a1 _ _ (by omega) (by omega), m0 _ _ (by omega) (by omega)]; exact hc2 k hk) (fun k hk => by omega) (by rw [v1 _ _ (by omega), a1 _ _ (by omega) (by omega)]; exact m15) (by rw [v1 _ _ (by omega), a1 _ _ (by omega) (by omega)]; exact m2) (by rw [v1 _ _ (by omega)]; exact a3) (by omega) rfl)
set_option maxRecDepth 100000 in
theorem D_fault {xo : Nat → List Int} {d : Nat} {Q : dz_Q} {sh : List (Nat ⊕ (Nat × Nat))} {rf : Nat → Nat → Nat} {M : Nat → Nat → Int} {rs : Nat → Int} {it : Nat → Nat → Int} {ts : Nat → Int} {ch : Nat → Nat → Int} {tl up lo : Int} {fn : Nat → Int} {w pl : Int} {kd wt nx : Nat → Int} {n : Nat} {hs : Nat → Nat → Int} {kp : Nat → Int} {kh : Nat → Nat → Nat → Int} {t : Int} (hl : ml sh rf) (hR : RM M rs it ts ch tl up lo fn w pl kd wt nx n hs kp kh) (hW : WF rs it ts ch tl up lo fn w pl kd wt nx n hs kp kh) (hQ : ∀ M2 : Nat → Nat → Int, (∀ q2 k2, q2 < 115 → M2 q2 k2 = M q2 k2) → RM M2 rs it ts ch tl up lo (o_fault ts ch fn t).2 w pl kd wt nx n hs kp kh → Q (some (dz_i ((o_fault ts ch fn t).1))) (sh, rf, M2)) : dz_E dz_pp xo (d + 6) 145 [dz_r 115, dz_i t] (sh, rf, M) Q := by
  refine ⟨Nat.le_of_ble_eq_true rfl, ?_⟩
  have hc := dz_E_m dz_pp xo (d + 5)
  show dz_X (dz_E dz_pp xo (d + 5)) dz_pp xo (dz_pp 145) Q 0 [some (dz_r 115), some (dz_i t)] [] 0 0 (sh, rf, M)
  obtain ⟨c0, c1, c2, c3, c4, c5, c6, c7, c8, c9, c10, c11, c12, c13, c14, c15, c16, c17, c18, c19, c20, c21, c22, c23, c24, c25, c26, c27, c28, c29⟩ := id hl
  obtain ⟨hrow, htxt, htl, hup, hlo, hfn, hdr, hkp⟩ := id hR
  obtain ⟨wrow, wtxt, wdr, wst, wkp⟩ := id hW
  have hw6 := WF_w hW
  have hdr3 : drM M w pl kd wt nx n hs ∧ w ≤ 6 ∧ n ≤ 40 := ⟨hdr, hw6.2, wst.1⟩
  have hkp3 : kepM M w kp kh ∧ w ≤ 6 ∧ ∀ k, k < 3 → kp k ≤ 40 := ⟨hkp, hw6.2, fun k hk => by
    rcases wkp k hk with z | z
    · omega
    · exact z.2.1⟩
  refine xr_iloadn hc rfl rfl ?_
  refine xr_calls1 hc rfl (by decide) rfl rfl rfl (Nat.le_of_ble_eq_true rfl) (Nat.zero_le _) (Nat.zero_le _) ?_
  refine D_isText (fun u1 v1 => ?_) (fun u1 => ?_)
  · refine xk_1 ?_
    refine xr_ift hc rfl (t := 9) rfl (by simp [dz_cmp]) ?_
    obtain ⟨e1, e2⟩ := htxt t.toNat (by omega)
    obtain ⟨w1, w2⟩ := wtxt t.toNat (by omega)
    refine xr_aloadn hc rfl rfl ?_
    refine xr_getfr hc rfl rfl (by first | assumption | rfl) (by first | assumption | rfl) ?_
    refine xr_iloadn hc rfl rfl ?_
    first | refine xr_iaload hc rfl (by first | assumption | rfl) (by first | omega | (unfold dz_w; omega)) (by first | omega | (unfold dz_w; omega)) ?_ | refine xr_ialoado hc rfl (by first | omega | (unfold dz_w; omega)) (by first | omega | (unfold dz_w; omega)) ?_
    rw [e1]
    refine xr_if_ge hc rfl (t := 26) rfl (fun b15 => ?_) (fun b15 => ?_)
    · refine xr_aloadn hc rfl rfl ?_
      refine xr_iloadn hc rfl rfl ?_
      refine xr_callv1 hc rfl (by first | assumption | rfl) rfl rfl rfl (Nat.le_of_ble_eq_true rfl) (Nat.zero_le _) (Nat.zero_le _) ?_
      obtain ⟨tn, htn⟩ : ∃ tn : Nat, t = (tn : Int) := ⟨t.toNat, by omega⟩
      subst htn
      rw [Int.toNat_natCast] at e1 e2 w1 w2 b15
      refine D_faultOf (tx := tn) (nn := (ts tn).toNat) (c := ch tn) hl (by omega) (by omega) (by rw [e1]; omega) (fun k hk => ⟨e2 k (by omega), w2 k (by omega)⟩) (fun M2 y1 y2 => ?_)
      have hsx : scr M M2 := fun q2 k2 u1 u2 u3 => y1 _ _ (by omega) (by omega)
      refine xk_1 ?_
      refine xr_ireturn hc rfl rfl (Nat.zero_le _) (Nat.zero_le _) ?_
      first
        | (simp only [o_fault] at hQ
           rw [if_neg (by omega), if_pos (by omega)] at hQ
           exact hQ M2 z1 z2)
        | (simp only [o_fault] at hQ
           rw [Int.toNat_natCast] at hQ
           rw [if_neg (by omega), if_neg (by omega)] at hQ
           exact hQ M2 (fun q2 k2 u => y1 _ _ (by omega) (by omega)) (RM_scr hR hW hsx))
    · refine xr_aloadn hc rfl rfl ?_
      refine xr_iconst hc rfl ?_
      refine xr_callv1 hc rfl (by first | assumption | rfl) rfl rfl rfl (Nat.le_of_ble_eq_true rfl) (Nat.zero_le _) (Nat.zero_le _) ?_
      refine D_find hl hR hW (by omega) (fun M2 z1 z2 => ?_)
      refine xk_1 ?_
      refine xr_goto hc rfl (t := 31) rfl ?_
      refine xr_ireturn hc rfl rfl (Nat.zero_le _) (Nat.zero_le _) ?_
      first
        | (simp only [o_fault] at hQ
           rw [if_neg (by omega), if_pos (by omega)] at hQ
           exact hQ M2 z1 z2)
        | (simp only [o_fault] at hQ
           rw [Int.toNat_natCast] at hQ
           rw [if_neg (by omega), if_neg (by omega)] at hQ
           exact hQ M2 (fun q2 k2 u => y1 _ _ (by omega) (by omega)) (RM_scr hR hW hsx))
  · refine xk_1 ?_
    refine xr_iff hc rfl (by simp [dz_cmp]) ?_
    refine xr_iconst hc rfl ?_
    refine xr_ireturn hc rfl rfl (Nat.zero_le _) (Nat.zero_le _) ?_
    simp only [o_fault] at hQ
    repeat (first | rw [if_pos (by omega)] at hQ | rw [if_neg (by omega)] at hQ)
    try dsimp only at hQ
    exact hQ M (fun _ _ _ => rfl) hR
