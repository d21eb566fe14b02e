/-! The class reads a text: fault, drum. Written by l2_74.py. -/
/-- words that are well told -/
def wok (c : Nat → Int) (n : Nat) (pl : Int) (ps : Nat → Nat) (i : Nat) : Prop := ∀ k, k < i → kl (c (ps k)) ≠ -9 ∧ fig c n 0 (pl - 1) (ps k + 1) ∧ fig c n 0 (if kl (c (ps k)) = 0 then 9 else 5) (ps k + 2) ∧ fig c n 0 (if kl (c (ps k)) = 0 then 9 else 5) (ps k + 3)
theorem rat_all {c : Nat → Int} {ps : Nat → Nat} {W : Nat} : ∀ m, rat c ps W m = true ↔ ∀ k, k < m → wWt c ps k < W ∧ wNx c ps k < W
  | 0 => ⟨fun _ k hk => by omega, fun _ => rfl⟩
  | m + 1 => by
    have ih := rat_all (c := c) (ps := ps) (W := W) m
    unfold rat
    rw [Bool.and_eq_true, ih, decide_eq_true_iff]
    refine ⟨fun h k hk => ?_, fun h => ⟨fun k hk => h k (by omega), h m (by omega)⟩⟩
    by_cases e : k = m
    · rw [e]
      exact h.2
    · exact h.1 k (by omega)
theorem wok_in {c : Nat → Int} {n : Nat} {pl : Int} {ps : Nat → Nat} {i k : Nat} (h : wok c n pl ps i) (hk : k < i) : 0 ≤ wKd c ps k ∧ wKd c ps k ≤ 5 ∧ 0 ≤ wPl c ps k ∧ wPl c ps k < pl ∧ 0 ≤ wVl c ps k ∧ wVl c ps k ≤ 99 ∧ 0 ≤ wWt c ps k ∧ 0 ≤ wNx c ps k := by
  obtain ⟨h1, h2, h3, h4⟩ := h k hk
  have hk2 := kl_in (c (ps k))
  have h2a := h2.2
  have h3a := h3.2
  have h4a := h4.2
  unfold wKd wPl wVl wWt wNx
  by_cases e : kl (c (ps k)) = 0
  · rw [if_pos e] at h3a h4a
    rw [if_pos e, if_pos e, if_pos e]
    omega
  · rw [if_neg e] at h3a h4a
    rw [if_neg e, if_neg e, if_neg e]
    omega
theorem pup_c {c : Nat → Int} {ps : Nat → Nat} {i p k : Nat} (h : k ≠ i) : wKd c (pup ps i p) k = wKd c ps k ∧ wPl c (pup ps i p) k = wPl c ps k ∧ wVl c (pup ps i p) k = wVl c ps k ∧ wWt c (pup ps i p) k = wWt c ps k ∧ wNx c (pup ps i p) k = wNx c ps k := by
  have e : pup ps i p k = ps k := if_neg h
  unfold wKd wPl wVl wWt wNx
  rw [e]
  exact ⟨rfl, rfl, rfl, rfl, rfl⟩
def ist (c : Nat → Int) (ps : Nat → Nat) : Nat → Int := fun k => if 5 ≤ k ∧ k < 11 then wPl c ps (k - 5) else if 11 ≤ k ∧ k < 17 then wVl c ps (k - 11) else 0
def o_fault (ts : Nat → Int) (ch : Nat → Nat → Int) (fn : Nat → Int) (t : Int) : Int × (Nat → Int) := if t < 0 ∨ 3 < t then (-1, fn) else if ts t.toNat = -1 then (-3, rfu fn 1) else (rflt (ch t.toNat) (ts t.toNat).toNat, fn)
def o_drum (ts : Nat → Int) (ch : Nat → Nat → Int) (fn : Nat → Int) (w pl : Int) (kd wt nx : Nat → Int) (n : Nat) (hs : Nat → Nat → Int) (kp : Nat → Int) (t : Int) : Int × (Nat → Int) × Int × Int × (Nat → Int) × (Nat → Int) × (Nat → Int) × Nat × (Nat → Nat → Int) × (Nat → Int) := if t < 0 ∨ 3 < t then (-1, fn, w, pl, kd, wt, nx, n, hs, kp) else if ts t.toNat = -1 then (-3, rfu fn 1, w, pl, kd, wt, nx, n, hs, kp) else if rflt (ch t.toNat) (ts t.toNat).toNat ≠ -9 then (-4, fn, w, pl, kd, wt, nx, n, hs, kp) else (((rdt (ch t.toNat) (ts t.toNat).toNat).2.2.1 : Int), fn, ((rdt (ch t.toNat) (ts t.toNat).toNat).2.2.1 : Int), ch t.toNat (rh (ch t.toNat) (ts t.toNat).toNat + 1) - 48, wKd (ch t.toNat) (rdt (ch t.toNat) (ts t.toNat).toNat).2.2.2, wWt (ch t.toNat) (rdt (ch t.toNat) (ts t.toNat).toNat).2.2.2, wNx (ch t.toNat) (rdt (ch t.toNat) (ts t.toNat).toNat).2.2.2, 0, (fun _ => ist (ch t.toNat) (rdt (ch t.toNat) (ts t.toNat).toNat).2.2.2), fun _ => -1)
set_option maxRecDepth 100000 in
theorem S_tellsOnly {xo : Nat → List Int} {d : Nat} {Q : dz_Q} {sh : List (Nat ⊕ (Nat × Nat))} {rf : Nat → Nat → Nat} {M : Nat → Nat → Int} {c : Nat → Int} {ps : Nat → Nat} {W nn : Nat} {pl : Int} (hl : cl sh rf) (hW6 : W ≤ 6) (hdm : (M 42 0 = (W : Int) ∧ ∀ k, k < W → M 43 k = wKd c ps k ∧ M 44 k = wPl c ps k ∧ M 45 k = wVl c ps k ∧ M 46 k = wWt c ps k ∧ M 47 k = wNx c ps k)) (hwo : wok c nn pl ps W) (h1 : rat c ps W W = true → Q (some (dz_i 1)) (sh, rf, M)) (h0 : ¬ rat c ps W W = true → Q (some (dz_i 0)) (sh, rf, M)) : dz_E dz_pp xo (d + 3) 44 [dz_r 41] (sh, rf, M) Q := by
  refine ⟨Nat.le_of_ble_eq_true rfl, ?_⟩
  have hc := dz_E_m dz_pp xo (d + 2)
  show dz_X (dz_E dz_pp xo (d + 2)) dz_pp xo (dz_pp 44) Q 0 [some (dz_r 41), none] [] 0 0 (sh, rf, M)
  obtain ⟨c0, c1, c2, c3, c4, c5, c6, c7, c8, c9, c10, c11, c12, c13, c14, c15, c16, c17, c18, c19, c20, c21, c22, c23, c24, c25, c26, c27, c28, c29, c30, c31, c32, c33, c34, c35, c36⟩ := id hl
  have tx : Nat := 0
  have htx : (0 : Nat) < 4 := by omega
  have r0 : sh[41]? = some (.inl 3) := c22
  have r1 : rf 41 0 = 42 + 1 := c23
  have r2 : sh[42]? = some (.inl 1) := c24.1
  have r3 : rf 42 6 = 43 + 1 := c24.2.1
  have r4 : sh[43]? = some (.inr (0, 6)) := c24.2.2.1
  have r5 : rf 42 7 = 44 + 1 := c24.2.2.2.1
  have r6 : sh[44]? = some (.inr (0, 6)) := c24.2.2.2.2.1
  have r7 : rf 42 8 = 45 + 1 := c24.2.2.2.2.2.1
  have r8 : sh[45]? = some (.inr (0, 6)) := c24.2.2.2.2.2.2.1
  have r9 : rf 42 9 = 46 + 1 := c24.2.2.2.2.2.2.2.1
  have r10 : sh[46]? = some (.inr (0, 6)) := c24.2.2.2.2.2.2.2.2.1
  have r11 : rf 42 10 = 47 + 1 := c24.2.2.2.2.2.2.2.2.2.1
  have r12 : sh[47]? = some (.inr (0, 6)) := c24.2.2.2.2.2.2.2.2.2.2.1
  have r13 := c10 0 htx
  have lp : ∀ (m_ : Nat) (k : Nat), k + m_ = W → (∀ i, i < k → wWt c ps i < W ∧ wNx c ps i < W) → dz_X (dz_E dz_pp xo (d + 2)) dz_pp xo (dz_pp 44) Q 2 [some (dz_r 41), some (dz_i (k : Int))] [] 0 0 (sh, rf, M) := by
    intro m_
    induction m_ with
    | zero =>
      intro k hk hall
      refine xr_iloadn hc rfl rfl ?_
      refine xr_aloadn hc rfl rfl ?_
      refine xr_getfr hc rfl rfl (by first | assumption | rfl) (by first | assumption | rfl) ?_
      refine xr_getfi hc rfl (Or.inl rfl) (by first | assumption | rfl) ?_
      rw [hdm.1]
      refine xr_icmp_ge hc rfl (t := 59) rfl (fun b10 => ?_) (fun b10 => ?_)
      · refine xr_iconst hc rfl ?_
        refine xr_zreturn hc rfl rfl (Nat.zero_le _) (Nat.zero_le _) (by first | exact Or.inl rfl | exact Or.inr rfl | assumption) ?_
        exact h1 ((rat_all W).mpr (fun i hi => hall i (by omega)))
      · omega
    | succ m_ ih =>
      intro k hk hall
      obtain ⟨d1, d2, d3, d4, d5⟩ := hdm.2 k (by omega)
      have hin := wok_in hwo (show k < W by omega)
      refine xr_iloadn hc rfl rfl ?_
      refine xr_aloadn hc rfl rfl ?_
      refine xr_getfr hc rfl rfl (by first | assumption | rfl) (by first | assumption | rfl) ?_
      refine xr_getfi hc rfl (Or.inl rfl) (by first | assumption | rfl) ?_
      rw [hdm.1]
      refine xr_icmp_ge hc rfl (t := 59) rfl (fun b10 => ?_) (fun b10 => ?_)
      · omega
      · refine xr_aloadn hc rfl rfl ?_
        refine xr_getfr hc rfl rfl (by first | assumption | rfl) (by first | assumption | rfl) ?_
        refine xr_aloadn hc rfl rfl ?_
        refine xr_getfr hc rfl rfl (by first | assumption | rfl) (by first | assumption | rfl) ?_
        refine xr_getfr hc rfl rfl (by first | assumption | rfl) (by first | assumption | rfl) ?_
        refine xr_iloadn hc rfl rfl ?_
        first | refine xr_iaload hc rfl (by first | assumption | rfl) (by first | omega | (unfold dz_w; omega)) (by first | omega | (unfold dz_w; omega)) ?_ | refine xr_ialoado hc rfl (by first | omega | (unfold dz_w; omega)) (by first | omega | (unfold dz_w; omega)) ?_
        rw [Int.toNat_natCast, d4]
        refine xr_callv1 hc rfl (by first | assumption | rfl) rfl rfl rfl (Nat.le_of_ble_eq_true rfl) (Nat.zero_le _) (Nat.zero_le _) ?_
        refine S_has (q := 42) c24 (by rw [hdm.1]; omega) (fun u1 v1 => ?_) (fun u1 => ?_)
        all_goals try rw [hdm.1] at v1
        all_goals try rw [hdm.1] at u1
        · refine xk_1 ?_
          refine xr_iff hc rfl (by simp [dz_cmp]) ?_
          refine xr_aloadn hc rfl rfl ?_
          refine xr_getfr hc rfl rfl (by first | assumption | rfl) (by first | assumption | rfl) ?_
          refine xr_aloadn hc rfl rfl ?_
          refine xr_getfr hc rfl rfl (by first | assumption | rfl) (by first | assumption | rfl) ?_
          refine xr_getfr hc rfl rfl (by first | assumption | rfl) (by first | assumption | rfl) ?_
          refine xr_iloadn hc rfl rfl ?_
          first | refine xr_iaload hc rfl (by first | assumption | rfl) (by first | omega | (unfold dz_w; omega)) (by first | omega | (unfold dz_w; omega)) ?_ | refine xr_ialoado hc rfl (by first | omega | (unfold dz_w; omega)) (by first | omega | (unfold dz_w; omega)) ?_
          rw [Int.toNat_natCast, d5]
          refine xr_callv1 hc rfl (by first | assumption | rfl) rfl rfl rfl (Nat.le_of_ble_eq_true rfl) (Nat.zero_le _) (Nat.zero_le _) ?_
          refine S_has (q := 42) c24 (by rw [hdm.1]; omega) (fun u2 v2 => ?_) (fun u2 => ?_)
          all_goals try rw [hdm.1] at v2
          all_goals try rw [hdm.1] at u2
          · refine xk_1 ?_
            refine xr_ift hc rfl (t := 53) rfl (by simp [dz_cmp]) ?_
            refine xr_iincz1 hc rfl rfl (by first | exact dz_wid (by first | omega | (unfold dz_w; omega)) (by first | omega | (unfold dz_w; omega)) | rfl) ?_
            refine xr_goto hc rfl (t := 2) rfl ?_
            exact ih (k + 1) (by omega) (fun i hi => by
              by_cases e : i = k
              · rw [e]
                omega
              · exact hall i (by omega))
          · refine xk_1 ?_
            refine xr_iff hc rfl (by simp [dz_cmp]) ?_
            refine xr_iconst hc rfl ?_
            refine xr_zreturn hc rfl rfl (Nat.zero_le _) (Nat.zero_le _) (by first | exact Or.inl rfl | exact Or.inr rfl | assumption) ?_
            exact h0 (fun z => by have y := (rat_all W).mp z k (by omega); omega)
        · refine xk_1 ?_
          refine xr_ift hc rfl (t := 51) rfl (by simp [dz_cmp]) ?_
          refine xr_iconst hc rfl ?_
          refine xr_zreturn hc rfl rfl (Nat.zero_le _) (Nat.zero_le _) (by first | exact Or.inl rfl | exact Or.inr rfl | assumption) ?_
          exact h0 (fun z => by have y := (rat_all W).mp z k (by omega); omega)
  refine xr_iconst hc rfl ?_
  refine xr_istore1 hc rfl rfl ?_
  exact lp W 0 (by omega) (fun i hi => by omega)
set_option maxRecDepth 100000 in
theorem S_faultOf {xo : Nat → List Int} {d : Nat} {Q : dz_Q} {sh : List (Nat ⊕ (Nat × Nat))} {rf : Nat → Nat → Nat} {M : Nat → Nat → Int} {tx nn : Nat} {c : Nat → Int} (hl : cl sh rf) (hx1 : xo 1 = dz_xs1) (htx : tx < 4) (hn : nn ≤ 60) (hc2 : ∀ k, k < nn → M (10 + tx) k = c k ∧ -128 ≤ c k ∧ c k ≤ 127) (hQ : ∀ M2 : Nat → Nat → Int, (∀ q2 k2, ¬ (q2 = 41 ∧ (k2 = 2 ∨ k2 = 3)) → ¬ (q2 = 42 ∧ (k2 = 0 ∨ k2 = 1 ∨ k2 = 4)) → ¬ (43 ≤ q2 ∧ q2 ≤ 47) → M2 q2 k2 = M q2 k2) → (rflt c nn = -9 → M2 42 1 = (c (rh c nn + 1) - 48) ∧ M2 42 4 = 0 ∧ (M2 42 0 = ((rdt c nn).2.2.1 : Int) ∧ ∀ k, k < (rdt c nn).2.2.1 → M2 43 k = wKd c (rdt c nn).2.2.2 k ∧ M2 44 k = wPl c (rdt c nn).2.2.2 k ∧ M2 45 k = wVl c (rdt c nn).2.2.2 k ∧ M2 46 k = wWt c (rdt c nn).2.2.2 k ∧ M2 47 k = wNx c (rdt c nn).2.2.2 k) ∧ wok c nn (c (rh c nn + 1) - 48) (rdt c nn).2.2.2 (rdt c nn).2.2.1 ∧ 2 ≤ (rdt c nn).2.2.1 ∧ (rdt c nn).2.2.1 ≤ 6 ∧ rat c (rdt c nn).2.2.2 (rdt c nn).2.2.1 (rdt c nn).2.2.1 = true ∧ 6 ≤ (c (rh c nn + 1) - 48) ∧ (c (rh c nn + 1) - 48) ≤ 9) → Q (some (dz_i (rflt c nn))) (sh, dz_up rf 41 1 (10 + tx + 1), M2)) : dz_E dz_pp xo (d + 5) 37 [dz_r 41, dz_r (10 + tx), dz_i (nn : Int)] (sh, rf, M) Q := by
  refine ⟨Nat.le_of_ble_eq_true rfl, ?_⟩
  have hc := dz_E_m dz_pp xo (d + 4)
  show dz_X (dz_E dz_pp xo (d + 4)) dz_pp xo (dz_pp 37) Q 0 [some (dz_r 41), some (dz_r (10 + tx)), some (dz_i (nn : Int)), none] [] 0 0 (sh, rf, M)
  obtain ⟨c0, c1, c2, c3, c4, c5, c6, c7, c8, c9, c10, c11, c12, c13, c14, c15, c16, c17, c18, c19, c20, c21, c22, c23, c24, c25, c26, c27, c28, c29, c30, c31, c32, c33, c34, c35, c36⟩ := id hl
  have r0 : sh[41]? = some (.inl 3) := c22
  have r1 : rf 41 0 = 42 + 1 := c23
  have r2 : sh[42]? = some (.inl 1) := c24.1
  have r3 : rf 42 6 = 43 + 1 := c24.2.1
  have r4 : sh[43]? = some (.inr (0, 6)) := c24.2.2.1
  have r5 : rf 42 7 = 44 + 1 := c24.2.2.2.1
  have r6 : sh[44]? = some (.inr (0, 6)) := c24.2.2.2.2.1
  have r7 : rf 42 8 = 45 + 1 := c24.2.2.2.2.2.1
  have r8 : sh[45]? = some (.inr (0, 6)) := c24.2.2.2.2.2.2.1
  have r9 : rf 42 9 = 46 + 1 := c24.2.2.2.2.2.2.2.1
  have r10 : sh[46]? = some (.inr (0, 6)) := c24.2.2.2.2.2.2.2.2.1
  have r11 : rf 42 10 = 47 + 1 := c24.2.2.2.2.2.2.2.2.2.1
  have r12 : sh[47]? = some (.inr (0, 6)) := c24.2.2.2.2.2.2.2.2.2.2.1
  have r13 := c10 tx htx
  have hl2 : cl sh (dz_up rf 41 1 (10 + tx + 1)) := cl_up hl
  refine xr_aloadn hc rfl rfl ?_
  refine xr_aloadn hc rfl rfl ?_
  refine xr_putfr hc rfl rfl (by first | assumption | rfl) ?_
  obtain ⟨rf2, hrf0⟩ : ∃ rf2, rf2 = dz_up rf 41 1 (10 + tx + 1) := ⟨_, rfl⟩
  rw [← hrf0] at hl2 hQ ⊢
  have hrf2 : rf2 41 1 = 10 + tx + 1 := by rw [hrf0, dz_up_eq]
  clear hrf0
  obtain ⟨d0, d1, d2, d3, d4, d5, d6, d7, d8, d9, d10, d11, d12, d13, d14, d15, d16, d17, d18, d19, d20, d21, d22, d23, d24, d25, d26, d27, d28, d29, d30, d31, d32, d33, d34, d35, d36⟩ := id hl2
  have rr1 : rf2 41 0 = 42 + 1 := d23
  refine xr_aloadn hc rfl rfl ?_
  refine xr_iloadn hc rfl rfl ?_
  refine xr_aloadn hc rfl rfl ?_
  first | refine xr_alen hc rfl (by first | assumption | rfl) ?_ | refine xr_aleno hc rfl ?_
  refine xr_calls2 hc rfl (by decide) rfl rfl rfl (Nat.le_of_ble_eq_true rfl) (Nat.zero_le _) (Nat.zero_le _) ?_
  refine S_min ?_
  refine xk_1 ?_
  rw [show min (nn : Int) ((60 : Nat) : Int) = (nn : Int) by omega]
  refine xr_putfi hc rfl rfl (by first | assumption | rfl) ?_
  refine xr_aloadn hc rfl rfl ?_
  refine xr_iconst hc rfl ?_
  refine xr_putfi hc rfl rfl (by first | assumption | rfl) ?_
  refine xr_aloadn hc rfl rfl ?_
  refine xr_getfr hc rfl rfl (by first | assumption | rfl) (by first | assumption | rfl) ?_
  refine xr_iconst hc rfl ?_
  refine xr_putfi hc rfl rfl (by first | assumption | rfl) ?_
  obtain ⟨MM, hMM⟩ : ∃ MM, MM = dz_up (dz_up (dz_up M 41 2 (nn : Int)) 41 3 0) 42 0 0 := ⟨_, rfl⟩
  rw [← hMM]
  have m0 : (∀ q2 k2, ¬ (q2 = 41 ∧ (k2 = 2 ∨ k2 = 3)) → ¬ (q2 = 42 ∧ (k2 = 0 ∨ k2 = 1 ∨ k2 = 4)) → ¬ (43 ≤ q2 ∧ q2 ≤ 47) → MM q2 k2 = M q2 k2) := fun q2 k2 v1 v2 v3 => by rw [hMM, dz_up_o (by omega), dz_up_o (by omega), dz_up_o (by omega)]
  have m2 : MM 41 2 = (nn : Int) := by rw [hMM, dz_up_ne (by omega), dz_up_k (by omega), dz_up_eq]
  have m3 : MM 41 3 = ((0 : Nat) : Int) := by rw [hMM, dz_up_ne (by omega), dz_up_eq]; rfl
  have m4 : MM 42 0 = 0 := by rw [hMM, dz_up_eq]
  have lp : (rdt c nn) = rml c nn (c (rh c nn + 1) - 48) 8 0 (fun _ => 0) (skp c nn (rh c nn + 2)) → (6 ≤ (c (rh c nn + 1) - 48) ∧ (c (rh c nn + 1) - 48) ≤ 9) → ∀ (m_ i : Nat) (ps : Nat → Nat) (p : Nat) (N : Nat → Nat → Int), i + m_ = 7 → (∀ q2 k2, ¬ (q2 = 41 ∧ (k2 = 2 ∨ k2 = 3)) → ¬ (q2 = 42 ∧ (k2 = 0 ∨ k2 = 1 ∨ k2 = 4)) → ¬ (43 ≤ q2 ∧ q2 ≤ 47) → N q2 k2 = M q2 k2) → N 41 3 = (p : Int) → p ≤ nn → (N 42 0 = (i : Int) ∧ ∀ k, k < i → N 43 k = wKd c ps k ∧ N 44 k = wPl c ps k ∧ N 45 k = wVl c ps k ∧ N 46 k = wWt c ps k ∧ N 47 k = wNx c ps k) → (∀ k, k < nn → N (10 + tx) k = c k ∧ -128 ≤ c k ∧ c k ≤ 127) → wok c nn (c (rh c nn + 1) - 48) ps i → N 41 2 = (nn : Int) → N 42 1 = (c (rh c nn + 1) - 48) → i ≤ 6 → rml c nn (c (rh c nn + 1) - 48) 8 0 (fun _ => 0) (skp c nn (rh c nn + 2)) = rml c nn (c (rh c nn + 1) - 48) (m_ + 1) i ps p → dz_X (dz_E dz_pp xo (d + 4)) dz_pp xo (dz_pp 37) Q 46 [some (dz_r 41), some (dz_r (10 + tx)), some (dz_i (nn : Int)), some (dz_i (i : Int))] [] 0 0 (sh, rf2, N) := by
    intro her hpl69 m_
    induction m_ with
    | zero =>
      intro i ps p N him g1 g3 g4 g5 g6 g7 g8 g9 hi6 hrm
      omega
    | succ m_ ih =>
      intro i ps p N him g1 g3 g4 g5 g6 g7 g8 g9 hi6 hrm
      refine xr_iloadn hc rfl rfl ?_
      refine xr_bipush hc rfl ?_
      refine xr_icmp_gt hc rfl (t := 92) rfl (fun b49 => ?_) (fun b49 => ?_)
      · first
        | (exfalso; omega)
        | (skip
           have hpn : p = nn := by omega
           have er2 : (rdt c nn) = (true, p, i, ps) := by
             rw [her, hrm]
             show (if p < nn then _ else _) = _
             rw [if_neg (by omega)]
           refine xr_aloadn hc rfl rfl ?_
           refine xr_getfr hc rfl rfl (by first | assumption | rfl) (by first | assumption | rfl) ?_
           refine xr_getfi hc rfl (Or.inl rfl) (by first | assumption | rfl) ?_
           rw [g5.1]
           refine xr_iconst hc rfl ?_
           refine xr_icmp_lt hc rfl (t := 110) rfl (fun b100 => ?_) (fun b100 => ?_)
           · first
             | (exfalso; omega)
             | (skip
                refine xr_aloadn hc rfl rfl ?_
                refine xr_getfi hc rfl (Or.inl rfl) (by first | assumption | rfl) ?_
                rw [g8]
                refine xr_ireturn hc rfl rfl (Nat.zero_le _) (Nat.zero_le _) ?_
                have ef : rflt c nn = (nn : Int) := by
                  unfold rflt
                  rw [er2]
                  show (if true = false then _ else if 2 ≤ i ∧ rat c ps i i = true then (-9 : Int) else (nn : Int)) = _
                  rw [if_neg (by decide), if_neg (fun z => by first | (have z1 := z.1; omega) | exact y z.2)]
                have z := hQ N g1 (fun z => by rw [ef] at z; omega)
                rw [ef] at z
                exact z)
           · first
             | (exfalso; omega)
             | (skip
                refine xr_aloadn hc rfl rfl ?_
                refine xr_callv0 hc rfl (by first | assumption | rfl) rfl rfl rfl (Nat.le_of_ble_eq_true rfl) (Nat.zero_le _) (Nat.zero_le _) ?_
                refine S_tellsOnly (c := c) (ps := ps) (W := i) (nn := nn) (pl := (c (rh c nn + 1) - 48)) hl2 (by omega) g5 g7 (fun y => ?_) (fun y => ?_)
                · refine xk_1 ?_
                  refine xr_ift hc rfl (t := 115) rfl (by simp [dz_cmp]) ?_
                  refine xr_aloadn hc rfl rfl ?_
                  refine xr_getfr hc rfl rfl (by first | assumption | rfl) (by first | assumption | rfl) ?_
                  refine xr_iconst hc rfl ?_
                  refine xr_putfi hc rfl rfl (by first | assumption | rfl) ?_
                  refine xr_bipush hc rfl ?_
                  refine xr_ireturn hc rfl rfl (Nat.zero_le _) (Nat.zero_le _) ?_
                  have ef : rflt c nn = -9 := by
                    unfold rflt
                    rw [er2]
                    show (if true = false then _ else if 2 ≤ i ∧ rat c ps i i = true then (-9 : Int) else (nn : Int)) = _
                    rw [if_neg (by decide), if_pos ⟨by omega, y⟩]
                  have z := hQ (dz_up N 42 4 0) (fun q2 k2 v1 v2 v3 => by rw [dz_up_o (by omega), g1 _ _ v1 v2 v3]) (fun _ => by
                    rw [er2]
                    exact ⟨by rw [dz_up_k (by omega)]; exact g9, dz_up_eq _ _ _ _, ⟨by rw [dz_up_k (by omega)]; exact g5.1, fun k hk => by rw [dz_up_ne (by omega), dz_up_ne (by omega), dz_up_ne (by omega), dz_up_ne (by omega), dz_up_ne (by omega)]; exact g5.2 k hk⟩, g7, by show 2 ≤ i; omega, by show i ≤ 6; omega, y, hpl69.1, hpl69.2⟩)
                  rw [ef] at z
                  exact z
                · refine xk_1 ?_
                  refine xr_iff hc rfl (by simp [dz_cmp]) ?_
                  refine xr_aloadn hc rfl rfl ?_
                  refine xr_getfi hc rfl (Or.inl rfl) (by first | assumption | rfl) ?_
                  rw [g8]
                  refine xr_ireturn hc rfl rfl (Nat.zero_le _) (Nat.zero_le _) ?_
                  have ef : rflt c nn = (nn : Int) := by
                    unfold rflt
                    rw [er2]
                    show (if true = false then _ else if 2 ≤ i ∧ rat c ps i i = true then (-9 : Int) else (nn : Int)) = _
                    rw [if_neg (by decide), if_neg (fun z => by first | (have z1 := z.1; omega) | exact y z.2)]
                  have z := hQ N g1 (fun z => by rw [ef] at z; omega)
                  rw [ef] at z
                  exact z))
      · first
        | (exfalso; omega)
        | (skip
           refine xr_aloadn hc rfl rfl ?_
           refine xr_getfi hc rfl (Or.inl rfl) (by first | assumption | rfl) ?_
           rw [g3]
           refine xr_aloadn hc rfl rfl ?_
           refine xr_getfi hc rfl (Or.inl rfl) (by first | assumption | rfl) ?_
           rw [g8]
           refine xr_icmp_ge hc rfl (t := 92) rfl (fun b60 => ?_) (fun b60 => ?_)
           · first
             | (exfalso; omega)
             | (skip
                have hpn : p = nn := by omega
                have er2 : (rdt c nn) = (true, p, i, ps) := by
                  rw [her, hrm]
                  show (if p < nn then _ else _) = _
                  rw [if_neg (by omega)]
                refine xr_aloadn hc rfl rfl ?_
                refine xr_getfr hc rfl rfl (by first | assumption | rfl) (by first | assumption | rfl) ?_
                refine xr_getfi hc rfl (Or.inl rfl) (by first | assumption | rfl) ?_
                rw [g5.1]
                refine xr_iconst hc rfl ?_
                refine xr_icmp_lt hc rfl (t := 110) rfl (fun b100 => ?_) (fun b100 => ?_)
                · first
                  | (exfalso; omega)
                  | (skip
                     refine xr_aloadn hc rfl rfl ?_
                     refine xr_getfi hc rfl (Or.inl rfl) (by first | assumption | rfl) ?_
                     rw [g8]
                     refine xr_ireturn hc rfl rfl (Nat.zero_le _) (Nat.zero_le _) ?_
                     have ef : rflt c nn = (nn : Int) := by
                       unfold rflt
                       rw [er2]
                       show (if true = false then _ else if 2 ≤ i ∧ rat c ps i i = true then (-9 : Int) else (nn : Int)) = _
                       rw [if_neg (by decide), if_neg (fun z => by first | (have z1 := z.1; omega) | exact y z.2)]
                     have z := hQ N g1 (fun z => by rw [ef] at z; omega)
                     rw [ef] at z
                     exact z)
                · first
                  | (exfalso; omega)
                  | (skip
                     refine xr_aloadn hc rfl rfl ?_
                     refine xr_callv0 hc rfl (by first | assumption | rfl) rfl rfl rfl (Nat.le_of_ble_eq_true rfl) (Nat.zero_le _) (Nat.zero_le _) ?_
                     refine S_tellsOnly (c := c) (ps := ps) (W := i) (nn := nn) (pl := (c (rh c nn + 1) - 48)) hl2 (by omega) g5 g7 (fun y => ?_) (fun y => ?_)
                     · refine xk_1 ?_
                       refine xr_ift hc rfl (t := 115) rfl (by simp [dz_cmp]) ?_
                       refine xr_aloadn hc rfl rfl ?_
                       refine xr_getfr hc rfl rfl (by first | assumption | rfl) (by first | assumption | rfl) ?_
                       refine xr_iconst hc rfl ?_
                       refine xr_putfi hc rfl rfl (by first | assumption | rfl) ?_
                       refine xr_bipush hc rfl ?_
                       refine xr_ireturn hc rfl rfl (Nat.zero_le _) (Nat.zero_le _) ?_
                       have ef : rflt c nn = -9 := by
                         unfold rflt
                         rw [er2]
                         show (if true = false then _ else if 2 ≤ i ∧ rat c ps i i = true then (-9 : Int) else (nn : Int)) = _
                         rw [if_neg (by decide), if_pos ⟨by omega, y⟩]
                       have z := hQ (dz_up N 42 4 0) (fun q2 k2 v1 v2 v3 => by rw [dz_up_o (by omega), g1 _ _ v1 v2 v3]) (fun _ => by
                         rw [er2]
                         exact ⟨by rw [dz_up_k (by omega)]; exact g9, dz_up_eq _ _ _ _, ⟨by rw [dz_up_k (by omega)]; exact g5.1, fun k hk => by rw [dz_up_ne (by omega), dz_up_ne (by omega), dz_up_ne (by omega), dz_up_ne (by omega), dz_up_ne (by omega)]; exact g5.2 k hk⟩, g7, by show 2 ≤ i; omega, by show i ≤ 6; omega, y, hpl69.1, hpl69.2⟩)
                       rw [ef] at z
                       exact z
                     · refine xk_1 ?_
                       refine xr_iff hc rfl (by simp [dz_cmp]) ?_
                       refine xr_aloadn hc rfl rfl ?_
                       refine xr_getfi hc rfl (Or.inl rfl) (by first | assumption | rfl) ?_
                       rw [g8]
                       refine xr_ireturn hc rfl rfl (Nat.zero_le _) (Nat.zero_le _) ?_
                       have ef : rflt c nn = (nn : Int) := by
                         unfold rflt
                         rw [er2]
                         show (if true = false then _ else if 2 ≤ i ∧ rat c ps i i = true then (-9 : Int) else (nn : Int)) = _
                         rw [if_neg (by decide), if_neg (fun z => by first | (have z1 := z.1; omega) | exact y z.2)]
                       have z := hQ N g1 (fun z => by rw [ef] at z; omega)
                       rw [ef] at z
                       exact z))
           · first
             | (exfalso; omega)
             | (skip
                refine xr_iloadn hc rfl rfl ?_
                refine xr_bipush hc rfl ?_
                refine xr_icmp_eq hc rfl (t := 77) rfl (fun b66 => ?_) (fun b66 => ?_)
                · first
                  | (exfalso; omega)
                  | (skip
                     refine xr_aloadn hc rfl rfl ?_
                     refine xr_getfi hc rfl (Or.inl rfl) (by first | assumption | rfl) ?_
                     
                     refine xr_ireturn hc rfl rfl (Nat.zero_le _) (Nat.zero_le _) ?_
                     first
                       | (exfalso; omega)
                       | (have er2 : (rdt c nn) = (false, p, i, ps) := by
                            rw [her, hrm]
                            show (if p < nn then _ else _) = _
                            have e6 : rwd c nn (c (rh c nn + 1) - 48) ps i p = (false, p) := by unfold rwd; rw [if_pos (Or.inr (by omega))]
                            rw [if_pos (by omega), e6]
                            rfl
                          have ef : rflt c nn = (p : Int) := by unfold rflt; rw [er2]; rfl
                          rw [g3]
                          have z := hQ N g1 (fun z => by rw [ef] at z; omega)
                          rw [ef] at z
                          exact z)
                       | (have er2 : (rdt c nn) = (false, (rwd c nn (c (rh c nn + 1) - 48) ps i p).2, i, ps) := by
                            rw [her, hrm, erm, if_neg (by rw [y1]; decide)]
                          have ef : rflt c nn = ((rwd c nn (c (rh c nn + 1) - 48) ps i p).2 : Int) := by unfold rflt; rw [er2]; rfl
                          rw [y4]
                          have z := hQ N2 (fun q2 k2 v1 v2 v3 => by rw [y3 _ _ (by omega) (by omega) (by omega), g1 _ _ v1 v2 v3]) (fun z => by rw [ef] at z; omega)
                          rw [ef] at z
                          exact z))
                · first
                  | (exfalso; omega)
                  | (skip
                     refine xr_aloadn hc rfl rfl ?_
                     refine xr_iloadn hc rfl rfl ?_
                     refine xr_callv1 hc rfl (by first | assumption | rfl) rfl rfl rfl (Nat.le_of_ble_eq_true rfl) (Nat.zero_le _) (Nat.zero_le _) ?_
                     have hlt : p < nn := by omega
                     have erm : rml c nn (c (rh c nn + 1) - 48) (m_ + 1 + 1) i ps p = if (rwd c nn (c (rh c nn + 1) - 48) ps i p).1 = true then rml c nn (c (rh c nn + 1) - 48) (m_ + 1) (i + 1) (pup ps i p) (skp c nn (rwd c nn (c (rh c nn + 1) - 48) ps i p).2) else (false, (rwd c nn (c (rh c nn + 1) - 48) ps i p).2, i, ps) := by
                       show (if p < nn then _ else _) = _
                       rw [if_pos hlt]
                     refine S_rWord (tx := tx) (nn := nn) (p := p) (c := c) (ps := ps) (pl := (c (rh c nn + 1) - 48)) hl2 htx hrf2 hn g6 g8 g3 g4 hx1 hlt g9 hpl69 (by omega) g5.1 (fun k hk => (g5.2 k hk).2.1) (fun y1 y2 N2 y3 y4 y5 z1 z2 z3 z4 z5 z6 z7 z8 z9 z10 => ?_) (fun y1 N2 y3 y4 y5 => ?_)
                     · refine xk_1 ?_
                       refine xr_ift hc rfl (t := 82) rfl (by simp [dz_cmp]) ?_
                       refine xr_aloadn hc rfl rfl ?_
                       refine xr_callv0 hc rfl (by first | assumption | rfl) rfl rfl rfl (Nat.le_of_ble_eq_true rfl) (Nat.zero_le _) (Nat.zero_le _) ?_
                       have hp4 : p + 4 ≤ nn := by have z := z8.1; omega
                       refine S_skipBlanks (tx := tx) (nn := nn) (p := p + 4) (c := c) hl2 htx hrf2 hn (fun k hk => by rw [y3 _ _ (by omega) (by omega) (by omega)]; exact g6 k hk) (by rw [y3 _ _ (by omega) (by omega) (by omega)]; exact g8) y4 hp4 (fun N3 v1 v2 => ?_)
                       refine xk_0 ?_
                       refine xr_iincz3 hc rfl rfl (by first | exact dz_wid (by first | omega | (unfold dz_w; omega)) (by first | omega | (unfold dz_w; omega)) | rfl) ?_
                       refine xr_goto hc rfl (t := 46) rfl ?_
                       refine ih (i + 1) (pup ps i p) (skp c nn (p + 4)) N3 (by omega) (fun q2 k2 u1 u2 u3 => ?_) v2 (skp_in hp4).2 ⟨by rw [v1 _ _ (by omega)]; exact y5, fun k hk => ?_⟩ (fun k hk => ?_) (fun k hk => ?_) (by rw [v1 _ _ (by omega), y3 _ _ (by omega) (by omega) (by omega)]; exact g8) (by rw [v1 _ _ (by omega), y3 _ _ (by omega) (by omega) (by omega)]; exact g9) (by omega) (by rw [hrm, erm, if_pos y1, y2])
                       · rw [v1 _ _ (by omega), y3 _ _ (by omega) (by omega) (by omega), g1 _ _ u1 u2 u3]
                       · rw [v1 _ _ (by omega), v1 _ _ (by omega), v1 _ _ (by omega), v1 _ _ (by omega), v1 _ _ (by omega)]
                         by_cases e : k = i
                         · rw [e]
                           exact ⟨z1, z2, z3, z4, z5⟩
                         · obtain ⟨w1, w2, w3, w4, w5⟩ := pup_c (c := c) (ps := ps) (i := i) (p := p) e
                           rw [w1, w2, w3, w4, w5, y3 43 k (by omega) (by omega) (by omega), y3 44 k (by omega) (by omega) (by omega), y3 45 k (by omega) (by omega) (by omega), y3 46 k (by omega) (by omega) (by omega), y3 47 k (by omega) (by omega) (by omega)]
                           exact g5.2 k (by omega)
                       · rw [v1 _ _ (by omega), y3 _ _ (by omega) (by omega) (by omega)]
                         exact g6 k hk
                       · by_cases e : k = i
                         · rw [e, show pup ps i p i = p from if_pos rfl]
                           exact ⟨z9, z6, z7, z8⟩
                         · rw [show pup ps i p k = ps k from if_neg e]
                           exact g7 k (by omega)
                     · refine xk_1 ?_
                       refine xr_iff hc rfl (by simp [dz_cmp]) ?_
                       refine xr_aloadn hc rfl rfl ?_
                       refine xr_getfi hc rfl (Or.inl rfl) (by first | assumption | rfl) ?_
                       
                       refine xr_ireturn hc rfl rfl (Nat.zero_le _) (Nat.zero_le _) ?_
                       first
                         | (exfalso; omega)
                         | (have er2 : (rdt c nn) = (false, p, i, ps) := by
                              rw [her, hrm]
                              show (if p < nn then _ else _) = _
                              have e6 : rwd c nn (c (rh c nn + 1) - 48) ps i p = (false, p) := by unfold rwd; rw [if_pos (Or.inr (by omega))]
                              rw [if_pos (by omega), e6]
                              rfl
                            have ef : rflt c nn = (p : Int) := by unfold rflt; rw [er2]; rfl
                            rw [g3]
                            have z := hQ N g1 (fun z => by rw [ef] at z; omega)
                            rw [ef] at z
                            exact z)
                         | (have er2 : (rdt c nn) = (false, (rwd c nn (c (rh c nn + 1) - 48) ps i p).2, i, ps) := by
                              rw [her, hrm, erm, if_neg (by rw [y1]; decide)]
                            have ef : rflt c nn = ((rwd c nn (c (rh c nn + 1) - 48) ps i p).2 : Int) := by unfold rflt; rw [er2]; rfl
                            rw [y4]
                            have z := hQ N2 (fun q2 k2 v1 v2 v3 => by rw [y3 _ _ (by omega) (by omega) (by omega), g1 _ _ v1 v2 v3]) (fun z => by rw [ef] at z; omega)
                            rw [ef] at z
                            exact z))))
  refine xr_aloadn hc rfl rfl ?_
  refine xr_callv0 hc rfl (by first | assumption | rfl) rfl rfl rfl (Nat.le_of_ble_eq_true rfl) (Nat.zero_le _) (Nat.zero_le _) ?_
  refine S_readHead (tx := tx) (nn := nn) (p := 0) (c := c) hl2 htx hrf2 hn (fun k hk => by rw [m0 _ _ (by omega) (by omega) (by omega)]; exact hc2 k hk) m2 m3 (by omega) rfl (fun f1 f2 N a1 a2 a3 => ?_) (fun f1 N a1 a2 => ?_) (fun f1 f2 N a1 a2 => ?_)
  · refine xk_1 ?_
    refine xr_ift hc rfl (t := 40) rfl (by simp [dz_cmp]) ?_
    refine xr_aloadn hc rfl rfl ?_
    refine xr_callv0 hc rfl (by first | assumption | rfl) rfl rfl rfl (Nat.le_of_ble_eq_true rfl) (Nat.zero_le _) (Nat.zero_le _) ?_
    have hple : rh c nn + 2 ≤ nn := by have z := f2.1; omega
    refine S_skipBlanks (tx := tx) (nn := nn) (p := rh c nn + 2) (c := c) hl2 htx hrf2 hn (fun k hk => by rw [a1 _ _ (by omega) (by omega), m0 _ _ (by omega) (by omega) (by omega)]; exact hc2 k hk) (by rw [a1 _ _ (by omega) (by omega)]; exact m2) a2 hple (fun N3 v1 v2 => ?_)
    refine xk_0 ?_
    refine xr_iconst hc rfl ?_
    refine xr_istore3 hc rfl rfl ?_
    have her : (rdt c nn) = rml c nn (c (rh c nn + 1) - 48) 8 0 (fun _ => 0) (skp c nn (rh c nn + 2)) := by
      unfold rdt
      rw [if_neg (fun z => z f1), if_neg (fun z => z f2)]
    have hf := f2.2
    refine lp her (by omega) 7 0 (fun _ => 0) (skp c nn (rh c nn + 2)) N3 (by omega) (fun q2 k2 u1 u2 u3 => by rw [v1 _ _ (by omega), a1 _ _ (by omega) (by omega), m0 _ _ u1 u2 u3]) v2 (skp_in hple).2 ⟨by rw [v1 _ _ (by omega), a1 _ _ (by omega) (by omega)]; exact m4, fun k hk => by omega⟩ (fun k hk => by rw [v1 _ _ (by omega), a1 _ _ (by omega) (by omega), m0 _ _ (by omega) (by omega) (by omega)]; exact hc2 k hk) (fun k hk => by omega) (by rw [v1 _ _ (by omega), a1 _ _ (by omega) (by omega)]; exact m2) (by rw [v1 _ _ (by omega)]; exact a3) (by omega) rfl
  · refine xk_1 ?_
    refine xr_iff hc rfl (by simp [dz_cmp]) ?_
    refine xr_aloadn hc rfl rfl ?_
    refine xr_getfi hc rfl (Or.inl rfl) (by first | assumption | rfl) ?_
    refine xr_ireturn hc rfl rfl (Nat.zero_le _) (Nat.zero_le _) ?_
    rw [a2]
    first
      | (have er2 : (rdt c nn) = (false, rh c nn, 0, fun _ => 0) := by unfold rdt; rw [if_pos f1]
         have ef : rflt c nn = (rh c nn : Int) := by unfold rflt; rw [er2]; rfl
         have z := hQ N (fun q2 k2 u1 u2 u3 => by rw [a1 _ _ (by omega) (by omega), m0 _ _ u1 u2 u3]) (fun z => by rw [ef] at z; omega)
         rw [ef] at z
         exact z)
      | (have er2 : (rdt c nn) = (false, rh c nn + 1, 0, fun _ => 0) := by unfold rdt; rw [if_neg (fun z => z f1), if_pos f2]
         have ef : rflt c nn = ((rh c nn + 1 : Nat) : Int) := by unfold rflt; rw [er2]; rfl
         have z := hQ N (fun q2 k2 u1 u2 u3 => by rw [a1 _ _ (by omega) (by omega), m0 _ _ u1 u2 u3]) (fun z => by rw [ef] at z; omega)
         rw [ef] at z
         exact z)
  · refine xk_1 ?_
    refine xr_iff hc rfl (by simp [dz_cmp]) ?_
    refine xr_aloadn hc rfl rfl ?_
    refine xr_getfi hc rfl (Or.inl rfl) (by first | assumption | rfl) ?_
    refine xr_ireturn hc rfl rfl (Nat.zero_le _) (Nat.zero_le _) ?_
    rw [a2]
    first
      | (have er2 : (rdt c nn) = (false, rh c nn, 0, fun _ => 0) := by unfold rdt; rw [if_pos f1]
         have ef : rflt c nn = (rh c nn : Int) := by unfold rflt; rw [er2]; rfl
         have z := hQ N (fun q2 k2 u1 u2 u3 => by rw [a1 _ _ (by omega) (by omega), m0 _ _ u1 u2 u3]) (fun z => by rw [ef] at z; omega)
         rw [ef] at z
         exact z)
      | (have er2 : (rdt c nn) = (false, rh c nn + 1, 0, fun _ => 0) := by unfold rdt; rw [if_neg (fun z => z f1), if_pos f2]
         have ef : rflt c nn = ((rh c nn + 1 : Nat) : Int) := by unfold rflt; rw [er2]; rfl
         have z := hQ N (fun q2 k2 u1 u2 u3 => by rw [a1 _ _ (by omega) (by omega), m0 _ _ u1 u2 u3]) (fun z => by rw [ef] at z; omega)
         rw [ef] at z
         exact z)
