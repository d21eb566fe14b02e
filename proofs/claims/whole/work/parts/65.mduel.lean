/-! By turns: the other one. Written by l2_65.py. -/
def swk (W : Nat) (sp : Nat → Int) (k : Nat) : Nat → Int := if k < W * W then swp sp (k / W) (k % W) else sp
def lgt (t : Nat) : Bool := decide (t % 2 = 0)
theorem lgt_s (t : Nat) : lgt (t + 1) = !lgt t := by
  unfold lgt
  by_cases h : t % 2 = 0
  · rw [decide_eq_true h, decide_eq_false (by omega)]
    rfl
  · rw [decide_eq_false h, decide_eq_true (by omega)]
    rfl
def mf (f : (Nat → Int) → Int) (lg : Bool) (W : Nat) (sp : Nat → Int) : Nat → Int
  | 0 => if lg = true then -1 else 99999
  | k + 1 => if k = W * W ∨ k / W < k % W then bst lg (mf f lg W sp k) (f (swk W sp k)) else mf f lg W sp k
theorem mf_vdf {f : (Nat → Int) → Int} {lg : Bool} {W : Nat} {sp : Nat → Int} (h : ∀ sp, 0 ≤ f sp ∧ f sp ≤ 320) : ∀ k, k ≤ W * W → vdf f lg W sp k = bst lg (f sp) (mf f lg W sp k)
  | 0, _ => by
    have h1 := h sp
    unfold vdf mf bst
    cases lg
    · rw [if_neg (by decide), if_neg (by decide)]
      omega
    · rw [if_pos rfl, if_pos rfl]
      omega
  | k + 1, hk => by
    have ih := mf_vdf (lg := lg) (W := W) (sp := sp) h k (by omega)
    unfold vdf mf
    by_cases e : k / W < k % W
    · rw [if_pos e, if_pos (Or.inr e), ih]
      unfold swk
      rw [if_pos (by omega)]
      unfold bst
      cases lg
      · simp only [Bool.false_eq_true, if_false]
        omega
      · simp only [if_true]
        omega
    · rw [if_neg e, if_neg (by omega), ih]
theorem mf_end {f : (Nat → Int) → Int} {lg : Bool} {W : Nat} {sp : Nat → Int} (h : ∀ sp, 0 ≤ f sp ∧ f sp ≤ 320) : mf f lg W sp (W * W + 1) = vdf f lg W sp (W * W) := by
  rw [mf_vdf h _ (Nat.le_refl _)]
  show (if W * W = W * W ∨ _ then bst lg (mf f lg W sp (W * W)) (f (swk W sp (W * W))) else _) = _
  rw [if_pos (Or.inl rfl)]
  unfold swk
  rw [if_neg (by omega)]
  unfold bst
  cases lg
  · simp only [Bool.false_eq_true, if_false]
    omega
  · simp only [if_true]
    omega
theorem mf_in {f : (Nat → Int) → Int} {lg : Bool} {W : Nat} {sp : Nat → Int} (h : ∀ sp, 0 ≤ f sp ∧ f sp ≤ 320) : ∀ k, -1 ≤ mf f lg W sp k ∧ mf f lg W sp k ≤ 99999
  | 0 => by
    unfold mf
    split <;> omega
  | k + 1 => by
    have ih := mf_in (lg := lg) (W := W) (sp := sp) h k
    have h2 := h (swk W sp k)
    unfold mf bst
    split
    · split <;> omega
    · exact ih
/-- the first t turns, done -/
def cpn (W : Nat) (sp : Nat → Int) (pr : Nat → Nat) : Nat → (Nat → Int)
  | 0 => sp
  | t + 1 => swk W (cpn W sp pr t) (pr t)
theorem cpn_c {W : Nat} {sp : Nat → Int} {pr pr2 : Nat → Nat} : ∀ t, (∀ u, u < t → pr u = pr2 u) → cpn W sp pr t = cpn W sp pr2 t
  | 0, _ => rfl
  | t + 1, h => by
    unfold cpn
    rw [cpn_c t (fun u hu => h u (by omega)), h t (by omega)]
theorem cpn_no {W : Nat} {sp : Nat → Int} {pr : Nat → Nat} {t : Nat} : ∀ m, (∀ u, t ≤ u → u < t + m → pr u = W * W) → cpn W sp pr (t + m) = cpn W sp pr t
  | 0, _ => rfl
  | m + 1, h => by
    show swk W (cpn W sp pr (t + m)) (pr (t + m)) = _
    rw [h (t + m) (by omega) (by omega), cpn_no m (fun u h1 h2 => h u h1 (by omega))]
    unfold swk
    rw [if_neg (by omega)]
def swS (W : Nat) (s : Nat → Int) (k : Nat) : Nat → Int := if k < W * W then sw s (k / W) (k % W) else s
def cpS (W : Nat) (s : Nat → Int) (pr : Nat → Nat) : Nat → (Nat → Int)
  | 0 => s
  | t + 1 => swS W (cpS W s pr t) (pr t)
theorem kdv {W k : Nat} (h : k < W * W) : k / W < W ∧ k % W < W := by
  have h0 : 0 < W := by
    rcases Nat.eq_zero_or_pos W with z | z
    · rw [z] at h
      omega
    · exact z
  exact ⟨Nat.div_lt_of_lt_mul h, Nat.mod_lt _ h0⟩
theorem cpS_all {w pl B : Int} {s : Nat → Int} {pr : Nat → Nat} (hw : 0 ≤ w ∧ w ≤ 6) (hs : stok w pl B s) : ∀ t, stok w pl B (cpS w.toNat s pr t) ∧ t_eq w s (cpS w.toNat s pr t) ∧ cpS w.toNat s pr t 1 = s 1 ∧ ∀ k, cpS w.toNat s pr t (5 + k) = cpn w.toNat (fun k => s (5 + k)) pr t k
  | 0 => ⟨hs, t_eq_refl w s, rfl, fun _ => rfl⟩
  | t + 1 => by
    obtain ⟨h1, h2, h3, h4⟩ := cpS_all (pr := pr) hw hs t
    unfold cpS cpn swS swk
    by_cases e : pr t < w.toNat * w.toNat
    · have hk := kdv e
      rw [if_pos e, if_pos e]
      refine ⟨sw_ok hw.2 h1 (by omega) (by omega), ?_, ?_, fun k => ?_⟩
      · have h5 := t_eq_sw (w := w) (s := cpS w.toNat s pr t) (i := pr t / w.toNat) (j := pr t % w.toNat) (by omega) (by omega)
        exact ⟨h2.1.trans h5.1, h2.2.1.trans h5.2.1, fun i hi => (h2.2.2 i hi).trans (h5.2.2 i hi)⟩
      · rw [sw_ne (Nat.ne_of_lt (Nat.lt_of_lt_of_le (by decide) (Nat.le_add_right 5 _))) (Nat.ne_of_lt (Nat.lt_of_lt_of_le (by decide) (Nat.le_add_right 5 _))), h3]
      · rw [sw_swp]
        unfold swp
        simp only [h4]
    · rw [if_neg e, if_neg e]
      exact ⟨h1, h2, h3, h4⟩
set_option maxRecDepth 100000 in
theorem D_swapsPair {xo : Nat → List Int} {d : Nat} {Q : dz_Q} {sh : List (Nat ⊕ (Nat × Nat))} {rf : Nat → Nat → Nat} {M : Nat → Nat → Int} {k : Nat} {w : Int} {s : Nat → Int} (hl : ml sh rf) (hw2 : M 115 2 = w) (hw : 2 ≤ w ∧ w ≤ 6) (hk : k ≤ w.toNat * w.toNat) (hr : prel M 3612 w s) (hQ : ∀ M2 : Nat → Nat → Int, tfr M M2 → (∀ q2 k2, q2 ≠ 116 → M2 q2 k2 = M q2 k2) → prel M2 3612 w (swS w.toNat s k) → Q none (sh, rf, M2)) : dz_E dz_pp xo (d + 2) 193 [dz_r 115, dz_i (k : Int)] (sh, rf, M) Q := by
  refine ⟨Nat.le_of_ble_eq_true rfl, ?_⟩
  have hc := dz_E_m dz_pp xo (d + 1)
  show dz_X (dz_E dz_pp xo (d + 1)) dz_pp xo (dz_pp 193) Q 0 [some (dz_r 115), some (dz_i (k : Int))] [] 0 0 (sh, rf, M)
  obtain ⟨c0, c1, c2, c3, c4, c5, c6, c7, c8, c9, c10, c11, c12, c13, c14, c15, c16, c17, c18, c19, c20, c21, c22, c23, c24, c25, c26, c27, c28, c29⟩ := id hl
  have eww : w * w = ((w.toNat * w.toNat : Nat) : Int) := by
    rw [Int.natCast_mul, show ((w.toNat : Nat) : Int) = w by omega]
  have hww : w.toNat * w.toNat ≤ 36 := Nat.le_trans (Nat.mul_le_mul (show w.toNat ≤ 6 by omega) (show w.toNat ≤ 6 by omega)) (by omega)
  have ewn : w = ((w.toNat : Nat) : Int) := by omega
  have hmd : k % w.toNat < w.toNat := Nat.mod_lt _ (by omega)
  have ed : Int.tdiv (k : Int) w = ((k / w.toNat : Nat) : Int) := by
    have z := Int.ofNat_tdiv k w.toNat
    rw [← ewn] at z
    exact z.symm
  have em : Int.tmod (k : Int) w = ((k % w.toNat : Nat) : Int) := by
    have z := Int.ofNat_tmod k w.toNat
    rw [← ewn] at z
    exact z.symm
  have hdk : k / w.toNat ≤ k := Nat.div_le_self _ _
  obtain ⟨qi, hqi⟩ : ∃ qi, qi = k / w.toNat := ⟨_, rfl⟩
  obtain ⟨qj, hqj⟩ : ∃ qj, qj = k % w.toNat := ⟨_, rfl⟩
  rw [← hqi] at ed hdk
  rw [← hqj] at em hmd
  have hed : 0 ≤ Int.tdiv (k : Int) w ∧ Int.tdiv (k : Int) w ≤ 36 := by rw [ed]; omega
  refine xr_iloadn hc rfl rfl ?_
  refine xr_aloadn hc rfl rfl ?_
  refine xr_getfi hc rfl (Or.inl rfl) (by first | assumption | rfl) ?_
  refine xr_aloadn hc rfl rfl ?_
  refine xr_getfi hc rfl (Or.inl rfl) (by first | assumption | rfl) ?_
  rw [hw2]
  refine xr_imulz hc rfl (by first | exact dz_wid (by first | omega | (unfold dz_w; omega)) (by first | omega | (unfold dz_w; omega)) | rfl) ?_
  rw [eww]
  refine xr_icmp_ge hc rfl (t := 32) rfl (fun b10 => ?_) (fun b10 => ?_)
  · refine xr_return hc rfl rfl (Nat.zero_le _) (Nat.zero_le _) ?_
    by_cases hlt : k < w.toNat * w.toNat
    · first
        | (exfalso; omega)
        | (refine hQ N2 (fun q2 k2 u1 u2 => ?_) x1 ?_
           · by_cases e : q2 = 116
             · subst e
               rw [x2 k2, if_neg (by omega), if_neg (by omega)]
             · rw [x1 _ _ e]
           · unfold swS
             rw [if_pos hlt, ← hqi, ← hqj]
             exact prel_sw (by omega) (by omega) hr x2)
    · first
        | (exfalso; omega)
        | (refine hQ M (tfr_refl M) (fun _ _ _ => rfl) ?_
           unfold swS
           rw [if_neg hlt]
           exact hr)
  · have hkd := kdv (W := w.toNat) (k := k) (by omega)
    rw [← hqi, ← hqj] at hkd
    refine xr_aloadn hc rfl rfl ?_
    refine xr_sipush hc rfl ?_
    refine xr_iloadn hc rfl rfl ?_
    refine xr_aloadn hc rfl rfl ?_
    refine xr_getfi hc rfl (Or.inl rfl) (by first | assumption | rfl) ?_
    rw [hw2]
    refine xr_idivz hc rfl (by first | omega | (unfold dz_w; omega)) (by first | exact dz_wid (by first | omega | (unfold dz_w; omega)) (by first | omega | (unfold dz_w; omega)) | rfl) ?_
    rw [ed]
    refine xr_iloadn hc rfl rfl ?_
    refine xr_aloadn hc rfl rfl ?_
    refine xr_getfi hc rfl (Or.inl rfl) (by first | assumption | rfl) ?_
    rw [hw2]
    refine xr_irem hc rfl (by first | omega | (unfold dz_w; omega)) ?_
    rw [em]
    refine xr_callv3 hc rfl (by first | assumption | rfl) rfl rfl rfl (Nat.le_of_ble_eq_true rfl) (Nat.zero_le _) (Nat.zero_le _) ?_
    refine D_swaps (b := 3612) hl (by omega) (by omega) (by omega) (fun N2 x1 x2 => ?_)
    rw [Int.toNat_natCast, Int.toNat_natCast] at x2
    refine xk_0 ?_
    refine xr_return hc rfl rfl (Nat.zero_le _) (Nat.zero_le _) ?_
    by_cases hlt : k < w.toNat * w.toNat
    · first
        | (exfalso; omega)
        | (refine hQ N2 (fun q2 k2 u1 u2 => ?_) x1 ?_
           · by_cases e : q2 = 116
             · subst e
               rw [x2 k2, if_neg (by omega), if_neg (by omega)]
             · rw [x1 _ _ e]
           · unfold swS
             rw [if_pos hlt, ← hqi, ← hqj]
             exact prel_sw (by omega) (by omega) hr x2)
    · first
        | (exfalso; omega)
        | (refine hQ M (tfr_refl M) (fun _ _ _ => rfl) ?_
           unfold swS
           rw [if_neg hlt]
           exact hr)
set_option maxRecDepth 100000 in
theorem D_isPair {xo : Nat → List Int} {d : Nat} {Q : dz_Q} {sh : List (Nat ⊕ (Nat × Nat))} {rf : Nat → Nat → Nat} {M : Nat → Nat → Int} {k : Nat} {w : Int} (hl : ml sh rf) (hw2 : M 115 2 = w) (hw : 2 ≤ w ∧ w ≤ 6) (hk : k ≤ w.toNat * w.toNat) (h1 : (k = w.toNat * w.toNat ∨ k / w.toNat < k % w.toNat) → Q (some (dz_i 1)) (sh, rf, M)) (h2 : ¬ (k = w.toNat * w.toNat ∨ k / w.toNat < k % w.toNat) → Q (some (dz_i 0)) (sh, rf, M)) : dz_E dz_pp xo (d + 1) 195 [dz_r 115, dz_i (k : Int)] (sh, rf, M) Q := by
  refine ⟨Nat.le_of_ble_eq_true rfl, ?_⟩
  have hc := dz_E_m dz_pp xo (d + 0)
  show dz_X (dz_E dz_pp xo (d + 0)) dz_pp xo (dz_pp 195) Q 0 [some (dz_r 115), some (dz_i (k : Int))] [] 0 0 (sh, rf, M)
  obtain ⟨c0, c1, c2, c3, c4, c5, c6, c7, c8, c9, c10, c11, c12, c13, c14, c15, c16, c17, c18, c19, c20, c21, c22, c23, c24, c25, c26, c27, c28, c29⟩ := id hl
  have eww : w * w = ((w.toNat * w.toNat : Nat) : Int) := by
    rw [Int.natCast_mul, show ((w.toNat : Nat) : Int) = w by omega]
  have hww : w.toNat * w.toNat ≤ 36 := Nat.le_trans (Nat.mul_le_mul (show w.toNat ≤ 6 by omega) (show w.toNat ≤ 6 by omega)) (by omega)
  have ewn : w = ((w.toNat : Nat) : Int) := by omega
  have hmd : k % w.toNat < w.toNat := Nat.mod_lt _ (by omega)
  have ed : Int.tdiv (k : Int) w = ((k / w.toNat : Nat) : Int) := by
    have z := Int.ofNat_tdiv k w.toNat
    rw [← ewn] at z
    exact z.symm
  have em : Int.tmod (k : Int) w = ((k % w.toNat : Nat) : Int) := by
    have z := Int.ofNat_tmod k w.toNat
    rw [← ewn] at z
    exact z.symm
  have hdk : k / w.toNat ≤ k := Nat.div_le_self _ _
  obtain ⟨qi, hqi⟩ : ∃ qi, qi = k / w.toNat := ⟨_, rfl⟩
  obtain ⟨qj, hqj⟩ : ∃ qj, qj = k % w.toNat := ⟨_, rfl⟩
  rw [← hqi] at ed hdk
  rw [← hqj] at em hmd
  have hed : 0 ≤ Int.tdiv (k : Int) w ∧ Int.tdiv (k : Int) w ≤ 36 := by rw [ed]; omega
  rw [← hqi, ← hqj] at h1 h2
  refine xr_iloadn hc rfl rfl ?_
  refine xr_aloadn hc rfl rfl ?_
  refine xr_getfi hc rfl (Or.inl rfl) (by first | assumption | rfl) ?_
  refine xr_aloadn hc rfl rfl ?_
  refine xr_getfi hc rfl (Or.inl rfl) (by first | assumption | rfl) ?_
  rw [hw2]
  refine xr_imulz hc rfl (by first | exact dz_wid (by first | omega | (unfold dz_w; omega)) (by first | omega | (unfold dz_w; omega)) | rfl) ?_
  rw [eww]
  refine xr_icmp_eq hc rfl (t := 28) rfl (fun b10 => ?_) (fun b10 => ?_)
  · refine xr_iconst hc rfl ?_
    refine xr_goto hc rfl (t := 33) rfl ?_
    refine xr_zreturn hc rfl rfl (Nat.zero_le _) (Nat.zero_le _) (by first | exact Or.inl rfl | exact Or.inr rfl | assumption) ?_
    first
      | exact h1 (by omega)
      | exact h2 (by omega)
  · refine xr_iloadn hc rfl rfl ?_
    refine xr_aloadn hc rfl rfl ?_
    refine xr_getfi hc rfl (Or.inl rfl) (by first | assumption | rfl) ?_
    rw [hw2]
    refine xr_idivz hc rfl (by first | omega | (unfold dz_w; omega)) (by first | exact dz_wid (by first | omega | (unfold dz_w; omega)) (by first | omega | (unfold dz_w; omega)) | rfl) ?_
    rw [ed]
    refine xr_iloadn hc rfl rfl ?_
    refine xr_aloadn hc rfl rfl ?_
    refine xr_getfi hc rfl (Or.inl rfl) (by first | assumption | rfl) ?_
    rw [hw2]
    refine xr_irem hc rfl (by first | omega | (unfold dz_w; omega)) ?_
    rw [em]
    refine xr_icmp_ge hc rfl (t := 32) rfl (fun b25 => ?_) (fun b25 => ?_)
    · refine xr_iconst hc rfl ?_
      refine xr_zreturn hc rfl rfl (Nat.zero_le _) (Nat.zero_le _) (by first | exact Or.inl rfl | exact Or.inr rfl | assumption) ?_
      first
        | exact h1 (by omega)
        | exact h2 (by omega)
    · refine xr_iconst hc rfl ?_
      refine xr_goto hc rfl (t := 33) rfl ?_
      refine xr_zreturn hc rfl rfl (Nat.zero_le _) (Nat.zero_le _) (by first | exact Or.inl rfl | exact Or.inr rfl | assumption) ?_
      first
        | exact h1 (by omega)
        | exact h2 (by omega)
set_option maxRecDepth 100000 in
theorem D_better {xo : Nat → List Int} {d : Nat} {Q : dz_Q} {sh : List (Nat ⊕ (Nat × Nat))} {rf : Nat → Nat → Nat} {M : Nat → Nat → Int} {t : Nat} {a b : Int} (ht : t ≤ 3) (hQ : Q (some (dz_i (bst (lgt t) a b))) (sh, rf, M)) : dz_E dz_pp xo (d + 1) 196 [dz_i (t : Int), dz_i a, dz_i b] (sh, rf, M) Q := by
  refine ⟨Nat.le_of_ble_eq_true rfl, ?_⟩
  have hc := dz_E_m dz_pp xo (d + 0)
  show dz_X (dz_E dz_pp xo (d + 0)) dz_pp xo (dz_pp 196) Q 0 [some (dz_i (t : Int)), some (dz_i a), some (dz_i b)] [] 0 0 (sh, rf, M)
  have em : Int.tmod (t : Int) 2 = ((t % 2 : Nat) : Int) := (Int.ofNat_tmod t 2).symm
  have h1 : t % 2 = 0 → bst (lgt t) a b = max a b := fun z => by unfold bst lgt; rw [if_pos (by rw [decide_eq_true z])]
  have h2 : t % 2 ≠ 0 → bst (lgt t) a b = min a b := fun z => by unfold bst lgt; rw [if_neg (by rw [decide_eq_false z]; decide)]
  refine xr_iloadn hc rfl rfl ?_
  refine xr_iconst hc rfl ?_
  refine xr_irem hc rfl (by first | omega | (unfold dz_w; omega)) ?_
  rw [em]
  refine xr_if_ne hc rfl (t := 19) rfl (fun b3 => ?_) (fun b3 => ?_)
  · refine xr_iloadn hc rfl rfl ?_
    refine xr_iloadn hc rfl rfl ?_
    refine xr_icmp_ge hc rfl (t := 28) rfl (fun b21 => ?_) (fun b21 => ?_)
    · refine xr_iloadn hc rfl rfl ?_
      refine xr_ireturn hc rfl rfl (Nat.zero_le _) (Nat.zero_le _) ?_
      first
        | (rw [h1 (by omega), show max a b = a by omega] at hQ; exact hQ)
        | (rw [h1 (by omega), show max a b = b by omega] at hQ; exact hQ)
        | (rw [h2 (by omega), show min a b = a by omega] at hQ; exact hQ)
        | (rw [h2 (by omega), show min a b = b by omega] at hQ; exact hQ)
    · refine xr_iloadn hc rfl rfl ?_
      refine xr_goto hc rfl (t := 29) rfl ?_
      refine xr_ireturn hc rfl rfl (Nat.zero_le _) (Nat.zero_le _) ?_
      first
        | (rw [h1 (by omega), show max a b = a by omega] at hQ; exact hQ)
        | (rw [h1 (by omega), show max a b = b by omega] at hQ; exact hQ)
        | (rw [h2 (by omega), show min a b = a by omega] at hQ; exact hQ)
        | (rw [h2 (by omega), show min a b = b by omega] at hQ; exact hQ)
  · refine xr_iloadn hc rfl rfl ?_
    refine xr_iloadn hc rfl rfl ?_
    refine xr_icmp_le hc rfl (t := 15) rfl (fun b8 => ?_) (fun b8 => ?_)
    · refine xr_iloadn hc rfl rfl ?_
      refine xr_goto hc rfl (t := 29) rfl ?_
      refine xr_ireturn hc rfl rfl (Nat.zero_le _) (Nat.zero_le _) ?_
      first
        | (rw [h1 (by omega), show max a b = a by omega] at hQ; exact hQ)
        | (rw [h1 (by omega), show max a b = b by omega] at hQ; exact hQ)
        | (rw [h2 (by omega), show min a b = a by omega] at hQ; exact hQ)
        | (rw [h2 (by omega), show min a b = b by omega] at hQ; exact hQ)
    · refine xr_iloadn hc rfl rfl ?_
      refine xr_goto hc rfl (t := 29) rfl ?_
      refine xr_ireturn hc rfl rfl (Nat.zero_le _) (Nat.zero_le _) ?_
      first
        | (rw [h1 (by omega), show max a b = a by omega] at hQ; exact hQ)
        | (rw [h1 (by omega), show max a b = b by omega] at hQ; exact hQ)
        | (rw [h2 (by omega), show min a b = a by omega] at hQ; exact hQ)
        | (rw [h2 (by omega), show min a b = b by omega] at hQ; exact hQ)
set_option maxRecDepth 100000 in
theorem D_beginTurn {xo : Nat → List Int} {d : Nat} {Q : dz_Q} {sh : List (Nat ⊕ (Nat × Nat))} {rf : Nat → Nat → Nat} {M : Nat → Nat → Int} {t : Nat} (hl : ml sh rf) (ht : t ≤ 2) (hQ : Q none (sh, rf, dz_up (dz_up M 128 t 0) 129 t (if lgt t = true then -1 else 99999))) : dz_E dz_pp xo (d + 1) 197 [dz_r 115, dz_i (t : Int)] (sh, rf, M) Q := by
  refine ⟨Nat.le_of_ble_eq_true rfl, ?_⟩
  have hc := dz_E_m dz_pp xo (d + 0)
  show dz_X (dz_E dz_pp xo (d + 0)) dz_pp xo (dz_pp 197) Q 0 [some (dz_r 115), some (dz_i (t : Int))] [] 0 0 (sh, rf, M)
  obtain ⟨c0, c1, c2, c3, c4, c5, c6, c7, c8, c9, c10, c11, c12, c13, c14, c15, c16, c17, c18, c19, c20, c21, c22, c23, c24, c25, c26, c27, c28, c29⟩ := id hl
  have em : Int.tmod (t : Int) 2 = ((t % 2 : Nat) : Int) := (Int.ofNat_tmod t 2).symm
  have h1 : t % 2 = 0 → (if lgt t = true then (-1 : Int) else 99999) = -1 := fun z => by unfold lgt; rw [if_pos (by rw [decide_eq_true z])]
  have h2 : t % 2 ≠ 0 → (if lgt t = true then (-1 : Int) else 99999) = 99999 := fun z => by unfold lgt; rw [if_neg (by rw [decide_eq_false z]; decide)]
  refine xr_aloadn hc rfl rfl ?_
  refine xr_getfr hc rfl rfl (by first | assumption | rfl) (by first | assumption | rfl) ?_
  refine xr_iloadn hc rfl rfl ?_
  refine xr_iconst hc rfl ?_
  refine xr_iastore hc rfl (by first | assumption | rfl) (by first | omega | (unfold dz_w; omega)) (by first | omega | (unfold dz_w; omega)) ?_
  rw [Int.toNat_natCast]
  refine xr_aloadn hc rfl rfl ?_
  refine xr_getfr hc rfl rfl (by first | assumption | rfl) (by first | assumption | rfl) ?_
  refine xr_iloadn hc rfl rfl ?_
  refine xr_iloadn hc rfl rfl ?_
  refine xr_iconst hc rfl ?_
  refine xr_irem hc rfl (by first | omega | (unfold dz_w; omega)) ?_
  rw [em]
  refine xr_if_ne hc rfl (t := 22) rfl (fun b15 => ?_) (fun b15 => ?_)
  · refine xr_ldc hc rfl ?_
    refine xr_iastore hc rfl (by first | assumption | rfl) (by first | omega | (unfold dz_w; omega)) (by first | omega | (unfold dz_w; omega)) ?_
    rw [Int.toNat_natCast]
    refine xr_return hc rfl rfl (Nat.zero_le _) (Nat.zero_le _) ?_
    first
      | (rw [h1 (by omega)] at hQ; exact hQ)
      | (rw [h2 (by omega)] at hQ; exact hQ)
  · refine xr_iconst hc rfl ?_
    refine xr_goto hc rfl (t := 24) rfl ?_
    refine xr_iastore hc rfl (by first | assumption | rfl) (by first | omega | (unfold dz_w; omega)) (by first | omega | (unfold dz_w; omega)) ?_
    rw [Int.toNat_natCast]
    refine xr_return hc rfl rfl (Nat.zero_le _) (Nat.zero_le _) ?_
    first
      | (rw [h1 (by omega)] at hQ; exact hQ)
      | (rw [h2 (by omega)] at hQ; exact hQ)
set_option maxRecDepth 100000 in
theorem D_eightSteps {xo : Nat → List Int} {d : Nat} {Q : dz_Q} {sh : List (Nat ⊕ (Nat × Nat))} {rf : Nat → Nat → Nat} {M : Nat → Nat → Int} {rs : Nat → Int} {it : Nat → Nat → Int} {ts : Nat → Int} {ch : Nat → Nat → Int} {tl up lo : Int} {fn : Nat → Int} {w pl : Int} {kd wt nx : Nat → Int} {n : Nat} {hs : Nat → Nat → Int} {kp : Nat → Int} {kh : Nat → Nat → Nat → Int} {pr : Nat → Nat} (hl : ml sh rf) (hR : RM M rs it ts ch tl up lo fn w pl kd wt nx n hs kp kh) (hW : WF rs it ts ch tl up lo fn w pl kd wt nx n hs kp kh) (hw0 : w ≠ 0) (hpr : ∀ u, u < 3 → M 128 u = (pr u : Int) ∧ pr u ≤ w.toNat * w.toNat) (hQ : ∀ M2 : Nat → Nat → Int, tfr M M2 → Q (some (dz_i (t_at pl kd wt nx (cpn w.toNat (fun k => hs n (5 + k)) pr 3) 8 (hs n)))) (sh, rf, M2)) : dz_E dz_pp xo (d + 5) 194 [dz_r 115] (sh, rf, M) Q := by
  refine ⟨Nat.le_of_ble_eq_true rfl, ?_⟩
  have hc := dz_E_m dz_pp xo (d + 4)
  show dz_X (dz_E dz_pp xo (d + 4)) dz_pp xo (dz_pp 194) Q 0 [some (dz_r 115), none] [] 0 0 (sh, rf, M)
  obtain ⟨c0, c1, c2, c3, c4, c5, c6, c7, c8, c9, c10, c11, c12, c13, c14, c15, c16, c17, c18, c19, c20, c21, c22, c23, c24, c25, c26, c27, c28, c29⟩ := id hl
  obtain ⟨hrow, htxt, htl, hup, hlo, hfn, hdr, hkp⟩ := id hR
  obtain ⟨wrow, wtxt, wdr, wst, wkp⟩ := id hW
  have hw6 := WF_w hW
  have hdr3 : drM M w pl kd wt nx n hs ∧ w ≤ 6 ∧ n ≤ 40 := ⟨hdr, hw6.2, wst.1⟩
  have hkp3 : kepM M w kp kh ∧ w ≤ 6 ∧ ∀ k, k < 3 → kp k ≤ 40 := ⟨hkp, hw6.2, fun k hk => by
    rcases wkp k hk with z | z
    · omega
    · exact z.2.1⟩
  obtain ⟨a1, a2, a3, b1, b2, b3⟩ := id hdr
  have hpg : pgM M w pl kd wt nx := ⟨a1, a2, a3⟩
  have b2c : ∀ c, okc w c → M 116 c = hs n c := fun c hc => by
    have h3 := b2 c hc
    rw [Nat.zero_add] at h3
    exact h3
  have hp := WF_p hW (by omega)
  have hst := wst.2 n (Nat.le_refl n)
  obtain ⟨p1, p2, p3, p4, p5⟩ := id hp
  obtain ⟨st0, st1, st2, st3, st4, st5, st6, st7, st8⟩ := id hst
  have lp : ∀ (m_ : Nat) (t : Nat) (N : Nat → Nat → Int), t + m_ = 3 → tfr M N → prel N 3612 w (cpS w.toNat (hs n) pr t) → N 115 23 = 0 → dz_X (dz_E dz_pp xo (d + 4)) dz_pp xo (dz_pp 194) Q 6 [some (dz_r 115), some (dz_i (t : Int))] [] 0 0 (sh, rf, N) := by
    intro m_
    induction m_ with
    | zero =>
      intro t N ht h1 h2 h3
      have et : t = 3 := by omega
      subst et
      obtain ⟨c1, c2, c3, c4⟩ := cpS_all (pr := pr) (w := w) (by omega) hst 3
      refine xr_iloadn hc rfl rfl ?_
      refine xr_iconst hc rfl ?_
      refine xr_icmp_ge hc rfl (t := 27) rfl (fun b8 => ?_) (fun b8 => ?_)
      · refine xr_aloadn hc rfl rfl ?_
        refine xr_bipush hc rfl ?_
        refine xr_callv1 hc rfl (by first | assumption | rfl) rfl rfl rfl (Nat.le_of_ble_eq_true rfl) (Nat.zero_le _) (Nat.zero_le _) ?_
        refine D_beatsTried (w := w) (pl := pl) (B := 29 * n) (kd := kd) (wt := wt) (nx := nx) (s := cpS w.toNat (hs n) pr 3) hl (tfr_pg h1 hpg) hp c1 (by omega) h2 h3 (by omega) (fun N2 y1 y2 y3 y4 => ?_)
        have ea : t_run pl kd wt nx (Int.toNat 8) (cpS w.toNat (hs n) pr 3) 1 - cpS w.toNat (hs n) pr 3 1 = t_at pl kd wt nx (cpn w.toNat (fun k => hs n (5 + k)) pr 3) 8 (hs n) := t_at_run (m := 8) hp hst (by omega) c2 c3 (fun k hk => c4 k)
        rw [ea]
        refine xk_1 ?_
        refine xr_ireturn hc rfl rfl (Nat.zero_le _) (Nat.zero_le _) ?_
        exact hQ N2 (tfr_trans h1 y1)
      · omega
    | succ m_ ih =>
      intro t N ht h1 h2 h3
      have n2 : N 115 2 = w := by rw [h1 _ _ (by omega) (by omega)]; exact a1
      have hv : N 128 t = (pr t : Int) := by rw [h1 _ _ (by omega) (by omega)]; exact (hpr t (by omega)).1
      have hv2 := (hpr t (by omega)).2
      refine xr_iloadn hc rfl rfl ?_
      refine xr_iconst hc rfl ?_
      refine xr_icmp_ge hc rfl (t := 27) rfl (fun b8 => ?_) (fun b8 => ?_)
      · omega
      · refine xr_aloadn hc rfl rfl ?_
        refine xr_aloadn hc rfl rfl ?_
        refine xr_getfr hc rfl rfl (by first | assumption | rfl) (by first | assumption | rfl) ?_
        refine xr_iloadn hc rfl rfl ?_
        first | refine xr_iaload hc rfl (by first | assumption | rfl) (by first | omega | (unfold dz_w; omega)) (by first | omega | (unfold dz_w; omega)) ?_ | refine xr_ialoado hc rfl (by first | omega | (unfold dz_w; omega)) (by first | omega | (unfold dz_w; omega)) ?_
        rw [Int.toNat_natCast, hv]
        refine xr_callv1 hc rfl (by first | assumption | rfl) rfl rfl rfl (Nat.le_of_ble_eq_true rfl) (Nat.zero_le _) (Nat.zero_le _) ?_
        refine D_swapsPair hl n2 (by omega) hv2 h2 (fun N2 y1 y2 y3 => ?_)
        refine xk_0 ?_
        refine xr_iincz1 hc rfl rfl (by first | exact dz_wid (by first | omega | (unfold dz_w; omega)) (by first | omega | (unfold dz_w; omega)) | rfl) ?_
        refine xr_goto hc rfl (t := 6) rfl ?_
        exact ih (t + 1) N2 (by omega) (tfr_trans h1 y1) y3 (by rw [y2 _ _ (by omega)]; exact h3)
  refine xr_aloadn hc rfl rfl ?_
  refine xr_callv0 hc rfl (by first | assumption | rfl) rfl rfl rfl (Nat.le_of_ble_eq_true rfl) (Nat.zero_le _) (Nat.zero_le _) ?_
  refine D_layTried hl hR hW (fun M1 z1 z2 z3 z4 z5 => ?_)
  refine xk_0 ?_
  refine xr_iconst hc rfl ?_
  refine xr_istore1 hc rfl rfl ?_
  exact lp 3 0 M1 (by omega) z1 z2 z5
set_option maxRecDepth 100000 in
theorem D_duel {xo : Nat → List Int} {d : Nat} {Q : dz_Q} {sh : List (Nat ⊕ (Nat × Nat))} {rf : Nat → Nat → Nat} {M : Nat → Nat → Int} {rs : Nat → Int} {it : Nat → Nat → Int} {ts : Nat → Int} {ch : Nat → Nat → Int} {tl up lo : Int} {fn : Nat → Int} {w pl : Int} {kd wt nx : Nat → Int} {n : Nat} {hs : Nat → Nat → Int} {kp : Nat → Int} {kh : Nat → Nat → Nat → Int} {m : Int} (hl : ml sh rf) (hR : RM M rs it ts ch tl up lo fn w pl kd wt nx n hs kp kh) (hW : WF rs it ts ch tl up lo fn w pl kd wt nx n hs kp kh) (hQ : ∀ M2 : Nat → Nat → Int, (∀ q2 k2, q2 < 115 → M2 q2 k2 = M q2 k2) → RM M2 rs it ts ch tl up lo fn w pl kd wt nx n hs kp kh → Q (some (dz_i ((o_duel w pl kd wt nx (hs n) m)))) (sh, rf, M2)) : dz_E dz_pp xo (d + 6) 198 [dz_r 115, dz_i m] (sh, rf, M) Q := by
  refine ⟨Nat.le_of_ble_eq_true rfl, ?_⟩
  have hc := dz_E_m dz_pp xo (d + 5)
  show dz_X (dz_E dz_pp xo (d + 5)) dz_pp xo (dz_pp 198) Q 0 [some (dz_r 115), some (dz_i m), none, none, none] [] 0 0 (sh, rf, M)
  obtain ⟨c0, c1, c2, c3, c4, c5, c6, c7, c8, c9, c10, c11, c12, c13, c14, c15, c16, c17, c18, c19, c20, c21, c22, c23, c24, c25, c26, c27, c28, c29⟩ := id hl
  obtain ⟨hrow, htxt, htl, hup, hlo, hfn, hdr, hkp⟩ := id hR
  obtain ⟨wrow, wtxt, wdr, wst, wkp⟩ := id hW
  have hw6 := WF_w hW
  have hdr3 : drM M w pl kd wt nx n hs ∧ w ≤ 6 ∧ n ≤ 40 := ⟨hdr, hw6.2, wst.1⟩
  have hkp3 : kepM M w kp kh ∧ w ≤ 6 ∧ ∀ k, k < 3 → kp k ≤ 40 := ⟨hkp, hw6.2, fun k hk => by
    rcases wkp k hk with z | z
    · omega
    · exact z.2.1⟩
  obtain ⟨a1, a2, a3, b1, b2, b3⟩ := id hdr
  have hpg : pgM M w pl kd wt nx := ⟨a1, a2, a3⟩
  have b2c : ∀ c, okc w c → M 116 c = hs n c := fun c hc => by
    have h3 := b2 c hc
    rw [Nat.zero_add] at h3
    exact h3
  refine xr_iloadn hc rfl rfl ?_
  refine xr_i2l hc rfl ?_
  refine xr_lconst hc rfl ?_
  refine xr_ldc2 hc rfl ?_
  refine xr_calls3 hc rfl (by decide) rfl rfl rfl (Nat.le_of_ble_eq_true rfl) (Nat.zero_le _) (Nat.zero_le _) ?_
  refine S_in (fun u1 v1 => ?_) (fun u1 => ?_)
  · refine xk_1 ?_
    refine xr_ift hc rfl (t := 14) rfl (by simp [dz_cmp]) ?_
    refine xr_aloadn hc rfl rfl ?_
    refine xr_getfi hc rfl (Or.inl rfl) (by first | assumption | rfl) ?_
    rw [a1]
    refine xr_if_ne hc rfl (t := 24) rfl (fun b18 => ?_) (fun b18 => ?_)
    · have hw0 : w ≠ 0 := by omega
      have hp := WF_p hW (by omega)
      have hst := wst.2 n (Nat.le_refl n)
      obtain ⟨p1, p2, p3, p4, p5⟩ := id hp
      obtain ⟨st0, st1, st2, st3, st4, st5, st6, st7, st8⟩ := id hst
      have eww : w * w = ((w.toNat * w.toNat : Nat) : Int) := by
        rw [Int.natCast_mul, show ((w.toNat : Nat) : Int) = w by omega]
      have hww : w.toNat * w.toNat ≤ 36 := Nat.le_trans (Nat.mul_le_mul (show w.toNat ≤ 6 by omega) (show w.toNat ≤ 6 by omega)) (by omega)
      have ewn : w = ((w.toNat : Nat) : Int) := by omega
      have big : ∀ (r t : Nat), (t : Int) + r + 1 = m → ∀ (m_ k : Nat) (N : Nat → Nat → Int) (pr : Nat → Nat) (be : Nat → Int) (e : Option dz_V), k + m_ = (w.toNat * w.toNat) + 1 → scr M N → (∀ u, u < 3 → N 128 u = (pr u : Int) ∧ pr u ≤ (w.toNat * w.toNat) + 1) → (∀ u, u < t → pr u ≤ (w.toNat * w.toNat)) → pr t = k → (∀ u, t < u → u < 3 → pr u = (w.toNat * w.toNat)) → (∀ u, u < t → N 129 u = be u) → N 129 t = mf (vd pl kd wt nx w.toNat (hs n) r (!lgt t)) (lgt t) w.toNat (cpn w.toNat (fun k => hs n (5 + k)) pr t) k → (∀ (N2 : Nat → Nat → Int) (pr2 : Nat → Nat), scr M N2 → (∀ u, u < 3 → N2 128 u = (pr2 u : Int) ∧ pr2 u ≤ (w.toNat * w.toNat) + 1) → (∀ u, u < t → pr2 u = pr u) → (∀ u, t ≤ u → u < 3 → pr2 u = (w.toNat * w.toNat)) → (∀ u, u < t → N2 129 u = be u) → dz_X (dz_E dz_pp xo (d + 5)) dz_pp xo (dz_pp 198) Q 135 [some (dz_r 115), some (dz_i m), some (dz_i ((w.toNat * w.toNat) : Nat)), some (dz_i (t : Int)), some (dz_i (vd pl kd wt nx w.toNat (hs n) (r + 1) (lgt t) (cpn w.toNat (fun k => hs n (5 + k)) pr t)))] [] 0 0 (sh, rf, N2)) → dz_X (dz_E dz_pp xo (d + 5)) dz_pp xo (dz_pp 198) Q 74 [some (dz_r 115), some (dz_i m), some (dz_i ((w.toNat * w.toNat) : Nat)), some (dz_i (t : Int)), e] [] 0 0 (sh, rf, N) := by
        intro r
        induction r with
        | zero =>
          intro t htr m_
          have hfi : ∀ sp, 0 ≤ vd pl kd wt nx w.toNat (hs n) 0 (!lgt t) sp ∧ vd pl kd wt nx w.toNat (hs n) 0 (!lgt t) sp ≤ 320 := fun sp => vd_in hp hst (by omega) 0 (!lgt t) sp
          induction m_ with
          | zero =>
            intro k N pr be e hkm hsc hpr hlo hk hno hbe hbt hK
            have n2 : N 115 2 = w := by rw [hsc _ _ (by omega) (by omega) (by omega)]; exact a1
            have hRN := RM_scr hR hW hsc
            have hpt := hpr t (by omega)
            rw [hk] at hpt
            have ek : k = (w.toNat * w.toNat) + 1 := by omega
            have hbt2 : N 129 t = vd pl kd wt nx w.toNat (hs n) (0 + 1) (lgt t) (cpn w.toNat (fun k => hs n (5 + k)) pr t) := by
              rw [hbt, ek, mf_end hfi]
              rfl
            refine xr_aloadn hc rfl rfl ?_
            refine xr_getfr hc rfl rfl (by first | assumption | rfl) (by first | assumption | rfl) ?_
            refine xr_iloadn hc rfl rfl ?_
            
            first | refine xr_iaload hc rfl (by first | assumption | rfl) (by first | omega | (unfold dz_w; omega)) (by first | omega | (unfold dz_w; omega)) ?_ | refine xr_ialoado hc rfl (by first | omega | (unfold dz_w; omega)) (by first | omega | (unfold dz_w; omega)) ?_
            rw [Int.toNat_natCast, hpt.1]
            refine xr_iloadn hc rfl rfl ?_
            refine xr_icmp_gt hc rfl (t := 110) rfl (fun b81 => ?_) (fun b81 => ?_)
            · refine xr_aloadn hc rfl rfl ?_
              refine xr_getfr hc rfl rfl (by first | assumption | rfl) (by first | assumption | rfl) ?_
              refine xr_iloadn hc rfl rfl ?_
              first | refine xr_iaload hc rfl (by first | assumption | rfl) (by first | omega | (unfold dz_w; omega)) (by first | omega | (unfold dz_w; omega)) ?_ | refine xr_ialoado hc rfl (by first | omega | (unfold dz_w; omega)) (by first | omega | (unfold dz_w; omega)) ?_
              rw [Int.toNat_natCast, hpt.1]
              refine xr_iloadn hc rfl rfl ?_
              refine xr_icmp_le hc rfl (t := 184) rfl (fun b117 => ?_) (fun b117 => ?_)
              · exfalso
                omega
              · refine xr_aloadn hc rfl rfl ?_
                refine xr_getfr hc rfl rfl (by first | assumption | rfl) (by first | assumption | rfl) ?_
                refine xr_iloadn hc rfl rfl ?_
                refine xr_iloadn hc rfl rfl ?_
                refine xr_iastore hc rfl (by first | assumption | rfl) (by first | omega | (unfold dz_w; omega)) (by first | omega | (unfold dz_w; omega)) ?_
                rw [Int.toNat_natCast]
                refine xr_aloadn hc rfl rfl ?_
                refine xr_getfr hc rfl rfl (by first | assumption | rfl) (by first | assumption | rfl) ?_
                refine xr_iloadn hc rfl rfl ?_
                first | refine xr_iaload hc rfl (by first | assumption | rfl) (by first | omega | (unfold dz_w; omega)) (by first | omega | (unfold dz_w; omega)) ?_ | refine xr_ialoado hc rfl (by first | omega | (unfold dz_w; omega)) (by first | omega | (unfold dz_w; omega)) ?_
                rw [Int.toNat_natCast, dz_up_ne (by omega), hbt2]
                refine xr_istore4 hc rfl rfl ?_
                refine hK _ (fun u => if u = t then (w.toNat * w.toNat) else pr u) (fun q2 k2 v1 v2 v3 => by rw [dz_up_ne (by omega), hsc _ _ v1 v2 v3]) (fun u hu => ?_) (fun u hu => if_neg (by omega)) (fun u h1 h2 => ?_) (fun u hu => by rw [dz_up_ne (by omega)]; exact hbe u hu)
                · by_cases e2 : u = t
                  · rw [e2, dz_up_eq]
                    show _ = (((if t = t then _ else _) : Nat) : Int) ∧ (if t = t then _ else _) ≤ _
                    rw [if_pos rfl]
                    exact ⟨rfl, by omega⟩
                  · rw [dz_up_k e2]
                    show _ = (((if u = t then _ else _) : Nat) : Int) ∧ (if u = t then _ else _) ≤ _
                    rw [if_neg e2]
                    exact hpr u hu
                · by_cases e2 : u = t
                  · exact if_pos e2
                  · show (if u = t then _ else _) = _
                    rw [if_neg e2]
                    exact hno u (by omega) h2
            · exfalso
              omega
          | succ m_ ih =>
            intro k N pr be e hkm hsc hpr hlo hk hno hbe hbt hK
            have n2 : N 115 2 = w := by rw [hsc _ _ (by omega) (by omega) (by omega)]; exact a1
            have hRN := RM_scr hR hW hsc
            have hpt := hpr t (by omega)
            rw [hk] at hpt
            have emf : (mf (vd pl kd wt nx w.toNat (hs n) 0 (!lgt t)) (lgt t) w.toNat (cpn w.toNat (fun k => hs n (5 + k)) pr t) k = mf (vd pl kd wt nx w.toNat (hs n) 0 (!lgt t)) (lgt t) w.toNat (cpn w.toNat (fun k => hs n (5 + k)) pr t) k) := rfl
            have emk : k ≤ (w.toNat * w.toNat) := by omega
            refine xr_aloadn hc rfl rfl ?_
            refine xr_getfr hc rfl rfl (by first | assumption | rfl) (by first | assumption | rfl) ?_
            refine xr_iloadn hc rfl rfl ?_
            
            first | refine xr_iaload hc rfl (by first | assumption | rfl) (by first | omega | (unfold dz_w; omega)) (by first | omega | (unfold dz_w; omega)) ?_ | refine xr_ialoado hc rfl (by first | omega | (unfold dz_w; omega)) (by first | omega | (unfold dz_w; omega)) ?_
            rw [Int.toNat_natCast, hpt.1]
            refine xr_iloadn hc rfl rfl ?_
            refine xr_icmp_gt hc rfl (t := 110) rfl (fun b81 => ?_) (fun b81 => ?_)
            · refine xr_aloadn hc rfl rfl ?_
              refine xr_getfr hc rfl rfl (by first | assumption | rfl) (by first | assumption | rfl) ?_
              refine xr_iloadn hc rfl rfl ?_
              first | refine xr_iaload hc rfl (by first | assumption | rfl) (by first | omega | (unfold dz_w; omega)) (by first | omega | (unfold dz_w; omega)) ?_ | refine xr_ialoado hc rfl (by first | omega | (unfold dz_w; omega)) (by first | omega | (unfold dz_w; omega)) ?_
              rw [Int.toNat_natCast, hpt.1]
              refine xr_iloadn hc rfl rfl ?_
              refine xr_icmp_le hc rfl (t := 184) rfl (fun b117 => ?_) (fun b117 => ?_)
              · refine xr_iloadn hc rfl rfl ?_
                refine xr_iloadn hc rfl rfl ?_
                refine xr_iconst hc rfl ?_
                refine xr_isubz hc rfl (by first | exact dz_wid (by first | omega | (unfold dz_w; omega)) (by first | omega | (unfold dz_w; omega)) | rfl) ?_
                refine xr_icmp_ne hc rfl (t := 224) rfl (fun b188 => ?_) (fun b188 => ?_)
                · exfalso
                  omega
                · refine xr_aloadn hc rfl rfl ?_
                  refine xr_getfr hc rfl rfl (by first | assumption | rfl) (by first | assumption | rfl) ?_
                  refine xr_iloadn hc rfl rfl ?_
                  refine xr_iloadn hc rfl rfl ?_
                  refine xr_aloadn hc rfl rfl ?_
                  refine xr_getfr hc rfl rfl (by first | assumption | rfl) (by first | assumption | rfl) ?_
                  refine xr_iloadn hc rfl rfl ?_
                  first | refine xr_iaload hc rfl (by first | assumption | rfl) (by first | omega | (unfold dz_w; omega)) (by first | omega | (unfold dz_w; omega)) ?_ | refine xr_ialoado hc rfl (by first | omega | (unfold dz_w; omega)) (by first | omega | (unfold dz_w; omega)) ?_
                  rw [Int.toNat_natCast, hbt]
                  refine xr_aloadn hc rfl rfl ?_
                  refine xr_callv0 hc rfl (by first | assumption | rfl) rfl rfl rfl (Nat.le_of_ble_eq_true rfl) (Nat.zero_le _) (Nat.zero_le _) ?_
                  refine D_eightSteps (pr := pr) hl hRN hW hw0 (fun u hu => ⟨(hpr u hu).1, ?_⟩) (fun N1 y1 => ?_)
                  · by_cases e2 : u = t
                    · rw [e2, hk]
                      exact emk
                    · by_cases e3 : u < t
                      · exact hlo u e3
                      · rw [hno u (by omega) hu]
                        omega
                  have ecp : cpn w.toNat (fun k => hs n (5 + k)) pr 3 = swk w.toNat (cpn w.toNat (fun k => hs n (5 + k)) pr t) k := by
                    have z := cpn_no (W := w.toNat) (sp := (fun k => hs n (5 + k))) (pr := pr) (t := t + 1) (3 - (t + 1)) (fun u h1 h2 => hno u (by omega) (by omega))
                    rw [show t + 1 + (3 - (t + 1)) = 3 by omega] at z
                    rw [z]
                    show swk w.toNat (cpn w.toNat (fun k => hs n (5 + k)) pr t) (pr t) = _
                    rw [hk]
                  rw [ecp]
                  refine xk_1 ?_
                  refine xr_calls3 hc rfl (by decide) rfl rfl rfl (Nat.le_of_ble_eq_true rfl) (Nat.zero_le _) (Nat.zero_le _) ?_
                  refine D_better (by omega) ?_
                  refine xk_1 ?_
                  refine xr_iastore hc rfl (by first | assumption | rfl) (by first | omega | (unfold dz_w; omega)) (by first | omega | (unfold dz_w; omega)) ?_
                  rw [Int.toNat_natCast]
                  refine xr_aloadn hc rfl rfl ?_
                  refine xr_getfr hc rfl rfl (by first | assumption | rfl) (by first | assumption | rfl) ?_
                  refine xr_iloadn hc rfl rfl ?_
                  refine xr_dup2i hc rfl ?_
                  first | refine xr_iaload hc rfl (by first | assumption | rfl) (by first | omega | (unfold dz_w; omega)) (by first | omega | (unfold dz_w; omega)) ?_ | refine xr_ialoado hc rfl (by first | omega | (unfold dz_w; omega)) (by first | omega | (unfold dz_w; omega)) ?_
                  rw [Int.toNat_natCast, dz_up_ne (by omega), y1 _ _ (by omega) (by omega), hpt.1]
                  refine xr_iconst hc rfl ?_
                  refine xr_iaddz hc rfl (by first | exact dz_wid (by first | omega | (unfold dz_w; omega)) (by first | omega | (unfold dz_w; omega)) | rfl) ?_
                  refine xr_iastore hc rfl (by first | assumption | rfl) (by first | omega | (unfold dz_w; omega)) (by first | omega | (unfold dz_w; omega)) ?_
                  refine xr_goto hc rfl (t := 70) rfl ?_
                  try rw [Int.toNat_natCast]
                  refine xr_iloadn hc rfl rfl ?_
                  refine xr_if_lt hc rfl (t := 235) rfl (fun b71 => ?_) (fun b71 => ?_)
                  · exfalso
                    omega
                  · first
                      | (exfalso; omega)
                      | (refine ih (k + 1) _ (fun u => if u = t then k + 1 else pr u) be _ (by omega) (fun q2 k2 v1 v2 v3 => ?_) (fun u hu => ?_) (fun u hu => by show (if u = t then k + 1 else pr u) ≤ _; rw [if_neg (by omega)]; exact hlo u hu) (if_pos rfl) (fun u h1 h2 => ?_) (fun u hu => ?_) ?_ ?_
                         · rw [dz_up_ne (by omega), hsc _ _ v1 v2 v3]
                         · by_cases e2 : u = t
                           · rw [e2]
                             show _ = (((if t = t then _ else _) : Nat) : Int) ∧ (if t = t then _ else _) ≤ _
                             rw [if_pos rfl]
                             exact ⟨by rw [dz_up_eq]; omega, by omega⟩
                           · show _ = (((if u = t then _ else _) : Nat) : Int) ∧ (if u = t then _ else _) ≤ _
                             rw [if_neg e2]
                             exact ⟨by rw [dz_up_k e2]; exact (hpr u hu).1, (hpr u hu).2⟩
                         · show (if u = t then _ else _) = _
                           rw [if_neg (by omega)]
                           exact hno u h1 h2
                         · rw [dz_up_ne (by omega)]
                           exact hbe u hu
                         · rw [cpn_c t (pr2 := pr) (fun u hu => if_neg (by omega))]
                           rw [dz_up_ne (by omega), hbt]
                           exact (if_neg hnp).symm
                         · intro N3 pr3 a1 a2 a3 a4 a5
                           have z := hK N3 pr3 a1 a2 (fun u hu => (a3 u hu).trans (if_neg (by omega))) a4 a5
                           rw [cpn_c (pr2 := pr) t (fun u hu => if_neg (by omega))]
                           exact z)
                      | (refine ih (k + 1) _ (fun u => if u = t then k + 1 else pr u) be _ (by omega) (fun q2 k2 v1 v2 v3 => ?_) (fun u hu => ?_) (fun u hu => by show (if u = t then k + 1 else pr u) ≤ _; rw [if_neg (by omega)]; exact hlo u hu) (if_pos rfl) (fun u h1 h2 => ?_) (fun u hu => ?_) ?_ ?_
                         · rw [dz_up_ne (by omega), dz_up_ne (by omega), y1 _ _ (by omega) (by omega), hsc _ _ v1 v2 v3]
                         · by_cases e2 : u = t
                           · rw [e2]
                             show _ = (((if t = t then _ else _) : Nat) : Int) ∧ (if t = t then _ else _) ≤ _
                             rw [if_pos rfl]
                             exact ⟨by rw [dz_up_eq]; omega, by omega⟩
                           · show _ = (((if u = t then _ else _) : Nat) : Int) ∧ (if u = t then _ else _) ≤ _
                             rw [if_neg e2]
                             exact ⟨by rw [dz_up_k e2, dz_up_ne (by omega), y1 _ _ (by omega) (by omega)]; exact (hpr u hu).1, (hpr u hu).2⟩
                         · show (if u = t then _ else _) = _
                           rw [if_neg (by omega)]
                           exact hno u h1 h2
                         · rw [dz_up_ne (by omega), dz_up_k (by omega), y1 _ _ (by omega) (by omega)]
                           exact hbe u hu
                         · rw [cpn_c t (pr2 := pr) (fun u hu => if_neg (by omega))]
                           rw [dz_up_ne (by omega), dz_up_eq]
                           exact (if_pos hnp).symm
                         · intro N3 pr3 a1 a2 a3 a4 a5
                           have z := hK N3 pr3 a1 a2 (fun u hu => (a3 u hu).trans (if_neg (by omega))) a4 a5
                           rw [cpn_c (pr2 := pr) t (fun u hu => if_neg (by omega))]
                           exact z)
              · exfalso
                omega
            · refine xr_aloadn hc rfl rfl ?_
              refine xr_aloadn hc rfl rfl ?_
              refine xr_getfr hc rfl rfl (by first | assumption | rfl) (by first | assumption | rfl) ?_
              refine xr_iloadn hc rfl rfl ?_
              first | refine xr_iaload hc rfl (by first | assumption | rfl) (by first | omega | (unfold dz_w; omega)) (by first | omega | (unfold dz_w; omega)) ?_ | refine xr_ialoado hc rfl (by first | omega | (unfold dz_w; omega)) (by first | omega | (unfold dz_w; omega)) ?_
              rw [Int.toNat_natCast, hpt.1]
              refine xr_callv1 hc rfl (by first | assumption | rfl) rfl rfl rfl (Nat.le_of_ble_eq_true rfl) (Nat.zero_le _) (Nat.zero_le _) ?_
              refine D_isPair hl n2 (by omega) emk (fun hnp => ?_) (fun hnp => ?_)
              · refine xk_1 ?_
                refine xr_ift hc rfl (t := 110) rfl (by simp [dz_cmp]) ?_
                refine xr_aloadn hc rfl rfl ?_
                refine xr_getfr hc rfl rfl (by first | assumption | rfl) (by first | assumption | rfl) ?_
                refine xr_iloadn hc rfl rfl ?_
                first | refine xr_iaload hc rfl (by first | assumption | rfl) (by first | omega | (unfold dz_w; omega)) (by first | omega | (unfold dz_w; omega)) ?_ | refine xr_ialoado hc rfl (by first | omega | (unfold dz_w; omega)) (by first | omega | (unfold dz_w; omega)) ?_
                rw [Int.toNat_natCast, hpt.1]
                refine xr_iloadn hc rfl rfl ?_
                refine xr_icmp_le hc rfl (t := 184) rfl (fun b117 => ?_) (fun b117 => ?_)
                · refine xr_iloadn hc rfl rfl ?_
                  refine xr_iloadn hc rfl rfl ?_
                  refine xr_iconst hc rfl ?_
                  refine xr_isubz hc rfl (by first | exact dz_wid (by first | omega | (unfold dz_w; omega)) (by first | omega | (unfold dz_w; omega)) | rfl) ?_
                  refine xr_icmp_ne hc rfl (t := 224) rfl (fun b188 => ?_) (fun b188 => ?_)
                  · exfalso
                    omega
                  · refine xr_aloadn hc rfl rfl ?_
                    refine xr_getfr hc rfl rfl (by first | assumption | rfl) (by first | assumption | rfl) ?_
                    refine xr_iloadn hc rfl rfl ?_
                    refine xr_iloadn hc rfl rfl ?_
                    refine xr_aloadn hc rfl rfl ?_
                    refine xr_getfr hc rfl rfl (by first | assumption | rfl) (by first | assumption | rfl) ?_
                    refine xr_iloadn hc rfl rfl ?_
                    first | refine xr_iaload hc rfl (by first | assumption | rfl) (by first | omega | (unfold dz_w; omega)) (by first | omega | (unfold dz_w; omega)) ?_ | refine xr_ialoado hc rfl (by first | omega | (unfold dz_w; omega)) (by first | omega | (unfold dz_w; omega)) ?_
                    rw [Int.toNat_natCast, hbt]
                    refine xr_aloadn hc rfl rfl ?_
                    refine xr_callv0 hc rfl (by first | assumption | rfl) rfl rfl rfl (Nat.le_of_ble_eq_true rfl) (Nat.zero_le _) (Nat.zero_le _) ?_
                    refine D_eightSteps (pr := pr) hl hRN hW hw0 (fun u hu => ⟨(hpr u hu).1, ?_⟩) (fun N1 y1 => ?_)
                    · by_cases e2 : u = t
                      · rw [e2, hk]
                        exact emk
                      · by_cases e3 : u < t
                        · exact hlo u e3
                        · rw [hno u (by omega) hu]
                          omega
                    have ecp : cpn w.toNat (fun k => hs n (5 + k)) pr 3 = swk w.toNat (cpn w.toNat (fun k => hs n (5 + k)) pr t) k := by
                      have z := cpn_no (W := w.toNat) (sp := (fun k => hs n (5 + k))) (pr := pr) (t := t + 1) (3 - (t + 1)) (fun u h1 h2 => hno u (by omega) (by omega))
                      rw [show t + 1 + (3 - (t + 1)) = 3 by omega] at z
                      rw [z]
                      show swk w.toNat (cpn w.toNat (fun k => hs n (5 + k)) pr t) (pr t) = _
                      rw [hk]
                    rw [ecp]
                    refine xk_1 ?_
                    refine xr_calls3 hc rfl (by decide) rfl rfl rfl (Nat.le_of_ble_eq_true rfl) (Nat.zero_le _) (Nat.zero_le _) ?_
                    refine D_better (by omega) ?_
                    refine xk_1 ?_
                    refine xr_iastore hc rfl (by first | assumption | rfl) (by first | omega | (unfold dz_w; omega)) (by first | omega | (unfold dz_w; omega)) ?_
                    rw [Int.toNat_natCast]
                    refine xr_aloadn hc rfl rfl ?_
                    refine xr_getfr hc rfl rfl (by first | assumption | rfl) (by first | assumption | rfl) ?_
                    refine xr_iloadn hc rfl rfl ?_
                    refine xr_dup2i hc rfl ?_
                    first | refine xr_iaload hc rfl (by first | assumption | rfl) (by first | omega | (unfold dz_w; omega)) (by first | omega | (unfold dz_w; omega)) ?_ | refine xr_ialoado hc rfl (by first | omega | (unfold dz_w; omega)) (by first | omega | (unfold dz_w; omega)) ?_
                    rw [Int.toNat_natCast, dz_up_ne (by omega), y1 _ _ (by omega) (by omega), hpt.1]
                    refine xr_iconst hc rfl ?_
                    refine xr_iaddz hc rfl (by first | exact dz_wid (by first | omega | (unfold dz_w; omega)) (by first | omega | (unfold dz_w; omega)) | rfl) ?_
                    refine xr_iastore hc rfl (by first | assumption | rfl) (by first | omega | (unfold dz_w; omega)) (by first | omega | (unfold dz_w; omega)) ?_
                    refine xr_goto hc rfl (t := 70) rfl ?_
                    try rw [Int.toNat_natCast]
                    refine xr_iloadn hc rfl rfl ?_
                    refine xr_if_lt hc rfl (t := 235) rfl (fun b71 => ?_) (fun b71 => ?_)
                    · exfalso
                      omega
                    · first
                        | (exfalso; omega)
                        | (refine ih (k + 1) _ (fun u => if u = t then k + 1 else pr u) be _ (by omega) (fun q2 k2 v1 v2 v3 => ?_) (fun u hu => ?_) (fun u hu => by show (if u = t then k + 1 else pr u) ≤ _; rw [if_neg (by omega)]; exact hlo u hu) (if_pos rfl) (fun u h1 h2 => ?_) (fun u hu => ?_) ?_ ?_
                           · rw [dz_up_ne (by omega), hsc _ _ v1 v2 v3]
                           · by_cases e2 : u = t
                             · rw [e2]
                               show _ = (((if t = t then _ else _) : Nat) : Int) ∧ (if t = t then _ else _) ≤ _
                               rw [if_pos rfl]
                               exact ⟨by rw [dz_up_eq]; omega, by omega⟩
                             · show _ = (((if u = t then _ else _) : Nat) : Int) ∧ (if u = t then _ else _) ≤ _
                               rw [if_neg e2]
                               exact ⟨by rw [dz_up_k e2]; exact (hpr u hu).1, (hpr u hu).2⟩
                           · show (if u = t then _ else _) = _
                             rw [if_neg (by omega)]
                             exact hno u h1 h2
                           · rw [dz_up_ne (by omega)]
                             exact hbe u hu
                           · rw [cpn_c t (pr2 := pr) (fun u hu => if_neg (by omega))]
                             rw [dz_up_ne (by omega), hbt]
                             exact (if_neg hnp).symm
                           · intro N3 pr3 a1 a2 a3 a4 a5
                             have z := hK N3 pr3 a1 a2 (fun u hu => (a3 u hu).trans (if_neg (by omega))) a4 a5
                             rw [cpn_c (pr2 := pr) t (fun u hu => if_neg (by omega))]
                             exact z)
                        | (refine ih (k + 1) _ (fun u => if u = t then k + 1 else pr u) be _ (by omega) (fun q2 k2 v1 v2 v3 => ?_) (fun u hu => ?_) (fun u hu => by show (if u = t then k + 1 else pr u) ≤ _; rw [if_neg (by omega)]; exact hlo u hu) (if_pos rfl) (fun u h1 h2 => ?_) (fun u hu => ?_) ?_ ?_
                           · rw [dz_up_ne (by omega), dz_up_ne (by omega), y1 _ _ (by omega) (by omega), hsc _ _ v1 v2 v3]
                           · by_cases e2 : u = t
                             · rw [e2]
                               show _ = (((if t = t then _ else _) : Nat) : Int) ∧ (if t = t then _ else _) ≤ _
                               rw [if_pos rfl]
                               exact ⟨by rw [dz_up_eq]; omega, by omega⟩
                             · show _ = (((if u = t then _ else _) : Nat) : Int) ∧ (if u = t then _ else _) ≤ _
                               rw [if_neg e2]
                               exact ⟨by rw [dz_up_k e2, dz_up_ne (by omega), y1 _ _ (by omega) (by omega)]; exact (hpr u hu).1, (hpr u hu).2⟩
                           · show (if u = t then _ else _) = _
                             rw [if_neg (by omega)]
                             exact hno u h1 h2
                           · rw [dz_up_ne (by omega), dz_up_k (by omega), y1 _ _ (by omega) (by omega)]
                             exact hbe u hu
                           · rw [cpn_c t (pr2 := pr) (fun u hu => if_neg (by omega))]
                             rw [dz_up_ne (by omega), dz_up_eq]
                             exact (if_pos hnp).symm
                           · intro N3 pr3 a1 a2 a3 a4 a5
                             have z := hK N3 pr3 a1 a2 (fun u hu => (a3 u hu).trans (if_neg (by omega))) a4 a5
                             rw [cpn_c (pr2 := pr) t (fun u hu => if_neg (by omega))]
                             exact z)
                · exfalso
                  omega
              · refine xk_1 ?_
                refine xr_iff hc rfl (by simp [dz_cmp]) ?_
                refine xr_aloadn hc rfl rfl ?_
                refine xr_getfr hc rfl rfl (by first | assumption | rfl) (by first | assumption | rfl) ?_
                refine xr_iloadn hc rfl rfl ?_
                refine xr_dup2i hc rfl ?_
                first | refine xr_iaload hc rfl (by first | assumption | rfl) (by first | omega | (unfold dz_w; omega)) (by first | omega | (unfold dz_w; omega)) ?_ | refine xr_ialoado hc rfl (by first | omega | (unfold dz_w; omega)) (by first | omega | (unfold dz_w; omega)) ?_
                rw [Int.toNat_natCast, hpt.1]
                refine xr_iconst hc rfl ?_
                refine xr_iaddz hc rfl (by first | exact dz_wid (by first | omega | (unfold dz_w; omega)) (by first | omega | (unfold dz_w; omega)) | rfl) ?_
                refine xr_iastore hc rfl (by first | assumption | rfl) (by first | omega | (unfold dz_w; omega)) (by first | omega | (unfold dz_w; omega)) ?_
                rw [Int.toNat_natCast]
                refine xr_goto hc rfl (t := 74) rfl ?_
                first
                  | (exfalso; omega)
                  | (refine ih (k + 1) _ (fun u => if u = t then k + 1 else pr u) be _ (by omega) (fun q2 k2 v1 v2 v3 => ?_) (fun u hu => ?_) (fun u hu => by show (if u = t then k + 1 else pr u) ≤ _; rw [if_neg (by omega)]; exact hlo u hu) (if_pos rfl) (fun u h1 h2 => ?_) (fun u hu => ?_) ?_ ?_
                     · rw [dz_up_ne (by omega), hsc _ _ v1 v2 v3]
                     · by_cases e2 : u = t
                       · rw [e2]
                         show _ = (((if t = t then _ else _) : Nat) : Int) ∧ (if t = t then _ else _) ≤ _
                         rw [if_pos rfl]
                         exact ⟨by rw [dz_up_eq]; omega, by omega⟩
                       · show _ = (((if u = t then _ else _) : Nat) : Int) ∧ (if u = t then _ else _) ≤ _
                         rw [if_neg e2]
                         exact ⟨by rw [dz_up_k e2]; exact (hpr u hu).1, (hpr u hu).2⟩
                     · show (if u = t then _ else _) = _
                       rw [if_neg (by omega)]
                       exact hno u h1 h2
                     · rw [dz_up_ne (by omega)]
                       exact hbe u hu
                     · rw [cpn_c t (pr2 := pr) (fun u hu => if_neg (by omega))]
                       rw [dz_up_ne (by omega), hbt]
                       exact (if_neg hnp).symm
                     · intro N3 pr3 a1 a2 a3 a4 a5
                       have z := hK N3 pr3 a1 a2 (fun u hu => (a3 u hu).trans (if_neg (by omega))) a4 a5
                       rw [cpn_c (pr2 := pr) t (fun u hu => if_neg (by omega))]
                       exact z)
                  | (refine ih (k + 1) _ (fun u => if u = t then k + 1 else pr u) be _ (by omega) (fun q2 k2 v1 v2 v3 => ?_) (fun u hu => ?_) (fun u hu => by show (if u = t then k + 1 else pr u) ≤ _; rw [if_neg (by omega)]; exact hlo u hu) (if_pos rfl) (fun u h1 h2 => ?_) (fun u hu => ?_) ?_ ?_
                     · rw [dz_up_ne (by omega), dz_up_ne (by omega), y1 _ _ (by omega) (by omega), hsc _ _ v1 v2 v3]
                     · by_cases e2 : u = t
                       · rw [e2]
                         show _ = (((if t = t then _ else _) : Nat) : Int) ∧ (if t = t then _ else _) ≤ _
                         rw [if_pos rfl]
                         exact ⟨by rw [dz_up_eq]; omega, by omega⟩
                       · show _ = (((if u = t then _ else _) : Nat) : Int) ∧ (if u = t then _ else _) ≤ _
                         rw [if_neg e2]
                         exact ⟨by rw [dz_up_k e2, dz_up_ne (by omega), y1 _ _ (by omega) (by omega)]; exact (hpr u hu).1, (hpr u hu).2⟩
                     · show (if u = t then _ else _) = _
                       rw [if_neg (by omega)]
                       exact hno u h1 h2
                     · rw [dz_up_ne (by omega), dz_up_k (by omega), y1 _ _ (by omega) (by omega)]
                       exact hbe u hu
                     · rw [cpn_c t (pr2 := pr) (fun u hu => if_neg (by omega))]
                       rw [dz_up_ne (by omega), dz_up_eq]
                       exact (if_pos hnp).symm
                     · intro N3 pr3 a1 a2 a3 a4 a5
                       have z := hK N3 pr3 a1 a2 (fun u hu => (a3 u hu).trans (if_neg (by omega))) a4 a5
                       rw [cpn_c (pr2 := pr) t (fun u hu => if_neg (by omega))]
                       exact z)
        | succ r ihr =>
          intro t htr m_
          have hfi : ∀ sp, 0 ≤ vd pl kd wt nx w.toNat (hs n) (r + 1) (!lgt t) sp ∧ vd pl kd wt nx w.toNat (hs n) (r + 1) (!lgt t) sp ≤ 320 := fun sp => vd_in hp hst (by omega) (r + 1) (!lgt t) sp
          induction m_ with
          | zero =>
            intro k N pr be e hkm hsc hpr hlo hk hno hbe hbt hK
            have n2 : N 115 2 = w := by rw [hsc _ _ (by omega) (by omega) (by omega)]; exact a1
            have hRN := RM_scr hR hW hsc
            have hpt := hpr t (by omega)
            rw [hk] at hpt
            have ek : k = (w.toNat * w.toNat) + 1 := by omega
            have hbt2 : N 129 t = vd pl kd wt nx w.toNat (hs n) ((r + 1) + 1) (lgt t) (cpn w.toNat (fun k => hs n (5 + k)) pr t) := by
              rw [hbt, ek, mf_end hfi]
              rfl
            refine xr_aloadn hc rfl rfl ?_
            refine xr_getfr hc rfl rfl (by first | assumption | rfl) (by first | assumption | rfl) ?_
            refine xr_iloadn hc rfl rfl ?_
            
            first | refine xr_iaload hc rfl (by first | assumption | rfl) (by first | omega | (unfold dz_w; omega)) (by first | omega | (unfold dz_w; omega)) ?_ | refine xr_ialoado hc rfl (by first | omega | (unfold dz_w; omega)) (by first | omega | (unfold dz_w; omega)) ?_
            rw [Int.toNat_natCast, hpt.1]
            refine xr_iloadn hc rfl rfl ?_
            refine xr_icmp_gt hc rfl (t := 110) rfl (fun b81 => ?_) (fun b81 => ?_)
            · refine xr_aloadn hc rfl rfl ?_
              refine xr_getfr hc rfl rfl (by first | assumption | rfl) (by first | assumption | rfl) ?_
              refine xr_iloadn hc rfl rfl ?_
              first | refine xr_iaload hc rfl (by first | assumption | rfl) (by first | omega | (unfold dz_w; omega)) (by first | omega | (unfold dz_w; omega)) ?_ | refine xr_ialoado hc rfl (by first | omega | (unfold dz_w; omega)) (by first | omega | (unfold dz_w; omega)) ?_
              rw [Int.toNat_natCast, hpt.1]
              refine xr_iloadn hc rfl rfl ?_
              refine xr_icmp_le hc rfl (t := 184) rfl (fun b117 => ?_) (fun b117 => ?_)
              · exfalso
                omega
              · refine xr_aloadn hc rfl rfl ?_
                refine xr_getfr hc rfl rfl (by first | assumption | rfl) (by first | assumption | rfl) ?_
                refine xr_iloadn hc rfl rfl ?_
                refine xr_iloadn hc rfl rfl ?_
                refine xr_iastore hc rfl (by first | assumption | rfl) (by first | omega | (unfold dz_w; omega)) (by first | omega | (unfold dz_w; omega)) ?_
                rw [Int.toNat_natCast]
                refine xr_aloadn hc rfl rfl ?_
                refine xr_getfr hc rfl rfl (by first | assumption | rfl) (by first | assumption | rfl) ?_
                refine xr_iloadn hc rfl rfl ?_
                first | refine xr_iaload hc rfl (by first | assumption | rfl) (by first | omega | (unfold dz_w; omega)) (by first | omega | (unfold dz_w; omega)) ?_ | refine xr_ialoado hc rfl (by first | omega | (unfold dz_w; omega)) (by first | omega | (unfold dz_w; omega)) ?_
                rw [Int.toNat_natCast, dz_up_ne (by omega), hbt2]
                refine xr_istore4 hc rfl rfl ?_
                refine hK _ (fun u => if u = t then (w.toNat * w.toNat) else pr u) (fun q2 k2 v1 v2 v3 => by rw [dz_up_ne (by omega), hsc _ _ v1 v2 v3]) (fun u hu => ?_) (fun u hu => if_neg (by omega)) (fun u h1 h2 => ?_) (fun u hu => by rw [dz_up_ne (by omega)]; exact hbe u hu)
                · by_cases e2 : u = t
                  · rw [e2, dz_up_eq]
                    show _ = (((if t = t then _ else _) : Nat) : Int) ∧ (if t = t then _ else _) ≤ _
                    rw [if_pos rfl]
                    exact ⟨rfl, by omega⟩
                  · rw [dz_up_k e2]
                    show _ = (((if u = t then _ else _) : Nat) : Int) ∧ (if u = t then _ else _) ≤ _
                    rw [if_neg e2]
                    exact hpr u hu
                · by_cases e2 : u = t
                  · exact if_pos e2
                  · show (if u = t then _ else _) = _
                    rw [if_neg e2]
                    exact hno u (by omega) h2
            · exfalso
              omega
          | succ m_ ih =>
            intro k N pr be e hkm hsc hpr hlo hk hno hbe hbt hK
            have n2 : N 115 2 = w := by rw [hsc _ _ (by omega) (by omega) (by omega)]; exact a1
            have hRN := RM_scr hR hW hsc
            have hpt := hpr t (by omega)
            rw [hk] at hpt
            have emf : (mf (vd pl kd wt nx w.toNat (hs n) (r + 1) (!lgt t)) (lgt t) w.toNat (cpn w.toNat (fun k => hs n (5 + k)) pr t) k = mf (vd pl kd wt nx w.toNat (hs n) (r + 1) (!lgt t)) (lgt t) w.toNat (cpn w.toNat (fun k => hs n (5 + k)) pr t) k) := rfl
            have emk : k ≤ (w.toNat * w.toNat) := by omega
            refine xr_aloadn hc rfl rfl ?_
            refine xr_getfr hc rfl rfl (by first | assumption | rfl) (by first | assumption | rfl) ?_
            refine xr_iloadn hc rfl rfl ?_
            
            first | refine xr_iaload hc rfl (by first | assumption | rfl) (by first | omega | (unfold dz_w; omega)) (by first | omega | (unfold dz_w; omega)) ?_ | refine xr_ialoado hc rfl (by first | omega | (unfold dz_w; omega)) (by first | omega | (unfold dz_w; omega)) ?_
            rw [Int.toNat_natCast, hpt.1]
            refine xr_iloadn hc rfl rfl ?_
            refine xr_icmp_gt hc rfl (t := 110) rfl (fun b81 => ?_) (fun b81 => ?_)
            · refine xr_aloadn hc rfl rfl ?_
              refine xr_getfr hc rfl rfl (by first | assumption | rfl) (by first | assumption | rfl) ?_
              refine xr_iloadn hc rfl rfl ?_
              first | refine xr_iaload hc rfl (by first | assumption | rfl) (by first | omega | (unfold dz_w; omega)) (by first | omega | (unfold dz_w; omega)) ?_ | refine xr_ialoado hc rfl (by first | omega | (unfold dz_w; omega)) (by first | omega | (unfold dz_w; omega)) ?_
              rw [Int.toNat_natCast, hpt.1]
              refine xr_iloadn hc rfl rfl ?_
              refine xr_icmp_le hc rfl (t := 184) rfl (fun b117 => ?_) (fun b117 => ?_)
              · refine xr_iloadn hc rfl rfl ?_
                refine xr_iloadn hc rfl rfl ?_
                refine xr_iconst hc rfl ?_
                refine xr_isubz hc rfl (by first | exact dz_wid (by first | omega | (unfold dz_w; omega)) (by first | omega | (unfold dz_w; omega)) | rfl) ?_
                refine xr_icmp_ne hc rfl (t := 224) rfl (fun b188 => ?_) (fun b188 => ?_)
                · refine xr_iincz3 hc rfl rfl (by first | exact dz_wid (by first | omega | (unfold dz_w; omega)) (by first | omega | (unfold dz_w; omega)) | rfl) ?_
                  refine xr_aloadn hc rfl rfl ?_
                  refine xr_iloadn hc rfl rfl ?_
                  refine xr_callv1 hc rfl (by first | assumption | rfl) rfl rfl rfl (Nat.le_of_ble_eq_true rfl) (Nat.zero_le _) (Nat.zero_le _) ?_
                  rw [show (t : Int) + 1 = ((t + 1 : Nat) : Int) by omega]
                  refine D_beginTurn (t := t + 1) hl (by omega) ?_
                  refine xk_0 ?_
                  refine xr_goto hc rfl (t := 70) rfl ?_
                  refine xr_iloadn hc rfl rfl ?_
                  refine xr_if_lt hc rfl (t := 235) rfl (fun b71 => ?_) (fun b71 => ?_)
                  · exfalso
                    omega
                  · first
                      | (exfalso; omega)
                      | (refine ih (k + 1) _ (fun u => if u = t then k + 1 else pr u) be _ (by omega) (fun q2 k2 v1 v2 v3 => ?_) (fun u hu => ?_) (fun u hu => by show (if u = t then k + 1 else pr u) ≤ _; rw [if_neg (by omega)]; exact hlo u hu) (if_pos rfl) (fun u h1 h2 => ?_) (fun u hu => ?_) ?_ ?_
                         · rw [dz_up_ne (by omega), hsc _ _ v1 v2 v3]
                         · by_cases e2 : u = t
                           · rw [e2]
                             show _ = (((if t = t then _ else _) : Nat) : Int) ∧ (if t = t then _ else _) ≤ _
                             rw [if_pos rfl]
                             exact ⟨by rw [dz_up_eq]; omega, by omega⟩
                           · show _ = (((if u = t then _ else _) : Nat) : Int) ∧ (if u = t then _ else _) ≤ _
                             rw [if_neg e2]
                             exact ⟨by rw [dz_up_k e2]; exact (hpr u hu).1, (hpr u hu).2⟩
                         · show (if u = t then _ else _) = _
                           rw [if_neg (by omega)]
                           exact hno u h1 h2
                         · rw [dz_up_ne (by omega)]
                           exact hbe u hu
                         · rw [cpn_c t (pr2 := pr) (fun u hu => if_neg (by omega))]
                           rw [dz_up_ne (by omega), hbt]
                           exact (if_neg hnp).symm
                         · intro N3 pr3 a1 a2 a3 a4 a5
                           have z := hK N3 pr3 a1 a2 (fun u hu => (a3 u hu).trans (if_neg (by omega))) a4 a5
                           rw [cpn_c (pr2 := pr) t (fun u hu => if_neg (by omega))]
                           exact z)
                      | (refine ihr (t + 1) (by omega) ((w.toNat * w.toNat) + 1) 0 _ (fun u => if u = t + 1 then 0 else pr u) (fun u => if u = t then N 129 t else be u) _ (by omega) (fun q2 k2 v1 v2 v3 => by rw [dz_up_ne (by omega), dz_up_ne (by omega), hsc _ _ v1 v2 v3]) (fun u hu => ?_) (fun u hu => by show (if u = t + 1 then 0 else pr u) ≤ _; by_cases e4 : u = t; (rw [if_neg (by omega), e4, hk]; exact emk); (rw [if_neg (by omega)]; exact hlo u (by omega))) (if_pos rfl) (fun u h1 h2 => ?_) (fun u hu => ?_) ?_ ?_
                         · by_cases e2 : u = t + 1
                           · rw [e2, dz_up_ne (by omega), dz_up_eq]
                             show _ = (((if t + 1 = t + 1 then _ else _) : Nat) : Int) ∧ (if t + 1 = t + 1 then _ else _) ≤ _
                             rw [if_pos rfl]
                             exact ⟨rfl, by omega⟩
                           · rw [dz_up_ne (by omega), dz_up_k e2]
                             show _ = (((if u = t + 1 then _ else _) : Nat) : Int) ∧ (if u = t + 1 then _ else _) ≤ _
                             rw [if_neg e2]
                             exact hpr u hu
                         · show (if u = t + 1 then _ else _) = _
                           rw [if_neg (by omega)]
                           exact hno u (by omega) h2
                         · rw [dz_up_k (by omega), dz_up_ne (by omega)]
                           show _ = (if u = t then _ else be u)
                           by_cases e2 : u = t
                           · rw [if_pos e2, e2]
                           · rw [if_neg e2]
                             exact hbe u (by omega)
                         · rw [dz_up_eq]
                           rfl
                         · intro N2 pr2 c1 c2 c3 c4 c5
                           have cb : N2 129 t = mf (vd pl kd wt nx w.toNat (hs n) (r + 1) (!lgt t)) (lgt t) w.toNat (cpn w.toNat (fun k => hs n (5 + k)) pr t) k := by
                             rw [c5 t (by omega), ← hbt]
                             exact if_pos rfl
                           have cp : N2 128 t = (k : Int) := by
                             rw [(c2 t (by omega)).1, c3 t (by omega)]
                             show (((if t = t + 1 then _ else _) : Nat) : Int) = _
                             rw [if_neg (by omega), hk]
                           have ecp : cpn w.toNat (fun k => hs n (5 + k)) (fun u => if u = t + 1 then 0 else pr u) (t + 1) = swk w.toNat (cpn w.toNat (fun k => hs n (5 + k)) pr t) k := by
                             show swk w.toNat (cpn w.toNat (fun k => hs n (5 + k)) (fun u => if u = t + 1 then 0 else pr u) t) (if t = t + 1 then 0 else pr t) = _
                             rw [if_neg (by omega), hk, cpn_c t (pr2 := pr) (fun u hu => if_neg (by omega))]
                           rw [ecp, lgt_s]
                           refine xr_iincz3 hc rfl rfl (by first | exact dz_wid (by first | omega | (unfold dz_w; omega)) (by first | omega | (unfold dz_w; omega)) | rfl) ?_
                           rw [show ((t + 1 : Nat) : Int) + -1 = (t : Int) by omega]
                           refine xr_iloadn hc rfl rfl ?_
                           refine xr_if_lt hc rfl (t := 173) rfl (fun b139 => ?_) (fun b139 => ?_)
                           · exfalso
                             omega
                           · refine xr_aloadn hc rfl rfl ?_
                             refine xr_getfr hc rfl rfl (by first | assumption | rfl) (by first | assumption | rfl) ?_
                             refine xr_iloadn hc rfl rfl ?_
                             refine xr_iloadn hc rfl rfl ?_
                             refine xr_aloadn hc rfl rfl ?_
                             refine xr_getfr hc rfl rfl (by first | assumption | rfl) (by first | assumption | rfl) ?_
                             refine xr_iloadn hc rfl rfl ?_
                             first | refine xr_iaload hc rfl (by first | assumption | rfl) (by first | omega | (unfold dz_w; omega)) (by first | omega | (unfold dz_w; omega)) ?_ | refine xr_ialoado hc rfl (by first | omega | (unfold dz_w; omega)) (by first | omega | (unfold dz_w; omega)) ?_
                             rw [Int.toNat_natCast, cb]
                             refine xr_iload hc rfl rfl ?_
                             refine xr_calls3 hc rfl (by decide) rfl rfl rfl (Nat.le_of_ble_eq_true rfl) (Nat.zero_le _) (Nat.zero_le _) ?_
                             refine D_better (by omega) ?_
                             refine xk_1 ?_
                             refine xr_iastore hc rfl (by first | assumption | rfl) (by first | omega | (unfold dz_w; omega)) (by first | omega | (unfold dz_w; omega)) ?_
                             rw [Int.toNat_natCast]
                             refine xr_aloadn hc rfl rfl ?_
                             refine xr_getfr hc rfl rfl (by first | assumption | rfl) (by first | assumption | rfl) ?_
                             refine xr_iloadn hc rfl rfl ?_
                             refine xr_dup2i hc rfl ?_
                             first | refine xr_iaload hc rfl (by first | assumption | rfl) (by first | omega | (unfold dz_w; omega)) (by first | omega | (unfold dz_w; omega)) ?_ | refine xr_ialoado hc rfl (by first | omega | (unfold dz_w; omega)) (by first | omega | (unfold dz_w; omega)) ?_
                             rw [Int.toNat_natCast, dz_up_ne (by omega), cp]
                             refine xr_iconst hc rfl ?_
                             refine xr_iaddz hc rfl (by first | exact dz_wid (by first | omega | (unfold dz_w; omega)) (by first | omega | (unfold dz_w; omega)) | rfl) ?_
                             refine xr_iastore hc rfl (by first | assumption | rfl) (by first | omega | (unfold dz_w; omega)) (by first | omega | (unfold dz_w; omega)) ?_
                             refine xr_goto hc rfl (t := 181) rfl ?_
                             refine xr_goto hc rfl (t := 70) rfl ?_
                             try rw [Int.toNat_natCast]
                             refine xr_iloadn hc rfl rfl ?_
                             refine xr_if_lt hc rfl (t := 235) rfl (fun b71 => ?_) (fun b71 => ?_)
                             · exfalso
                               omega
                             · refine ih (k + 1) _ (fun u => if u = t then k + 1 else pr u) be _ (by omega) (fun q2 k2 v1 v2 v3 => ?_) (fun u hu => ?_) (fun u hu => by show (if u = t then k + 1 else pr u) ≤ _; rw [if_neg (by omega)]; exact hlo u hu) (if_pos rfl) (fun u h1 h2 => ?_) (fun u hu => ?_) ?_ ?_
                               · rw [dz_up_ne (by omega), dz_up_ne (by omega), c1 _ _ v1 v2 v3]
                               · by_cases e2 : u = t
                                 · rw [e2]
                                   show _ = (((if t = t then _ else _) : Nat) : Int) ∧ (if t = t then _ else _) ≤ _
                                   rw [if_pos rfl]
                                   exact ⟨by rw [dz_up_eq]; omega, by omega⟩
                                 · show _ = (((if u = t then _ else _) : Nat) : Int) ∧ (if u = t then _ else _) ≤ _
                                   rw [if_neg e2]
                                   exact ⟨by rw [dz_up_k e2, dz_up_ne (by omega), (c2 u hu).1]; by_cases e3 : u < t; (rw [c3 u (by omega)]; show (((if u = t + 1 then _ else _) : Nat) : Int) = _; rw [if_neg (by omega)]); (rw [c4 u (by omega) hu, hno u (by omega) hu]), (hpr u hu).2⟩
                               · show (if u = t then _ else _) = _
                                 rw [if_neg (by omega)]
                                 exact hno u h1 h2
                               · rw [dz_up_ne (by omega), dz_up_k (by omega), c5 u (by omega)]
                                 show (if u = t then _ else be u) = _
                                 rw [if_neg (by omega)]
                               · rw [cpn_c t (pr2 := pr) (fun u hu => if_neg (by omega))]
                                 rw [dz_up_ne (by omega), dz_up_eq]
                                 exact (if_pos hnp).symm
                               · intro N3 pr3 a1 a2 a3 a4 a5
                                 have z := hK N3 pr3 a1 a2 (fun u hu => (a3 u hu).trans (if_neg (by omega))) a4 a5
                                 rw [cpn_c (pr2 := pr) t (fun u hu => if_neg (by omega))]
                                 exact z)
                · exfalso
                  omega
              · exfalso
                omega
            · refine xr_aloadn hc rfl rfl ?_
              refine xr_aloadn hc rfl rfl ?_
              refine xr_getfr hc rfl rfl (by first | assumption | rfl) (by first | assumption | rfl) ?_
              refine xr_iloadn hc rfl rfl ?_
              first | refine xr_iaload hc rfl (by first | assumption | rfl) (by first | omega | (unfold dz_w; omega)) (by first | omega | (unfold dz_w; omega)) ?_ | refine xr_ialoado hc rfl (by first | omega | (unfold dz_w; omega)) (by first | omega | (unfold dz_w; omega)) ?_
              rw [Int.toNat_natCast, hpt.1]
              refine xr_callv1 hc rfl (by first | assumption | rfl) rfl rfl rfl (Nat.le_of_ble_eq_true rfl) (Nat.zero_le _) (Nat.zero_le _) ?_
              refine D_isPair hl n2 (by omega) emk (fun hnp => ?_) (fun hnp => ?_)
              · refine xk_1 ?_
                refine xr_ift hc rfl (t := 110) rfl (by simp [dz_cmp]) ?_
                refine xr_aloadn hc rfl rfl ?_
                refine xr_getfr hc rfl rfl (by first | assumption | rfl) (by first | assumption | rfl) ?_
                refine xr_iloadn hc rfl rfl ?_
                first | refine xr_iaload hc rfl (by first | assumption | rfl) (by first | omega | (unfold dz_w; omega)) (by first | omega | (unfold dz_w; omega)) ?_ | refine xr_ialoado hc rfl (by first | omega | (unfold dz_w; omega)) (by first | omega | (unfold dz_w; omega)) ?_
                rw [Int.toNat_natCast, hpt.1]
                refine xr_iloadn hc rfl rfl ?_
                refine xr_icmp_le hc rfl (t := 184) rfl (fun b117 => ?_) (fun b117 => ?_)
                · refine xr_iloadn hc rfl rfl ?_
                  refine xr_iloadn hc rfl rfl ?_
                  refine xr_iconst hc rfl ?_
                  refine xr_isubz hc rfl (by first | exact dz_wid (by first | omega | (unfold dz_w; omega)) (by first | omega | (unfold dz_w; omega)) | rfl) ?_
                  refine xr_icmp_ne hc rfl (t := 224) rfl (fun b188 => ?_) (fun b188 => ?_)
                  · refine xr_iincz3 hc rfl rfl (by first | exact dz_wid (by first | omega | (unfold dz_w; omega)) (by first | omega | (unfold dz_w; omega)) | rfl) ?_
                    refine xr_aloadn hc rfl rfl ?_
                    refine xr_iloadn hc rfl rfl ?_
                    refine xr_callv1 hc rfl (by first | assumption | rfl) rfl rfl rfl (Nat.le_of_ble_eq_true rfl) (Nat.zero_le _) (Nat.zero_le _) ?_
                    rw [show (t : Int) + 1 = ((t + 1 : Nat) : Int) by omega]
                    refine D_beginTurn (t := t + 1) hl (by omega) ?_
                    refine xk_0 ?_
                    refine xr_goto hc rfl (t := 70) rfl ?_
                    refine xr_iloadn hc rfl rfl ?_
                    refine xr_if_lt hc rfl (t := 235) rfl (fun b71 => ?_) (fun b71 => ?_)
                    · exfalso
                      omega
                    · first
                        | (exfalso; omega)
                        | (refine ih (k + 1) _ (fun u => if u = t then k + 1 else pr u) be _ (by omega) (fun q2 k2 v1 v2 v3 => ?_) (fun u hu => ?_) (fun u hu => by show (if u = t then k + 1 else pr u) ≤ _; rw [if_neg (by omega)]; exact hlo u hu) (if_pos rfl) (fun u h1 h2 => ?_) (fun u hu => ?_) ?_ ?_
                           · rw [dz_up_ne (by omega), hsc _ _ v1 v2 v3]
                           · by_cases e2 : u = t
                             · rw [e2]
                               show _ = (((if t = t then _ else _) : Nat) : Int) ∧ (if t = t then _ else _) ≤ _
                               rw [if_pos rfl]
                               exact ⟨by rw [dz_up_eq]; omega, by omega⟩
                             · show _ = (((if u = t then _ else _) : Nat) : Int) ∧ (if u = t then _ else _) ≤ _
                               rw [if_neg e2]
                               exact ⟨by rw [dz_up_k e2]; exact (hpr u hu).1, (hpr u hu).2⟩
                           · show (if u = t then _ else _) = _
                             rw [if_neg (by omega)]
                             exact hno u h1 h2
                           · rw [dz_up_ne (by omega)]
                             exact hbe u hu
                           · rw [cpn_c t (pr2 := pr) (fun u hu => if_neg (by omega))]
                             rw [dz_up_ne (by omega), hbt]
                             exact (if_neg hnp).symm
                           · intro N3 pr3 a1 a2 a3 a4 a5
                             have z := hK N3 pr3 a1 a2 (fun u hu => (a3 u hu).trans (if_neg (by omega))) a4 a5
                             rw [cpn_c (pr2 := pr) t (fun u hu => if_neg (by omega))]
                             exact z)
                        | (refine ihr (t + 1) (by omega) ((w.toNat * w.toNat) + 1) 0 _ (fun u => if u = t + 1 then 0 else pr u) (fun u => if u = t then N 129 t else be u) _ (by omega) (fun q2 k2 v1 v2 v3 => by rw [dz_up_ne (by omega), dz_up_ne (by omega), hsc _ _ v1 v2 v3]) (fun u hu => ?_) (fun u hu => by show (if u = t + 1 then 0 else pr u) ≤ _; by_cases e4 : u = t; (rw [if_neg (by omega), e4, hk]; exact emk); (rw [if_neg (by omega)]; exact hlo u (by omega))) (if_pos rfl) (fun u h1 h2 => ?_) (fun u hu => ?_) ?_ ?_
                           · by_cases e2 : u = t + 1
                             · rw [e2, dz_up_ne (by omega), dz_up_eq]
                               show _ = (((if t + 1 = t + 1 then _ else _) : Nat) : Int) ∧ (if t + 1 = t + 1 then _ else _) ≤ _
                               rw [if_pos rfl]
                               exact ⟨rfl, by omega⟩
                             · rw [dz_up_ne (by omega), dz_up_k e2]
                               show _ = (((if u = t + 1 then _ else _) : Nat) : Int) ∧ (if u = t + 1 then _ else _) ≤ _
                               rw [if_neg e2]
                               exact hpr u hu
                           · show (if u = t + 1 then _ else _) = _
                             rw [if_neg (by omega)]
                             exact hno u (by omega) h2
                           · rw [dz_up_k (by omega), dz_up_ne (by omega)]
                             show _ = (if u = t then _ else be u)
                             by_cases e2 : u = t
                             · rw [if_pos e2, e2]
                             · rw [if_neg e2]
                               exact hbe u (by omega)
                           · rw [dz_up_eq]
                             rfl
                           · intro N2 pr2 c1 c2 c3 c4 c5
                             have cb : N2 129 t = mf (vd pl kd wt nx w.toNat (hs n) (r + 1) (!lgt t)) (lgt t) w.toNat (cpn w.toNat (fun k => hs n (5 + k)) pr t) k := by
                               rw [c5 t (by omega), ← hbt]
                               exact if_pos rfl
                             have cp : N2 128 t = (k : Int) := by
                               rw [(c2 t (by omega)).1, c3 t (by omega)]
                               show (((if t = t + 1 then _ else _) : Nat) : Int) = _
                               rw [if_neg (by omega), hk]
                             have ecp : cpn w.toNat (fun k => hs n (5 + k)) (fun u => if u = t + 1 then 0 else pr u) (t + 1) = swk w.toNat (cpn w.toNat (fun k => hs n (5 + k)) pr t) k := by
                               show swk w.toNat (cpn w.toNat (fun k => hs n (5 + k)) (fun u => if u = t + 1 then 0 else pr u) t) (if t = t + 1 then 0 else pr t) = _
                               rw [if_neg (by omega), hk, cpn_c t (pr2 := pr) (fun u hu => if_neg (by omega))]
                             rw [ecp, lgt_s]
                             refine xr_iincz3 hc rfl rfl (by first | exact dz_wid (by first | omega | (unfold dz_w; omega)) (by first | omega | (unfold dz_w; omega)) | rfl) ?_
                             rw [show ((t + 1 : Nat) : Int) + -1 = (t : Int) by omega]
                             refine xr_iloadn hc rfl rfl ?_
                             refine xr_if_lt hc rfl (t := 173) rfl (fun b139 => ?_) (fun b139 => ?_)
                             · exfalso
                               omega
                             · refine xr_aloadn hc rfl rfl ?_
                               refine xr_getfr hc rfl rfl (by first | assumption | rfl) (by first | assumption | rfl) ?_
                               refine xr_iloadn hc rfl rfl ?_
                               refine xr_iloadn hc rfl rfl ?_
                               refine xr_aloadn hc rfl rfl ?_
                               refine xr_getfr hc rfl rfl (by first | assumption | rfl) (by first | assumption | rfl) ?_
                               refine xr_iloadn hc rfl rfl ?_
                               first | refine xr_iaload hc rfl (by first | assumption | rfl) (by first | omega | (unfold dz_w; omega)) (by first | omega | (unfold dz_w; omega)) ?_ | refine xr_ialoado hc rfl (by first | omega | (unfold dz_w; omega)) (by first | omega | (unfold dz_w; omega)) ?_
                               rw [Int.toNat_natCast, cb]
                               refine xr_iload hc rfl rfl ?_
                               refine xr_calls3 hc rfl (by decide) rfl rfl rfl (Nat.le_of_ble_eq_true rfl) (Nat.zero_le _) (Nat.zero_le _) ?_
                               refine D_better (by omega) ?_
                               refine xk_1 ?_
                               refine xr_iastore hc rfl (by first | assumption | rfl) (by first | omega | (unfold dz_w; omega)) (by first | omega | (unfold dz_w; omega)) ?_
                               rw [Int.toNat_natCast]
                               refine xr_aloadn hc rfl rfl ?_
                               refine xr_getfr hc rfl rfl (by first | assumption | rfl) (by first | assumption | rfl) ?_
                               refine xr_iloadn hc rfl rfl ?_
                               refine xr_dup2i hc rfl ?_
                               first | refine xr_iaload hc rfl (by first | assumption | rfl) (by first | omega | (unfold dz_w; omega)) (by first | omega | (unfold dz_w; omega)) ?_ | refine xr_ialoado hc rfl (by first | omega | (unfold dz_w; omega)) (by first | omega | (unfold dz_w; omega)) ?_
                               rw [Int.toNat_natCast, dz_up_ne (by omega), cp]
                               refine xr_iconst hc rfl ?_
                               refine xr_iaddz hc rfl (by first | exact dz_wid (by first | omega | (unfold dz_w; omega)) (by first | omega | (unfold dz_w; omega)) | rfl) ?_
                               refine xr_iastore hc rfl (by first | assumption | rfl) (by first | omega | (unfold dz_w; omega)) (by first | omega | (unfold dz_w; omega)) ?_
                               refine xr_goto hc rfl (t := 181) rfl ?_
                               refine xr_goto hc rfl (t := 70) rfl ?_
                               try rw [Int.toNat_natCast]
                               refine xr_iloadn hc rfl rfl ?_
                               refine xr_if_lt hc rfl (t := 235) rfl (fun b71 => ?_) (fun b71 => ?_)
                               · exfalso
                                 omega
                               · refine ih (k + 1) _ (fun u => if u = t then k + 1 else pr u) be _ (by omega) (fun q2 k2 v1 v2 v3 => ?_) (fun u hu => ?_) (fun u hu => by show (if u = t then k + 1 else pr u) ≤ _; rw [if_neg (by omega)]; exact hlo u hu) (if_pos rfl) (fun u h1 h2 => ?_) (fun u hu => ?_) ?_ ?_
                                 · rw [dz_up_ne (by omega), dz_up_ne (by omega), c1 _ _ v1 v2 v3]
                                 · by_cases e2 : u = t
                                   · rw [e2]
                                     show _ = (((if t = t then _ else _) : Nat) : Int) ∧ (if t = t then _ else _) ≤ _
                                     rw [if_pos rfl]
                                     exact ⟨by rw [dz_up_eq]; omega, by omega⟩
                                   · show _ = (((if u = t then _ else _) : Nat) : Int) ∧ (if u = t then _ else _) ≤ _
                                     rw [if_neg e2]
                                     exact ⟨by rw [dz_up_k e2, dz_up_ne (by omega), (c2 u hu).1]; by_cases e3 : u < t; (rw [c3 u (by omega)]; show (((if u = t + 1 then _ else _) : Nat) : Int) = _; rw [if_neg (by omega)]); (rw [c4 u (by omega) hu, hno u (by omega) hu]), (hpr u hu).2⟩
                                 · show (if u = t then _ else _) = _
                                   rw [if_neg (by omega)]
                                   exact hno u h1 h2
                                 · rw [dz_up_ne (by omega), dz_up_k (by omega), c5 u (by omega)]
                                   show (if u = t then _ else be u) = _
                                   rw [if_neg (by omega)]
                                 · rw [cpn_c t (pr2 := pr) (fun u hu => if_neg (by omega))]
                                   rw [dz_up_ne (by omega), dz_up_eq]
                                   exact (if_pos hnp).symm
                                 · intro N3 pr3 a1 a2 a3 a4 a5
                                   have z := hK N3 pr3 a1 a2 (fun u hu => (a3 u hu).trans (if_neg (by omega))) a4 a5
                                   rw [cpn_c (pr2 := pr) t (fun u hu => if_neg (by omega))]
                                   exact z)
                  · exfalso
                    omega
                · exfalso
                  omega
              · refine xk_1 ?_
                refine xr_iff hc rfl (by simp [dz_cmp]) ?_
                refine xr_aloadn hc rfl rfl ?_
                refine xr_getfr hc rfl rfl (by first | assumption | rfl) (by first | assumption | rfl) ?_
                refine xr_iloadn hc rfl rfl ?_
                refine xr_dup2i hc rfl ?_
                first | refine xr_iaload hc rfl (by first | assumption | rfl) (by first | omega | (unfold dz_w; omega)) (by first | omega | (unfold dz_w; omega)) ?_ | refine xr_ialoado hc rfl (by first | omega | (unfold dz_w; omega)) (by first | omega | (unfold dz_w; omega)) ?_
                rw [Int.toNat_natCast, hpt.1]
                refine xr_iconst hc rfl ?_
                refine xr_iaddz hc rfl (by first | exact dz_wid (by first | omega | (unfold dz_w; omega)) (by first | omega | (unfold dz_w; omega)) | rfl) ?_
                refine xr_iastore hc rfl (by first | assumption | rfl) (by first | omega | (unfold dz_w; omega)) (by first | omega | (unfold dz_w; omega)) ?_
                rw [Int.toNat_natCast]
                refine xr_goto hc rfl (t := 74) rfl ?_
                first
                  | (exfalso; omega)
                  | (refine ih (k + 1) _ (fun u => if u = t then k + 1 else pr u) be _ (by omega) (fun q2 k2 v1 v2 v3 => ?_) (fun u hu => ?_) (fun u hu => by show (if u = t then k + 1 else pr u) ≤ _; rw [if_neg (by omega)]; exact hlo u hu) (if_pos rfl) (fun u h1 h2 => ?_) (fun u hu => ?_) ?_ ?_
                     · rw [dz_up_ne (by omega), hsc _ _ v1 v2 v3]
                     · by_cases e2 : u = t
                       · rw [e2]
                         show _ = (((if t = t then _ else _) : Nat) : Int) ∧ (if t = t then _ else _) ≤ _
                         rw [if_pos rfl]
                         exact ⟨by rw [dz_up_eq]; omega, by omega⟩
                       · show _ = (((if u = t then _ else _) : Nat) : Int) ∧ (if u = t then _ else _) ≤ _
                         rw [if_neg e2]
                         exact ⟨by rw [dz_up_k e2]; exact (hpr u hu).1, (hpr u hu).2⟩
                     · show (if u = t then _ else _) = _
                       rw [if_neg (by omega)]
                       exact hno u h1 h2
                     · rw [dz_up_ne (by omega)]
                       exact hbe u hu
                     · rw [cpn_c t (pr2 := pr) (fun u hu => if_neg (by omega))]
                       rw [dz_up_ne (by omega), hbt]
                       exact (if_neg hnp).symm
                     · intro N3 pr3 a1 a2 a3 a4 a5
                       have z := hK N3 pr3 a1 a2 (fun u hu => (a3 u hu).trans (if_neg (by omega))) a4 a5
                       rw [cpn_c (pr2 := pr) t (fun u hu => if_neg (by omega))]
                       exact z)
                  | (refine ihr (t + 1) (by omega) ((w.toNat * w.toNat) + 1) 0 _ (fun u => if u = t + 1 then 0 else pr u) (fun u => if u = t then N 129 t else be u) _ (by omega) (fun q2 k2 v1 v2 v3 => by rw [dz_up_ne (by omega), dz_up_ne (by omega), hsc _ _ v1 v2 v3]) (fun u hu => ?_) (fun u hu => by show (if u = t + 1 then 0 else pr u) ≤ _; by_cases e4 : u = t; (rw [if_neg (by omega), e4, hk]; exact emk); (rw [if_neg (by omega)]; exact hlo u (by omega))) (if_pos rfl) (fun u h1 h2 => ?_) (fun u hu => ?_) ?_ ?_
                     · by_cases e2 : u = t + 1
                       · rw [e2, dz_up_ne (by omega), dz_up_eq]
                         show _ = (((if t + 1 = t + 1 then _ else _) : Nat) : Int) ∧ (if t + 1 = t + 1 then _ else _) ≤ _
                         rw [if_pos rfl]
                         exact ⟨rfl, by omega⟩
                       · rw [dz_up_ne (by omega), dz_up_k e2]
                         show _ = (((if u = t + 1 then _ else _) : Nat) : Int) ∧ (if u = t + 1 then _ else _) ≤ _
                         rw [if_neg e2]
                         exact hpr u hu
                     · show (if u = t + 1 then _ else _) = _
                       rw [if_neg (by omega)]
                       exact hno u (by omega) h2
                     · rw [dz_up_k (by omega), dz_up_ne (by omega)]
                       show _ = (if u = t then _ else be u)
                       by_cases e2 : u = t
                       · rw [if_pos e2, e2]
                       · rw [if_neg e2]
                         exact hbe u (by omega)
                     · rw [dz_up_eq]
                       rfl
                     · intro N2 pr2 c1 c2 c3 c4 c5
                       have cb : N2 129 t = mf (vd pl kd wt nx w.toNat (hs n) (r + 1) (!lgt t)) (lgt t) w.toNat (cpn w.toNat (fun k => hs n (5 + k)) pr t) k := by
                         rw [c5 t (by omega), ← hbt]
                         exact if_pos rfl
                       have cp : N2 128 t = (k : Int) := by
                         rw [(c2 t (by omega)).1, c3 t (by omega)]
                         show (((if t = t + 1 then _ else _) : Nat) : Int) = _
                         rw [if_neg (by omega), hk]
                       have ecp : cpn w.toNat (fun k => hs n (5 + k)) (fun u => if u = t + 1 then 0 else pr u) (t + 1) = swk w.toNat (cpn w.toNat (fun k => hs n (5 + k)) pr t) k := by
                         show swk w.toNat (cpn w.toNat (fun k => hs n (5 + k)) (fun u => if u = t + 1 then 0 else pr u) t) (if t = t + 1 then 0 else pr t) = _
                         rw [if_neg (by omega), hk, cpn_c t (pr2 := pr) (fun u hu => if_neg (by omega))]
                       rw [ecp, lgt_s]
                       refine xr_iincz3 hc rfl rfl (by first | exact dz_wid (by first | omega | (unfold dz_w; omega)) (by first | omega | (unfold dz_w; omega)) | rfl) ?_
                       rw [show ((t + 1 : Nat) : Int) + -1 = (t : Int) by omega]
                       refine xr_iloadn hc rfl rfl ?_
                       refine xr_if_lt hc rfl (t := 173) rfl (fun b139 => ?_) (fun b139 => ?_)
                       · exfalso
                         omega
                       · refine xr_aloadn hc rfl rfl ?_
                         refine xr_getfr hc rfl rfl (by first | assumption | rfl) (by first | assumption | rfl) ?_
                         refine xr_iloadn hc rfl rfl ?_
                         refine xr_iloadn hc rfl rfl ?_
                         refine xr_aloadn hc rfl rfl ?_
                         refine xr_getfr hc rfl rfl (by first | assumption | rfl) (by first | assumption | rfl) ?_
                         refine xr_iloadn hc rfl rfl ?_
                         first | refine xr_iaload hc rfl (by first | assumption | rfl) (by first | omega | (unfold dz_w; omega)) (by first | omega | (unfold dz_w; omega)) ?_ | refine xr_ialoado hc rfl (by first | omega | (unfold dz_w; omega)) (by first | omega | (unfold dz_w; omega)) ?_
                         rw [Int.toNat_natCast, cb]
                         refine xr_iload hc rfl rfl ?_
                         refine xr_calls3 hc rfl (by decide) rfl rfl rfl (Nat.le_of_ble_eq_true rfl) (Nat.zero_le _) (Nat.zero_le _) ?_
                         refine D_better (by omega) ?_
                         refine xk_1 ?_
                         refine xr_iastore hc rfl (by first | assumption | rfl) (by first | omega | (unfold dz_w; omega)) (by first | omega | (unfold dz_w; omega)) ?_
                         rw [Int.toNat_natCast]
                         refine xr_aloadn hc rfl rfl ?_
                         refine xr_getfr hc rfl rfl (by first | assumption | rfl) (by first | assumption | rfl) ?_
                         refine xr_iloadn hc rfl rfl ?_
                         refine xr_dup2i hc rfl ?_
                         first | refine xr_iaload hc rfl (by first | assumption | rfl) (by first | omega | (unfold dz_w; omega)) (by first | omega | (unfold dz_w; omega)) ?_ | refine xr_ialoado hc rfl (by first | omega | (unfold dz_w; omega)) (by first | omega | (unfold dz_w; omega)) ?_
                         rw [Int.toNat_natCast, dz_up_ne (by omega), cp]
                         refine xr_iconst hc rfl ?_
                         refine xr_iaddz hc rfl (by first | exact dz_wid (by first | omega | (unfold dz_w; omega)) (by first | omega | (unfold dz_w; omega)) | rfl) ?_
                         refine xr_iastore hc rfl (by first | assumption | rfl) (by first | omega | (unfold dz_w; omega)) (by first | omega | (unfold dz_w; omega)) ?_
                         refine xr_goto hc rfl (t := 181) rfl ?_
                         refine xr_goto hc rfl (t := 70) rfl ?_
                         try rw [Int.toNat_natCast]
                         refine xr_iloadn hc rfl rfl ?_
                         refine xr_if_lt hc rfl (t := 235) rfl (fun b71 => ?_) (fun b71 => ?_)
                         · exfalso
                           omega
                         · refine ih (k + 1) _ (fun u => if u = t then k + 1 else pr u) be _ (by omega) (fun q2 k2 v1 v2 v3 => ?_) (fun u hu => ?_) (fun u hu => by show (if u = t then k + 1 else pr u) ≤ _; rw [if_neg (by omega)]; exact hlo u hu) (if_pos rfl) (fun u h1 h2 => ?_) (fun u hu => ?_) ?_ ?_
                           · rw [dz_up_ne (by omega), dz_up_ne (by omega), c1 _ _ v1 v2 v3]
                           · by_cases e2 : u = t
                             · rw [e2]
                               show _ = (((if t = t then _ else _) : Nat) : Int) ∧ (if t = t then _ else _) ≤ _
                               rw [if_pos rfl]
                               exact ⟨by rw [dz_up_eq]; omega, by omega⟩
                             · show _ = (((if u = t then _ else _) : Nat) : Int) ∧ (if u = t then _ else _) ≤ _
                               rw [if_neg e2]
                               exact ⟨by rw [dz_up_k e2, dz_up_ne (by omega), (c2 u hu).1]; by_cases e3 : u < t; (rw [c3 u (by omega)]; show (((if u = t + 1 then _ else _) : Nat) : Int) = _; rw [if_neg (by omega)]); (rw [c4 u (by omega) hu, hno u (by omega) hu]), (hpr u hu).2⟩
                           · show (if u = t then _ else _) = _
                             rw [if_neg (by omega)]
                             exact hno u h1 h2
                           · rw [dz_up_ne (by omega), dz_up_k (by omega), c5 u (by omega)]
                             show (if u = t then _ else be u) = _
                             rw [if_neg (by omega)]
                           · rw [cpn_c t (pr2 := pr) (fun u hu => if_neg (by omega))]
                             rw [dz_up_ne (by omega), dz_up_eq]
                             exact (if_pos hnp).symm
                           · intro N3 pr3 a1 a2 a3 a4 a5
                             have z := hK N3 pr3 a1 a2 (fun u hu => (a3 u hu).trans (if_neg (by omega))) a4 a5
                             rw [cpn_c (pr2 := pr) t (fun u hu => if_neg (by omega))]
                             exact z)
      have rest : ∀ (N : Nat → Nat → Int), (∀ q2 k2, q2 ≠ 128 → N q2 k2 = M q2 k2) → (∀ k, k < 3 → N 128 k = ((w.toNat * w.toNat) : Nat)) → dz_X (dz_E dz_pp xo (d + 5)) dz_pp xo (dz_pp 198) Q 54 [some (dz_r 115), some (dz_i m), some (dz_i ((w.toNat * w.toNat) : Nat)), some (dz_i 3), none] [] 0 0 (sh, rf, N) := by
        intro N h1 h2
        have hsc : scr M N := fun q2 k2 v1 v2 v3 => h1 _ _ (by omega)
        have hRN := RM_scr hR hW hsc
        refine xr_iloadn hc rfl rfl ?_
        refine xr_if_ne hc rfl (t := 63) rfl (fun b55 => ?_) (fun b55 => ?_)
        · refine xr_iconst hc rfl ?_
          refine xr_istore3 hc rfl rfl ?_
          refine xr_aloadn hc rfl rfl ?_
          refine xr_iconst hc rfl ?_
          refine xr_callv1 hc rfl (by first | assumption | rfl) rfl rfl rfl (Nat.le_of_ble_eq_true rfl) (Nat.zero_le _) (Nat.zero_le _) ?_
          refine D_beginTurn (t := 0) hl (by omega) ?_
          refine xk_0 ?_
          refine xr_iloadn hc rfl rfl ?_
          refine xr_iff hc rfl (by simp [dz_cmp]) ?_
          refine big (m.toNat - 1) 0 (by omega) ((w.toNat * w.toNat) + 1) 0 _ (fun u => if u = 0 then 0 else (w.toNat * w.toNat)) (fun _ => 0) _ (by omega) (fun q2 k2 v1 v2 v3 => by rw [dz_up_ne (by omega), dz_up_ne (by omega), hsc _ _ v1 v2 v3]) (fun u hu => ?_) (fun u hu => by omega) (if_pos rfl) (fun u h1 h2 => if_neg (by omega)) (fun u hu => by omega) ?_ ?_
          · by_cases e2 : u = 0
            · rw [e2, dz_up_ne (by omega), dz_up_eq]
              exact ⟨rfl, by show (0 : Nat) ≤ _; omega⟩
            · rw [dz_up_ne (by omega), dz_up_k e2]
              show _ = (((if u = 0 then _ else _) : Nat) : Int) ∧ (if u = 0 then _ else _) ≤ _
              rw [if_neg e2]
              exact ⟨h2 u hu, by omega⟩
          · rw [dz_up_eq]
            rfl
          · intro N2 pr2 c1 c2 c3 c4 c5
            refine xr_iincz3 hc rfl rfl (by first | exact dz_wid (by first | omega | (unfold dz_w; omega)) (by first | omega | (unfold dz_w; omega)) | rfl) ?_
            rw [show (((0 : Nat) : Int)) + -1 = -1 by rfl]
            refine xr_iloadn hc rfl rfl ?_
            refine xr_if_lt hc rfl (t := 173) rfl (fun b139 => ?_) (fun b139 => ?_)
            · refine xr_aloadn hc rfl rfl ?_
              refine xr_getfr hc rfl rfl (by first | assumption | rfl) (by first | assumption | rfl) ?_
              refine xr_iconst hc rfl ?_
              refine xr_iload hc rfl rfl ?_
              refine xr_iastore hc rfl (by first | assumption | rfl) (by first | omega | (unfold dz_w; omega)) (by first | omega | (unfold dz_w; omega)) ?_
              rw [show Int.toNat 3 = 3 from rfl]
              refine xr_goto hc rfl (t := 70) rfl ?_
              refine xr_iloadn hc rfl rfl ?_
              refine xr_if_lt hc rfl (t := 235) rfl (fun b71 => ?_) (fun b71 => ?_)
              · refine xr_aloadn hc rfl rfl ?_
                refine xr_getfr hc rfl rfl (by first | assumption | rfl) (by first | assumption | rfl) ?_
                refine xr_iconst hc rfl ?_
                first | refine xr_iaload hc rfl (by first | assumption | rfl) (by first | omega | (unfold dz_w; omega)) (by first | omega | (unfold dz_w; omega)) ?_ | refine xr_ialoado hc rfl (by first | omega | (unfold dz_w; omega)) (by first | omega | (unfold dz_w; omega)) ?_
                rw [show Int.toNat 3 = 3 from rfl, dz_up_eq]
                refine xr_ireturn hc rfl rfl (Nat.zero_le _) (Nat.zero_le _) ?_
                simp only [o_duel] at hQ
                rw [if_neg (by omega), if_neg hw0, show m.toNat = m.toNat - 1 + 1 by omega] at hQ
                refine hQ _ (fun q2 k2 u => by rw [dz_up_ne (by omega), c1 _ _ (by omega) (by omega) (by omega)]) (RM_scr hR hW (scr_trans c1 (fun q2 k2 v1 v2 v3 => by rw [dz_up_ne (by omega)])))
              · exfalso
                omega
            · exfalso
              omega
        · refine xr_aloadn hc rfl rfl ?_
          refine xr_callv0 hc rfl (by first | assumption | rfl) rfl rfl rfl (Nat.le_of_ble_eq_true rfl) (Nat.zero_le _) (Nat.zero_le _) ?_
          refine D_eightSteps (pr := fun _ => (w.toNat * w.toNat)) hl hRN hW hw0 (fun u hu => ⟨h2 u hu, Nat.le_refl _⟩) (fun N1 y1 => ?_)
          refine xk_1 ?_
          refine xr_ireturn hc rfl rfl (Nat.zero_le _) (Nat.zero_le _) ?_
          have ecp := cpn_no (W := w.toNat) (sp := (fun k => hs n (5 + k))) (pr := fun _ => (w.toNat * w.toNat)) (t := 0) 3 (fun _ _ _ => rfl)
          rw [show 0 + 3 = 3 from rfl] at ecp
          rw [ecp]
          simp only [o_duel] at hQ
          rw [if_neg (by omega), if_neg hw0, show m.toNat = 0 by omega] at hQ
          exact hQ N1 (fun q2 k2 u => by rw [tfr_x y1 _ _ u, h1 _ _ (by omega)]) (RM_scr hRN hW (tfr_scr y1))
      have lp0 : ∀ (m_ : Nat) (u : Nat) (N : Nat → Nat → Int), u + m_ = 3 → (∀ q2 k2, q2 ≠ 128 → N q2 k2 = M q2 k2) → (∀ k, k < u → N 128 k = ((w.toNat * w.toNat) : Nat)) → dz_X (dz_E dz_pp xo (d + 5)) dz_pp xo (dz_pp 198) Q 36 [some (dz_r 115), some (dz_i m), some (dz_i ((w.toNat * w.toNat) : Nat)), some (dz_i (u : Int)), none] [] 0 0 (sh, rf, N) := by
        intro m_
        induction m_ with
        | zero =>
          intro u N hu h1 h2
          have eu : u = 3 := by omega
          subst eu
          refine xr_iloadn hc rfl rfl ?_
          refine xr_iconst hc rfl ?_
          refine xr_icmp_ge hc rfl (t := 54) rfl (fun b38 => ?_) (fun b38 => ?_)
          · exact rest N h1 h2
          · omega
        | succ m_ ih =>
          intro u N hu h1 h2
          refine xr_iloadn hc rfl rfl ?_
          refine xr_iconst hc rfl ?_
          refine xr_icmp_ge hc rfl (t := 54) rfl (fun b38 => ?_) (fun b38 => ?_)
          · omega
          · refine xr_aloadn hc rfl rfl ?_
            refine xr_getfr hc rfl rfl (by first | assumption | rfl) (by first | assumption | rfl) ?_
            refine xr_iloadn hc rfl rfl ?_
            refine xr_iloadn hc rfl rfl ?_
            refine xr_iastore hc rfl (by first | assumption | rfl) (by first | omega | (unfold dz_w; omega)) (by first | omega | (unfold dz_w; omega)) ?_
            rw [Int.toNat_natCast]
            refine xr_iincz3 hc rfl rfl (by first | exact dz_wid (by first | omega | (unfold dz_w; omega)) (by first | omega | (unfold dz_w; omega)) | rfl) ?_
            refine xr_goto hc rfl (t := 36) rfl ?_
            refine ih (u + 1) _ (by omega) (fun q2 k2 v => by rw [dz_up_ne v, h1 _ _ v]) (fun k hk => ?_)
            by_cases e2 : k = u
            · rw [e2, dz_up_eq]
            · rw [dz_up_k e2]
              exact h2 k (by omega)
      refine xr_aloadn hc rfl rfl ?_
      refine xr_getfi hc rfl (Or.inl rfl) (by first | assumption | rfl) ?_
      refine xr_aloadn hc rfl rfl ?_
      refine xr_getfi hc rfl (Or.inl rfl) (by first | assumption | rfl) ?_
      rw [a1]
      refine xr_imulz hc rfl (by first | exact dz_wid (by first | omega | (unfold dz_w; omega)) (by first | omega | (unfold dz_w; omega)) | rfl) ?_
      rw [eww]
      refine xr_istore2 hc rfl rfl ?_
      refine xr_iconst hc rfl ?_
      refine xr_istore3 hc rfl rfl ?_
      exact lp0 3 0 M (by omega) (fun _ _ _ => rfl) (fun k hk => by omega)
    · refine xr_bipush hc rfl ?_
      refine xr_ireturn hc rfl rfl (Nat.zero_le _) (Nat.zero_le _) ?_
      simp only [o_duel] at hQ
      repeat (first | rw [if_pos (by omega)] at hQ | rw [if_neg (by omega)] at hQ)
      try dsimp only at hQ
      exact hQ M (fun _ _ _ => rfl) hR
  · refine xk_1 ?_
    refine xr_iff hc rfl (by simp [dz_cmp]) ?_
    refine xr_iconst hc rfl ?_
    refine xr_ireturn hc rfl rfl (Nat.zero_le _) (Nat.zero_le _) ?_
    simp only [o_duel] at hQ
    repeat (first | rw [if_pos (by omega)] at hQ | rw [if_neg (by omega)] at hQ)
    try dsimp only at hQ
    exact hQ M (fun _ _ _ => rfl) hR
