/-! Leaves of the class and of the JDK. Written by l2_20.py. -/
set_option maxRecDepth 100000 in
theorem S_isWithin {xo : Nat → List Int} {d : Nat} {Q : dz_Q} {sh : List (Nat ⊕ (Nat × Nat))} {rf : Nat → Nat → Nat} {M : Nat → Nat → Int} {x lo hi : Int} (h1 : lo ≤ x → x ≤ hi → Q (some (dz_i 1)) (sh, rf, M)) (h2 : (x < lo ∨ hi < x) → Q (some (dz_i 0)) (sh, rf, M)) : dz_E dz_pp xo (d + 1) 95 [dz_i x, dz_i lo, dz_i hi] (sh, rf, M) Q := by
  refine ⟨Nat.le_of_ble_eq_true rfl, ?_⟩
  have hc := dz_E_m dz_pp xo (d + 0)
  show dz_X (dz_E dz_pp xo (d + 0)) dz_pp xo (dz_pp 95) Q 0 [some (dz_i x), some (dz_i lo), some (dz_i hi)] [] 0 0 (sh, rf, M)
  refine xr_iloadn hc rfl rfl ?_
  refine xr_iloadn hc rfl rfl ?_
  refine xr_icmp_gt hc rfl (t := 14) rfl (fun b2 => ?_) (fun b2 => ?_)
  · refine xr_iconst hc rfl ?_
    refine xr_zreturn hc rfl rfl (Nat.zero_le _) (Nat.zero_le _) (by first | exact Or.inl rfl | exact Or.inr rfl | assumption) ?_
    first | exact h1 (by omega) (by omega) | exact h2 (by omega)
  · refine xr_iloadn hc rfl rfl ?_
    refine xr_iloadn hc rfl rfl ?_
    refine xr_icmp_gt hc rfl (t := 14) rfl (fun b7 => ?_) (fun b7 => ?_)
    · refine xr_iconst hc rfl ?_
      refine xr_zreturn hc rfl rfl (Nat.zero_le _) (Nat.zero_le _) (by first | exact Or.inl rfl | exact Or.inr rfl | assumption) ?_
      first | exact h1 (by omega) (by omega) | exact h2 (by omega)
    · refine xr_iconst hc rfl ?_
      refine xr_goto hc rfl (t := 15) rfl ?_
      refine xr_zreturn hc rfl rfl (Nat.zero_le _) (Nat.zero_le _) (by first | exact Or.inl rfl | exact Or.inr rfl | assumption) ?_
      first | exact h1 (by omega) (by omega) | exact h2 (by omega)
set_option maxRecDepth 100000 in
theorem S_isRow {xo : Nat → List Int} {d : Nat} {Q : dz_Q} {sh : List (Nat ⊕ (Nat × Nat))} {rf : Nat → Nat → Nat} {M : Nat → Nat → Int} {x : Int} (h1 : 0 ≤ x → x ≤ 5 → Q (some (dz_i 1)) (sh, rf, M)) (h2 : (x < 0 ∨ 5 < x) → Q (some (dz_i 0)) (sh, rf, M)) : dz_E dz_pp xo (d + 2) 96 [dz_i x] (sh, rf, M) Q := by
  refine ⟨Nat.le_of_ble_eq_true rfl, ?_⟩
  have hc := dz_E_m dz_pp xo (d + 1)
  show dz_X (dz_E dz_pp xo (d + 1)) dz_pp xo (dz_pp 96) Q 0 [some (dz_i x)] [] 0 0 (sh, rf, M)
  refine xr_iloadn hc rfl rfl ?_
  refine xr_iconst hc rfl ?_
  refine xr_iconst hc rfl ?_
  refine xr_calls3 hc rfl (by decide) rfl rfl rfl (Nat.le_of_ble_eq_true rfl) (Nat.zero_le _) (Nat.zero_le _) ?_
  refine S_isWithin (fun u1 u2 => ?_) (fun u1 => ?_)
  · refine xk_1 ?_
    refine xr_zreturn hc rfl rfl (Nat.zero_le _) (Nat.zero_le _) (by first | exact Or.inl rfl | exact Or.inr rfl | assumption) ?_
    first | exact h1 (by omega) (by omega) | exact h2 (by omega)
  · refine xk_1 ?_
    refine xr_zreturn hc rfl rfl (Nat.zero_le _) (Nat.zero_le _) (by first | exact Or.inl rfl | exact Or.inr rfl | assumption) ?_
    first | exact h1 (by omega) (by omega) | exact h2 (by omega)
set_option maxRecDepth 100000 in
theorem S_isText {xo : Nat → List Int} {d : Nat} {Q : dz_Q} {sh : List (Nat ⊕ (Nat × Nat))} {rf : Nat → Nat → Nat} {M : Nat → Nat → Int} {x : Int} (h1 : 0 ≤ x → x ≤ 3 → Q (some (dz_i 1)) (sh, rf, M)) (h2 : (x < 0 ∨ 3 < x) → Q (some (dz_i 0)) (sh, rf, M)) : dz_E dz_pp xo (d + 2) 97 [dz_i x] (sh, rf, M) Q := by
  refine ⟨Nat.le_of_ble_eq_true rfl, ?_⟩
  have hc := dz_E_m dz_pp xo (d + 1)
  show dz_X (dz_E dz_pp xo (d + 1)) dz_pp xo (dz_pp 97) Q 0 [some (dz_i x)] [] 0 0 (sh, rf, M)
  refine xr_iloadn hc rfl rfl ?_
  refine xr_iconst hc rfl ?_
  refine xr_iconst hc rfl ?_
  refine xr_calls3 hc rfl (by decide) rfl rfl rfl (Nat.le_of_ble_eq_true rfl) (Nat.zero_le _) (Nat.zero_le _) ?_
  refine S_isWithin (fun u1 u2 => ?_) (fun u1 => ?_)
  · refine xk_1 ?_
    refine xr_zreturn hc rfl rfl (Nat.zero_le _) (Nat.zero_le _) (by first | exact Or.inl rfl | exact Or.inr rfl | assumption) ?_
    first | exact h1 (by omega) (by omega) | exact h2 (by omega)
  · refine xk_1 ?_
    refine xr_zreturn hc rfl rfl (Nat.zero_le _) (Nat.zero_le _) (by first | exact Or.inl rfl | exact Or.inr rfl | assumption) ?_
    first | exact h1 (by omega) (by omega) | exact h2 (by omega)
/-- the first word below n that lies at p, from i on; -9 if none -/
def ly_at (f : Nat → Int) (p : Int) : Nat → Nat → Int
  | 0, _ => -9
  | n + 1, i => if f i = p then (i : Int) else ly_at f p n (i + 1)
set_option maxRecDepth 100000 in
theorem S_lyingAt_loop {xo : Nat → List Int} {d : Nat} {Q : dz_Q} {sh : List (Nat ⊕ (Nat × Nat))} {rf : Nat → Nat → Nat} {M : Nat → Nat → Int} {q len : Nat} {words p : Int} (ha : sh[q]? = some (.inr (0, len))) (hw : words ≤ len) (hl : len < 2147483648) : ∀ (n i : Nat), (i : Int) + n = words → Q (some (dz_i (ly_at (M q) p n i))) (sh, rf, M) → dz_X (dz_E dz_pp xo d) dz_pp xo (dz_pp 99) Q 2 [some (dz_r q), some (dz_i words), some (dz_i p), some (dz_i (i : Int))] [] 0 0 (sh, rf, M) := by
  have hc := dz_E_m dz_pp xo d
  intro n
  induction n with
  | zero =>
    intro i hi hQ
    refine xr_iloadn hc rfl rfl ?_
    refine xr_iloadn hc rfl rfl ?_
    refine xr_icmp_ge hc rfl (t := 22) rfl (fun b4 => ?_) (fun b4 => ?_)
    · refine xr_bipush hc rfl ?_
      refine xr_ireturn hc rfl rfl (Nat.zero_le _) (Nat.zero_le _) ?_
      exact hQ
    · omega
  | succ n ih =>
    intro i hi hQ
    rw [ly_at] at hQ
    refine xr_iloadn hc rfl rfl ?_
    refine xr_iloadn hc rfl rfl ?_
    refine xr_icmp_ge hc rfl (t := 22) rfl (fun b4 => ?_) (fun b4 => ?_)
    · omega
    · refine xr_aloadn hc rfl rfl ?_
      refine xr_iloadn hc rfl rfl ?_
      first | refine xr_iaload hc rfl (by first | assumption | rfl) (by first | omega | (unfold dz_w; omega)) (by first | omega | (unfold dz_w; omega)) ?_ | refine xr_ialoado hc rfl (by first | omega | (unfold dz_w; omega)) (by first | omega | (unfold dz_w; omega)) ?_
      refine xr_iloadn hc rfl rfl ?_
      refine xr_icmp_ne hc rfl (t := 16) rfl (fun b11 => ?_) (fun b11 => ?_)
      · rw [if_neg (by simpa using b11)] at hQ
        refine xr_iincz3 hc rfl rfl (by first | exact dz_wid (by first | omega | (unfold dz_w; omega)) (by first | omega | (unfold dz_w; omega)) | rfl) ?_
        refine xr_goto hc rfl (t := 2) rfl ?_
        exact ih (i + 1) (by omega) hQ
      · refine xr_iloadn hc rfl rfl ?_
        refine xr_ireturn hc rfl rfl (Nat.zero_le _) (Nat.zero_le _) ?_
        rw [if_pos (by simpa using b11)] at hQ
        exact hQ
