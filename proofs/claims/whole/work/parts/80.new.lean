/-! New cells; small constructors. Written by l2_80.py. -/
theorem dz_new_z {sh : List (Nat ⊕ (Nat × Nat))} {rf : Nat → Nat → Nat} {M : Nat → Nat → Int} {x : Nat ⊕ (Nat × Nat)} (h1 : ∀ j, rf sh.length j = 0) (h2 : ∀ j, M sh.length j = 0) : dz_new (sh, rf, M) x = (sh ++ [x], rf, M) := by
  unfold dz_new
  refine Prod.ext rfl (Prod.ext ?_ ?_)
  · funext q k
    show (if q = sh.length then 0 else rf q k) = rf q k
    by_cases e : q = sh.length
    · rw [if_pos e, e, h1]
    · rw [if_neg e]
  · funext q k
    show (if q = sh.length then 0 else M q k) = M q k
    by_cases e : q = sh.length
    · rw [if_pos e, e, h2]
    · rw [if_neg e]
theorem g_app {sh x : List (Nat ⊕ (Nat × Nat))} {q : Nat} {y : Nat ⊕ (Nat × Nat)} (h : sh[q]? = some y) : (sh ++ x)[q]? = some y := by
  rw [List.getElem?_append_left (List.getElem?_eq_some_iff.mp h).1]
  exact h
theorem g_at {sh : List (Nat ⊕ (Nat × Nat))} {q : Nat} {y : Nat ⊕ (Nat × Nat)} (h : sh.length = q) : (sh ++ [y])[q]? = some y := by
  subst h
  simp
section XN
variable {cal : dz_C} {xo : Nat → List Int} {P : dz_P} {Q : dz_Q} {pc : Nat} {L : dz_L} {st : List dz_V} {c s : Nat} {sh : List (Nat ⊕ (Nat × Nat))} {rf : Nat → Nat → Nat} {M : Nat → Nat → Int} {v : Int} {a b w : Nat}
theorem xr_newz {n q : Nat} (hc : dz_cm cal cal) (hf : dz_fetch P.1 pc = (.new n, v, a, b, w)) (hn : sh.length = q) (h1 : ∀ j, rf q j = 0) (h2 : ∀ j, M q j = 0) (hcl : c + 1 ≤ P.2.2.1) (hsl : s + b ≤ P.2.2.2.1) (h : dz_X cal dz_pp xo P Q (pc + 3) L (.inr (.inr (.inl q)) :: st) (c + 1) (s + b) (sh ++ [.inl a], rf, M)) : dz_X cal dz_pp xo P Q pc L st c s (sh, rf, M) := dz_op_of hc hf (by
  subst hn
  rw [← dz_new_z h1 h2] at h
  exact ⟨hcl, hsl, h⟩)
theorem xr_newarrayz {t : _} {m : Int} {q k l : Nat} (hc : dz_cm cal cal) (hf : dz_fetch P.1 pc = (.newarray t, v, a, b, w)) (hk : dz_at t = k) (hl : m.toNat = l) (hk3 : k < 3) (h0 : 0 ≤ m) (h6 : m ≤ 60000) (hn : sh.length = q) (h1 : ∀ j, rf q j = 0) (h2 : ∀ j, M q j = 0) (hcl : c + 1 ≤ P.2.2.1) (hsl : s + l ≤ P.2.2.2.1) (h : dz_X cal dz_pp xo P Q (pc + 2) L (.inr (.inr (.inl q)) :: st) (c + 1) (s + l) (sh ++ [.inr (k, l)], rf, M)) : dz_X cal dz_pp xo P Q pc L (.inl m :: st) c s (sh, rf, M) := dz_op_of hc hf (by
  subst hk hl hn
  rw [← dz_new_z h1 h2] at h
  exact ⟨hk3, h0, h6, hcl, hsl, h⟩)
theorem xr_anewarrayz {n : Nat} {m : Int} {q l : Nat} (hc : dz_cm cal cal) (hf : dz_fetch P.1 pc = (.anewarray n, v, a, b, w)) (hl : m.toNat = l) (h0 : 0 ≤ m) (h6 : m ≤ 60000) (hn : sh.length = q) (h1 : ∀ j, rf q j = 0) (h2 : ∀ j, M q j = 0) (hcl : c + 1 ≤ P.2.2.1) (hsl : s + l ≤ P.2.2.2.1) (h : dz_X cal dz_pp xo P Q (pc + 3) L (.inr (.inr (.inl q)) :: st) (c + 1) (s + l) (sh ++ [.inr (3, l)], rf, M)) : dz_X cal dz_pp xo P Q pc L (.inl m :: st) c s (sh, rf, M) := dz_op_of hc hf (by
  subst hl hn
  rw [← dz_new_z h1 h2] at h
  exact ⟨h0, h6, hcl, hsl, h⟩)
theorem xr_obj {n q : Nat} (hc : dz_cm cal cal) (hf : dz_fetch P.1 pc = (.invokespecial n, 1, a, b, w)) (hk : dz_cats st ≤ 8) (h : dz_X cal dz_pp xo P Q (pc + 3) L st c s (sh, rf, M)) : dz_X cal dz_pp xo P Q pc L (.inr (.inr (.inl q)) :: st) c s (sh, rf, M) := dz_op_of hc hf ⟨hk, h⟩
theorem xr_ctor0 {n q : Nat} (hc : dz_cm cal cal) (hf : dz_fetch P.1 pc = (.invokespecial n, v, a, b, w)) (hv : v = 0 ∨ v = 2) (hb : b = 0) (hk : dz_cats st ≤ 8) (hcl : c + (dz_pp a).2.2.1 ≤ P.2.2.1) (hsl : s + (dz_pp a).2.2.2.1 ≤ P.2.2.2.1) (h : cal a [.inr (.inr (.inl q))] (sh, rf, M) (fun r g => dz_X cal dz_pp xo P Q (pc + 3) L (r.toList ++ st) (c + (dz_pp a).2.2.1) (s + (dz_pp a).2.2.2.1) g)) : dz_X cal dz_pp xo P Q pc L (.inr (.inr (.inl q)) :: st) c s (sh, rf, M) := dz_op_of hc hf (by
  subst hb
  rcases hv with e | e <;> subst e <;> exact ⟨by simp, hk, hcl, hsl, ⟨q, rfl⟩, h⟩)
theorem xr_ctor1 {v0 : dz_V} {n q : Nat} (hc : dz_cm cal cal) (hf : dz_fetch P.1 pc = (.invokespecial n, v, a, b, w)) (hv : v = 0 ∨ v = 2) (hb : b = 1) (hk : dz_cats st ≤ 8) (hcl : c + (dz_pp a).2.2.1 ≤ P.2.2.1) (hsl : s + (dz_pp a).2.2.2.1 ≤ P.2.2.2.1) (h : cal a [.inr (.inr (.inl q)), v0] (sh, rf, M) (fun r g => dz_X cal dz_pp xo P Q (pc + 3) L (r.toList ++ st) (c + (dz_pp a).2.2.1) (s + (dz_pp a).2.2.2.1) g)) : dz_X cal dz_pp xo P Q pc L (v0 :: .inr (.inr (.inl q)) :: st) c s (sh, rf, M) := dz_op_of hc hf (by
  subst hb
  rcases hv with e | e <;> subst e <;> exact ⟨by simp, hk, hcl, hsl, ⟨q, rfl⟩, h⟩)
end XN
set_option maxRecDepth 100000 in
theorem I_machine {xo : Nat → List Int} {d : Nat} {Q : dz_Q} {sh : List (Nat ⊕ (Nat × Nat))} {rf : Nat → Nat → Nat} {M : Nat → Nat → Int} {n q : Nat} (hn : sh.length = n) (hqn : q < n) (hz : ∀ q2 k2, n ≤ q2 → rf q2 k2 = 0) (hZ : ∀ q2 k2, n ≤ q2 → M q2 k2 = 0) (hq : sh[q]? = some (.inl 1)) (hQ : ∀ (rf2 : Nat → Nat → Nat) (M2 : Nat → Nat → Int), (∀ q2 k2, q2 ≠ q → rf2 q2 k2 = rf q2 k2) → (rf2 q 6 = n + 1 ∧ rf2 q 7 = n + 1 + 1 ∧ rf2 q 8 = n + 2 + 1 ∧ rf2 q 9 = n + 3 + 1 ∧ rf2 q 10 = n + 4 + 1 ∧ rf2 q 11 = n + 5 + 1) → (∀ q2 k2, q2 ≠ q → M2 q2 k2 = M q2 k2) → (M2 q 0 = 0 ∧ M2 q 1 = 0 ∧ M2 q 2 = 0 ∧ M2 q 3 = 0 ∧ M2 q 4 = -9 ∧ M2 q 5 = 0) → Q none (sh ++ [.inr (0, 6)] ++ [.inr (0, 6)] ++ [.inr (0, 6)] ++ [.inr (0, 6)] ++ [.inr (0, 6)] ++ [.inr (0, 6)], rf2, M2)) : dz_E dz_pp xo (d + 1) 8 [dz_r q] (sh, rf, M) Q := by
  refine ⟨Nat.le_of_ble_eq_true rfl, ?_⟩
  have hc := dz_E_m dz_pp xo (d + 0)
  show dz_X (dz_E dz_pp xo (d + 0)) dz_pp xo (dz_pp 8) Q 0 [some (dz_r q)] [] 0 0 (sh, rf, M)
  refine xr_aloadn hc rfl rfl ?_
  refine xr_obj hc rfl (Nat.le_of_ble_eq_true rfl) ?_
  refine xr_aloadn hc rfl rfl ?_
  refine xr_iconst hc rfl ?_
  refine xr_putfi hc rfl rfl (by first | ((repeat refine g_app ?_); assumption) | assumption | rfl) ?_
  refine xr_aloadn hc rfl rfl ?_
  refine xr_iconst hc rfl ?_
  refine xr_putfi hc rfl rfl (by first | ((repeat refine g_app ?_); assumption) | assumption | rfl) ?_
  refine xr_aloadn hc rfl rfl ?_
  refine xr_iconst hc rfl ?_
  refine xr_putfi hc rfl rfl (by first | ((repeat refine g_app ?_); assumption) | assumption | rfl) ?_
  refine xr_aloadn hc rfl rfl ?_
  refine xr_iconst hc rfl ?_
  refine xr_putfi hc rfl rfl (by first | ((repeat refine g_app ?_); assumption) | assumption | rfl) ?_
  refine xr_aloadn hc rfl rfl ?_
  refine xr_bipush hc rfl ?_
  refine xr_putfi hc rfl rfl (by first | ((repeat refine g_app ?_); assumption) | assumption | rfl) ?_
  refine xr_aloadn hc rfl rfl ?_
  refine xr_iconst hc rfl ?_
  refine xr_putfi hc rfl rfl (by first | ((repeat refine g_app ?_); assumption) | assumption | rfl) ?_
  refine xr_aloadn hc rfl rfl ?_
  refine xr_bipush hc rfl ?_
  refine xr_newarrayz (l := 6) (q := n) hc rfl rfl rfl (by decide) (by decide) (by decide) (by first | (simp only [List.length_append, List.length_cons, List.length_nil]; omega) | assumption) ?_ ?_ (Nat.le_of_ble_eq_true rfl) (Nat.le_of_ble_eq_true rfl) ?_
  · intro j
    repeat (first | rw [dz_up_ne (by omega)])
    exact hz _ _ (by omega)
  · intro j
    repeat (first | rw [dz_up_ne (by omega)])
    exact hZ _ _ (by omega)
  refine xr_putfr hc rfl rfl (by first | ((repeat refine g_app ?_); assumption) | assumption | rfl) ?_
  refine xr_aloadn hc rfl rfl ?_
  refine xr_bipush hc rfl ?_
  refine xr_newarrayz (l := 6) (q := n + 1) hc rfl rfl rfl (by decide) (by decide) (by decide) (by first | (simp only [List.length_append, List.length_cons, List.length_nil]; omega) | assumption) ?_ ?_ (Nat.le_of_ble_eq_true rfl) (Nat.le_of_ble_eq_true rfl) ?_
  · intro j
    repeat (first | rw [dz_up_ne (by omega)])
    exact hz _ _ (by omega)
  · intro j
    repeat (first | rw [dz_up_ne (by omega)])
    exact hZ _ _ (by omega)
  refine xr_putfr hc rfl rfl (by first | ((repeat refine g_app ?_); assumption) | assumption | rfl) ?_
  refine xr_aloadn hc rfl rfl ?_
  refine xr_bipush hc rfl ?_
  refine xr_newarrayz (l := 6) (q := n + 2) hc rfl rfl rfl (by decide) (by decide) (by decide) (by first | (simp only [List.length_append, List.length_cons, List.length_nil]; omega) | assumption) ?_ ?_ (Nat.le_of_ble_eq_true rfl) (Nat.le_of_ble_eq_true rfl) ?_
  · intro j
    repeat (first | rw [dz_up_ne (by omega)])
    exact hz _ _ (by omega)
  · intro j
    repeat (first | rw [dz_up_ne (by omega)])
    exact hZ _ _ (by omega)
  refine xr_putfr hc rfl rfl (by first | ((repeat refine g_app ?_); assumption) | assumption | rfl) ?_
  refine xr_aloadn hc rfl rfl ?_
  refine xr_bipush hc rfl ?_
  refine xr_newarrayz (l := 6) (q := n + 3) hc rfl rfl rfl (by decide) (by decide) (by decide) (by first | (simp only [List.length_append, List.length_cons, List.length_nil]; omega) | assumption) ?_ ?_ (Nat.le_of_ble_eq_true rfl) (Nat.le_of_ble_eq_true rfl) ?_
  · intro j
    repeat (first | rw [dz_up_ne (by omega)])
    exact hz _ _ (by omega)
  · intro j
    repeat (first | rw [dz_up_ne (by omega)])
    exact hZ _ _ (by omega)
  refine xr_putfr hc rfl rfl (by first | ((repeat refine g_app ?_); assumption) | assumption | rfl) ?_
  refine xr_aloadn hc rfl rfl ?_
  refine xr_bipush hc rfl ?_
  refine xr_newarrayz (l := 6) (q := n + 4) hc rfl rfl rfl (by decide) (by decide) (by decide) (by first | (simp only [List.length_append, List.length_cons, List.length_nil]; omega) | assumption) ?_ ?_ (Nat.le_of_ble_eq_true rfl) (Nat.le_of_ble_eq_true rfl) ?_
  · intro j
    repeat (first | rw [dz_up_ne (by omega)])
    exact hz _ _ (by omega)
  · intro j
    repeat (first | rw [dz_up_ne (by omega)])
    exact hZ _ _ (by omega)
  refine xr_putfr hc rfl rfl (by first | ((repeat refine g_app ?_); assumption) | assumption | rfl) ?_
  refine xr_aloadn hc rfl rfl ?_
  refine xr_bipush hc rfl ?_
  refine xr_newarrayz (l := 6) (q := n + 5) hc rfl rfl rfl (by decide) (by decide) (by decide) (by first | (simp only [List.length_append, List.length_cons, List.length_nil]; omega) | assumption) ?_ ?_ (Nat.le_of_ble_eq_true rfl) (Nat.le_of_ble_eq_true rfl) ?_
  · intro j
    repeat (first | rw [dz_up_ne (by omega)])
    exact hz _ _ (by omega)
  · intro j
    repeat (first | rw [dz_up_ne (by omega)])
    exact hZ _ _ (by omega)
  refine xr_putfr hc rfl rfl (by first | ((repeat refine g_app ?_); assumption) | assumption | rfl) ?_
  refine xr_return hc rfl rfl (Nat.le_of_ble_eq_true rfl) (Nat.le_of_ble_eq_true rfl) ?_
  refine hQ _ _ (fun q2 k2 u => ?_) ⟨?_, ?_, ?_, ?_, ?_, ?_⟩ (fun q2 k2 u => ?_) ⟨?_, ?_, ?_, ?_, ?_, ?_⟩
  · repeat rw [dz_up_ne u]
  · repeat (first | rw [dz_up_ne (by omega)] | rw [dz_up_k (by omega)])
    rw [dz_up_eq]
  · repeat (first | rw [dz_up_ne (by omega)] | rw [dz_up_k (by omega)])
    rw [dz_up_eq]
  · repeat (first | rw [dz_up_ne (by omega)] | rw [dz_up_k (by omega)])
    rw [dz_up_eq]
  · repeat (first | rw [dz_up_ne (by omega)] | rw [dz_up_k (by omega)])
    rw [dz_up_eq]
  · repeat (first | rw [dz_up_ne (by omega)] | rw [dz_up_k (by omega)])
    rw [dz_up_eq]
  · repeat (first | rw [dz_up_ne (by omega)] | rw [dz_up_k (by omega)])
    rw [dz_up_eq]
  · repeat rw [dz_up_ne u]
  · repeat (first | rw [dz_up_ne (by omega)] | rw [dz_up_k (by omega)])
    rw [dz_up_eq]
  · repeat (first | rw [dz_up_ne (by omega)] | rw [dz_up_k (by omega)])
    rw [dz_up_eq]
  · repeat (first | rw [dz_up_ne (by omega)] | rw [dz_up_k (by omega)])
    rw [dz_up_eq]
  · repeat (first | rw [dz_up_ne (by omega)] | rw [dz_up_k (by omega)])
    rw [dz_up_eq]
  · repeat (first | rw [dz_up_ne (by omega)] | rw [dz_up_k (by omega)])
    rw [dz_up_eq]
  · repeat (first | rw [dz_up_ne (by omega)] | rw [dz_up_k (by omega)])
    rw [dz_up_eq]
set_option maxRecDepth 100000 in
theorem I_trace {xo : Nat → List Int} {d : Nat} {Q : dz_Q} {sh : List (Nat ⊕ (Nat × Nat))} {rf : Nat → Nat → Nat} {M : Nat → Nat → Int} {n q : Nat} (hn : sh.length = n) (hqn : q < n) (hz : ∀ q2 k2, n ≤ q2 → rf q2 k2 = 0) (hZ : ∀ q2 k2, n ≤ q2 → M q2 k2 = 0) (hq : sh[q]? = some (.inl 4)) (hQ : ∀ (rf2 : Nat → Nat → Nat) (M2 : Nat → Nat → Int), (∀ q2 k2, q2 ≠ q → rf2 q2 k2 = rf q2 k2) → (rf2 q 0 = n + 1 ∧ rf2 q 1 = n + 1 + 1 ∧ rf2 q 2 = n + 2 + 1) → (∀ q2 k2, q2 ≠ q → M2 q2 k2 = M q2 k2) → Q none (sh ++ [.inr (0, 80)] ++ [.inr (0, 80)] ++ [.inr (0, 41)], rf2, M2)) : dz_E dz_pp xo (d + 1) 45 [dz_r q] (sh, rf, M) Q := by
  refine ⟨Nat.le_of_ble_eq_true rfl, ?_⟩
  have hc := dz_E_m dz_pp xo (d + 0)
  show dz_X (dz_E dz_pp xo (d + 0)) dz_pp xo (dz_pp 45) Q 0 [some (dz_r q)] [] 0 0 (sh, rf, M)
  refine xr_aloadn hc rfl rfl ?_
  refine xr_obj hc rfl (Nat.le_of_ble_eq_true rfl) ?_
  refine xr_aloadn hc rfl rfl ?_
  refine xr_bipush hc rfl ?_
  refine xr_newarrayz (l := 80) (q := n) hc rfl rfl rfl (by decide) (by decide) (by decide) (by first | (simp only [List.length_append, List.length_cons, List.length_nil]; omega) | assumption) ?_ ?_ (Nat.le_of_ble_eq_true rfl) (Nat.le_of_ble_eq_true rfl) ?_
  · intro j
    repeat (first | rw [dz_up_ne (by omega)])
    exact hz _ _ (by omega)
  · intro j
    repeat (first | rw [dz_up_ne (by omega)])
    exact hZ _ _ (by omega)
  refine xr_putfr hc rfl rfl (by first | ((repeat refine g_app ?_); assumption) | assumption | rfl) ?_
  refine xr_aloadn hc rfl rfl ?_
  refine xr_bipush hc rfl ?_
  refine xr_newarrayz (l := 80) (q := n + 1) hc rfl rfl rfl (by decide) (by decide) (by decide) (by first | (simp only [List.length_append, List.length_cons, List.length_nil]; omega) | assumption) ?_ ?_ (Nat.le_of_ble_eq_true rfl) (Nat.le_of_ble_eq_true rfl) ?_
  · intro j
    repeat (first | rw [dz_up_ne (by omega)])
    exact hz _ _ (by omega)
  · intro j
    repeat (first | rw [dz_up_ne (by omega)])
    exact hZ _ _ (by omega)
  refine xr_putfr hc rfl rfl (by first | ((repeat refine g_app ?_); assumption) | assumption | rfl) ?_
  refine xr_aloadn hc rfl rfl ?_
  refine xr_bipush hc rfl ?_
  refine xr_newarrayz (l := 41) (q := n + 2) hc rfl rfl rfl (by decide) (by decide) (by decide) (by first | (simp only [List.length_append, List.length_cons, List.length_nil]; omega) | assumption) ?_ ?_ (Nat.le_of_ble_eq_true rfl) (Nat.le_of_ble_eq_true rfl) ?_
  · intro j
    repeat (first | rw [dz_up_ne (by omega)])
    exact hz _ _ (by omega)
  · intro j
    repeat (first | rw [dz_up_ne (by omega)])
    exact hZ _ _ (by omega)
  refine xr_putfr hc rfl rfl (by first | ((repeat refine g_app ?_); assumption) | assumption | rfl) ?_
  refine xr_aloadn hc rfl rfl ?_
  refine xr_iconst hc rfl ?_
  refine xr_putfi hc rfl rfl (by first | ((repeat refine g_app ?_); assumption) | assumption | rfl) ?_
  refine xr_aloadn hc rfl rfl ?_
  refine xr_iconst hc rfl ?_
  refine xr_putfi hc rfl rfl (by first | ((repeat refine g_app ?_); assumption) | assumption | rfl) ?_
  refine xr_aloadn hc rfl rfl ?_
  refine xr_iconst hc rfl ?_
  refine xr_putfi hc rfl rfl (by first | ((repeat refine g_app ?_); assumption) | assumption | rfl) ?_
  refine xr_aloadn hc rfl rfl ?_
  refine xr_iconst hc rfl ?_
  refine xr_putfi hc rfl rfl (by first | ((repeat refine g_app ?_); assumption) | assumption | rfl) ?_
  refine xr_return hc rfl rfl (Nat.le_of_ble_eq_true rfl) (Nat.le_of_ble_eq_true rfl) ?_
  refine hQ _ _ (fun q2 k2 u => ?_) ⟨?_, ?_, ?_⟩ (fun q2 k2 u => ?_) 
  · repeat rw [dz_up_ne u]
  · repeat (first | rw [dz_up_ne (by omega)] | rw [dz_up_k (by omega)])
    rw [dz_up_eq]
  · repeat (first | rw [dz_up_ne (by omega)] | rw [dz_up_k (by omega)])
    rw [dz_up_eq]
  · repeat (first | rw [dz_up_ne (by omega)] | rw [dz_up_k (by omega)])
    rw [dz_up_eq]
  · repeat rw [dz_up_ne u]
set_option maxRecDepth 100000 in
theorem I_placing {xo : Nat → List Int} {d : Nat} {Q : dz_Q} {sh : List (Nat ⊕ (Nat × Nat))} {rf : Nat → Nat → Nat} {M : Nat → Nat → Int} {n q : Nat} (hn : sh.length = n) (hqn : q < n) (hz : ∀ q2 k2, n ≤ q2 → rf q2 k2 = 0) (hZ : ∀ q2 k2, n ≤ q2 → M q2 k2 = 0) {r : Nat} (hq : sh[q]? = some (.inl 2)) (hQ : ∀ (rf2 : Nat → Nat → Nat) (M2 : Nat → Nat → Int), (∀ q2 k2, q2 ≠ q → rf2 q2 k2 = rf q2 k2) → (rf2 q 0 = r + 1 ∧ rf2 q 1 = n + 1 ∧ rf2 q 2 = n + 1 + 1 ∧ rf2 q 3 = n + 2 + 1) → (∀ q2 k2, q2 ≠ q → M2 q2 k2 = M q2 k2) → Q none (sh ++ [.inr (0, 6)] ++ [.inr (0, 6)] ++ [.inr (0, 6)], rf2, M2)) : dz_E dz_pp xo (d + 1) 25 [dz_r q, dz_r r] (sh, rf, M) Q := by
  refine ⟨Nat.le_of_ble_eq_true rfl, ?_⟩
  have hc := dz_E_m dz_pp xo (d + 0)
  show dz_X (dz_E dz_pp xo (d + 0)) dz_pp xo (dz_pp 25) Q 0 [some (dz_r q), some (dz_r r)] [] 0 0 (sh, rf, M)
  refine xr_aloadn hc rfl rfl ?_
  refine xr_obj hc rfl (Nat.le_of_ble_eq_true rfl) ?_
  refine xr_aloadn hc rfl rfl ?_
  refine xr_bipush hc rfl ?_
  refine xr_newarrayz (l := 6) (q := n) hc rfl rfl rfl (by decide) (by decide) (by decide) (by first | (simp only [List.length_append, List.length_cons, List.length_nil]; omega) | assumption) ?_ ?_ (Nat.le_of_ble_eq_true rfl) (Nat.le_of_ble_eq_true rfl) ?_
  · intro j
    repeat (first | rw [dz_up_ne (by omega)])
    exact hz _ _ (by omega)
  · intro j
    repeat (first | rw [dz_up_ne (by omega)])
    exact hZ _ _ (by omega)
  refine xr_putfr hc rfl rfl (by first | ((repeat refine g_app ?_); assumption) | assumption | rfl) ?_
  refine xr_aloadn hc rfl rfl ?_
  refine xr_bipush hc rfl ?_
  refine xr_newarrayz (l := 6) (q := n + 1) hc rfl rfl rfl (by decide) (by decide) (by decide) (by first | (simp only [List.length_append, List.length_cons, List.length_nil]; omega) | assumption) ?_ ?_ (Nat.le_of_ble_eq_true rfl) (Nat.le_of_ble_eq_true rfl) ?_
  · intro j
    repeat (first | rw [dz_up_ne (by omega)])
    exact hz _ _ (by omega)
  · intro j
    repeat (first | rw [dz_up_ne (by omega)])
    exact hZ _ _ (by omega)
  refine xr_putfr hc rfl rfl (by first | ((repeat refine g_app ?_); assumption) | assumption | rfl) ?_
  refine xr_aloadn hc rfl rfl ?_
  refine xr_bipush hc rfl ?_
  refine xr_newarrayz (l := 6) (q := n + 2) hc rfl rfl rfl (by decide) (by decide) (by decide) (by first | (simp only [List.length_append, List.length_cons, List.length_nil]; omega) | assumption) ?_ ?_ (Nat.le_of_ble_eq_true rfl) (Nat.le_of_ble_eq_true rfl) ?_
  · intro j
    repeat (first | rw [dz_up_ne (by omega)])
    exact hz _ _ (by omega)
  · intro j
    repeat (first | rw [dz_up_ne (by omega)])
    exact hZ _ _ (by omega)
  refine xr_putfr hc rfl rfl (by first | ((repeat refine g_app ?_); assumption) | assumption | rfl) ?_
  refine xr_aloadn hc rfl rfl ?_
  refine xr_iconst hc rfl ?_
  refine xr_putfi hc rfl rfl (by first | ((repeat refine g_app ?_); assumption) | assumption | rfl) ?_
  refine xr_aloadn hc rfl rfl ?_
  refine xr_iconst hc rfl ?_
  refine xr_putfi hc rfl rfl (by first | ((repeat refine g_app ?_); assumption) | assumption | rfl) ?_
  refine xr_aloadn hc rfl rfl ?_
  refine xr_iconst hc rfl ?_
  refine xr_putfi hc rfl rfl (by first | ((repeat refine g_app ?_); assumption) | assumption | rfl) ?_
  refine xr_aloadn hc rfl rfl ?_
  refine xr_aloadn hc rfl rfl ?_
  refine xr_putfr hc rfl rfl (by first | ((repeat refine g_app ?_); assumption) | assumption | rfl) ?_
  refine xr_return hc rfl rfl (Nat.le_of_ble_eq_true rfl) (Nat.le_of_ble_eq_true rfl) ?_
  refine hQ _ _ (fun q2 k2 u => ?_) ⟨?_, ?_, ?_, ?_⟩ (fun q2 k2 u => ?_) 
  · repeat rw [dz_up_ne u]
  · repeat (first | rw [dz_up_ne (by omega)] | rw [dz_up_k (by omega)])
    rw [dz_up_eq]
  · repeat (first | rw [dz_up_ne (by omega)] | rw [dz_up_k (by omega)])
    rw [dz_up_eq]
  · repeat (first | rw [dz_up_ne (by omega)] | rw [dz_up_k (by omega)])
    rw [dz_up_eq]
  · repeat (first | rw [dz_up_ne (by omega)] | rw [dz_up_k (by omega)])
    rw [dz_up_eq]
  · repeat rw [dz_up_ne u]
