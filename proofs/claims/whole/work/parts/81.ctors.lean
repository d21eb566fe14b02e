/-! The constructors of the reader and the drum. Written by l2_81.py. -/
set_option maxRecDepth 100000 in
theorem I_reader {xo : Nat → List Int} {d : Nat} {Q : dz_Q} {sh : List (Nat ⊕ (Nat × Nat))} {rf : Nat → Nat → Nat} {M : Nat → Nat → Int} {n q : Nat} (hn : sh.length = n) (hqn : q < n) (hz : ∀ q2 k2, n ≤ q2 → rf q2 k2 = 0) (hZ : ∀ q2 k2, n ≤ q2 → M q2 k2 = 0) (hq : sh[q]? = some (.inl 3)) (hQ : ∀ (rf2 : Nat → Nat → Nat) (M2 : Nat → Nat → Int), (∀ q2 k2, q2 ≠ q → q2 ≠ n → rf2 q2 k2 = rf q2 k2) → rf2 q 0 = n + 1 → (rf2 (n) 6 = n + 1 + 1 ∧ rf2 (n) 7 = n + 1 + 1 + 1 ∧ rf2 (n) 8 = n + 1 + 2 + 1 ∧ rf2 (n) 9 = n + 1 + 3 + 1 ∧ rf2 (n) 10 = n + 1 + 4 + 1 ∧ rf2 (n) 11 = n + 1 + 5 + 1) → (∀ q2 k2, q2 ≠ q → q2 ≠ n → M2 q2 k2 = M q2 k2) → (M2 (n) 0 = 0 ∧ M2 (n) 1 = 0 ∧ M2 (n) 2 = 0 ∧ M2 (n) 3 = 0 ∧ M2 (n) 4 = -9 ∧ M2 (n) 5 = 0) → Q none (sh ++ [.inl 1] ++ [.inr (0, 6)] ++ [.inr (0, 6)] ++ [.inr (0, 6)] ++ [.inr (0, 6)] ++ [.inr (0, 6)] ++ [.inr (0, 6)] ++ [.inr (2, 0)], rf2, M2)) : dz_E dz_pp xo (d + 2) 36 [dz_r q] (sh, rf, M) Q := by
  refine ⟨Nat.le_of_ble_eq_true rfl, ?_⟩
  have hc := dz_E_m dz_pp xo (d + 1)
  show dz_X (dz_E dz_pp xo (d + 1)) dz_pp xo (dz_pp 36) Q 0 [some (dz_r q)] [] 0 0 (sh, rf, M)
  refine xr_aloadn hc rfl rfl ?_
  refine xr_obj hc rfl (Nat.le_of_ble_eq_true rfl) ?_
  refine xr_aloadn hc rfl rfl ?_
  refine xr_newz (q := n) hc rfl (by first | (simp only [List.length_append, List.length_cons, List.length_nil]; omega) | assumption) ?_ ?_ (Nat.le_of_ble_eq_true rfl) (Nat.le_of_ble_eq_true rfl) ?_
  · intro j
    repeat (first | rw [dz_up_ne (by omega)])
    exact hz _ _ (by omega)
  · intro j
    repeat (first | rw [dz_up_ne (by omega)])
    exact hZ _ _ (by omega)
  refine xr_dup hc rfl rfl ?_
  refine xr_ctor0 hc rfl (by decide) rfl (Nat.le_of_ble_eq_true rfl) (Nat.le_of_ble_eq_true rfl) (Nat.le_of_ble_eq_true rfl) ?_
  refine I_machine (n := n + 1) (q := n) (by first | (simp only [List.length_append, List.length_cons, List.length_nil]; omega) | assumption) (by omega) (fun q2 k2 u => by
    repeat (first | rw [dz_up_ne (by omega)])
    exact hz _ _ (by omega)) (fun q2 k2 u => by
    repeat (first | rw [dz_up_ne (by omega)])
    exact hZ _ _ (by omega)) (g_at (by first | (simp only [List.length_append, List.length_cons, List.length_nil]; omega) | assumption)) (fun rff Mf f1 f2a f3 f4a => ?_)
  have f2 : ∀ _ : Unit, _ := fun _ => f2a
  have f4 : ∀ _ : Unit, _ := fun _ => f4a
  clear f2a f4a
  have hz : ∀ q2 k2, n + 1 ≤ q2 → rff q2 k2 = 0 := fun q2 k2 u => by
    rw [f1 _ _ (by omega)]
    repeat (first | rw [dz_up_ne (by omega)])
    exact hz _ _ (by omega)
  have hZ : ∀ q2 k2, n + 1 ≤ q2 → Mf q2 k2 = 0 := fun q2 k2 u => by
    rw [f3 _ _ (by omega)]
    repeat (first | rw [dz_up_ne (by omega)])
    exact hZ _ _ (by omega)
  refine xk_0 ?_
  refine xr_putfr hc rfl rfl (by first | ((repeat refine g_app ?_); assumption) | assumption | rfl) ?_
  refine xr_aloadn hc rfl rfl ?_
  refine xr_iconst hc rfl ?_
  refine xr_newarrayz (l := 0) (q := n + 7) hc rfl rfl rfl (by decide) (by decide) (by decide) (by first | (simp only [List.length_append, List.length_cons, List.length_nil]; omega) | assumption) ?_ ?_ (Nat.le_of_ble_eq_true rfl) (Nat.le_of_ble_eq_true rfl) ?_
  · intro j
    repeat (first | rw [dz_up_ne (by omega)])
    exact hz _ _ (by omega)
  · intro j
    repeat (first | rw [dz_up_ne (by omega)])
    exact hZ _ _ (by omega)
  refine xr_putfr hc rfl rfl (by first | ((repeat refine g_app ?_); assumption) | assumption | rfl) ?_
  refine xr_aloadn hc rfl rfl ?_
  refine xr_iconst hc rfl ?_
  refine xr_putfi hc rfl rfl (by first | ((repeat refine g_app ?_); assumption) | assumption | rfl) ?_
  refine xr_aloadn hc rfl rfl ?_
  refine xr_iconst hc rfl ?_
  refine xr_putfi hc rfl rfl (by first | ((repeat refine g_app ?_); assumption) | assumption | rfl) ?_
  refine xr_return hc rfl rfl (Nat.le_of_ble_eq_true rfl) (Nat.le_of_ble_eq_true rfl) ?_
  refine hQ _ _ (fun q2 k2 u v => ?_) ?_ ?_ (fun q2 k2 u v => ?_) ?_
  · repeat (first | rw [dz_up_ne (by omega)] | rw [dz_up_k (by omega)] | rw [f1 _ _ (by omega)])
  · repeat (first | rw [dz_up_ne (by omega)] | rw [dz_up_k (by omega)] | rw [f1 _ _ (by omega)])
    rw [dz_up_eq]
  · refine ⟨?_, ?_, ?_, ?_, ?_, ?_⟩
    · repeat (first | rw [dz_up_ne (by omega)] | rw [dz_up_k (by omega)])
      exact (f2 ()).1
    · repeat (first | rw [dz_up_ne (by omega)] | rw [dz_up_k (by omega)])
      exact (f2 ()).2.1
    · repeat (first | rw [dz_up_ne (by omega)] | rw [dz_up_k (by omega)])
      exact (f2 ()).2.2.1
    · repeat (first | rw [dz_up_ne (by omega)] | rw [dz_up_k (by omega)])
      exact (f2 ()).2.2.2.1
    · repeat (first | rw [dz_up_ne (by omega)] | rw [dz_up_k (by omega)])
      exact (f2 ()).2.2.2.2.1
    · repeat (first | rw [dz_up_ne (by omega)] | rw [dz_up_k (by omega)])
      exact (f2 ()).2.2.2.2.2
  · repeat (first | rw [dz_up_ne (by omega)] | rw [dz_up_k (by omega)] | rw [f3 _ _ (by omega)])
  · refine ⟨?_, ?_, ?_, ?_, ?_, ?_⟩
    · repeat (first | rw [dz_up_ne (by omega)] | rw [dz_up_k (by omega)])
      exact (f4 ()).1
    · repeat (first | rw [dz_up_ne (by omega)] | rw [dz_up_k (by omega)])
      exact (f4 ()).2.1
    · repeat (first | rw [dz_up_ne (by omega)] | rw [dz_up_k (by omega)])
      exact (f4 ()).2.2.1
    · repeat (first | rw [dz_up_ne (by omega)] | rw [dz_up_k (by omega)])
      exact (f4 ()).2.2.2.1
    · repeat (first | rw [dz_up_ne (by omega)] | rw [dz_up_k (by omega)])
      exact (f4 ()).2.2.2.2.1
    · repeat (first | rw [dz_up_ne (by omega)] | rw [dz_up_k (by omega)])
      exact (f4 ()).2.2.2.2.2
set_option maxHeartbeats 4000000 in
set_option maxRecDepth 100000 in
theorem I_drum {xo : Nat → List Int} {d : Nat} {Q : dz_Q} {sh : List (Nat ⊕ (Nat × Nat))} {rf : Nat → Nat → Nat} {M : Nat → Nat → Int} {n q : Nat} (hn : sh.length = n) (hqn : q < n) (hz : ∀ q2 k2, n ≤ q2 → rf q2 k2 = 0) (hZ : ∀ q2 k2, n ≤ q2 → M q2 k2 = 0) (hq : sh[q]? = some (.inl 0)) (hQ : ∀ (rf2 : Nat → Nat → Nat) (M2 : Nat → Nat → Int), (∀ q2 k2, q2 ≠ q → q2 ≠ n → q2 ≠ n + 7 → rf2 q2 k2 = rf q2 k2) → (rf2 q 0 = n + 1 ∧ rf2 q 1 = n + 7 + 1 ∧ rf2 q 3 = n + 14 + 1 ∧ rf2 q 4 = n + 15 + 1 ∧ rf2 q 5 = n + 16 + 1) → (rf2 (n) 6 = n + 1 + 1 ∧ rf2 (n) 7 = n + 1 + 1 + 1 ∧ rf2 (n) 8 = n + 1 + 2 + 1 ∧ rf2 (n) 9 = n + 1 + 3 + 1 ∧ rf2 (n) 10 = n + 1 + 4 + 1 ∧ rf2 (n) 11 = n + 1 + 5 + 1) → (rf2 (n + 7) 6 = n + 8 + 1 ∧ rf2 (n + 7) 7 = n + 8 + 1 + 1 ∧ rf2 (n + 7) 8 = n + 8 + 2 + 1 ∧ rf2 (n + 7) 9 = n + 8 + 3 + 1 ∧ rf2 (n + 7) 10 = n + 8 + 4 + 1 ∧ rf2 (n + 7) 11 = n + 8 + 5 + 1) → (∀ q2 k2, q2 ≠ q → q2 ≠ n → q2 ≠ n + 7 → M2 q2 k2 = M q2 k2) → M2 q 2 = 0 → (M2 (n) 0 = 0 ∧ M2 (n) 1 = 0 ∧ M2 (n) 2 = 0 ∧ M2 (n) 3 = 0 ∧ M2 (n) 4 = -9 ∧ M2 (n) 5 = 0) → (M2 (n + 7) 0 = 0 ∧ M2 (n + 7) 1 = 0 ∧ M2 (n + 7) 2 = 0 ∧ M2 (n + 7) 3 = 0 ∧ M2 (n + 7) 4 = -9 ∧ M2 (n + 7) 5 = 0) → Q none (sh ++ [.inl 1] ++ [.inr (0, 6)] ++ [.inr (0, 6)] ++ [.inr (0, 6)] ++ [.inr (0, 6)] ++ [.inr (0, 6)] ++ [.inr (0, 6)] ++ [.inl 1] ++ [.inr (0, 6)] ++ [.inr (0, 6)] ++ [.inr (0, 6)] ++ [.inr (0, 6)] ++ [.inr (0, 6)] ++ [.inr (0, 6)] ++ [.inr (0, 40)] ++ [.inr (0, 40)] ++ [.inr (0, 40)], rf2, M2)) : dz_E dz_pp xo (d + 2) 0 [dz_r q] (sh, rf, M) Q := by
  refine ⟨Nat.le_of_ble_eq_true rfl, ?_⟩
  have hc := dz_E_m dz_pp xo (d + 1)
  show dz_X (dz_E dz_pp xo (d + 1)) dz_pp xo (dz_pp 0) Q 0 [some (dz_r q)] [] 0 0 (sh, rf, M)
  refine xr_aloadn hc rfl rfl ?_
  refine xr_obj hc rfl (Nat.le_of_ble_eq_true rfl) ?_
  refine xr_aloadn hc rfl rfl ?_
  refine xr_newz (q := n) hc rfl (by first | (simp only [List.length_append, List.length_cons, List.length_nil]; omega) | assumption) ?_ ?_ (Nat.le_of_ble_eq_true rfl) (Nat.le_of_ble_eq_true rfl) ?_
  · intro j
    repeat (first | rw [dz_up_ne (by omega)])
    exact hz _ _ (by omega)
  · intro j
    repeat (first | rw [dz_up_ne (by omega)])
    exact hZ _ _ (by omega)
  refine xr_dup hc rfl rfl ?_
  refine xr_ctor0 hc rfl (by decide) rfl (Nat.le_of_ble_eq_true rfl) (Nat.le_of_ble_eq_true rfl) (Nat.le_of_ble_eq_true rfl) ?_
  refine I_machine (n := n + 1) (q := n) (by first | (simp only [List.length_append, List.length_cons, List.length_nil]; omega) | assumption) (by omega) (fun q2 k2 u => by
    repeat (first | rw [dz_up_ne (by omega)])
    exact hz _ _ (by omega)) (fun q2 k2 u => by
    repeat (first | rw [dz_up_ne (by omega)])
    exact hZ _ _ (by omega)) (g_at (by first | (simp only [List.length_append, List.length_cons, List.length_nil]; omega) | assumption)) (fun rff Mf f1 f2a f3 f4a => ?_)
  have f2 : ∀ _ : Unit, _ := fun _ => f2a
  have f4 : ∀ _ : Unit, _ := fun _ => f4a
  clear f2a f4a
  have hz : ∀ q2 k2, n + 1 ≤ q2 → rff q2 k2 = 0 := fun q2 k2 u => by
    rw [f1 _ _ (by omega)]
    repeat (first | rw [dz_up_ne (by omega)])
    exact hz _ _ (by omega)
  have hZ : ∀ q2 k2, n + 1 ≤ q2 → Mf q2 k2 = 0 := fun q2 k2 u => by
    rw [f3 _ _ (by omega)]
    repeat (first | rw [dz_up_ne (by omega)])
    exact hZ _ _ (by omega)
  refine xk_0 ?_
  refine xr_putfr hc rfl rfl (by first | ((repeat refine g_app ?_); assumption) | assumption | rfl) ?_
  refine xr_aloadn hc rfl rfl ?_
  refine xr_newz (q := n + 7) hc rfl (by first | (simp only [List.length_append, List.length_cons, List.length_nil]; omega) | assumption) ?_ ?_ (Nat.le_of_ble_eq_true rfl) (Nat.le_of_ble_eq_true rfl) ?_
  · intro j
    repeat (first | rw [dz_up_ne (by omega)])
    exact hz _ _ (by omega)
  · intro j
    repeat (first | rw [dz_up_ne (by omega)])
    exact hZ _ _ (by omega)
  refine xr_dup hc rfl rfl ?_
  refine xr_ctor0 hc rfl (by decide) rfl (Nat.le_of_ble_eq_true rfl) (Nat.le_of_ble_eq_true rfl) (Nat.le_of_ble_eq_true rfl) ?_
  refine I_machine (n := n + 8) (q := n + 7) (by first | (simp only [List.length_append, List.length_cons, List.length_nil]; omega) | assumption) (by omega) (fun q2 k2 u => by
    repeat (first | rw [dz_up_ne (by omega)])
    exact hz _ _ (by omega)) (fun q2 k2 u => by
    repeat (first | rw [dz_up_ne (by omega)])
    exact hZ _ _ (by omega)) (g_at (by first | (simp only [List.length_append, List.length_cons, List.length_nil]; omega) | assumption)) (fun rfg Mg g1 g2a g3 g4a => ?_)
  have g2 : ∀ _ : Unit, _ := fun _ => g2a
  have g4 : ∀ _ : Unit, _ := fun _ => g4a
  clear g2a g4a
  have hz : ∀ q2 k2, n + 8 ≤ q2 → rfg q2 k2 = 0 := fun q2 k2 u => by
    rw [g1 _ _ (by omega)]
    repeat (first | rw [dz_up_ne (by omega)])
    exact hz _ _ (by omega)
  have hZ : ∀ q2 k2, n + 8 ≤ q2 → Mg q2 k2 = 0 := fun q2 k2 u => by
    rw [g3 _ _ (by omega)]
    repeat (first | rw [dz_up_ne (by omega)])
    exact hZ _ _ (by omega)
  refine xk_0 ?_
  refine xr_putfr hc rfl rfl (by first | ((repeat refine g_app ?_); assumption) | assumption | rfl) ?_
  refine xr_aloadn hc rfl rfl ?_
  refine xr_iconst hc rfl ?_
  refine xr_putfi hc rfl rfl (by first | ((repeat refine g_app ?_); assumption) | assumption | rfl) ?_
  refine xr_aloadn hc rfl rfl ?_
  refine xr_bipush hc rfl ?_
  refine xr_newarrayz (l := 40) (q := n + 14) hc rfl rfl rfl (by decide) (by decide) (by decide) (by first | (simp only [List.length_append, List.length_cons, List.length_nil]; omega) | assumption) ?_ ?_ (Nat.le_of_ble_eq_true rfl) (Nat.le_of_ble_eq_true rfl) ?_
  · intro j
    repeat (first | rw [dz_up_ne (by omega)])
    exact hz _ _ (by omega)
  · intro j
    repeat (first | rw [dz_up_ne (by omega)])
    exact hZ _ _ (by omega)
  refine xr_putfr hc rfl rfl (by first | ((repeat refine g_app ?_); assumption) | assumption | rfl) ?_
  refine xr_aloadn hc rfl rfl ?_
  refine xr_bipush hc rfl ?_
  refine xr_newarrayz (l := 40) (q := n + 15) hc rfl rfl rfl (by decide) (by decide) (by decide) (by first | (simp only [List.length_append, List.length_cons, List.length_nil]; omega) | assumption) ?_ ?_ (Nat.le_of_ble_eq_true rfl) (Nat.le_of_ble_eq_true rfl) ?_
  · intro j
    repeat (first | rw [dz_up_ne (by omega)])
    exact hz _ _ (by omega)
  · intro j
    repeat (first | rw [dz_up_ne (by omega)])
    exact hZ _ _ (by omega)
  refine xr_putfr hc rfl rfl (by first | ((repeat refine g_app ?_); assumption) | assumption | rfl) ?_
  refine xr_aloadn hc rfl rfl ?_
  refine xr_bipush hc rfl ?_
  refine xr_newarrayz (l := 40) (q := n + 16) hc rfl rfl rfl (by decide) (by decide) (by decide) (by first | (simp only [List.length_append, List.length_cons, List.length_nil]; omega) | assumption) ?_ ?_ (Nat.le_of_ble_eq_true rfl) (Nat.le_of_ble_eq_true rfl) ?_
  · intro j
    repeat (first | rw [dz_up_ne (by omega)])
    exact hz _ _ (by omega)
  · intro j
    repeat (first | rw [dz_up_ne (by omega)])
    exact hZ _ _ (by omega)
  refine xr_putfr hc rfl rfl (by first | ((repeat refine g_app ?_); assumption) | assumption | rfl) ?_
  refine xr_return hc rfl rfl (Nat.le_of_ble_eq_true rfl) (Nat.le_of_ble_eq_true rfl) ?_
  refine hQ _ _ (fun q2 k2 u v x => ?_) ⟨?_, ?_, ?_, ?_, ?_⟩ ?_ ?_ (fun q2 k2 u v x => ?_) ?_ ?_ ?_
  · repeat (first | rw [dz_up_ne (by omega)] | rw [dz_up_k (by omega)] | rw [g1 _ _ (by omega)] | rw [f1 _ _ (by omega)])
  · repeat (first | rw [dz_up_ne (by omega)] | rw [dz_up_k (by omega)] | rw [g1 _ _ (by omega)] | rw [f1 _ _ (by omega)])
    rw [dz_up_eq]
  · repeat (first | rw [dz_up_ne (by omega)] | rw [dz_up_k (by omega)] | rw [g1 _ _ (by omega)] | rw [f1 _ _ (by omega)])
    rw [dz_up_eq]
  · repeat (first | rw [dz_up_ne (by omega)] | rw [dz_up_k (by omega)] | rw [g1 _ _ (by omega)] | rw [f1 _ _ (by omega)])
    rw [dz_up_eq]
  · repeat (first | rw [dz_up_ne (by omega)] | rw [dz_up_k (by omega)] | rw [g1 _ _ (by omega)] | rw [f1 _ _ (by omega)])
    rw [dz_up_eq]
  · repeat (first | rw [dz_up_ne (by omega)] | rw [dz_up_k (by omega)] | rw [g1 _ _ (by omega)] | rw [f1 _ _ (by omega)])
    rw [dz_up_eq]
  · refine ⟨?_, ?_, ?_, ?_, ?_, ?_⟩
    · repeat (first | rw [dz_up_ne (by omega)] | rw [dz_up_k (by omega)] | rw [g1 _ _ (by omega)])
      exact (f2 ()).1
    · repeat (first | rw [dz_up_ne (by omega)] | rw [dz_up_k (by omega)] | rw [g1 _ _ (by omega)])
      exact (f2 ()).2.1
    · repeat (first | rw [dz_up_ne (by omega)] | rw [dz_up_k (by omega)] | rw [g1 _ _ (by omega)])
      exact (f2 ()).2.2.1
    · repeat (first | rw [dz_up_ne (by omega)] | rw [dz_up_k (by omega)] | rw [g1 _ _ (by omega)])
      exact (f2 ()).2.2.2.1
    · repeat (first | rw [dz_up_ne (by omega)] | rw [dz_up_k (by omega)] | rw [g1 _ _ (by omega)])
      exact (f2 ()).2.2.2.2.1
    · repeat (first | rw [dz_up_ne (by omega)] | rw [dz_up_k (by omega)] | rw [g1 _ _ (by omega)])
      exact (f2 ()).2.2.2.2.2
  · refine ⟨?_, ?_, ?_, ?_, ?_, ?_⟩
    · repeat (first | rw [dz_up_ne (by omega)] | rw [dz_up_k (by omega)])
      exact (g2 ()).1
    · repeat (first | rw [dz_up_ne (by omega)] | rw [dz_up_k (by omega)])
      exact (g2 ()).2.1
    · repeat (first | rw [dz_up_ne (by omega)] | rw [dz_up_k (by omega)])
      exact (g2 ()).2.2.1
    · repeat (first | rw [dz_up_ne (by omega)] | rw [dz_up_k (by omega)])
      exact (g2 ()).2.2.2.1
    · repeat (first | rw [dz_up_ne (by omega)] | rw [dz_up_k (by omega)])
      exact (g2 ()).2.2.2.2.1
    · repeat (first | rw [dz_up_ne (by omega)] | rw [dz_up_k (by omega)])
      exact (g2 ()).2.2.2.2.2
  · repeat (first | rw [dz_up_ne (by omega)] | rw [dz_up_k (by omega)] | rw [g3 _ _ (by omega)] | rw [f3 _ _ (by omega)])
  · repeat (first | rw [dz_up_ne (by omega)] | rw [dz_up_k (by omega)] | rw [g3 _ _ (by omega)] | rw [f3 _ _ (by omega)])
    rw [dz_up_eq]
  · refine ⟨?_, ?_, ?_, ?_, ?_, ?_⟩
    · repeat (first | rw [dz_up_ne (by omega)] | rw [dz_up_k (by omega)] | rw [g3 _ _ (by omega)])
      exact (f4 ()).1
    · repeat (first | rw [dz_up_ne (by omega)] | rw [dz_up_k (by omega)] | rw [g3 _ _ (by omega)])
      exact (f4 ()).2.1
    · repeat (first | rw [dz_up_ne (by omega)] | rw [dz_up_k (by omega)] | rw [g3 _ _ (by omega)])
      exact (f4 ()).2.2.1
    · repeat (first | rw [dz_up_ne (by omega)] | rw [dz_up_k (by omega)] | rw [g3 _ _ (by omega)])
      exact (f4 ()).2.2.2.1
    · repeat (first | rw [dz_up_ne (by omega)] | rw [dz_up_k (by omega)] | rw [g3 _ _ (by omega)])
      exact (f4 ()).2.2.2.2.1
    · repeat (first | rw [dz_up_ne (by omega)] | rw [dz_up_k (by omega)] | rw [g3 _ _ (by omega)])
      exact (f4 ()).2.2.2.2.2
  · refine ⟨?_, ?_, ?_, ?_, ?_, ?_⟩
    · repeat (first | rw [dz_up_ne (by omega)] | rw [dz_up_k (by omega)])
      exact (g4 ()).1
    · repeat (first | rw [dz_up_ne (by omega)] | rw [dz_up_k (by omega)])
      exact (g4 ()).2.1
    · repeat (first | rw [dz_up_ne (by omega)] | rw [dz_up_k (by omega)])
      exact (g4 ()).2.2.1
    · repeat (first | rw [dz_up_ne (by omega)] | rw [dz_up_k (by omega)])
      exact (g4 ()).2.2.2.1
    · repeat (first | rw [dz_up_ne (by omega)] | rw [dz_up_k (by omega)])
      exact (g4 ()).2.2.2.2.1
    · repeat (first | rw [dz_up_ne (by omega)] | rw [dz_up_k (by omega)])
      exact (g4 ()).2.2.2.2.2
