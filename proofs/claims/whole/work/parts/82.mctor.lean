/-! The constructor of the other one. Written by l2_82.py. -/
def hs0 (k : Nat) : Int := if k = 3 then -9 else 0
set_option maxHeartbeats 4000000 in
set_option maxRecDepth 100000 in
theorem I_model {xo : Nat → List Int} {d : Nat} {Q : dz_Q} {sh : List (Nat ⊕ (Nat × Nat))} {rf : Nat → Nat → Nat} {M : Nat → Nat → Int} (hn : sh.length = 116) (hz : ∀ q2 k2, 115 ≤ q2 → rf q2 k2 = 0) (hZ : ∀ q2 k2, 115 ≤ q2 → M q2 k2 = 0) (hq : sh[115]? = some (.inl 6)) (hQ : ∀ (rf2 : Nat → Nat → Nat) (M2 : Nat → Nat → Int), (∀ q2 k2, q2 ≠ 115 → rf2 q2 k2 = rf q2 k2) → ml (sh ++ [.inr (0, 3635)] ++ [.inr (0, 6)] ++ [.inr (0, 6)] ++ [.inr (0, 6)] ++ [.inr (0, 6)] ++ [.inr (0, 240)] ++ [.inr (0, 4)] ++ [.inr (0, 240)] ++ [.inr (0, 6)] ++ [.inr (0, 30)] ++ [.inr (0, 6)] ++ [.inr (0, 6)] ++ [.inr (0, 3)] ++ [.inr (0, 4)]) rf2 → (∀ q2 k2, q2 < 115 → M2 q2 k2 = M q2 k2) → RM M2 (fun _ => -1) (fun _ _ => 0) (fun _ => -1) (fun _ _ => 0) 0 0 1 (fun _ => 0) 0 0 (fun _ => 0) (fun _ => 0) (fun _ => 0) 0 (fun _ => hs0) (fun _ => -1) (fun _ _ _ => 0) → Q none (sh ++ [.inr (0, 3635)] ++ [.inr (0, 6)] ++ [.inr (0, 6)] ++ [.inr (0, 6)] ++ [.inr (0, 6)] ++ [.inr (0, 240)] ++ [.inr (0, 4)] ++ [.inr (0, 240)] ++ [.inr (0, 6)] ++ [.inr (0, 30)] ++ [.inr (0, 6)] ++ [.inr (0, 6)] ++ [.inr (0, 3)] ++ [.inr (0, 4)], rf2, M2)) : dz_E dz_pp xo (d + 1) 118 [dz_r 115] (sh, rf, M) Q := by
  refine ⟨Nat.le_of_ble_eq_true rfl, ?_⟩
  have hc := dz_E_m dz_pp xo (d + 0)
  show dz_X (dz_E dz_pp xo (d + 0)) dz_pp xo (dz_pp 118) Q 0 [some (dz_r 115), none] [] 0 0 (sh, rf, M)
  have t161 : ∀ (sh2 : List (Nat ⊕ (Nat × Nat))) (rf2 : Nat → Nat → Nat) (MM : Nat → Nat → Int), ml sh2 rf2 → (∀ q2 k2, q2 ≠ 115 → rf2 q2 k2 = rf q2 k2) → sh2 = sh ++ [.inr (0, 3635)] ++ [.inr (0, 6)] ++ [.inr (0, 6)] ++ [.inr (0, 6)] ++ [.inr (0, 6)] ++ [.inr (0, 240)] ++ [.inr (0, 4)] ++ [.inr (0, 240)] ++ [.inr (0, 6)] ++ [.inr (0, 30)] ++ [.inr (0, 6)] ++ [.inr (0, 6)] ++ [.inr (0, 3)] ++ [.inr (0, 4)] → (∀ r, r < 6 → MM 120 r = -1) → (∀ t, t < 4 → MM 122 t = -1) → (∀ k, k ≤ 27 → MM 115 k = if k = 12 then 1 else 0) → (∀ k, MM 116 k = 0) → (∀ k, MM 124 k = 0) → (∀ q2 k2, (q2 < 115 ∨ 130 ≤ q2) → MM q2 k2 = M q2 k2) → dz_X (dz_E dz_pp xo (d + 0)) dz_pp xo (dz_pp 118) Q 161 [some (dz_r 115), none] [] 14 4198 (sh2, rf2, MM) := by
    intro sh2 rf2 MM hml hfr hsh a1 a2 a3 a4 a5 a6
    obtain ⟨c0, c1, c2, c3, c4, c5, c6, c7, c8, c9, c10, c11, c12, c13, c14, c15, c16, c17, c18, c19, c20, c21, c22, c23, c24, c25, c26, c27, c28, c29⟩ := id hml
    have lp : ∀ (m_ : Nat) (k : Nat) (N : Nat → Nat → Int), k + m_ = 4 → 1 ≤ k → (∀ q2 k2, q2 ≠ 116 → N q2 k2 = MM q2 k2) → (∀ j, j < 903 → N 116 j = hs0 j) → (∀ j, 1 ≤ j → j < k → N 116 (903 * j) = -1) → dz_X (dz_E dz_pp xo (d + 0)) dz_pp xo (dz_pp 118) Q 171 [some (dz_r 115), some (dz_i (k : Int))] [] 14 4198 (sh2, rf2, N) := by
      intro m_
      induction m_ with
      | zero =>
        intro k N hk hk1 g1 g2 g3
        refine xr_iloadn hc rfl rfl ?_
        refine xr_iconst hc rfl ?_
        refine xr_icmp_ge hc rfl (t := 195) rfl (fun b173 => ?_) (fun b173 => ?_)
        · refine xr_return hc rfl rfl (Nat.le_of_ble_eq_true rfl) (Nat.le_of_ble_eq_true rfl) ?_
          rw [hsh] at hml ⊢
          refine hQ rf2 N hfr hml (fun q2 k2 u => by rw [g1 _ _ (by omega), a6 _ _ (by omega)]) ⟨fun r hr => ⟨by rw [g1 _ _ (by omega)]; exact a1 r hr, fun k2 hk2 => by have z : (k2 : Int) < -1 := hk2; omega⟩, fun t ht => ⟨by rw [g1 _ _ (by omega)]; exact a2 t ht, fun k2 hk2 => by have z : (k2 : Int) < -1 := hk2; omega⟩, ?_, ?_, ?_, ⟨?_, fun k2 h1 h2 => by rw [g1 _ _ (by omega)]; exact a5 k2⟩, ⟨?_, ?_, fun i hi => by omega, g2 0 (by omega), fun c hc2 => ?_, fun k2 hk2 => by omega⟩, fun k2 hk2 => ⟨g3 (1 + k2) (by omega) (by omega), fun z => absurd z (by show ¬ (0 : Int) ≤ -1; decide)⟩⟩
          · rw [g1 _ _ (by omega)]
            exact a3 10 (by omega)
          · rw [g1 _ _ (by omega)]
            exact a3 11 (by omega)
          · rw [g1 _ _ (by omega)]
            exact a3 12 (by omega)
          · rw [g1 _ _ (by omega)]
            exact a3 13 (by omega)
          · rw [g1 _ _ (by omega)]
            exact a3 2 (by omega)
          · rw [g1 _ _ (by omega)]
            exact a3 1 (by omega)
          · rw [Nat.zero_add]
            unfold okc at hc2
            exact g2 c (by omega)
        · omega
      | succ m_ ih =>
        intro k N hk hk1 g1 g2 g3
        have ix : (903 * (k : Int) + 0).toNat = 903 * k := by omega
        refine xr_iloadn hc rfl rfl ?_
        refine xr_iconst hc rfl ?_
        refine xr_icmp_ge hc rfl (t := 195) rfl (fun b173 => ?_) (fun b173 => ?_)
        · omega
        · refine xr_aloadn hc rfl rfl ?_
          refine xr_getfr hc rfl rfl (by first | assumption | rfl) (by first | assumption | rfl) ?_
          refine xr_sipush hc rfl ?_
          refine xr_iloadn hc rfl rfl ?_
          refine xr_imulz hc rfl (by first | exact dz_wid (by first | omega | (unfold dz_w; omega)) (by first | omega | (unfold dz_w; omega)) | rfl) ?_
          refine xr_iconst hc rfl ?_
          refine xr_iaddz hc rfl (by first | exact dz_wid (by first | omega | (unfold dz_w; omega)) (by first | omega | (unfold dz_w; omega)) | rfl) ?_
          refine xr_iconst hc rfl ?_
          refine xr_iastore hc rfl (by first | assumption | rfl) (by first | omega | (unfold dz_w; omega)) (by first | omega | (unfold dz_w; omega)) ?_
          rw [ix]
          refine xr_iincz1 hc rfl rfl (by first | exact dz_wid (by first | omega | (unfold dz_w; omega)) (by first | omega | (unfold dz_w; omega)) | rfl) ?_
          refine xr_goto hc rfl (t := 171) rfl ?_
          refine ih (k + 1) _ (by omega) (by omega) (fun q2 k2 u => by rw [dz_up_ne u, g1 _ _ u]) (fun j2 hj => by rw [dz_up_k (by omega)]; exact g2 j2 hj) (fun j2 hj1 hj => ?_)
          by_cases e : j2 = k
          · rw [e, dz_up_eq]
          · rw [dz_up_k (by omega)]
            exact g3 j2 hj1 (by omega)
    refine xr_aloadn hc rfl rfl ?_
    refine xr_getfr hc rfl rfl (by first | assumption | rfl) (by first | assumption | rfl) ?_
    refine xr_iconst hc rfl ?_
    refine xr_bipush hc rfl ?_
    refine xr_iastore hc rfl (by first | assumption | rfl) (by first | omega | (unfold dz_w; omega)) (by first | omega | (unfold dz_w; omega)) ?_
    rw [show Int.toNat (3 : Int) = 3 from rfl]
    refine xr_iconst hc rfl ?_
    refine xr_istore1 hc rfl rfl ?_
    exact lp 3 1 _ (by omega) (by omega) (fun q2 k2 u => by rw [dz_up_ne u]) (fun j2 hj => by
      unfold hs0
      by_cases e : j2 = 3
      · rw [e, dz_up_eq, if_pos rfl]
      · rw [dz_up_k e, if_neg e]
        exact a4 j2) (fun j2 hj1 hj => by omega)
  refine xr_aloadn hc rfl rfl ?_
  refine xr_obj hc rfl (Nat.le_of_ble_eq_true rfl) ?_
  refine xr_aloadn hc rfl rfl ?_
  refine xr_sipush hc rfl ?_
  refine xr_newarrayz (l := 3635) (q := 116) hc rfl rfl rfl (by decide) (by decide) (by decide) (by first | (simp only [List.length_append, List.length_cons, List.length_nil]; omega) | assumption) ?_ ?_ (Nat.le_of_ble_eq_true rfl) (Nat.le_of_ble_eq_true rfl) ?_
  · intro j
    repeat (first | rw [dz_up_ne (by omega)])
    exact hz _ _ (by omega)
  · intro j
    repeat (first | rw [dz_up_ne (by omega)])
    exact hZ _ _ (by omega)
  refine xr_putfr hc rfl rfl (by first | exact g_at (by first | (simp only [List.length_append, List.length_cons, List.length_nil]; omega) | assumption) | ((repeat refine g_app ?_); assumption) | assumption | rfl) ?_
  refine xr_aloadn hc rfl rfl ?_
  refine xr_bipush hc rfl ?_
  refine xr_newarrayz (l := 6) (q := 117) hc rfl rfl rfl (by decide) (by decide) (by decide) (by first | (simp only [List.length_append, List.length_cons, List.length_nil]; omega) | assumption) ?_ ?_ (Nat.le_of_ble_eq_true rfl) (Nat.le_of_ble_eq_true rfl) ?_
  · intro j
    repeat (first | rw [dz_up_ne (by omega)])
    exact hz _ _ (by omega)
  · intro j
    repeat (first | rw [dz_up_ne (by omega)])
    exact hZ _ _ (by omega)
  refine xr_putfr hc rfl rfl (by first | exact g_at (by first | (simp only [List.length_append, List.length_cons, List.length_nil]; omega) | assumption) | ((repeat refine g_app ?_); assumption) | assumption | rfl) ?_
  refine xr_aloadn hc rfl rfl ?_
  refine xr_bipush hc rfl ?_
  refine xr_newarrayz (l := 6) (q := 118) hc rfl rfl rfl (by decide) (by decide) (by decide) (by first | (simp only [List.length_append, List.length_cons, List.length_nil]; omega) | assumption) ?_ ?_ (Nat.le_of_ble_eq_true rfl) (Nat.le_of_ble_eq_true rfl) ?_
  · intro j
    repeat (first | rw [dz_up_ne (by omega)])
    exact hz _ _ (by omega)
  · intro j
    repeat (first | rw [dz_up_ne (by omega)])
    exact hZ _ _ (by omega)
  refine xr_putfr hc rfl rfl (by first | exact g_at (by first | (simp only [List.length_append, List.length_cons, List.length_nil]; omega) | assumption) | ((repeat refine g_app ?_); assumption) | assumption | rfl) ?_
  refine xr_aloadn hc rfl rfl ?_
  refine xr_bipush hc rfl ?_
  refine xr_newarrayz (l := 6) (q := 119) hc rfl rfl rfl (by decide) (by decide) (by decide) (by first | (simp only [List.length_append, List.length_cons, List.length_nil]; omega) | assumption) ?_ ?_ (Nat.le_of_ble_eq_true rfl) (Nat.le_of_ble_eq_true rfl) ?_
  · intro j
    repeat (first | rw [dz_up_ne (by omega)])
    exact hz _ _ (by omega)
  · intro j
    repeat (first | rw [dz_up_ne (by omega)])
    exact hZ _ _ (by omega)
  refine xr_putfr hc rfl rfl (by first | exact g_at (by first | (simp only [List.length_append, List.length_cons, List.length_nil]; omega) | assumption) | ((repeat refine g_app ?_); assumption) | assumption | rfl) ?_
  refine xr_aloadn hc rfl rfl ?_
  refine xr_bipush hc rfl ?_
  refine xr_newarrayz (l := 6) (q := 120) hc rfl rfl rfl (by decide) (by decide) (by decide) (by first | (simp only [List.length_append, List.length_cons, List.length_nil]; omega) | assumption) ?_ ?_ (Nat.le_of_ble_eq_true rfl) (Nat.le_of_ble_eq_true rfl) ?_
  · intro j
    repeat (first | rw [dz_up_ne (by omega)])
    exact hz _ _ (by omega)
  · intro j
    repeat (first | rw [dz_up_ne (by omega)])
    exact hZ _ _ (by omega)
  refine xr_dup hc rfl rfl ?_
  refine xr_iconst hc rfl ?_
  refine xr_iconst hc rfl ?_
  refine xr_iastore hc rfl (by first | exact g_at (by first | (simp only [List.length_append, List.length_cons, List.length_nil]; omega) | assumption) | ((repeat refine g_app ?_); assumption) | assumption | rfl) (by first | omega | (unfold dz_w; omega)) (by first | omega | (unfold dz_w; omega)) ?_
  rw [show Int.toNat (0 : Int) = 0 from rfl]
  refine xr_dup hc rfl rfl ?_
  refine xr_iconst hc rfl ?_
  refine xr_iconst hc rfl ?_
  refine xr_iastore hc rfl (by first | exact g_at (by first | (simp only [List.length_append, List.length_cons, List.length_nil]; omega) | assumption) | ((repeat refine g_app ?_); assumption) | assumption | rfl) (by first | omega | (unfold dz_w; omega)) (by first | omega | (unfold dz_w; omega)) ?_
  rw [show Int.toNat (1 : Int) = 1 from rfl]
  refine xr_dup hc rfl rfl ?_
  refine xr_iconst hc rfl ?_
  refine xr_iconst hc rfl ?_
  refine xr_iastore hc rfl (by first | exact g_at (by first | (simp only [List.length_append, List.length_cons, List.length_nil]; omega) | assumption) | ((repeat refine g_app ?_); assumption) | assumption | rfl) (by first | omega | (unfold dz_w; omega)) (by first | omega | (unfold dz_w; omega)) ?_
  rw [show Int.toNat (2 : Int) = 2 from rfl]
  refine xr_dup hc rfl rfl ?_
  refine xr_iconst hc rfl ?_
  refine xr_iconst hc rfl ?_
  refine xr_iastore hc rfl (by first | exact g_at (by first | (simp only [List.length_append, List.length_cons, List.length_nil]; omega) | assumption) | ((repeat refine g_app ?_); assumption) | assumption | rfl) (by first | omega | (unfold dz_w; omega)) (by first | omega | (unfold dz_w; omega)) ?_
  rw [show Int.toNat (3 : Int) = 3 from rfl]
  refine xr_dup hc rfl rfl ?_
  refine xr_iconst hc rfl ?_
  refine xr_iconst hc rfl ?_
  refine xr_iastore hc rfl (by first | exact g_at (by first | (simp only [List.length_append, List.length_cons, List.length_nil]; omega) | assumption) | ((repeat refine g_app ?_); assumption) | assumption | rfl) (by first | omega | (unfold dz_w; omega)) (by first | omega | (unfold dz_w; omega)) ?_
  rw [show Int.toNat (4 : Int) = 4 from rfl]
  refine xr_dup hc rfl rfl ?_
  refine xr_iconst hc rfl ?_
  refine xr_iconst hc rfl ?_
  refine xr_iastore hc rfl (by first | exact g_at (by first | (simp only [List.length_append, List.length_cons, List.length_nil]; omega) | assumption) | ((repeat refine g_app ?_); assumption) | assumption | rfl) (by first | omega | (unfold dz_w; omega)) (by first | omega | (unfold dz_w; omega)) ?_
  rw [show Int.toNat (5 : Int) = 5 from rfl]
  refine xr_putfr hc rfl rfl (by first | exact g_at (by first | (simp only [List.length_append, List.length_cons, List.length_nil]; omega) | assumption) | ((repeat refine g_app ?_); assumption) | assumption | rfl) ?_
  refine xr_aloadn hc rfl rfl ?_
  refine xr_sipush hc rfl ?_
  refine xr_newarrayz (l := 240) (q := 121) hc rfl rfl rfl (by decide) (by decide) (by decide) (by first | (simp only [List.length_append, List.length_cons, List.length_nil]; omega) | assumption) ?_ ?_ (Nat.le_of_ble_eq_true rfl) (Nat.le_of_ble_eq_true rfl) ?_
  · intro j
    repeat (first | rw [dz_up_ne (by omega)])
    exact hz _ _ (by omega)
  · intro j
    repeat (first | rw [dz_up_ne (by omega)])
    exact hZ _ _ (by omega)
  refine xr_putfr hc rfl rfl (by first | exact g_at (by first | (simp only [List.length_append, List.length_cons, List.length_nil]; omega) | assumption) | ((repeat refine g_app ?_); assumption) | assumption | rfl) ?_
  refine xr_aloadn hc rfl rfl ?_
  refine xr_iconst hc rfl ?_
  refine xr_newarrayz (l := 4) (q := 122) hc rfl rfl rfl (by decide) (by decide) (by decide) (by first | (simp only [List.length_append, List.length_cons, List.length_nil]; omega) | assumption) ?_ ?_ (Nat.le_of_ble_eq_true rfl) (Nat.le_of_ble_eq_true rfl) ?_
  · intro j
    repeat (first | rw [dz_up_ne (by omega)])
    exact hz _ _ (by omega)
  · intro j
    repeat (first | rw [dz_up_ne (by omega)])
    exact hZ _ _ (by omega)
  refine xr_dup hc rfl rfl ?_
  refine xr_iconst hc rfl ?_
  refine xr_iconst hc rfl ?_
  refine xr_iastore hc rfl (by first | exact g_at (by first | (simp only [List.length_append, List.length_cons, List.length_nil]; omega) | assumption) | ((repeat refine g_app ?_); assumption) | assumption | rfl) (by first | omega | (unfold dz_w; omega)) (by first | omega | (unfold dz_w; omega)) ?_
  rw [show Int.toNat (0 : Int) = 0 from rfl]
  refine xr_dup hc rfl rfl ?_
  refine xr_iconst hc rfl ?_
  refine xr_iconst hc rfl ?_
  refine xr_iastore hc rfl (by first | exact g_at (by first | (simp only [List.length_append, List.length_cons, List.length_nil]; omega) | assumption) | ((repeat refine g_app ?_); assumption) | assumption | rfl) (by first | omega | (unfold dz_w; omega)) (by first | omega | (unfold dz_w; omega)) ?_
  rw [show Int.toNat (1 : Int) = 1 from rfl]
  refine xr_dup hc rfl rfl ?_
  refine xr_iconst hc rfl ?_
  refine xr_iconst hc rfl ?_
  refine xr_iastore hc rfl (by first | exact g_at (by first | (simp only [List.length_append, List.length_cons, List.length_nil]; omega) | assumption) | ((repeat refine g_app ?_); assumption) | assumption | rfl) (by first | omega | (unfold dz_w; omega)) (by first | omega | (unfold dz_w; omega)) ?_
  rw [show Int.toNat (2 : Int) = 2 from rfl]
  refine xr_dup hc rfl rfl ?_
  refine xr_iconst hc rfl ?_
  refine xr_iconst hc rfl ?_
  refine xr_iastore hc rfl (by first | exact g_at (by first | (simp only [List.length_append, List.length_cons, List.length_nil]; omega) | assumption) | ((repeat refine g_app ?_); assumption) | assumption | rfl) (by first | omega | (unfold dz_w; omega)) (by first | omega | (unfold dz_w; omega)) ?_
  rw [show Int.toNat (3 : Int) = 3 from rfl]
  refine xr_putfr hc rfl rfl (by first | exact g_at (by first | (simp only [List.length_append, List.length_cons, List.length_nil]; omega) | assumption) | ((repeat refine g_app ?_); assumption) | assumption | rfl) ?_
  refine xr_aloadn hc rfl rfl ?_
  refine xr_sipush hc rfl ?_
  refine xr_newarrayz (l := 240) (q := 123) hc rfl rfl rfl (by decide) (by decide) (by decide) (by first | (simp only [List.length_append, List.length_cons, List.length_nil]; omega) | assumption) ?_ ?_ (Nat.le_of_ble_eq_true rfl) (Nat.le_of_ble_eq_true rfl) ?_
  · intro j
    repeat (first | rw [dz_up_ne (by omega)])
    exact hz _ _ (by omega)
  · intro j
    repeat (first | rw [dz_up_ne (by omega)])
    exact hZ _ _ (by omega)
  refine xr_putfr hc rfl rfl (by first | exact g_at (by first | (simp only [List.length_append, List.length_cons, List.length_nil]; omega) | assumption) | ((repeat refine g_app ?_); assumption) | assumption | rfl) ?_
  refine xr_aloadn hc rfl rfl ?_
  refine xr_lconst hc rfl ?_
  refine xr_putfl hc rfl rfl (by first | exact g_at (by first | (simp only [List.length_append, List.length_cons, List.length_nil]; omega) | assumption) | ((repeat refine g_app ?_); assumption) | assumption | rfl) ?_
  refine xr_aloadn hc rfl rfl ?_
  refine xr_bipush hc rfl ?_
  refine xr_newarrayz (l := 6) (q := 124) hc rfl rfl rfl (by decide) (by decide) (by decide) (by first | (simp only [List.length_append, List.length_cons, List.length_nil]; omega) | assumption) ?_ ?_ (Nat.le_of_ble_eq_true rfl) (Nat.le_of_ble_eq_true rfl) ?_
  · intro j
    repeat (first | rw [dz_up_ne (by omega)])
    exact hz _ _ (by omega)
  · intro j
    repeat (first | rw [dz_up_ne (by omega)])
    exact hZ _ _ (by omega)
  refine xr_putfr hc rfl rfl (by first | exact g_at (by first | (simp only [List.length_append, List.length_cons, List.length_nil]; omega) | assumption) | ((repeat refine g_app ?_); assumption) | assumption | rfl) ?_
  refine xr_aloadn hc rfl rfl ?_
  refine xr_bipush hc rfl ?_
  refine xr_newarrayz (l := 30) (q := 125) hc rfl rfl rfl (by decide) (by decide) (by decide) (by first | (simp only [List.length_append, List.length_cons, List.length_nil]; omega) | assumption) ?_ ?_ (Nat.le_of_ble_eq_true rfl) (Nat.le_of_ble_eq_true rfl) ?_
  · intro j
    repeat (first | rw [dz_up_ne (by omega)])
    exact hz _ _ (by omega)
  · intro j
    repeat (first | rw [dz_up_ne (by omega)])
    exact hZ _ _ (by omega)
  refine xr_putfr hc rfl rfl (by first | exact g_at (by first | (simp only [List.length_append, List.length_cons, List.length_nil]; omega) | assumption) | ((repeat refine g_app ?_); assumption) | assumption | rfl) ?_
  refine xr_aloadn hc rfl rfl ?_
  refine xr_bipush hc rfl ?_
  refine xr_newarrayz (l := 6) (q := 126) hc rfl rfl rfl (by decide) (by decide) (by decide) (by first | (simp only [List.length_append, List.length_cons, List.length_nil]; omega) | assumption) ?_ ?_ (Nat.le_of_ble_eq_true rfl) (Nat.le_of_ble_eq_true rfl) ?_
  · intro j
    repeat (first | rw [dz_up_ne (by omega)])
    exact hz _ _ (by omega)
  · intro j
    repeat (first | rw [dz_up_ne (by omega)])
    exact hZ _ _ (by omega)
  refine xr_putfr hc rfl rfl (by first | exact g_at (by first | (simp only [List.length_append, List.length_cons, List.length_nil]; omega) | assumption) | ((repeat refine g_app ?_); assumption) | assumption | rfl) ?_
  refine xr_aloadn hc rfl rfl ?_
  refine xr_bipush hc rfl ?_
  refine xr_newarrayz (l := 6) (q := 127) hc rfl rfl rfl (by decide) (by decide) (by decide) (by first | (simp only [List.length_append, List.length_cons, List.length_nil]; omega) | assumption) ?_ ?_ (Nat.le_of_ble_eq_true rfl) (Nat.le_of_ble_eq_true rfl) ?_
  · intro j
    repeat (first | rw [dz_up_ne (by omega)])
    exact hz _ _ (by omega)
  · intro j
    repeat (first | rw [dz_up_ne (by omega)])
    exact hZ _ _ (by omega)
  refine xr_putfr hc rfl rfl (by first | exact g_at (by first | (simp only [List.length_append, List.length_cons, List.length_nil]; omega) | assumption) | ((repeat refine g_app ?_); assumption) | assumption | rfl) ?_
  refine xr_aloadn hc rfl rfl ?_
  refine xr_iconst hc rfl ?_
  refine xr_newarrayz (l := 3) (q := 128) hc rfl rfl rfl (by decide) (by decide) (by decide) (by first | (simp only [List.length_append, List.length_cons, List.length_nil]; omega) | assumption) ?_ ?_ (Nat.le_of_ble_eq_true rfl) (Nat.le_of_ble_eq_true rfl) ?_
  · intro j
    repeat (first | rw [dz_up_ne (by omega)])
    exact hz _ _ (by omega)
  · intro j
    repeat (first | rw [dz_up_ne (by omega)])
    exact hZ _ _ (by omega)
  refine xr_putfr hc rfl rfl (by first | exact g_at (by first | (simp only [List.length_append, List.length_cons, List.length_nil]; omega) | assumption) | ((repeat refine g_app ?_); assumption) | assumption | rfl) ?_
  refine xr_aloadn hc rfl rfl ?_
  refine xr_iconst hc rfl ?_
  refine xr_newarrayz (l := 4) (q := 129) hc rfl rfl rfl (by decide) (by decide) (by decide) (by first | (simp only [List.length_append, List.length_cons, List.length_nil]; omega) | assumption) ?_ ?_ (Nat.le_of_ble_eq_true rfl) (Nat.le_of_ble_eq_true rfl) ?_
  · intro j
    repeat (first | rw [dz_up_ne (by omega)])
    exact hz _ _ (by omega)
  · intro j
    repeat (first | rw [dz_up_ne (by omega)])
    exact hZ _ _ (by omega)
  refine xr_putfr hc rfl rfl (by first | exact g_at (by first | (simp only [List.length_append, List.length_cons, List.length_nil]; omega) | assumption) | ((repeat refine g_app ?_); assumption) | assumption | rfl) ?_
  refine t161 _ _ _ ?_ (fun q2 k2 u => ?_) rfl (fun r hr => ?_) (fun t ht => ?_) (fun k hk => ?_) (fun k => ?_) (fun k => ?_) (fun q2 k2 u => ?_)
  · exact ⟨by first | ((repeat refine g_app ?_); assumption) | assumption, by ((repeat (first | rw [dz_up_ne (by omega)] | rw [dz_up_k (by omega)])); rw [dz_up_eq]), g_app (g_app (g_app (g_app (g_app (g_app (g_app (g_app (g_app (g_app (g_app (g_app (g_app (g_at (by first | (simp only [List.length_append, List.length_cons, List.length_nil]; omega) | assumption)))))))))))))), by ((repeat (first | rw [dz_up_ne (by omega)] | rw [dz_up_k (by omega)])); rw [dz_up_eq]), g_app (g_app (g_app (g_app (g_app (g_app (g_app (g_app (g_app (g_app (g_app (g_app (g_at (by first | (simp only [List.length_append, List.length_cons, List.length_nil]; omega) | assumption))))))))))))), by ((repeat (first | rw [dz_up_ne (by omega)] | rw [dz_up_k (by omega)])); rw [dz_up_eq]), g_app (g_app (g_app (g_app (g_app (g_app (g_app (g_app (g_app (g_app (g_app (g_at (by first | (simp only [List.length_append, List.length_cons, List.length_nil]; omega) | assumption)))))))))))), by ((repeat (first | rw [dz_up_ne (by omega)] | rw [dz_up_k (by omega)])); rw [dz_up_eq]), g_app (g_app (g_app (g_app (g_app (g_app (g_app (g_app (g_app (g_app (g_at (by first | (simp only [List.length_append, List.length_cons, List.length_nil]; omega) | assumption))))))))))), by ((repeat (first | rw [dz_up_ne (by omega)] | rw [dz_up_k (by omega)])); rw [dz_up_eq]), g_app (g_app (g_app (g_app (g_app (g_app (g_app (g_app (g_app (g_at (by first | (simp only [List.length_append, List.length_cons, List.length_nil]; omega) | assumption)))))))))), by ((repeat (first | rw [dz_up_ne (by omega)] | rw [dz_up_k (by omega)])); rw [dz_up_eq]), g_app (g_app (g_app (g_app (g_app (g_app (g_app (g_app (g_at (by first | (simp only [List.length_append, List.length_cons, List.length_nil]; omega) | assumption))))))))), by ((repeat (first | rw [dz_up_ne (by omega)] | rw [dz_up_k (by omega)])); rw [dz_up_eq]), g_app (g_app (g_app (g_app (g_app (g_app (g_app (g_at (by first | (simp only [List.length_append, List.length_cons, List.length_nil]; omega) | assumption)))))))), by ((repeat (first | rw [dz_up_ne (by omega)] | rw [dz_up_k (by omega)])); rw [dz_up_eq]), g_app (g_app (g_app (g_app (g_app (g_app (g_at (by first | (simp only [List.length_append, List.length_cons, List.length_nil]; omega) | assumption))))))), by ((repeat (first | rw [dz_up_ne (by omega)] | rw [dz_up_k (by omega)])); rw [dz_up_eq]), g_app (g_app (g_app (g_app (g_app (g_at (by first | (simp only [List.length_append, List.length_cons, List.length_nil]; omega) | assumption)))))), by ((repeat (first | rw [dz_up_ne (by omega)] | rw [dz_up_k (by omega)])); rw [dz_up_eq]), g_app (g_app (g_app (g_app (g_at (by first | (simp only [List.length_append, List.length_cons, List.length_nil]; omega) | assumption))))), by ((repeat (first | rw [dz_up_ne (by omega)] | rw [dz_up_k (by omega)])); rw [dz_up_eq]), g_app (g_app (g_app (g_at (by first | (simp only [List.length_append, List.length_cons, List.length_nil]; omega) | assumption)))), by ((repeat (first | rw [dz_up_ne (by omega)] | rw [dz_up_k (by omega)])); rw [dz_up_eq]), g_app (g_app (g_at (by first | (simp only [List.length_append, List.length_cons, List.length_nil]; omega) | assumption))), by ((repeat (first | rw [dz_up_ne (by omega)] | rw [dz_up_k (by omega)])); rw [dz_up_eq]), g_app (g_at (by first | (simp only [List.length_append, List.length_cons, List.length_nil]; omega) | assumption)), by ((repeat (first | rw [dz_up_ne (by omega)] | rw [dz_up_k (by omega)])); rw [dz_up_eq]), g_at (by first | (simp only [List.length_append, List.length_cons, List.length_nil]; omega) | assumption), trivial⟩
  · repeat rw [dz_up_ne u]
  · rcases (show r = 0 ∨ r = 1 ∨ r = 2 ∨ r = 3 ∨ r = 4 ∨ r = 5 by omega) with e | e | e | e | e | e <;> subst e
    · repeat (first | rw [dz_up_ne (by omega)] | rw [dz_up_k (by omega)])
      rw [dz_up_eq]
    · repeat (first | rw [dz_up_ne (by omega)] | rw [dz_up_k (by omega)])
      rw [dz_up_eq]
    · repeat (first | rw [dz_up_ne (by omega)] | rw [dz_up_k (by omega)])
      rw [dz_up_eq]
    · repeat (first | rw [dz_up_ne (by omega)] | rw [dz_up_k (by omega)])
      rw [dz_up_eq]
    · repeat (first | rw [dz_up_ne (by omega)] | rw [dz_up_k (by omega)])
      rw [dz_up_eq]
    · repeat (first | rw [dz_up_ne (by omega)] | rw [dz_up_k (by omega)])
      rw [dz_up_eq]
  · rcases (show t = 0 ∨ t = 1 ∨ t = 2 ∨ t = 3 by omega) with e | e | e | e <;> subst e
    · repeat (first | rw [dz_up_ne (by omega)] | rw [dz_up_k (by omega)])
      rw [dz_up_eq]
    · repeat (first | rw [dz_up_ne (by omega)] | rw [dz_up_k (by omega)])
      rw [dz_up_eq]
    · repeat (first | rw [dz_up_ne (by omega)] | rw [dz_up_k (by omega)])
      rw [dz_up_eq]
    · repeat (first | rw [dz_up_ne (by omega)] | rw [dz_up_k (by omega)])
      rw [dz_up_eq]
  · by_cases e : k = 12
    · subst e
      rw [if_pos rfl, dz_up_eq]
      rfl
    · rw [if_neg e]
      repeat (first | rw [dz_up_ne (by omega)] | rw [dz_up_k (by omega)])
      exact hZ _ _ (by omega)
  · repeat (first | rw [dz_up_ne (by omega)] | rw [dz_up_k (by omega)])
    exact hZ _ _ (by omega)
  · repeat (first | rw [dz_up_ne (by omega)] | rw [dz_up_k (by omega)])
    exact hZ _ _ (by omega)
  · repeat (first | rw [dz_up_ne (by omega)] | rw [dz_up_k (by omega)])
