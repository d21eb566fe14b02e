/-! Machine: a step. Written by l2_22.py. -/
theorem mul99 {a b : Int} (ha : 0 ≤ a ∧ a ≤ 99) (hb : 0 ≤ b ∧ b ≤ 99) : 0 ≤ a * b ∧ a * b ≤ 9801 := by
  refine ⟨Int.mul_nonneg ha.1 hb.1, ?_⟩
  have h1 : a * b ≤ 99 * b := Int.mul_le_mul_of_nonneg_right ha.2 hb.1
  omega
/-- the sum behind word i, with the value v of its other word -/
def su (k sm v : Int) : Int := if k = 1 then (sm + v) % 100 else if k = 4 then sm * v % 100 else sm
set_option maxRecDepth 100000 in
theorem S_act {xo : Nat → List Int} {d : Nat} {Q : dz_Q} {sh : List (Nat ⊕ (Nat × Nat))} {rf : Nat → Nat → Nat} {M : Nat → Nat → Int} {q : Nat} {i : Int} (hm : ma_at sh rf q) (hi : 0 ≤ i ∧ i < 6) (hk : 0 ≤ M (q + 1) i.toNat ∧ M (q + 1) i.toNat ≤ 5) (ho : 0 ≤ M (q + 4) i.toNat ∧ M (q + 4) i.toNat < 6) (hv : 0 ≤ M (q + 3) (M (q + 4) i.toNat).toNat ∧ M (q + 3) (M (q + 4) i.toNat).toNat ≤ 99) (hs : 0 ≤ M q 3 ∧ M q 3 ≤ 99) (hn : 0 ≤ M q 5 ∧ M q 5 ≤ 1000000) (hf : 0 ≤ M (q + 6) i.toNat ∧ M (q + 6) i.toNat ≤ 1000000) (hQ : (∀ M2 : Nat → Nat → Int, (∀ q2 k, q2 ≠ q → q2 ≠ q + 3 → q2 ≠ q + 6 → M2 q2 k = M q2 k) → (∀ k, k ≠ 3 → k ≠ 4 → k ≠ 5 → M2 q k = M q k) → M2 q 3 = su (M (q + 1) i.toNat) (M q 3) (M (q + 3) (M (q + 4) i.toNat).toNat) → M2 q 4 = du (M (q + 1)) (M (q + 4)) (M (q + 5)) (M q 3) i.toNat → M2 q 5 = M q 5 + 1 → (∀ j, M2 (q + 3) j = if M (q + 1) i.toNat = 3 ∧ j = (M (q + 4) i.toNat).toNat then M q 3 else M (q + 3) j) → (∀ j, M2 (q + 6) j = if j = i.toNat then M (q + 6) j + 1 else M (q + 6) j) → Q none (sh, rf, M2))) : dz_E dz_pp xo (d + 2) 19 [dz_r q, dz_i i] (sh, rf, M) Q := by
  refine ⟨Nat.le_of_ble_eq_true rfl, ?_⟩
  have hc := dz_E_m dz_pp xo (d + 1)
  show dz_X (dz_E dz_pp xo (d + 1)) dz_pp xo (dz_pp 19) Q 0 [some (dz_r q), some (dz_i i), none] [] 0 0 (sh, rf, M)
  have hm1 := hm
  obtain ⟨m0, m1, m2, m3, m4, m5, m6, m7, m8, m9, m10, m11, m12⟩ := hm
  have hb := mul99 hs hv
  have ht1 : Int.tmod (M q 3 + M (q + 3) (M (q + 4) i.toNat).toNat) 100 = (M q 3 + M (q + 3) (M (q + 4) i.toNat).toNat) % 100 := Int.tmod_eq_emod_of_nonneg (by omega)
  have ht2 : Int.tmod (M q 3 * M (q + 3) (M (q + 4) i.toNat).toNat) 100 = (M q 3 * M (q + 3) (M (q + 4) i.toNat).toNat) % 100 := Int.tmod_eq_emod_of_nonneg hb.1
  have hmul : dz_w (M q 3 * M (q + 3) (M (q + 4) i.toNat).toNat) = M q 3 * M (q + 3) (M (q + 4) i.toNat).toNat := dz_wid (by omega) (by omega)
  refine xr_aloadn hc rfl rfl ?_
  refine xr_iloadn hc rfl rfl ?_
  refine xr_callv1 hc rfl (by first | assumption | rfl) rfl rfl rfl (Nat.le_of_ble_eq_true rfl) (Nat.zero_le _) (Nat.zero_le _) ?_
  refine S_dueBehind hm1 hi ?_
  refine xk_1 ?_
  refine xr_istore2 hc rfl rfl ?_
  refine xr_aloadn hc rfl rfl ?_
  refine xr_getfr hc rfl rfl (by first | assumption | rfl) (by first | assumption | rfl) ?_
  refine xr_iloadn hc rfl rfl ?_
  first | refine xr_iaload hc rfl (by first | assumption | rfl) (by first | omega | (unfold dz_w; omega) | (simp [dz_up]; omega)) (by first | omega | (unfold dz_w; omega) | (simp [dz_up]; omega)) ?_ | refine xr_ialoado hc rfl (by first | omega | (unfold dz_w; omega) | (simp [dz_up]; omega)) (by first | omega | (unfold dz_w; omega) | (simp [dz_up]; omega)) ?_
  refine xr_iconst hc rfl ?_
  refine xr_icmp_ne hc rfl (t := 42) rfl (fun b13 => ?_) (fun b13 => ?_)
  · refine xr_aloadn hc rfl rfl ?_
    refine xr_getfr hc rfl rfl (by first | assumption | rfl) (by first | assumption | rfl) ?_
    refine xr_iloadn hc rfl rfl ?_
    first | refine xr_iaload hc rfl (by first | assumption | rfl) (by first | omega | (unfold dz_w; omega) | (simp [dz_up]; omega)) (by first | omega | (unfold dz_w; omega) | (simp [dz_up]; omega)) ?_ | refine xr_ialoado hc rfl (by first | omega | (unfold dz_w; omega) | (simp [dz_up]; omega)) (by first | omega | (unfold dz_w; omega) | (simp [dz_up]; omega)) ?_
    refine xr_iconst hc rfl ?_
    refine xr_icmp_ne hc rfl (t := 70) rfl (fun b49 => ?_) (fun b49 => ?_)
    · refine xr_aloadn hc rfl rfl ?_
      refine xr_getfr hc rfl rfl (by first | assumption | rfl) (by first | assumption | rfl) ?_
      refine xr_iloadn hc rfl rfl ?_
      first | refine xr_iaload hc rfl (by first | assumption | rfl) (by first | omega | (unfold dz_w; omega) | (simp [dz_up]; omega)) (by first | omega | (unfold dz_w; omega) | (simp [dz_up]; omega)) ?_ | refine xr_ialoado hc rfl (by first | omega | (unfold dz_w; omega) | (simp [dz_up]; omega)) (by first | omega | (unfold dz_w; omega) | (simp [dz_up]; omega)) ?_
      refine xr_iconst hc rfl ?_
      refine xr_icmp_ne hc rfl (t := 103) rfl (fun b77 => ?_) (fun b77 => ?_)
      · refine xr_aloadn hc rfl rfl ?_
        refine xr_iloadn hc rfl rfl ?_
        refine xr_putfi hc rfl rfl (by first | assumption | rfl) ?_
        refine xr_aloadn hc rfl rfl ?_
        refine xr_getfr hc rfl rfl (by first | assumption | rfl) (by first | assumption | rfl) ?_
        refine xr_iloadn hc rfl rfl ?_
        refine xr_dup2i hc rfl ?_
        first | refine xr_iaload hc rfl (by first | assumption | rfl) (by first | omega | (unfold dz_w; omega) | (simp [dz_up]; omega)) (by first | omega | (unfold dz_w; omega) | (simp [dz_up]; omega)) ?_ | refine xr_ialoado hc rfl (by first | omega | (unfold dz_w; omega) | (simp [dz_up]; omega)) (by first | omega | (unfold dz_w; omega) | (simp [dz_up]; omega)) ?_
        refine xr_iconst hc rfl ?_
        refine xr_iaddz hc rfl (by first | exact dz_wid (by first | omega | (unfold dz_w; omega) | (simp [dz_up]; omega)) (by first | omega | (unfold dz_w; omega) | (simp [dz_up]; omega)) | rfl) ?_
        refine xr_iastore hc rfl (by first | assumption | rfl) (by first | omega | (unfold dz_w; omega) | (simp [dz_up]; omega)) (by first | omega | (unfold dz_w; omega) | (simp [dz_up]; omega)) ?_
        refine xr_aloadn hc rfl rfl ?_
        refine xr_dup hc rfl rfl ?_
        refine xr_getfi hc rfl (Or.inl rfl) (by first | assumption | rfl) ?_
        refine xr_iconst hc rfl ?_
        refine xr_iaddz hc rfl (by first | exact dz_wid (by first | omega | (unfold dz_w; omega) | (simp [dz_up]; omega)) (by first | omega | (unfold dz_w; omega) | (simp [dz_up]; omega)) | rfl) ?_
        refine xr_putfi hc rfl rfl (by first | assumption | rfl) ?_
        refine xr_return hc rfl rfl (Nat.zero_le _) (Nat.zero_le _) ?_
        first
          | (have g1 : M (q + 1) i.toNat = 1 := by omega
             refine hQ _ (fun q2 k z1 z2 z3 => by simp [dz_up, z1, z2, z3]) (fun k z1 z2 z3 => by simp [dz_up, z1, z2, z3]) ?_ (by simp [dz_up]) (by simp [dz_up]) (fun j => ?_) (fun j => ?_)
             · simp [dz_up, su, ht1, ht2, hmul, g1]
             · by_cases z : j = (M (q + 4) i.toNat).toNat <;> simp [dz_up, z, g1]
             · by_cases z : j = i.toNat <;> simp [dz_up, z])
          | (have g1 : M (q + 1) i.toNat = 3 := by omega
             refine hQ _ (fun q2 k z1 z2 z3 => by simp [dz_up, z1, z2, z3]) (fun k z1 z2 z3 => by simp [dz_up, z1, z2, z3]) ?_ (by simp [dz_up]) (by simp [dz_up]) (fun j => ?_) (fun j => ?_)
             · simp [dz_up, su, ht1, ht2, hmul, g1]
             · by_cases z : j = (M (q + 4) i.toNat).toNat <;> simp [dz_up, z, g1]
             · by_cases z : j = i.toNat <;> simp [dz_up, z])
          | (have g1 : M (q + 1) i.toNat = 4 := by omega
             refine hQ _ (fun q2 k z1 z2 z3 => by simp [dz_up, z1, z2, z3]) (fun k z1 z2 z3 => by simp [dz_up, z1, z2, z3]) ?_ (by simp [dz_up]) (by simp [dz_up]) (fun j => ?_) (fun j => ?_)
             · simp [dz_up, su, ht1, ht2, hmul, g1]
             · by_cases z : j = (M (q + 4) i.toNat).toNat <;> simp [dz_up, z, g1]
             · by_cases z : j = i.toNat <;> simp [dz_up, z])
          | (have g1 : ¬ M (q + 1) i.toNat = 1 := by omega
             have g3 : ¬ M (q + 1) i.toNat = 3 := by omega
             have g4 : ¬ M (q + 1) i.toNat = 4 := by omega
             refine hQ _ (fun q2 k z1 z2 z3 => by simp [dz_up, z1, z2, z3]) (fun k z1 z2 z3 => by simp [dz_up, z1, z2, z3]) ?_ (by simp [dz_up]) (by simp [dz_up]) (fun j => ?_) (fun j => ?_)
             · simp [dz_up, su, ht1, ht2, hmul, g1, g3, g4]
             · by_cases z : j = (M (q + 4) i.toNat).toNat <;> simp [dz_up, z, g1, g3, g4]
             · by_cases z : j = i.toNat <;> simp [dz_up, z])
      · refine xr_aloadn hc rfl rfl ?_
        refine xr_aloadn hc rfl rfl ?_
        refine xr_getfi hc rfl (Or.inl rfl) (by first | assumption | rfl) ?_
        refine xr_aloadn hc rfl rfl ?_
        refine xr_getfr hc rfl rfl (by first | assumption | rfl) (by first | assumption | rfl) ?_
        refine xr_aloadn hc rfl rfl ?_
        refine xr_getfr hc rfl rfl (by first | assumption | rfl) (by first | assumption | rfl) ?_
        refine xr_iloadn hc rfl rfl ?_
        first | refine xr_iaload hc rfl (by first | assumption | rfl) (by first | omega | (unfold dz_w; omega) | (simp [dz_up]; omega)) (by first | omega | (unfold dz_w; omega) | (simp [dz_up]; omega)) ?_ | refine xr_ialoado hc rfl (by first | omega | (unfold dz_w; omega) | (simp [dz_up]; omega)) (by first | omega | (unfold dz_w; omega) | (simp [dz_up]; omega)) ?_
        first | refine xr_iaload hc rfl (by first | assumption | rfl) (by first | omega | (unfold dz_w; omega) | (simp [dz_up]; omega)) (by first | omega | (unfold dz_w; omega) | (simp [dz_up]; omega)) ?_ | refine xr_ialoado hc rfl (by first | omega | (unfold dz_w; omega) | (simp [dz_up]; omega)) (by first | omega | (unfold dz_w; omega) | (simp [dz_up]; omega)) ?_
        refine xr_imulz hc rfl (by first | exact dz_wid (by first | omega | (unfold dz_w; omega) | (simp [dz_up]; omega)) (by first | omega | (unfold dz_w; omega) | (simp [dz_up]; omega)) | rfl) ?_
        refine xr_bipush hc rfl ?_
        refine xr_irem hc rfl (by first | omega | (unfold dz_w; omega) | (simp [dz_up]; omega)) ?_
        refine xr_putfi hc rfl rfl (by first | assumption | rfl) ?_
        refine xr_aloadn hc rfl rfl ?_
        refine xr_iloadn hc rfl rfl ?_
        refine xr_putfi hc rfl rfl (by first | assumption | rfl) ?_
        refine xr_aloadn hc rfl rfl ?_
        refine xr_getfr hc rfl rfl (by first | assumption | rfl) (by first | assumption | rfl) ?_
        refine xr_iloadn hc rfl rfl ?_
        refine xr_dup2i hc rfl ?_
        first | refine xr_iaload hc rfl (by first | assumption | rfl) (by first | omega | (unfold dz_w; omega) | (simp [dz_up]; omega)) (by first | omega | (unfold dz_w; omega) | (simp [dz_up]; omega)) ?_ | refine xr_ialoado hc rfl (by first | omega | (unfold dz_w; omega) | (simp [dz_up]; omega)) (by first | omega | (unfold dz_w; omega) | (simp [dz_up]; omega)) ?_
        refine xr_iconst hc rfl ?_
        refine xr_iaddz hc rfl (by first | exact dz_wid (by first | omega | (unfold dz_w; omega) | (simp [dz_up]; omega)) (by first | omega | (unfold dz_w; omega) | (simp [dz_up]; omega)) | rfl) ?_
        refine xr_iastore hc rfl (by first | assumption | rfl) (by first | omega | (unfold dz_w; omega) | (simp [dz_up]; omega)) (by first | omega | (unfold dz_w; omega) | (simp [dz_up]; omega)) ?_
        refine xr_aloadn hc rfl rfl ?_
        refine xr_dup hc rfl rfl ?_
        refine xr_getfi hc rfl (Or.inl rfl) (by first | assumption | rfl) ?_
        refine xr_iconst hc rfl ?_
        refine xr_iaddz hc rfl (by first | exact dz_wid (by first | omega | (unfold dz_w; omega) | (simp [dz_up]; omega)) (by first | omega | (unfold dz_w; omega) | (simp [dz_up]; omega)) | rfl) ?_
        refine xr_putfi hc rfl rfl (by first | assumption | rfl) ?_
        refine xr_return hc rfl rfl (Nat.zero_le _) (Nat.zero_le _) ?_
        first
          | (have g1 : M (q + 1) i.toNat = 1 := by omega
             refine hQ _ (fun q2 k z1 z2 z3 => by simp [dz_up, z1, z2, z3]) (fun k z1 z2 z3 => by simp [dz_up, z1, z2, z3]) ?_ (by simp [dz_up]) (by simp [dz_up]) (fun j => ?_) (fun j => ?_)
             · simp [dz_up, su, ht1, ht2, hmul, g1]
             · by_cases z : j = (M (q + 4) i.toNat).toNat <;> simp [dz_up, z, g1]
             · by_cases z : j = i.toNat <;> simp [dz_up, z])
          | (have g1 : M (q + 1) i.toNat = 3 := by omega
             refine hQ _ (fun q2 k z1 z2 z3 => by simp [dz_up, z1, z2, z3]) (fun k z1 z2 z3 => by simp [dz_up, z1, z2, z3]) ?_ (by simp [dz_up]) (by simp [dz_up]) (fun j => ?_) (fun j => ?_)
             · simp [dz_up, su, ht1, ht2, hmul, g1]
             · by_cases z : j = (M (q + 4) i.toNat).toNat <;> simp [dz_up, z, g1]
             · by_cases z : j = i.toNat <;> simp [dz_up, z])
          | (have g1 : M (q + 1) i.toNat = 4 := by omega
             refine hQ _ (fun q2 k z1 z2 z3 => by simp [dz_up, z1, z2, z3]) (fun k z1 z2 z3 => by simp [dz_up, z1, z2, z3]) ?_ (by simp [dz_up]) (by simp [dz_up]) (fun j => ?_) (fun j => ?_)
             · simp [dz_up, su, ht1, ht2, hmul, g1]
             · by_cases z : j = (M (q + 4) i.toNat).toNat <;> simp [dz_up, z, g1]
             · by_cases z : j = i.toNat <;> simp [dz_up, z])
          | (have g1 : ¬ M (q + 1) i.toNat = 1 := by omega
             have g3 : ¬ M (q + 1) i.toNat = 3 := by omega
             have g4 : ¬ M (q + 1) i.toNat = 4 := by omega
             refine hQ _ (fun q2 k z1 z2 z3 => by simp [dz_up, z1, z2, z3]) (fun k z1 z2 z3 => by simp [dz_up, z1, z2, z3]) ?_ (by simp [dz_up]) (by simp [dz_up]) (fun j => ?_) (fun j => ?_)
             · simp [dz_up, su, ht1, ht2, hmul, g1, g3, g4]
             · by_cases z : j = (M (q + 4) i.toNat).toNat <;> simp [dz_up, z, g1, g3, g4]
             · by_cases z : j = i.toNat <;> simp [dz_up, z])
    · refine xr_aloadn hc rfl rfl ?_
      refine xr_getfr hc rfl rfl (by first | assumption | rfl) (by first | assumption | rfl) ?_
      refine xr_aloadn hc rfl rfl ?_
      refine xr_getfr hc rfl rfl (by first | assumption | rfl) (by first | assumption | rfl) ?_
      refine xr_iloadn hc rfl rfl ?_
      first | refine xr_iaload hc rfl (by first | assumption | rfl) (by first | omega | (unfold dz_w; omega) | (simp [dz_up]; omega)) (by first | omega | (unfold dz_w; omega) | (simp [dz_up]; omega)) ?_ | refine xr_ialoado hc rfl (by first | omega | (unfold dz_w; omega) | (simp [dz_up]; omega)) (by first | omega | (unfold dz_w; omega) | (simp [dz_up]; omega)) ?_
      refine xr_aloadn hc rfl rfl ?_
      refine xr_getfi hc rfl (Or.inl rfl) (by first | assumption | rfl) ?_
      refine xr_iastore hc rfl (by first | assumption | rfl) (by first | omega | (unfold dz_w; omega) | (simp [dz_up]; omega)) (by first | omega | (unfold dz_w; omega) | (simp [dz_up]; omega)) ?_
      refine xr_goto hc rfl (t := 103) rfl ?_
      refine xr_aloadn hc rfl rfl ?_
      refine xr_iloadn hc rfl rfl ?_
      refine xr_putfi hc rfl rfl (by first | assumption | rfl) ?_
      refine xr_aloadn hc rfl rfl ?_
      refine xr_getfr hc rfl rfl (by first | assumption | rfl) (by first | assumption | rfl) ?_
      refine xr_iloadn hc rfl rfl ?_
      refine xr_dup2i hc rfl ?_
      first | refine xr_iaload hc rfl (by first | assumption | rfl) (by first | omega | (unfold dz_w; omega) | (simp [dz_up]; omega)) (by first | omega | (unfold dz_w; omega) | (simp [dz_up]; omega)) ?_ | refine xr_ialoado hc rfl (by first | omega | (unfold dz_w; omega) | (simp [dz_up]; omega)) (by first | omega | (unfold dz_w; omega) | (simp [dz_up]; omega)) ?_
      refine xr_iconst hc rfl ?_
      refine xr_iaddz hc rfl (by first | exact dz_wid (by first | omega | (unfold dz_w; omega) | (simp [dz_up]; omega)) (by first | omega | (unfold dz_w; omega) | (simp [dz_up]; omega)) | rfl) ?_
      refine xr_iastore hc rfl (by first | assumption | rfl) (by first | omega | (unfold dz_w; omega) | (simp [dz_up]; omega)) (by first | omega | (unfold dz_w; omega) | (simp [dz_up]; omega)) ?_
      refine xr_aloadn hc rfl rfl ?_
      refine xr_dup hc rfl rfl ?_
      refine xr_getfi hc rfl (Or.inl rfl) (by first | assumption | rfl) ?_
      refine xr_iconst hc rfl ?_
      refine xr_iaddz hc rfl (by first | exact dz_wid (by first | omega | (unfold dz_w; omega) | (simp [dz_up]; omega)) (by first | omega | (unfold dz_w; omega) | (simp [dz_up]; omega)) | rfl) ?_
      refine xr_putfi hc rfl rfl (by first | assumption | rfl) ?_
      refine xr_return hc rfl rfl (Nat.zero_le _) (Nat.zero_le _) ?_
      first
        | (have g1 : M (q + 1) i.toNat = 1 := by omega
           refine hQ _ (fun q2 k z1 z2 z3 => by simp [dz_up, z1, z2, z3]) (fun k z1 z2 z3 => by simp [dz_up, z1, z2, z3]) ?_ (by simp [dz_up]) (by simp [dz_up]) (fun j => ?_) (fun j => ?_)
           · simp [dz_up, su, ht1, ht2, hmul, g1]
           · by_cases z : j = (M (q + 4) i.toNat).toNat <;> simp [dz_up, z, g1]
           · by_cases z : j = i.toNat <;> simp [dz_up, z])
        | (have g1 : M (q + 1) i.toNat = 3 := by omega
           refine hQ _ (fun q2 k z1 z2 z3 => by simp [dz_up, z1, z2, z3]) (fun k z1 z2 z3 => by simp [dz_up, z1, z2, z3]) ?_ (by simp [dz_up]) (by simp [dz_up]) (fun j => ?_) (fun j => ?_)
           · simp [dz_up, su, ht1, ht2, hmul, g1]
           · by_cases z : j = (M (q + 4) i.toNat).toNat <;> simp [dz_up, z, g1]
           · by_cases z : j = i.toNat <;> simp [dz_up, z])
        | (have g1 : M (q + 1) i.toNat = 4 := by omega
           refine hQ _ (fun q2 k z1 z2 z3 => by simp [dz_up, z1, z2, z3]) (fun k z1 z2 z3 => by simp [dz_up, z1, z2, z3]) ?_ (by simp [dz_up]) (by simp [dz_up]) (fun j => ?_) (fun j => ?_)
           · simp [dz_up, su, ht1, ht2, hmul, g1]
           · by_cases z : j = (M (q + 4) i.toNat).toNat <;> simp [dz_up, z, g1]
           · by_cases z : j = i.toNat <;> simp [dz_up, z])
        | (have g1 : ¬ M (q + 1) i.toNat = 1 := by omega
           have g3 : ¬ M (q + 1) i.toNat = 3 := by omega
           have g4 : ¬ M (q + 1) i.toNat = 4 := by omega
           refine hQ _ (fun q2 k z1 z2 z3 => by simp [dz_up, z1, z2, z3]) (fun k z1 z2 z3 => by simp [dz_up, z1, z2, z3]) ?_ (by simp [dz_up]) (by simp [dz_up]) (fun j => ?_) (fun j => ?_)
           · simp [dz_up, su, ht1, ht2, hmul, g1, g3, g4]
           · by_cases z : j = (M (q + 4) i.toNat).toNat <;> simp [dz_up, z, g1, g3, g4]
           · by_cases z : j = i.toNat <;> simp [dz_up, z])
  · refine xr_aloadn hc rfl rfl ?_
    refine xr_aloadn hc rfl rfl ?_
    refine xr_getfi hc rfl (Or.inl rfl) (by first | assumption | rfl) ?_
    refine xr_aloadn hc rfl rfl ?_
    refine xr_getfr hc rfl rfl (by first | assumption | rfl) (by first | assumption | rfl) ?_
    refine xr_aloadn hc rfl rfl ?_
    refine xr_getfr hc rfl rfl (by first | assumption | rfl) (by first | assumption | rfl) ?_
    refine xr_iloadn hc rfl rfl ?_
    first | refine xr_iaload hc rfl (by first | assumption | rfl) (by first | omega | (unfold dz_w; omega) | (simp [dz_up]; omega)) (by first | omega | (unfold dz_w; omega) | (simp [dz_up]; omega)) ?_ | refine xr_ialoado hc rfl (by first | omega | (unfold dz_w; omega) | (simp [dz_up]; omega)) (by first | omega | (unfold dz_w; omega) | (simp [dz_up]; omega)) ?_
    first | refine xr_iaload hc rfl (by first | assumption | rfl) (by first | omega | (unfold dz_w; omega) | (simp [dz_up]; omega)) (by first | omega | (unfold dz_w; omega) | (simp [dz_up]; omega)) ?_ | refine xr_ialoado hc rfl (by first | omega | (unfold dz_w; omega) | (simp [dz_up]; omega)) (by first | omega | (unfold dz_w; omega) | (simp [dz_up]; omega)) ?_
    refine xr_iaddz hc rfl (by first | exact dz_wid (by first | omega | (unfold dz_w; omega) | (simp [dz_up]; omega)) (by first | omega | (unfold dz_w; omega) | (simp [dz_up]; omega)) | rfl) ?_
    refine xr_bipush hc rfl ?_
    refine xr_irem hc rfl (by first | omega | (unfold dz_w; omega) | (simp [dz_up]; omega)) ?_
    refine xr_putfi hc rfl rfl (by first | assumption | rfl) ?_
    refine xr_goto hc rfl (t := 103) rfl ?_
    refine xr_aloadn hc rfl rfl ?_
    refine xr_iloadn hc rfl rfl ?_
    refine xr_putfi hc rfl rfl (by first | assumption | rfl) ?_
    refine xr_aloadn hc rfl rfl ?_
    refine xr_getfr hc rfl rfl (by first | assumption | rfl) (by first | assumption | rfl) ?_
    refine xr_iloadn hc rfl rfl ?_
    refine xr_dup2i hc rfl ?_
    first | refine xr_iaload hc rfl (by first | assumption | rfl) (by first | omega | (unfold dz_w; omega) | (simp [dz_up]; omega)) (by first | omega | (unfold dz_w; omega) | (simp [dz_up]; omega)) ?_ | refine xr_ialoado hc rfl (by first | omega | (unfold dz_w; omega) | (simp [dz_up]; omega)) (by first | omega | (unfold dz_w; omega) | (simp [dz_up]; omega)) ?_
    refine xr_iconst hc rfl ?_
    refine xr_iaddz hc rfl (by first | exact dz_wid (by first | omega | (unfold dz_w; omega) | (simp [dz_up]; omega)) (by first | omega | (unfold dz_w; omega) | (simp [dz_up]; omega)) | rfl) ?_
    refine xr_iastore hc rfl (by first | assumption | rfl) (by first | omega | (unfold dz_w; omega) | (simp [dz_up]; omega)) (by first | omega | (unfold dz_w; omega) | (simp [dz_up]; omega)) ?_
    refine xr_aloadn hc rfl rfl ?_
    refine xr_dup hc rfl rfl ?_
    refine xr_getfi hc rfl (Or.inl rfl) (by first | assumption | rfl) ?_
    refine xr_iconst hc rfl ?_
    refine xr_iaddz hc rfl (by first | exact dz_wid (by first | omega | (unfold dz_w; omega) | (simp [dz_up]; omega)) (by first | omega | (unfold dz_w; omega) | (simp [dz_up]; omega)) | rfl) ?_
    refine xr_putfi hc rfl rfl (by first | assumption | rfl) ?_
    refine xr_return hc rfl rfl (Nat.zero_le _) (Nat.zero_le _) ?_
    first
      | (have g1 : M (q + 1) i.toNat = 1 := by omega
         refine hQ _ (fun q2 k z1 z2 z3 => by simp [dz_up, z1, z2, z3]) (fun k z1 z2 z3 => by simp [dz_up, z1, z2, z3]) ?_ (by simp [dz_up]) (by simp [dz_up]) (fun j => ?_) (fun j => ?_)
         · simp [dz_up, su, ht1, ht2, hmul, g1]
         · by_cases z : j = (M (q + 4) i.toNat).toNat <;> simp [dz_up, z, g1]
         · by_cases z : j = i.toNat <;> simp [dz_up, z])
      | (have g1 : M (q + 1) i.toNat = 3 := by omega
         refine hQ _ (fun q2 k z1 z2 z3 => by simp [dz_up, z1, z2, z3]) (fun k z1 z2 z3 => by simp [dz_up, z1, z2, z3]) ?_ (by simp [dz_up]) (by simp [dz_up]) (fun j => ?_) (fun j => ?_)
         · simp [dz_up, su, ht1, ht2, hmul, g1]
         · by_cases z : j = (M (q + 4) i.toNat).toNat <;> simp [dz_up, z, g1]
         · by_cases z : j = i.toNat <;> simp [dz_up, z])
      | (have g1 : M (q + 1) i.toNat = 4 := by omega
         refine hQ _ (fun q2 k z1 z2 z3 => by simp [dz_up, z1, z2, z3]) (fun k z1 z2 z3 => by simp [dz_up, z1, z2, z3]) ?_ (by simp [dz_up]) (by simp [dz_up]) (fun j => ?_) (fun j => ?_)
         · simp [dz_up, su, ht1, ht2, hmul, g1]
         · by_cases z : j = (M (q + 4) i.toNat).toNat <;> simp [dz_up, z, g1]
         · by_cases z : j = i.toNat <;> simp [dz_up, z])
      | (have g1 : ¬ M (q + 1) i.toNat = 1 := by omega
         have g3 : ¬ M (q + 1) i.toNat = 3 := by omega
         have g4 : ¬ M (q + 1) i.toNat = 4 := by omega
         refine hQ _ (fun q2 k z1 z2 z3 => by simp [dz_up, z1, z2, z3]) (fun k z1 z2 z3 => by simp [dz_up, z1, z2, z3]) ?_ (by simp [dz_up]) (by simp [dz_up]) (fun j => ?_) (fun j => ?_)
         · simp [dz_up, su, ht1, ht2, hmul, g1, g3, g4]
         · by_cases z : j = (M (q + 4) i.toNat).toNat <;> simp [dz_up, z, g1, g3, g4]
         · by_cases z : j = i.toNat <;> simp [dz_up, z])
set_option maxRecDepth 100000 in
theorem S_readWord {xo : Nat → List Int} {d : Nat} {Q : dz_Q} {sh : List (Nat ⊕ (Nat × Nat))} {rf : Nat → Nat → Nat} {M : Nat → Nat → Int} {q : Nat} {i : Int} (hm : ma_at sh rf q) (hi : 0 ≤ i ∧ i < 6) (hp : 0 ≤ M (q + 2) i.toNat ∧ M (q + 2) i.toNat ≤ 9) (hb : 0 ≤ M q 2 ∧ M q 2 ≤ 999000) (hpl : 6 ≤ M q 1 ∧ M q 1 ≤ 9) (hQ : ∀ M2 : Nat → Nat → Int, (∀ q2 k, ¬ (q2 = q ∧ k = 2) → M2 q2 k = M q2 k) → M2 q 2 = M q 2 + wa (M (q + 2) i.toNat) (M q 2) (M q 1) + 1 → Q none (sh, rf, M2)) : dz_E dz_pp xo (d + 3) 20 [dz_r q, dz_i i] (sh, rf, M) Q := by
  refine ⟨Nat.le_of_ble_eq_true rfl, ?_⟩
  have hc := dz_E_m dz_pp xo (d + 2)
  show dz_X (dz_E dz_pp xo (d + 2)) dz_pp xo (dz_pp 20) Q 0 [some (dz_r q), some (dz_i i)] [] 0 0 (sh, rf, M)
  obtain ⟨m0, m1, m2, m3, m4, m5, m6, m7, m8, m9, m10, m11, m12⟩ := hm
  have e1 := Int.emod_nonneg (M (q + 2) i.toNat - M q 2) (show M q 1 ≠ 0 by omega)
  have e2 := Int.emod_lt_of_pos (M (q + 2) i.toNat - M q 2) (show 0 < M q 1 by omega)
  refine xr_aloadn hc rfl rfl ?_
  refine xr_dup hc rfl rfl ?_
  refine xr_getfi hc rfl (Or.inl rfl) (by first | assumption | rfl) ?_
  refine xr_aloadn hc rfl rfl ?_
  refine xr_getfr hc rfl rfl (by first | assumption | rfl) (by first | assumption | rfl) ?_
  refine xr_iloadn hc rfl rfl ?_
  first | refine xr_iaload hc rfl (by first | assumption | rfl) (by first | omega | (unfold dz_w; omega)) (by first | omega | (unfold dz_w; omega)) ?_ | refine xr_ialoado hc rfl (by first | omega | (unfold dz_w; omega)) (by first | omega | (unfold dz_w; omega)) ?_
  refine xr_aloadn hc rfl rfl ?_
  refine xr_getfi hc rfl (Or.inl rfl) (by first | assumption | rfl) ?_
  refine xr_aloadn hc rfl rfl ?_
  refine xr_getfi hc rfl (Or.inl rfl) (by first | assumption | rfl) ?_
  refine xr_calls3 hc rfl (by decide) rfl rfl rfl (Nat.le_of_ble_eq_true rfl) (Nat.zero_le _) (Nat.zero_le _) ?_
  refine S_waitFor (by omega) (by omega) (by omega) ?_
  unfold wa at hQ ⊢
  refine xk_1 ?_
  refine xr_iconst hc rfl ?_
  refine xr_iaddz hc rfl (by first | exact dz_wid (by first | omega | (unfold dz_w; omega)) (by first | omega | (unfold dz_w; omega)) | rfl) ?_
  refine xr_iaddz hc rfl (by first | exact dz_wid (by first | omega | (unfold dz_w; omega)) (by first | omega | (unfold dz_w; omega)) | rfl) ?_
  refine xr_putfi hc rfl rfl (by first | assumption | rfl) ?_
  refine xr_return hc rfl rfl (Nat.zero_le _) (Nat.zero_le _) ?_
  exact hQ _ (fun q2 k z => by unfold dz_up; rw [if_neg z]) (by rw [dz_up_eq]; omega)
