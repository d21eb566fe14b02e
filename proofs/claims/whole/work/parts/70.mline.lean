/-! The best placing: the other one. Written by l2_70.py. -/
theorem has_b : ∀ x : Fin 512, ∀ k : Fin 9, (dz_and (dz_shr (x.val : Int) (k.val : Int)) 1 = 1) ↔ x.val.testBit k.val = true := by decide +kernel
theorem or_b : ∀ x : Fin 512, ∀ k : Fin 9, dz_or (x.val : Int) (dz_shl 1 (k.val : Int)) = ((x.val ||| 2 ^ k.val : Nat) : Int) := by decide +kernel
theorem or_lt : ∀ x : Fin 512, ∀ k : Fin 9, x.val ||| 2 ^ k.val < 512 := by decide +kernel
theorem key_st {f g : Nat → Int} {a : Nat} (h : key f a + 1 ≤ key g a) : ∀ m, dig f (a + m) → dig g (a + m) → key f (a + m) + 1 ≤ key g (a + m)
  | 0, _, _ => h
  | m + 1, d1, d2 => by
    have ih := key_st h m (fun k hk => d1 k (by omega)) (fun k hk => d2 k (by omega))
    have e1 := d1 (a + m) (by omega)
    have e2 := d2 (a + m) (by omega)
    show key f (a + m) * 10 + f (a + m) + 1 ≤ key g (a + m) * 10 + g (a + m)
    omega
theorem key_A {f g : Nat → Int} {a : Nat} {b : Int} (h : key g a ≤ key f a) : ∀ m, (∀ k, a ≤ k → k < a + m → f k = b ∧ g k ≤ b) → key g (a + m) ≤ key f (a + m)
  | 0, _ => h
  | m + 1, d => by
    have ih := key_A h m (fun k hk hk2 => d k hk (by omega))
    have e1 := d (a + m) (by omega) (by omega)
    show key g (a + m) * 10 + g (a + m) ≤ key f (a + m) * 10 + f (a + m)
    omega
theorem key_B {f g : Nat → Int} {a : Nat} (h : key f a ≤ key g a) : ∀ m, (∀ k, a ≤ k → k < a + m → f k = 0 ∧ 0 ≤ g k) → key f (a + m) ≤ key g (a + m)
  | 0, _ => h
  | m + 1, d => by
    have ih := key_B h m (fun k hk hk2 => d k hk (by omega))
    have e1 := d (a + m) (by omega) (by omega)
    show key f (a + m) * 10 + f (a + m) ≤ key g (a + m) * 10 + g (a + m)
    omega
theorem ext_0 {W : Nat} {s f : Nat → Int} (hW : 0 < W) (h5 : s 5 ≠ -9) : ext W (spf0 s) f ↔ f 0 = s 5 := by
  refine ⟨fun h => h 0 hW h5, fun h k hk h9 => ?_⟩
  by_cases e : k = 0
  · rw [e]
    exact h
  · exact absurd (if_neg e) h9
theorem pinj_s {f : Nat → Int} {i : Nat} (h0 : ∀ k, k < i + 1 → f k ≠ -9) : pinj (i + 1) f ↔ (pinj i f ∧ ∀ k, k < i → f k ≠ f i) := by
  refine ⟨fun h => ⟨fun j k hj hk h9 e => h j k (by omega) (by omega) h9 e, fun k hk e => ?_⟩, fun h j k hj hk h9 e => ?_⟩
  · have z := h k i (by omega) (by omega) (h0 k (by omega)) e
    omega
  · by_cases ej : j = i
    · by_cases ek : k = i
      · omega
      · rw [ej] at e
        exact absurd e.symm (h.2 k (by omega))
    · by_cases ek : k = i
      · rw [ek] at e
        exact absurd e (h.2 j (by omega))
      · exact h.1 j k (by omega) (by omega) h9 e
set_option maxRecDepth 100000 in
theorem D_has {xo : Nat → List Int} {d : Nat} {Q : dz_Q} {sh : List (Nat ⊕ (Nat × Nat))} {rf : Nat → Nat → Nat} {M : Nat → Nat → Int} {x k : Nat} (hx : x < 512) (hk : k < 9) (h1 : x.testBit k = true → Q (some (dz_i 1)) (sh, rf, M)) (h2 : ¬ x.testBit k = true → Q (some (dz_i 0)) (sh, rf, M)) : dz_E dz_pp xo (d + 1) 120 [dz_i (x : Int), dz_i (k : Int)] (sh, rf, M) Q := by
  refine ⟨Nat.le_of_ble_eq_true rfl, ?_⟩
  have hc := dz_E_m dz_pp xo (d + 0)
  show dz_X (dz_E dz_pp xo (d + 0)) dz_pp xo (dz_pp 120) Q 0 [some (dz_i (x : Int)), some (dz_i (k : Int))] [] 0 0 (sh, rf, M)
  have hb := has_b ⟨x, hx⟩ ⟨k, hk⟩
  dsimp only at hb
  refine xr_iloadn hc rfl rfl ?_
  refine xr_iloadn hc rfl rfl ?_
  refine xr_ishr hc rfl ?_
  refine xr_iconst hc rfl ?_
  refine xr_iand hc rfl ?_
  refine xr_iconst hc rfl ?_
  refine xr_icmp_ne hc rfl (t := 13) rfl (fun b6 => ?_) (fun b6 => ?_)
  · refine xr_iconst hc rfl ?_
    refine xr_zreturn hc rfl rfl (Nat.zero_le _) (Nat.zero_le _) (by first | exact Or.inl rfl | exact Or.inr rfl | assumption) ?_
    first
      | exact h1 (hb.mp (by assumption))
      | exact h2 (fun z => absurd (hb.mpr z) (by assumption))
  · refine xr_iconst hc rfl ?_
    refine xr_goto hc rfl (t := 14) rfl ?_
    refine xr_zreturn hc rfl rfl (Nat.zero_le _) (Nat.zero_le _) (by first | exact Or.inl rfl | exact Or.inr rfl | assumption) ?_
    first
      | exact h1 (hb.mp (by assumption))
      | exact h2 (fun z => absurd (hb.mpr z) (by assumption))
set_option maxRecDepth 100000 in
theorem D_areUnlike {xo : Nat → List Int} {d : Nat} {Q : dz_Q} {sh : List (Nat ⊕ (Nat × Nat))} {rf : Nat → Nat → Nat} {M : Nat → Nat → Int} {w pl : Int} (hl : ml sh rf) (hw2 : M 115 2 = w) (hw : 0 ≤ w ∧ w ≤ 6) (hpl : pl ≤ 9) (hd : (∀ k, k < w.toNat → 0 ≤ M 126 k ∧ M 126 k < pl)) (h1 : pinj w.toNat (M 126) → Q (some (dz_i 1)) (sh, rf, M)) (h2 : ¬ pinj w.toNat (M 126) → Q (some (dz_i 0)) (sh, rf, M)) : dz_E dz_pp xo (d + 2) 181 [dz_r 115] (sh, rf, M) Q := by
  refine ⟨Nat.le_of_ble_eq_true rfl, ?_⟩
  have hc := dz_E_m dz_pp xo (d + 1)
  show dz_X (dz_E dz_pp xo (d + 1)) dz_pp xo (dz_pp 181) Q 0 [some (dz_r 115), none, none, none] [] 0 0 (sh, rf, M)
  obtain ⟨c0, c1, c2, c3, c4, c5, c6, c7, c8, c9, c10, c11, c12, c13, c14, c15, c16, c17, c18, c19, c20, c21, c22, c23, c24, c25, c26, c27, c28, c29⟩ := id hl
  have lp : ∀ (m_ i bm : Nat) (a : Int), (i : Int) + m_ = w → bm < 512 → (∀ q, q < 9 → (bm.testBit q = true ↔ ∃ k, k < i ∧ M 126 k = (q : Int))) → ((a = 1 ∧ pinj i (M 126)) ∨ (a = 0 ∧ ¬ pinj i (M 126))) → dz_X (dz_E dz_pp xo (d + 1)) dz_pp xo (dz_pp 181) Q 6 [some (dz_r 115), some (dz_i (bm : Int)), some (dz_i a), some (dz_i (i : Int))] [] 0 0 (sh, rf, M) := by
    intro m_
    induction m_ with
    | zero =>
      intro i bm a hi hbm hbb ha
      refine xr_iloadn hc rfl rfl ?_
      refine xr_aloadn hc rfl rfl ?_
      refine xr_getfi hc rfl (Or.inl rfl) (by first | assumption | rfl) ?_
      rw [hw2]
      refine xr_icmp_ge hc rfl (t := 54) rfl (fun b11 => ?_) (fun b11 => ?_)
      · refine xr_iloadn hc rfl rfl ?_
        refine xr_zreturn hc rfl rfl (Nat.zero_le _) (Nat.zero_le _) (by rcases ha with z | z <;> omega) ?_
        have ei : i = w.toNat := by omega
        subst ei
        rcases ha with ⟨rfl, z⟩ | ⟨rfl, z⟩
        · exact h1 z
        · exact h2 z
      · omega
    | succ m_ ih =>
      intro i bm a hi hbm hbb ha
      obtain ⟨v, hv⟩ : ∃ v : Nat, M 126 i = (v : Int) := ⟨(M 126 i).toNat, by have z := hd i (by omega); omega⟩
      have hv9 : v < 9 := by have z := hd i (by omega); omega
      have hor := or_b ⟨bm, hbm⟩ ⟨v, hv9⟩
      have hlt := or_lt ⟨bm, hbm⟩ ⟨v, hv9⟩
      dsimp only at hor hlt
      have hps := pinj_s (f := M 126) (i := i) (fun k hk => by have z := hd k (by omega); omega)
      have hbits : ∀ q, q < 9 → ((bm ||| 2 ^ v).testBit q = true ↔ ∃ k, k < i + 1 ∧ M 126 k = (q : Int)) := fun q hq => by
        rw [Nat.testBit_or, Nat.testBit_two_pow, Bool.or_eq_true, decide_eq_true_iff, hbb q hq]
        refine ⟨fun z => ?_, fun z => ?_⟩
        · rcases z with ⟨k, z1, z2⟩ | z
          · exact ⟨k, by omega, z2⟩
          · exact ⟨i, by omega, by rw [hv, z]⟩
        · obtain ⟨k, z1, z2⟩ := z
          by_cases e : k = i
          · rw [e, hv] at z2
            exact Or.inr (by omega)
          · exact Or.inl ⟨k, by omega, z2⟩
      rcases ha with ⟨rfl, hin⟩ | ⟨rfl, hin⟩
      · refine xr_iloadn hc rfl rfl ?_
        refine xr_aloadn hc rfl rfl ?_
        refine xr_getfi hc rfl (Or.inl rfl) (by first | assumption | rfl) ?_
        rw [hw2]
        refine xr_icmp_ge hc rfl (t := 54) rfl (fun b11 => ?_) (fun b11 => ?_)
        · omega
        · refine xr_iloadn hc rfl rfl ?_
          refine xr_iff hc rfl (by simp [dz_cmp]) ?_
          refine xr_iloadn hc rfl rfl ?_
          refine xr_aloadn hc rfl rfl ?_
          refine xr_getfr hc rfl rfl (by first | assumption | rfl) (by first | assumption | rfl) ?_
          refine xr_iloadn hc rfl rfl ?_
          first | refine xr_iaload hc rfl (by first | assumption | rfl) (by first | omega | (unfold dz_w; omega)) (by first | omega | (unfold dz_w; omega)) ?_ | refine xr_ialoado hc rfl (by first | omega | (unfold dz_w; omega)) (by first | omega | (unfold dz_w; omega)) ?_
          rw [Int.toNat_natCast, hv]
          refine xr_calls2 hc rfl (by decide) rfl rfl rfl (Nat.le_of_ble_eq_true rfl) (Nat.zero_le _) (Nat.zero_le _) ?_
          refine D_has hbm hv9 (fun y => ?_) (fun y => ?_)
          · refine xk_1 ?_
            refine xr_ift hc rfl (t := 35) rfl (by simp [dz_cmp]) ?_
            refine xr_iconst hc rfl ?_
            refine xr_istore2 hc rfl rfl ?_
            refine xr_iloadn hc rfl rfl ?_
            refine xr_iconst hc rfl ?_
            refine xr_aloadn hc rfl rfl ?_
            refine xr_getfr hc rfl rfl (by first | assumption | rfl) (by first | assumption | rfl) ?_
            refine xr_iloadn hc rfl rfl ?_
            first | refine xr_iaload hc rfl (by first | assumption | rfl) (by first | omega | (unfold dz_w; omega)) (by first | omega | (unfold dz_w; omega)) ?_ | refine xr_ialoado hc rfl (by first | omega | (unfold dz_w; omega)) (by first | omega | (unfold dz_w; omega)) ?_
            rw [Int.toNat_natCast, hv]
            refine xr_ishl hc rfl ?_
            refine xr_ior hc rfl ?_
            rw [hor]
            refine xr_istore1 hc rfl rfl ?_
            refine xr_iincz3 hc rfl rfl (by first | exact dz_wid (by first | omega | (unfold dz_w; omega)) (by first | omega | (unfold dz_w; omega)) | rfl) ?_
            refine xr_goto hc rfl (t := 6) rfl ?_
            first
              | (exact ih (i + 1) (bm ||| 2 ^ v) 0 (by omega) hlt hbits (Or.inr ⟨rfl, fun z => by obtain ⟨k, z1, z2⟩ := (hbb v hv9).mp y; exact (hps.mp z).2 k z1 (by rw [z2, hv])⟩))
              | (exact ih (i + 1) (bm ||| 2 ^ v) 1 (by omega) hlt hbits (Or.inl ⟨rfl, hps.mpr ⟨hin, fun k hk e => y ((hbb v hv9).mpr ⟨k, hk, by rw [e, hv]⟩)⟩⟩))
          · refine xk_1 ?_
            refine xr_iff hc rfl (by simp [dz_cmp]) ?_
            refine xr_iconst hc rfl ?_
            refine xr_goto hc rfl (t := 36) rfl ?_
            refine xr_istore2 hc rfl rfl ?_
            refine xr_iloadn hc rfl rfl ?_
            refine xr_iconst hc rfl ?_
            refine xr_aloadn hc rfl rfl ?_
            refine xr_getfr hc rfl rfl (by first | assumption | rfl) (by first | assumption | rfl) ?_
            refine xr_iloadn hc rfl rfl ?_
            first | refine xr_iaload hc rfl (by first | assumption | rfl) (by first | omega | (unfold dz_w; omega)) (by first | omega | (unfold dz_w; omega)) ?_ | refine xr_ialoado hc rfl (by first | omega | (unfold dz_w; omega)) (by first | omega | (unfold dz_w; omega)) ?_
            rw [Int.toNat_natCast, hv]
            refine xr_ishl hc rfl ?_
            refine xr_ior hc rfl ?_
            rw [hor]
            refine xr_istore1 hc rfl rfl ?_
            refine xr_iincz3 hc rfl rfl (by first | exact dz_wid (by first | omega | (unfold dz_w; omega)) (by first | omega | (unfold dz_w; omega)) | rfl) ?_
            refine xr_goto hc rfl (t := 6) rfl ?_
            first
              | (exact ih (i + 1) (bm ||| 2 ^ v) 0 (by omega) hlt hbits (Or.inr ⟨rfl, fun z => by obtain ⟨k, z1, z2⟩ := (hbb v hv9).mp y; exact (hps.mp z).2 k z1 (by rw [z2, hv])⟩))
              | (exact ih (i + 1) (bm ||| 2 ^ v) 1 (by omega) hlt hbits (Or.inl ⟨rfl, hps.mpr ⟨hin, fun k hk e => y ((hbb v hv9).mpr ⟨k, hk, by rw [e, hv]⟩)⟩⟩))
      · refine xr_iloadn hc rfl rfl ?_
        refine xr_aloadn hc rfl rfl ?_
        refine xr_getfi hc rfl (Or.inl rfl) (by first | assumption | rfl) ?_
        rw [hw2]
        refine xr_icmp_ge hc rfl (t := 54) rfl (fun b11 => ?_) (fun b11 => ?_)
        · omega
        · refine xr_iloadn hc rfl rfl ?_
          refine xr_ift hc rfl (t := 35) rfl (by simp [dz_cmp]) ?_
          refine xr_iconst hc rfl ?_
          refine xr_istore2 hc rfl rfl ?_
          refine xr_iloadn hc rfl rfl ?_
          refine xr_iconst hc rfl ?_
          refine xr_aloadn hc rfl rfl ?_
          refine xr_getfr hc rfl rfl (by first | assumption | rfl) (by first | assumption | rfl) ?_
          refine xr_iloadn hc rfl rfl ?_
          first | refine xr_iaload hc rfl (by first | assumption | rfl) (by first | omega | (unfold dz_w; omega)) (by first | omega | (unfold dz_w; omega)) ?_ | refine xr_ialoado hc rfl (by first | omega | (unfold dz_w; omega)) (by first | omega | (unfold dz_w; omega)) ?_
          rw [Int.toNat_natCast, hv]
          refine xr_ishl hc rfl ?_
          refine xr_ior hc rfl ?_
          rw [hor]
          refine xr_istore1 hc rfl rfl ?_
          refine xr_iincz3 hc rfl rfl (by first | exact dz_wid (by first | omega | (unfold dz_w; omega)) (by first | omega | (unfold dz_w; omega)) | rfl) ?_
          refine xr_goto hc rfl (t := 6) rfl ?_
          exact ih (i + 1) (bm ||| 2 ^ v) 0 (by omega) hlt hbits (Or.inr ⟨rfl, fun z => hin (hps.mp z).1⟩)
  refine xr_iconst hc rfl ?_
  refine xr_istore1 hc rfl rfl ?_
  refine xr_iconst hc rfl ?_
  refine xr_istore2 hc rfl rfl ?_
  refine xr_iconst hc rfl ?_
  refine xr_istore3 hc rfl rfl ?_
  exact lp w.toNat 0 0 1 (by omega) (by omega) (fun q hq => by rw [Nat.zero_testBit]; exact ⟨fun z => by simp at z, fun ⟨k, z1, z2⟩ => by omega⟩) (Or.inl ⟨rfl, fun j k hj => by omega⟩)
set_option maxRecDepth 100000 in
theorem D_nextLine {xo : Nat → List Int} {d : Nat} {Q : dz_Q} {sh : List (Nat ⊕ (Nat × Nat))} {rf : Nat → Nat → Nat} {M : Nat → Nat → Int} {w pl : Int} (hl : ml sh rf) (hw2 : M 115 2 = w) (hpl1 : M 115 1 = pl) (hw : 2 ≤ w ∧ w ≤ 6) (hpl : 6 ≤ pl ∧ pl ≤ 9) (hd : (∀ k, k < w.toNat → 0 ≤ M 126 k ∧ M 126 k < pl)) (h1q : ∀ M2 : Nat → Nat → Int, (∀ q2 k2, q2 ≠ 126 → M2 q2 k2 = M q2 k2) → (∀ k, k < w.toNat → 0 ≤ M2 126 k ∧ M2 126 k < pl) → M2 126 0 = M 126 0 → key (M 126) w.toNat < key (M2 126) w.toNat → (∀ g, (∀ k, k < w.toNat → 0 ≤ g k ∧ g k < pl) → g 0 = M 126 0 → key g w.toNat ≤ key (M 126) w.toNat ∨ key (M2 126) w.toNat ≤ key g w.toNat) → Q (some (dz_i 1)) (sh, rf, M2)) (h2 : ∀ M2 : Nat → Nat → Int, (∀ q2 k2, q2 ≠ 126 → M2 q2 k2 = M q2 k2) → (∀ g, (∀ k, k < w.toNat → 0 ≤ g k ∧ g k < pl) → g 0 = M 126 0 → key g w.toNat ≤ key (M 126) w.toNat) → Q (some (dz_i 0)) (sh, rf, M2)) : dz_E dz_pp xo (d + 1) 182 [dz_r 115] (sh, rf, M) Q := by
  refine ⟨Nat.le_of_ble_eq_true rfl, ?_⟩
  have hc := dz_E_m dz_pp xo (d + 0)
  show dz_X (dz_E dz_pp xo (d + 0)) dz_pp xo (dz_pp 182) Q 0 [some (dz_r 115), none] [] 0 0 (sh, rf, M)
  obtain ⟨c0, c1, c2, c3, c4, c5, c6, c7, c8, c9, c10, c11, c12, c13, c14, c15, c16, c17, c18, c19, c20, c21, c22, c23, c24, c25, c26, c27, c28, c29⟩ := id hl
  have dg : ∀ g, (∀ k, k < w.toNat → 0 ≤ g k ∧ g k < pl) → dig g w.toNat := fun g hg k hk => by have z := hg k hk; omega
  have lp : ∀ (i : Nat) (N : Nat → Nat → Int), (i : Int) < w → (∀ q2 k2, q2 ≠ 126 → N q2 k2 = M q2 k2) → (∀ k, k ≤ i → N 126 k = M 126 k) → (∀ k, i < k → k < w.toNat → N 126 k = 0 ∧ M 126 k = pl - 1) → dz_X (dz_E dz_pp xo (d + 0)) dz_pp xo (dz_pp 182) Q 7 [some (dz_r 115), some (dz_i (i : Int))] [] 0 0 (sh, rf, N) := by
    intro i
    induction i with
    | zero =>
      intro N hi h1 h2b h3
      have hi0 : ∃ i : Nat, i = 0 := ⟨0, rfl⟩
      obtain ⟨i, e0⟩ := hi0
      rw [← e0] at hi h2b h3 ⊢
      have hA : ∀ g, (∀ k, k < w.toNat → 0 ≤ g k ∧ g k < pl) → key g (i + 1) ≤ key (M 126) (i + 1) → key g w.toNat ≤ key (M 126) w.toNat := fun g hg z => by
        have y := key_A (b := pl - 1) z (w.toNat - (i + 1)) (fun k hk hk2 => ⟨(h3 k (by omega) (by omega)).2, by have y := hg k (by omega); omega⟩)
        rw [show i + 1 + (w.toNat - (i + 1)) = w.toNat by omega] at y
        exact y
      subst e0
      refine xr_iloadn hc rfl rfl ?_
      refine xr_if_le hc rfl (t := 39) rfl (fun b8 => ?_) (fun b8 => ?_)
      · refine xr_iloadn hc rfl rfl ?_
        refine xr_if_le hc rfl (t := 53) rfl (fun b40 => ?_) (fun b40 => ?_)
        · refine xr_iloadn hc rfl rfl ?_
          refine xr_if_le hc rfl (t := 61) rfl (fun b54 => ?_) (fun b54 => ?_)
          · refine xr_iconst hc rfl ?_
            refine xr_zreturn hc rfl rfl (Nat.zero_le _) (Nat.zero_le _) (by first | exact Or.inl rfl | exact Or.inr rfl | assumption) ?_
            exact h2 N h1 (fun g hg g0 => hA g hg (by show key g 0 * 10 + g 0 ≤ key (M 126) 0 * 10 + M 126 0; rw [g0]; exact Int.le_refl _))
          · exfalso
            omega
        · exfalso
          omega
      · exfalso
        omega
    | succ i0 ih =>
      intro N hi h1 h2b h3
      obtain ⟨i, ei⟩ : ∃ i, i = i0 + 1 := ⟨_, rfl⟩
      rw [← ei] at hi h2b h3 ⊢
      have n1 : N 115 1 = pl := by rw [h1 _ _ (by omega)]; exact hpl1
      have hNi := h2b i (Nat.le_refl _)
      have zi := hd i (by omega)
      have hA : ∀ g, (∀ k, k < w.toNat → 0 ≤ g k ∧ g k < pl) → key g (i + 1) ≤ key (M 126) (i + 1) → key g w.toNat ≤ key (M 126) w.toNat := fun g hg z => by
        have y := key_A (b := pl - 1) z (w.toNat - (i + 1)) (fun k hk hk2 => ⟨(h3 k (by omega) (by omega)).2, by have y := hg k (by omega); omega⟩)
        rw [show i + 1 + (w.toNat - (i + 1)) = w.toNat by omega] at y
        exact y
      refine xr_iloadn hc rfl rfl ?_
      refine xr_if_le hc rfl (t := 39) rfl (fun b8 => ?_) (fun b8 => ?_)
      · refine xr_iloadn hc rfl rfl ?_
        refine xr_if_le hc rfl (t := 53) rfl (fun b40 => ?_) (fun b40 => ?_)
        · try rw [Int.toNat_natCast]
          refine xr_iloadn hc rfl rfl ?_
          refine xr_if_le hc rfl (t := 61) rfl (fun b54 => ?_) (fun b54 => ?_)
          · exfalso
            omega
          · refine xr_iconst hc rfl ?_
            refine xr_goto hc rfl (t := 62) rfl ?_
            refine xr_zreturn hc rfl rfl (Nat.zero_le _) (Nat.zero_le _) (by first | exact Or.inl rfl | exact Or.inr rfl | assumption) ?_
            first
              | (exfalso; omega)
              | (skip
                 have hL : ∀ k, k < w.toNat → 0 ≤ dz_up N 126 i (M 126 i + 1) 126 k ∧ dz_up N 126 i (M 126 i + 1) 126 k < pl := fun k hk => by
                   have zi := hd i (by omega)
                   by_cases e : k = i
                   · rw [e, dz_up_eq]
                     omega
                   · rw [dz_up_k e]
                     by_cases e2 : k < i
                     · rw [h2b k (by omega)]
                       exact hd k hk
                     · rw [(h3 k (by omega) hk).1]
                       omega
                 have hpre : key (dz_up N 126 i (M 126 i + 1) 126) i = key (M 126) i := key_c i (fun k hk => by rw [dz_up_k (by omega), h2b k (by omega)])
                 have hk1 : key (dz_up N 126 i (M 126 i + 1) 126) (i + 1) = key (M 126) (i + 1) + 1 := by
                   show key (dz_up N 126 i (M 126 i + 1) 126) i * 10 + dz_up N 126 i (M 126 i + 1) 126 i = key (M 126) i * 10 + M 126 i + 1
                   rw [hpre, dz_up_eq]
                   omega
                 refine h1q _ (fun q2 k2 u => by rw [dz_up_ne u, h1 _ _ u]) hL (by rw [dz_up_k (by omega), h2b 0 (by omega)]) ?_ (fun g hg g0 => ?_)
                 · have y := key_st (f := M 126) (g := dz_up N 126 i (M 126 i + 1) 126) (a := i + 1) (by rw [hk1]; omega) (w.toNat - (i + 1))
                   rw [show i + 1 + (w.toNat - (i + 1)) = w.toNat by omega] at y
                   have y2 := y (dg _ hd) (dg _ hL)
                   omega
                 · by_cases e : key g (i + 1) ≤ key (M 126) (i + 1)
                   · exact Or.inl (hA g hg e)
                   · refine Or.inr ?_
                     have y := key_B (f := dz_up N 126 i (M 126 i + 1) 126) (g := g) (a := i + 1) (by rw [hk1]; omega) (w.toNat - (i + 1)) (fun k hk hk2 => ⟨by rw [dz_up_k (by omega)]; exact (h3 k (by omega) (by omega)).1, (hg k (by omega)).1⟩)
                     rw [show i + 1 + (w.toNat - (i + 1)) = w.toNat by omega] at y
                     exact y)
        · refine xr_aloadn hc rfl rfl ?_
          refine xr_getfr hc rfl rfl (by first | assumption | rfl) (by first | assumption | rfl) ?_
          refine xr_iloadn hc rfl rfl ?_
          refine xr_dup2i hc rfl ?_
          first | refine xr_iaload hc rfl (by first | assumption | rfl) (by first | omega | (unfold dz_w; omega)) (by first | omega | (unfold dz_w; omega)) ?_ | refine xr_ialoado hc rfl (by first | omega | (unfold dz_w; omega)) (by first | omega | (unfold dz_w; omega)) ?_
          rw [Int.toNat_natCast, hNi]
          refine xr_iconst hc rfl ?_
          refine xr_iaddz hc rfl (by first | exact dz_wid (by first | omega | (unfold dz_w; omega)) (by first | omega | (unfold dz_w; omega)) | rfl) ?_
          refine xr_iastore hc rfl (by first | assumption | rfl) (by first | omega | (unfold dz_w; omega)) (by first | omega | (unfold dz_w; omega)) ?_
          try rw [Int.toNat_natCast]
          refine xr_iloadn hc rfl rfl ?_
          refine xr_if_le hc rfl (t := 61) rfl (fun b54 => ?_) (fun b54 => ?_)
          · exfalso
            omega
          · refine xr_iconst hc rfl ?_
            refine xr_goto hc rfl (t := 62) rfl ?_
            refine xr_zreturn hc rfl rfl (Nat.zero_le _) (Nat.zero_le _) (by first | exact Or.inl rfl | exact Or.inr rfl | assumption) ?_
            first
              | (exfalso; omega)
              | (skip
                 have hL : ∀ k, k < w.toNat → 0 ≤ dz_up N 126 i (M 126 i + 1) 126 k ∧ dz_up N 126 i (M 126 i + 1) 126 k < pl := fun k hk => by
                   have zi := hd i (by omega)
                   by_cases e : k = i
                   · rw [e, dz_up_eq]
                     omega
                   · rw [dz_up_k e]
                     by_cases e2 : k < i
                     · rw [h2b k (by omega)]
                       exact hd k hk
                     · rw [(h3 k (by omega) hk).1]
                       omega
                 have hpre : key (dz_up N 126 i (M 126 i + 1) 126) i = key (M 126) i := key_c i (fun k hk => by rw [dz_up_k (by omega), h2b k (by omega)])
                 have hk1 : key (dz_up N 126 i (M 126 i + 1) 126) (i + 1) = key (M 126) (i + 1) + 1 := by
                   show key (dz_up N 126 i (M 126 i + 1) 126) i * 10 + dz_up N 126 i (M 126 i + 1) 126 i = key (M 126) i * 10 + M 126 i + 1
                   rw [hpre, dz_up_eq]
                   omega
                 refine h1q _ (fun q2 k2 u => by rw [dz_up_ne u, h1 _ _ u]) hL (by rw [dz_up_k (by omega), h2b 0 (by omega)]) ?_ (fun g hg g0 => ?_)
                 · have y := key_st (f := M 126) (g := dz_up N 126 i (M 126 i + 1) 126) (a := i + 1) (by rw [hk1]; omega) (w.toNat - (i + 1))
                   rw [show i + 1 + (w.toNat - (i + 1)) = w.toNat by omega] at y
                   have y2 := y (dg _ hd) (dg _ hL)
                   omega
                 · by_cases e : key g (i + 1) ≤ key (M 126) (i + 1)
                   · exact Or.inl (hA g hg e)
                   · refine Or.inr ?_
                     have y := key_B (f := dz_up N 126 i (M 126 i + 1) 126) (g := g) (a := i + 1) (by rw [hk1]; omega) (w.toNat - (i + 1)) (fun k hk hk2 => ⟨by rw [dz_up_k (by omega)]; exact (h3 k (by omega) (by omega)).1, (hg k (by omega)).1⟩)
                     rw [show i + 1 + (w.toNat - (i + 1)) = w.toNat by omega] at y
                     exact y)
      · refine xr_aloadn hc rfl rfl ?_
        refine xr_getfr hc rfl rfl (by first | assumption | rfl) (by first | assumption | rfl) ?_
        refine xr_iloadn hc rfl rfl ?_
        first | refine xr_iaload hc rfl (by first | assumption | rfl) (by first | omega | (unfold dz_w; omega)) (by first | omega | (unfold dz_w; omega)) ?_ | refine xr_ialoado hc rfl (by first | omega | (unfold dz_w; omega)) (by first | omega | (unfold dz_w; omega)) ?_
        rw [Int.toNat_natCast, hNi]
        refine xr_aloadn hc rfl rfl ?_
        refine xr_getfi hc rfl (Or.inl rfl) (by first | assumption | rfl) ?_
        rw [n1]
        refine xr_iconst hc rfl ?_
        refine xr_isubz hc rfl (by first | exact dz_wid (by first | omega | (unfold dz_w; omega)) (by first | omega | (unfold dz_w; omega)) | rfl) ?_
        refine xr_icmp_ne hc rfl (t := 39) rfl (fun b23 => ?_) (fun b23 => ?_)
        · refine xr_iloadn hc rfl rfl ?_
          refine xr_if_le hc rfl (t := 53) rfl (fun b40 => ?_) (fun b40 => ?_)
          · try rw [Int.toNat_natCast]
            refine xr_iloadn hc rfl rfl ?_
            refine xr_if_le hc rfl (t := 61) rfl (fun b54 => ?_) (fun b54 => ?_)
            · exfalso
              omega
            · refine xr_iconst hc rfl ?_
              refine xr_goto hc rfl (t := 62) rfl ?_
              refine xr_zreturn hc rfl rfl (Nat.zero_le _) (Nat.zero_le _) (by first | exact Or.inl rfl | exact Or.inr rfl | assumption) ?_
              first
                | (exfalso; omega)
                | (skip
                   have hL : ∀ k, k < w.toNat → 0 ≤ dz_up N 126 i (M 126 i + 1) 126 k ∧ dz_up N 126 i (M 126 i + 1) 126 k < pl := fun k hk => by
                     have zi := hd i (by omega)
                     by_cases e : k = i
                     · rw [e, dz_up_eq]
                       omega
                     · rw [dz_up_k e]
                       by_cases e2 : k < i
                       · rw [h2b k (by omega)]
                         exact hd k hk
                       · rw [(h3 k (by omega) hk).1]
                         omega
                   have hpre : key (dz_up N 126 i (M 126 i + 1) 126) i = key (M 126) i := key_c i (fun k hk => by rw [dz_up_k (by omega), h2b k (by omega)])
                   have hk1 : key (dz_up N 126 i (M 126 i + 1) 126) (i + 1) = key (M 126) (i + 1) + 1 := by
                     show key (dz_up N 126 i (M 126 i + 1) 126) i * 10 + dz_up N 126 i (M 126 i + 1) 126 i = key (M 126) i * 10 + M 126 i + 1
                     rw [hpre, dz_up_eq]
                     omega
                   refine h1q _ (fun q2 k2 u => by rw [dz_up_ne u, h1 _ _ u]) hL (by rw [dz_up_k (by omega), h2b 0 (by omega)]) ?_ (fun g hg g0 => ?_)
                   · have y := key_st (f := M 126) (g := dz_up N 126 i (M 126 i + 1) 126) (a := i + 1) (by rw [hk1]; omega) (w.toNat - (i + 1))
                     rw [show i + 1 + (w.toNat - (i + 1)) = w.toNat by omega] at y
                     have y2 := y (dg _ hd) (dg _ hL)
                     omega
                   · by_cases e : key g (i + 1) ≤ key (M 126) (i + 1)
                     · exact Or.inl (hA g hg e)
                     · refine Or.inr ?_
                       have y := key_B (f := dz_up N 126 i (M 126 i + 1) 126) (g := g) (a := i + 1) (by rw [hk1]; omega) (w.toNat - (i + 1)) (fun k hk hk2 => ⟨by rw [dz_up_k (by omega)]; exact (h3 k (by omega) (by omega)).1, (hg k (by omega)).1⟩)
                       rw [show i + 1 + (w.toNat - (i + 1)) = w.toNat by omega] at y
                       exact y)
          · refine xr_aloadn hc rfl rfl ?_
            refine xr_getfr hc rfl rfl (by first | assumption | rfl) (by first | assumption | rfl) ?_
            refine xr_iloadn hc rfl rfl ?_
            refine xr_dup2i hc rfl ?_
            first | refine xr_iaload hc rfl (by first | assumption | rfl) (by first | omega | (unfold dz_w; omega)) (by first | omega | (unfold dz_w; omega)) ?_ | refine xr_ialoado hc rfl (by first | omega | (unfold dz_w; omega)) (by first | omega | (unfold dz_w; omega)) ?_
            rw [Int.toNat_natCast, hNi]
            refine xr_iconst hc rfl ?_
            refine xr_iaddz hc rfl (by first | exact dz_wid (by first | omega | (unfold dz_w; omega)) (by first | omega | (unfold dz_w; omega)) | rfl) ?_
            refine xr_iastore hc rfl (by first | assumption | rfl) (by first | omega | (unfold dz_w; omega)) (by first | omega | (unfold dz_w; omega)) ?_
            try rw [Int.toNat_natCast]
            refine xr_iloadn hc rfl rfl ?_
            refine xr_if_le hc rfl (t := 61) rfl (fun b54 => ?_) (fun b54 => ?_)
            · exfalso
              omega
            · refine xr_iconst hc rfl ?_
              refine xr_goto hc rfl (t := 62) rfl ?_
              refine xr_zreturn hc rfl rfl (Nat.zero_le _) (Nat.zero_le _) (by first | exact Or.inl rfl | exact Or.inr rfl | assumption) ?_
              first
                | (exfalso; omega)
                | (skip
                   have hL : ∀ k, k < w.toNat → 0 ≤ dz_up N 126 i (M 126 i + 1) 126 k ∧ dz_up N 126 i (M 126 i + 1) 126 k < pl := fun k hk => by
                     have zi := hd i (by omega)
                     by_cases e : k = i
                     · rw [e, dz_up_eq]
                       omega
                     · rw [dz_up_k e]
                       by_cases e2 : k < i
                       · rw [h2b k (by omega)]
                         exact hd k hk
                       · rw [(h3 k (by omega) hk).1]
                         omega
                   have hpre : key (dz_up N 126 i (M 126 i + 1) 126) i = key (M 126) i := key_c i (fun k hk => by rw [dz_up_k (by omega), h2b k (by omega)])
                   have hk1 : key (dz_up N 126 i (M 126 i + 1) 126) (i + 1) = key (M 126) (i + 1) + 1 := by
                     show key (dz_up N 126 i (M 126 i + 1) 126) i * 10 + dz_up N 126 i (M 126 i + 1) 126 i = key (M 126) i * 10 + M 126 i + 1
                     rw [hpre, dz_up_eq]
                     omega
                   refine h1q _ (fun q2 k2 u => by rw [dz_up_ne u, h1 _ _ u]) hL (by rw [dz_up_k (by omega), h2b 0 (by omega)]) ?_ (fun g hg g0 => ?_)
                   · have y := key_st (f := M 126) (g := dz_up N 126 i (M 126 i + 1) 126) (a := i + 1) (by rw [hk1]; omega) (w.toNat - (i + 1))
                     rw [show i + 1 + (w.toNat - (i + 1)) = w.toNat by omega] at y
                     have y2 := y (dg _ hd) (dg _ hL)
                     omega
                   · by_cases e : key g (i + 1) ≤ key (M 126) (i + 1)
                     · exact Or.inl (hA g hg e)
                     · refine Or.inr ?_
                       have y := key_B (f := dz_up N 126 i (M 126 i + 1) 126) (g := g) (a := i + 1) (by rw [hk1]; omega) (w.toNat - (i + 1)) (fun k hk hk2 => ⟨by rw [dz_up_k (by omega)]; exact (h3 k (by omega) (by omega)).1, (hg k (by omega)).1⟩)
                       rw [show i + 1 + (w.toNat - (i + 1)) = w.toNat by omega] at y
                       exact y)
        · refine xr_aloadn hc rfl rfl ?_
          refine xr_getfr hc rfl rfl (by first | assumption | rfl) (by first | assumption | rfl) ?_
          refine xr_iloadn hc rfl rfl ?_
          refine xr_iconst hc rfl ?_
          refine xr_iastore hc rfl (by first | assumption | rfl) (by first | omega | (unfold dz_w; omega)) (by first | omega | (unfold dz_w; omega)) ?_
          rw [Int.toNat_natCast]
          refine xr_iincz1 hc rfl rfl (by first | exact dz_wid (by first | omega | (unfold dz_w; omega)) (by first | omega | (unfold dz_w; omega)) | rfl) ?_
          refine xr_goto hc rfl (t := 7) rfl ?_
          rw [show (i : Int) + -1 = (i0 : Int) by omega]
          refine ih _ (by omega) (fun q2 k2 u => by rw [dz_up_ne u, h1 _ _ u]) (fun k hk => by rw [dz_up_k (by omega)]; exact h2b k (by omega)) (fun k hk1 hk2 => ?_)
          by_cases e : k = i
          · rw [e, dz_up_eq]
            exact ⟨rfl, by omega⟩
          · rw [dz_up_k e]
            exact h3 k (by omega) hk2
  refine xr_aloadn hc rfl rfl ?_
  refine xr_getfi hc rfl (Or.inl rfl) (by first | assumption | rfl) ?_
  rw [hw2]
  refine xr_iconst hc rfl ?_
  refine xr_isubz hc rfl (by first | exact dz_wid (by first | omega | (unfold dz_w; omega)) (by first | omega | (unfold dz_w; omega)) | rfl) ?_
  refine xr_istore1 hc rfl rfl ?_
  rw [show w - 1 = ((w.toNat - 1 : Nat) : Int) by omega]
  exact lp (w.toNat - 1) M (by omega) (fun _ _ _ => rfl) (fun _ _ => rfl) (fun k h1 h2 => by omega)
set_option maxRecDepth 100000 in
theorem D_beatsByLine {xo : Nat → List Int} {d : Nat} {Q : dz_Q} {sh : List (Nat ⊕ (Nat × Nat))} {rf : Nat → Nat → Nat} {M : Nat → Nat → Int} {rs : Nat → Int} {it : Nat → Nat → Int} {ts : Nat → Int} {ch : Nat → Nat → Int} {tl up lo : Int} {fn : Nat → Int} {w pl : Int} {kd wt nx : Nat → Int} {n : Nat} {hs : Nat → Nat → Int} {kp : Nat → Int} {kh : Nat → Nat → Nat → Int} {m : Int} (hl : ml sh rf) (hR : RM M rs it ts ch tl up lo fn w pl kd wt nx n hs kp kh) (hW : WF rs it ts ch tl up lo fn w pl kd wt nx n hs kp kh) (hw0 : w ≠ 0) (hm : 0 ≤ m ∧ m ≤ 40) (hd : (∀ k, k < w.toNat → 0 ≤ M 126 k ∧ M 126 k < pl)) (hQ : ∀ M2 : Nat → Nat → Int, tfr M M2 → Q (some (dz_i (t_at pl kd wt nx (M 126) m.toNat (hs n)))) (sh, rf, M2)) : dz_E dz_pp xo (d + 5) 183 [dz_r 115, dz_i m] (sh, rf, M) Q := by
  refine ⟨Nat.le_of_ble_eq_true rfl, ?_⟩
  have hc := dz_E_m dz_pp xo (d + 4)
  show dz_X (dz_E dz_pp xo (d + 4)) dz_pp xo (dz_pp 183) Q 0 [some (dz_r 115), some (dz_i m), none] [] 0 0 (sh, rf, M)
  obtain ⟨c0, c1, c2, c3, c4, c5, c6, c7, c8, c9, c10, c11, c12, c13, c14, c15, c16, c17, c18, c19, c20, c21, c22, c23, c24, c25, c26, c27, c28, c29⟩ := id hl
  obtain ⟨hrow, htxt, htl, hup, hlo, hfn, hdr, hkp⟩ := id hR
  obtain ⟨wrow, wtxt, wdr, wst, wkp⟩ := id hW
  have hw6 := WF_w hW
  have hdr3 : drM M w pl kd wt nx n hs ∧ w ≤ 6 ∧ n ≤ 40 := ⟨hdr, hw6.2, wst.1⟩
  have hkp3 : kepM M w kp kh ∧ w ≤ 6 ∧ ∀ k, k < 3 → kp k ≤ 40 := ⟨hkp, hw6.2, fun k hk => by
    rcases wkp k hk with z | z
    · omega
    · exact z.2.1⟩
  obtain ⟨a1, a2, a3, b1, b2, b3⟩ := id hdr
  have hpg : pgM M w pl kd wt nx := ⟨a1, a2, a3⟩
  have b2c : ∀ c, okc w c → M 116 c = hs n c := fun c hc => by
    have h3 := b2 c hc
    rw [Nat.zero_add] at h3
    exact h3
  have hp := WF_p hW (by omega)
  have hst := wst.2 n (Nat.le_refl n)
  obtain ⟨p1, p2, p3, p4, p5⟩ := id hp
  obtain ⟨st0, st1, st2, st3, st4, st5, st6, st7, st8⟩ := id hst
  have lp : ∀ (m_ : Nat) (i : Nat) (N : Nat → Nat → Int), (i : Int) + m_ = w → tfr M N → N 115 23 = 0 → (∀ c, okc w c → ¬ (5 ≤ c ∧ c < 5 + i) → N 116 (3612 + c) = hs n c) → (∀ k, k < i → N 116 (3612 + (5 + k)) = M 126 k) → dz_X (dz_E dz_pp xo (d + 4)) dz_pp xo (dz_pp 183) Q 6 [some (dz_r 115), some (dz_i m), some (dz_i (i : Int))] [] 0 0 (sh, rf, N) := by
    intro m_
    induction m_ with
    | zero =>
      intro i N hi h1 h2 h3 h4
      have n2 : N 115 2 = w := by rw [h1 _ _ (by omega) (by omega)]; exact a1
      refine xr_iloadn hc rfl rfl ?_
      refine xr_aloadn hc rfl rfl ?_
      refine xr_getfi hc rfl (Or.inl rfl) (by first | assumption | rfl) ?_
      rw [n2]
      refine xr_icmp_ge hc rfl (t := 36) rfl (fun b11 => ?_) (fun b11 => ?_)
      · refine xr_aloadn hc rfl rfl ?_
        refine xr_iloadn hc rfl rfl ?_
        refine xr_callv1 hc rfl (by first | assumption | rfl) rfl rfl rfl (Nat.le_of_ble_eq_true rfl) (Nat.zero_le _) (Nat.zero_le _) ?_
        have hsl : stok w pl (29 * n) (fun c => if 5 ≤ c ∧ c < 11 then M 126 (c - 5) else hs n c) := stok_of hst (fun c hc => if_neg (by omega)) (fun k hk => by
          try dsimp only
          rw [if_pos (by omega), if_neg (by omega), if_neg (by omega), show 5 + k - 5 = k by omega]
          have z := hd k (by omega)
          have z2 := st8 k hk
          exact ⟨z.1, z.2, z2.2.2.1, z2.2.2.2.1, rfl⟩)
        refine D_beatsTried (w := w) (pl := pl) (B := 29 * n) (kd := kd) (wt := wt) (nx := nx) (s := (fun c => if 5 ≤ c ∧ c < 11 then M 126 (c - 5) else hs n c)) hl (tfr_pg h1 hpg) hp hsl (by omega) (fun c hc => ?_) h2 (by omega) (fun N2 y1 y2 y3 y4 => ?_)
        · have hc2 := hc
          unfold okc at hc2
          by_cases e : 5 ≤ c ∧ c < 11
          · dsimp only
            rw [if_pos e]
            have z := h4 (c - 5) (by omega)
            rw [show 5 + (c - 5) = c by omega] at z
            exact z
          · dsimp only
            rw [if_neg e]
            exact h3 c hc (by omega)
        have ea : t_run pl kd wt nx m.toNat (fun c => if 5 ≤ c ∧ c < 11 then M 126 (c - 5) else hs n c) 1 - (fun c => if 5 ≤ c ∧ c < 11 then M 126 (c - 5) else hs n c) 1 = t_at pl kd wt nx (M 126) m.toNat (hs n) := t_at_run hp hst (by omega) ⟨rfl, rfl, fun k hk => by (try dsimp only); rw [if_neg (by omega)]⟩ rfl (fun k hk => by (try dsimp only); rw [if_pos (by omega), show 5 + k - 5 = k by omega])
        rw [ea]
        refine xk_1 ?_
        refine xr_ireturn hc rfl rfl (Nat.zero_le _) (Nat.zero_le _) ?_
        exact hQ N2 (tfr_trans h1 y1)
      · omega
    | succ m_ ih =>
      intro i N hi h1 h2 h3 h4
      have n2 : N 115 2 = w := by rw [h1 _ _ (by omega) (by omega)]; exact a1
      have n126 : N 126 i = M 126 i := h1 _ _ (by omega) (by omega)
      have ix : ((3617 : Int) + (i : Int)).toNat = 3612 + (5 + i) := by omega
      refine xr_iloadn hc rfl rfl ?_
      refine xr_aloadn hc rfl rfl ?_
      refine xr_getfi hc rfl (Or.inl rfl) (by first | assumption | rfl) ?_
      rw [n2]
      refine xr_icmp_ge hc rfl (t := 36) rfl (fun b11 => ?_) (fun b11 => ?_)
      · omega
      · refine xr_aloadn hc rfl rfl ?_
        refine xr_getfr hc rfl rfl (by first | assumption | rfl) (by first | assumption | rfl) ?_
        refine xr_sipush hc rfl ?_
        refine xr_iloadn hc rfl rfl ?_
        refine xr_iaddz hc rfl (by first | exact dz_wid (by first | omega | (unfold dz_w; omega)) (by first | omega | (unfold dz_w; omega)) | rfl) ?_
        refine xr_aloadn hc rfl rfl ?_
        refine xr_getfr hc rfl rfl (by first | assumption | rfl) (by first | assumption | rfl) ?_
        refine xr_iloadn hc rfl rfl ?_
        first | refine xr_iaload hc rfl (by first | assumption | rfl) (by first | omega | (unfold dz_w; omega)) (by first | omega | (unfold dz_w; omega)) ?_ | refine xr_ialoado hc rfl (by first | omega | (unfold dz_w; omega)) (by first | omega | (unfold dz_w; omega)) ?_
        rw [Int.toNat_natCast, n126]
        refine xr_iastore hc rfl (by first | assumption | rfl) (by first | omega | (unfold dz_w; omega)) (by first | omega | (unfold dz_w; omega)) ?_
        rw [ix]
        refine xr_iincz2 hc rfl rfl (by first | exact dz_wid (by first | omega | (unfold dz_w; omega)) (by first | omega | (unfold dz_w; omega)) | rfl) ?_
        refine xr_goto hc rfl (t := 6) rfl ?_
        refine ih (i + 1) _ (by omega) (fun q2 k2 v1 v2 => ?_) (by rw [dz_up_ne (by omega)]; exact h2) (fun c hc hc3 => ?_) (fun k hk => ?_)
        · by_cases e : q2 = 116
          · subst e
            rw [dz_up_k (by omega), h1 _ _ v1 v2]
          · rw [dz_up_ne e, h1 _ _ v1 v2]
        · rw [dz_up_k (by omega)]
          exact h3 c hc (by omega)
        · by_cases e : k = i
          · rw [e, dz_up_eq]
          · rw [dz_up_k (by omega)]
            exact h4 k (by omega)
  refine xr_aloadn hc rfl rfl ?_
  refine xr_callv0 hc rfl (by first | assumption | rfl) rfl rfl rfl (Nat.le_of_ble_eq_true rfl) (Nat.zero_le _) (Nat.zero_le _) ?_
  refine D_layTried hl hR hW (fun M1 z1 z2 z3 z4 z5 => ?_)
  refine xk_0 ?_
  refine xr_iconst hc rfl ?_
  refine xr_istore2 hc rfl rfl ?_
  exact lp w.toNat 0 M1 (by omega) z1 z5 (fun c hc _ => z2 c hc) (fun k hk => by omega)
