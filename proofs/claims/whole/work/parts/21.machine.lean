/-! The methods of Machine. Written by l2_21.py. -/
/-- a machine of the class at cell q: its arrays lie behind it -/
def ma_at (sh : List (Nat ⊕ (Nat × Nat))) (rf : Nat → Nat → Nat) (q : Nat) : Prop := sh[q]? = some (.inl 1) ∧ rf q 6 = q + 1 + 1 ∧ sh[q + 1]? = some (.inr (0, 6)) ∧ rf q 7 = q + 2 + 1 ∧ sh[q + 2]? = some (.inr (0, 6)) ∧ rf q 8 = q + 3 + 1 ∧ sh[q + 3]? = some (.inr (0, 6)) ∧ rf q 9 = q + 4 + 1 ∧ sh[q + 4]? = some (.inr (0, 6)) ∧ rf q 10 = q + 5 + 1 ∧ sh[q + 5]? = some (.inr (0, 6)) ∧ rf q 11 = q + 6 + 1 ∧ sh[q + 6]? = some (.inr (0, 6))
/-- its state, flat: 1 beat, 2 sum, 3 due, 4 steps, 5.. places, 11.. values, 17.. how often -/
def fl (M : Nat → Nat → Int) (q k : Nat) : Int := if k < 5 then M q (k + 1) else if k < 11 then M (q + 2) (k - 5) else if k < 17 then M (q + 3) (k - 11) else M (q + 6) (k - 17)
/-- how long is waited -/
def wa (p b pl : Int) : Int := (p - b) % pl
def wk (k v : Int) : Int := if k = 1 then 2 else if k = 3 then 1 else if k = 4 then 2 + v / 10 else if k = 5 then 1 else 0
/-- which word is due behind word i -/
def du (kd wt nx : Nat → Int) (sm : Int) (i : Nat) : Int := if kd i = 0 then -9 else if kd i = 5 ∧ 50 ≤ sm then wt i else nx i
def isadd (k : Int) : Prop := k = 1 ∨ k = 3 ∨ k = 4
/-- the words of a program -/
def pgok (w pl : Int) (kd wt nx : Nat → Int) : Prop := 2 ≤ w ∧ w ≤ 6 ∧ 6 ≤ pl ∧ pl ≤ 9 ∧ ∀ i : Nat, (i : Int) < w → 0 ≤ kd i ∧ kd i ≤ 5 ∧ 0 ≤ wt i ∧ wt i < w ∧ 0 ≤ nx i ∧ nx i < w
/-- a state that is sound, its numbers below B -/
def stok (w pl B : Int) (s : Nat → Int) : Prop := B ≤ 1000000 ∧ 0 ≤ s 1 ∧ s 1 ≤ B ∧ 0 ≤ s 2 ∧ s 2 ≤ 99 ∧ (s 3 = -9 ∨ (0 ≤ s 3 ∧ s 3 < w)) ∧ 0 ≤ s 4 ∧ s 4 ≤ B ∧ ∀ i : Nat, (i : Int) < w → 0 ≤ s (5 + i) ∧ s (5 + i) < pl ∧ 0 ≤ s (11 + i) ∧ s (11 + i) ≤ 99 ∧ 0 ≤ s (17 + i) ∧ s (17 + i) ≤ B
set_option maxRecDepth 100000 in
theorem S_has {xo : Nat → List Int} {d : Nat} {Q : dz_Q} {sh : List (Nat ⊕ (Nat × Nat))} {rf : Nat → Nat → Nat} {M : Nat → Nat → Int} {q : Nat} {x : Int} (hm : ma_at sh rf q) (hw : 0 ≤ M q 0 ∧ M q 0 ≤ 6) (h1 : 0 ≤ x → x < M q 0 → Q (some (dz_i 1)) (sh, rf, M)) (h2 : (x < 0 ∨ M q 0 ≤ x) → Q (some (dz_i 0)) (sh, rf, M)) : dz_E dz_pp xo (d + 2) 10 [dz_r q, dz_i x] (sh, rf, M) Q := by
  refine ⟨Nat.le_of_ble_eq_true rfl, ?_⟩
  have hc := dz_E_m dz_pp xo (d + 1)
  show dz_X (dz_E dz_pp xo (d + 1)) dz_pp xo (dz_pp 10) Q 0 [some (dz_r q), some (dz_i x)] [] 0 0 (sh, rf, M)
  obtain ⟨m0, m1, m2, m3, m4, m5, m6, m7, m8, m9, m10, m11, m12⟩ := hm
  refine xr_iloadn hc rfl rfl ?_
  refine xr_iconst hc rfl ?_
  refine xr_aloadn hc rfl rfl ?_
  refine xr_getfi hc rfl (Or.inl rfl) (by first | assumption | rfl) ?_
  refine xr_iconst hc rfl ?_
  refine xr_isubz hc rfl (by first | exact dz_wid (by first | omega | (unfold dz_w; omega)) (by first | omega | (unfold dz_w; omega)) | rfl) ?_
  refine xr_calls3 hc rfl (by decide) rfl rfl rfl (Nat.le_of_ble_eq_true rfl) (Nat.zero_le _) (Nat.zero_le _) ?_
  refine S_isWithin (fun u1 u2 => ?_) (fun u1 => ?_)
  · refine xk_1 ?_
    refine xr_zreturn hc rfl rfl (Nat.zero_le _) (Nat.zero_le _) (by first | exact Or.inl rfl | exact Or.inr rfl | assumption) ?_
    first | exact h1 (by omega) (by omega) | exact h2 (by omega)
  · refine xk_1 ?_
    refine xr_zreturn hc rfl rfl (Nat.zero_le _) (Nat.zero_le _) (by first | exact Or.inl rfl | exact Or.inr rfl | assumption) ?_
    first | exact h1 (by omega) (by omega) | exact h2 (by omega)
theorem fm_eq {x y : Int} (hx : -1000000 ≤ x ∧ x ≤ 1000000) (hy : 0 < y ∧ y ≤ 9) : (dz_xor x y < 0 ↔ x < 0) := by
  unfold dz_xor
  have hx3 : dz_in32 x := by unfold dz_in32; omega
  have hy3 : dz_in32 y := by unfold dz_in32; omega
  have e1 : ∀ a : Int32, a.toInt < 0 ↔ a.toBitVec.msb = true := fun a => by
    rw [BitVec.msb_eq_toInt, decide_eq_true_eq]
    exact Iff.rfl
  rw [e1, Int32.toBitVec_xor, BitVec.msb_xor]
  have e2 : (Int32.ofInt x).toBitVec.msb = decide (x < 0) := by
    rw [BitVec.msb_eq_toInt]
    show decide ((Int32.ofInt x).toInt < 0) = _
    rw [dz_tI hx3]
  have e3 : (Int32.ofInt y).toBitVec.msb = false := by
    rw [BitVec.msb_eq_toInt]
    show decide ((Int32.ofInt y).toInt < 0) = _
    rw [dz_tI hy3]
    exact decide_eq_false (by omega)
  rw [e2, e3]
  simp
theorem tm_neg {x y : Int} (hx : x < 0) (hy : 0 < y) : Int.tmod x y = -((-x) % y) := by
  rw [show x = -(-x) by omega, Int.neg_tmod, Int.tmod_eq_emod_of_nonneg (by omega)]
  simp
set_option maxRecDepth 100000 in
theorem S_floorMod {xo : Nat → List Int} {d : Nat} {Q : dz_Q} {sh : List (Nat ⊕ (Nat × Nat))} {rf : Nat → Nat → Nat} {M : Nat → Nat → Int} {x y : Int} (hx : -1000000 ≤ x ∧ x ≤ 1000000) (hy : 0 < y ∧ y ≤ 9) (hQ : Q (some (dz_i (x % y))) (sh, rf, M)) : dz_E dz_pp xo (d + 1) 214 [dz_i x, dz_i y] (sh, rf, M) Q := by
  refine ⟨Nat.le_of_ble_eq_true rfl, ?_⟩
  have hc := dz_E_m dz_pp xo (d + 0)
  show dz_X (dz_E dz_pp xo (d + 0)) dz_pp xo (dz_pp 214) Q 0 [some (dz_i x), some (dz_i y), none] [] 0 0 (sh, rf, M)
  have hf := fm_eq hx hy
  have hneg : x < 0 → Int.tmod x y = -((-x) % y) := fun h => tm_neg h hy.1
  have hpos : 0 ≤ x → Int.tmod x y = x % y := fun h => Int.tmod_eq_emod_of_nonneg h
  have e5 := Int.emod_nonneg (-x) (show y ≠ 0 by omega)
  have e6 := Int.emod_lt_of_pos (-x) hy.1
  have e7 := Int.emod_nonneg x (show y ≠ 0 by omega)
  have e8 := Int.emod_lt_of_pos x hy.1
  have e9 : x < 0 → (-x) % y = 0 → x % y = 0 := fun _ h => by
    have := Int.dvd_of_emod_eq_zero h
    exact Int.emod_eq_zero_of_dvd (Int.dvd_neg.mp this)
  have e10 : x < 0 → (-x) % y ≠ 0 → x % y = y - (-x) % y := fun _ h => by
    have e := @Int.neg_emod (-x) y
    simp only [Int.neg_neg] at e
    rw [e, if_neg (fun z => h (Int.emod_eq_zero_of_dvd z))]
    have : (y.natAbs : Int) = y := Int.natAbs_of_nonneg (by omega)
    omega
  refine xr_iloadn hc rfl rfl ?_
  refine xr_iloadn hc rfl rfl ?_
  refine xr_irem hc rfl (by first | omega | (unfold dz_w; omega)) ?_
  refine xr_istore2 hc rfl rfl ?_
  refine xr_iloadn hc rfl rfl ?_
  refine xr_iloadn hc rfl rfl ?_
  refine xr_ixor hc rfl ?_
  refine xr_if_ge hc rfl (t := 18) rfl (fun b7 => ?_) (fun b7 => ?_)
  · refine xr_iloadn hc rfl rfl ?_
    refine xr_ireturn hc rfl rfl (Nat.zero_le _) (Nat.zero_le _) ?_
    have e11 : Int.tmod x y = x % y := by
      rcases Int.lt_or_le x 0 with h | h
      · rw [hneg h]; rw [hneg h] at *; have := e9 h; omega
      · exact hpos h
    rw [e11]
    exact hQ
  · refine xr_iloadn hc rfl rfl ?_
    refine xr_if_eq hc rfl (t := 18) rfl (fun b11 => ?_) (fun b11 => ?_)
    · refine xr_iloadn hc rfl rfl ?_
      refine xr_ireturn hc rfl rfl (Nat.zero_le _) (Nat.zero_le _) ?_
      have e11 : Int.tmod x y = x % y := by
        rcases Int.lt_or_le x 0 with h | h
        · rw [hneg h]; rw [hneg h] at *; have := e9 h; omega
        · exact hpos h
      rw [e11]
      exact hQ
    · rw [hneg (by omega)] at b11 ⊢
      refine xr_iloadn hc rfl rfl ?_
      refine xr_iloadn hc rfl rfl ?_
      refine xr_iaddz hc rfl (by first | exact dz_wid (by first | omega | (unfold dz_w; omega)) (by first | omega | (unfold dz_w; omega)) | rfl) ?_
      refine xr_ireturn hc rfl rfl (Nat.zero_le _) (Nat.zero_le _) ?_
      have e11 := e10 (by omega) (by omega)
      have e12 : -(-x % y) + y = x % y := by omega
      rw [e12]
      exact hQ
set_option maxRecDepth 100000 in
theorem S_waitFor {xo : Nat → List Int} {d : Nat} {Q : dz_Q} {sh : List (Nat ⊕ (Nat × Nat))} {rf : Nat → Nat → Nat} {M : Nat → Nat → Int} {p b pl : Int} (hp : 0 ≤ p ∧ p ≤ 999) (hb : 0 ≤ b ∧ b ≤ 999990) (hpl : 6 ≤ pl ∧ pl ≤ 9) (hQ : Q (some (dz_i (wa p b pl))) (sh, rf, M)) : dz_E dz_pp xo (d + 2) 98 [dz_i p, dz_i b, dz_i pl] (sh, rf, M) Q := by
  refine ⟨Nat.le_of_ble_eq_true rfl, ?_⟩
  have hc := dz_E_m dz_pp xo (d + 1)
  show dz_X (dz_E dz_pp xo (d + 1)) dz_pp xo (dz_pp 98) Q 0 [some (dz_i p), some (dz_i b), some (dz_i pl)] [] 0 0 (sh, rf, M)
  refine xr_iloadn hc rfl rfl ?_
  refine xr_if_le hc rfl (t := 14) rfl (fun b1 => ?_) (fun b1 => ?_)
  · omega
  · refine xr_iloadn hc rfl rfl ?_
    refine xr_iloadn hc rfl rfl ?_
    refine xr_isubz hc rfl (by first | exact dz_wid (by first | omega | (unfold dz_w; omega)) (by first | omega | (unfold dz_w; omega)) | rfl) ?_
    refine xr_iloadn hc rfl rfl ?_
    refine xr_calls2 hc rfl (by decide) rfl rfl rfl (Nat.le_of_ble_eq_true rfl) (Nat.zero_le _) (Nat.zero_le _) ?_
    refine S_floorMod (by omega) (by omega) ?_
    refine xk_1 ?_
    refine xr_goto hc rfl (t := 15) rfl ?_
    refine xr_ireturn hc rfl rfl (Nat.zero_le _) (Nat.zero_le _) ?_
    exact hQ
theorem ly_none {f : Nat → Int} {p : Int} : ∀ (n i : Nat), ly_at f p n i = -9 ∨ (∃ k, i ≤ k ∧ k < i + n ∧ f k = p ∧ ly_at f p n i = (k : Int))
  | 0, _ => Or.inl rfl
  | n + 1, i => by
    rw [ly_at]
    by_cases h : f i = p
    · rw [if_pos h]
      exact Or.inr ⟨i, Nat.le_refl i, by omega, h, rfl⟩
    · rw [if_neg h]
      rcases ly_none n (i + 1) with h1 | ⟨k, h1, h2, h3, h4⟩
      · exact Or.inl h1
      · exact Or.inr ⟨k, by omega, by omega, h3, h4⟩
theorem ly_no {f : Nat → Int} {p : Int} : ∀ (n i : Nat), ly_at f p n i = -9 → ∀ k, i ≤ k → k < i + n → f k ≠ p
  | 0, _, _, k, h1, h2 => by omega
  | n + 1, i, h, k, h1, h2 => by
    rw [ly_at] at h
    by_cases e : f i = p
    · rw [if_pos e] at h
      omega
    · rw [if_neg e] at h
      rcases Nat.eq_or_lt_of_le h1 with q | q
      · subst q; exact e
      · exact ly_no n (i + 1) h k (by omega) (by omega)
/-- no word below w lies at p -/
def free (f : Nat → Int) (w p : Int) : Prop := ∀ k : Nat, (k : Int) < w → f k ≠ p
theorem S_lyingAt {xo : Nat → List Int} {d : Nat} {Q : dz_Q} {sh : List (Nat ⊕ (Nat × Nat))} {rf : Nat → Nat → Nat} {M : Nat → Nat → Int} {q len : Nat} {words p : Int} (ha : sh[q]? = some (.inr (0, len))) (hw : 0 ≤ words ∧ words ≤ len) (hl : len < 2147483648) (hQ : Q (some (dz_i (ly_at (M q) p words.toNat 0))) (sh, rf, M)) : dz_E dz_pp xo (d + 1) 99 [dz_r q, dz_i words, dz_i p] (sh, rf, M) Q := by
  refine ⟨Nat.le_of_ble_eq_true rfl, ?_⟩
  have hc := dz_E_m dz_pp xo d
  show dz_X (dz_E dz_pp xo d) dz_pp xo (dz_pp 99) Q 0 [some (dz_r q), some (dz_i words), some (dz_i p), none] [] 0 0 (sh, rf, M)
  refine xr_iconst hc rfl ?_
  refine xr_istore3 hc rfl rfl ?_
  exact S_lyingAt_loop ha hw.2 hl words.toNat 0 (by omega) hQ
/-- whether a word lies at p -/
theorem S_lies {xo : Nat → List Int} {d : Nat} {Q : dz_Q} {sh : List (Nat ⊕ (Nat × Nat))} {rf : Nat → Nat → Nat} {M : Nat → Nat → Int} {q len : Nat} {words p : Int} (ha : sh[q]? = some (.inr (0, len))) (hw : 0 ≤ words ∧ words ≤ len) (hl : len < 2147483648) (h1 : free (M q) words p → Q (some (dz_i (-9))) (sh, rf, M)) (h2 : ∀ k : Nat, (k : Int) < words → M q k = p → Q (some (dz_i (k : Int))) (sh, rf, M)) : dz_E dz_pp xo (d + 1) 99 [dz_r q, dz_i words, dz_i p] (sh, rf, M) Q := by
  refine S_lyingAt ha hw hl ?_
  rcases ly_none (f := M q) (p := p) words.toNat 0 with h | ⟨k, k1, k2, k3, k4⟩
  · rw [h]
    exact h1 (fun k hk => ly_no _ _ h k (by omega) (by omega))
  · rw [k4]
    exact h2 k (by omega) k3
set_option maxRecDepth 100000 in
theorem S_isFree {xo : Nat → List Int} {d : Nat} {Q : dz_Q} {sh : List (Nat ⊕ (Nat × Nat))} {rf : Nat → Nat → Nat} {M : Nat → Nat → Int} {q : Nat} {p : Int} (hm : ma_at sh rf q) (hw : 0 ≤ M q 0 ∧ M q 0 ≤ 6) (h1 : free (M (q + 2)) (M q 0) p → Q (some (dz_i 1)) (sh, rf, M)) (h2 : ¬ free (M (q + 2)) (M q 0) p → Q (some (dz_i 0)) (sh, rf, M)) : dz_E dz_pp xo (d + 2) 11 [dz_r q, dz_i p] (sh, rf, M) Q := by
  refine ⟨Nat.le_of_ble_eq_true rfl, ?_⟩
  have hc := dz_E_m dz_pp xo (d + 1)
  show dz_X (dz_E dz_pp xo (d + 1)) dz_pp xo (dz_pp 11) Q 0 [some (dz_r q), some (dz_i p)] [] 0 0 (sh, rf, M)
  obtain ⟨m0, m1, m2, m3, m4, m5, m6, m7, m8, m9, m10, m11, m12⟩ := hm
  refine xr_aloadn hc rfl rfl ?_
  refine xr_getfr hc rfl rfl (by first | assumption | rfl) (by first | assumption | rfl) ?_
  refine xr_aloadn hc rfl rfl ?_
  refine xr_getfi hc rfl (Or.inl rfl) (by first | assumption | rfl) ?_
  refine xr_iloadn hc rfl rfl ?_
  refine xr_calls3 hc rfl (by decide) rfl rfl rfl (Nat.le_of_ble_eq_true rfl) (Nat.zero_le _) (Nat.zero_le _) ?_
  refine S_lies (by assumption) (by omega) (by omega) (fun u1 => ?_) (fun k1 u1 u2 => ?_)
  · refine xk_1 ?_
    refine xr_bipush hc rfl ?_
    refine xr_icmp_ne hc rfl (t := 21) rfl (fun b14 => ?_) (fun b14 => ?_)
    · refine xr_iconst hc rfl ?_
      refine xr_zreturn hc rfl rfl (Nat.zero_le _) (Nat.zero_le _) (by first | exact Or.inl rfl | exact Or.inr rfl | assumption) ?_
      first | exact h1 u1 | exact h2 (fun z => z _ u1 u2) | omega
    · refine xr_iconst hc rfl ?_
      refine xr_goto hc rfl (t := 22) rfl ?_
      refine xr_zreturn hc rfl rfl (Nat.zero_le _) (Nat.zero_le _) (by first | exact Or.inl rfl | exact Or.inr rfl | assumption) ?_
      first | exact h1 u1 | exact h2 (fun z => z _ u1 u2) | omega
  · refine xk_1 ?_
    refine xr_bipush hc rfl ?_
    refine xr_icmp_ne hc rfl (t := 21) rfl (fun b14 => ?_) (fun b14 => ?_)
    · refine xr_iconst hc rfl ?_
      refine xr_zreturn hc rfl rfl (Nat.zero_le _) (Nat.zero_le _) (by first | exact Or.inl rfl | exact Or.inr rfl | assumption) ?_
      first | exact h1 u1 | exact h2 (fun z => z _ u1 u2) | omega
    · refine xr_iconst hc rfl ?_
      refine xr_goto hc rfl (t := 22) rfl ?_
      refine xr_zreturn hc rfl rfl (Nat.zero_le _) (Nat.zero_le _) (by first | exact Or.inl rfl | exact Or.inr rfl | assumption) ?_
      first | exact h1 u1 | exact h2 (fun z => z _ u1 u2) | omega
set_option maxRecDepth 100000 in
theorem S_mayLie {xo : Nat → List Int} {d : Nat} {Q : dz_Q} {sh : List (Nat ⊕ (Nat × Nat))} {rf : Nat → Nat → Nat} {M : Nat → Nat → Int} {q : Nat} {i p : Int} (hm : ma_at sh rf q) (hw : 0 ≤ M q 0 ∧ M q 0 ≤ 6) (hi : 0 ≤ i ∧ i < M q 0) (h1 : (M (q + 2) i.toNat = p ∨ free (M (q + 2)) (M q 0) p) → Q (some (dz_i 1)) (sh, rf, M)) (h2 : ¬ (M (q + 2) i.toNat = p ∨ free (M (q + 2)) (M q 0) p) → Q (some (dz_i 0)) (sh, rf, M)) : dz_E dz_pp xo (d + 3) 12 [dz_r q, dz_i i, dz_i p] (sh, rf, M) Q := by
  refine ⟨Nat.le_of_ble_eq_true rfl, ?_⟩
  have hc := dz_E_m dz_pp xo (d + 2)
  show dz_X (dz_E dz_pp xo (d + 2)) dz_pp xo (dz_pp 12) Q 0 [some (dz_r q), some (dz_i i), some (dz_i p)] [] 0 0 (sh, rf, M)
  have hm1 := hm
  obtain ⟨m0, m1, m2, m3, m4, m5, m6, m7, m8, m9, m10, m11, m12⟩ := hm
  refine xr_aloadn hc rfl rfl ?_
  refine xr_getfr hc rfl rfl (by first | assumption | rfl) (by first | assumption | rfl) ?_
  refine xr_iloadn hc rfl rfl ?_
  first | refine xr_iaload hc rfl (by first | assumption | rfl) (by first | omega | (unfold dz_w; omega)) (by first | omega | (unfold dz_w; omega)) ?_ | refine xr_ialoado hc rfl (by first | omega | (unfold dz_w; omega)) (by first | omega | (unfold dz_w; omega)) ?_
  refine xr_iloadn hc rfl rfl ?_
  refine xr_icmp_eq hc rfl (t := 18) rfl (fun b7 => ?_) (fun b7 => ?_)
  · refine xr_iconst hc rfl ?_
    refine xr_goto hc rfl (t := 23) rfl ?_
    refine xr_zreturn hc rfl rfl (Nat.zero_le _) (Nat.zero_le _) (by first | exact Or.inl rfl | exact Or.inr rfl | assumption) ?_
    first | exact h1 (Or.inl (by assumption)) | exact h1 (Or.inr u1) | exact h2 (fun z => z.elim (by assumption) u1)
  · refine xr_aloadn hc rfl rfl ?_
    refine xr_iloadn hc rfl rfl ?_
    refine xr_callv1 hc rfl (by first | assumption | rfl) rfl rfl rfl (Nat.le_of_ble_eq_true rfl) (Nat.zero_le _) (Nat.zero_le _) ?_
    refine S_isFree hm1 hw (fun u1 => ?_) (fun u1 => ?_)
    · refine xk_1 ?_
      refine xr_iff hc rfl (by simp [dz_cmp]) ?_
      refine xr_iconst hc rfl ?_
      refine xr_goto hc rfl (t := 23) rfl ?_
      refine xr_zreturn hc rfl rfl (Nat.zero_le _) (Nat.zero_le _) (by first | exact Or.inl rfl | exact Or.inr rfl | assumption) ?_
      first | exact h1 (Or.inl (by assumption)) | exact h1 (Or.inr u1) | exact h2 (fun z => z.elim (by assumption) u1)
    · refine xk_1 ?_
      refine xr_ift hc rfl (t := 22) rfl (by simp [dz_cmp]) ?_
      refine xr_iconst hc rfl ?_
      refine xr_zreturn hc rfl rfl (Nat.zero_le _) (Nat.zero_le _) (by first | exact Or.inl rfl | exact Or.inr rfl | assumption) ?_
      first | exact h1 (Or.inl (by assumption)) | exact h1 (Or.inr u1) | exact h2 (fun z => z.elim (by assumption) u1)
/-- word of kind k is of kind c too -/
def isof (k c : Int) : Prop := k = c ∨ (c = 1 ∧ (k = 3 ∨ k = 4)) ∨ (c = 2 ∧ k = 5)
set_option maxRecDepth 100000 in
theorem S_isOf_9 {xo : Nat → List Int} {d : Nat} {Q : dz_Q} {sh : List (Nat ⊕ (Nat × Nat))} {rf : Nat → Nat → Nat} {M : Nat → Nat → Int} {q : Nat} {i c u : Int} (hu : 0 ≤ u ∧ u ≤ 6) (hQ : Q (some (dz_i 0)) (sh, rf, M)) : dz_X (dz_E dz_pp xo (d + 1)) dz_pp xo (dz_pp 13) Q 10 [some (dz_r q), some (dz_i i), some (dz_i c), some (dz_i (-9)), some (dz_i u)] [] 0 0 (sh, rf, M) := by
  have hc := dz_E_m dz_pp xo (d + 1)
  refine xr_iload hc rfl rfl ?_
  refine xr_bipush hc rfl ?_
  refine xr_icmp_ge hc rfl (t := 45) rfl (fun b14 => ?_) (fun b14 => ?_)
  · refine xr_iconst hc rfl ?_
    refine xr_zreturn hc rfl rfl (Nat.zero_le _) (Nat.zero_le _) (by first | exact Or.inl rfl | exact Or.inr rfl | assumption) ?_
    exact hQ
  · refine xr_iloadn hc rfl rfl ?_
    refine xr_iconst hc rfl ?_
    refine xr_iconst hc rfl ?_
    refine xr_calls3 hc rfl (by decide) rfl rfl rfl (Nat.le_of_ble_eq_true rfl) (Nat.zero_le _) (Nat.zero_le _) ?_
    refine S_isWithin (fun u1 u2 => ?_) (fun u1 => ?_)
    · refine xk_1 ?_
      refine xr_iff hc rfl (by simp [dz_cmp]) ?_
      omega
    · refine xk_1 ?_
      refine xr_ift hc rfl (t := 45) rfl (by simp [dz_cmp]) ?_
      refine xr_iconst hc rfl ?_
      refine xr_zreturn hc rfl rfl (Nat.zero_le _) (Nat.zero_le _) (by first | exact Or.inl rfl | exact Or.inr rfl | assumption) ?_
      exact hQ
set_option maxRecDepth 100000 in
theorem S_isOf_k {xo : Nat → List Int} {d : Nat} {Q : dz_Q} {sh : List (Nat ⊕ (Nat × Nat))} {rf : Nat → Nat → Nat} {M : Nat → Nat → Int} {q : Nat} {i c u k k2 : Int} (hx : xo 2 = dz_xs2) (hk : 0 ≤ k ∧ k ≤ 5) (hk2 : dz_xs2.getD k.toNat 0 = k2) (hu : 0 ≤ u ∧ u ≤ 5) (h1 : k = c → Q (some (dz_i 1)) (sh, rf, M)) (h2 : k ≠ c → dz_X (dz_E dz_pp xo (d + 1)) dz_pp xo (dz_pp 13) Q 10 [some (dz_r q), some (dz_i i), some (dz_i c), some (dz_i k2), some (dz_i (u + 1))] [] 0 0 (sh, rf, M)) : dz_X (dz_E dz_pp xo (d + 1)) dz_pp xo (dz_pp 13) Q 10 [some (dz_r q), some (dz_i i), some (dz_i c), some (dz_i k), some (dz_i u)] [] 0 0 (sh, rf, M) := by
  have hc := dz_E_m dz_pp xo (d + 1)
  have hlen : (xo 2).length = 6 := by rw [hx]; rfl
  refine xr_iload hc rfl rfl ?_
  refine xr_bipush hc rfl ?_
  refine xr_icmp_ge hc rfl (t := 45) rfl (fun b14 => ?_) (fun b14 => ?_)
  · omega
  · refine xr_iloadn hc rfl rfl ?_
    refine xr_iconst hc rfl ?_
    refine xr_iconst hc rfl ?_
    refine xr_calls3 hc rfl (by decide) rfl rfl rfl (Nat.le_of_ble_eq_true rfl) (Nat.zero_le _) (Nat.zero_le _) ?_
    refine S_isWithin (fun u1 u2 => ?_) (fun u1 => ?_)
    · refine xk_1 ?_
      refine xr_iff hc rfl (by simp [dz_cmp]) ?_
      refine xr_iloadn hc rfl rfl ?_
      refine xr_iloadn hc rfl rfl ?_
      refine xr_icmp_ne hc rfl (t := 33) rfl (fun b28 => ?_) (fun b28 => ?_)
      · refine xr_getstatic hc rfl ?_
        refine xr_iloadn hc rfl rfl ?_
        first | refine xr_iaload hc rfl (by first | assumption | rfl) (by first | omega | (unfold dz_w; omega)) (by first | omega | (unfold dz_w; omega)) ?_ | refine xr_ialoado hc rfl (by first | omega | (unfold dz_w; omega)) (by first | omega | (unfold dz_w; omega)) ?_
        rw [hx, hk2]
        refine xr_istore3 hc rfl rfl ?_
        refine xr_iincz4 hc rfl rfl (by first | exact dz_wid (by first | omega | (unfold dz_w; omega)) (by first | omega | (unfold dz_w; omega)) | rfl) ?_
        refine xr_goto hc rfl (t := 10) rfl ?_
        exact h2 (by omega)
      · refine xr_iconst hc rfl ?_
        refine xr_zreturn hc rfl rfl (Nat.zero_le _) (Nat.zero_le _) (by first | exact Or.inl rfl | exact Or.inr rfl | assumption) ?_
        exact h1 (by omega)
    · refine xk_1 ?_
      refine xr_ift hc rfl (t := 45) rfl (by simp [dz_cmp]) ?_
      omega
set_option maxRecDepth 100000 in
theorem S_isOf {xo : Nat → List Int} {d : Nat} {Q : dz_Q} {sh : List (Nat ⊕ (Nat × Nat))} {rf : Nat → Nat → Nat} {M : Nat → Nat → Int} {q : Nat} {i c : Int} (hx : xo 2 = dz_xs2) (hm : ma_at sh rf q) (hi : 0 ≤ i ∧ i < 6) (hk : 0 ≤ M (q + 1) i.toNat ∧ M (q + 1) i.toNat ≤ 5) (hcc : 1 ≤ c ∧ c ≤ 5) (h1 : isof (M (q + 1) i.toNat) c → Q (some (dz_i 1)) (sh, rf, M)) (h2 : ¬ isof (M (q + 1) i.toNat) c → Q (some (dz_i 0)) (sh, rf, M)) : dz_E dz_pp xo (d + 2) 13 [dz_r q, dz_i i, dz_i c] (sh, rf, M) Q := by
  refine ⟨Nat.le_of_ble_eq_true rfl, ?_⟩
  have hc := dz_E_m dz_pp xo (d + 1)
  show dz_X (dz_E dz_pp xo (d + 1)) dz_pp xo (dz_pp 13) Q 0 [some (dz_r q), some (dz_i i), some (dz_i c), none, none] [] 0 0 (sh, rf, M)
  obtain ⟨m0, m1, m2, m3, m4, m5, m6, m7, m8, m9, m10, m11, m12⟩ := hm
  refine xr_aloadn hc rfl rfl ?_
  refine xr_getfr hc rfl rfl (by first | assumption | rfl) (by first | assumption | rfl) ?_
  refine xr_iloadn hc rfl rfl ?_
  first | refine xr_iaload hc rfl (by first | assumption | rfl) (by first | omega | (unfold dz_w; omega)) (by first | omega | (unfold dz_w; omega)) ?_ | refine xr_ialoado hc rfl (by first | omega | (unfold dz_w; omega)) (by first | omega | (unfold dz_w; omega)) ?_
  refine xr_istore3 hc rfl rfl ?_
  refine xr_iconst hc rfl ?_
  refine xr_istore4 hc rfl rfl ?_
  generalize M (q + 1) i.toNat = k at *
  unfold isof at h1 h2
  rcases (show k = 0 ∨ k = 1 ∨ k = 2 ∨ k = 3 ∨ k = 4 ∨ k = 5 by omega) with rfl | rfl | rfl | rfl | rfl | rfl
  · exact S_isOf_k (k2 := -9) hx (by omega) rfl (by omega) (fun z => by omega) (fun z => S_isOf_9 (by omega) (h2 (by omega)))
  · exact S_isOf_k (k2 := 0) hx (by omega) rfl (by omega) (fun z => h1 (by omega)) (fun z => S_isOf_k (k2 := -9) hx (by omega) rfl (by omega) (fun z => by omega) (fun z => S_isOf_9 (by omega) (h2 (by omega))))
  · exact S_isOf_k (k2 := 0) hx (by omega) rfl (by omega) (fun z => h1 (by omega)) (fun z => S_isOf_k (k2 := -9) hx (by omega) rfl (by omega) (fun z => by omega) (fun z => S_isOf_9 (by omega) (h2 (by omega))))
  · exact S_isOf_k (k2 := 1) hx (by omega) rfl (by omega) (fun z => h1 (by omega)) (fun z => S_isOf_k (k2 := 0) hx (by omega) rfl (by omega) (fun z => h1 (by omega)) (fun z => S_isOf_k (k2 := -9) hx (by omega) rfl (by omega) (fun z => by omega) (fun z => S_isOf_9 (by omega) (h2 (by omega)))))
  · exact S_isOf_k (k2 := 1) hx (by omega) rfl (by omega) (fun z => h1 (by omega)) (fun z => S_isOf_k (k2 := 0) hx (by omega) rfl (by omega) (fun z => h1 (by omega)) (fun z => S_isOf_k (k2 := -9) hx (by omega) rfl (by omega) (fun z => by omega) (fun z => S_isOf_9 (by omega) (h2 (by omega)))))
  · exact S_isOf_k (k2 := 2) hx (by omega) rfl (by omega) (fun z => h1 (by omega)) (fun z => S_isOf_k (k2 := 0) hx (by omega) rfl (by omega) (fun z => h1 (by omega)) (fun z => S_isOf_k (k2 := -9) hx (by omega) rfl (by omega) (fun z => by omega) (fun z => S_isOf_9 (by omega) (h2 (by omega)))))
set_option maxRecDepth 100000 in
theorem S_workOf {xo : Nat → List Int} {d : Nat} {Q : dz_Q} {sh : List (Nat ⊕ (Nat × Nat))} {rf : Nat → Nat → Nat} {M : Nat → Nat → Int} {q : Nat} {i : Int} (hm : ma_at sh rf q) (hi : 0 ≤ i ∧ i < 6) (hk : 0 ≤ M (q + 1) i.toNat ∧ M (q + 1) i.toNat ≤ 5) (ho : 0 ≤ M (q + 4) i.toNat ∧ M (q + 4) i.toNat < 6) (hv : 0 ≤ M (q + 3) (M (q + 4) i.toNat).toNat ∧ M (q + 3) (M (q + 4) i.toNat).toNat ≤ 99) (hQ : Q (some (dz_i (wk (M (q + 1) i.toNat) (M (q + 3) (M (q + 4) i.toNat).toNat)))) (sh, rf, M)) : dz_E dz_pp xo (d + 1) 17 [dz_r q, dz_i i] (sh, rf, M) Q := by
  refine ⟨Nat.le_of_ble_eq_true rfl, ?_⟩
  have hc := dz_E_m dz_pp xo (d + 0)
  show dz_X (dz_E dz_pp xo (d + 0)) dz_pp xo (dz_pp 17) Q 0 [some (dz_r q), some (dz_i i)] [] 0 0 (sh, rf, M)
  obtain ⟨m0, m1, m2, m3, m4, m5, m6, m7, m8, m9, m10, m11, m12⟩ := hm
  have hdiv : Int.tdiv (M (q + 3) (M (q + 4) i.toNat).toNat) 10 = M (q + 3) (M (q + 4) i.toNat).toNat / 10 := Int.tdiv_eq_ediv_of_nonneg hv.1
  unfold wk at hQ
  refine xr_aloadn hc rfl rfl ?_
  refine xr_getfr hc rfl rfl (by first | assumption | rfl) (by first | assumption | rfl) ?_
  refine xr_iloadn hc rfl rfl ?_
  first | refine xr_iaload hc rfl (by first | assumption | rfl) (by first | omega | (unfold dz_w; omega)) (by first | omega | (unfold dz_w; omega)) ?_ | refine xr_ialoado hc rfl (by first | omega | (unfold dz_w; omega)) (by first | omega | (unfold dz_w; omega)) ?_
  refine xr_table hc rfl (fun t6 => ?_) (fun t6 t6b => ?_)
  · refine xr_at (t := 63) rfl ?_
    refine xr_iconst hc rfl ?_
    refine xr_ireturn hc rfl rfl (Nat.zero_le _) (Nat.zero_le _) ?_
    rw [if_neg (by omega), if_neg (by omega), if_neg (by omega), if_neg (by omega)] at hQ
    exact hQ
  · rcases (show M (q + 1) i.toNat = 1 ∨ M (q + 1) i.toNat = 2 ∨ M (q + 1) i.toNat = 3 ∨ M (q + 1) i.toNat = 4 ∨ M (q + 1) i.toNat = 5 by omega) with e6 | e6 | e6 | e6 | e6
    · refine ⟨34, by rw [e6]; rfl, xr_at (t := 40) rfl ?_⟩
      refine xr_iconst hc rfl ?_
      refine xr_ireturn hc rfl rfl (Nat.zero_le _) (Nat.zero_le _) ?_
      rw [if_pos e6] at hQ
      exact hQ
    · refine ⟨57, by rw [e6]; rfl, xr_at (t := 63) rfl ?_⟩
      refine xr_iconst hc rfl ?_
      refine xr_ireturn hc rfl rfl (Nat.zero_le _) (Nat.zero_le _) ?_
      rw [if_neg (by omega), if_neg (by omega), if_neg (by omega), if_neg (by omega)] at hQ
      exact hQ
    · refine ⟨36, by rw [e6]; rfl, xr_at (t := 42) rfl ?_⟩
      refine xr_iconst hc rfl ?_
      refine xr_ireturn hc rfl rfl (Nat.zero_le _) (Nat.zero_le _) ?_
      rw [if_neg (by omega), if_pos e6] at hQ
      exact hQ
    · refine ⟨38, by rw [e6]; rfl, xr_at (t := 44) rfl ?_⟩
      refine xr_iconst hc rfl ?_
      refine xr_aloadn hc rfl rfl ?_
      refine xr_getfr hc rfl rfl (by first | assumption | rfl) (by first | assumption | rfl) ?_
      refine xr_aloadn hc rfl rfl ?_
      refine xr_getfr hc rfl rfl (by first | assumption | rfl) (by first | assumption | rfl) ?_
      refine xr_iloadn hc rfl rfl ?_
      first | refine xr_iaload hc rfl (by first | assumption | rfl) (by first | omega | (unfold dz_w; omega)) (by first | omega | (unfold dz_w; omega)) ?_ | refine xr_ialoado hc rfl (by first | omega | (unfold dz_w; omega)) (by first | omega | (unfold dz_w; omega)) ?_
      first | refine xr_iaload hc rfl (by first | assumption | rfl) (by first | omega | (unfold dz_w; omega)) (by first | omega | (unfold dz_w; omega)) ?_ | refine xr_ialoado hc rfl (by first | omega | (unfold dz_w; omega)) (by first | omega | (unfold dz_w; omega)) ?_
      refine xr_bipush hc rfl ?_
      refine xr_idivz hc rfl (by first | omega | (unfold dz_w; omega)) (by first | exact dz_wid (by first | omega | (unfold dz_w; omega)) (by first | omega | (unfold dz_w; omega)) | rfl) ?_
      refine xr_iaddz hc rfl (by first | exact dz_wid (by first | omega | (unfold dz_w; omega)) (by first | omega | (unfold dz_w; omega)) | rfl) ?_
      refine xr_ireturn hc rfl rfl (Nat.zero_le _) (Nat.zero_le _) ?_
      rw [if_neg (by omega), if_neg (by omega), if_pos e6] at hQ
      rw [hdiv]
      exact hQ
    · refine ⟨55, by rw [e6]; rfl, xr_at (t := 61) rfl ?_⟩
      refine xr_iconst hc rfl ?_
      refine xr_ireturn hc rfl rfl (Nat.zero_le _) (Nat.zero_le _) ?_
      rw [if_neg (by omega), if_neg (by omega), if_neg (by omega), if_pos e6] at hQ
      exact hQ
set_option maxRecDepth 100000 in
theorem S_dueBehind {xo : Nat → List Int} {d : Nat} {Q : dz_Q} {sh : List (Nat ⊕ (Nat × Nat))} {rf : Nat → Nat → Nat} {M : Nat → Nat → Int} {q : Nat} {i : Int} (hm : ma_at sh rf q) (hi : 0 ≤ i ∧ i < 6) (hQ : Q (some (dz_i (du (M (q + 1)) (M (q + 4)) (M (q + 5)) (M q 3) i.toNat))) (sh, rf, M)) : dz_E dz_pp xo (d + 1) 18 [dz_r q, dz_i i] (sh, rf, M) Q := by
  refine ⟨Nat.le_of_ble_eq_true rfl, ?_⟩
  have hc := dz_E_m dz_pp xo (d + 0)
  show dz_X (dz_E dz_pp xo (d + 0)) dz_pp xo (dz_pp 18) Q 0 [some (dz_r q), some (dz_i i)] [] 0 0 (sh, rf, M)
  obtain ⟨m0, m1, m2, m3, m4, m5, m6, m7, m8, m9, m10, m11, m12⟩ := hm
  unfold du at hQ
  refine xr_aloadn hc rfl rfl ?_
  refine xr_getfr hc rfl rfl (by first | assumption | rfl) (by first | assumption | rfl) ?_
  refine xr_iloadn hc rfl rfl ?_
  first | refine xr_iaload hc rfl (by first | assumption | rfl) (by first | omega | (unfold dz_w; omega)) (by first | omega | (unfold dz_w; omega)) ?_ | refine xr_ialoado hc rfl (by first | omega | (unfold dz_w; omega)) (by first | omega | (unfold dz_w; omega)) ?_
  refine xr_if_ne hc rfl (t := 12) rfl (fun b6 => ?_) (fun b6 => ?_)
  · refine xr_aloadn hc rfl rfl ?_
    refine xr_getfr hc rfl rfl (by first | assumption | rfl) (by first | assumption | rfl) ?_
    refine xr_iloadn hc rfl rfl ?_
    first | refine xr_iaload hc rfl (by first | assumption | rfl) (by first | omega | (unfold dz_w; omega)) (by first | omega | (unfold dz_w; omega)) ?_ | refine xr_ialoado hc rfl (by first | omega | (unfold dz_w; omega)) (by first | omega | (unfold dz_w; omega)) ?_
    refine xr_iconst hc rfl ?_
    refine xr_icmp_ne hc rfl (t := 40) rfl (fun b19 => ?_) (fun b19 => ?_)
    · refine xr_aloadn hc rfl rfl ?_
      refine xr_getfr hc rfl rfl (by first | assumption | rfl) (by first | assumption | rfl) ?_
      refine xr_iloadn hc rfl rfl ?_
      first | refine xr_iaload hc rfl (by first | assumption | rfl) (by first | omega | (unfold dz_w; omega)) (by first | omega | (unfold dz_w; omega)) ?_ | refine xr_ialoado hc rfl (by first | omega | (unfold dz_w; omega)) (by first | omega | (unfold dz_w; omega)) ?_
      refine xr_ireturn hc rfl rfl (Nat.zero_le _) (Nat.zero_le _) ?_
      first
        | (rw [if_neg (by omega), if_pos ⟨by omega, by omega⟩] at hQ; exact hQ)
        | (rw [if_neg (by omega), if_neg (by omega)] at hQ; exact hQ)
    · refine xr_aloadn hc rfl rfl ?_
      refine xr_getfi hc rfl (Or.inl rfl) (by first | assumption | rfl) ?_
      refine xr_bipush hc rfl ?_
      refine xr_icmp_lt hc rfl (t := 40) rfl (fun b28 => ?_) (fun b28 => ?_)
      · refine xr_aloadn hc rfl rfl ?_
        refine xr_getfr hc rfl rfl (by first | assumption | rfl) (by first | assumption | rfl) ?_
        refine xr_iloadn hc rfl rfl ?_
        first | refine xr_iaload hc rfl (by first | assumption | rfl) (by first | omega | (unfold dz_w; omega)) (by first | omega | (unfold dz_w; omega)) ?_ | refine xr_ialoado hc rfl (by first | omega | (unfold dz_w; omega)) (by first | omega | (unfold dz_w; omega)) ?_
        refine xr_ireturn hc rfl rfl (Nat.zero_le _) (Nat.zero_le _) ?_
        first
          | (rw [if_neg (by omega), if_pos ⟨by omega, by omega⟩] at hQ; exact hQ)
          | (rw [if_neg (by omega), if_neg (by omega)] at hQ; exact hQ)
      · refine xr_aloadn hc rfl rfl ?_
        refine xr_getfr hc rfl rfl (by first | assumption | rfl) (by first | assumption | rfl) ?_
        refine xr_iloadn hc rfl rfl ?_
        first | refine xr_iaload hc rfl (by first | assumption | rfl) (by first | omega | (unfold dz_w; omega)) (by first | omega | (unfold dz_w; omega)) ?_ | refine xr_ialoado hc rfl (by first | omega | (unfold dz_w; omega)) (by first | omega | (unfold dz_w; omega)) ?_
        refine xr_goto hc rfl (t := 46) rfl ?_
        refine xr_ireturn hc rfl rfl (Nat.zero_le _) (Nat.zero_le _) ?_
        first
          | (rw [if_neg (by omega), if_pos ⟨by omega, by omega⟩] at hQ; exact hQ)
          | (rw [if_neg (by omega), if_neg (by omega)] at hQ; exact hQ)
  · refine xr_bipush hc rfl ?_
    refine xr_ireturn hc rfl rfl (Nat.zero_le _) (Nat.zero_le _) ?_
    rw [if_pos (by omega)] at hQ
    exact hQ
