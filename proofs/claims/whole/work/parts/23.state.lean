/-! A machine holds a state; its deeds. Written by l2_23.py. -/
/-- machine q holds the program (w words, pl places, kinds, with, next) and the state s: 1 beat, 2 sum, 3 due, 4 steps, 5.. places, 11.. values, 17.. how often -/
def mrel (M : Nat → Nat → Int) (q : Nat) (w pl : Int) (kd wt nx s : Nat → Int) : Prop := M q 0 = w ∧ M q 1 = pl ∧ M q 2 = s 1 ∧ M q 3 = s 2 ∧ M q 4 = s 3 ∧ M q 5 = s 4 ∧ ∀ i : Nat, (i : Int) < w → M (q + 1) i = kd i ∧ M (q + 2) i = s (5 + i) ∧ M (q + 3) i = s (11 + i) ∧ M (q + 4) i = wt i ∧ M (q + 5) i = nx i ∧ M (q + 6) i = s (17 + i)
/-- the beat behind a step of a word of kind k at place pi, its other word at po with value vo -/
def bt (pl k pi po b vo : Int) : Int := (if k = 1 ∨ k = 3 ∨ k = 4 then (b + wa pi b pl + 1) + wa po (b + wa pi b pl + 1) pl + 1 else b + wa pi b pl + 1) + wk k vo
/-- a step -/
def stp (pl : Int) (kd wt nx s : Nat → Int) : Nat → Int := fun c =>
  if c = 1 then bt pl (kd (s 3).toNat) (s (5 + (s 3).toNat)) (s (5 + (wt (s 3).toNat).toNat)) (s 1) (s (11 + (wt (s 3).toNat).toNat))
  else if c = 2 then su (kd (s 3).toNat) (s 2) (s (11 + (wt (s 3).toNat).toNat))
  else if c = 3 then du kd wt nx (s 2) (s 3).toNat
  else if c = 4 then s 4 + 1
  else if c = 17 + (s 3).toNat then s c + 1
  else if kd (s 3).toNat = 3 ∧ c = 11 + (wt (s 3).toNat).toNat then s 2
  else s c
theorem stp_p {pl : Int} {kd wt nx s : Nat → Int} {i : Nat} (hi : i < 6) : stp pl kd wt nx s (5 + i) = s (5 + i) := by
  unfold stp
  rw [if_neg (by omega), if_neg (by omega), if_neg (by omega), if_neg (by omega), if_neg (by omega), if_neg (by omega)]
theorem stp_v {pl : Int} {kd wt nx s : Nat → Int} {i : Nat} (hi : i < 6) : stp pl kd wt nx s (11 + i) = if kd (s 3).toNat = 3 ∧ i = (wt (s 3).toNat).toNat then s 2 else s (11 + i) := by
  unfold stp
  rw [if_neg (by omega), if_neg (by omega), if_neg (by omega), if_neg (by omega), if_neg (by omega)]
  by_cases e : kd (s 3).toNat = 3 ∧ i = (wt (s 3).toNat).toNat
  · rw [if_pos e, if_pos ⟨e.1, by omega⟩]
  · rw [if_neg e, if_neg (fun u => e ⟨u.1, by omega⟩)]
theorem stp_o {pl : Int} {kd wt nx s : Nat → Int} {i : Nat} (ho : (wt (s 3).toNat).toNat < 6) : stp pl kd wt nx s (17 + i) = if i = (s 3).toNat then s (17 + i) + 1 else s (17 + i) := by
  unfold stp
  rw [if_neg (by omega), if_neg (by omega), if_neg (by omega), if_neg (by omega)]
  by_cases e : i = (s 3).toNat
  · rw [if_pos e, if_pos (by omega)]
  · rw [if_neg e, if_neg (by omega), if_neg (by omega)]
/-- what else than the state of machine q is as it was -/
def mfr (M M2 : Nat → Nat → Int) (q : Nat) : Prop := (∀ q2 k, q2 ≠ q → q2 ≠ q + 2 → q2 ≠ q + 3 → q2 ≠ q + 6 → M2 q2 k = M q2 k) ∧ ∀ k, k < 2 ∨ 5 < k → M2 q k = M q k
theorem wa_in {p b pl : Int} (h : 0 < pl) : 0 ≤ wa p b pl ∧ wa p b pl < pl := ⟨Int.emod_nonneg _ (by omega), Int.emod_lt_of_pos _ h⟩
theorem wk_in {k v : Int} (h : 0 ≤ v ∧ v ≤ 99) : 0 ≤ wk k v ∧ wk k v ≤ 11 := by
  unfold wk
  split
  · omega
  · split
    · omega
    · split
      · omega
      · split <;> omega
theorem bt_in {pl k pi po b vo : Int} (hp : 6 ≤ pl ∧ pl ≤ 9) (hv : 0 ≤ vo ∧ vo ≤ 99) : b + 1 ≤ bt pl k pi po b vo ∧ bt pl k pi po b vo ≤ b + 29 := by
  unfold bt
  have h1 := wa_in (p := pi) (b := b) (pl := pl) (by omega)
  have h2 := wa_in (p := po) (b := b + wa pi b pl + 1) (pl := pl) (by omega)
  have h3 := wk_in (k := k) hv
  split <;> omega
theorem su_in {k sm v : Int} (hs : 0 ≤ sm ∧ sm ≤ 99) : 0 ≤ su k sm v ∧ su k sm v ≤ 99 := by
  unfold su
  split
  · omega
  · split
    · have h1 := Int.emod_nonneg (sm * v) (show (100 : Int) ≠ 0 by omega)
      have h2 := Int.emod_lt_of_pos (sm * v) (show (0 : Int) < 100 by omega)
      omega
    · exact hs
theorem stp_ok {w pl B : Int} {kd wt nx s : Nat → Int} (hp : pgok w pl kd wt nx) (hs : stok w pl B s) (hB : B + 29 ≤ 1000000) (hd : s 3 ≠ -9) : stok w pl (B + 29) (stp pl kd wt nx s) := by
  obtain ⟨p1, p2, p3, p4, p5⟩ := hp
  obtain ⟨s0, s1, s2, s3, s4, s5, s6, s7, s8⟩ := hs
  have hi : ((s 3).toNat : Int) < w := by omega
  obtain ⟨k1, k2, k3, k4, k5, k6⟩ := p5 (s 3).toNat hi
  have hoo : ((wt (s 3).toNat).toNat : Int) < w := by omega
  obtain ⟨a1, a2, a3, a4, a5, a6⟩ := s8 (s 3).toNat hi
  obtain ⟨c1, c2, c3, c4, c5, c6⟩ := s8 (wt (s 3).toNat).toNat hoo
  have hb := bt_in (pl := pl) (k := kd (s 3).toNat) (pi := s (5 + (s 3).toNat)) (po := s (5 + (wt (s 3).toNat).toNat)) (b := s 1) (vo := s (11 + (wt (s 3).toNat).toNat)) ⟨p3, p4⟩ ⟨c3, c4⟩
  have hsu := su_in (k := kd (s 3).toNat) (v := s (11 + (wt (s 3).toNat).toNat)) ⟨s3, s4⟩
  have hdu : du kd wt nx (s 2) (s 3).toNat = -9 ∨ (0 ≤ du kd wt nx (s 2) (s 3).toNat ∧ du kd wt nx (s 2) (s 3).toNat < w) := by
    unfold du
    split
    · exact Or.inl rfl
    · split <;> exact Or.inr (by omega)
  have e1 : stp pl kd wt nx s 1 = bt pl (kd (s 3).toNat) (s (5 + (s 3).toNat)) (s (5 + (wt (s 3).toNat).toNat)) (s 1) (s (11 + (wt (s 3).toNat).toNat)) := rfl
  have e2 : stp pl kd wt nx s 2 = su (kd (s 3).toNat) (s 2) (s (11 + (wt (s 3).toNat).toNat)) := rfl
  have e3 : stp pl kd wt nx s 3 = du kd wt nx (s 2) (s 3).toNat := rfl
  have e4 : stp pl kd wt nx s 4 = s 4 + 1 := rfl
  refine ⟨hB, by rw [e1]; omega, by rw [e1]; omega, by rw [e2]; omega, by rw [e2]; omega, by rw [e3]; exact hdu, by rw [e4]; omega, by rw [e4]; omega, fun i hi2 => ?_⟩
  obtain ⟨d1, d2, d3, d4, d5, d6⟩ := s8 i hi2
  rw [stp_p (by omega), stp_v (by omega), stp_o (by omega)]
  refine ⟨d1, d2, ?_⟩
  split
  · split <;> omega
  · split <;> omega
set_option maxRecDepth 100000 in
theorem S_doStep {xo : Nat → List Int} {d : Nat} {Q : dz_Q} {sh : List (Nat ⊕ (Nat × Nat))} {rf : Nat → Nat → Nat} {M : Nat → Nat → Int} {q : Nat} {w pl B : Int} {kd wt nx s : Nat → Int} (hx : xo 2 = dz_xs2) (hm : ma_at sh rf q) (hp : pgok w pl kd wt nx) (hs : stok w pl B s) (hr : mrel M q w pl kd wt nx s) (hB : B ≤ 998000) (hd : s 3 ≠ -9) (hQ : ∀ M2 : Nat → Nat → Int, mfr M M2 q → mrel M2 q w pl kd wt nx (stp pl kd wt nx s) → Q (some (dz_i (stp pl kd wt nx s 1 - s 1))) (sh, rf, M2)) : dz_E dz_pp xo (d + 4) 21 [dz_r q] (sh, rf, M) Q := by
  refine ⟨Nat.le_of_ble_eq_true rfl, ?_⟩
  have hc := dz_E_m dz_pp xo (d + 3)
  show dz_X (dz_E dz_pp xo (d + 3)) dz_pp xo (dz_pp 21) Q 0 [some (dz_r q), none, none] [] 0 0 (sh, rf, M)
  have hm1 := hm
  obtain ⟨m0, m1, m2, m3, m4, m5, m6, m7, m8, m9, m10, m11, m12⟩ := hm
  obtain ⟨p1, p2, p3, p4, p5⟩ := hp
  obtain ⟨s0, s1, s2, s3, s4, s5, s6, s7, s8⟩ := hs
  obtain ⟨r0, r1, r2, r3, r4, r5, r6⟩ := hr
  have hi : ((s 3).toNat : Int) < w := by omega
  obtain ⟨k1, k2, k3, k4, k5, k6⟩ := p5 (s 3).toNat hi
  have hoo : ((wt (s 3).toNat).toNat : Int) < w := by omega
  obtain ⟨a1, a2, a3, a4, a5, a6⟩ := s8 (s 3).toNat hi
  obtain ⟨c1, c2, c3, c4, c5, c6⟩ := s8 (wt (s 3).toNat).toNat hoo
  obtain ⟨x1, x2, x3, x4, x5, x6⟩ := r6 (s 3).toNat hi
  obtain ⟨y1, y2, y3, y4, y5, y6⟩ := r6 (wt (s 3).toNat).toNat hoo
  have hw1 := wa_in (p := s (5 + (s 3).toNat)) (b := s 1) (pl := pl) (by omega)
  have hk3 := wk_in (k := kd (s 3).toNat) (v := s (11 + (wt (s 3).toNat).toNat)) ⟨c3, c4⟩
  have fin : ∀ (M1 M2 : Nat → Nat → Int), (∀ q2 k, ¬ (q2 = q ∧ k = 2) → M1 q2 k = M q2 k) → M1 q 2 = bt pl (kd (s 3).toNat) (s (5 + (s 3).toNat)) (s (5 + (wt (s 3).toNat).toNat)) (s 1) (s (11 + (wt (s 3).toNat).toNat)) → (∀ q2 k, q2 ≠ q → q2 ≠ q + 3 → q2 ≠ q + 6 → M2 q2 k = M1 q2 k) → (∀ k, k ≠ 3 → k ≠ 4 → k ≠ 5 → M2 q k = M1 q k) → M2 q 3 = su (kd (s 3).toNat) (s 2) (s (11 + (wt (s 3).toNat).toNat)) → M2 q 4 = du (M (q + 1)) (M (q + 4)) (M (q + 5)) (s 2) (s 3).toNat → M2 q 5 = s 4 + 1 → (∀ j, M2 (q + 3) j = if kd (s 3).toNat = 3 ∧ j = (wt (s 3).toNat).toNat then s 2 else M (q + 3) j) → (∀ j, M2 (q + 6) j = if j = (s 3).toNat then M (q + 6) j + 1 else M (q + 6) j) → mfr M M2 q ∧ mrel M2 q w pl kd wt nx (stp pl kd wt nx s) := by
    intro M1 M2 z1 z2 z3 z4 z5 z6 z7 z8 z9
    refine ⟨⟨fun q2 k u1 u2 u3 u4 => by rw [z3 q2 k u1 u3 u4, z1 q2 k (fun v => u1 v.1)], fun k hk => by rw [z4 k (by omega) (by omega) (by omega), z1 q k (fun v => by omega)]⟩, ?_, ?_, ?_, ?_, ?_, ?_, fun i hi2 => ?_⟩
    · rw [z4 0 (by omega) (by omega) (by omega), z1 q 0 (by omega), r0]
    · rw [z4 1 (by omega) (by omega) (by omega), z1 q 1 (by omega), r1]
    · rw [z4 2 (by omega) (by omega) (by omega), z2]
      rfl
    · rw [z5]
      rfl
    · rw [z6]
      show du _ _ _ _ _ = du _ _ _ _ _
      unfold du
      rw [x1, x4, x5]
    · rw [z7]
      rfl
    · obtain ⟨v1, v2, v3, v4, v5, v6⟩ := r6 i hi2
      refine ⟨by rw [z3 _ _ (by omega) (by omega) (by omega), z1 _ _ (by omega), v1], ?_, ?_, by rw [z3 _ _ (by omega) (by omega) (by omega), z1 _ _ (by omega), v4], by rw [z3 _ _ (by omega) (by omega) (by omega), z1 _ _ (by omega), v5], ?_⟩
      · rw [z3 _ _ (by omega) (by omega) (by omega), z1 _ _ (by omega), v2, stp_p (by omega)]
      · rw [z8, v3, stp_v (by omega)]
      · rw [z9, v6, stp_o (by omega)]
  have tl : ∀ (M1 : Nat → Nat → Int), (∀ q2 k, ¬ (q2 = q ∧ k = 2) → M1 q2 k = M q2 k) → M1 q 2 + wk (kd (s 3).toNat) (s (11 + (wt (s 3).toNat).toNat)) = bt pl (kd (s 3).toNat) (s (5 + (s 3).toNat)) (s (5 + (wt (s 3).toNat).toNat)) (s 1) (s (11 + (wt (s 3).toNat).toNat)) → dz_X (dz_E dz_pp xo (d + 3)) dz_pp xo (dz_pp 21) Q 45 [some (dz_r q), some (dz_i (s 1)), some (dz_i (s 3))] [] 0 0 (sh, rf, M1) := by
    intro M1 f1 g1
    have X1 : M1 (q + 1) (s 3).toNat = kd (s 3).toNat := by rw [f1 _ _ (by omega), x1]
    have X4 : M1 (q + 4) (s 3).toNat = wt (s 3).toNat := by rw [f1 _ _ (by omega), x4]
    have Y3 : M1 (q + 3) (wt (s 3).toNat).toNat = s (11 + (wt (s 3).toNat).toNat) := by rw [f1 _ _ (by omega), y3]
    have hbt := bt_in (pl := pl) (k := kd (s 3).toNat) (pi := s (5 + (s 3).toNat)) (po := s (5 + (wt (s 3).toNat).toNat)) (b := s 1) (vo := s (11 + (wt (s 3).toNat).toNat)) ⟨p3, p4⟩ ⟨c3, c4⟩
    refine xr_aloadn hc rfl rfl ?_
    refine xr_dup hc rfl rfl ?_
    refine xr_getfi hc rfl (Or.inl rfl) (by first | assumption | rfl) ?_
    refine xr_aloadn hc rfl rfl ?_
    refine xr_iloadn hc rfl rfl ?_
    refine xr_callv1 hc rfl (by first | assumption | rfl) rfl rfl rfl (Nat.le_of_ble_eq_true rfl) (Nat.zero_le _) (Nat.zero_le _) ?_
    refine S_workOf hm1 (by omega) (by rw [X1]; omega) (by rw [X4]; omega) (by rw [X4, Y3]; omega) ?_
    rw [X1, X4, Y3]
    refine xk_1 ?_
    refine xr_iaddz hc rfl (by first | exact dz_wid (by first | omega | (unfold dz_w; omega)) (by first | omega | (unfold dz_w; omega)) | rfl) ?_
    refine xr_putfi hc rfl rfl (by first | assumption | rfl) ?_
    refine xr_aloadn hc rfl rfl ?_
    refine xr_iloadn hc rfl rfl ?_
    refine xr_callv1 hc rfl (by first | assumption | rfl) rfl rfl rfl (Nat.le_of_ble_eq_true rfl) (Nat.zero_le _) (Nat.zero_le _) ?_
    obtain ⟨M3, hM3⟩ : ∃ M3, M3 = dz_up M1 q 2 (M1 q 2 + wk (kd (s 3).toNat) (s (11 + (wt (s 3).toNat).toNat))) := ⟨_, rfl⟩
    rw [← hM3]
    have f3 : ∀ q2 k, ¬ (q2 = q ∧ k = 2) → M3 q2 k = M q2 k := fun q2 k z => by rw [hM3]; unfold dz_up; rw [if_neg z, f1 q2 k z]
    have g3 : M3 q 2 = bt pl (kd (s 3).toNat) (s (5 + (s 3).toNat)) (s (5 + (wt (s 3).toNat).toNat)) (s 1) (s (11 + (wt (s 3).toNat).toNat)) := by rw [hM3, dz_up_eq, g1]
    have u1 : M3 (q + 1) (s 3).toNat = kd (s 3).toNat := by rw [f3 _ _ (by omega), x1]
    have u4 : M3 (q + 4) (s 3).toNat = wt (s 3).toNat := by rw [f3 _ _ (by omega), x4]
    have u3 : M3 (q + 3) (wt (s 3).toNat).toNat = s (11 + (wt (s 3).toNat).toNat) := by rw [f3 _ _ (by omega), y3]
    have us : M3 q 3 = s 2 := by rw [f3 _ _ (by omega), r3]
    have u5 : M3 q 5 = s 4 := by rw [f3 _ _ (by omega), r5]
    have u6 : M3 (q + 6) (s 3).toNat = s (17 + (s 3).toNat) := by rw [f3 _ _ (by omega), x6]
    refine S_act hm1 (by omega) (by rw [u1]; omega) (by rw [u4]; omega) (by rw [u4, u3]; omega) (by rw [us]; omega) (by rw [u5]; omega) (by rw [u6]; omega) (fun M2 z3 z4 z5 z6 z7 z8 z9 => ?_)
    rw [u1, us, u4, u3] at z5
    rw [us] at z6
    rw [u5] at z7
    obtain ⟨e1, e2⟩ := fin M3 M2 f3 g3 z3 z4 z5 (by rw [z6]; unfold du; rw [f3 _ _ (by omega), f3 _ _ (by omega), f3 _ _ (by omega)]) z7 (fun j => by rw [z8 j, u1, u4, us, f3 _ _ (by omega)]) (fun j => by rw [z9 j, f3 _ _ (by omega)])
    have hz : M2 q 2 = bt pl (kd (s 3).toNat) (s (5 + (s 3).toNat)) (s (5 + (wt (s 3).toNat).toNat)) (s 1) (s (11 + (wt (s 3).toNat).toNat)) := e2.2.2.1
    refine xk_0 ?_
    refine xr_aloadn hc rfl rfl ?_
    refine xr_getfi hc rfl (Or.inl rfl) (by first | assumption | rfl) ?_
    refine xr_iloadn hc rfl rfl ?_
    refine xr_isubz hc rfl (by first | exact dz_wid (by first | omega | (unfold dz_w; omega)) (by first | omega | (unfold dz_w; omega)) | rfl) ?_
    refine xr_ireturn hc rfl rfl (Nat.zero_le _) (Nat.zero_le _) ?_
    rw [hz]
    exact hQ M2 e1 e2
  refine xr_aloadn hc rfl rfl ?_
  refine xr_getfi hc rfl (Or.inl rfl) (by first | assumption | rfl) ?_
  rw [r2]
  refine xr_istore1 hc rfl rfl ?_
  refine xr_aloadn hc rfl rfl ?_
  refine xr_getfi hc rfl (Or.inl rfl) (by first | assumption | rfl) ?_
  rw [r4]
  refine xr_istore2 hc rfl rfl ?_
  refine xr_aloadn hc rfl rfl ?_
  refine xr_iloadn hc rfl rfl ?_
  refine xr_callv1 hc rfl (by first | assumption | rfl) rfl rfl rfl (Nat.le_of_ble_eq_true rfl) (Nat.zero_le _) (Nat.zero_le _) ?_
  refine S_has hm1 (by omega) (fun u1 u2 => ?_) (fun u1 => ?_)
  · refine xk_1 ?_
    refine xr_ift hc rfl (t := 21) rfl (by simp [dz_cmp]) ?_
    refine xr_aloadn hc rfl rfl ?_
    refine xr_iloadn hc rfl rfl ?_
    refine xr_callv1 hc rfl (by first | assumption | rfl) rfl rfl rfl (Nat.le_of_ble_eq_true rfl) (Nat.zero_le _) (Nat.zero_le _) ?_
    refine S_readWord hm1 (by omega) (by rw [x2]; omega) (by rw [r2]; omega) (by rw [r1]; omega) (fun M1 f1 G1 => ?_)
    rw [x2, r2, r1] at G1
    have X1 : M1 (q + 1) (s 3).toNat = kd (s 3).toNat := by rw [f1 _ _ (by omega), x1]
    have X4 : M1 (q + 4) (s 3).toNat = wt (s 3).toNat := by rw [f1 _ _ (by omega), x4]
    have Y2 : M1 (q + 2) (wt (s 3).toNat).toNat = s (5 + (wt (s 3).toNat).toNat) := by rw [f1 _ _ (by omega), y2]
    have R1 : M1 q 1 = pl := by rw [f1 _ _ (by omega), r1]
    refine xk_0 ?_
    refine xr_aloadn hc rfl rfl ?_
    refine xr_iloadn hc rfl rfl ?_
    refine xr_iconst hc rfl ?_
    refine xr_callv2 hc rfl (by first | assumption | rfl) rfl rfl rfl (Nat.le_of_ble_eq_true rfl) (Nat.zero_le _) (Nat.zero_le _) ?_
    refine S_isOf hx hm1 (by omega) (by rw [X1]; omega) (by omega) (fun g1 => ?_) (fun g1 => ?_)
    · refine xk_1 ?_
      refine xr_iff hc rfl (by simp [dz_cmp]) ?_
      refine xr_aloadn hc rfl rfl ?_
      refine xr_aloadn hc rfl rfl ?_
      refine xr_getfr hc rfl rfl (by first | assumption | rfl) (by first | assumption | rfl) ?_
      refine xr_iloadn hc rfl rfl ?_
      first | refine xr_iaload hc rfl (by first | assumption | rfl) (by first | omega | (unfold dz_w; omega)) (by first | omega | (unfold dz_w; omega)) ?_ | refine xr_ialoado hc rfl (by first | omega | (unfold dz_w; omega)) (by first | omega | (unfold dz_w; omega)) ?_
      refine xr_callv1 hc rfl (by first | assumption | rfl) rfl rfl rfl (Nat.le_of_ble_eq_true rfl) (Nat.zero_le _) (Nat.zero_le _) ?_
      refine S_readWord hm1 (by rw [X4]; omega) (by rw [X4, Y2]; omega) (by rw [G1]; omega) (by rw [R1]; omega) (fun M2 f2 g2 => ?_)
      rw [X4, Y2, R1, G1] at g2
      refine xk_0 ?_
      first
        | exact tl _ (fun q2 k z => by rw [f2 q2 k z, f1 q2 k z]) (by unfold bt; rw [if_pos (by unfold isof at g1; rw [X1] at g1; omega), g2])
        | exact tl _ f1 (by unfold bt; rw [if_neg (by unfold isof at g1; rw [X1] at g1; omega), G1])
    · refine xk_1 ?_
      refine xr_ift hc rfl (t := 45) rfl (by simp [dz_cmp]) ?_
      first
        | exact tl _ (fun q2 k z => by rw [f2 q2 k z, f1 q2 k z]) (by unfold bt; rw [if_pos (by unfold isof at g1; rw [X1] at g1; omega), g2])
        | exact tl _ f1 (by unfold bt; rw [if_neg (by unfold isof at g1; rw [X1] at g1; omega), G1])
  · refine xk_1 ?_
    refine xr_iff hc rfl (by simp [dz_cmp]) ?_
    omega
