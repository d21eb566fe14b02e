/-! Machine: deeds, what is told. Written by l2_24.py. -/
def mv (s : Nat → Int) (i : Nat) (p : Int) : Nat → Int := fun c => if c = 5 + i then p else s c
def sw (s : Nat → Int) (i j : Nat) : Nat → Int := fun c => if c = 5 + i then s (5 + j) else if c = 5 + j then s (5 + i) else s c
def vl (s : Nat → Int) (i : Nat) (v : Int) : Nat → Int := fun c => if c = 11 + i then v else s c
/-- a write into one array of a machine -/
theorem mrel_arr {M M2 : Nat → Nat → Int} {q a : Nat} {w pl : Int} {kd wt nx s s2 : Nat → Int} (hw : w ≤ 6) (ha : a = 2 ∨ a = 3) (hr : mrel M q w pl kd wt nx s) (h1 : ∀ q2 k, q2 ≠ q + a → M2 q2 k = M q2 k) (h2 : ∀ c, c < 5 → s2 c = s c) (h3 : ∀ i, i < 6 → s2 (17 + i) = s (17 + i)) (h4 : ∀ i : Nat, (i : Int) < w → M2 (q + 2) i = s2 (5 + i)) (h5 : ∀ i : Nat, (i : Int) < w → M2 (q + 3) i = s2 (11 + i)) : mrel M2 q w pl kd wt nx s2 := by
  obtain ⟨r0, r1, r2, r3, r4, r5, r6⟩ := hr
  refine ⟨by rw [h1 _ _ (by omega), r0], by rw [h1 _ _ (by omega), r1], by rw [h1 _ _ (by omega), r2, h2 1 (by omega)], by rw [h1 _ _ (by omega), r3, h2 2 (by omega)], by rw [h1 _ _ (by omega), r4, h2 3 (by omega)], by rw [h1 _ _ (by omega), r5, h2 4 (by omega)], fun i hi => ?_⟩
  obtain ⟨v1, v2, v3, v4, v5, v6⟩ := r6 i hi
  exact ⟨by rw [h1 _ _ (by omega), v1], h4 i hi, h5 i hi, by rw [h1 _ _ (by omega), v4], by rw [h1 _ _ (by omega), v5], by rw [h1 _ _ (by omega), v6, h3 i (by omega)]⟩
theorem mv_eq (s : Nat → Int) (i : Nat) (p : Int) : mv s i p (5 + i) = p := if_pos rfl
theorem mv_ne {s : Nat → Int} {i c : Nat} {p : Int} (h : c ≠ 5 + i) : mv s i p c = s c := if_neg h
theorem vl_eq (s : Nat → Int) (i : Nat) (p : Int) : vl s i p (11 + i) = p := if_pos rfl
theorem vl_ne {s : Nat → Int} {i c : Nat} {p : Int} (h : c ≠ 11 + i) : vl s i p c = s c := if_neg h
theorem sw_1 (s : Nat → Int) (i j : Nat) : sw s i j (5 + i) = s (5 + j) := if_pos rfl
theorem sw_2 (s : Nat → Int) (i j : Nat) : sw s i j (5 + j) = s (5 + i) := by
  unfold sw
  by_cases h : 5 + j = 5 + i
  · rw [if_pos h, h]
  · rw [if_neg h, if_pos rfl]
theorem sw_ne {s : Nat → Int} {i j c : Nat} (h : c ≠ 5 + i) (h2 : c ≠ 5 + j) : sw s i j c = s c := by
  unfold sw
  rw [if_neg h, if_neg h2]
theorem stok_of {w pl B : Int} {s s2 : Nat → Int} (hs : stok w pl B s) (h0 : ∀ c, c < 5 → s2 c = s c) (h1 : ∀ i : Nat, (i : Int) < w → 0 ≤ s2 (5 + i) ∧ s2 (5 + i) < pl ∧ 0 ≤ s2 (11 + i) ∧ s2 (11 + i) ≤ 99 ∧ s2 (17 + i) = s (17 + i)) : stok w pl B s2 := by
  obtain ⟨t0, t1, t2, t3, t4, t5, t6, t7, t8⟩ := hs
  refine ⟨t0, by rw [h0 1 (by omega)]; exact t1, by rw [h0 1 (by omega)]; exact t2, by rw [h0 2 (by omega)]; exact t3, by rw [h0 2 (by omega)]; exact t4, by rw [h0 3 (by omega)]; exact t5, by rw [h0 4 (by omega)]; exact t6, by rw [h0 4 (by omega)]; exact t7, fun i hi => ?_⟩
  obtain ⟨a1, a2, a3, a4, a5⟩ := h1 i hi
  obtain ⟨d1, d2, d3, d4, d5, d6⟩ := t8 i hi
  exact ⟨a1, a2, a3, a4, by rw [a5]; exact d5, by rw [a5]; exact d6⟩
theorem mv_ok {w pl B p : Int} {s : Nat → Int} {i : Nat} (hw : w ≤ 6) (hs : stok w pl B s) (hi : i < 6) (hp : 0 ≤ p ∧ p < pl) : stok w pl B (mv s i p) := by
  refine stok_of hs (fun c hc => mv_ne (by omega)) (fun j hj => ?_)
  obtain ⟨d1, d2, d3, d4, d5, d6⟩ := hs.2.2.2.2.2.2.2.2 j hj
  rw [mv_ne (c := 11 + j) (by omega), mv_ne (c := 17 + j) (by omega)]
  by_cases e : j = i
  · subst e
    rw [mv_eq]
    exact ⟨hp.1, hp.2, d3, d4, rfl⟩
  · rw [mv_ne (by omega)]
    exact ⟨d1, d2, d3, d4, rfl⟩
theorem sw_ok {w pl B : Int} {s : Nat → Int} {i j : Nat} (hw : w ≤ 6) (hs : stok w pl B s) (hi : (i : Int) < w) (hj : (j : Int) < w) : stok w pl B (sw s i j) := by
  refine stok_of hs (fun c hc => sw_ne (by omega) (by omega)) (fun k hk => ?_)
  obtain ⟨d1, d2, d3, d4, d5, d6⟩ := hs.2.2.2.2.2.2.2.2 k hk
  obtain ⟨a1, a2, -⟩ := hs.2.2.2.2.2.2.2.2 i hi
  obtain ⟨b1, b2, -⟩ := hs.2.2.2.2.2.2.2.2 j hj
  rw [sw_ne (c := 11 + k) (by omega) (by omega), sw_ne (c := 17 + k) (by omega) (by omega)]
  by_cases e : k = i
  · subst e
    rw [sw_1]
    exact ⟨b1, b2, d3, d4, rfl⟩
  · by_cases e2 : k = j
    · subst e2
      rw [sw_2]
      exact ⟨a1, a2, d3, d4, rfl⟩
    · rw [sw_ne (by omega) (by omega)]
      exact ⟨d1, d2, d3, d4, rfl⟩
theorem vl_ok {w pl B v : Int} {s : Nat → Int} {i : Nat} (hw : w ≤ 6) (hs : stok w pl B s) (hi : i < 6) (hv : 0 ≤ v ∧ v ≤ 99) : stok w pl B (vl s i v) := by
  refine stok_of hs (fun c hc => vl_ne (by omega)) (fun j hj => ?_)
  obtain ⟨d1, d2, d3, d4, d5, d6⟩ := hs.2.2.2.2.2.2.2.2 j hj
  rw [vl_ne (c := 5 + j) (by omega), vl_ne (c := 17 + j) (by omega)]
  by_cases e : j = i
  · subst e
    rw [vl_eq]
    exact ⟨d1, d2, hv.1, hv.2, rfl⟩
  · rw [vl_ne (by omega)]
    exact ⟨d1, d2, d3, d4, rfl⟩
set_option maxRecDepth 100000 in
theorem S_moveTo {xo : Nat → List Int} {d : Nat} {Q : dz_Q} {sh : List (Nat ⊕ (Nat × Nat))} {rf : Nat → Nat → Nat} {M : Nat → Nat → Int} {q : Nat} {w pl B : Int} {kd wt nx s : Nat → Int} {i p : Int} (hm : ma_at sh rf q) (hp : pgok w pl kd wt nx) (hs : stok w pl B s) (hr : mrel M q w pl kd wt nx s) (hi : 0 ≤ i ∧ i < w) (hQ : ∀ M2 : Nat → Nat → Int, (∀ q2 k, q2 ≠ q + 2 → M2 q2 k = M q2 k) → mrel M2 q w pl kd wt nx (mv s i.toNat p) → Q (some (dz_i (s (5 + i.toNat)))) (sh, rf, M2)) : dz_E dz_pp xo (d + 1) 22 [dz_r q, dz_i i, dz_i p] (sh, rf, M) Q := by
  refine ⟨Nat.le_of_ble_eq_true rfl, ?_⟩
  have hc := dz_E_m dz_pp xo (d + 0)
  show dz_X (dz_E dz_pp xo (d + 0)) dz_pp xo (dz_pp 22) Q 0 [some (dz_r q), some (dz_i i), some (dz_i p), none] [] 0 0 (sh, rf, M)
  have hm1 := hm
  obtain ⟨m0, m1, m2, m3, m4, m5, m6, m7, m8, m9, m10, m11, m12⟩ := hm
  obtain ⟨p1, p2, p3, p4, p5⟩ := id hp
  obtain ⟨s0, s1, s2, s3, s4, s5, s6, s7, s8⟩ := id hs
  obtain ⟨r0, r1, r2, r3, r4, r5, r6⟩ := id hr
  have hi_i : ((i).toNat : Int) < w := by omega
  obtain ⟨k1i, k2i, k3i, k4i, k5i, k6i⟩ := p5 (i).toNat hi_i
  obtain ⟨a1i, a2i, a3i, a4i, a5i, a6i⟩ := s8 (i).toNat hi_i
  obtain ⟨x1i, x2i, x3i, x4i, x5i, x6i⟩ := r6 (i).toNat hi_i
  refine xr_aloadn hc rfl rfl ?_
  refine xr_getfr hc rfl rfl (by first | assumption | rfl) (by first | assumption | rfl) ?_
  refine xr_iloadn hc rfl rfl ?_
  first | refine xr_iaload hc rfl (by first | assumption | rfl) (by first | omega | (unfold dz_w; omega)) (by first | omega | (unfold dz_w; omega)) ?_ | refine xr_ialoado hc rfl (by first | omega | (unfold dz_w; omega)) (by first | omega | (unfold dz_w; omega)) ?_
  refine xr_istore3 hc rfl rfl ?_
  refine xr_aloadn hc rfl rfl ?_
  refine xr_getfr hc rfl rfl (by first | assumption | rfl) (by first | assumption | rfl) ?_
  refine xr_iloadn hc rfl rfl ?_
  refine xr_iloadn hc rfl rfl ?_
  refine xr_iastore hc rfl (by first | assumption | rfl) (by first | omega | (unfold dz_w; omega)) (by first | omega | (unfold dz_w; omega)) ?_
  refine xr_iloadn hc rfl rfl ?_
  refine xr_ireturn hc rfl rfl (Nat.zero_le _) (Nat.zero_le _) ?_
  rw [x2i]
  have f0 : ∀ q2 k, q2 ≠ q + 2 → dz_up M (q + 2) i.toNat p q2 k = M q2 k := fun q2 k z => by unfold dz_up; rw [if_neg (fun u => z u.1)]
  refine hQ _ f0 (mrel_arr p2 (Or.inl rfl) hr f0 (fun c hc => mv_ne (by omega)) (fun j hj => mv_ne (by omega)) (fun j hj => ?_) (fun j hj => ?_))
  · by_cases e : j = i.toNat
    · rw [e, dz_up_eq, mv_eq]
    · rw [dz_up_k e, mv_ne (by omega), (r6 j hj).2.1]
  · rw [f0 _ _ (by omega), (r6 j hj).2.2.1, mv_ne (by omega)]
set_option maxRecDepth 100000 in
theorem S_tellAnew {xo : Nat → List Int} {d : Nat} {Q : dz_Q} {sh : List (Nat ⊕ (Nat × Nat))} {rf : Nat → Nat → Nat} {M : Nat → Nat → Int} {q : Nat} {w pl B : Int} {kd wt nx s : Nat → Int} {i v : Int} (hm : ma_at sh rf q) (hp : pgok w pl kd wt nx) (hs : stok w pl B s) (hr : mrel M q w pl kd wt nx s) (hi : 0 ≤ i ∧ i < w) (hQ : ∀ M2 : Nat → Nat → Int, (∀ q2 k, q2 ≠ q + 3 → M2 q2 k = M q2 k) → mrel M2 q w pl kd wt nx (vl s i.toNat v) → Q (some (dz_i (s (11 + i.toNat)))) (sh, rf, M2)) : dz_E dz_pp xo (d + 1) 24 [dz_r q, dz_i i, dz_i v] (sh, rf, M) Q := by
  refine ⟨Nat.le_of_ble_eq_true rfl, ?_⟩
  have hc := dz_E_m dz_pp xo (d + 0)
  show dz_X (dz_E dz_pp xo (d + 0)) dz_pp xo (dz_pp 24) Q 0 [some (dz_r q), some (dz_i i), some (dz_i v), none] [] 0 0 (sh, rf, M)
  have hm1 := hm
  obtain ⟨m0, m1, m2, m3, m4, m5, m6, m7, m8, m9, m10, m11, m12⟩ := hm
  obtain ⟨p1, p2, p3, p4, p5⟩ := id hp
  obtain ⟨s0, s1, s2, s3, s4, s5, s6, s7, s8⟩ := id hs
  obtain ⟨r0, r1, r2, r3, r4, r5, r6⟩ := id hr
  have hi_i : ((i).toNat : Int) < w := by omega
  obtain ⟨k1i, k2i, k3i, k4i, k5i, k6i⟩ := p5 (i).toNat hi_i
  obtain ⟨a1i, a2i, a3i, a4i, a5i, a6i⟩ := s8 (i).toNat hi_i
  obtain ⟨x1i, x2i, x3i, x4i, x5i, x6i⟩ := r6 (i).toNat hi_i
  refine xr_aloadn hc rfl rfl ?_
  refine xr_getfr hc rfl rfl (by first | assumption | rfl) (by first | assumption | rfl) ?_
  refine xr_iloadn hc rfl rfl ?_
  first | refine xr_iaload hc rfl (by first | assumption | rfl) (by first | omega | (unfold dz_w; omega)) (by first | omega | (unfold dz_w; omega)) ?_ | refine xr_ialoado hc rfl (by first | omega | (unfold dz_w; omega)) (by first | omega | (unfold dz_w; omega)) ?_
  refine xr_istore3 hc rfl rfl ?_
  refine xr_aloadn hc rfl rfl ?_
  refine xr_getfr hc rfl rfl (by first | assumption | rfl) (by first | assumption | rfl) ?_
  refine xr_iloadn hc rfl rfl ?_
  refine xr_iloadn hc rfl rfl ?_
  refine xr_iastore hc rfl (by first | assumption | rfl) (by first | omega | (unfold dz_w; omega)) (by first | omega | (unfold dz_w; omega)) ?_
  refine xr_iloadn hc rfl rfl ?_
  refine xr_ireturn hc rfl rfl (Nat.zero_le _) (Nat.zero_le _) ?_
  rw [x3i]
  have f0 : ∀ q2 k, q2 ≠ q + 3 → dz_up M (q + 3) i.toNat v q2 k = M q2 k := fun q2 k z => by unfold dz_up; rw [if_neg (fun u => z u.1)]
  refine hQ _ f0 (mrel_arr p2 (Or.inr rfl) hr f0 (fun c hc => vl_ne (by omega)) (fun j hj => vl_ne (by omega)) (fun j hj => ?_) (fun j hj => ?_))
  · rw [f0 _ _ (by omega), (r6 j hj).2.1, vl_ne (by omega)]
  · by_cases e : j = i.toNat
    · rw [e, dz_up_eq, vl_eq]
    · rw [dz_up_k e, vl_ne (by omega), (r6 j hj).2.2.1]
set_option maxRecDepth 100000 in
theorem S_exchange {xo : Nat → List Int} {d : Nat} {Q : dz_Q} {sh : List (Nat ⊕ (Nat × Nat))} {rf : Nat → Nat → Nat} {M : Nat → Nat → Int} {q n : Nat} {i j : Int} (ha : sh[q]? = some (.inr (0, n))) (hi : 0 ≤ i ∧ i < n) (hj : 0 ≤ j ∧ j < n) (hQ : ∀ M2 : Nat → Nat → Int, (∀ q2 k, q2 ≠ q → M2 q2 k = M q2 k) → (∀ k, M2 q k = if k = i.toNat then M q j.toNat else if k = j.toNat then M q i.toNat else M q k) → Q none (sh, rf, M2)) : dz_E dz_pp xo (d + 1) 100 [dz_r q, dz_i i, dz_i j] (sh, rf, M) Q := by
  refine ⟨Nat.le_of_ble_eq_true rfl, ?_⟩
  have hc := dz_E_m dz_pp xo (d + 0)
  show dz_X (dz_E dz_pp xo (d + 0)) dz_pp xo (dz_pp 100) Q 0 [some (dz_r q), some (dz_i i), some (dz_i j), none] [] 0 0 (sh, rf, M)
  refine xr_aloadn hc rfl rfl ?_
  refine xr_iloadn hc rfl rfl ?_
  first | refine xr_iaload hc rfl (by first | assumption | rfl) (by first | omega | (unfold dz_w; omega)) (by first | omega | (unfold dz_w; omega)) ?_ | refine xr_ialoado hc rfl (by first | omega | (unfold dz_w; omega)) (by first | omega | (unfold dz_w; omega)) ?_
  refine xr_istore3 hc rfl rfl ?_
  refine xr_aloadn hc rfl rfl ?_
  refine xr_iloadn hc rfl rfl ?_
  refine xr_aloadn hc rfl rfl ?_
  refine xr_iloadn hc rfl rfl ?_
  first | refine xr_iaload hc rfl (by first | assumption | rfl) (by first | omega | (unfold dz_w; omega)) (by first | omega | (unfold dz_w; omega)) ?_ | refine xr_ialoado hc rfl (by first | omega | (unfold dz_w; omega)) (by first | omega | (unfold dz_w; omega)) ?_
  refine xr_iastore hc rfl (by first | assumption | rfl) (by first | omega | (unfold dz_w; omega)) (by first | omega | (unfold dz_w; omega)) ?_
  refine xr_aloadn hc rfl rfl ?_
  refine xr_iloadn hc rfl rfl ?_
  refine xr_iloadn hc rfl rfl ?_
  refine xr_iastore hc rfl (by first | assumption | rfl) (by first | omega | (unfold dz_w; omega)) (by first | omega | (unfold dz_w; omega)) ?_
  refine xr_return hc rfl rfl (Nat.zero_le _) (Nat.zero_le _) ?_
  refine hQ _ (fun q2 k z => by simp [dz_up, z]) (fun k => ?_)
  by_cases e1 : k = i.toNat <;> by_cases e2 : k = j.toNat <;> simp [dz_up, e1, e2]
  all_goals (try omega)
  all_goals (try (rw [← e1, ← e2]))
  all_goals (try (intro z; simp [z]))
set_option maxRecDepth 100000 in
theorem S_changeRound {xo : Nat → List Int} {d : Nat} {Q : dz_Q} {sh : List (Nat ⊕ (Nat × Nat))} {rf : Nat → Nat → Nat} {M : Nat → Nat → Int} {q : Nat} {w pl B : Int} {kd wt nx s : Nat → Int} {i j : Int} (hm : ma_at sh rf q) (hp : pgok w pl kd wt nx) (hs : stok w pl B s) (hr : mrel M q w pl kd wt nx s) (hi : 0 ≤ i ∧ i < w) (hj : 0 ≤ j ∧ j < w) (hQ : ∀ M2 : Nat → Nat → Int, (∀ q2 k, q2 ≠ q + 2 → M2 q2 k = M q2 k) → mrel M2 q w pl kd wt nx (sw s i.toNat j.toNat) → Q (some (dz_i (s (5 + j.toNat)))) (sh, rf, M2)) : dz_E dz_pp xo (d + 2) 23 [dz_r q, dz_i i, dz_i j] (sh, rf, M) Q := by
  refine ⟨Nat.le_of_ble_eq_true rfl, ?_⟩
  have hc := dz_E_m dz_pp xo (d + 1)
  show dz_X (dz_E dz_pp xo (d + 1)) dz_pp xo (dz_pp 23) Q 0 [some (dz_r q), some (dz_i i), some (dz_i j)] [] 0 0 (sh, rf, M)
  have hm1 := hm
  obtain ⟨m0, m1, m2, m3, m4, m5, m6, m7, m8, m9, m10, m11, m12⟩ := hm
  obtain ⟨p1, p2, p3, p4, p5⟩ := id hp
  obtain ⟨s0, s1, s2, s3, s4, s5, s6, s7, s8⟩ := id hs
  obtain ⟨r0, r1, r2, r3, r4, r5, r6⟩ := id hr
  have hi_i : ((i).toNat : Int) < w := by omega
  obtain ⟨k1i, k2i, k3i, k4i, k5i, k6i⟩ := p5 (i).toNat hi_i
  obtain ⟨a1i, a2i, a3i, a4i, a5i, a6i⟩ := s8 (i).toNat hi_i
  obtain ⟨x1i, x2i, x3i, x4i, x5i, x6i⟩ := r6 (i).toNat hi_i
  have hi_j : ((j).toNat : Int) < w := by omega
  obtain ⟨k1j, k2j, k3j, k4j, k5j, k6j⟩ := p5 (j).toNat hi_j
  obtain ⟨a1j, a2j, a3j, a4j, a5j, a6j⟩ := s8 (j).toNat hi_j
  obtain ⟨x1j, x2j, x3j, x4j, x5j, x6j⟩ := r6 (j).toNat hi_j
  refine xr_aloadn hc rfl rfl ?_
  refine xr_getfr hc rfl rfl (by first | assumption | rfl) (by first | assumption | rfl) ?_
  refine xr_iloadn hc rfl rfl ?_
  refine xr_iloadn hc rfl rfl ?_
  refine xr_calls3 hc rfl (by decide) rfl rfl rfl (Nat.le_of_ble_eq_true rfl) (Nat.zero_le _) (Nat.zero_le _) ?_
  refine S_exchange (by assumption) (by omega) (by omega) (fun M2 f0 g0 => ?_)
  refine xk_0 ?_
  refine xr_aloadn hc rfl rfl ?_
  refine xr_getfr hc rfl rfl (by first | assumption | rfl) (by first | assumption | rfl) ?_
  refine xr_iloadn hc rfl rfl ?_
  first | refine xr_iaload hc rfl (by first | assumption | rfl) (by first | omega | (unfold dz_w; omega)) (by first | omega | (unfold dz_w; omega)) ?_ | refine xr_ialoado hc rfl (by first | omega | (unfold dz_w; omega)) (by first | omega | (unfold dz_w; omega)) ?_
  refine xr_ireturn hc rfl rfl (Nat.zero_le _) (Nat.zero_le _) ?_
  rw [g0, if_pos rfl, x2j]
  refine hQ M2 f0 (mrel_arr p2 (Or.inl rfl) hr f0 (fun c hc => sw_ne (by omega) (by omega)) (fun k hk => sw_ne (by omega) (by omega)) (fun k hk => ?_) (fun k hk => ?_))
  · rw [g0]
    by_cases e : k = i.toNat
    · rw [if_pos e, x2j, e, sw_1]
    · rw [if_neg e]
      by_cases e2 : k = j.toNat
      · rw [if_pos e2, x2i, e2, sw_2]
      · rw [if_neg e2, sw_ne (by omega) (by omega), (r6 k hk).2.1]
  · rw [f0 _ _ (by omega), (r6 k hk).2.2.1, sw_ne (by omega) (by omega)]
def tw (kd wt nx s : Nat → Int) (i : Nat) (what : Int) : Int := if what = 0 then kd i else if what = 1 then s (5 + i) else if what = 2 then s (11 + i) else if what = 3 then (if kd i = 0 then -9 else wt i) else if what = 4 then (if kd i = 0 then -9 else nx i) else s (17 + i)
set_option maxRecDepth 100000 in
theorem S_tellWord {xo : Nat → List Int} {d : Nat} {Q : dz_Q} {sh : List (Nat ⊕ (Nat × Nat))} {rf : Nat → Nat → Nat} {M : Nat → Nat → Int} {q : Nat} {w pl B : Int} {kd wt nx s : Nat → Int} {i what : Int} (hm : ma_at sh rf q) (hp : pgok w pl kd wt nx) (hs : stok w pl B s) (hr : mrel M q w pl kd wt nx s) (hi : 0 ≤ i ∧ i < w) (hQ : Q (some (dz_i (tw kd wt nx s i.toNat what))) (sh, rf, M)) : dz_E dz_pp xo (d + 1) 15 [dz_r q, dz_i i, dz_i what] (sh, rf, M) Q := by
  refine ⟨Nat.le_of_ble_eq_true rfl, ?_⟩
  have hc := dz_E_m dz_pp xo (d + 0)
  show dz_X (dz_E dz_pp xo (d + 0)) dz_pp xo (dz_pp 15) Q 0 [some (dz_r q), some (dz_i i), some (dz_i what), none] [] 0 0 (sh, rf, M)
  have hm1 := hm
  obtain ⟨m0, m1, m2, m3, m4, m5, m6, m7, m8, m9, m10, m11, m12⟩ := hm
  obtain ⟨p1, p2, p3, p4, p5⟩ := id hp
  obtain ⟨s0, s1, s2, s3, s4, s5, s6, s7, s8⟩ := id hs
  obtain ⟨r0, r1, r2, r3, r4, r5, r6⟩ := id hr
  have hi_i : ((i).toNat : Int) < w := by omega
  obtain ⟨k1i, k2i, k3i, k4i, k5i, k6i⟩ := p5 (i).toNat hi_i
  obtain ⟨a1i, a2i, a3i, a4i, a5i, a6i⟩ := s8 (i).toNat hi_i
  obtain ⟨x1i, x2i, x3i, x4i, x5i, x6i⟩ := r6 (i).toNat hi_i
  unfold tw at hQ
  refine xr_aloadn hc rfl rfl ?_
  refine xr_getfr hc rfl rfl (by first | assumption | rfl) (by first | assumption | rfl) ?_
  refine xr_iloadn hc rfl rfl ?_
  first | refine xr_iaload hc rfl (by first | assumption | rfl) (by first | omega | (unfold dz_w; omega)) (by first | omega | (unfold dz_w; omega)) ?_ | refine xr_ialoado hc rfl (by first | omega | (unfold dz_w; omega)) (by first | omega | (unfold dz_w; omega)) ?_
  refine xr_if_ne hc rfl (t := 13) rfl (fun b6 => ?_) (fun b6 => ?_)
  · refine xr_iconst hc rfl ?_
    refine xr_istore3 hc rfl rfl ?_
    refine xr_iloadn hc rfl rfl ?_
    refine xr_table hc rfl (fun t16 => ?_) (fun t16 t16b => ?_)
    · refine xr_at (t := 105) rfl ?_
      refine xr_aloadn hc rfl rfl ?_
      refine xr_getfr hc rfl rfl (by first | assumption | rfl) (by first | assumption | rfl) ?_
      refine xr_iloadn hc rfl rfl ?_
      first | refine xr_iaload hc rfl (by first | assumption | rfl) (by first | omega | (unfold dz_w; omega)) (by first | omega | (unfold dz_w; omega)) ?_ | refine xr_ialoado hc rfl (by first | omega | (unfold dz_w; omega)) (by first | omega | (unfold dz_w; omega)) ?_
      refine xr_ireturn hc rfl rfl (Nat.zero_le _) (Nat.zero_le _) ?_
      first
        | (rw [if_pos (by omega)] at hQ; rw [x1i]; exact hQ)
        | (rw [if_neg (by omega), if_pos (by omega)] at hQ; rw [x2i]; exact hQ)
        | (rw [if_neg (by omega), if_neg (by omega), if_pos (by omega)] at hQ; rw [x3i]; exact hQ)
        | (rw [if_neg (by omega), if_neg (by omega), if_neg (by omega), if_pos (by omega), if_pos (by omega)] at hQ; exact hQ)
        | (rw [if_neg (by omega), if_neg (by omega), if_neg (by omega), if_pos (by omega), if_neg (by omega)] at hQ; rw [x4i]; exact hQ)
        | (rw [if_neg (by omega), if_neg (by omega), if_neg (by omega), if_neg (by omega), if_pos (by omega), if_pos (by omega)] at hQ; exact hQ)
        | (rw [if_neg (by omega), if_neg (by omega), if_neg (by omega), if_neg (by omega), if_pos (by omega), if_neg (by omega)] at hQ; rw [x5i]; exact hQ)
        | (rw [if_neg (by omega), if_neg (by omega), if_neg (by omega), if_neg (by omega), if_neg (by omega)] at hQ; rw [x6i]; exact hQ)
    · rcases (show what = 0 ∨ what = 1 ∨ what = 2 ∨ what = 3 ∨ what = 4 by omega) with e16 | e16 | e16 | e16 | e16
      · refine ⟨36, by rw [e16]; rfl, xr_at (t := 52) rfl ?_⟩
        refine xr_aloadn hc rfl rfl ?_
        refine xr_getfr hc rfl rfl (by first | assumption | rfl) (by first | assumption | rfl) ?_
        refine xr_iloadn hc rfl rfl ?_
        first | refine xr_iaload hc rfl (by first | assumption | rfl) (by first | omega | (unfold dz_w; omega)) (by first | omega | (unfold dz_w; omega)) ?_ | refine xr_ialoado hc rfl (by first | omega | (unfold dz_w; omega)) (by first | omega | (unfold dz_w; omega)) ?_
        refine xr_ireturn hc rfl rfl (Nat.zero_le _) (Nat.zero_le _) ?_
        first
          | (rw [if_pos (by omega)] at hQ; rw [x1i]; exact hQ)
          | (rw [if_neg (by omega), if_pos (by omega)] at hQ; rw [x2i]; exact hQ)
          | (rw [if_neg (by omega), if_neg (by omega), if_pos (by omega)] at hQ; rw [x3i]; exact hQ)
          | (rw [if_neg (by omega), if_neg (by omega), if_neg (by omega), if_pos (by omega), if_pos (by omega)] at hQ; exact hQ)
          | (rw [if_neg (by omega), if_neg (by omega), if_neg (by omega), if_pos (by omega), if_neg (by omega)] at hQ; rw [x4i]; exact hQ)
          | (rw [if_neg (by omega), if_neg (by omega), if_neg (by omega), if_neg (by omega), if_pos (by omega), if_pos (by omega)] at hQ; exact hQ)
          | (rw [if_neg (by omega), if_neg (by omega), if_neg (by omega), if_neg (by omega), if_pos (by omega), if_neg (by omega)] at hQ; rw [x5i]; exact hQ)
          | (rw [if_neg (by omega), if_neg (by omega), if_neg (by omega), if_neg (by omega), if_neg (by omega)] at hQ; rw [x6i]; exact hQ)
      · refine ⟨43, by rw [e16]; rfl, xr_at (t := 59) rfl ?_⟩
        refine xr_aloadn hc rfl rfl ?_
        refine xr_getfr hc rfl rfl (by first | assumption | rfl) (by first | assumption | rfl) ?_
        refine xr_iloadn hc rfl rfl ?_
        first | refine xr_iaload hc rfl (by first | assumption | rfl) (by first | omega | (unfold dz_w; omega)) (by first | omega | (unfold dz_w; omega)) ?_ | refine xr_ialoado hc rfl (by first | omega | (unfold dz_w; omega)) (by first | omega | (unfold dz_w; omega)) ?_
        refine xr_ireturn hc rfl rfl (Nat.zero_le _) (Nat.zero_le _) ?_
        first
          | (rw [if_pos (by omega)] at hQ; rw [x1i]; exact hQ)
          | (rw [if_neg (by omega), if_pos (by omega)] at hQ; rw [x2i]; exact hQ)
          | (rw [if_neg (by omega), if_neg (by omega), if_pos (by omega)] at hQ; rw [x3i]; exact hQ)
          | (rw [if_neg (by omega), if_neg (by omega), if_neg (by omega), if_pos (by omega), if_pos (by omega)] at hQ; exact hQ)
          | (rw [if_neg (by omega), if_neg (by omega), if_neg (by omega), if_pos (by omega), if_neg (by omega)] at hQ; rw [x4i]; exact hQ)
          | (rw [if_neg (by omega), if_neg (by omega), if_neg (by omega), if_neg (by omega), if_pos (by omega), if_pos (by omega)] at hQ; exact hQ)
          | (rw [if_neg (by omega), if_neg (by omega), if_neg (by omega), if_neg (by omega), if_pos (by omega), if_neg (by omega)] at hQ; rw [x5i]; exact hQ)
          | (rw [if_neg (by omega), if_neg (by omega), if_neg (by omega), if_neg (by omega), if_neg (by omega)] at hQ; rw [x6i]; exact hQ)
      · refine ⟨50, by rw [e16]; rfl, xr_at (t := 66) rfl ?_⟩
        refine xr_aloadn hc rfl rfl ?_
        refine xr_getfr hc rfl rfl (by first | assumption | rfl) (by first | assumption | rfl) ?_
        refine xr_iloadn hc rfl rfl ?_
        first | refine xr_iaload hc rfl (by first | assumption | rfl) (by first | omega | (unfold dz_w; omega)) (by first | omega | (unfold dz_w; omega)) ?_ | refine xr_ialoado hc rfl (by first | omega | (unfold dz_w; omega)) (by first | omega | (unfold dz_w; omega)) ?_
        refine xr_ireturn hc rfl rfl (Nat.zero_le _) (Nat.zero_le _) ?_
        first
          | (rw [if_pos (by omega)] at hQ; rw [x1i]; exact hQ)
          | (rw [if_neg (by omega), if_pos (by omega)] at hQ; rw [x2i]; exact hQ)
          | (rw [if_neg (by omega), if_neg (by omega), if_pos (by omega)] at hQ; rw [x3i]; exact hQ)
          | (rw [if_neg (by omega), if_neg (by omega), if_neg (by omega), if_pos (by omega), if_pos (by omega)] at hQ; exact hQ)
          | (rw [if_neg (by omega), if_neg (by omega), if_neg (by omega), if_pos (by omega), if_neg (by omega)] at hQ; rw [x4i]; exact hQ)
          | (rw [if_neg (by omega), if_neg (by omega), if_neg (by omega), if_neg (by omega), if_pos (by omega), if_pos (by omega)] at hQ; exact hQ)
          | (rw [if_neg (by omega), if_neg (by omega), if_neg (by omega), if_neg (by omega), if_pos (by omega), if_neg (by omega)] at hQ; rw [x5i]; exact hQ)
          | (rw [if_neg (by omega), if_neg (by omega), if_neg (by omega), if_neg (by omega), if_neg (by omega)] at hQ; rw [x6i]; exact hQ)
      · refine ⟨57, by rw [e16]; rfl, xr_at (t := 73) rfl ?_⟩
        refine xr_iloadn hc rfl rfl ?_
        refine xr_if_eq hc rfl (t := 82) rfl (fun b74 => ?_) (fun b74 => ?_)
        · refine xr_aloadn hc rfl rfl ?_
          refine xr_getfr hc rfl rfl (by first | assumption | rfl) (by first | assumption | rfl) ?_
          refine xr_iloadn hc rfl rfl ?_
          first | refine xr_iaload hc rfl (by first | assumption | rfl) (by first | omega | (unfold dz_w; omega)) (by first | omega | (unfold dz_w; omega)) ?_ | refine xr_ialoado hc rfl (by first | omega | (unfold dz_w; omega)) (by first | omega | (unfold dz_w; omega)) ?_
          refine xr_ireturn hc rfl rfl (Nat.zero_le _) (Nat.zero_le _) ?_
          first
            | (rw [if_pos (by omega)] at hQ; rw [x1i]; exact hQ)
            | (rw [if_neg (by omega), if_pos (by omega)] at hQ; rw [x2i]; exact hQ)
            | (rw [if_neg (by omega), if_neg (by omega), if_pos (by omega)] at hQ; rw [x3i]; exact hQ)
            | (rw [if_neg (by omega), if_neg (by omega), if_neg (by omega), if_pos (by omega), if_pos (by omega)] at hQ; exact hQ)
            | (rw [if_neg (by omega), if_neg (by omega), if_neg (by omega), if_pos (by omega), if_neg (by omega)] at hQ; rw [x4i]; exact hQ)
            | (rw [if_neg (by omega), if_neg (by omega), if_neg (by omega), if_neg (by omega), if_pos (by omega), if_pos (by omega)] at hQ; exact hQ)
            | (rw [if_neg (by omega), if_neg (by omega), if_neg (by omega), if_neg (by omega), if_pos (by omega), if_neg (by omega)] at hQ; rw [x5i]; exact hQ)
            | (rw [if_neg (by omega), if_neg (by omega), if_neg (by omega), if_neg (by omega), if_neg (by omega)] at hQ; rw [x6i]; exact hQ)
        · refine xr_bipush hc rfl ?_
          refine xr_goto hc rfl (t := 88) rfl ?_
          refine xr_ireturn hc rfl rfl (Nat.zero_le _) (Nat.zero_le _) ?_
          first
            | (rw [if_pos (by omega)] at hQ; rw [x1i]; exact hQ)
            | (rw [if_neg (by omega), if_pos (by omega)] at hQ; rw [x2i]; exact hQ)
            | (rw [if_neg (by omega), if_neg (by omega), if_pos (by omega)] at hQ; rw [x3i]; exact hQ)
            | (rw [if_neg (by omega), if_neg (by omega), if_neg (by omega), if_pos (by omega), if_pos (by omega)] at hQ; exact hQ)
            | (rw [if_neg (by omega), if_neg (by omega), if_neg (by omega), if_pos (by omega), if_neg (by omega)] at hQ; rw [x4i]; exact hQ)
            | (rw [if_neg (by omega), if_neg (by omega), if_neg (by omega), if_neg (by omega), if_pos (by omega), if_pos (by omega)] at hQ; exact hQ)
            | (rw [if_neg (by omega), if_neg (by omega), if_neg (by omega), if_neg (by omega), if_pos (by omega), if_neg (by omega)] at hQ; rw [x5i]; exact hQ)
            | (rw [if_neg (by omega), if_neg (by omega), if_neg (by omega), if_neg (by omega), if_neg (by omega)] at hQ; rw [x6i]; exact hQ)
      · refine ⟨73, by rw [e16]; rfl, xr_at (t := 89) rfl ?_⟩
        refine xr_iloadn hc rfl rfl ?_
        refine xr_if_eq hc rfl (t := 98) rfl (fun b90 => ?_) (fun b90 => ?_)
        · refine xr_aloadn hc rfl rfl ?_
          refine xr_getfr hc rfl rfl (by first | assumption | rfl) (by first | assumption | rfl) ?_
          refine xr_iloadn hc rfl rfl ?_
          first | refine xr_iaload hc rfl (by first | assumption | rfl) (by first | omega | (unfold dz_w; omega)) (by first | omega | (unfold dz_w; omega)) ?_ | refine xr_ialoado hc rfl (by first | omega | (unfold dz_w; omega)) (by first | omega | (unfold dz_w; omega)) ?_
          refine xr_ireturn hc rfl rfl (Nat.zero_le _) (Nat.zero_le _) ?_
          first
            | (rw [if_pos (by omega)] at hQ; rw [x1i]; exact hQ)
            | (rw [if_neg (by omega), if_pos (by omega)] at hQ; rw [x2i]; exact hQ)
            | (rw [if_neg (by omega), if_neg (by omega), if_pos (by omega)] at hQ; rw [x3i]; exact hQ)
            | (rw [if_neg (by omega), if_neg (by omega), if_neg (by omega), if_pos (by omega), if_pos (by omega)] at hQ; exact hQ)
            | (rw [if_neg (by omega), if_neg (by omega), if_neg (by omega), if_pos (by omega), if_neg (by omega)] at hQ; rw [x4i]; exact hQ)
            | (rw [if_neg (by omega), if_neg (by omega), if_neg (by omega), if_neg (by omega), if_pos (by omega), if_pos (by omega)] at hQ; exact hQ)
            | (rw [if_neg (by omega), if_neg (by omega), if_neg (by omega), if_neg (by omega), if_pos (by omega), if_neg (by omega)] at hQ; rw [x5i]; exact hQ)
            | (rw [if_neg (by omega), if_neg (by omega), if_neg (by omega), if_neg (by omega), if_neg (by omega)] at hQ; rw [x6i]; exact hQ)
        · refine xr_bipush hc rfl ?_
          refine xr_goto hc rfl (t := 104) rfl ?_
          refine xr_ireturn hc rfl rfl (Nat.zero_le _) (Nat.zero_le _) ?_
          first
            | (rw [if_pos (by omega)] at hQ; rw [x1i]; exact hQ)
            | (rw [if_neg (by omega), if_pos (by omega)] at hQ; rw [x2i]; exact hQ)
            | (rw [if_neg (by omega), if_neg (by omega), if_pos (by omega)] at hQ; rw [x3i]; exact hQ)
            | (rw [if_neg (by omega), if_neg (by omega), if_neg (by omega), if_pos (by omega), if_pos (by omega)] at hQ; exact hQ)
            | (rw [if_neg (by omega), if_neg (by omega), if_neg (by omega), if_pos (by omega), if_neg (by omega)] at hQ; rw [x4i]; exact hQ)
            | (rw [if_neg (by omega), if_neg (by omega), if_neg (by omega), if_neg (by omega), if_pos (by omega), if_pos (by omega)] at hQ; exact hQ)
            | (rw [if_neg (by omega), if_neg (by omega), if_neg (by omega), if_neg (by omega), if_pos (by omega), if_neg (by omega)] at hQ; rw [x5i]; exact hQ)
            | (rw [if_neg (by omega), if_neg (by omega), if_neg (by omega), if_neg (by omega), if_neg (by omega)] at hQ; rw [x6i]; exact hQ)
  · refine xr_iconst hc rfl ?_
    refine xr_goto hc rfl (t := 14) rfl ?_
    refine xr_istore3 hc rfl rfl ?_
    refine xr_iloadn hc rfl rfl ?_
    refine xr_table hc rfl (fun t16 => ?_) (fun t16 t16b => ?_)
    · refine xr_at (t := 105) rfl ?_
      refine xr_aloadn hc rfl rfl ?_
      refine xr_getfr hc rfl rfl (by first | assumption | rfl) (by first | assumption | rfl) ?_
      refine xr_iloadn hc rfl rfl ?_
      first | refine xr_iaload hc rfl (by first | assumption | rfl) (by first | omega | (unfold dz_w; omega)) (by first | omega | (unfold dz_w; omega)) ?_ | refine xr_ialoado hc rfl (by first | omega | (unfold dz_w; omega)) (by first | omega | (unfold dz_w; omega)) ?_
      refine xr_ireturn hc rfl rfl (Nat.zero_le _) (Nat.zero_le _) ?_
      first
        | (rw [if_pos (by omega)] at hQ; rw [x1i]; exact hQ)
        | (rw [if_neg (by omega), if_pos (by omega)] at hQ; rw [x2i]; exact hQ)
        | (rw [if_neg (by omega), if_neg (by omega), if_pos (by omega)] at hQ; rw [x3i]; exact hQ)
        | (rw [if_neg (by omega), if_neg (by omega), if_neg (by omega), if_pos (by omega), if_pos (by omega)] at hQ; exact hQ)
        | (rw [if_neg (by omega), if_neg (by omega), if_neg (by omega), if_pos (by omega), if_neg (by omega)] at hQ; rw [x4i]; exact hQ)
        | (rw [if_neg (by omega), if_neg (by omega), if_neg (by omega), if_neg (by omega), if_pos (by omega), if_pos (by omega)] at hQ; exact hQ)
        | (rw [if_neg (by omega), if_neg (by omega), if_neg (by omega), if_neg (by omega), if_pos (by omega), if_neg (by omega)] at hQ; rw [x5i]; exact hQ)
        | (rw [if_neg (by omega), if_neg (by omega), if_neg (by omega), if_neg (by omega), if_neg (by omega)] at hQ; rw [x6i]; exact hQ)
    · rcases (show what = 0 ∨ what = 1 ∨ what = 2 ∨ what = 3 ∨ what = 4 by omega) with e16 | e16 | e16 | e16 | e16
      · refine ⟨36, by rw [e16]; rfl, xr_at (t := 52) rfl ?_⟩
        refine xr_aloadn hc rfl rfl ?_
        refine xr_getfr hc rfl rfl (by first | assumption | rfl) (by first | assumption | rfl) ?_
        refine xr_iloadn hc rfl rfl ?_
        first | refine xr_iaload hc rfl (by first | assumption | rfl) (by first | omega | (unfold dz_w; omega)) (by first | omega | (unfold dz_w; omega)) ?_ | refine xr_ialoado hc rfl (by first | omega | (unfold dz_w; omega)) (by first | omega | (unfold dz_w; omega)) ?_
        refine xr_ireturn hc rfl rfl (Nat.zero_le _) (Nat.zero_le _) ?_
        first
          | (rw [if_pos (by omega)] at hQ; rw [x1i]; exact hQ)
          | (rw [if_neg (by omega), if_pos (by omega)] at hQ; rw [x2i]; exact hQ)
          | (rw [if_neg (by omega), if_neg (by omega), if_pos (by omega)] at hQ; rw [x3i]; exact hQ)
          | (rw [if_neg (by omega), if_neg (by omega), if_neg (by omega), if_pos (by omega), if_pos (by omega)] at hQ; exact hQ)
          | (rw [if_neg (by omega), if_neg (by omega), if_neg (by omega), if_pos (by omega), if_neg (by omega)] at hQ; rw [x4i]; exact hQ)
          | (rw [if_neg (by omega), if_neg (by omega), if_neg (by omega), if_neg (by omega), if_pos (by omega), if_pos (by omega)] at hQ; exact hQ)
          | (rw [if_neg (by omega), if_neg (by omega), if_neg (by omega), if_neg (by omega), if_pos (by omega), if_neg (by omega)] at hQ; rw [x5i]; exact hQ)
          | (rw [if_neg (by omega), if_neg (by omega), if_neg (by omega), if_neg (by omega), if_neg (by omega)] at hQ; rw [x6i]; exact hQ)
      · refine ⟨43, by rw [e16]; rfl, xr_at (t := 59) rfl ?_⟩
        refine xr_aloadn hc rfl rfl ?_
        refine xr_getfr hc rfl rfl (by first | assumption | rfl) (by first | assumption | rfl) ?_
        refine xr_iloadn hc rfl rfl ?_
        first | refine xr_iaload hc rfl (by first | assumption | rfl) (by first | omega | (unfold dz_w; omega)) (by first | omega | (unfold dz_w; omega)) ?_ | refine xr_ialoado hc rfl (by first | omega | (unfold dz_w; omega)) (by first | omega | (unfold dz_w; omega)) ?_
        refine xr_ireturn hc rfl rfl (Nat.zero_le _) (Nat.zero_le _) ?_
        first
          | (rw [if_pos (by omega)] at hQ; rw [x1i]; exact hQ)
          | (rw [if_neg (by omega), if_pos (by omega)] at hQ; rw [x2i]; exact hQ)
          | (rw [if_neg (by omega), if_neg (by omega), if_pos (by omega)] at hQ; rw [x3i]; exact hQ)
          | (rw [if_neg (by omega), if_neg (by omega), if_neg (by omega), if_pos (by omega), if_pos (by omega)] at hQ; exact hQ)
          | (rw [if_neg (by omega), if_neg (by omega), if_neg (by omega), if_pos (by omega), if_neg (by omega)] at hQ; rw [x4i]; exact hQ)
          | (rw [if_neg (by omega), if_neg (by omega), if_neg (by omega), if_neg (by omega), if_pos (by omega), if_pos (by omega)] at hQ; exact hQ)
          | (rw [if_neg (by omega), if_neg (by omega), if_neg (by omega), if_neg (by omega), if_pos (by omega), if_neg (by omega)] at hQ; rw [x5i]; exact hQ)
          | (rw [if_neg (by omega), if_neg (by omega), if_neg (by omega), if_neg (by omega), if_neg (by omega)] at hQ; rw [x6i]; exact hQ)
      · refine ⟨50, by rw [e16]; rfl, xr_at (t := 66) rfl ?_⟩
        refine xr_aloadn hc rfl rfl ?_
        refine xr_getfr hc rfl rfl (by first | assumption | rfl) (by first | assumption | rfl) ?_
        refine xr_iloadn hc rfl rfl ?_
        first | refine xr_iaload hc rfl (by first | assumption | rfl) (by first | omega | (unfold dz_w; omega)) (by first | omega | (unfold dz_w; omega)) ?_ | refine xr_ialoado hc rfl (by first | omega | (unfold dz_w; omega)) (by first | omega | (unfold dz_w; omega)) ?_
        refine xr_ireturn hc rfl rfl (Nat.zero_le _) (Nat.zero_le _) ?_
        first
          | (rw [if_pos (by omega)] at hQ; rw [x1i]; exact hQ)
          | (rw [if_neg (by omega), if_pos (by omega)] at hQ; rw [x2i]; exact hQ)
          | (rw [if_neg (by omega), if_neg (by omega), if_pos (by omega)] at hQ; rw [x3i]; exact hQ)
          | (rw [if_neg (by omega), if_neg (by omega), if_neg (by omega), if_pos (by omega), if_pos (by omega)] at hQ; exact hQ)
          | (rw [if_neg (by omega), if_neg (by omega), if_neg (by omega), if_pos (by omega), if_neg (by omega)] at hQ; rw [x4i]; exact hQ)
          | (rw [if_neg (by omega), if_neg (by omega), if_neg (by omega), if_neg (by omega), if_pos (by omega), if_pos (by omega)] at hQ; exact hQ)
          | (rw [if_neg (by omega), if_neg (by omega), if_neg (by omega), if_neg (by omega), if_pos (by omega), if_neg (by omega)] at hQ; rw [x5i]; exact hQ)
          | (rw [if_neg (by omega), if_neg (by omega), if_neg (by omega), if_neg (by omega), if_neg (by omega)] at hQ; rw [x6i]; exact hQ)
      · refine ⟨57, by rw [e16]; rfl, xr_at (t := 73) rfl ?_⟩
        refine xr_iloadn hc rfl rfl ?_
        refine xr_if_eq hc rfl (t := 82) rfl (fun b74 => ?_) (fun b74 => ?_)
        · refine xr_aloadn hc rfl rfl ?_
          refine xr_getfr hc rfl rfl (by first | assumption | rfl) (by first | assumption | rfl) ?_
          refine xr_iloadn hc rfl rfl ?_
          first | refine xr_iaload hc rfl (by first | assumption | rfl) (by first | omega | (unfold dz_w; omega)) (by first | omega | (unfold dz_w; omega)) ?_ | refine xr_ialoado hc rfl (by first | omega | (unfold dz_w; omega)) (by first | omega | (unfold dz_w; omega)) ?_
          refine xr_ireturn hc rfl rfl (Nat.zero_le _) (Nat.zero_le _) ?_
          first
            | (rw [if_pos (by omega)] at hQ; rw [x1i]; exact hQ)
            | (rw [if_neg (by omega), if_pos (by omega)] at hQ; rw [x2i]; exact hQ)
            | (rw [if_neg (by omega), if_neg (by omega), if_pos (by omega)] at hQ; rw [x3i]; exact hQ)
            | (rw [if_neg (by omega), if_neg (by omega), if_neg (by omega), if_pos (by omega), if_pos (by omega)] at hQ; exact hQ)
            | (rw [if_neg (by omega), if_neg (by omega), if_neg (by omega), if_pos (by omega), if_neg (by omega)] at hQ; rw [x4i]; exact hQ)
            | (rw [if_neg (by omega), if_neg (by omega), if_neg (by omega), if_neg (by omega), if_pos (by omega), if_pos (by omega)] at hQ; exact hQ)
            | (rw [if_neg (by omega), if_neg (by omega), if_neg (by omega), if_neg (by omega), if_pos (by omega), if_neg (by omega)] at hQ; rw [x5i]; exact hQ)
            | (rw [if_neg (by omega), if_neg (by omega), if_neg (by omega), if_neg (by omega), if_neg (by omega)] at hQ; rw [x6i]; exact hQ)
        · refine xr_bipush hc rfl ?_
          refine xr_goto hc rfl (t := 88) rfl ?_
          refine xr_ireturn hc rfl rfl (Nat.zero_le _) (Nat.zero_le _) ?_
          first
            | (rw [if_pos (by omega)] at hQ; rw [x1i]; exact hQ)
            | (rw [if_neg (by omega), if_pos (by omega)] at hQ; rw [x2i]; exact hQ)
            | (rw [if_neg (by omega), if_neg (by omega), if_pos (by omega)] at hQ; rw [x3i]; exact hQ)
            | (rw [if_neg (by omega), if_neg (by omega), if_neg (by omega), if_pos (by omega), if_pos (by omega)] at hQ; exact hQ)
            | (rw [if_neg (by omega), if_neg (by omega), if_neg (by omega), if_pos (by omega), if_neg (by omega)] at hQ; rw [x4i]; exact hQ)
            | (rw [if_neg (by omega), if_neg (by omega), if_neg (by omega), if_neg (by omega), if_pos (by omega), if_pos (by omega)] at hQ; exact hQ)
            | (rw [if_neg (by omega), if_neg (by omega), if_neg (by omega), if_neg (by omega), if_pos (by omega), if_neg (by omega)] at hQ; rw [x5i]; exact hQ)
            | (rw [if_neg (by omega), if_neg (by omega), if_neg (by omega), if_neg (by omega), if_neg (by omega)] at hQ; rw [x6i]; exact hQ)
      · refine ⟨73, by rw [e16]; rfl, xr_at (t := 89) rfl ?_⟩
        refine xr_iloadn hc rfl rfl ?_
        refine xr_if_eq hc rfl (t := 98) rfl (fun b90 => ?_) (fun b90 => ?_)
        · refine xr_aloadn hc rfl rfl ?_
          refine xr_getfr hc rfl rfl (by first | assumption | rfl) (by first | assumption | rfl) ?_
          refine xr_iloadn hc rfl rfl ?_
          first | refine xr_iaload hc rfl (by first | assumption | rfl) (by first | omega | (unfold dz_w; omega)) (by first | omega | (unfold dz_w; omega)) ?_ | refine xr_ialoado hc rfl (by first | omega | (unfold dz_w; omega)) (by first | omega | (unfold dz_w; omega)) ?_
          refine xr_ireturn hc rfl rfl (Nat.zero_le _) (Nat.zero_le _) ?_
          first
            | (rw [if_pos (by omega)] at hQ; rw [x1i]; exact hQ)
            | (rw [if_neg (by omega), if_pos (by omega)] at hQ; rw [x2i]; exact hQ)
            | (rw [if_neg (by omega), if_neg (by omega), if_pos (by omega)] at hQ; rw [x3i]; exact hQ)
            | (rw [if_neg (by omega), if_neg (by omega), if_neg (by omega), if_pos (by omega), if_pos (by omega)] at hQ; exact hQ)
            | (rw [if_neg (by omega), if_neg (by omega), if_neg (by omega), if_pos (by omega), if_neg (by omega)] at hQ; rw [x4i]; exact hQ)
            | (rw [if_neg (by omega), if_neg (by omega), if_neg (by omega), if_neg (by omega), if_pos (by omega), if_pos (by omega)] at hQ; exact hQ)
            | (rw [if_neg (by omega), if_neg (by omega), if_neg (by omega), if_neg (by omega), if_pos (by omega), if_neg (by omega)] at hQ; rw [x5i]; exact hQ)
            | (rw [if_neg (by omega), if_neg (by omega), if_neg (by omega), if_neg (by omega), if_neg (by omega)] at hQ; rw [x6i]; exact hQ)
        · refine xr_bipush hc rfl ?_
          refine xr_goto hc rfl (t := 104) rfl ?_
          refine xr_ireturn hc rfl rfl (Nat.zero_le _) (Nat.zero_le _) ?_
          first
            | (rw [if_pos (by omega)] at hQ; rw [x1i]; exact hQ)
            | (rw [if_neg (by omega), if_pos (by omega)] at hQ; rw [x2i]; exact hQ)
            | (rw [if_neg (by omega), if_neg (by omega), if_pos (by omega)] at hQ; rw [x3i]; exact hQ)
            | (rw [if_neg (by omega), if_neg (by omega), if_neg (by omega), if_pos (by omega), if_pos (by omega)] at hQ; exact hQ)
            | (rw [if_neg (by omega), if_neg (by omega), if_neg (by omega), if_pos (by omega), if_neg (by omega)] at hQ; rw [x4i]; exact hQ)
            | (rw [if_neg (by omega), if_neg (by omega), if_neg (by omega), if_neg (by omega), if_pos (by omega), if_pos (by omega)] at hQ; exact hQ)
            | (rw [if_neg (by omega), if_neg (by omega), if_neg (by omega), if_neg (by omega), if_pos (by omega), if_neg (by omega)] at hQ; rw [x5i]; exact hQ)
            | (rw [if_neg (by omega), if_neg (by omega), if_neg (by omega), if_neg (by omega), if_neg (by omega)] at hQ; rw [x6i]; exact hQ)
