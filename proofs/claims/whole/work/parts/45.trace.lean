/-! The trace of the class. Written by l2_45.py. -/
theorem fup_self (f : Nat → Int) (i : Nat) : fup f i (f i) = f := funext fun k => by
  unfold fup
  split
  · rename_i h
    rw [h]
  · rfl
theorem S_actm {xo : Nat → List Int} {d : Nat} {Q : dz_Q} {sh : List (Nat ⊕ (Nat × Nat))} {rf : Nat → Nat → Nat} {M : Nat → Nat → Int} {q : Nat} {w pl B b : Int} {kd wt nx s : Nat → Int} (hm : ma_at sh rf q) (hp : pgok w pl kd wt nx) (hs : stok w pl B s) (hd : s 3 ≠ -9) (hr : mrel M q w pl kd wt nx (fup s 1 b)) (hQ : ∀ M2 : Nat → Nat → Int, (∀ q2 k, q2 ≠ q → q2 ≠ q + 3 → q2 ≠ q + 6 → M2 q2 k = M q2 k) → mrel M2 q w pl kd wt nx (fup (stp pl kd wt nx s) 1 b) → Q none (sh, rf, M2)) : dz_E dz_pp xo (d + 2) 19 [dz_r q, dz_i (s 3)] (sh, rf, M) Q := by
  obtain ⟨p1, p2, p3, p4, p5⟩ := id hp
  obtain ⟨s0, s1, s2, s3, s4, s5, s6, s7, s8⟩ := id hs
  obtain ⟨r0, r1, r2, r3, r4, r5, r6⟩ := id hr
  have R3 : M q 3 = s 2 := r3
  have R5 : M q 5 = s 4 := r5
  have hi : ((s 3).toNat : Int) < w := by omega
  obtain ⟨k1, k2, k3, k4, k5, k6⟩ := p5 (s 3).toNat hi
  have hoo : ((wt (s 3).toNat).toNat : Int) < w := by omega
  obtain ⟨a1, a2, a3, a4, a5, a6⟩ := s8 (s 3).toNat hi
  obtain ⟨c1, c2, c3, c4, c5, c6⟩ := s8 (wt (s 3).toNat).toNat hoo
  obtain ⟨x1, x2, x3, x4, x5, x6⟩ := r6 (s 3).toNat hi
  obtain ⟨y1, y2, y3, y4, y5, y6⟩ := r6 (wt (s 3).toNat).toNat hoo
  rw [fup_ne (by omega)] at x6 y3
  refine S_act hm (by omega) (by rw [x1]; omega) (by rw [x4]; omega) (by rw [x4, y3]; omega) (by rw [R3]; omega) (by rw [R5]; omega) (by rw [x6]; omega) (fun M2 z3 z4 z5 z6 z7 z8 z9 => hQ M2 z3 ?_)
  rw [x1, R3, x4, y3] at z5
  rw [R3] at z6
  rw [R5] at z7
  refine ⟨by rw [z4 0 (by omega) (by omega) (by omega)]; exact r0, by rw [z4 1 (by omega) (by omega) (by omega)]; exact r1, by rw [z4 2 (by omega) (by omega) (by omega)]; exact r2, z5, ?_, z7, fun i hi2 => ?_⟩
  · show M2 q 4 = du kd wt nx (s 2) (s 3).toNat
    rw [z6]
    unfold du
    rw [x1, x4, x5]
  · obtain ⟨v1, v2, v3, v4, v5, v6⟩ := r6 i hi2
    rw [fup_ne (by omega)] at v2 v3 v6
    rw [fup_ne (by omega), fup_ne (by omega), fup_ne (by omega), stp_p (by omega), stp_v (by omega), stp_o (by omega), z3 (q + 1) i (by omega) (by omega) (by omega), z3 (q + 2) i (by omega) (by omega) (by omega), z3 (q + 4) i (by omega) (by omega) (by omega), z3 (q + 5) i (by omega) (by omega) (by omega), z8 i, z9 i, x1, x4, R3, v3, v6]
    exact ⟨v1, v2, rfl, v4, v5, rfl⟩
/-- the trace holds what K steps read -/
def TR (M : Nat → Nat → Int) (pl : Int) (kd wt nx : Nat → Int) (K : Nat) (s : Nat → Int) : Prop := M 50 4 = (K : Int) ∧ M 50 5 = s 1 ∧ M 50 6 = pl ∧ M 50 3 = ((t_l pl kd wt nx K s).length : Int) ∧ (∀ j, j ≤ K → M 53 j = ((t_l pl kd wt nx j s).length : Int)) ∧ (∀ k x, (t_l pl kd wt nx K s)[k]? = some x → M 51 k = (x.1 : Int) ∧ M 52 k = x.2) ∧ K ≤ 40 ∧ ∀ j, j < K → t_run pl kd wt nx j s 3 ≠ -9
theorem TR_fr {M M2 : Nat → Nat → Int} {pl : Int} {kd wt nx : Nat → Int} {K : Nat} {s : Nat → Int} (h : TR M pl kd wt nx K s) (hf : ∀ q k, 50 ≤ q → q ≤ 53 → M2 q k = M q k) : TR M2 pl kd wt nx K s := by
  obtain ⟨h1, h2, h3, h4, h5, h6, h7, h8⟩ := h
  refine ⟨by rw [hf _ _ (by omega) (by omega)]; exact h1, by rw [hf _ _ (by omega) (by omega)]; exact h2, by rw [hf _ _ (by omega) (by omega)]; exact h3, by rw [hf _ _ (by omega) (by omega)]; exact h4, fun j hj => by rw [hf _ _ (by omega) (by omega)]; exact h5 j hj, fun k x hk => by rw [hf _ _ (by omega) (by omega), hf _ _ (by omega) (by omega)]; exact h6 k x hk, h7, h8⟩
theorem app_get {α : Type} {l m : List α} {y : α} {k : Nat} (h : (l ++ m)[k]? = some y) : (k < l.length ∧ l[k]? = some y) ∨ (l.length ≤ k ∧ m[k - l.length]? = some y) := by
  by_cases hk : k < l.length
  · rw [List.getElem?_append_left hk] at h
    exact Or.inl ⟨hk, h⟩
  · rw [List.getElem?_append_right (by omega)] at h
    exact Or.inr ⟨by omega, h⟩
theorem TR_step {M M2 : Nat → Nat → Int} {pl : Int} {kd wt nx : Nat → Int} {j : Nat} {s : Nat → Int} (h : TR M pl kd wt nx j s) (hj : j < 40) (h9 : t_run pl kd wt nx j s 3 ≠ -9) (b1 : M2 50 4 = (j : Int) + 1) (b2 : M2 50 5 = M 50 5) (b3 : M2 50 6 = M 50 6) (b4 : M2 50 3 = ((t_l pl kd wt nx j s).length : Int) + ((t_one kd wt (t_run pl kd wt nx j s)).length : Int)) (b5 : M2 53 (j + 1) = M2 50 3) (b6 : ∀ k, k ≤ j → M2 53 k = M 53 k) (b7 : ∀ k, k < (t_l pl kd wt nx j s).length → M2 51 k = M 51 k ∧ M2 52 k = M 52 k) (b8 : ∀ k x, (t_one kd wt (t_run pl kd wt nx j s))[k]? = some x → M2 51 ((t_l pl kd wt nx j s).length + k) = (x.1 : Int) ∧ M2 52 ((t_l pl kd wt nx j s).length + k) = x.2) : TR M2 pl kd wt nx (j + 1) s := by
  obtain ⟨h1, h2, h3, h4, h5, h6, h7, h8⟩ := h
  have e := (t_snoc (pl := pl) (kd := kd) (wt := wt) (nx := nx) j s).1 h9
  have el : ((t_l pl kd wt nx (j + 1) s).length : Int) = ((t_l pl kd wt nx j s).length : Int) + ((t_one kd wt (t_run pl kd wt nx j s)).length : Int) := by rw [e.2, List.length_append]; omega
  refine ⟨by rw [b1]; omega, by rw [b2]; exact h2, by rw [b3]; exact h3, by rw [b4, el], fun k hk => ?_, fun k x hk => ?_, by omega, fun k hk => ?_⟩
  · by_cases e1 : k = j + 1
    · rw [e1, b5, b4, el]
    · rw [b6 k (by omega)]
      exact h5 k (by omega)
  · rw [e.2] at hk
    rcases app_get hk with ⟨u1, u2⟩ | ⟨u1, u2⟩
    · rw [(b7 k u1).1, (b7 k u1).2]
      exact h6 k x u2
    · have hb := b8 _ _ u2
      rw [show (t_l pl kd wt nx j s).length + (k - (t_l pl kd wt nx j s).length) = k by omega] at hb
      exact hb
  · by_cases e1 : k = j
    · rw [e1]
      exact h9
    · exact h8 k (by omega)
set_option maxRecDepth 100000 in
theorem S_addRead {xo : Nat → List Int} {d : Nat} {Q : dz_Q} {sh : List (Nat ⊕ (Nat × Nat))} {rf : Nat → Nat → Nat} {M : Nat → Nat → Int} {i R : Int} (ht : tr_at sh rf 50) (h3 : M 50 3 = R) (hR : 0 ≤ R ∧ R < 80) (hQ : Q none (sh, rf, dz_up (dz_up (dz_up M 51 R.toNat i) 52 R.toNat 0) 50 3 (R + 1))) : dz_E dz_pp xo (d + 1) 47 [dz_r 50, dz_i i] (sh, rf, M) Q := by
  refine ⟨Nat.le_of_ble_eq_true rfl, ?_⟩
  have hc := dz_E_m dz_pp xo (d + 0)
  show dz_X (dz_E dz_pp xo (d + 0)) dz_pp xo (dz_pp 47) Q 0 [some (dz_r 50), some (dz_i i)] [] 0 0 (sh, rf, M)
  have t0 : sh[50]? = some (.inl 4) := ht.1
  have t1 : rf 50 0 = 51 + 1 := ht.2.1
  have t2 : sh[51]? = some (.inr (0, 80)) := ht.2.2.1
  have t3 : rf 50 1 = 52 + 1 := ht.2.2.2.1
  have t4 : sh[52]? = some (.inr (0, 80)) := ht.2.2.2.2.1
  have t5 : rf 50 2 = 53 + 1 := ht.2.2.2.2.2.1
  have t6 : sh[53]? = some (.inr (0, 41)) := ht.2.2.2.2.2.2
  refine xr_aloadn hc rfl rfl ?_
  refine xr_getfi hc rfl (Or.inl rfl) (by first | assumption | rfl) ?_
  rw [h3]
  refine xr_bipush hc rfl ?_
  refine xr_icmp_ge hc rfl (t := 39) rfl (fun b6 => ?_) (fun b6 => ?_)
  · refine xr_return hc rfl rfl (Nat.zero_le _) (Nat.zero_le _) ?_
    first
      | exact hQ
      | (exfalso; omega)
  · refine xr_aloadn hc rfl rfl ?_
    refine xr_getfr hc rfl rfl (by first | assumption | rfl) (by first | assumption | rfl) ?_
    refine xr_aloadn hc rfl rfl ?_
    refine xr_getfi hc rfl (Or.inl rfl) (by first | assumption | rfl) ?_
    rw [h3]
    refine xr_iloadn hc rfl rfl ?_
    refine xr_iastore hc rfl (by first | assumption | rfl) (by first | omega | (unfold dz_w; omega)) (by first | omega | (unfold dz_w; omega)) ?_
    refine xr_aloadn hc rfl rfl ?_
    refine xr_getfr hc rfl rfl (by first | assumption | rfl) (by first | assumption | rfl) ?_
    refine xr_aloadn hc rfl rfl ?_
    refine xr_getfi hc rfl (Or.inl rfl) (by first | assumption | rfl) ?_
    rw [dz_up_ne (by omega), h3]
    refine xr_iconst hc rfl ?_
    refine xr_iastore hc rfl (by first | assumption | rfl) (by first | omega | (unfold dz_w; omega)) (by first | omega | (unfold dz_w; omega)) ?_
    refine xr_aloadn hc rfl rfl ?_
    refine xr_dup hc rfl rfl ?_
    refine xr_getfi hc rfl (Or.inl rfl) (by first | assumption | rfl) ?_
    rw [dz_up_ne (by omega), dz_up_ne (by omega), h3]
    refine xr_iconst hc rfl ?_
    refine xr_iaddz hc rfl (by first | exact dz_wid (by first | omega | (unfold dz_w; omega)) (by first | omega | (unfold dz_w; omega)) | rfl) ?_
    refine xr_putfi hc rfl rfl (by first | assumption | rfl) ?_
    refine xr_return hc rfl rfl (Nat.zero_le _) (Nat.zero_le _) ?_
    first
      | exact hQ
      | (exfalso; omega)
set_option maxRecDepth 100000 in
theorem S_follow {xo : Nat → List Int} {d : Nat} {Q : dz_Q} {sh : List (Nat ⊕ (Nat × Nat))} {rf : Nat → Nat → Nat} {M : Nat → Nat → Int} {w pl B m : Int} {kd wt nx s : Nat → Int} (hx : xo 2 = dz_xs2) (ht : tr_at sh rf 50) (hm : ma_at sh rf 34) (hp : pgok w pl kd wt nx) (hs : stok w pl B s) (hB : B ≤ 900000) (hr : mrel M 34 w pl kd wt nx s) (h0 : M 53 0 = 0) (hn : 0 ≤ m ∧ m ≤ 40) (hQ : ∀ (M2 : Nat → Nat → Int) (K : Nat), (∀ q2 k2, ¬ (34 ≤ q2 ∧ q2 ≤ 40) → ¬ (50 ≤ q2 ∧ q2 ≤ 53) → M2 q2 k2 = M q2 k2) → TR M2 pl kd wt nx K s → (K = m.toNat ∨ t_run pl kd wt nx K s 3 = -9) → K ≤ m.toNat → mrel M2 34 w pl kd wt nx (fup (t_run pl kd wt nx m.toNat s) 1 (s 1)) → Q none (sh, rf, M2)) : dz_E dz_pp xo (d + 3) 46 [dz_r 50, dz_r 34, dz_i m] (sh, rf, M) Q := by
  refine ⟨Nat.le_of_ble_eq_true rfl, ?_⟩
  have hc := dz_E_m dz_pp xo (d + 2)
  show dz_X (dz_E dz_pp xo (d + 2)) dz_pp xo (dz_pp 46) Q 0 [some (dz_r 50), some (dz_r 34), some (dz_i m), none, none] [] 0 0 (sh, rf, M)
  have t0 : sh[50]? = some (.inl 4) := ht.1
  have t1 : rf 50 0 = 51 + 1 := ht.2.1
  have t2 : sh[51]? = some (.inr (0, 80)) := ht.2.2.1
  have t3 : rf 50 1 = 52 + 1 := ht.2.2.2.1
  have t4 : sh[52]? = some (.inr (0, 80)) := ht.2.2.2.2.1
  have t5 : rf 50 2 = 53 + 1 := ht.2.2.2.2.2.1
  have t6 : sh[53]? = some (.inr (0, 41)) := ht.2.2.2.2.2.2
  have m0 : sh[34]? = some (.inl 1) := hm.1
  have m1 : rf 34 6 = 35 + 1 := hm.2.1
  have m2 : sh[35]? = some (.inr (0, 6)) := hm.2.2.1
  have m3 : rf 34 7 = 36 + 1 := hm.2.2.2.1
  have m4 : sh[36]? = some (.inr (0, 6)) := hm.2.2.2.2.1
  have m5 : rf 34 8 = 37 + 1 := hm.2.2.2.2.2.1
  have m6 : sh[37]? = some (.inr (0, 6)) := hm.2.2.2.2.2.2.1
  have m7 : rf 34 9 = 38 + 1 := hm.2.2.2.2.2.2.2.1
  have m8 : sh[38]? = some (.inr (0, 6)) := hm.2.2.2.2.2.2.2.2.1
  have m9 : rf 34 10 = 39 + 1 := hm.2.2.2.2.2.2.2.2.2.1
  have m10 : sh[39]? = some (.inr (0, 6)) := hm.2.2.2.2.2.2.2.2.2.2.1
  have m11 : rf 34 11 = 40 + 1 := hm.2.2.2.2.2.2.2.2.2.2.2.1
  have m12 : sh[40]? = some (.inr (0, 6)) := hm.2.2.2.2.2.2.2.2.2.2.2.2
  obtain ⟨p1, p2, p3, p4, p5⟩ := id hp
  have hM2 : M 34 2 = s 1 := hr.2.2.1
  have hM1 : M 34 1 = pl := hr.2.1
  have lp : ∀ (n_ : Nat) (j : Nat) (M1 : Nat → Nat → Int) (e : Option dz_V), (j : Int) + n_ = m → (∀ q2 k2, ¬ (34 ≤ q2 ∧ q2 ≤ 40) → ¬ (50 ≤ q2 ∧ q2 ≤ 53) → M1 q2 k2 = M q2 k2) → TR M1 pl kd wt nx j s → mrel M1 34 w pl kd wt nx (fup (t_run pl kd wt nx j s) 1 (s 1)) → dz_X (dz_E dz_pp xo (d + 2)) dz_pp xo (dz_pp 46) Q 28 [some (dz_r 50), some (dz_r 34), some (dz_i m), some (dz_i (j : Int)), e] [] 0 0 (sh, rf, M1) := by
    intro n_
    induction n_ with
    | zero =>
      intro j M1 e hj f1 f2 f3
      refine xr_iloadn hc rfl rfl ?_
      refine xr_iloadn hc rfl rfl ?_
      refine xr_icmp_ge hc rfl (t := 135) rfl (fun b30 => ?_) (fun b30 => ?_)
      · refine xr_return hc rfl rfl (Nat.zero_le _) (Nat.zero_le _) ?_
        have ej : j = m.toNat := by omega
        rw [ej] at f2 f3
        exact hQ M1 m.toNat f1 f2 (Or.inl rfl) (by omega) f3
      · omega
    | succ n_ ih =>
      intro j M1 e hj f1 f2 f3
      have hok := t_run_ok hp j B s hs (by omega)
      obtain ⟨d1, d2, d3, d4, d5, d6, d7, d8⟩ := t_due hp hok
      obtain ⟨r0, r1, r2, r3, r4, r5, r6⟩ := id f3
      obtain ⟨T1, T2, T3, T4, T5, T6, T7, T8⟩ := id f2
      have R4 : M1 34 4 = (t_run pl kd wt nx j s) 3 := r4
      have hok2 := hok
      obtain ⟨s0, s1, s2, s3, s4, s5, s6, s7, s8⟩ := hok2
      have hL := (t_l_in hp j B s hs (by omega)).2
      refine xr_iloadn hc rfl rfl ?_
      refine xr_iloadn hc rfl rfl ?_
      refine xr_icmp_ge hc rfl (t := 135) rfl (fun b30 => ?_) (fun b30 => ?_)
      · first
          | (exfalso; omega)
          | (refine xr_return hc rfl rfl (Nat.zero_le _) (Nat.zero_le _) ?_
             have h9 : (t_run pl kd wt nx j s) 3 = -9 := by omega
             have hy := (t_stay h9 (m.toNat - j)).1
             rw [show j + (m.toNat - j) = m.toNat by omega] at hy
             exact hQ M1 j f1 f2 (Or.inr h9) (by omega) (by rw [hy]; exact f3))
      · refine xr_iloadn hc rfl rfl ?_
        refine xr_bipush hc rfl ?_
        refine xr_icmp_ge hc rfl (t := 135) rfl (fun b36 => ?_) (fun b36 => ?_)
        · first
            | (exfalso; omega)
            | (refine xr_return hc rfl rfl (Nat.zero_le _) (Nat.zero_le _) ?_
               have h9 : (t_run pl kd wt nx j s) 3 = -9 := by omega
               have hy := (t_stay h9 (m.toNat - j)).1
               rw [show j + (m.toNat - j) = m.toNat by omega] at hy
               exact hQ M1 j f1 f2 (Or.inr h9) (by omega) (by rw [hy]; exact f3))
        · refine xr_aloadn hc rfl rfl ?_
          refine xr_aloadn hc rfl rfl ?_
          refine xr_getfi hc rfl (Or.inl rfl) (by first | assumption | rfl) ?_
          rw [R4]
          refine xr_callv1 hc rfl (by first | assumption | rfl) rfl rfl rfl (Nat.le_of_ble_eq_true rfl) (Nat.zero_le _) (Nat.zero_le _) ?_
          refine S_has hm (by rw [r0]; omega) (fun u1 u2 => ?_) (fun u1 => ?_)
          all_goals try rw [r0] at u1
          all_goals try rw [r0] at u2
          · refine xk_1 ?_
            refine xr_iff hc rfl (by simp [dz_cmp]) ?_
            have h9 : (t_run pl kd wt nx j s) 3 ≠ -9 := by omega
            have t83 : ∀ (N1 : Nat → Nat → Int) (R : Nat), (∀ q2 k2, ¬ (q2 = 50 ∧ k2 = 3) → q2 ≠ 51 → q2 ≠ 52 → N1 q2 k2 = M1 q2 k2) → N1 50 3 = (R : Int) → (∀ k, k < (t_l pl kd wt nx j s).length → N1 51 k = M1 51 k ∧ N1 52 k = M1 52 k) → (((kd ((t_run pl kd wt nx j s) 3).toNat = 1 ∨ kd ((t_run pl kd wt nx j s) 3).toNat = 3 ∨ kd ((t_run pl kd wt nx j s) 3).toNat = 4) ∧ R = (t_l pl kd wt nx j s).length + 2 ∧ N1 51 ((t_l pl kd wt nx j s).length) = (t_run pl kd wt nx j s) 3 ∧ N1 52 ((t_l pl kd wt nx j s).length) = 0 ∧ N1 51 ((t_l pl kd wt nx j s).length + 1) = wt ((t_run pl kd wt nx j s) 3).toNat) ∨ (¬ (kd ((t_run pl kd wt nx j s) 3).toNat = 1 ∨ kd ((t_run pl kd wt nx j s) 3).toNat = 3 ∨ kd ((t_run pl kd wt nx j s) 3).toNat = 4) ∧ R = (t_l pl kd wt nx j s).length + 1 ∧ N1 51 ((t_l pl kd wt nx j s).length) = (t_run pl kd wt nx j s) 3)) → dz_X (dz_E dz_pp xo (d + 2)) dz_pp xo (dz_pp 46) Q 83 [some (dz_r 50), some (dz_r 34), some (dz_i m), some (dz_i (j : Int)), some (dz_i ((t_run pl kd wt nx j s) 3))] [] 0 0 (sh, rf, N1) := by
              intro N1 R n1 n2 n3 n4
              have hr3 : mrel N1 34 w pl kd wt nx (fup (t_run pl kd wt nx j s) 1 (s 1)) := mrel_fr f3 (fun q2 k u1 u2 => n1 _ _ (by omega) (by omega) (by omega))
              obtain ⟨q0, q1, q2, q3, q4, q5, q6⟩ := id hr3
              obtain ⟨x1, x2, x3, x4, x5, x6⟩ := q6 ((t_run pl kd wt nx j s) 3).toNat d1
              obtain ⟨y1, y2, y3, y4, y5, y6⟩ := q6 (wt ((t_run pl kd wt nx j s) 3).toNat).toNat d5
              rw [fup_ne (by omega)] at y3
              have X1 : N1 (34 + 1) ((t_run pl kd wt nx j s) 3).toNat = kd ((t_run pl kd wt nx j s) 3).toNat := x1
              have X4 : N1 (34 + 4) ((t_run pl kd wt nx j s) 3).toNat = wt ((t_run pl kd wt nx j s) 3).toNat := x4
              have Y3 : N1 (34 + 3) (wt ((t_run pl kd wt nx j s) 3).toNat).toNat = (t_run pl kd wt nx j s) (11 + (wt ((t_run pl kd wt nx j s) 3).toNat).toNat) := y3
              have hR1 : 1 ≤ R ∧ R ≤ 80 := by omega
              have iR : ((R : Int) - 1).toNat = R - 1 := by omega
              refine xr_aloadn hc rfl rfl ?_
              refine xr_getfr hc rfl rfl (by first | assumption | rfl) (by first | assumption | rfl) ?_
              refine xr_aloadn hc rfl rfl ?_
              refine xr_getfi hc rfl (Or.inl rfl) (by first | assumption | rfl) ?_
              rw [n2]
              refine xr_iconst hc rfl ?_
              refine xr_isubz hc rfl (by first | exact dz_wid (by first | omega | (unfold dz_w; omega)) (by first | omega | (unfold dz_w; omega)) | rfl) ?_
              refine xr_aloadn hc rfl rfl ?_
              refine xr_iload hc rfl rfl ?_
              refine xr_callv1 hc rfl (by first | assumption | rfl) rfl rfl rfl (Nat.le_of_ble_eq_true rfl) (Nat.zero_le _) (Nat.zero_le _) ?_
              refine S_workOf hm (by omega) (by rw [X1]; omega) (by rw [X4]; omega) (by rw [X4, Y3]; omega) ?_
              rw [X1, X4, Y3]
              refine xk_1 ?_
              refine xr_iastore hc rfl (by first | assumption | rfl) (by first | omega | (unfold dz_w; omega)) (by first | omega | (unfold dz_w; omega)) ?_
              rw [iR]
              refine xr_aloadn hc rfl rfl ?_
              refine xr_iload hc rfl rfl ?_
              refine xr_callv1 hc rfl (by first | assumption | rfl) rfl rfl rfl (Nat.le_of_ble_eq_true rfl) (Nat.zero_le _) (Nat.zero_le _) ?_
              refine S_actm (w := w) (pl := pl) (B := B + 29 * j) (b := s 1) (kd := kd) (wt := wt) (nx := nx) (s := (t_run pl kd wt nx j s)) hm hp hok h9 (mrel_fr hr3 (fun q2 k u1 u2 => by rw [dz_up_ne (by omega)])) (fun M3 z1 z2 => ?_)
              have y4 : M3 50 4 = (j : Int) := by rw [z1 _ _ (by omega) (by omega) (by omega), dz_up_ne (by omega), n1 _ _ (by omega) (by omega) (by omega), T1]
              have y3b : M3 50 3 = (R : Int) := by rw [z1 _ _ (by omega) (by omega) (by omega), dz_up_ne (by omega), n2]
              refine xk_0 ?_
              refine xr_aloadn hc rfl rfl ?_
              refine xr_dup hc rfl rfl ?_
              refine xr_getfi hc rfl (Or.inl rfl) (by first | assumption | rfl) ?_
              rw [y4]
              refine xr_iconst hc rfl ?_
              refine xr_iaddz hc rfl (by first | exact dz_wid (by first | omega | (unfold dz_w; omega)) (by first | omega | (unfold dz_w; omega)) | rfl) ?_
              refine xr_putfi hc rfl rfl (by first | assumption | rfl) ?_
              have ij : ((j : Int) + 1).toNat = j + 1 := by omega
              refine xr_aloadn hc rfl rfl ?_
              refine xr_getfr hc rfl rfl (by first | assumption | rfl) (by first | assumption | rfl) ?_
              refine xr_aloadn hc rfl rfl ?_
              refine xr_getfi hc rfl (Or.inl rfl) (by first | assumption | rfl) ?_
              rw [dz_up_eq]
              refine xr_aloadn hc rfl rfl ?_
              refine xr_getfi hc rfl (Or.inl rfl) (by first | assumption | rfl) ?_
              rw [dz_up_k (by omega), y3b]
              refine xr_iastore hc rfl (by first | assumption | rfl) (by first | omega | (unfold dz_w; omega)) (by first | omega | (unfold dz_w; omega)) ?_
              refine xr_iincz3 hc rfl rfl (by first | exact dz_wid (by first | omega | (unfold dz_w; omega)) (by first | omega | (unfold dz_w; omega)) | rfl) ?_
              refine xr_goto hc rfl (t := 28) rfl ?_
              rw [ij]
              have e1 := ((t_snoc (pl := pl) (kd := kd) (wt := wt) (nx := nx) j s).1 h9).1
              refine ih (j + 1) _ _ (by omega) (fun q2 k2 u1 u2 => ?_) ?_ ?_
              · rw [dz_up_ne (by omega), dz_up_ne (by omega), z1 _ _ (by omega) (by omega) (by omega), dz_up_ne (by omega), n1 _ _ (by omega) (by omega) (by omega), f1 _ _ u1 u2]
              · have eo : ∀ q2 k2, q2 ≠ 34 → q2 ≠ 37 → q2 ≠ 40 → M3 q2 k2 = dz_up N1 52 (R - 1) (wk (kd ((t_run pl kd wt nx j s) 3).toNat) ((t_run pl kd wt nx j s) (11 + (wt ((t_run pl kd wt nx j s) 3).toNat).toNat))) q2 k2 := fun q2 k2 u1 u2 u3 => z1 q2 k2 u1 u2 u3
                refine TR_step f2 (by omega) h9 ?_ ?_ ?_ ?_ ?_ ?_ ?_ ?_
                · rw [dz_up_ne (by omega), dz_up_eq]
                · rw [dz_up_ne (by omega), dz_up_k (by omega), eo _ _ (by omega) (by omega) (by omega), dz_up_ne (by omega), n1 _ _ (by omega) (by omega) (by omega)]
                · rw [dz_up_ne (by omega), dz_up_k (by omega), eo _ _ (by omega) (by omega) (by omega), dz_up_ne (by omega), n1 _ _ (by omega) (by omega) (by omega)]
                · rw [dz_up_ne (by omega), dz_up_k (by omega), y3b]
                  unfold t_one
                  rcases n4 with ⟨v1, v2, v3⟩ | ⟨v1, v2, v3⟩
                  · rw [if_pos v1, v2]
                    show _ = (((t_l pl kd wt nx j s).length : Nat) : Int) + 2
                    omega
                  · rw [if_neg v1, v2]
                    show _ = (((t_l pl kd wt nx j s).length : Nat) : Int) + 1
                    omega
                · rw [dz_up_eq, dz_up_ne (by omega), dz_up_k (by omega), y3b]
                · intro k hk
                  rw [dz_up_k (by omega), dz_up_ne (by omega), eo _ _ (by omega) (by omega) (by omega), dz_up_ne (by omega), n1 _ _ (by omega) (by omega) (by omega)]
                · intro k hk
                  rw [dz_up_ne (by omega), dz_up_ne (by omega), eo _ _ (by omega) (by omega) (by omega), dz_up_ne (by omega), (n3 k hk).1, dz_up_ne (by omega), dz_up_ne (by omega), eo _ _ (by omega) (by omega) (by omega), dz_up_k (by omega), (n3 k hk).2]
                  exact ⟨rfl, rfl⟩
                · intro k x hk
                  rw [dz_up_ne (by omega), dz_up_ne (by omega), eo _ _ (by omega) (by omega) (by omega), dz_up_ne (by omega), dz_up_ne (by omega), dz_up_ne (by omega), eo _ _ (by omega) (by omega) (by omega)]
                  unfold t_one at hk
                  rcases n4 with ⟨v1, v2, v3, v4, v5⟩ | ⟨v1, v2, v3⟩
                  · rw [if_pos v1] at hk
                    match k, hk with
                    | 0, hk =>
                      have hx : x = (((t_run pl kd wt nx j s) 3).toNat, 0) := by simpa using hk.symm
                      rw [hx, dz_up_k (by omega)]
                      show N1 51 ((t_l pl kd wt nx j s).length + 0) = (((t_run pl kd wt nx j s) 3).toNat : Int) ∧ N1 52 ((t_l pl kd wt nx j s).length + 0) = 0
                      rw [Nat.add_zero, v3, v4]
                      exact ⟨by omega, rfl⟩
                    | 1, hk =>
                      have hx : x = ((wt ((t_run pl kd wt nx j s) 3).toNat).toNat, wk (kd ((t_run pl kd wt nx j s) 3).toNat) ((t_run pl kd wt nx j s) (11 + (wt ((t_run pl kd wt nx j s) 3).toNat).toNat))) := by simpa using hk.symm
                      rw [hx, v5, show R - 1 = (t_l pl kd wt nx j s).length + 1 by omega, dz_up_eq]
                      exact ⟨by omega, rfl⟩
                    | k + 2, hk => simp at hk
                  · rw [if_neg v1] at hk
                    match k, hk with
                    | 0, hk =>
                      have hx : x = (((t_run pl kd wt nx j s) 3).toNat, wk (kd ((t_run pl kd wt nx j s) 3).toNat) ((t_run pl kd wt nx j s) (11 + (wt ((t_run pl kd wt nx j s) 3).toNat).toNat))) := by simpa using hk.symm
                      rw [hx, show R - 1 = (t_l pl kd wt nx j s).length + 0 by omega, dz_up_eq]
                      show N1 51 ((t_l pl kd wt nx j s).length + 0) = (((t_run pl kd wt nx j s) 3).toNat : Int) ∧ _
                      rw [Nat.add_zero, v3]
                      exact ⟨by omega, rfl⟩
                    | k + 1, hk => simp at hk
              · rw [e1]
                exact mrel_fr z2 (fun q2 k u1 u2 => by rw [dz_up_ne (by omega), dz_up_ne (by omega)])
            refine xr_aloadn hc rfl rfl ?_
            refine xr_getfi hc rfl (Or.inl rfl) (by first | assumption | rfl) ?_
            rw [R4]
            refine xr_istore4 hc rfl rfl ?_
            refine xr_aloadn hc rfl rfl ?_
            refine xr_iload hc rfl rfl ?_
            refine xr_callv1 hc rfl (by first | assumption | rfl) rfl rfl rfl (Nat.le_of_ble_eq_true rfl) (Nat.zero_le _) (Nat.zero_le _) ?_
            refine S_addRead (R := (((t_l pl kd wt nx j s).length : Nat) : Int)) ht T4 (by omega) ?_
            rw [Int.toNat_natCast]
            obtain ⟨M1a, hM1a⟩ : ∃ X, X = dz_up (dz_up (dz_up M1 51 ((t_l pl kd wt nx j s).length) ((t_run pl kd wt nx j s) 3)) 52 ((t_l pl kd wt nx j s).length) 0) 50 3 ((((t_l pl kd wt nx j s).length : Nat) : Int) + 1) := ⟨_, rfl⟩
            rw [← hM1a]
            have g0 : ∀ q2 k2, ¬ (q2 = 50 ∧ k2 = 3) → q2 ≠ 51 → q2 ≠ 52 → M1a q2 k2 = M1 q2 k2 := fun q2 k2 v1 v2 v3 => by
              rw [hM1a]
              by_cases e : q2 = 50
              · subst e
                rw [dz_up_k (by omega), dz_up_ne (by omega), dz_up_ne (by omega)]
              · rw [dz_up_ne e, dz_up_ne v3, dz_up_ne v2]
            have g3 : M1a 50 3 = (((t_l pl kd wt nx j s).length + 1 : Nat) : Int) := by rw [hM1a, dz_up_eq]; omega
            have g5 : M1a 51 ((t_l pl kd wt nx j s).length) = (t_run pl kd wt nx j s) 3 := by rw [hM1a, dz_up_ne (by omega), dz_up_ne (by omega), dz_up_eq]
            have g6 : M1a 52 ((t_l pl kd wt nx j s).length) = 0 := by rw [hM1a, dz_up_ne (by omega), dz_up_eq]
            have g7 : ∀ k, k < (t_l pl kd wt nx j s).length → M1a 51 k = M1 51 k ∧ M1a 52 k = M1 52 k := fun k hk => by rw [hM1a, dz_up_ne (by omega), dz_up_ne (by omega), dz_up_k (by omega), dz_up_ne (by omega), dz_up_k (by omega), dz_up_ne (by omega)]; exact ⟨rfl, rfl⟩
            obtain ⟨o1, o2, o3, o4, o5, o6⟩ := r6 ((t_run pl kd wt nx j s) 3).toNat d1
            have u1k : M1a (34 + 1) ((t_run pl kd wt nx j s) 3).toNat = kd ((t_run pl kd wt nx j s) 3).toNat := by rw [g0 _ _ (by omega) (by omega) (by omega)]; exact o1
            have u4 : M1a (34 + 4) ((t_run pl kd wt nx j s) 3).toNat = wt ((t_run pl kd wt nx j s) 3).toNat := by rw [g0 _ _ (by omega) (by omega) (by omega)]; exact o4
            refine xk_0 ?_
            refine xr_aloadn hc rfl rfl ?_
            refine xr_iload hc rfl rfl ?_
            refine xr_iconst hc rfl ?_
            refine xr_callv2 hc rfl (by first | assumption | rfl) rfl rfl rfl (Nat.le_of_ble_eq_true rfl) (Nat.zero_le _) (Nat.zero_le _) ?_
            refine S_isOf hx hm (by omega) (by rw [u1k]; omega) (by omega) (fun v1 => ?_) (fun v1 => ?_)
            all_goals (rw [u1k] at v1; unfold isof at v1)
            · refine xk_1 ?_
              refine xr_iff hc rfl (by simp [dz_cmp]) ?_
              refine xr_aloadn hc rfl rfl ?_
              refine xr_aloadn hc rfl rfl ?_
              refine xr_getfr hc rfl rfl (by first | assumption | rfl) (by first | assumption | rfl) ?_
              refine xr_iload hc rfl rfl ?_
              first | refine xr_iaload hc rfl (by first | assumption | rfl) (by first | omega | (unfold dz_w; omega)) (by first | omega | (unfold dz_w; omega)) ?_ | refine xr_ialoado hc rfl (by first | omega | (unfold dz_w; omega)) (by first | omega | (unfold dz_w; omega)) ?_
              rw [show M1a 38 ((t_run pl kd wt nx j s) 3).toNat = wt ((t_run pl kd wt nx j s) 3).toNat from u4]
              refine xr_callv1 hc rfl (by first | assumption | rfl) rfl rfl rfl (Nat.le_of_ble_eq_true rfl) (Nat.zero_le _) (Nat.zero_le _) ?_
              refine S_addRead (R := (((t_l pl kd wt nx j s).length + 1 : Nat) : Int)) ht g3 (by omega) ?_
              rw [Int.toNat_natCast]
              refine xk_0 ?_
              first
                | (refine t83 _ ((t_l pl kd wt nx j s).length + 1) g0 g3 g7 (Or.inr ⟨by omega, rfl, g5⟩); done)
                | (refine t83 _ ((t_l pl kd wt nx j s).length + 2) (fun q2 k2 v2 v3 v4 => ?_) ?_ (fun k hk => ?_) (Or.inl ⟨by omega, rfl, ?_, ?_, ?_⟩)
                   · by_cases e : q2 = 50
                     · subst e
                       rw [dz_up_k (by omega), dz_up_ne (by omega), dz_up_ne (by omega), g0 _ _ v2 v3 v4]
                     · rw [dz_up_ne e, dz_up_ne v4, dz_up_ne v3, g0 _ _ v2 v3 v4]
                   · rw [dz_up_eq]
                     omega
                   · rw [dz_up_ne (by omega), dz_up_ne (by omega), dz_up_k (by omega), dz_up_ne (by omega), dz_up_k (by omega), dz_up_ne (by omega)]
                     exact g7 k hk
                   · rw [dz_up_ne (by omega), dz_up_ne (by omega), dz_up_k (by omega), g5]
                   · rw [dz_up_ne (by omega), dz_up_k (by omega), dz_up_ne (by omega), g6]
                   · rw [dz_up_ne (by omega), dz_up_ne (by omega), dz_up_eq])
            · refine xk_1 ?_
              refine xr_ift hc rfl (t := 83) rfl (by simp [dz_cmp]) ?_
              first
                | (refine t83 _ ((t_l pl kd wt nx j s).length + 1) g0 g3 g7 (Or.inr ⟨by omega, rfl, g5⟩); done)
                | (refine t83 _ ((t_l pl kd wt nx j s).length + 2) (fun q2 k2 v2 v3 v4 => ?_) ?_ (fun k hk => ?_) (Or.inl ⟨by omega, rfl, ?_, ?_, ?_⟩)
                   · by_cases e : q2 = 50
                     · subst e
                       rw [dz_up_k (by omega), dz_up_ne (by omega), dz_up_ne (by omega), g0 _ _ v2 v3 v4]
                     · rw [dz_up_ne e, dz_up_ne v4, dz_up_ne v3, g0 _ _ v2 v3 v4]
                   · rw [dz_up_eq]
                     omega
                   · rw [dz_up_ne (by omega), dz_up_ne (by omega), dz_up_k (by omega), dz_up_ne (by omega), dz_up_k (by omega), dz_up_ne (by omega)]
                     exact g7 k hk
                   · rw [dz_up_ne (by omega), dz_up_ne (by omega), dz_up_k (by omega), g5]
                   · rw [dz_up_ne (by omega), dz_up_k (by omega), dz_up_ne (by omega), g6]
                   · rw [dz_up_ne (by omega), dz_up_ne (by omega), dz_up_eq])
          · refine xk_1 ?_
            refine xr_ift hc rfl (t := 135) rfl (by simp [dz_cmp]) ?_
            first
              | (exfalso; omega)
              | (refine xr_return hc rfl rfl (Nat.zero_le _) (Nat.zero_le _) ?_
                 have h9 : (t_run pl kd wt nx j s) 3 = -9 := by omega
                 have hy := (t_stay h9 (m.toNat - j)).1
                 rw [show j + (m.toNat - j) = m.toNat by omega] at hy
                 exact hQ M1 j f1 f2 (Or.inr h9) (by omega) (by rw [hy]; exact f3))
  refine xr_aloadn hc rfl rfl ?_
  refine xr_iconst hc rfl ?_
  refine xr_putfi hc rfl rfl (by first | assumption | rfl) ?_
  refine xr_aloadn hc rfl rfl ?_
  refine xr_iconst hc rfl ?_
  refine xr_putfi hc rfl rfl (by first | assumption | rfl) ?_
  refine xr_aloadn hc rfl rfl ?_
  refine xr_aloadn hc rfl rfl ?_
  refine xr_getfi hc rfl (Or.inl rfl) (by first | assumption | rfl) ?_
  rw [dz_up_ne (by omega), dz_up_ne (by omega), hM2]
  refine xr_putfi hc rfl rfl (by first | assumption | rfl) ?_
  refine xr_aloadn hc rfl rfl ?_
  refine xr_aloadn hc rfl rfl ?_
  refine xr_getfi hc rfl (Or.inl rfl) (by first | assumption | rfl) ?_
  rw [dz_up_ne (by omega), dz_up_ne (by omega), dz_up_ne (by omega), hM1]
  refine xr_putfi hc rfl rfl (by first | assumption | rfl) ?_
  refine xr_iconst hc rfl ?_
  refine xr_istore3 hc rfl rfl ?_
  refine lp m.toNat 0 _ _ (by omega) (fun q2 k2 u1 u2 => by rw [dz_up_ne (by omega), dz_up_ne (by omega), dz_up_ne (by omega), dz_up_ne (by omega)]) ?_ ?_
  · refine ⟨?_, ?_, ?_, ?_, fun k hk => ?_, fun k x hk => ?_, by omega, fun k hk => ?_⟩
    · rw [dz_up_k (by omega), dz_up_k (by omega), dz_up_eq]
      rfl
    · rw [dz_up_k (by omega), dz_up_eq]
    · rw [dz_up_eq]
    · rw [dz_up_k (by omega), dz_up_k (by omega), dz_up_k (by omega), dz_up_eq]
      rfl
    · rw [dz_up_ne (by omega), dz_up_ne (by omega), dz_up_ne (by omega), dz_up_ne (by omega), show k = 0 by omega]
      exact h0
    · simp [t_l] at hk
    · omega
  · show mrel _ 34 w pl kd wt nx (fup s 1 (s 1))
    rw [fup_self]
    exact mrel_fr hr (fun q2 k u1 u2 => by rw [dz_up_ne (by omega), dz_up_ne (by omega), dz_up_ne (by omega), dz_up_ne (by omega)])
