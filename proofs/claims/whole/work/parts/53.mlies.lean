/-! The other one: where a word lies, of which kind it is. Written by l2_53.py. -/
theorem dz_or0 {x : Int} (h : dz_in32 x) : dz_or x 0 = x := by
  unfold dz_or
  rw [show Int32.ofInt 0 = 0 from rfl, Int32.or_zero, dz_tI h]
set_option maxRecDepth 100000 in
theorem D_noBeats {xo : Nat → List Int} {d : Nat} {Q : dz_Q} {sh : List (Nat ⊕ (Nat × Nat))} {rf : Nat → Nat → Nat} {M : Nat → Nat → Int} {rs : Nat → Int} {it : Nat → Nat → Int} {ts : Nat → Int} {ch : Nat → Nat → Int} {tl up lo : Int} {fn : Nat → Int} {w pl : Int} {kd wt nx : Nat → Int} {n : Nat} {hs : Nat → Nat → Int} {kp : Nat → Int} {kh : Nat → Nat → Nat → Int} {i r : Int} (hl : ml sh rf) (hR : RM M rs it ts ch tl up lo fn w pl kd wt nx n hs kp kh) (hW : WF rs it ts ch tl up lo fn w pl kd wt nx n hs kp kh) (hi : 0 ≤ i ∧ i < w ∧ 0 ≤ r ∧ r ≤ 5) (h2 : ∀ f : Nat, 1 ≤ f → rtc rs it w i r = f → ∀ M2 : Nat → Nat → Int, (∀ q2 k2, q2 < 115 → M2 q2 k2 = M q2 k2) → RM M2 rs it ts ch tl up lo (rfu fn f) w pl kd wt nx n hs kp kh → Q (some (dz_i (-3))) (sh, rf, M2)) (h3 : rtc rs it w i r = 0 → Q (some (dz_i 0)) (sh, rf, M)) : dz_E dz_pp xo (d + 2) 187 [dz_r 115, dz_i r] (sh, rf, M) Q := by
  refine ⟨Nat.le_of_ble_eq_true rfl, ?_⟩
  have hc := dz_E_m dz_pp xo (d + 1)
  show dz_X (dz_E dz_pp xo (d + 1)) dz_pp xo (dz_pp 187) Q 0 [some (dz_r 115), some (dz_i r), none, none] [] 0 0 (sh, rf, M)
  obtain ⟨c0, c1, c2, c3, c4, c5, c6, c7, c8, c9, c10, c11, c12, c13, c14, c15, c16, c17, c18, c19, c20, c21, c22, c23, c24, c25, c26, c27, c28, c29⟩ := id hl
  obtain ⟨hrow, htxt, htl, hup, hlo, hfn, hdr, hkp⟩ := id hR
  obtain ⟨wrow, wtxt, wdr, wst, wkp⟩ := id hW
  have hw6 := WF_w hW
  have hdr3 : drM M w pl kd wt nx n hs ∧ w ≤ 6 ∧ n ≤ 40 := ⟨hdr, hw6.2, wst.1⟩
  have hkp3 : kepM M w kp kh ∧ w ≤ 6 ∧ ∀ k, k < 3 → kp k ≤ 40 := ⟨hkp, hw6.2, fun k hk => by
    rcases wkp k hk with z | z
    · omega
    · exact z.2.1⟩
  obtain ⟨a1, a2, a3, b1, b2, b3⟩ := id hdr
  have hpg : pgM M w pl kd wt nx := ⟨a1, a2, a3⟩
  have b2c : ∀ c, okc w c → M 116 c = hs n c := fun c hc => by
    have h3 := b2 c hc
    rw [Nat.zero_add] at h3
    exact h3
  obtain ⟨e1, e2⟩ := hrow r.toNat (by omega)
  have w1 := wrow r.toNat (by omega)
  refine xr_aloadn hc rfl rfl ?_
  refine xr_getfr hc rfl rfl (by first | assumption | rfl) (by first | assumption | rfl) ?_
  refine xr_iloadn hc rfl rfl ?_
  first | refine xr_iaload hc rfl (by first | assumption | rfl) (by first | omega | (unfold dz_w; omega)) (by first | omega | (unfold dz_w; omega)) ?_ | refine xr_ialoado hc rfl (by first | omega | (unfold dz_w; omega)) (by first | omega | (unfold dz_w; omega)) ?_
  rw [e1]
  refine xr_if_ge hc rfl (t := 15) rfl (fun b6 => ?_) (fun b6 => ?_)
  · refine xr_aloadn hc rfl rfl ?_
    refine xr_getfr hc rfl rfl (by first | assumption | rfl) (by first | assumption | rfl) ?_
    refine xr_iloadn hc rfl rfl ?_
    first | refine xr_iaload hc rfl (by first | assumption | rfl) (by first | omega | (unfold dz_w; omega)) (by first | omega | (unfold dz_w; omega)) ?_ | refine xr_ialoado hc rfl (by first | omega | (unfold dz_w; omega)) (by first | omega | (unfold dz_w; omega)) ?_
    rw [e1]
    refine xr_i2l hc rfl ?_
    refine xr_lconst hc rfl ?_
    refine xr_ldc2 hc rfl ?_
    refine xr_calls3 hc rfl (by decide) rfl rfl rfl (Nat.le_of_ble_eq_true rfl) (Nat.zero_le _) (Nat.zero_le _) ?_
    refine S_in (fun u3 v3 => ?_) (fun u3 => ?_)
    · refine xk_1 ?_
      refine xr_ift hc rfl (t := 38) rfl (by simp [dz_cmp]) ?_
      have lp : ∀ (m_ : Nat) (k : Nat) (b : Bool), (k : Int) + m_ = rs r.toNat → rok (it r.toNat) k = b → dz_X (dz_E dz_pp xo (d + 1)) dz_pp xo (dz_pp 187) Q 42 [some (dz_r 115), some (dz_i r), some (dz_i (if b = true then 1 else 0)), some (dz_i (k : Int))] [] 0 0 (sh, rf, M) := by
        intro m_
        induction m_ with
        | zero =>
          intro k b hk hok
          have ek : (rs r.toNat).toNat = k := by omega
          refine xr_iloadn hc rfl rfl ?_
          refine xr_aloadn hc rfl rfl ?_
          refine xr_getfr hc rfl rfl (by first | assumption | rfl) (by first | assumption | rfl) ?_
          refine xr_iloadn hc rfl rfl ?_
          first | refine xr_iaload hc rfl (by first | assumption | rfl) (by first | omega | (unfold dz_w; omega)) (by first | omega | (unfold dz_w; omega)) ?_ | refine xr_ialoado hc rfl (by first | omega | (unfold dz_w; omega)) (by first | omega | (unfold dz_w; omega)) ?_
          rw [e1]
          refine xr_icmp_ge hc rfl (t := 90) rfl (fun b49 => ?_) (fun b49 => ?_)
          · cases b with
            | true =>
              refine xr_iloadn hc rfl rfl ?_
              refine xr_iff hc rfl (by simp [dz_cmp]) ?_
              refine xr_iconst hc rfl ?_
              refine xr_goto hc rfl (t := 103) rfl ?_
              refine xr_ireturn hc rfl rfl (Nat.zero_le _) (Nat.zero_le _) ?_
              refine h3 ?_
              unfold rtc
              rw [if_neg (by omega), if_neg (by omega), if_neg (by omega), if_pos (by rw [ek]; exact hok)]
            | false =>
              refine xr_iloadn hc rfl rfl ?_
              refine xr_ift hc rfl (t := 98) rfl (by simp [dz_cmp]) ?_
              refine xr_aloadn hc rfl rfl ?_
              refine xr_iconst hc rfl ?_
              refine xr_callv1 hc rfl (by first | assumption | rfl) rfl rfl rfl (Nat.le_of_ble_eq_true rfl) (Nat.zero_le _) (Nat.zero_le _) ?_
              refine D_find hl hR hW (by omega) (fun M2 z1 z2 => ?_)
              refine xk_1 ?_
              refine xr_ireturn hc rfl rfl (Nat.zero_le _) (Nat.zero_le _) ?_
              refine h2 3 (by omega) ?_ M2 z1 z2
              unfold rtc
              rw [if_neg (by omega), if_neg (by omega), if_neg (by omega), if_neg (by rw [ek, hok]; decide)]
              rfl
          · omega
        | succ m_ ih =>
          intro k b hk hok
          have e3 := e2 k (by omega)
          have ix : (40 * r + (k : Int)).toNat = 40 * r.toNat + k := by omega
          have er : rok (it r.toNat) (k + 1) = (rok (it r.toNat) k && decide (0 ≤ it r.toNat k ∧ it r.toNat k ≤ 999)) := rfl
          rw [hok] at er
          refine xr_iloadn hc rfl rfl ?_
          refine xr_aloadn hc rfl rfl ?_
          refine xr_getfr hc rfl rfl (by first | assumption | rfl) (by first | assumption | rfl) ?_
          refine xr_iloadn hc rfl rfl ?_
          first | refine xr_iaload hc rfl (by first | assumption | rfl) (by first | omega | (unfold dz_w; omega)) (by first | omega | (unfold dz_w; omega)) ?_ | refine xr_ialoado hc rfl (by first | omega | (unfold dz_w; omega)) (by first | omega | (unfold dz_w; omega)) ?_
          rw [e1]
          refine xr_icmp_ge hc rfl (t := 90) rfl (fun b49 => ?_) (fun b49 => ?_)
          · omega
          · cases b with
            | true =>
              refine xr_iloadn hc rfl rfl ?_
              refine xr_iff hc rfl (by simp [dz_cmp]) ?_
              refine xr_aloadn hc rfl rfl ?_
              refine xr_getfr hc rfl rfl (by first | assumption | rfl) (by first | assumption | rfl) ?_
              refine xr_bipush hc rfl ?_
              refine xr_iloadn hc rfl rfl ?_
              refine xr_imulz hc rfl (by first | exact dz_wid (by first | omega | (unfold dz_w; omega)) (by first | omega | (unfold dz_w; omega)) | rfl) ?_
              refine xr_iloadn hc rfl rfl ?_
              refine xr_iaddz hc rfl (by first | exact dz_wid (by first | omega | (unfold dz_w; omega)) (by first | omega | (unfold dz_w; omega)) | rfl) ?_
              first | refine xr_iaload hc rfl (by first | assumption | rfl) (by first | omega | (unfold dz_w; omega)) (by first | omega | (unfold dz_w; omega)) ?_ | refine xr_ialoado hc rfl (by first | omega | (unfold dz_w; omega)) (by first | omega | (unfold dz_w; omega)) ?_
              rw [ix, e3]
              refine xr_i2l hc rfl ?_
              refine xr_lconst hc rfl ?_
              refine xr_ldc2 hc rfl ?_
              refine xr_calls3 hc rfl (by decide) rfl rfl rfl (Nat.le_of_ble_eq_true rfl) (Nat.zero_le _) (Nat.zero_le _) ?_
              refine S_in (fun u4 v4 => ?_) (fun u4 => ?_)
              · refine xk_1 ?_
                refine xr_iff hc rfl (by simp [dz_cmp]) ?_
                refine xr_iconst hc rfl ?_
                refine xr_goto hc rfl (t := 83) rfl ?_
                refine xr_istore2 hc rfl rfl ?_
                refine xr_iincz3 hc rfl rfl (by first | exact dz_wid (by first | omega | (unfold dz_w; omega)) (by first | omega | (unfold dz_w; omega)) | rfl) ?_
                refine xr_goto hc rfl (t := 42) rfl ?_
                first
                  | exact ih (k + 1) true (by omega) (by rw [er, Bool.true_and, decide_eq_true_iff]; omega)
                  | exact ih (k + 1) false (by omega) (by rw [er, Bool.true_and, decide_eq_false_iff_not]; omega)
              · refine xk_1 ?_
                refine xr_ift hc rfl (t := 82) rfl (by simp [dz_cmp]) ?_
                refine xr_iconst hc rfl ?_
                refine xr_istore2 hc rfl rfl ?_
                refine xr_iincz3 hc rfl rfl (by first | exact dz_wid (by first | omega | (unfold dz_w; omega)) (by first | omega | (unfold dz_w; omega)) | rfl) ?_
                refine xr_goto hc rfl (t := 42) rfl ?_
                first
                  | exact ih (k + 1) true (by omega) (by rw [er, Bool.true_and, decide_eq_true_iff]; omega)
                  | exact ih (k + 1) false (by omega) (by rw [er, Bool.true_and, decide_eq_false_iff_not]; omega)
            | false =>
              refine xr_iloadn hc rfl rfl ?_
              refine xr_ift hc rfl (t := 82) rfl (by simp [dz_cmp]) ?_
              refine xr_iconst hc rfl ?_
              refine xr_istore2 hc rfl rfl ?_
              refine xr_iincz3 hc rfl rfl (by first | exact dz_wid (by first | omega | (unfold dz_w; omega)) (by first | omega | (unfold dz_w; omega)) | rfl) ?_
              refine xr_goto hc rfl (t := 42) rfl ?_
              exact ih (k + 1) false (by omega) (by rw [er, Bool.false_and])
      refine xr_iconst hc rfl ?_
      refine xr_istore2 hc rfl rfl ?_
      refine xr_iconst hc rfl ?_
      refine xr_istore3 hc rfl rfl ?_
      exact lp (rs r.toNat).toNat 0 true (by omega) rfl
    · refine xk_1 ?_
      refine xr_iff hc rfl (by simp [dz_cmp]) ?_
      refine xr_aloadn hc rfl rfl ?_
      refine xr_iconst hc rfl ?_
      refine xr_callv1 hc rfl (by first | assumption | rfl) rfl rfl rfl (Nat.le_of_ble_eq_true rfl) (Nat.zero_le _) (Nat.zero_le _) ?_
      refine D_find hl hR hW (by omega) (fun M2 z1 z2 => ?_)
      refine xk_1 ?_
      refine xr_ireturn hc rfl rfl (Nat.zero_le _) (Nat.zero_le _) ?_
      refine h2 5 (by omega) ?_ M2 z1 z2
      unfold rtc
      rw [if_neg (by omega), if_neg (by omega), if_pos (by omega)]
      rfl
  · refine xr_aloadn hc rfl rfl ?_
    refine xr_iconst hc rfl ?_
    refine xr_callv1 hc rfl (by first | assumption | rfl) rfl rfl rfl (Nat.le_of_ble_eq_true rfl) (Nat.zero_le _) (Nat.zero_le _) ?_
    refine D_find hl hR hW (by omega) (fun M2 z1 z2 => ?_)
    refine xk_1 ?_
    refine xr_ireturn hc rfl rfl (Nat.zero_le _) (Nat.zero_le _) ?_
    refine h2 1 (by omega) ?_ M2 z1 z2
    unfold rtc
    rw [if_neg (by omega), if_pos (by omega)]
    rfl
set_option maxRecDepth 100000 in
theorem D_isSo {xo : Nat → List Int} {d : Nat} {Q : dz_Q} {sh : List (Nat ⊕ (Nat × Nat))} {rf : Nat → Nat → Nat} {M : Nat → Nat → Int} {w pl B m r : Int} {kd wt nx s tm : Nat → Int} (hl : ml sh rf) (hpg : pgM M w pl kd wt nx) (hp : pgok w pl kd wt nx) (hs : stok w pl B s) (hB : B ≤ 900000) (hr : prel M 3612 w s) (hld : M 115 23 = 0) (hrr : 0 ≤ r ∧ r ≤ 5) (hm : 0 ≤ m ∧ m ≤ 6) (h120 : M 120 r.toNat = m) (htm : ∀ j : Nat, (j : Int) < m → M 121 (40 * r.toNat + j) = tm j) (h1161 : M 116 1 = s 1) (h1 : (∀ j, j < m.toNat → t_run pl kd wt nx j s 3 ≠ -9 ∧ t_run pl kd wt nx (j + 1) s 1 - s 1 = tm j) → ∀ M2 : Nat → Nat → Int, tfr M M2 → Q (some (dz_i 1)) (sh, rf, M2)) (h2 : ¬ (∀ j, j < m.toNat → t_run pl kd wt nx j s 3 ≠ -9 ∧ t_run pl kd wt nx (j + 1) s 1 - s 1 = tm j) → ∀ M2 : Nat → Nat → Int, tfr M M2 → Q (some (dz_i 0)) (sh, rf, M2)) : dz_E dz_pp xo (d + 4) 188 [dz_r 115, dz_i r] (sh, rf, M) Q := by
  refine ⟨Nat.le_of_ble_eq_true rfl, ?_⟩
  have hc := dz_E_m dz_pp xo (d + 3)
  show dz_X (dz_E dz_pp xo (d + 3)) dz_pp xo (dz_pp 188) Q 0 [some (dz_r 115), some (dz_i r), none] [] 0 0 (sh, rf, M)
  obtain ⟨c0, c1, c2, c3, c4, c5, c6, c7, c8, c9, c10, c11, c12, c13, c14, c15, c16, c17, c18, c19, c20, c21, c22, c23, c24, c25, c26, c27, c28, c29⟩ := id hl
  have lp : ∀ (m_ : Nat) (j : Nat) (N : Nat → Nat → Int), (j : Int) + m_ = m → tfr M N → prel N 3612 w (t_run pl kd wt nx j s) → N 115 23 = 0 → (∀ i, i < j → t_run pl kd wt nx i s 3 ≠ -9 ∧ t_run pl kd wt nx (i + 1) s 1 - s 1 = tm i) → dz_X (dz_E dz_pp xo (d + 3)) dz_pp xo (dz_pp 188) Q 2 [some (dz_r 115), some (dz_i r), some (dz_i (j : Int))] [] 0 0 (sh, rf, N) := by
    intro m_
    induction m_ with
    | zero =>
      intro j N hj f1 f2 f3 f4
      have n0 : N 120 r.toNat = m := by rw [f1 _ _ (by omega) (by omega)]; exact h120
      refine xr_iloadn hc rfl rfl ?_
      refine xr_aloadn hc rfl rfl ?_
      refine xr_getfr hc rfl rfl (by first | assumption | rfl) (by first | assumption | rfl) ?_
      refine xr_iloadn hc rfl rfl ?_
      first | refine xr_iaload hc rfl (by first | assumption | rfl) (by first | omega | (unfold dz_w; omega)) (by first | omega | (unfold dz_w; omega)) ?_ | refine xr_ialoado hc rfl (by first | omega | (unfold dz_w; omega)) (by first | omega | (unfold dz_w; omega)) ?_
      rw [n0]
      refine xr_icmp_ge hc rfl (t := 71) rfl (fun b9 => ?_) (fun b9 => ?_)
      · refine xr_iconst hc rfl ?_
        refine xr_zreturn hc rfl rfl (Nat.zero_le _) (Nat.zero_le _) (by first | exact Or.inl rfl | exact Or.inr rfl | assumption) ?_
        exact h1 (fun i hi => f4 i (by omega)) N f1
      · omega
    | succ m_ ih =>
      intro j N hj f1 f2 f3 f4
      have n0 : N 120 r.toNat = m := by rw [f1 _ _ (by omega) (by omega)]; exact h120
      have hok := t_run_ok hp j B s hs (by omega)
      have v3 : N 116 3615 = t_run pl kd wt nx j s 3 := f2 3 (by unfold okc; omega)
      refine xr_iloadn hc rfl rfl ?_
      refine xr_aloadn hc rfl rfl ?_
      refine xr_getfr hc rfl rfl (by first | assumption | rfl) (by first | assumption | rfl) ?_
      refine xr_iloadn hc rfl rfl ?_
      first | refine xr_iaload hc rfl (by first | assumption | rfl) (by first | omega | (unfold dz_w; omega)) (by first | omega | (unfold dz_w; omega)) ?_ | refine xr_ialoado hc rfl (by first | omega | (unfold dz_w; omega)) (by first | omega | (unfold dz_w; omega)) ?_
      rw [n0]
      refine xr_icmp_ge hc rfl (t := 71) rfl (fun b9 => ?_) (fun b9 => ?_)
      · omega
      · refine xr_aloadn hc rfl rfl ?_
        refine xr_getfr hc rfl rfl (by first | assumption | rfl) (by first | assumption | rfl) ?_
        refine xr_sipush hc rfl ?_
        first | refine xr_iaload hc rfl (by first | assumption | rfl) (by first | omega | (unfold dz_w; omega)) (by first | omega | (unfold dz_w; omega)) ?_ | refine xr_ialoado hc rfl (by first | omega | (unfold dz_w; omega)) (by first | omega | (unfold dz_w; omega)) ?_
        rw [show N 116 (Int.toNat 3615) = _ from v3]
        refine xr_bipush hc rfl ?_
        refine xr_icmp_ne hc rfl (t := 27) rfl (fun b22 => ?_) (fun b22 => ?_)
        · refine xr_aloadn hc rfl rfl ?_
          refine xr_sipush hc rfl ?_
          refine xr_callv1 hc rfl (by first | assumption | rfl) rfl rfl rfl (Nat.le_of_ble_eq_true rfl) (Nat.zero_le _) (Nat.zero_le _) ?_
          refine D_goes (b := 3612) (w := w) (pl := pl) (B := B + 29 * j) (kd := kd) (wt := wt) (nx := nx) (s := t_run pl kd wt nx j s) hl (by omega) (tfr_pg f1 hpg) hp hok (by omega) f2 f3 (by omega) (fun N2 g1 g2 g3 => ?_)
          have e1 := ((t_snoc (pl := pl) (kd := kd) (wt := wt) (nx := nx) j s).1 (by omega)).1
          rw [← e1] at g2
          have hok2 := t_run_ok hp (j + 1) B s hs (by omega)
          obtain ⟨o0, o1, o2, o3, o4, o5, o6, o7, o8⟩ := id hok2
          obtain ⟨b0, b1, b2, b3, b4, b5, b6, b7, b8⟩ := id hs
          have v1 : N2 116 3613 = t_run pl kd wt nx (j + 1) s 1 := g2 1 (by unfold okc; omega)
          have v0 : N2 116 1 = s 1 := by rw [g1 _ _ (by omega) (by omega), f1 _ _ (by omega) (by omega)]; exact h1161
          have ix : (40 * r + (j : Int)).toNat = 40 * r.toNat + j := by omega
          have vt : N2 121 (40 * r.toNat + j) = tm j := by rw [g1 _ _ (by omega) (by omega), f1 _ _ (by omega) (by omega)]; exact htm j (by omega)
          have tf2 : tfr M N2 := fun q2 k2 u1 u2 => by rw [g1 _ _ (by omega) (by omega), f1 _ _ u1 u2]
          refine xk_0 ?_
          refine xr_aloadn hc rfl rfl ?_
          refine xr_getfr hc rfl rfl (by first | assumption | rfl) (by first | assumption | rfl) ?_
          refine xr_sipush hc rfl ?_
          first | refine xr_iaload hc rfl (by first | assumption | rfl) (by first | omega | (unfold dz_w; omega)) (by first | omega | (unfold dz_w; omega)) ?_ | refine xr_ialoado hc rfl (by first | omega | (unfold dz_w; omega)) (by first | omega | (unfold dz_w; omega)) ?_
          rw [show N2 116 (Int.toNat 3613) = _ from v1]
          refine xr_aloadn hc rfl rfl ?_
          refine xr_getfr hc rfl rfl (by first | assumption | rfl) (by first | assumption | rfl) ?_
          refine xr_iconst hc rfl ?_
          first | refine xr_iaload hc rfl (by first | assumption | rfl) (by first | omega | (unfold dz_w; omega)) (by first | omega | (unfold dz_w; omega)) ?_ | refine xr_ialoado hc rfl (by first | omega | (unfold dz_w; omega)) (by first | omega | (unfold dz_w; omega)) ?_
          rw [show N2 116 (Int.toNat 1) = _ from v0]
          refine xr_isubz hc rfl (by first | exact dz_wid (by first | omega | (unfold dz_w; omega)) (by first | omega | (unfold dz_w; omega)) | rfl) ?_
          refine xr_aloadn hc rfl rfl ?_
          refine xr_getfr hc rfl rfl (by first | assumption | rfl) (by first | assumption | rfl) ?_
          refine xr_bipush hc rfl ?_
          refine xr_iloadn hc rfl rfl ?_
          refine xr_imulz hc rfl (by first | exact dz_wid (by first | omega | (unfold dz_w; omega)) (by first | omega | (unfold dz_w; omega)) | rfl) ?_
          refine xr_iloadn hc rfl rfl ?_
          refine xr_iaddz hc rfl (by first | exact dz_wid (by first | omega | (unfold dz_w; omega)) (by first | omega | (unfold dz_w; omega)) | rfl) ?_
          first | refine xr_iaload hc rfl (by first | assumption | rfl) (by first | omega | (unfold dz_w; omega)) (by first | omega | (unfold dz_w; omega)) ?_ | refine xr_ialoado hc rfl (by first | omega | (unfold dz_w; omega)) (by first | omega | (unfold dz_w; omega)) ?_
          rw [ix, vt]
          refine xr_icmp_eq hc rfl (t := 65) rfl (fun b60 => ?_) (fun b60 => ?_)
          · refine xr_iincz2 hc rfl rfl (by first | exact dz_wid (by first | omega | (unfold dz_w; omega)) (by first | omega | (unfold dz_w; omega)) | rfl) ?_
            refine xr_goto hc rfl (t := 2) rfl ?_
            refine ih (j + 1) N2 (by omega) tf2 g2 (by rw [g1 _ _ (by omega) (by omega)]; exact f3) (fun i hi => ?_)
            by_cases e : i = j
            · rw [e]
              exact ⟨by omega, by omega⟩
            · exact f4 i (by omega)
          · refine xr_iconst hc rfl ?_
            refine xr_zreturn hc rfl rfl (Nat.zero_le _) (Nat.zero_le _) (by first | exact Or.inl rfl | exact Or.inr rfl | assumption) ?_
            exact h2 (fun z => by have z2 := (z j (by omega)).2; omega) N2 tf2
        · refine xr_iconst hc rfl ?_
          refine xr_zreturn hc rfl rfl (Nat.zero_le _) (Nat.zero_le _) (by first | exact Or.inl rfl | exact Or.inr rfl | assumption) ?_
          exact h2 (fun z => (z j (by omega)).1 (by omega)) N f1
  refine xr_iconst hc rfl ?_
  refine xr_istore2 hc rfl rfl ?_
  exact lp m.toNat 0 M (by omega) (tfr_refl M) hr hld (fun i hi => by omega)
set_option maxRecDepth 100000 in
theorem D_lies {xo : Nat → List Int} {d : Nat} {Q : dz_Q} {sh : List (Nat ⊕ (Nat × Nat))} {rf : Nat → Nat → Nat} {M : Nat → Nat → Int} {rs : Nat → Int} {it : Nat → Nat → Int} {ts : Nat → Int} {ch : Nat → Nat → Int} {tl up lo : Int} {fn : Nat → Int} {w pl : Int} {kd wt nx : Nat → Int} {n : Nat} {hs : Nat → Nat → Int} {kp : Nat → Int} {kh : Nat → Nat → Nat → Int} {i r : Int} (hl : ml sh rf) (hR : RM M rs it ts ch tl up lo fn w pl kd wt nx n hs kp kh) (hW : WF rs it ts ch tl up lo fn w pl kd wt nx n hs kp kh) (hQ : ∀ M2 : Nat → Nat → Int, (∀ q2 k2, q2 < 115 → M2 q2 k2 = M q2 k2) → RM M2 rs it ts ch tl up lo (o_lies rs it fn w pl kd wt nx (hs n) i r).2 w pl kd wt nx n hs kp kh → Q (some (dz_i ((o_lies rs it fn w pl kd wt nx (hs n) i r).1))) (sh, rf, M2)) : dz_E dz_pp xo (d + 5) 189 [dz_r 115, dz_i i, dz_i r] (sh, rf, M) Q := by
  refine ⟨Nat.le_of_ble_eq_true rfl, ?_⟩
  have hc := dz_E_m dz_pp xo (d + 4)
  show dz_X (dz_E dz_pp xo (d + 4)) dz_pp xo (dz_pp 189) Q 0 [some (dz_r 115), some (dz_i i), some (dz_i r), none, none, none] [] 0 0 (sh, rf, M)
  obtain ⟨c0, c1, c2, c3, c4, c5, c6, c7, c8, c9, c10, c11, c12, c13, c14, c15, c16, c17, c18, c19, c20, c21, c22, c23, c24, c25, c26, c27, c28, c29⟩ := id hl
  obtain ⟨hrow, htxt, htl, hup, hlo, hfn, hdr, hkp⟩ := id hR
  obtain ⟨wrow, wtxt, wdr, wst, wkp⟩ := id hW
  have hw6 := WF_w hW
  have hdr3 : drM M w pl kd wt nx n hs ∧ w ≤ 6 ∧ n ≤ 40 := ⟨hdr, hw6.2, wst.1⟩
  have hkp3 : kepM M w kp kh ∧ w ≤ 6 ∧ ∀ k, k < 3 → kp k ≤ 40 := ⟨hkp, hw6.2, fun k hk => by
    rcases wkp k hk with z | z
    · omega
    · exact z.2.1⟩
  obtain ⟨a1, a2, a3, b1, b2, b3⟩ := id hdr
  have hpg : pgM M w pl kd wt nx := ⟨a1, a2, a3⟩
  have b2c : ∀ c, okc w c → M 116 c = hs n c := fun c hc => by
    have h3 := b2 c hc
    rw [Nat.zero_add] at h3
    exact h3
  refine xr_aloadn hc rfl rfl ?_
  refine xr_iloadn hc rfl rfl ?_
  refine xr_callv1 hc rfl (by first | assumption | rfl) rfl rfl rfl (Nat.le_of_ble_eq_true rfl) (Nat.zero_le _) (Nat.zero_le _) ?_
  refine D_isWord hl a1 hw6 (fun u1 v1 => ?_) (fun u1 => ?_)
  · refine xk_1 ?_
    refine xr_iff hc rfl (by simp [dz_cmp]) ?_
    refine xr_iloadn hc rfl rfl ?_
    refine xr_calls1 hc rfl (by decide) rfl rfl rfl (Nat.le_of_ble_eq_true rfl) (Nat.zero_le _) (Nat.zero_le _) ?_
    refine D_isRow (fun u2 v2 => ?_) (fun u2 => ?_)
    · refine xk_1 ?_
      refine xr_ift hc rfl (t := 17) rfl (by simp [dz_cmp]) ?_
      refine xr_aloadn hc rfl rfl ?_
      refine xr_iloadn hc rfl rfl ?_
      refine xr_callv1 hc rfl (by first | assumption | rfl) rfl rfl rfl (Nat.le_of_ble_eq_true rfl) (Nat.zero_le _) (Nat.zero_le _) ?_
      refine D_noBeats (i := i) hl hR hW (by omega) (fun f hf1 rt M2 z1 z2 => ?_) (fun rt => ?_)
      · refine xk_1 ?_
        refine xr_istore3 hc rfl rfl ?_
        refine xr_iloadn hc rfl rfl ?_
        refine xr_iff hc rfl (by simp [dz_cmp]) ?_
        refine xr_iloadn hc rfl rfl ?_
        refine xr_ireturn hc rfl rfl (Nat.zero_le _) (Nat.zero_le _) ?_
        simp only [o_lies] at hQ
        rw [if_neg (by omega), if_pos (by omega), show (rtc rs it w i r).toNat = f by omega] at hQ
        exact hQ M2 z1 z2
      · refine xk_1 ?_
        refine xr_istore3 hc rfl rfl ?_
        refine xr_iloadn hc rfl rfl ?_
        refine xr_ift hc rfl (t := 29) rfl (by simp [dz_cmp]) ?_
        have rt2 := rt
        unfold rtc at rt2
        have rin : ¬ (i < 0 ∨ w ≤ i ∨ r < 0 ∨ 5 < r) := by omega
        rw [if_neg rin] at rt2
        have rn1 : ¬ rs r.toNat = -1 := fun z => by rw [if_pos z] at rt2; omega
        rw [if_neg rn1] at rt2
        have rn2 : ¬ (rs r.toNat < 1 ∨ 6 < rs r.toNat) := fun z => by rw [if_pos z] at rt2; omega
        obtain ⟨e1, e2⟩ := hrow r.toNat (by omega)
        have hw0 : w ≠ 0 := by omega
        have hp := WF_p hW (by omega)
        have hst := wst.2 n (Nat.le_refl n)
        obtain ⟨p1, p2, p3, p4, p5⟩ := id hp
        obtain ⟨st0, st1, st2, st3, st4, st5, st6, st7, st8⟩ := id hst
        have lp : ∀ (m_ : Nat) (p : Nat) (N : Nat → Nat → Int), (p : Int) + m_ = pl → tfr M N → dz_X (dz_E dz_pp xo (d + 4)) dz_pp xo (dz_pp 189) Q 35 [some (dz_r 115), some (dz_i i), some (dz_i r), some (dz_i 0), some (dz_i (t_ls (fun p => mly (hs n) w i.toNat p ∧ t_fit pl kd wt nx (fup (fun k => hs n (5 + k)) i.toNat p) (it r.toNat) (rs r.toNat).toNat (hs n)) p)), some (dz_i (p : Int))] [] 0 0 (sh, rf, N) := by
          intro m_
          induction m_ with
          | zero =>
            intro p N hp2 h1
            have n1 : N 115 1 = pl := by rw [h1 _ _ (by omega) (by omega)]; exact a2
            have ep : p = pl.toNat := by omega
            subst ep
            refine xr_iload hc rfl rfl ?_
            refine xr_aloadn hc rfl rfl ?_
            refine xr_getfi hc rfl (Or.inl rfl) (by first | assumption | rfl) ?_
            rw [n1]
            refine xr_icmp_ge hc rfl (t := 97) rfl (fun b41 => ?_) (fun b41 => ?_)
            · refine xr_iload hc rfl rfl ?_
              refine xr_ireturn hc rfl rfl (Nat.zero_le _) (Nat.zero_le _) ?_
              simp only [o_lies] at hQ
              rw [if_neg (by omega), if_neg (by omega)] at hQ
              exact hQ N (tfr_x h1) (RM_scr hR hW (tfr_scr h1))
            · omega
          | succ m_ ih =>
            intro p N hp2 h1
            have n1 : N 115 1 = pl := by rw [h1 _ _ (by omega) (by omega)]; exact a2
            have hRN := RM_scr hR hW (tfr_scr h1)
            have ix : ((3617 : Int) + i).toNat = 3612 + (5 + i.toNat) := by omega
            have et : t_ls (fun p => mly (hs n) w i.toNat p ∧ t_fit pl kd wt nx (fup (fun k => hs n (5 + k)) i.toNat p) (it r.toNat) (rs r.toNat).toNat (hs n)) (p + 1) = pick ((fun p => mly (hs n) w i.toNat p ∧ t_fit pl kd wt nx (fup (fun k => hs n (5 + k)) i.toNat p) (it r.toNat) (rs r.toNat).toNat (hs n)) p) (dz_or (t_ls (fun p => mly (hs n) w i.toNat p ∧ t_fit pl kd wt nx (fup (fun k => hs n (5 + k)) i.toNat p) (it r.toNat) (rs r.toNat).toNat (hs n)) p) (dz_shl 1 p)) (t_ls (fun p => mly (hs n) w i.toNat p ∧ t_fit pl kd wt nx (fup (fun k => hs n (5 + k)) i.toNat p) (it r.toNat) (rs r.toNat).toNat (hs n)) p) := rfl
            refine xr_iload hc rfl rfl ?_
            refine xr_aloadn hc rfl rfl ?_
            refine xr_getfi hc rfl (Or.inl rfl) (by first | assumption | rfl) ?_
            rw [n1]
            refine xr_icmp_ge hc rfl (t := 97) rfl (fun b41 => ?_) (fun b41 => ?_)
            · omega
            · refine xr_aloadn hc rfl rfl ?_
              refine xr_callv0 hc rfl (by first | assumption | rfl) rfl rfl rfl (Nat.le_of_ble_eq_true rfl) (Nat.zero_le _) (Nat.zero_le _) ?_
              refine D_layTried hl hRN hW (fun N1 z1 z2 z3 z4 z5 => ?_)
              refine xk_0 ?_
              refine xr_aloadn hc rfl rfl ?_
              refine xr_getfr hc rfl rfl (by first | assumption | rfl) (by first | assumption | rfl) ?_
              refine xr_sipush hc rfl ?_
              refine xr_iloadn hc rfl rfl ?_
              refine xr_iaddz hc rfl (by first | exact dz_wid (by first | omega | (unfold dz_w; omega)) (by first | omega | (unfold dz_w; omega)) | rfl) ?_
              refine xr_iload hc rfl rfl ?_
              refine xr_iastore hc rfl (by first | assumption | rfl) (by first | omega | (unfold dz_w; omega)) (by first | omega | (unfold dz_w; omega)) ?_
              rw [ix]
              have tf2 : tfr M (dz_up N1 116 (3612 + (5 + i.toNat)) p) := fun q2 k2 u1 u2 => by
                by_cases e : q2 = 116
                · subst e
                  rw [dz_up_k (by omega), z1 _ _ u1 u2, h1 _ _ u1 u2]
                · rw [dz_up_ne e, z1 _ _ u1 u2, h1 _ _ u1 u2]
              have pr2 : prel (dz_up N1 116 (3612 + (5 + i.toNat)) p) 3612 w (mv (hs n) i.toNat p) := prel_mv hw6.2 (by omega) z2 (fun k2 u => by rw [dz_up_k (by omega)]) (by rw [dz_up_eq])
              have hRN2 := RM_scr hR hW (tfr_scr tf2)
              refine xr_iload hc rfl rfl ?_
              refine xr_aloadn hc rfl rfl ?_
              refine xr_iloadn hc rfl rfl ?_
              refine xr_iload hc rfl rfl ?_
              refine xr_callv2 hc rfl (by first | assumption | rfl) rfl rfl rfl (Nat.le_of_ble_eq_true rfl) (Nat.zero_le _) (Nat.zero_le _) ?_
              refine D_mly hl hRN2 hW (by omega) (fun y1 => ?_) (fun y1 => ?_)
              · refine xk_1 ?_
                refine xr_iff hc rfl (by simp [dz_cmp]) ?_
                refine xr_aloadn hc rfl rfl ?_
                refine xr_iloadn hc rfl rfl ?_
                refine xr_callv1 hc rfl (by first | assumption | rfl) rfl rfl rfl (Nat.le_of_ble_eq_true rfl) (Nat.zero_le _) (Nat.zero_le _) ?_
                refine D_isSo (w := w) (pl := pl) (B := 29 * n) (m := rs r.toNat) (kd := kd) (wt := wt) (nx := nx) (s := mv (hs n) i.toNat p) (tm := it r.toNat) hl (tfr_pg tf2 hpg) hp (mv_ok hw6.2 hst (by omega) (by omega)) (by omega) pr2 (by rw [dz_up_ne (by omega)]; exact z5) (by omega) (by omega) (by rw [tf2 _ _ (by omega) (by omega)]; exact e1) (fun k hk => by rw [tf2 _ _ (by omega) (by omega)]; exact e2 k hk) (by rw [tf2 _ _ (by omega) (by omega), mv_ne (by omega)]; exact b2c 1 (by unfold okc; omega)) (fun y2 N3 x1 => ?_) (fun y2 N3 x1 => ?_)
                all_goals rw [t_fit_run (sp := fup (fun k => hs n (5 + k)) i.toNat p) hp hst (by omega) (t_eq_mv (by omega)) (mv_ne (by omega)) (fun k hk => by unfold mv fup; split <;> split <;> first | rfl | omega)] at y2
                · refine xk_1 ?_
                  refine xr_iff hc rfl (by simp [dz_cmp]) ?_
                  refine xr_iconst hc rfl ?_
                  refine xr_iload hc rfl rfl ?_
                  refine xr_ishl hc rfl ?_
                  refine xr_goto hc rfl (t := 88) rfl ?_
                  refine xr_ior hc rfl ?_
                  refine xr_istore4 hc rfl rfl ?_
                  refine xr_iincz5 hc rfl rfl (by first | exact dz_wid (by first | omega | (unfold dz_w; omega)) (by first | omega | (unfold dz_w; omega)) | rfl) ?_
                  refine xr_goto hc rfl (t := 35) rfl ?_
                  first
                    | (rw [pick_t (show (fun p => mly (hs n) w i.toNat p ∧ t_fit pl kd wt nx (fup (fun k => hs n (5 + k)) i.toNat p) (it r.toNat) (rs r.toNat).toNat (hs n)) p from ⟨y1, y2⟩)] at et
                       have l0 := ih (p + 1) _ (by omega) (tfr_trans tf2 x1)
                       rw [et] at l0
                       exact l0)
                    | (rw [pick_f (fun z : (fun p => mly (hs n) w i.toNat p ∧ t_fit pl kd wt nx (fup (fun k => hs n (5 + k)) i.toNat p) (it r.toNat) (rs r.toNat).toNat (hs n)) p => y2 z.2)] at et
                       have l0 := ih (p + 1) _ (by omega) (tfr_trans tf2 x1)
                       rw [et] at l0
                       rw [dz_or0 (t_ls_in _ _)]
                       exact l0)
                    | (rw [pick_f (fun z : (fun p => mly (hs n) w i.toNat p ∧ t_fit pl kd wt nx (fup (fun k => hs n (5 + k)) i.toNat p) (it r.toNat) (rs r.toNat).toNat (hs n)) p => y1 z.1)] at et
                       have l0 := ih (p + 1) _ (by omega) tf2
                       rw [et] at l0
                       rw [dz_or0 (t_ls_in _ _)]
                       exact l0)
                · refine xk_1 ?_
                  refine xr_ift hc rfl (t := 87) rfl (by simp [dz_cmp]) ?_
                  refine xr_iconst hc rfl ?_
                  refine xr_ior hc rfl ?_
                  refine xr_istore4 hc rfl rfl ?_
                  refine xr_iincz5 hc rfl rfl (by first | exact dz_wid (by first | omega | (unfold dz_w; omega)) (by first | omega | (unfold dz_w; omega)) | rfl) ?_
                  refine xr_goto hc rfl (t := 35) rfl ?_
                  first
                    | (rw [pick_t (show (fun p => mly (hs n) w i.toNat p ∧ t_fit pl kd wt nx (fup (fun k => hs n (5 + k)) i.toNat p) (it r.toNat) (rs r.toNat).toNat (hs n)) p from ⟨y1, y2⟩)] at et
                       have l0 := ih (p + 1) _ (by omega) (tfr_trans tf2 x1)
                       rw [et] at l0
                       exact l0)
                    | (rw [pick_f (fun z : (fun p => mly (hs n) w i.toNat p ∧ t_fit pl kd wt nx (fup (fun k => hs n (5 + k)) i.toNat p) (it r.toNat) (rs r.toNat).toNat (hs n)) p => y2 z.2)] at et
                       have l0 := ih (p + 1) _ (by omega) (tfr_trans tf2 x1)
                       rw [et] at l0
                       rw [dz_or0 (t_ls_in _ _)]
                       exact l0)
                    | (rw [pick_f (fun z : (fun p => mly (hs n) w i.toNat p ∧ t_fit pl kd wt nx (fup (fun k => hs n (5 + k)) i.toNat p) (it r.toNat) (rs r.toNat).toNat (hs n)) p => y1 z.1)] at et
                       have l0 := ih (p + 1) _ (by omega) tf2
                       rw [et] at l0
                       rw [dz_or0 (t_ls_in _ _)]
                       exact l0)
              · refine xk_1 ?_
                refine xr_ift hc rfl (t := 87) rfl (by simp [dz_cmp]) ?_
                refine xr_iconst hc rfl ?_
                refine xr_ior hc rfl ?_
                refine xr_istore4 hc rfl rfl ?_
                refine xr_iincz5 hc rfl rfl (by first | exact dz_wid (by first | omega | (unfold dz_w; omega)) (by first | omega | (unfold dz_w; omega)) | rfl) ?_
                refine xr_goto hc rfl (t := 35) rfl ?_
                first
                  | (rw [pick_t (show (fun p => mly (hs n) w i.toNat p ∧ t_fit pl kd wt nx (fup (fun k => hs n (5 + k)) i.toNat p) (it r.toNat) (rs r.toNat).toNat (hs n)) p from ⟨y1, y2⟩)] at et
                     have l0 := ih (p + 1) _ (by omega) (tfr_trans tf2 x1)
                     rw [et] at l0
                     exact l0)
                  | (rw [pick_f (fun z : (fun p => mly (hs n) w i.toNat p ∧ t_fit pl kd wt nx (fup (fun k => hs n (5 + k)) i.toNat p) (it r.toNat) (rs r.toNat).toNat (hs n)) p => y2 z.2)] at et
                     have l0 := ih (p + 1) _ (by omega) (tfr_trans tf2 x1)
                     rw [et] at l0
                     rw [dz_or0 (t_ls_in _ _)]
                     exact l0)
                  | (rw [pick_f (fun z : (fun p => mly (hs n) w i.toNat p ∧ t_fit pl kd wt nx (fup (fun k => hs n (5 + k)) i.toNat p) (it r.toNat) (rs r.toNat).toNat (hs n)) p => y1 z.1)] at et
                     have l0 := ih (p + 1) _ (by omega) tf2
                     rw [et] at l0
                     rw [dz_or0 (t_ls_in _ _)]
                     exact l0)
        refine xr_iconst hc rfl ?_
        refine xr_istore4 hc rfl rfl ?_
        refine xr_iconst hc rfl ?_
        refine xr_istore5 hc rfl rfl ?_
        exact lp pl.toNat 0 M (by omega) (tfr_refl M)
    · refine xk_1 ?_
      refine xr_iff hc rfl (by simp [dz_cmp]) ?_
      refine xr_iconst hc rfl ?_
      refine xr_ireturn hc rfl rfl (Nat.zero_le _) (Nat.zero_le _) ?_
      simp only [o_lies] at hQ
      rw [if_pos (by unfold rtc; rw [if_pos (by omega)])] at hQ
      exact hQ M (fun _ _ _ => rfl) hR
  · refine xk_1 ?_
    refine xr_ift hc rfl (t := 15) rfl (by simp [dz_cmp]) ?_
    refine xr_iconst hc rfl ?_
    refine xr_ireturn hc rfl rfl (Nat.zero_le _) (Nat.zero_le _) ?_
    simp only [o_lies] at hQ
    rw [if_pos (by unfold rtc; rw [if_pos (by omega)])] at hQ
    exact hQ M (fun _ _ _ => rfl) hR
set_option maxRecDepth 100000 in
theorem D_kinds {xo : Nat → List Int} {d : Nat} {Q : dz_Q} {sh : List (Nat ⊕ (Nat × Nat))} {rf : Nat → Nat → Nat} {M : Nat → Nat → Int} {rs : Nat → Int} {it : Nat → Nat → Int} {ts : Nat → Int} {ch : Nat → Nat → Int} {tl up lo : Int} {fn : Nat → Int} {w pl : Int} {kd wt nx : Nat → Int} {n : Nat} {hs : Nat → Nat → Int} {kp : Nat → Int} {kh : Nat → Nat → Nat → Int} {i r : Int} (hl : ml sh rf) (hR : RM M rs it ts ch tl up lo fn w pl kd wt nx n hs kp kh) (hW : WF rs it ts ch tl up lo fn w pl kd wt nx n hs kp kh) (hQ : ∀ M2 : Nat → Nat → Int, (∀ q2 k2, q2 < 115 → M2 q2 k2 = M q2 k2) → RM M2 rs it ts ch tl up lo (o_kinds rs it fn w pl kd wt nx (hs n) i r).2 w pl kd wt nx n hs kp kh → Q (some (dz_i ((o_kinds rs it fn w pl kd wt nx (hs n) i r).1))) (sh, rf, M2)) : dz_E dz_pp xo (d + 5) 190 [dz_r 115, dz_i i, dz_i r] (sh, rf, M) Q := by
  refine ⟨Nat.le_of_ble_eq_true rfl, ?_⟩
  have hc := dz_E_m dz_pp xo (d + 4)
  show dz_X (dz_E dz_pp xo (d + 4)) dz_pp xo (dz_pp 190) Q 0 [some (dz_r 115), some (dz_i i), some (dz_i r), none, none, none, none] [] 0 0 (sh, rf, M)
  obtain ⟨c0, c1, c2, c3, c4, c5, c6, c7, c8, c9, c10, c11, c12, c13, c14, c15, c16, c17, c18, c19, c20, c21, c22, c23, c24, c25, c26, c27, c28, c29⟩ := id hl
  obtain ⟨hrow, htxt, htl, hup, hlo, hfn, hdr, hkp⟩ := id hR
  obtain ⟨wrow, wtxt, wdr, wst, wkp⟩ := id hW
  have hw6 := WF_w hW
  have hdr3 : drM M w pl kd wt nx n hs ∧ w ≤ 6 ∧ n ≤ 40 := ⟨hdr, hw6.2, wst.1⟩
  have hkp3 : kepM M w kp kh ∧ w ≤ 6 ∧ ∀ k, k < 3 → kp k ≤ 40 := ⟨hkp, hw6.2, fun k hk => by
    rcases wkp k hk with z | z
    · omega
    · exact z.2.1⟩
  obtain ⟨a1, a2, a3, b1, b2, b3⟩ := id hdr
  have hpg : pgM M w pl kd wt nx := ⟨a1, a2, a3⟩
  have b2c : ∀ c, okc w c → M 116 c = hs n c := fun c hc => by
    have h3 := b2 c hc
    rw [Nat.zero_add] at h3
    exact h3
  refine xr_aloadn hc rfl rfl ?_
  refine xr_iloadn hc rfl rfl ?_
  refine xr_callv1 hc rfl (by first | assumption | rfl) rfl rfl rfl (Nat.le_of_ble_eq_true rfl) (Nat.zero_le _) (Nat.zero_le _) ?_
  refine D_isWord hl a1 hw6 (fun u1 v1 => ?_) (fun u1 => ?_)
  · refine xk_1 ?_
    refine xr_iff hc rfl (by simp [dz_cmp]) ?_
    refine xr_iloadn hc rfl rfl ?_
    refine xr_calls1 hc rfl (by decide) rfl rfl rfl (Nat.le_of_ble_eq_true rfl) (Nat.zero_le _) (Nat.zero_le _) ?_
    refine D_isRow (fun u2 v2 => ?_) (fun u2 => ?_)
    · refine xk_1 ?_
      refine xr_ift hc rfl (t := 17) rfl (by simp [dz_cmp]) ?_
      refine xr_aloadn hc rfl rfl ?_
      refine xr_iloadn hc rfl rfl ?_
      refine xr_callv1 hc rfl (by first | assumption | rfl) rfl rfl rfl (Nat.le_of_ble_eq_true rfl) (Nat.zero_le _) (Nat.zero_le _) ?_
      refine D_noBeats (i := i) hl hR hW (by omega) (fun f hf1 rt M2 z1 z2 => ?_) (fun rt => ?_)
      · refine xk_1 ?_
        refine xr_istore3 hc rfl rfl ?_
        refine xr_iloadn hc rfl rfl ?_
        refine xr_iff hc rfl (by simp [dz_cmp]) ?_
        refine xr_iloadn hc rfl rfl ?_
        refine xr_ireturn hc rfl rfl (Nat.zero_le _) (Nat.zero_le _) ?_
        simp only [o_kinds] at hQ
        rw [if_neg (by omega), if_pos (by omega), show (rtc rs it w i r).toNat = f by omega] at hQ
        exact hQ M2 z1 z2
      · refine xk_1 ?_
        refine xr_istore3 hc rfl rfl ?_
        refine xr_iloadn hc rfl rfl ?_
        refine xr_ift hc rfl (t := 29) rfl (by simp [dz_cmp]) ?_
        have rt2 := rt
        unfold rtc at rt2
        have rin : ¬ (i < 0 ∨ w ≤ i ∨ r < 0 ∨ 5 < r) := by omega
        rw [if_neg rin] at rt2
        have rn1 : ¬ rs r.toNat = -1 := fun z => by rw [if_pos z] at rt2; omega
        rw [if_neg rn1] at rt2
        have rn2 : ¬ (rs r.toNat < 1 ∨ 6 < rs r.toNat) := fun z => by rw [if_pos z] at rt2; omega
        obtain ⟨e1, e2⟩ := hrow r.toNat (by omega)
        have hw0 : w ≠ 0 := by omega
        have hp := WF_p hW (by omega)
        have hst := wst.2 n (Nat.le_refl n)
        obtain ⟨p1, p2, p3, p4, p5⟩ := id hp
        obtain ⟨st0, st1, st2, st3, st4, st5, st6, st7, st8⟩ := id hst
        have lp : ∀ (m_ : Nat) (k : Nat) (N : Nat → Nat → Int), k + m_ = 6 → (∀ q2 k2, ¬ (q2 = 115 ∧ 21 ≤ k2 ∧ k2 ≤ 23) → ¬ (q2 = 116 ∧ 3612 ≤ k2) → ¬ (q2 = 117 ∧ k2 = i.toNat) → N q2 k2 = M q2 k2) → dz_X (dz_E dz_pp xo (d + 4)) dz_pp xo (dz_pp 190) Q 43 [some (dz_r 115), some (dz_i i), some (dz_i r), some (dz_i 0), some (dz_i (kd i.toNat)), some (dz_i (t_ls (fun k => t_fit pl (fup kd i.toNat k) wt nx (fun k => hs n (5 + k)) (it r.toNat) (rs r.toNat).toNat (hs n)) k)), some (dz_i (k : Int))] [] 0 0 (sh, rf, N) := by
          intro m_
          induction m_ with
          | zero =>
            intro k N hk h1
            have ek : k = 6 := by omega
            subst ek
            have tf2 : tfr M (dz_up N 117 i.toNat (kd i.toNat)) := fun q2 k2 u1 u2 => by
              by_cases e : q2 = 117 ∧ k2 = i.toNat
              · rw [e.1, e.2, dz_up_eq]
                exact ((a3 i.toNat (by omega)).1).symm
              · by_cases e2 : q2 = 117
                · subst e2
                  rw [dz_up_k (by omega), h1 _ _ u1 u2 e]
                · rw [dz_up_ne e2, h1 _ _ u1 u2 e]
            refine xr_iload hc rfl rfl ?_
            refine xr_bipush hc rfl ?_
            refine xr_icmp_ge hc rfl (t := 89) rfl (fun b47 => ?_) (fun b47 => ?_)
            · refine xr_aloadn hc rfl rfl ?_
              refine xr_getfr hc rfl rfl (by first | assumption | rfl) (by first | assumption | rfl) ?_
              refine xr_iloadn hc rfl rfl ?_
              refine xr_iload hc rfl rfl ?_
              refine xr_iastore hc rfl (by first | assumption | rfl) (by first | omega | (unfold dz_w; omega)) (by first | omega | (unfold dz_w; omega)) ?_
              refine xr_iload hc rfl rfl ?_
              refine xr_ireturn hc rfl rfl (Nat.zero_le _) (Nat.zero_le _) ?_
              simp only [o_kinds] at hQ
              rw [if_neg (by omega), if_neg (by omega)] at hQ
              exact hQ _ (tfr_x tf2) (RM_scr hR hW (tfr_scr tf2))
            · omega
          | succ m_ ih =>
            intro k N hk h1
            have hpk := pg_fup (i := i.toNat) (k := k) hp (by omega)
            have et : t_ls (fun k => t_fit pl (fup kd i.toNat k) wt nx (fun k => hs n (5 + k)) (it r.toNat) (rs r.toNat).toNat (hs n)) (k + 1) = pick ((fun k => t_fit pl (fup kd i.toNat k) wt nx (fun k => hs n (5 + k)) (it r.toNat) (rs r.toNat).toNat (hs n)) k) (dz_or (t_ls (fun k => t_fit pl (fup kd i.toNat k) wt nx (fun k => hs n (5 + k)) (it r.toNat) (rs r.toNat).toNat (hs n)) k) (dz_shl 1 k)) (t_ls (fun k => t_fit pl (fup kd i.toNat k) wt nx (fun k => hs n (5 + k)) (it r.toNat) (rs r.toNat).toNat (hs n)) k) := rfl
            refine xr_iload hc rfl rfl ?_
            refine xr_bipush hc rfl ?_
            refine xr_icmp_ge hc rfl (t := 89) rfl (fun b47 => ?_) (fun b47 => ?_)
            · omega
            · refine xr_aloadn hc rfl rfl ?_
              refine xr_getfr hc rfl rfl (by first | assumption | rfl) (by first | assumption | rfl) ?_
              refine xr_iloadn hc rfl rfl ?_
              refine xr_iload hc rfl rfl ?_
              refine xr_iastore hc rfl (by first | assumption | rfl) (by first | omega | (unfold dz_w; omega)) (by first | omega | (unfold dz_w; omega)) ?_
              refine xr_aloadn hc rfl rfl ?_
              refine xr_callv0 hc rfl (by first | assumption | rfl) rfl rfl rfl (Nat.le_of_ble_eq_true rfl) (Nat.zero_le _) (Nat.zero_le _) ?_
              refine D_layTried0 hl (fun N1 z1 z2 z3 z4 z5 => ?_)
              have hf1 : ∀ q2 k2, ¬ (q2 = 115 ∧ 21 ≤ k2 ∧ k2 ≤ 23) → ¬ (q2 = 116 ∧ 3612 ≤ k2) → ¬ (q2 = 117 ∧ k2 = i.toNat) → N1 q2 k2 = M q2 k2 := fun q2 k2 u1 u2 u3 => by
                rw [z1 _ _ u1 u2]
                by_cases e : q2 = 117
                · subst e
                  rw [dz_up_k (by omega), h1 _ _ u1 u2 u3]
                · rw [dz_up_ne e, h1 _ _ u1 u2 u3]
              have pr2 : prel N1 3612 w (hs n) := fun c hc => by
                have hc2 := hc
                unfold okc at hc2
                rw [z2 c (by omega), dz_up_ne (by omega), h1 _ _ (by omega) (by omega) (by omega)]
                exact b2c c hc
              have hpg2 : pgM N1 w pl (fup kd i.toNat k) wt nx := ⟨by rw [hf1 _ _ (by omega) (by omega) (by omega)]; exact a1, by rw [hf1 _ _ (by omega) (by omega) (by omega)]; exact a2, fun x hx => by
                refine ⟨?_, by rw [hf1 _ _ (by omega) (by omega) (by omega)]; exact (a3 x hx).2.1, by rw [hf1 _ _ (by omega) (by omega) (by omega)]; exact (a3 x hx).2.2⟩
                rw [z1 _ _ (by omega) (by omega), up_fup]
                unfold fup
                split
                · rfl
                · rw [h1 _ _ (by omega) (by omega) (by omega)]
                  exact (a3 x hx).1⟩
              refine xk_0 ?_
              refine xr_iload hc rfl rfl ?_
              refine xr_aloadn hc rfl rfl ?_
              refine xr_iloadn hc rfl rfl ?_
              refine xr_callv1 hc rfl (by first | assumption | rfl) rfl rfl rfl (Nat.le_of_ble_eq_true rfl) (Nat.zero_le _) (Nat.zero_le _) ?_
              refine D_isSo (w := w) (pl := pl) (B := 29 * n) (m := rs r.toNat) (kd := fup kd i.toNat k) (wt := wt) (nx := nx) (s := hs n) (tm := it r.toNat) hl hpg2 hpk hst (by omega) pr2 z5 (by omega) (by omega) (by rw [hf1 _ _ (by omega) (by omega) (by omega)]; exact e1) (fun k hk => by rw [hf1 _ _ (by omega) (by omega) (by omega)]; exact e2 k hk) (by rw [hf1 _ _ (by omega) (by omega) (by omega)]; exact b2c 1 (by unfold okc; omega)) (fun y2 N3 x1 => ?_) (fun y2 N3 x1 => ?_)
              all_goals rw [t_fit_run (sp := (fun k => hs n (5 + k))) hpk hst (by omega) (t_eq_refl w (hs n)) rfl (fun k hk => rfl)] at y2
              all_goals have hf3 : ∀ q2 k2, ¬ (q2 = 115 ∧ 21 ≤ k2 ∧ k2 ≤ 23) → ¬ (q2 = 116 ∧ 3612 ≤ k2) → ¬ (q2 = 117 ∧ k2 = i.toNat) → N3 q2 k2 = M q2 k2 := fun q2 k2 u1 u2 u3 => (x1 _ _ u1 u2).trans (hf1 _ _ u1 u2 u3)
              · refine xk_1 ?_
                refine xr_iff hc rfl (by simp [dz_cmp]) ?_
                refine xr_iconst hc rfl ?_
                refine xr_iload hc rfl rfl ?_
                refine xr_ishl hc rfl ?_
                refine xr_goto hc rfl (t := 80) rfl ?_
                refine xr_ior hc rfl ?_
                refine xr_istore5 hc rfl rfl ?_
                refine xr_iincz6 hc rfl rfl (by first | exact dz_wid (by first | omega | (unfold dz_w; omega)) (by first | omega | (unfold dz_w; omega)) | rfl) ?_
                refine xr_goto hc rfl (t := 43) rfl ?_
                first
                  | (rw [pick_t (show (fun k => t_fit pl (fup kd i.toNat k) wt nx (fun k => hs n (5 + k)) (it r.toNat) (rs r.toNat).toNat (hs n)) k from y2)] at et
                     have l0 := ih (k + 1) N3 (by omega) hf3
                     rw [et] at l0
                     exact l0)
                  | (rw [pick_f (fun z : (fun k => t_fit pl (fup kd i.toNat k) wt nx (fun k => hs n (5 + k)) (it r.toNat) (rs r.toNat).toNat (hs n)) k => y2 z)] at et
                     have l0 := ih (k + 1) N3 (by omega) hf3
                     rw [et] at l0
                     rw [dz_or0 (t_ls_in _ _)]
                     exact l0)
              · refine xk_1 ?_
                refine xr_ift hc rfl (t := 79) rfl (by simp [dz_cmp]) ?_
                refine xr_iconst hc rfl ?_
                refine xr_ior hc rfl ?_
                refine xr_istore5 hc rfl rfl ?_
                refine xr_iincz6 hc rfl rfl (by first | exact dz_wid (by first | omega | (unfold dz_w; omega)) (by first | omega | (unfold dz_w; omega)) | rfl) ?_
                refine xr_goto hc rfl (t := 43) rfl ?_
                first
                  | (rw [pick_t (show (fun k => t_fit pl (fup kd i.toNat k) wt nx (fun k => hs n (5 + k)) (it r.toNat) (rs r.toNat).toNat (hs n)) k from y2)] at et
                     have l0 := ih (k + 1) N3 (by omega) hf3
                     rw [et] at l0
                     exact l0)
                  | (rw [pick_f (fun z : (fun k => t_fit pl (fup kd i.toNat k) wt nx (fun k => hs n (5 + k)) (it r.toNat) (rs r.toNat).toNat (hs n)) k => y2 z)] at et
                     have l0 := ih (k + 1) N3 (by omega) hf3
                     rw [et] at l0
                     rw [dz_or0 (t_ls_in _ _)]
                     exact l0)
        refine xr_aloadn hc rfl rfl ?_
        refine xr_getfr hc rfl rfl (by first | assumption | rfl) (by first | assumption | rfl) ?_
        refine xr_iloadn hc rfl rfl ?_
        first | refine xr_iaload hc rfl (by first | assumption | rfl) (by first | omega | (unfold dz_w; omega)) (by first | omega | (unfold dz_w; omega)) ?_ | refine xr_ialoado hc rfl (by first | omega | (unfold dz_w; omega)) (by first | omega | (unfold dz_w; omega)) ?_
        rw [(a3 i.toNat (by omega)).1]
        refine xr_istore4 hc rfl rfl ?_
        refine xr_iconst hc rfl ?_
        refine xr_istore5 hc rfl rfl ?_
        refine xr_iconst hc rfl ?_
        refine xr_istore6 hc rfl rfl ?_
        exact lp 6 0 M (by omega) (fun _ _ _ _ _ => rfl)
    · refine xk_1 ?_
      refine xr_iff hc rfl (by simp [dz_cmp]) ?_
      refine xr_iconst hc rfl ?_
      refine xr_ireturn hc rfl rfl (Nat.zero_le _) (Nat.zero_le _) ?_
      simp only [o_kinds] at hQ
      rw [if_pos (by unfold rtc; rw [if_pos (by omega)])] at hQ
      exact hQ M (fun _ _ _ => rfl) hR
  · refine xk_1 ?_
    refine xr_ift hc rfl (t := 15) rfl (by simp [dz_cmp]) ?_
    refine xr_iconst hc rfl ?_
    refine xr_ireturn hc rfl rfl (Nat.zero_le _) (Nat.zero_le _) ?_
    simp only [o_kinds] at hQ
    rw [if_pos (by unfold rtc; rw [if_pos (by omega)])] at hQ
    exact hQ M (fun _ _ _ => rfl) hR
