/-! What the class reads out of its trace. Written by l2_46.py. -/
theorem TR_stop {M : Nat → Nat → Int} {pl : Int} {kd wt nx : Nat → Int} {K N j : Nat} {s : Nat → Int} (hN : K = N ∨ t_run pl kd wt nx K s 3 = -9) (h1 : K ≤ j) (h2 : j < N) : t_l pl kd wt nx (j + 1) s = t_l pl kd wt nx j s ∧ t_l pl kd wt nx j s = t_l pl kd wt nx K s := by
  have h9 : t_run pl kd wt nx K s 3 = -9 := by
    rcases hN with e | e
    · omega
    · exact e
  have e1 := (t_stay h9 (j - K)).2
  have e2 := (t_stay h9 (j + 1 - K)).2
  rw [show K + (j - K) = j by omega] at e1
  rw [show K + (j + 1 - K) = j + 1 by omega] at e2
  rw [e1, e2]
  exact ⟨rfl, rfl⟩
/-- the reads of one step, as the trace has them -/
theorem TR_one {M : Nat → Nat → Int} {pl : Int} {kd wt nx : Nat → Int} {K j : Nat} {s : Nat → Int} (hT : TR M pl kd wt nx K s) (hj : j < K) : t_l pl kd wt nx (j + 1) s = t_l pl kd wt nx j s ++ t_one kd wt (t_run pl kd wt nx j s) ∧ ∀ i x, (t_one kd wt (t_run pl kd wt nx j s))[i]? = some x → M 51 ((t_l pl kd wt nx j s).length + i) = (x.1 : Int) ∧ M 52 ((t_l pl kd wt nx j s).length + i) = x.2 := by
  obtain ⟨T1, T2, T3, T4, T5, T6, T7, T8⟩ := hT
  have e := ((t_snoc (pl := pl) (kd := kd) (wt := wt) (nx := nx) j s).1 (T8 j hj)).2
  refine ⟨e, fun i x hx => T6 _ x ?_⟩
  obtain ⟨r, hr⟩ := t_pre (pl := pl) (kd := kd) (wt := wt) (nx := nx) (j := j + 1) (s := s) (K - (j + 1))
  rw [show j + 1 + (K - (j + 1)) = K by omega] at hr
  rw [hr, e, List.append_assoc, List.getElem?_append_right (by omega), show (t_l pl kd wt nx j s).length + i - (t_l pl kd wt nx j s).length = i by omega]
  have hi : i < (t_one kd wt (t_run pl kd wt nx j s)).length := (List.getElem?_eq_some_iff.mp hx).1
  rw [List.getElem?_append_left hi]
  exact hx
set_option maxRecDepth 100000 in
theorem S_beatBehind {xo : Nat → List Int} {d : Nat} {Q : dz_Q} {sh : List (Nat ⊕ (Nat × Nat))} {rf : Nat → Nat → Nat} {M : Nat → Nat → Int} {q j : Nat} {b0 : Int} {w pl B : Int} {kd wt nx s : Nat → Int} (hp : pgok w pl kd wt nx) (hs : stok w pl B s) (hB : B ≤ 900000) {K N : Nat} (ht : tr_at sh rf 50) (hT : TR M pl kd wt nx K s) (hN : K = N ∨ t_run pl kd wt nx K s 3 = -9) (h40 : N ≤ 40) (ha : sh[q]? = some (.inr (0, 6))) (hsp : ∀ i : Nat, (i : Int) < w → 0 ≤ M q i ∧ M q i ≤ 9) (hj : j < N) (hb : 0 ≤ b0 ∧ b0 ≤ 900000) (hQ : Q (some (dz_i (t_b pl (M q) (t_l pl kd wt nx (j + 1) s) b0))) (sh, rf, M)) : dz_E dz_pp xo (d + 3) 49 [dz_r 50, dz_r q, dz_i (t_b pl (M q) (t_l pl kd wt nx j s) b0), dz_i (j : Int)] (sh, rf, M) Q := by
  refine ⟨Nat.le_of_ble_eq_true rfl, ?_⟩
  have hc := dz_E_m dz_pp xo (d + 2)
  show dz_X (dz_E dz_pp xo (d + 2)) dz_pp xo (dz_pp 49) Q 0 [some (dz_r 50), some (dz_r q), some (dz_i (t_b pl (M q) (t_l pl kd wt nx j s) b0)), some (dz_i (j : Int)), none, none] [] 0 0 (sh, rf, M)
  have t0 : sh[50]? = some (.inl 4) := ht.1
  have t1 : rf 50 0 = 51 + 1 := ht.2.1
  have t2 : sh[51]? = some (.inr (0, 80)) := ht.2.2.1
  have t3 : rf 50 1 = 52 + 1 := ht.2.2.2.1
  have t4 : sh[52]? = some (.inr (0, 80)) := ht.2.2.2.2.1
  have t5 : rf 50 2 = 53 + 1 := ht.2.2.2.2.2.1
  have t6 : sh[53]? = some (.inr (0, 41)) := ht.2.2.2.2.2.2
  obtain ⟨T1, T2, T3, T4, T5, T6, T7, T8⟩ := id hT
  obtain ⟨p1, p2, p3, p4, p5⟩ := id hp
  have hl1 := t_l_in hp j B s hs (by omega)
  have hl2 := t_l_in hp (j + 1) B s hs (by omega)
  have hb1 := t_b_in (sp := M q) ⟨p3, p4⟩ (t_l pl kd wt nx j s) b0 (fun x hx => (hl1.1 x hx).2)
  have ij : ((j : Int) + 1).toNat = j + 1 := by omega
  have lp : ∀ (l : List (Nat × Int)) (k : Nat) (t : Int), (∀ i x, l[i]? = some x → M 51 (k + i) = (x.1 : Int) ∧ M 52 (k + i) = x.2) → (∀ x, x ∈ l → (x.1 : Int) < w ∧ 0 ≤ x.2 ∧ x.2 ≤ 11) → M 53 (j + 1) = ((k + l.length : Nat) : Int) → k + l.length ≤ 80 → 0 ≤ t → t + 20 * l.length ≤ 990000 → t_b pl (M q) l t = t_b pl (M q) (t_l pl kd wt nx (j + 1) s) b0 → dz_X (dz_E dz_pp xo (d + 2)) dz_pp xo (dz_pp 49) Q 25 [some (dz_r 50), some (dz_r q), some (dz_i (t_b pl (M q) (t_l pl kd wt nx j s) b0)), some (dz_i (j : Int)), some (dz_i t), some (dz_i (k : Int))] [] 0 0 (sh, rf, M) := by
    intro l
    induction l with
    | nil =>
      intro k t f1 f2 f3 f4 f5 f6 f7
      have f3b : M 53 (j + 1) = (k : Int) := f3
      have f7b : t = t_b pl (M q) (t_l pl kd wt nx (j + 1) s) b0 := f7
      refine xr_iload hc rfl rfl ?_
      refine xr_aloadn hc rfl rfl ?_
      refine xr_getfr hc rfl rfl (by first | assumption | rfl) (by first | assumption | rfl) ?_
      refine xr_iloadn hc rfl rfl ?_
      refine xr_iconst hc rfl ?_
      refine xr_iaddz hc rfl (by first | exact dz_wid (by first | omega | (unfold dz_w; omega)) (by first | omega | (unfold dz_w; omega)) | rfl) ?_
      first | refine xr_iaload hc rfl (by first | assumption | rfl) (by first | omega | (unfold dz_w; omega)) (by first | omega | (unfold dz_w; omega)) ?_ | refine xr_ialoado hc rfl (by first | omega | (unfold dz_w; omega)) (by first | omega | (unfold dz_w; omega)) ?_
      rw [ij, f3b]
      refine xr_icmp_ge hc rfl (t := 77) rfl (fun b35 => ?_) (fun b35 => ?_)
      · refine xr_iload hc rfl rfl ?_
        refine xr_ireturn hc rfl rfl (Nat.zero_le _) (Nat.zero_le _) ?_
        rw [f7b]
        exact hQ
      · omega
    | cons x l ih =>
      intro k t f1 f2 f3 f4 f5 f6 f7
      have f3b : M 53 (j + 1) = (k : Int) + l.length + 1 := by rw [f3, List.length_cons]; omega
      rw [List.length_cons] at f4 f6
      obtain ⟨x1, x2⟩ := f1 0 x rfl
      rw [Nat.add_zero] at x1 x2
      obtain ⟨y1, y2, y3⟩ := f2 x (List.mem_cons_self ..)
      have y4 := hsp x.1 y1
      have y5 := wa_in (p := M q x.1) (b := t) (pl := pl) (by omega)
      refine xr_iload hc rfl rfl ?_
      refine xr_aloadn hc rfl rfl ?_
      refine xr_getfr hc rfl rfl (by first | assumption | rfl) (by first | assumption | rfl) ?_
      refine xr_iloadn hc rfl rfl ?_
      refine xr_iconst hc rfl ?_
      refine xr_iaddz hc rfl (by first | exact dz_wid (by first | omega | (unfold dz_w; omega)) (by first | omega | (unfold dz_w; omega)) | rfl) ?_
      first | refine xr_iaload hc rfl (by first | assumption | rfl) (by first | omega | (unfold dz_w; omega)) (by first | omega | (unfold dz_w; omega)) ?_ | refine xr_ialoado hc rfl (by first | omega | (unfold dz_w; omega)) (by first | omega | (unfold dz_w; omega)) ?_
      rw [ij, f3b]
      refine xr_icmp_ge hc rfl (t := 77) rfl (fun b35 => ?_) (fun b35 => ?_)
      · omega
      · refine xr_iload hc rfl rfl ?_
        refine xr_aloadn hc rfl rfl ?_
        refine xr_aloadn hc rfl rfl ?_
        refine xr_getfr hc rfl rfl (by first | assumption | rfl) (by first | assumption | rfl) ?_
        refine xr_iload hc rfl rfl ?_
        first | refine xr_iaload hc rfl (by first | assumption | rfl) (by first | omega | (unfold dz_w; omega)) (by first | omega | (unfold dz_w; omega)) ?_ | refine xr_ialoado hc rfl (by first | omega | (unfold dz_w; omega)) (by first | omega | (unfold dz_w; omega)) ?_
        rw [Int.toNat_natCast, x1]
        first | refine xr_iaload hc rfl (by first | assumption | rfl) (by first | omega | (unfold dz_w; omega)) (by first | omega | (unfold dz_w; omega)) ?_ | refine xr_ialoado hc rfl (by first | omega | (unfold dz_w; omega)) (by first | omega | (unfold dz_w; omega)) ?_
        rw [Int.toNat_natCast]
        refine xr_iload hc rfl rfl ?_
        refine xr_aloadn hc rfl rfl ?_
        refine xr_getfi hc rfl (Or.inl rfl) (by first | assumption | rfl) ?_
        rw [T3]
        refine xr_calls3 hc rfl (by decide) rfl rfl rfl (Nat.le_of_ble_eq_true rfl) (Nat.zero_le _) (Nat.zero_le _) ?_
        refine S_waitFor (by omega) (by omega) (by omega) ?_
        refine xk_1 ?_
        refine xr_iconst hc rfl ?_
        refine xr_iaddz hc rfl (by first | exact dz_wid (by first | omega | (unfold dz_w; omega)) (by first | omega | (unfold dz_w; omega)) | rfl) ?_
        refine xr_aloadn hc rfl rfl ?_
        refine xr_getfr hc rfl rfl (by first | assumption | rfl) (by first | assumption | rfl) ?_
        refine xr_iload hc rfl rfl ?_
        first | refine xr_iaload hc rfl (by first | assumption | rfl) (by first | omega | (unfold dz_w; omega)) (by first | omega | (unfold dz_w; omega)) ?_ | refine xr_ialoado hc rfl (by first | omega | (unfold dz_w; omega)) (by first | omega | (unfold dz_w; omega)) ?_
        rw [Int.toNat_natCast, x2]
        refine xr_iaddz hc rfl (by first | exact dz_wid (by first | omega | (unfold dz_w; omega)) (by first | omega | (unfold dz_w; omega)) | rfl) ?_
        refine xr_iaddz hc rfl (by first | exact dz_wid (by first | omega | (unfold dz_w; omega)) (by first | omega | (unfold dz_w; omega)) | rfl) ?_
        refine xr_istore4 hc rfl rfl ?_
        refine xr_iincz5 hc rfl rfl (by first | exact dz_wid (by first | omega | (unfold dz_w; omega)) (by first | omega | (unfold dz_w; omega)) | rfl) ?_
        refine xr_goto hc rfl (t := 25) rfl ?_
        rw [show t + (wa (M q x.1) t pl + 1 + x.2) = t + wa (M q x.1) t pl + 1 + x.2 by omega]
        exact ih (k + 1) _ (fun i y hy => by rw [show k + 1 + i = k + (i + 1) by omega]; exact f1 (i + 1) y (by simpa using hy)) (fun y hy => f2 y (List.mem_cons_of_mem _ hy)) (by rw [f3b]; omega) (by omega) (by omega) (by omega) f7
  refine xr_iloadn hc rfl rfl ?_
  refine xr_if_lt hc rfl (t := 12) rfl (fun b1 => ?_) (fun b1 => ?_)
  · refine xr_iloadn hc rfl rfl ?_
    refine xr_ireturn hc rfl rfl (Nat.zero_le _) (Nat.zero_le _) ?_
    first
      | (exfalso; omega)
      | (rw [(TR_stop (M := M) hN (by omega) hj).1] at hQ; exact hQ)
  · refine xr_iloadn hc rfl rfl ?_
    refine xr_aloadn hc rfl rfl ?_
    refine xr_getfi hc rfl (Or.inl rfl) (by first | assumption | rfl) ?_
    rw [T1]
    refine xr_icmp_lt hc rfl (t := 14) rfl (fun b9 => ?_) (fun b9 => ?_)
    · refine xr_iloadn hc rfl rfl ?_
      refine xr_istore4 hc rfl rfl ?_
      refine xr_aloadn hc rfl rfl ?_
      refine xr_getfr hc rfl rfl (by first | assumption | rfl) (by first | assumption | rfl) ?_
      refine xr_iloadn hc rfl rfl ?_
      first | refine xr_iaload hc rfl (by first | assumption | rfl) (by first | omega | (unfold dz_w; omega)) (by first | omega | (unfold dz_w; omega)) ?_ | refine xr_ialoado hc rfl (by first | omega | (unfold dz_w; omega)) (by first | omega | (unfold dz_w; omega)) ?_
      rw [Int.toNat_natCast, T5 j (by omega)]
      refine xr_istore5 hc rfl rfl ?_
      obtain ⟨v1, v2⟩ := TR_one hT (show j < K by omega)
      have v3 : (t_l pl kd wt nx (j + 1) s).length = (t_l pl kd wt nx j s).length + (t_one kd wt (t_run pl kd wt nx j s)).length := by rw [v1, List.length_append]
      have v4 := t_one_in hp (t_run_ok hp j B s hs (by omega))
      refine lp _ _ _ v2 v4.1 (by rw [T5 (j + 1) (by omega), v3]) (by omega) (by omega) (by omega) ?_
      rw [v1, t_b_app]
    · refine xr_iloadn hc rfl rfl ?_
      refine xr_ireturn hc rfl rfl (Nat.zero_le _) (Nat.zero_le _) ?_
      first
        | (exfalso; omega)
        | (rw [(TR_stop (M := M) hN (by omega) hj).1] at hQ; exact hQ)
set_option maxRecDepth 100000 in
theorem S_beatsOf {xo : Nat → List Int} {d : Nat} {Q : dz_Q} {sh : List (Nat ⊕ (Nat × Nat))} {rf : Nat → Nat → Nat} {M : Nat → Nat → Int} {q : Nat} {m : Int} {w pl B : Int} {kd wt nx s : Nat → Int} (hp : pgok w pl kd wt nx) (hs : stok w pl B s) (hB : B ≤ 900000) {K N : Nat} (ht : tr_at sh rf 50) (hT : TR M pl kd wt nx K s) (hN : K = N ∨ t_run pl kd wt nx K s 3 = -9) (h40 : N ≤ 40) (ha : sh[q]? = some (.inr (0, 6))) (hsp : ∀ i : Nat, (i : Int) < w → 0 ≤ M q i ∧ M q i ≤ 9) (hm : 0 ≤ m ∧ m ≤ N) (hQ : Q (some (dz_i (t_b pl (M q) (t_l pl kd wt nx m.toNat s) (s 1) - s 1))) (sh, rf, M)) : dz_E dz_pp xo (d + 4) 50 [dz_r 50, dz_r q, dz_i m] (sh, rf, M) Q := by
  refine ⟨Nat.le_of_ble_eq_true rfl, ?_⟩
  have hc := dz_E_m dz_pp xo (d + 3)
  show dz_X (dz_E dz_pp xo (d + 3)) dz_pp xo (dz_pp 50) Q 0 [some (dz_r 50), some (dz_r q), some (dz_i m), none, none] [] 0 0 (sh, rf, M)
  have t0 : sh[50]? = some (.inl 4) := ht.1
  have t1 : rf 50 0 = 51 + 1 := ht.2.1
  have t2 : sh[51]? = some (.inr (0, 80)) := ht.2.2.1
  have t3 : rf 50 1 = 52 + 1 := ht.2.2.2.1
  have t4 : sh[52]? = some (.inr (0, 80)) := ht.2.2.2.2.1
  have t5 : rf 50 2 = 53 + 1 := ht.2.2.2.2.2.1
  have t6 : sh[53]? = some (.inr (0, 41)) := ht.2.2.2.2.2.2
  obtain ⟨T1, T2, T3, T4, T5, T6, T7, T8⟩ := id hT
  obtain ⟨p1, p2, p3, p4, p5⟩ := id hp
  obtain ⟨s0, s1, s2, s3, s4, s5, s6, s7, s8⟩ := id hs
  have lp : ∀ (m_ : Nat) (j : Nat), (j : Int) + m_ = m → dz_X (dz_E dz_pp xo (d + 3)) dz_pp xo (dz_pp 50) Q 8 [some (dz_r 50), some (dz_r q), some (dz_i m), some (dz_i (t_b pl (M q) (t_l pl kd wt nx j s) (s 1))), some (dz_i (j : Int))] [] 0 0 (sh, rf, M) := by
    intro m_
    induction m_ with
    | zero =>
      intro j hj
      have hl1 := t_l_in hp j B s hs (by omega)
      have hb1 := t_b_in (sp := M q) ⟨p3, p4⟩ (t_l pl kd wt nx j s) (s 1) (fun x hx => (hl1.1 x hx).2)
      have ej : j = m.toNat := by omega
      subst ej
      refine xr_iload hc rfl rfl ?_
      refine xr_iloadn hc rfl rfl ?_
      refine xr_icmp_ge hc rfl (t := 38) rfl (fun b11 => ?_) (fun b11 => ?_)
      · refine xr_iloadn hc rfl rfl ?_
        refine xr_aloadn hc rfl rfl ?_
        refine xr_getfi hc rfl (Or.inl rfl) (by first | assumption | rfl) ?_
        rw [T2]
        refine xr_isubz hc rfl (by first | exact dz_wid (by first | omega | (unfold dz_w; omega)) (by first | omega | (unfold dz_w; omega)) | rfl) ?_
        refine xr_ireturn hc rfl rfl (Nat.zero_le _) (Nat.zero_le _) ?_
        exact hQ
      · omega
    | succ m_ ih =>
      intro j hj
      have hl1 := t_l_in hp j B s hs (by omega)
      have hb1 := t_b_in (sp := M q) ⟨p3, p4⟩ (t_l pl kd wt nx j s) (s 1) (fun x hx => (hl1.1 x hx).2)
      refine xr_iload hc rfl rfl ?_
      refine xr_iloadn hc rfl rfl ?_
      refine xr_icmp_ge hc rfl (t := 38) rfl (fun b11 => ?_) (fun b11 => ?_)
      · refine xr_iloadn hc rfl rfl ?_
        refine xr_aloadn hc rfl rfl ?_
        refine xr_getfi hc rfl (Or.inl rfl) (by first | assumption | rfl) ?_
        rw [T2]
        refine xr_isubz hc rfl (by first | exact dz_wid (by first | omega | (unfold dz_w; omega)) (by first | omega | (unfold dz_w; omega)) | rfl) ?_
        refine xr_ireturn hc rfl rfl (Nat.zero_le _) (Nat.zero_le _) ?_
        first
          | (exfalso; omega)
          | (have v1 := (TR_stop (M := M) hN (show K ≤ j by omega) (show j < N by omega)).2
             have v2 : (t_l pl kd wt nx m.toNat s) = (t_l pl kd wt nx K s) := by
               have h9 : t_run pl kd wt nx K s 3 = -9 := by
                 rcases hN with e | e
                 · omega
                 · exact e
               have e1 := (t_stay h9 (m.toNat - K)).2
               rw [show K + (m.toNat - K) = m.toNat by omega] at e1
               exact e1
             rw [v1, ← v2]
             exact hQ)
      · refine xr_iload hc rfl rfl ?_
        refine xr_aloadn hc rfl rfl ?_
        refine xr_getfi hc rfl (Or.inl rfl) (by first | assumption | rfl) ?_
        rw [T1]
        refine xr_icmp_ge hc rfl (t := 38) rfl (fun b20 => ?_) (fun b20 => ?_)
        · refine xr_iloadn hc rfl rfl ?_
          refine xr_aloadn hc rfl rfl ?_
          refine xr_getfi hc rfl (Or.inl rfl) (by first | assumption | rfl) ?_
          rw [T2]
          refine xr_isubz hc rfl (by first | exact dz_wid (by first | omega | (unfold dz_w; omega)) (by first | omega | (unfold dz_w; omega)) | rfl) ?_
          refine xr_ireturn hc rfl rfl (Nat.zero_le _) (Nat.zero_le _) ?_
          first
            | (exfalso; omega)
            | (have v1 := (TR_stop (M := M) hN (show K ≤ j by omega) (show j < N by omega)).2
               have v2 : (t_l pl kd wt nx m.toNat s) = (t_l pl kd wt nx K s) := by
                 have h9 : t_run pl kd wt nx K s 3 = -9 := by
                   rcases hN with e | e
                   · omega
                   · exact e
                 have e1 := (t_stay h9 (m.toNat - K)).2
                 rw [show K + (m.toNat - K) = m.toNat by omega] at e1
                 exact e1
               rw [v1, ← v2]
               exact hQ)
        · refine xr_aloadn hc rfl rfl ?_
          refine xr_aloadn hc rfl rfl ?_
          refine xr_iloadn hc rfl rfl ?_
          refine xr_iload hc rfl rfl ?_
          refine xr_callv3 hc rfl (by first | assumption | rfl) rfl rfl rfl (Nat.le_of_ble_eq_true rfl) (Nat.zero_le _) (Nat.zero_le _) ?_
          refine S_beatBehind (N := N) (b0 := s 1) hp hs hB ht hT hN h40 ha hsp (by omega) (by omega) ?_
          refine xk_1 ?_
          refine xr_istore3 hc rfl rfl ?_
          refine xr_iincz4 hc rfl rfl (by first | exact dz_wid (by first | omega | (unfold dz_w; omega)) (by first | omega | (unfold dz_w; omega)) | rfl) ?_
          refine xr_goto hc rfl (t := 8) rfl ?_
          exact ih (j + 1) (by omega)
  refine xr_aloadn hc rfl rfl ?_
  refine xr_getfi hc rfl (Or.inl rfl) (by first | assumption | rfl) ?_
  rw [T2]
  refine xr_istore3 hc rfl rfl ?_
  refine xr_iconst hc rfl ?_
  refine xr_istore4 hc rfl rfl ?_
  exact lp m.toNat 0 (by omega)
/-- the steps are done at the beats told -/
def t_fit (pl : Int) (kd wt nx sp tm : Nat → Int) (n : Nat) (s : Nat → Int) : Prop := ∀ j, j < n → t_run pl kd wt nx j s 3 ≠ -9 ∧ t_b pl sp (t_l pl kd wt nx (j + 1) s) (s 1) - s 1 = tm j
set_option maxRecDepth 100000 in
theorem S_fits {xo : Nat → List Int} {d : Nat} {Q : dz_Q} {sh : List (Nat ⊕ (Nat × Nat))} {rf : Nat → Nat → Nat} {M : Nat → Nat → Int} {q r n0 : Nat} {m : Int} {w pl B : Int} {kd wt nx s : Nat → Int} (hp : pgok w pl kd wt nx) (hs : stok w pl B s) (hB : B ≤ 900000) {K N : Nat} (ht : tr_at sh rf 50) (hT : TR M pl kd wt nx K s) (hN : K = N ∨ t_run pl kd wt nx K s 3 = -9) (h40 : N ≤ 40) (ha : sh[q]? = some (.inr (0, 6))) (hsp : ∀ i : Nat, (i : Int) < w → 0 ≤ M q i ∧ M q i ≤ 9) (hr : sh[r]? = some (.inr (0, n0))) (hm : 0 ≤ m ∧ m ≤ N ∧ m ≤ n0) (h1 : t_fit pl kd wt nx (M q) (M r) m.toNat s → Q (some (dz_i 1)) (sh, rf, M)) (h2 : ¬ t_fit pl kd wt nx (M q) (M r) m.toNat s → Q (some (dz_i 0)) (sh, rf, M)) : dz_E dz_pp xo (d + 4) 51 [dz_r 50, dz_r q, dz_r r, dz_i m] (sh, rf, M) Q := by
  refine ⟨Nat.le_of_ble_eq_true rfl, ?_⟩
  have hc := dz_E_m dz_pp xo (d + 3)
  show dz_X (dz_E dz_pp xo (d + 3)) dz_pp xo (dz_pp 51) Q 0 [some (dz_r 50), some (dz_r q), some (dz_r r), some (dz_i m), none, none] [] 0 0 (sh, rf, M)
  have t0 : sh[50]? = some (.inl 4) := ht.1
  have t1 : rf 50 0 = 51 + 1 := ht.2.1
  have t2 : sh[51]? = some (.inr (0, 80)) := ht.2.2.1
  have t3 : rf 50 1 = 52 + 1 := ht.2.2.2.1
  have t4 : sh[52]? = some (.inr (0, 80)) := ht.2.2.2.2.1
  have t5 : rf 50 2 = 53 + 1 := ht.2.2.2.2.2.1
  have t6 : sh[53]? = some (.inr (0, 41)) := ht.2.2.2.2.2.2
  obtain ⟨T1, T2, T3, T4, T5, T6, T7, T8⟩ := id hT
  obtain ⟨p1, p2, p3, p4, p5⟩ := id hp
  obtain ⟨s0, s1, s2, s3, s4, s5, s6, s7, s8⟩ := id hs
  have lp : ∀ (m_ : Nat) (j : Nat), (j : Int) + m_ = m → (∀ i, i < j → t_b pl (M q) (t_l pl kd wt nx (i + 1) s) (s 1) - s 1 = M r i) → m ≤ K → dz_X (dz_E dz_pp xo (d + 3)) dz_pp xo (dz_pp 51) Q 19 [some (dz_r 50), some (dz_r q), some (dz_r r), some (dz_i m), some (dz_i (t_b pl (M q) (t_l pl kd wt nx j s) (s 1))), some (dz_i (j : Int))] [] 0 0 (sh, rf, M) := by
    intro m_
    induction m_ with
    | zero =>
      intro j hj hall hKm
      refine xr_iload hc rfl rfl ?_
      refine xr_iloadn hc rfl rfl ?_
      refine xr_icmp_ge hc rfl (t := 58) rfl (fun b22 => ?_) (fun b22 => ?_)
      · refine xr_iconst hc rfl ?_
        refine xr_zreturn hc rfl rfl (Nat.zero_le _) (Nat.zero_le _) (by first | exact Or.inl rfl | exact Or.inr rfl | assumption) ?_
        exact h1 (fun i hi => ⟨T8 i (by omega), hall i (by omega)⟩)
      · omega
    | succ m_ ih =>
      intro j hj hall hKm
      have hl1 := t_l_in hp (j + 1) B s hs (by omega)
      have hb1 := t_b_in (sp := M q) ⟨p3, p4⟩ (t_l pl kd wt nx (j + 1) s) (s 1) (fun x hx => (hl1.1 x hx).2)
      have hl0 := t_l_in hp j B s hs (by omega)
      refine xr_iload hc rfl rfl ?_
      refine xr_iloadn hc rfl rfl ?_
      refine xr_icmp_ge hc rfl (t := 58) rfl (fun b22 => ?_) (fun b22 => ?_)
      · omega
      · refine xr_aloadn hc rfl rfl ?_
        refine xr_aloadn hc rfl rfl ?_
        refine xr_iload hc rfl rfl ?_
        refine xr_iload hc rfl rfl ?_
        refine xr_callv3 hc rfl (by first | assumption | rfl) rfl rfl rfl (Nat.le_of_ble_eq_true rfl) (Nat.zero_le _) (Nat.zero_le _) ?_
        refine S_beatBehind (N := N) (b0 := s 1) hp hs hB ht hT hN h40 ha hsp (by omega) (by omega) ?_
        refine xk_1 ?_
        refine xr_istore4 hc rfl rfl ?_
        refine xr_iload hc rfl rfl ?_
        refine xr_aloadn hc rfl rfl ?_
        refine xr_getfi hc rfl (Or.inl rfl) (by first | assumption | rfl) ?_
        rw [T2]
        refine xr_isubz hc rfl (by first | exact dz_wid (by first | omega | (unfold dz_w; omega)) (by first | omega | (unfold dz_w; omega)) | rfl) ?_
        refine xr_aloadn hc rfl rfl ?_
        refine xr_iload hc rfl rfl ?_
        first | refine xr_iaload hc rfl (by first | assumption | rfl) (by first | omega | (unfold dz_w; omega)) (by first | omega | (unfold dz_w; omega)) ?_ | refine xr_ialoado hc rfl (by first | omega | (unfold dz_w; omega)) (by first | omega | (unfold dz_w; omega)) ?_
        rw [Int.toNat_natCast]
        refine xr_icmp_eq hc rfl (t := 52) rfl (fun b47 => ?_) (fun b47 => ?_)
        · refine xr_iincz5 hc rfl rfl (by first | exact dz_wid (by first | omega | (unfold dz_w; omega)) (by first | omega | (unfold dz_w; omega)) | rfl) ?_
          refine xr_goto hc rfl (t := 19) rfl ?_
          refine ih (j + 1) (by omega) (fun i hi => ?_) hKm
          by_cases e : i = j
          · rw [e]
            omega
          · exact hall i (by omega)
        · refine xr_iconst hc rfl ?_
          refine xr_zreturn hc rfl rfl (Nat.zero_le _) (Nat.zero_le _) (by first | exact Or.inl rfl | exact Or.inr rfl | assumption) ?_
          exact h2 (fun hf => absurd ((hf j (by omega)).2) (by omega))
  refine xr_aloadn hc rfl rfl ?_
  refine xr_getfi hc rfl (Or.inl rfl) (by first | assumption | rfl) ?_
  rw [T1]
  refine xr_iloadn hc rfl rfl ?_
  refine xr_icmp_ge hc rfl (t := 10) rfl (fun b5 => ?_) (fun b5 => ?_)
  · refine xr_aloadn hc rfl rfl ?_
    refine xr_getfi hc rfl (Or.inl rfl) (by first | assumption | rfl) ?_
    rw [T2]
    refine xr_istore4 hc rfl rfl ?_
    refine xr_iconst hc rfl ?_
    refine xr_istore5 hc rfl rfl ?_
    exact lp m.toNat 0 (by omega) (fun i hi => by omega) (by omega)
  · refine xr_iconst hc rfl ?_
    refine xr_zreturn hc rfl rfl (Nat.zero_le _) (Nat.zero_le _) (by first | exact Or.inl rfl | exact Or.inr rfl | assumption) ?_
    refine h2 (fun hf => ?_)
    rcases hN with e | e
    · omega
    · exact (hf K (by omega)).1 e
set_option maxRecDepth 100000 in
theorem S_busyBeats {xo : Nat → List Int} {d : Nat} {Q : dz_Q} {sh : List (Nat ⊕ (Nat × Nat))} {rf : Nat → Nat → Nat} {M : Nat → Nat → Int} {w pl B : Int} {kd wt nx s : Nat → Int} (hp : pgok w pl kd wt nx) (hs : stok w pl B s) (hB : B ≤ 900000) {K : Nat} (ht : tr_at sh rf 50) (hT : TR M pl kd wt nx K s) (hQ : Q (some (dz_i (((t_l pl kd wt nx K s).length : Int) + t_k (t_l pl kd wt nx K s)))) (sh, rf, M)) : dz_E dz_pp xo (d + 1) 48 [dz_r 50] (sh, rf, M) Q := by
  refine ⟨Nat.le_of_ble_eq_true rfl, ?_⟩
  have hc := dz_E_m dz_pp xo (d + 0)
  show dz_X (dz_E dz_pp xo (d + 0)) dz_pp xo (dz_pp 48) Q 0 [some (dz_r 50), none, none] [] 0 0 (sh, rf, M)
  have t0 : sh[50]? = some (.inl 4) := ht.1
  have t1 : rf 50 0 = 51 + 1 := ht.2.1
  have t2 : sh[51]? = some (.inr (0, 80)) := ht.2.2.1
  have t3 : rf 50 1 = 52 + 1 := ht.2.2.2.1
  have t4 : sh[52]? = some (.inr (0, 80)) := ht.2.2.2.2.1
  have t5 : rf 50 2 = 53 + 1 := ht.2.2.2.2.2.1
  have t6 : sh[53]? = some (.inr (0, 41)) := ht.2.2.2.2.2.2
  obtain ⟨T1, T2, T3, T4, T5, T6, T7, T8⟩ := id hT
  obtain ⟨p1, p2, p3, p4, p5⟩ := id hp
  have hl1 := t_l_in hp K B s hs (by omega)
  have lp : ∀ (l : List (Nat × Int)) (k : Nat) (t : Int), (∀ i x, l[i]? = some x → M 52 (k + i) = x.2) → (∀ x, x ∈ l → 0 ≤ x.2 ∧ x.2 ≤ 11) → (t_l pl kd wt nx K s).length = k + l.length → k + l.length ≤ 80 → 0 ≤ t → t + 20 * l.length ≤ 990000 → t + t_k l = ((t_l pl kd wt nx K s).length : Int) + t_k (t_l pl kd wt nx K s) → dz_X (dz_E dz_pp xo (d + 0)) dz_pp xo (dz_pp 48) Q 7 [some (dz_r 50), some (dz_i t), some (dz_i (k : Int))] [] 0 0 (sh, rf, M) := by
    intro l
    induction l with
    | nil =>
      intro k t f1 f2 f3 f4 f5 f6 f7
      have f3b : (t_l pl kd wt nx K s).length = k := f3
      have f7b : t + 0 = ((t_l pl kd wt nx K s).length : Int) + t_k (t_l pl kd wt nx K s) := f7
      refine xr_iloadn hc rfl rfl ?_
      refine xr_aloadn hc rfl rfl ?_
      refine xr_getfi hc rfl (Or.inl rfl) (by first | assumption | rfl) ?_
      rw [T4]
      refine xr_icmp_ge hc rfl (t := 30) rfl (fun b12 => ?_) (fun b12 => ?_)
      · refine xr_iloadn hc rfl rfl ?_
        refine xr_ireturn hc rfl rfl (Nat.zero_le _) (Nat.zero_le _) ?_
        rw [show t = ((t_l pl kd wt nx K s).length : Int) + t_k (t_l pl kd wt nx K s) by omega]
        exact hQ
      · omega
    | cons x l ih =>
      intro k t f1 f2 f3 f4 f5 f6 f7
      rw [List.length_cons] at f3 f4 f6
      have x2 := f1 0 x rfl
      rw [Nat.add_zero] at x2
      have y2 := f2 x (List.mem_cons_self ..)
      have f7b : t + (x.2 + t_k l) = _ := f7
      refine xr_iloadn hc rfl rfl ?_
      refine xr_aloadn hc rfl rfl ?_
      refine xr_getfi hc rfl (Or.inl rfl) (by first | assumption | rfl) ?_
      rw [T4]
      refine xr_icmp_ge hc rfl (t := 30) rfl (fun b12 => ?_) (fun b12 => ?_)
      · omega
      · refine xr_iloadn hc rfl rfl ?_
        refine xr_aloadn hc rfl rfl ?_
        refine xr_getfr hc rfl rfl (by first | assumption | rfl) (by first | assumption | rfl) ?_
        refine xr_iloadn hc rfl rfl ?_
        first | refine xr_iaload hc rfl (by first | assumption | rfl) (by first | omega | (unfold dz_w; omega)) (by first | omega | (unfold dz_w; omega)) ?_ | refine xr_ialoado hc rfl (by first | omega | (unfold dz_w; omega)) (by first | omega | (unfold dz_w; omega)) ?_
        rw [Int.toNat_natCast, x2]
        refine xr_iaddz hc rfl (by first | exact dz_wid (by first | omega | (unfold dz_w; omega)) (by first | omega | (unfold dz_w; omega)) | rfl) ?_
        refine xr_istore1 hc rfl rfl ?_
        refine xr_iincz2 hc rfl rfl (by first | exact dz_wid (by first | omega | (unfold dz_w; omega)) (by first | omega | (unfold dz_w; omega)) | rfl) ?_
        refine xr_goto hc rfl (t := 7) rfl ?_
        exact ih (k + 1) _ (fun i y hy => by rw [show k + 1 + i = k + (i + 1) by omega]; exact f1 (i + 1) y (by simpa using hy)) (fun y hy => f2 y (List.mem_cons_of_mem _ hy)) (by omega) (by omega) (by omega) (by omega) (by omega)
  refine xr_aloadn hc rfl rfl ?_
  refine xr_getfi hc rfl (Or.inl rfl) (by first | assumption | rfl) ?_
  rw [T4]
  refine xr_istore1 hc rfl rfl ?_
  refine xr_iconst hc rfl ?_
  refine xr_istore2 hc rfl rfl ?_
  exact lp (t_l pl kd wt nx K s) 0 _ (fun i x hx => by rw [Nat.zero_add]; exact (T6 i x hx).2) (fun x hx => (hl1.1 x hx).2) (by omega) (by omega) (by omega) (by omega) rfl
set_option maxRecDepth 100000 in
theorem S_followSteps {xo : Nat → List Int} {d : Nat} {Q : dz_Q} {sh : List (Nat ⊕ (Nat × Nat))} {rf : Nat → Nat → Nat} {M : Nat → Nat → Int} {rs : Nat → Int} {it : Nat → Nat → Int} {ts : Nat → Int} {ch : Nat → Nat → Int} {tl up lo : Int} {fn : Nat → Int} {w pl : Int} {kd wt nx : Nat → Int} {n : Nat} {hs : Nat → Nat → Int} {kp : Nat → Int} {kh : Nat → Nat → Nat → Int} {m : Int} (hx : xo 2 = dz_xs2) (hl : cl sh rf) (hR : RX M rs it ts ch tl up lo fn w pl kd wt nx n hs kp kh) (hW : WF rs it ts ch tl up lo fn w pl kd wt nx n hs kp kh) (hw : w ≠ 0) (hm : 0 ≤ m ∧ m ≤ 40) (hQ : ∀ (M2 : Nat → Nat → Int) (K : Nat), (∀ q2 k2, ¬ (34 ≤ q2 ∧ q2 ≤ 40) → ¬ (50 ≤ q2 ∧ q2 ≤ 53) → M2 q2 k2 = M q2 k2) → RX M2 rs it ts ch tl up lo fn w pl kd wt nx n hs kp kh → TR M2 pl kd wt nx K (hs n) → (K = m.toNat ∨ t_run pl kd wt nx K (hs n) 3 = -9) → K ≤ m.toNat → mrel M2 34 w pl kd wt nx (fup (t_run pl kd wt nx m.toNat (hs n)) 1 (hs n 1)) → Q none (sh, rf, M2)) : dz_E dz_pp xo (d + 4) 109 [dz_r 0, dz_i m] (sh, rf, M) Q := by
  refine ⟨Nat.le_of_ble_eq_true rfl, ?_⟩
  have hc := dz_E_m dz_pp xo (d + 3)
  show dz_X (dz_E dz_pp xo (d + 3)) dz_pp xo (dz_pp 109) Q 0 [some (dz_r 0), some (dz_i m)] [] 0 0 (sh, rf, M)
  obtain ⟨c0, c1, c2, c3, c4, c5, c6, c7, c8, c9, c10, c11, c12, c13, c14, c15, c16, c17, c18, c19, c20, c21, c22, c23, c24, c25, c26, c27, c28, c29, c30, c31, c32, c33, c34, c35, c36⟩ := id hl
  obtain ⟨d0, d1, d2, d3, d4, d5, d6, d7, d8, d9, d10⟩ := id c14
  have m0 := d4.1
  have m1 := d2.1
  obtain ⟨hrow, htxt, htl, hup, hlo, hfn, hdr, hkp, hrb⟩ := id hR
  obtain ⟨wrow, wtxt, wdr, wst, wkp⟩ := id hW
  have hp : pgok w pl kd wt nx := by
    rcases wdr with z | z
    · exact z
    · exact absurd z.1 hw
  obtain ⟨e0, e1, e2, e3, e4, e5⟩ := id hdr
  have hst := wst.2 n (by omega)
  have hw6 := hp.2.1
  have q0 : sh[34]? = some (.inl 1) := c20.1
  have q3 : sh[50]? = some (.inl 4) := c26.1
  refine xr_aloadn hc rfl rfl ?_
  refine xr_getfr hc rfl rfl (by first | assumption | rfl) (by first | assumption | rfl) ?_
  refine xr_aloadn hc rfl rfl ?_
  refine xr_getfr hc rfl rfl (by first | assumption | rfl) (by first | assumption | rfl) ?_
  refine xr_getfr hc rfl rfl (by first | assumption | rfl) (by first | assumption | rfl) ?_
  refine xr_callv1 hc rfl (by first | assumption | rfl) rfl rfl rfl (Nat.le_of_ble_eq_true rfl) (Nat.zero_le _) (Nat.zero_le _) ?_
  refine S_mbecome c20 d4 (by omega) (fun M1 f1 f2 f3 => ?_)
  refine xk_0 ?_
  refine xr_aloadn hc rfl rfl ?_
  refine xr_getfr hc rfl rfl (by first | assumption | rfl) (by first | assumption | rfl) ?_
  refine xr_aloadn hc rfl rfl ?_
  refine xr_getfr hc rfl rfl (by first | assumption | rfl) (by first | assumption | rfl) ?_
  refine xr_iloadn hc rfl rfl ?_
  refine xr_callv2 hc rfl (by first | assumption | rfl) rfl rfl rfl (Nat.le_of_ble_eq_true rfl) (Nat.zero_le _) (Nat.zero_le _) ?_
  refine S_follow (w := w) (pl := pl) (B := 29 * n) (kd := kd) (wt := wt) (nx := nx) (s := hs n) hx c26 c20 hp hst (by omega) (mrel_same hw6 e1 f2 f3) (by rw [f1 _ _ (by omega)]; exact hrb.1) hm (fun M2 K g1 g2 g3 g4 g5 => ?_)
  have gg : ∀ q2 k2, ¬ (34 ≤ q2 ∧ q2 ≤ 40) → ¬ (50 ≤ q2 ∧ q2 ≤ 53) → M2 q2 k2 = M q2 k2 := fun q2 k2 u1 u2 => by rw [g1 _ _ u1 u2, f1 _ _ (by omega)]
  have g0 : M2 53 0 = M 53 0 := by rw [g2.2.2.2.2.1 0 (by omega), hrb.1]; rfl
  have gx : scX M M2 := ⟨fun q2 k2 u => gg _ _ (by omega) (by omega), fun q2 k2 u => by
    rcases u with ⟨a, b⟩ | u
    · rw [a, b]
      exact g0
    · exact gg _ _ (by omega) (by omega)⟩
  refine xk_0 ?_
  refine xr_return hc rfl rfl (Nat.zero_le _) (Nat.zero_le _) ?_
  exact hQ M2 K gg (RX_scr hR gx) g2 g3 g4 g5
set_option maxRecDepth 100000 in
theorem S_refusedSteps {xo : Nat → List Int} {d : Nat} {Q : dz_Q} {sh : List (Nat ⊕ (Nat × Nat))} {rf : Nat → Nat → Nat} {M : Nat → Nat → Int} {rs : Nat → Int} {it : Nat → Nat → Int} {ts : Nat → Int} {ch : Nat → Nat → Int} {tl up lo : Int} {fn : Nat → Int} {w pl : Int} {kd wt nx : Nat → Int} {n : Nat} {hs : Nat → Nat → Int} {kp : Nat → Int} {kh : Nat → Nat → Nat → Int} {m mo : Int} (hl : cl sh rf) (hR : RX M rs it ts ch tl up lo fn w pl kd wt nx n hs kp kh) (hW : WF rs it ts ch tl up lo fn w pl kd wt nx n hs kp kh) (h1 : (m < 0 ∨ mo < m) → Q (some (dz_i (-1))) (sh, rf, M)) (h2 : 0 ≤ m → m ≤ mo → w = 0 → Q (some (dz_i (-4))) (sh, rf, M)) (h3 : 0 ≤ m → m ≤ mo → w ≠ 0 → Q (some (dz_i 0)) (sh, rf, M)) : dz_E dz_pp xo (d + 3) 105 [dz_r 0, dz_i m, dz_i mo] (sh, rf, M) Q := by
  refine ⟨Nat.le_of_ble_eq_true rfl, ?_⟩
  have hc := dz_E_m dz_pp xo (d + 2)
  show dz_X (dz_E dz_pp xo (d + 2)) dz_pp xo (dz_pp 105) Q 0 [some (dz_r 0), some (dz_i m), some (dz_i mo)] [] 0 0 (sh, rf, M)
  obtain ⟨c0, c1, c2, c3, c4, c5, c6, c7, c8, c9, c10, c11, c12, c13, c14, c15, c16, c17, c18, c19, c20, c21, c22, c23, c24, c25, c26, c27, c28, c29, c30, c31, c32, c33, c34, c35, c36⟩ := id hl
  refine xr_iloadn hc rfl rfl ?_
  refine xr_iconst hc rfl ?_
  refine xr_iloadn hc rfl rfl ?_
  refine xr_calls3 hc rfl (by decide) rfl rfl rfl (Nat.le_of_ble_eq_true rfl) (Nat.zero_le _) (Nat.zero_le _) ?_
  refine S_isWithin (fun u1 u2 => ?_) (fun u1 => ?_)
  · refine xk_1 ?_
    refine xr_ift hc rfl (t := 11) rfl (by simp [dz_cmp]) ?_
    refine xr_aloadn hc rfl rfl ?_
    refine xr_callv0 hc rfl (by first | assumption | rfl) rfl rfl rfl (Nat.le_of_ble_eq_true rfl) (Nat.zero_le _) (Nat.zero_le _) ?_
    refine S_hasNoWords hl hR hW (fun v1 => ?_) (fun v1 => ?_)
    · refine xk_1 ?_
      refine xr_iff hc rfl (by simp [dz_cmp]) ?_
      refine xr_bipush hc rfl ?_
      refine xr_goto hc rfl (t := 24) rfl ?_
      refine xr_ireturn hc rfl rfl (Nat.zero_le _) (Nat.zero_le _) ?_
      first
        | exact h1 (by omega)
        | exact h2 (by omega) (by omega) v1
        | exact h3 (by omega) (by omega) v1
    · refine xk_1 ?_
      refine xr_ift hc rfl (t := 23) rfl (by simp [dz_cmp]) ?_
      refine xr_iconst hc rfl ?_
      refine xr_ireturn hc rfl rfl (Nat.zero_le _) (Nat.zero_le _) ?_
      first
        | exact h1 (by omega)
        | exact h2 (by omega) (by omega) v1
        | exact h3 (by omega) (by omega) v1
  · refine xk_1 ?_
    refine xr_iff hc rfl (by simp [dz_cmp]) ?_
    refine xr_iconst hc rfl ?_
    refine xr_ireturn hc rfl rfl (Nat.zero_le _) (Nat.zero_le _) ?_
    first
      | exact h1 (by omega)
      | exact h2 (by omega) (by omega) v1
      | exact h3 (by omega) (by omega) v1
set_option maxRecDepth 100000 in
theorem S_pbegin {xo : Nat → List Int} {d : Nat} {Q : dz_Q} {sh : List (Nat ⊕ (Nat × Nat))} {rf : Nat → Nat → Nat} {M : Nat → Nat → Int} (hl : cl sh rf) (hQ : ∀ M2 : Nat → Nat → Int, (∀ q2 k2, q2 ≠ 54 → q2 ≠ 55 → M2 q2 k2 = M q2 k2) → M2 54 5 = M 23 0 → M2 54 6 = M 23 1 → (∀ k, k < 6 → M2 55 k = M 25 k) → Q none (sh, rf, M2)) : dz_E dz_pp xo (d + 1) 26 [dz_r 54, dz_r 23] (sh, rf, M) Q := by
  refine ⟨Nat.le_of_ble_eq_true rfl, ?_⟩
  have hc := dz_E_m dz_pp xo (d + 0)
  show dz_X (dz_E dz_pp xo (d + 0)) dz_pp xo (dz_pp 26) Q 0 [some (dz_r 54), some (dz_r 23)] [] 0 0 (sh, rf, M)
  obtain ⟨c0, c1, c2, c3, c4, c5, c6, c7, c8, c9, c10, c11, c12, c13, c14, c15, c16, c17, c18, c19, c20, c21, c22, c23, c24, c25, c26, c27, c28, c29, c30, c31, c32, c33, c34, c35, c36⟩ := id hl
  have m0 : sh[23]? = some (.inl 1) := c14.2.2.2.2.1.1
  have m1 : rf 23 7 = 25 + 1 := c14.2.2.2.2.1.2.2.2.1
  have m2 : sh[25]? = some (.inr (0, 6)) := c14.2.2.2.2.1.2.2.2.2.1
  have n0 : sh[54]? = some (.inl 2) := c28.1
  have n1 : rf 54 1 = 55 + 1 := c28.2.1
  have n2 : sh[55]? = some (.inr (0, 6)) := c28.2.2.1
  refine xr_aloadn hc rfl rfl ?_
  refine xr_aloadn hc rfl rfl ?_
  refine xr_getfi hc rfl (Or.inl rfl) (by first | assumption | rfl) ?_
  refine xr_putfi hc rfl rfl (by first | assumption | rfl) ?_
  refine xr_aloadn hc rfl rfl ?_
  refine xr_aloadn hc rfl rfl ?_
  refine xr_getfi hc rfl (Or.inl rfl) (by first | assumption | rfl) ?_
  rw [dz_up_ne (by omega)]
  refine xr_putfi hc rfl rfl (by first | assumption | rfl) ?_
  refine xr_aloadn hc rfl rfl ?_
  refine xr_getfr hc rfl rfl (by first | assumption | rfl) (by first | assumption | rfl) ?_
  refine xr_iconst hc rfl ?_
  refine xr_aloadn hc rfl rfl ?_
  refine xr_getfr hc rfl rfl (by first | assumption | rfl) (by first | assumption | rfl) ?_
  refine xr_iconst hc rfl ?_
  refine xr_bipush hc rfl ?_
  refine xr_copy hc rfl rfl (by first | assumption | rfl) (by first | assumption | rfl) (by first | omega | (unfold dz_w; omega)) (by first | omega | (unfold dz_w; omega)) (by first | omega | (unfold dz_w; omega)) (by first | omega | (unfold dz_w; omega)) (by first | omega | (unfold dz_w; omega)) (by first | decide | (simp [dz_cats]; done) | exact Nat.le_of_ble_eq_true rfl) ?_
  refine xr_return hc rfl rfl (Nat.zero_le _) (Nat.zero_le _) ?_
  refine hQ _ (fun q2 k2 u1 u2 => ?_) ?_ ?_ (fun k hk => ?_)
  · unfold dz_cpy
    rw [if_neg (by omega), dz_up_ne u1, dz_up_ne u1]
  · unfold dz_cpy
    rw [if_neg (by omega), dz_up_k (by omega), dz_up_eq]
  · unfold dz_cpy
    rw [if_neg (by omega), dz_up_eq]
  · unfold dz_cpy
    rw [if_pos (by omega), dz_up_ne (by omega), dz_up_ne (by omega)]
    congr 1
    omega
