/-! The step to watch, of both. Written by l2_55.py. -/
set_option maxRecDepth 100000 in
theorem S_max {xo : Nat → List Int} {d : Nat} {Q : dz_Q} {sh : List (Nat ⊕ (Nat × Nat))} {rf : Nat → Nat → Nat} {M : Nat → Nat → Int} {x y : Int} (hQ : Q (some (dz_i (max x y))) (sh, rf, M)) : dz_E dz_pp xo (d + 1) 215 [dz_i x, dz_i y] (sh, rf, M) Q := by
  refine ⟨Nat.le_of_ble_eq_true rfl, ?_⟩
  have hc := dz_E_m dz_pp xo (d + 0)
  show dz_X (dz_E dz_pp xo (d + 0)) dz_pp xo (dz_pp 215) Q 0 [some (dz_i x), some (dz_i y)] [] 0 0 (sh, rf, M)
  refine xr_iloadn hc rfl rfl ?_
  refine xr_iloadn hc rfl rfl ?_
  refine xr_icmp_lt hc rfl (t := 9) rfl (fun b2 => ?_) (fun b2 => ?_)
  · refine xr_iloadn hc rfl rfl ?_
    refine xr_ireturn hc rfl rfl (Nat.zero_le _) (Nat.zero_le _) ?_
    first
      | (rw [show max x y = x by omega] at hQ; exact hQ)
      | (rw [show max x y = y by omega] at hQ; exact hQ)
  · refine xr_iloadn hc rfl rfl ?_
    refine xr_goto hc rfl (t := 10) rfl ?_
    refine xr_ireturn hc rfl rfl (Nat.zero_le _) (Nat.zero_le _) ?_
    first
      | (rw [show max x y = x by omega] at hQ; exact hQ)
      | (rw [show max x y = y by omega] at hQ; exact hQ)
set_option maxRecDepth 100000 in
theorem S_min {xo : Nat → List Int} {d : Nat} {Q : dz_Q} {sh : List (Nat ⊕ (Nat × Nat))} {rf : Nat → Nat → Nat} {M : Nat → Nat → Int} {x y : Int} (hQ : Q (some (dz_i (min x y))) (sh, rf, M)) : dz_E dz_pp xo (d + 1) 216 [dz_i x, dz_i y] (sh, rf, M) Q := by
  refine ⟨Nat.le_of_ble_eq_true rfl, ?_⟩
  have hc := dz_E_m dz_pp xo (d + 0)
  show dz_X (dz_E dz_pp xo (d + 0)) dz_pp xo (dz_pp 216) Q 0 [some (dz_i x), some (dz_i y)] [] 0 0 (sh, rf, M)
  refine xr_iloadn hc rfl rfl ?_
  refine xr_iloadn hc rfl rfl ?_
  refine xr_icmp_gt hc rfl (t := 9) rfl (fun b2 => ?_) (fun b2 => ?_)
  · refine xr_iloadn hc rfl rfl ?_
    refine xr_ireturn hc rfl rfl (Nat.zero_le _) (Nat.zero_le _) ?_
    first
      | (rw [show min x y = x by omega] at hQ; exact hQ)
      | (rw [show min x y = y by omega] at hQ; exact hQ)
  · refine xr_iloadn hc rfl rfl ?_
    refine xr_goto hc rfl (t := 10) rfl ?_
    refine xr_ireturn hc rfl rfl (Nat.zero_le _) (Nat.zero_le _) ?_
    first
      | (rw [show min x y = x by omega] at hQ; exact hQ)
      | (rw [show min x y = y by omega] at hQ; exact hQ)
def g_cnt (c : Nat → Int) (x : Int) : Nat → Int
  | 0 => 0
  | q + 1 => g_cnt c x q + if c q = x then 1 else 0
def g_max (c : Nat → Int) (P : Nat) : Nat → Int
  | 0 => 0
  | p + 1 => max (g_max c P p) (if c p = -9 then 0 else g_cnt c (c p) P)
theorem g_cnt_in (c : Nat → Int) (x : Int) : ∀ q : Nat, 0 ≤ g_cnt c x q ∧ g_cnt c x q ≤ q
  | 0 => by
    show (0 : Int) ≤ 0 ∧ (0 : Int) ≤ ((0 : Nat) : Int)
    omega
  | q + 1 => by
    have ih := g_cnt_in c x q
    unfold g_cnt
    split <;> omega
theorem g_max_in (c : Nat → Int) (P : Nat) : ∀ p : Nat, 0 ≤ g_max c P p ∧ g_max c P p ≤ P
  | 0 => by
    show (0 : Int) ≤ 0 ∧ (0 : Int) ≤ P
    omega
  | p + 1 => by
    have ih := g_max_in c P p
    have h2 := g_cnt_in c (c p) P
    unfold g_max
    split <;> omega
theorem g_cnt_c {c c2 : Nat → Int} {x x2 : Int} : ∀ q : Nat, (∀ i, i < q → (c i = x ↔ c2 i = x2)) → g_cnt c x q = g_cnt c2 x2 q
  | 0, _ => rfl
  | q + 1, h => by
    have ih := g_cnt_c q (fun i hi => h i (by omega))
    unfold g_cnt
    rw [ih]
    congr 1
    have h1 := h q (by omega)
    by_cases e : c q = x
    · rw [if_pos e, if_pos (h1.mp e)]
    · rw [if_neg e, if_neg (fun z => e (h1.mpr z))]
theorem g_cnt_no {c : Nat → Int} {x : Int} {q : Nat} : ∀ k : Nat, (∀ i, q ≤ i → i < q + k → c i ≠ x) → g_cnt c x (q + k) = g_cnt c x q
  | 0, _ => rfl
  | k + 1, h => by
    have ih := g_cnt_no (c := c) (x := x) (q := q) k (fun i h1 h2 => h i h1 (by omega))
    show g_cnt c x (q + k) + (if c (q + k) = x then 1 else 0) = _
    rw [if_neg (h (q + k) (by omega) (by omega)), ih]
    omega
theorem g_max_c {c c2 : Nat → Int} {P P2 : Nat} : ∀ p : Nat, (∀ i, i < p → (c i = -9 ↔ c2 i = -9) ∧ (c i ≠ -9 → g_cnt c (c i) P = g_cnt c2 (c2 i) P2)) → g_max c P p = g_max c2 P2 p
  | 0, _ => rfl
  | p + 1, h => by
    have ih := g_max_c p (fun i hi => h i (by omega))
    have h1 := h p (by omega)
    unfold g_max
    rw [ih]
    by_cases e : c p = -9
    · rw [if_pos e, if_pos (h1.1.mp e)]
    · rw [if_neg e, if_neg (fun z => e (h1.1.mpr z)), h1.2 e]
theorem g_max_no {c : Nat → Int} {P p : Nat} : ∀ k : Nat, (∀ i, p ≤ i → i < p + k → c i = -9) → g_max c P (p + k) = g_max c P p
  | 0, _ => rfl
  | k + 1, h => by
    have ih := g_max_no (c := c) (P := P) (p := p) k (fun i h1 h2 => h i h1 (by omega))
    have h2 := g_max_in c P p
    show max (g_max c P (p + k)) (if c (p + k) = -9 then 0 else _) = _
    rw [if_pos (h (p + k) (by omega) (by omega)), ih]
    omega
/-- the beats behind m steps, if the word lies there -/
def ccl (pl : Int) (kd wt nx : Nat → Int) (w : Int) (s : Nat → Int) (i m : Nat) (q : Nat) : Int := if mly s w i q then t_at pl kd wt nx (fup (fun k => s (5 + k)) i q) m s else -9
def cka (pl : Int) (kd wt nx : Nat → Int) (w : Int) (s : Nat → Int) (i m : Nat) (q : Nat) : Int := if (q : Int) < pl ∧ mly s w i q then t_b pl (fup (fun k => s (5 + k)) i q) (t_l pl kd wt nx m s) (s 1) else -9
theorem g_two {w pl B : Int} {kd wt nx s : Nat → Int} {i m : Nat} (hp : pgok w pl kd wt nx) (hs : stok w pl B s) (hB : B + 29 * m ≤ 1000000) : g_max (cka pl kd wt nx w s i m) 9 9 = g_max (ccl pl kd wt nx w s i m) pl.toNat pl.toNat := by
  obtain ⟨p1, p2, p3, p4, p5⟩ := id hp
  have hs1 := hs.2.1
  have hA : ∀ q : Nat, 0 ≤ t_at pl kd wt nx (fup (fun k => s (5 + k)) i q) m s := fun q => (t_at_in hp hs hB).1
  have ha : ∀ q : Nat, t_at pl kd wt nx (fup (fun k => s (5 + k)) i q) m s = t_b pl (fup (fun k => s (5 + k)) i q) (t_l pl kd wt nx m s) (s 1) - s 1 := fun q => rfl
  have hno : ∀ q, pl.toNat ≤ q → cka pl kd wt nx w s i m q = -9 := fun q hq => by
    unfold cka
    rw [if_neg (by omega)]
  have hyes : ∀ q, q < pl.toNat → (mly s w i q ∧ cka pl kd wt nx w s i m q = ccl pl kd wt nx w s i m q + s 1 ∧ 0 ≤ ccl pl kd wt nx w s i m q) ∨ (¬ mly s w i q ∧ cka pl kd wt nx w s i m q = -9 ∧ ccl pl kd wt nx w s i m q = -9) := fun q hq => by
    unfold cka ccl
    by_cases hy : mly s w i q
    · refine Or.inl ⟨hy, ?_⟩
      rw [if_pos ⟨by omega, hy⟩, if_pos hy, ha q]
      have z := hA q
      rw [ha q] at z
      omega
    · refine Or.inr ⟨hy, ?_⟩
      rw [if_neg (fun z => hy z.2), if_neg hy]
      exact ⟨rfl, rfl⟩
  have e1 : g_max (cka pl kd wt nx w s i m) 9 9 = g_max (cka pl kd wt nx w s i m) 9 pl.toNat := by
    have z := g_max_no (c := cka pl kd wt nx w s i m) (P := 9) (p := pl.toNat) (9 - pl.toNat) (fun q h1 h2 => hno q h1)
    rw [show pl.toNat + (9 - pl.toNat) = 9 by omega] at z
    exact z
  rw [e1]
  refine g_max_c _ (fun q hq => ?_)
  rcases hyes q hq with ⟨y0, y1, y2⟩ | ⟨y0, y1, y2⟩
  · refine ⟨by omega, fun _ => ?_⟩
    have z := g_cnt_no (c := cka pl kd wt nx w s i m) (x := cka pl kd wt nx w s i m q) (q := pl.toNat) (9 - pl.toNat) (fun k h1 h2 => by rw [hno k h1]; omega)
    rw [show pl.toNat + (9 - pl.toNat) = 9 by omega] at z
    rw [z]
    refine g_cnt_c _ (fun k hk => ?_)
    rcases hyes k hk with ⟨v0, v1, v2⟩ | ⟨v0, v1, v2⟩ <;> omega
  · refine ⟨by omega, fun z => absurd y1 z⟩
def t_wt (G : Nat → Int) (top : Int) : Nat → Int × Int
  | 0 => (-9, top)
  | k + 1 => if G (k + 1) < (t_wt G top k).2 then (((k + 1 : Nat) : Int), G (k + 1)) else t_wt G top k
theorem t_wt_two {G : Nat → Int} {T1 T2 : Int} (h : ∀ k, G k < T1 ∧ G k < T2) : ∀ k, t_wt G T1 (k + 1) = t_wt G T2 (k + 1)
  | 0 => by
    have h1 := h 1
    show (if G (0 + 1) < T1 then _ else _) = (if G (0 + 1) < T2 then _ else _)
    rw [if_pos h1.1, if_pos h1.2]
  | k + 1 => by
    have ih := t_wt_two h k
    show (if G (k + 1 + 1) < (t_wt G T1 (k + 1)).2 then _ else t_wt G T1 (k + 1)) = (if G (k + 1 + 1) < (t_wt G T2 (k + 1)).2 then _ else t_wt G T2 (k + 1))
    rw [ih]
def o_watch (tl w pl : Int) (kd wt nx s : Nat → Int) (i : Int) : Int × Int := if i < 0 ∨ w ≤ i then (-1, tl) else t_wt (fun m => g_max (ccl pl kd wt nx w s i.toNat m) pl.toNat pl.toNat) 99999 12
set_option maxRecDepth 100000 in
theorem S_greatestPart {xo : Nat → List Int} {d : Nat} {Q : dz_Q} {sh : List (Nat ⊕ (Nat × Nat))} {rf : Nat → Nat → Nat} {M : Nat → Nat → Int} (hl : cl sh rf) (hQ : Q (some (dz_i (g_max (M 58) 9 9))) (sh, rf, M)) : dz_E dz_pp xo (d + 2) 113 [dz_r 0] (sh, rf, M) Q := by
  refine ⟨Nat.le_of_ble_eq_true rfl, ?_⟩
  have hc := dz_E_m dz_pp xo (d + 1)
  show dz_X (dz_E dz_pp xo (d + 1)) dz_pp xo (dz_pp 113) Q 0 [some (dz_r 0), none, none, none, none] [] 0 0 (sh, rf, M)
  obtain ⟨c0, c1, c2, c3, c4, c5, c6, c7, c8, c9, c10, c11, c12, c13, c14, c15, c16, c17, c18, c19, c20, c21, c22, c23, c24, c25, c26, c27, c28, c29, c30, c31, c32, c33, c34, c35, c36⟩ := id hl
  have lp : ∀ (m_ : Nat) (p : Nat), p + m_ = 9 → ∀ e1 e2 : Option dz_V, dz_X (dz_E dz_pp xo (d + 1)) dz_pp xo (dz_pp 113) Q 4 [some (dz_r 0), some (dz_i (g_max (M 58) 9 p)), some (dz_i (p : Int)), e1, e2] [] 0 0 (sh, rf, M) := by
    intro m_
    induction m_ with
    | zero =>
      intro p hp2 e1 e2
      have ep : p = 9 := by omega
      subst ep
      refine xr_iloadn hc rfl rfl ?_
      refine xr_bipush hc rfl ?_
      refine xr_icmp_ge hc rfl (t := 70) rfl (fun b7 => ?_) (fun b7 => ?_)
      · refine xr_iloadn hc rfl rfl ?_
        refine xr_ireturn hc rfl rfl (Nat.zero_le _) (Nat.zero_le _) ?_
        exact hQ
      · omega
    | succ m_ ih =>
      intro p hp2 e1 e2
      have IH := ih
      have lq : ∀ (m_ : Nat) (q : Nat), q + m_ = 9 → dz_X (dz_E dz_pp xo (d + 1)) dz_pp xo (dz_pp 113) Q 15 [some (dz_r 0), some (dz_i (g_max (M 58) 9 p)), some (dz_i (p : Int)), some (dz_i (if M 58 p = -9 then 0 else g_cnt (M 58) (M 58 p) q)), some (dz_i (q : Int))] [] 0 0 (sh, rf, M) := by
        intro m_
        induction m_ with
        | zero =>
          intro q hq
          have eq9 : q = 9 := by omega
          subst eq9
          have em : g_max (M 58) 9 (p + 1) = max (g_max (M 58) 9 p) (if M 58 p = -9 then 0 else g_cnt (M 58) (M 58 p) 9) := rfl
          refine xr_iload hc rfl rfl ?_
          refine xr_bipush hc rfl ?_
          refine xr_icmp_ge hc rfl (t := 58) rfl (fun b19 => ?_) (fun b19 => ?_)
          · refine xr_iloadn hc rfl rfl ?_
            refine xr_iloadn hc rfl rfl ?_
            refine xr_calls2 hc rfl (by decide) rfl rfl rfl (Nat.le_of_ble_eq_true rfl) (Nat.zero_le _) (Nat.zero_le _) ?_
            refine S_max ?_
            refine xk_1 ?_
            refine xr_istore1 hc rfl rfl ?_
            refine xr_iincz2 hc rfl rfl (by first | exact dz_wid (by first | omega | (unfold dz_w; omega)) (by first | omega | (unfold dz_w; omega)) | rfl) ?_
            refine xr_goto hc rfl (t := 4) rfl ?_
            rw [← em]
            exact IH (p + 1) (by omega) _ _
          · omega
        | succ m_ ih =>
          intro q hq
          have hci := g_cnt_in (M 58) (M 58 p) q
          have ec : g_cnt (M 58) (M 58 p) (q + 1) = g_cnt (M 58) (M 58 p) q + if M 58 q = M 58 p then 1 else 0 := rfl
          by_cases h9 : M 58 p = -9
          · have l0 := ih (q + 1) (by omega)
            rw [if_pos h9] at l0 ⊢
            refine xr_iload hc rfl rfl ?_
            refine xr_bipush hc rfl ?_
            refine xr_icmp_ge hc rfl (t := 58) rfl (fun b19 => ?_) (fun b19 => ?_)
            · first
              | (exfalso; omega)
              | (skip
                 refine xr_iloadn hc rfl rfl ?_
                 refine xr_iloadn hc rfl rfl ?_
                 refine xr_calls2 hc rfl (by decide) rfl rfl rfl (Nat.le_of_ble_eq_true rfl) (Nat.zero_le _) (Nat.zero_le _) ?_
                 refine S_max ?_
                 refine xk_1 ?_
                 refine xr_istore1 hc rfl rfl ?_
                 refine xr_iincz2 hc rfl rfl (by first | exact dz_wid (by first | omega | (unfold dz_w; omega)) (by first | omega | (unfold dz_w; omega)) | rfl) ?_
                 refine xr_goto hc rfl (t := 4) rfl ?_
                 have em : g_max (M 58) 9 (p + 1) = max (g_max (M 58) 9 p) (if M 58 p = -9 then 0 else g_cnt (M 58) (M 58 p) 9) := rfl
                 rw [if_pos h9] at em
                 rw [← em]
                 exact IH (p + 1) (by omega) _ _)
            · first
              | (exfalso; omega)
              | (skip
                 refine xr_aloadn hc rfl rfl ?_
                 refine xr_getfr hc rfl rfl (by first | assumption | rfl) (by first | assumption | rfl) ?_
                 refine xr_iloadn hc rfl rfl ?_
                 first | refine xr_iaload hc rfl (by first | assumption | rfl) (by first | omega | (unfold dz_w; omega)) (by first | omega | (unfold dz_w; omega)) ?_ | refine xr_ialoado hc rfl (by first | omega | (unfold dz_w; omega)) (by first | omega | (unfold dz_w; omega)) ?_
                 rw [Int.toNat_natCast]
                 refine xr_bipush hc rfl ?_
                 refine xr_icmp_eq hc rfl (t := 58) rfl (fun b30 => ?_) (fun b30 => ?_)
                 · first
                   | (exfalso; omega)
                   | (skip
                      refine xr_iloadn hc rfl rfl ?_
                      refine xr_iloadn hc rfl rfl ?_
                      refine xr_calls2 hc rfl (by decide) rfl rfl rfl (Nat.le_of_ble_eq_true rfl) (Nat.zero_le _) (Nat.zero_le _) ?_
                      refine S_max ?_
                      refine xk_1 ?_
                      refine xr_istore1 hc rfl rfl ?_
                      refine xr_iincz2 hc rfl rfl (by first | exact dz_wid (by first | omega | (unfold dz_w; omega)) (by first | omega | (unfold dz_w; omega)) | rfl) ?_
                      refine xr_goto hc rfl (t := 4) rfl ?_
                      have em : g_max (M 58) 9 (p + 1) = max (g_max (M 58) 9 p) (if M 58 p = -9 then 0 else g_cnt (M 58) (M 58 p) 9) := rfl
                      rw [if_pos h9] at em
                      rw [← em]
                      exact IH (p + 1) (by omega) _ _)
                 · first
                   | (exfalso; omega)
                   | (skip
                      omega))
          · have l0 := ih (q + 1) (by omega)
            rw [if_neg h9] at l0 ⊢
            refine xr_iload hc rfl rfl ?_
            refine xr_bipush hc rfl ?_
            refine xr_icmp_ge hc rfl (t := 58) rfl (fun b19 => ?_) (fun b19 => ?_)
            · omega
            · refine xr_aloadn hc rfl rfl ?_
              refine xr_getfr hc rfl rfl (by first | assumption | rfl) (by first | assumption | rfl) ?_
              refine xr_iloadn hc rfl rfl ?_
              first | refine xr_iaload hc rfl (by first | assumption | rfl) (by first | omega | (unfold dz_w; omega)) (by first | omega | (unfold dz_w; omega)) ?_ | refine xr_ialoado hc rfl (by first | omega | (unfold dz_w; omega)) (by first | omega | (unfold dz_w; omega)) ?_
              rw [Int.toNat_natCast]
              refine xr_bipush hc rfl ?_
              refine xr_icmp_eq hc rfl (t := 58) rfl (fun b30 => ?_) (fun b30 => ?_)
              · omega
              · refine xr_aloadn hc rfl rfl ?_
                refine xr_getfr hc rfl rfl (by first | assumption | rfl) (by first | assumption | rfl) ?_
                refine xr_iload hc rfl rfl ?_
                first | refine xr_iaload hc rfl (by first | assumption | rfl) (by first | omega | (unfold dz_w; omega)) (by first | omega | (unfold dz_w; omega)) ?_ | refine xr_ialoado hc rfl (by first | omega | (unfold dz_w; omega)) (by first | omega | (unfold dz_w; omega)) ?_
                rw [Int.toNat_natCast]
                refine xr_aloadn hc rfl rfl ?_
                refine xr_getfr hc rfl rfl (by first | assumption | rfl) (by first | assumption | rfl) ?_
                refine xr_iloadn hc rfl rfl ?_
                first | refine xr_iaload hc rfl (by first | assumption | rfl) (by first | omega | (unfold dz_w; omega)) (by first | omega | (unfold dz_w; omega)) ?_ | refine xr_ialoado hc rfl (by first | omega | (unfold dz_w; omega)) (by first | omega | (unfold dz_w; omega)) ?_
                rw [Int.toNat_natCast]
                refine xr_icmp_ne hc rfl (t := 52) rfl (fun b46 => ?_) (fun b46 => ?_)
                · refine xr_iincz4 hc rfl rfl (by first | exact dz_wid (by first | omega | (unfold dz_w; omega)) (by first | omega | (unfold dz_w; omega)) | rfl) ?_
                  refine xr_goto hc rfl (t := 15) rfl ?_
                  first
                    | (rw [ec, if_pos (by omega)] at l0
                       exact l0)
                    | (rw [ec, if_neg (by omega), Int.add_zero] at l0
                       exact l0)
                · refine xr_iincz3 hc rfl rfl (by first | exact dz_wid (by first | omega | (unfold dz_w; omega)) (by first | omega | (unfold dz_w; omega)) | rfl) ?_
                  refine xr_iincz4 hc rfl rfl (by first | exact dz_wid (by first | omega | (unfold dz_w; omega)) (by first | omega | (unfold dz_w; omega)) | rfl) ?_
                  refine xr_goto hc rfl (t := 15) rfl ?_
                  first
                    | (rw [ec, if_pos (by omega)] at l0
                       exact l0)
                    | (rw [ec, if_neg (by omega), Int.add_zero] at l0
                       exact l0)
      refine xr_iloadn hc rfl rfl ?_
      refine xr_bipush hc rfl ?_
      refine xr_icmp_ge hc rfl (t := 70) rfl (fun b7 => ?_) (fun b7 => ?_)
      · omega
      · refine xr_iconst hc rfl ?_
        refine xr_istore3 hc rfl rfl ?_
        refine xr_iconst hc rfl ?_
        refine xr_istore4 hc rfl rfl ?_
        have l0 := lq 9 0 (by omega)
        rw [show (if M 58 p = -9 then (0 : Int) else g_cnt (M 58) (M 58 p) 0) = 0 by split <;> rfl] at l0
        exact l0
  refine xr_iconst hc rfl ?_
  refine xr_istore1 hc rfl rfl ?_
  refine xr_iconst hc rfl ?_
  refine xr_istore2 hc rfl rfl ?_
  exact lp 9 0 (by omega) _ _
set_option maxRecDepth 100000 in
theorem S_beginClocks {xo : Nat → List Int} {d : Nat} {Q : dz_Q} {sh : List (Nat ⊕ (Nat × Nat))} {rf : Nat → Nat → Nat} {M : Nat → Nat → Int} {rs : Nat → Int} {it : Nat → Nat → Int} {ts : Nat → Int} {ch : Nat → Nat → Int} {tl up lo : Int} {fn : Nat → Int} {w pl : Int} {kd wt nx : Nat → Int} {n : Nat} {hs : Nat → Nat → Int} {kp : Nat → Int} {kh : Nat → Nat → Nat → Int} {i : Int} (hl : cl sh rf) (hR : RX M rs it ts ch tl up lo fn w pl kd wt nx n hs kp kh) (hW : WF rs it ts ch tl up lo fn w pl kd wt nx n hs kp kh) (hi : 0 ≤ i ∧ i < w) (hQ : ∀ M2 : Nat → Nat → Int, (∀ q2 k2, q2 ≠ 58 → M2 q2 k2 = M q2 k2) → (∀ k, k < 9 → M2 58 k = cka pl kd wt nx w (hs n) i.toNat 0 k) → Q none (sh, rf, M2)) : dz_E dz_pp xo (d + 4) 111 [dz_r 0, dz_i i] (sh, rf, M) Q := by
  refine ⟨Nat.le_of_ble_eq_true rfl, ?_⟩
  have hc := dz_E_m dz_pp xo (d + 3)
  show dz_X (dz_E dz_pp xo (d + 3)) dz_pp xo (dz_pp 111) Q 0 [some (dz_r 0), some (dz_i i), none, none] [] 0 0 (sh, rf, M)
  obtain ⟨c0, c1, c2, c3, c4, c5, c6, c7, c8, c9, c10, c11, c12, c13, c14, c15, c16, c17, c18, c19, c20, c21, c22, c23, c24, c25, c26, c27, c28, c29, c30, c31, c32, c33, c34, c35, c36⟩ := id hl
  obtain ⟨hrow, htxt, htl, hup, hlo, hfn, hdr, hkp, hrb⟩ := id hR
  obtain ⟨wrow, wtxt, wdr, wst, wkp⟩ := id hW
  have n0 : sh[23]? = some (.inl 1) := c14.2.2.2.2.1.1
  have n1 : rf 23 7 = 25 + 1 := c14.2.2.2.2.1.2.2.2.1
  have n2 : sh[25]? = some (.inr (0, 6)) := c14.2.2.2.2.1.2.2.2.2.1
  have n3 : rf 15 1 = 23 + 1 := c14.2.2.2.1
  have n4 : sh[15]? = some (.inl 0) := c14.1
  have n5 : ma_at sh rf 23 := c14.2.2.2.2.1
  have q0 : sh[34]? = some (.inl 1) := c20.1
  have q1 : rf 34 8 = 37 + 1 := c20.2.2.2.2.2.1
  have q2 : sh[37]? = some (.inr (0, 6)) := c20.2.2.2.2.2.2.1
  have q3 : sh[50]? = some (.inl 4) := c26.1
  have k0 : sh[54]? = some (.inl 2) := c28.1
  have k1 : rf 54 1 = 55 + 1 := c28.2.1
  have k2 : sh[55]? = some (.inr (0, 6)) := c28.2.2.1
  have hw6 := WF_w hW
  have hM0 : M 23 0 = w := hdr.2.1.1
  have hM1 : M 23 1 = pl := hdr.2.1.2.1
  have hsp0 : ∀ i : Nat, (i : Int) < w → M 25 i = hs n (5 + i) := fun i hi => (hdr.2.1.2.2.2.2.2.2 i hi).2.1
  have hM2 : M 23 2 = hs n 1 := hdr.2.1.2.2.1
  have lp : ∀ (m_ : Nat) (p : Nat) (N : Nat → Nat → Int) (e : Option dz_V), p + m_ = 9 → (∀ q2 k2, q2 ≠ 58 → N q2 k2 = M q2 k2) → (∀ k, k < p → N 58 k = cka pl kd wt nx w (hs n) i.toNat 0 k) → dz_X (dz_E dz_pp xo (d + 3)) dz_pp xo (dz_pp 111) Q 2 [some (dz_r 0), some (dz_i i), some (dz_i (p : Int)), e] [] 0 0 (sh, rf, N) := by
    intro m_
    induction m_ with
    | zero =>
      intro p N e hp2 h1 h2
      have ep : p = 9 := by omega
      subst ep
      refine xr_iloadn hc rfl rfl ?_
      refine xr_bipush hc rfl ?_
      refine xr_icmp_ge hc rfl (t := 74) rfl (fun b5 => ?_) (fun b5 => ?_)
      · refine xr_return hc rfl rfl (Nat.zero_le _) (Nat.zero_le _) ?_
        exact hQ N h1 h2
      · omega
    | succ m_ ih =>
      intro p N e hp2 h1 h2
      have n231 : N 23 1 = pl := by rw [h1 _ _ (by omega)]; exact hM1
      have n230 : N 23 0 = w := by rw [h1 _ _ (by omega)]; exact hM0
      have n232 : N 23 2 = hs n 1 := by rw [h1 _ _ (by omega)]; exact hM2
      have n25 : ∀ k : Nat, (k : Int) < w → N 25 k = hs n (5 + k) := fun k hk => by rw [h1 _ _ (by omega)]; exact hsp0 k hk
      have eck : cka pl kd wt nx w (hs n) i.toNat 0 p = if (p : Int) < pl ∧ mly (hs n) w i.toNat p then hs n 1 else -9 := rfl
      refine xr_iloadn hc rfl rfl ?_
      refine xr_bipush hc rfl ?_
      refine xr_icmp_ge hc rfl (t := 74) rfl (fun b5 => ?_) (fun b5 => ?_)
      · omega
      · refine xr_iloadn hc rfl rfl ?_
        refine xr_aloadn hc rfl rfl ?_
        refine xr_getfr hc rfl rfl (by first | assumption | rfl) (by first | assumption | rfl) ?_
        refine xr_getfr hc rfl rfl (by first | assumption | rfl) (by first | assumption | rfl) ?_
        refine xr_getfi hc rfl (Or.inl rfl) (by first | assumption | rfl) ?_
        rw [n231]
        refine xr_icmp_ge hc rfl (t := 41) rfl (fun b19 => ?_) (fun b19 => ?_)
        · refine xr_iconst hc rfl ?_
          refine xr_istore3 hc rfl rfl ?_
          refine xr_aloadn hc rfl rfl ?_
          refine xr_getfr hc rfl rfl (by first | assumption | rfl) (by first | assumption | rfl) ?_
          refine xr_iloadn hc rfl rfl ?_
          refine xr_iloadn hc rfl rfl ?_
          refine xr_ift hc rfl (t := 65) rfl (by simp [dz_cmp]) ?_
          refine xr_bipush hc rfl ?_
          refine xr_iastore hc rfl (by first | assumption | rfl) (by first | omega | (unfold dz_w; omega)) (by first | omega | (unfold dz_w; omega)) ?_
          rw [Int.toNat_natCast]
          refine xr_iincz2 hc rfl rfl (by first | exact dz_wid (by first | omega | (unfold dz_w; omega)) (by first | omega | (unfold dz_w; omega)) | rfl) ?_
          refine xr_goto hc rfl (t := 2) rfl ?_
          refine ih (p + 1) _ _ (by omega) (fun q2 k2 u => by rw [dz_up_ne u, h1 _ _ u]) (fun k hk => ?_)
          by_cases e : k = p
          · rw [e, dz_up_eq, eck]
            by_cases hy : (p : Int) < pl ∧ mly (hs n) w i.toNat p
            · rw [if_pos hy]
              first
                | done
                | exact absurd hy.1 (by omega)
                | exact absurd hy.2 y1
            · rw [if_neg hy]
              first
                | done
                | exact absurd (And.intro (by omega) y1) hy
          · rw [dz_up_k (by omega)]
            exact h2 k (by omega)
        · refine xr_aloadn hc rfl rfl ?_
          refine xr_getfr hc rfl rfl (by first | assumption | rfl) (by first | assumption | rfl) ?_
          refine xr_getfr hc rfl rfl (by first | assumption | rfl) (by first | assumption | rfl) ?_
          refine xr_iloadn hc rfl rfl ?_
          refine xr_iloadn hc rfl rfl ?_
          refine xr_callv2 hc rfl (by first | assumption | rfl) rfl rfl rfl (Nat.le_of_ble_eq_true rfl) (Nat.zero_le _) (Nat.zero_le _) ?_
          refine S_mly (s := hs n) n5 n230 hw6 n25 hi (fun y1 => ?_) (fun y1 => ?_)
          · refine xk_1 ?_
            refine xr_iff hc rfl (by simp [dz_cmp]) ?_
            refine xr_iconst hc rfl ?_
            refine xr_goto hc rfl (t := 42) rfl ?_
            refine xr_istore3 hc rfl rfl ?_
            refine xr_aloadn hc rfl rfl ?_
            refine xr_getfr hc rfl rfl (by first | assumption | rfl) (by first | assumption | rfl) ?_
            refine xr_iloadn hc rfl rfl ?_
            refine xr_iloadn hc rfl rfl ?_
            refine xr_iff hc rfl (by simp [dz_cmp]) ?_
            refine xr_aloadn hc rfl rfl ?_
            refine xr_getfr hc rfl rfl (by first | assumption | rfl) (by first | assumption | rfl) ?_
            refine xr_getfr hc rfl rfl (by first | assumption | rfl) (by first | assumption | rfl) ?_
            refine xr_getfi hc rfl (Or.inl rfl) (by first | assumption | rfl) ?_
            rw [n232]
            refine xr_goto hc rfl (t := 67) rfl ?_
            refine xr_iastore hc rfl (by first | assumption | rfl) (by first | omega | (unfold dz_w; omega)) (by first | omega | (unfold dz_w; omega)) ?_
            rw [Int.toNat_natCast]
            refine xr_iincz2 hc rfl rfl (by first | exact dz_wid (by first | omega | (unfold dz_w; omega)) (by first | omega | (unfold dz_w; omega)) | rfl) ?_
            refine xr_goto hc rfl (t := 2) rfl ?_
            refine ih (p + 1) _ _ (by omega) (fun q2 k2 u => by rw [dz_up_ne u, h1 _ _ u]) (fun k hk => ?_)
            by_cases e : k = p
            · rw [e, dz_up_eq, eck]
              by_cases hy : (p : Int) < pl ∧ mly (hs n) w i.toNat p
              · rw [if_pos hy]
                first
                  | done
                  | exact absurd hy.1 (by omega)
                  | exact absurd hy.2 y1
              · rw [if_neg hy]
                first
                  | done
                  | exact absurd (And.intro (by omega) y1) hy
            · rw [dz_up_k (by omega)]
              exact h2 k (by omega)
          · refine xk_1 ?_
            refine xr_ift hc rfl (t := 41) rfl (by simp [dz_cmp]) ?_
            refine xr_iconst hc rfl ?_
            refine xr_istore3 hc rfl rfl ?_
            refine xr_aloadn hc rfl rfl ?_
            refine xr_getfr hc rfl rfl (by first | assumption | rfl) (by first | assumption | rfl) ?_
            refine xr_iloadn hc rfl rfl ?_
            refine xr_iloadn hc rfl rfl ?_
            refine xr_ift hc rfl (t := 65) rfl (by simp [dz_cmp]) ?_
            refine xr_bipush hc rfl ?_
            refine xr_iastore hc rfl (by first | assumption | rfl) (by first | omega | (unfold dz_w; omega)) (by first | omega | (unfold dz_w; omega)) ?_
            rw [Int.toNat_natCast]
            refine xr_iincz2 hc rfl rfl (by first | exact dz_wid (by first | omega | (unfold dz_w; omega)) (by first | omega | (unfold dz_w; omega)) | rfl) ?_
            refine xr_goto hc rfl (t := 2) rfl ?_
            refine ih (p + 1) _ _ (by omega) (fun q2 k2 u => by rw [dz_up_ne u, h1 _ _ u]) (fun k hk => ?_)
            by_cases e : k = p
            · rw [e, dz_up_eq, eck]
              by_cases hy : (p : Int) < pl ∧ mly (hs n) w i.toNat p
              · rw [if_pos hy]
                first
                  | done
                  | exact absurd hy.1 (by omega)
                  | exact absurd hy.2 y1
              · rw [if_neg hy]
                first
                  | done
                  | exact absurd (And.intro (by omega) y1) hy
            · rw [dz_up_k (by omega)]
              exact h2 k (by omega)
  refine xr_iconst hc rfl ?_
  refine xr_istore2 hc rfl rfl ?_
  exact lp 9 0 M _ (by omega) (fun _ _ _ => rfl) (fun k hk => by omega)
set_option maxRecDepth 100000 in
theorem S_turnClocks {xo : Nat → List Int} {d : Nat} {Q : dz_Q} {sh : List (Nat ⊕ (Nat × Nat))} {rf : Nat → Nat → Nat} {M : Nat → Nat → Int} {n j K : Nat} {w pl i : Int} {kd wt nx : Nat → Int} {hs : Nat → Nat → Int} (hl : cl sh rf) (hp : pgok w pl kd wt nx) (hst : stok w pl (29 * n) (hs n)) (hn40 : n ≤ 40) (L2 : TR M pl kd wt nx K (hs n)) (f4 : K = 12 ∨ t_run pl kd wt nx K (hs n) 3 = -9) (L3 : ∀ k : Nat, (k : Int) < w → k ≠ i.toNat → M 55 k = hs n (5 + k)) (hi : 0 ≤ i ∧ i < w) (hj : j < 12) (hck0 : ∀ k, k < 9 → M 58 k = cka pl kd wt nx w (hs n) i.toNat j k) (hQ : ∀ M2 : Nat → Nat → Int, (∀ q2 k2, q2 ≠ 58 → ¬ (q2 = 55 ∧ k2 = i.toNat) → M2 q2 k2 = M q2 k2) → (∀ k, k < 9 → M2 58 k = cka pl kd wt nx w (hs n) i.toNat (j + 1) k) → Q none (sh, rf, M2)) : dz_E dz_pp xo (d + 4) 112 [dz_r 0, dz_i i, dz_i (j : Int)] (sh, rf, M) Q := by
  refine ⟨Nat.le_of_ble_eq_true rfl, ?_⟩
  have hc := dz_E_m dz_pp xo (d + 3)
  show dz_X (dz_E dz_pp xo (d + 3)) dz_pp xo (dz_pp 112) Q 0 [some (dz_r 0), some (dz_i i), some (dz_i (j : Int)), none] [] 0 0 (sh, rf, M)
  obtain ⟨c0, c1, c2, c3, c4, c5, c6, c7, c8, c9, c10, c11, c12, c13, c14, c15, c16, c17, c18, c19, c20, c21, c22, c23, c24, c25, c26, c27, c28, c29, c30, c31, c32, c33, c34, c35, c36⟩ := id hl
  have k0 : sh[54]? = some (.inl 2) := c28.1
  have k1 : rf 54 1 = 55 + 1 := c28.2.1
  have k2 : sh[55]? = some (.inr (0, 6)) := c28.2.2.1
  have q3 : sh[50]? = some (.inl 4) := c26.1
  obtain ⟨p1, p2, p3, p4, p5⟩ := id hp
  obtain ⟨st0, st1, st2, st3, st4, st5, st6, st7, st8⟩ := id hst
  have lp : ∀ (m_ : Nat) (p : Nat) (N : Nat → Nat → Int), p + m_ = 9 → (∀ q2 k2, q2 ≠ 58 → ¬ (q2 = 55 ∧ k2 = i.toNat) → N q2 k2 = M q2 k2) → (∀ k, k < p → N 58 k = cka pl kd wt nx w (hs n) i.toNat (j + 1) k) → (∀ k, p ≤ k → k < 9 → N 58 k = cka pl kd wt nx w (hs n) i.toNat j k) → dz_X (dz_E dz_pp xo (d + 3)) dz_pp xo (dz_pp 112) Q 2 [some (dz_r 0), some (dz_i i), some (dz_i (j : Int)), some (dz_i (p : Int))] [] 0 0 (sh, rf, N) := by
    intro m_
    induction m_ with
    | zero =>
      intro p N hp2 h1 h2 h3
      have ep : p = 9 := by omega
      subst ep
      refine xr_iloadn hc rfl rfl ?_
      refine xr_bipush hc rfl ?_
      refine xr_icmp_ge hc rfl (t := 62) rfl (fun b5 => ?_) (fun b5 => ?_)
      · refine xr_return hc rfl rfl (Nat.zero_le _) (Nat.zero_le _) ?_
        exact hQ N h1 h2
      · omega
    | succ m_ ih =>
      intro p N hp2 h1 h2 h3
      have hck := h3 p (by omega) (by omega)
      have hbj := t_b_in (sp := fup (fun k => hs n (5 + k)) i.toNat p) ⟨p3, p4⟩ (t_l pl kd wt nx j (hs n)) (hs n 1) (fun x hx => ((t_l_in hp j _ _ hst (by omega)).1 x hx).2)
      have eck : ∀ j, cka pl kd wt nx w (hs n) i.toNat j p = if (p : Int) < pl ∧ mly (hs n) w i.toNat p then t_b pl (fup (fun k => hs n (5 + k)) i.toNat p) (t_l pl kd wt nx j (hs n)) (hs n 1) else -9 := fun _ => rfl
      have hsp1 : ∀ k : Nat, (k : Int) < w → dz_up N 55 i.toNat p 55 k = fup (fun k => hs n (5 + k)) i.toNat p k := fun k hk => by
        rw [up_fup]
        unfold fup
        split
        · rfl
        · rw [h1 _ _ (by omega) (by omega)]
          exact L3 k hk (by omega)
      have hbc : ∀ j : Nat, j ≤ 12 → t_b pl (dz_up N 55 i.toNat p 55) (t_l pl kd wt nx j (hs n)) (hs n 1) = t_b pl (fup (fun k => hs n (5 + k)) i.toNat p) (t_l pl kd wt nx j (hs n)) (hs n 1) := fun j hj => t_b_c _ _ (fun x hx => hsp1 x.1 ((t_l_in hp j _ _ hst (by omega)).1 x hx).1)
      refine xr_iloadn hc rfl rfl ?_
      refine xr_bipush hc rfl ?_
      refine xr_icmp_ge hc rfl (t := 62) rfl (fun b5 => ?_) (fun b5 => ?_)
      · omega
      · refine xr_aloadn hc rfl rfl ?_
        refine xr_getfr hc rfl rfl (by first | assumption | rfl) (by first | assumption | rfl) ?_
        refine xr_iloadn hc rfl rfl ?_
        first | refine xr_iaload hc rfl (by first | assumption | rfl) (by first | omega | (unfold dz_w; omega)) (by first | omega | (unfold dz_w; omega)) ?_ | refine xr_ialoado hc rfl (by first | omega | (unfold dz_w; omega)) (by first | omega | (unfold dz_w; omega)) ?_
        rw [Int.toNat_natCast, hck]
        refine xr_bipush hc rfl ?_
        refine xr_icmp_eq hc rfl (t := 56) rfl (fun b16 => ?_) (fun b16 => ?_)
        · try rw [Int.toNat_natCast]
          refine xr_iincz3 hc rfl rfl (by first | exact dz_wid (by first | omega | (unfold dz_w; omega)) (by first | omega | (unfold dz_w; omega)) | rfl) ?_
          refine xr_goto hc rfl (t := 2) rfl ?_
          first
            | (have h9 : ¬ ((p : Int) < pl ∧ mly (hs n) w i.toNat p) := fun hy => by
                 rw [eck j, if_pos hy] at b16
                 have z1 := st1
                 omega
               refine ih (p + 1) N (by omega) h1 (fun k hk => ?_) (fun k hk1 hk2 => h3 k (by omega) hk2)
               by_cases e : k = p
               · rw [e, hck, eck, eck, if_neg h9, if_neg h9]
               · exact h2 k (by omega))
            | (refine ih (p + 1) _ (by omega) (fun q2 k2 u1 u2 => ?_) (fun k hk => ?_) (fun k hk1 hk2 => ?_)
               · by_cases e : q2 = 55
                 · subst e
                   rw [dz_up_ne (by omega), dz_up_k (by omega), h1 _ _ u1 u2]
                 · rw [dz_up_ne u1, dz_up_ne e, h1 _ _ u1 u2]
               · by_cases e : k = p
                 · rw [e, dz_up_eq, eck, if_pos hy]
                 · rw [dz_up_k e, dz_up_ne (by omega)]
                   exact h2 k (by omega)
               · rw [dz_up_k (by omega), dz_up_ne (by omega)]
                 exact h3 k (by omega) hk2)
        · have hy : (p : Int) < pl ∧ mly (hs n) w i.toNat p := by
            by_cases hy : (p : Int) < pl ∧ mly (hs n) w i.toNat p
            · exact hy
            · rw [eck j, if_neg hy] at b16
              exact absurd rfl b16
          rw [eck j, if_pos hy] at hck
          refine xr_aloadn hc rfl rfl ?_
          refine xr_getfr hc rfl rfl (by first | assumption | rfl) (by first | assumption | rfl) ?_
          refine xr_getfr hc rfl rfl (by first | assumption | rfl) (by first | assumption | rfl) ?_
          refine xr_iloadn hc rfl rfl ?_
          refine xr_iloadn hc rfl rfl ?_
          refine xr_iastore hc rfl (by first | assumption | rfl) (by first | omega | (unfold dz_w; omega)) (by first | omega | (unfold dz_w; omega)) ?_
          refine xr_aloadn hc rfl rfl ?_
          refine xr_getfr hc rfl rfl (by first | assumption | rfl) (by first | assumption | rfl) ?_
          refine xr_iloadn hc rfl rfl ?_
          refine xr_aloadn hc rfl rfl ?_
          refine xr_getfr hc rfl rfl (by first | assumption | rfl) (by first | assumption | rfl) ?_
          refine xr_aloadn hc rfl rfl ?_
          refine xr_getfr hc rfl rfl (by first | assumption | rfl) (by first | assumption | rfl) ?_
          refine xr_getfr hc rfl rfl (by first | assumption | rfl) (by first | assumption | rfl) ?_
          refine xr_aloadn hc rfl rfl ?_
          refine xr_getfr hc rfl rfl (by first | assumption | rfl) (by first | assumption | rfl) ?_
          refine xr_iloadn hc rfl rfl ?_
          first | refine xr_iaload hc rfl (by first | assumption | rfl) (by first | omega | (unfold dz_w; omega)) (by first | omega | (unfold dz_w; omega)) ?_ | refine xr_ialoado hc rfl (by first | omega | (unfold dz_w; omega)) (by first | omega | (unfold dz_w; omega)) ?_
          rw [Int.toNat_natCast, dz_up_ne (by omega), hck, ← hbc j (by omega)]
          refine xr_iloadn hc rfl rfl ?_
          refine xr_callv3 hc rfl (by first | assumption | rfl) rfl rfl rfl (Nat.le_of_ble_eq_true rfl) (Nat.zero_le _) (Nat.zero_le _) ?_
          refine S_beatBehind (N := 12) (b0 := hs n 1) (w := w) hp hst (by omega) c26 (TR_fr L2 (fun q k v1 v2 => by rw [dz_up_ne (by omega), h1 _ _ (by omega) (by omega)])) f4 (by omega) k2 (fun k hk => ?_) (by omega) (by omega) ?_
          · rw [hsp1 k hk]
            have z2 := st8 k hk
            unfold fup
            split
            · omega
            · show 0 ≤ hs n (5 + k) ∧ hs n (5 + k) ≤ 9
              omega
          rw [hbc (j + 1) (by omega)]
          refine xk_1 ?_
          refine xr_iastore hc rfl (by first | assumption | rfl) (by first | omega | (unfold dz_w; omega)) (by first | omega | (unfold dz_w; omega)) ?_
          try rw [Int.toNat_natCast]
          refine xr_iincz3 hc rfl rfl (by first | exact dz_wid (by first | omega | (unfold dz_w; omega)) (by first | omega | (unfold dz_w; omega)) | rfl) ?_
          refine xr_goto hc rfl (t := 2) rfl ?_
          first
            | (have h9 : ¬ ((p : Int) < pl ∧ mly (hs n) w i.toNat p) := fun hy => by
                 rw [eck j, if_pos hy] at b16
                 have z1 := st1
                 omega
               refine ih (p + 1) N (by omega) h1 (fun k hk => ?_) (fun k hk1 hk2 => h3 k (by omega) hk2)
               by_cases e : k = p
               · rw [e, hck, eck, eck, if_neg h9, if_neg h9]
               · exact h2 k (by omega))
            | (refine ih (p + 1) _ (by omega) (fun q2 k2 u1 u2 => ?_) (fun k hk => ?_) (fun k hk1 hk2 => ?_)
               · by_cases e : q2 = 55
                 · subst e
                   rw [dz_up_ne (by omega), dz_up_k (by omega), h1 _ _ u1 u2]
                 · rw [dz_up_ne u1, dz_up_ne e, h1 _ _ u1 u2]
               · by_cases e : k = p
                 · rw [e, dz_up_eq, eck, if_pos hy]
                 · rw [dz_up_k e, dz_up_ne (by omega)]
                   exact h2 k (by omega)
               · rw [dz_up_k (by omega), dz_up_ne (by omega)]
                 exact h3 k (by omega) hk2)
  refine xr_iconst hc rfl ?_
  refine xr_istore3 hc rfl rfl ?_
  exact lp 9 0 M (by omega) (fun _ _ _ _ => rfl) (fun k hk => by omega) (fun k h1 h2 => hck0 k h2)
set_option maxRecDepth 100000 in
theorem X_watch {xo : Nat → List Int} {d : Nat} {Q : dz_Q} {sh : List (Nat ⊕ (Nat × Nat))} {rf : Nat → Nat → Nat} {M : Nat → Nat → Int} {rs : Nat → Int} {it : Nat → Nat → Int} {ts : Nat → Int} {ch : Nat → Nat → Int} {tl up lo : Int} {fn : Nat → Int} {w pl : Int} {kd wt nx : Nat → Int} {n : Nat} {hs : Nat → Nat → Int} {kp : Nat → Int} {kh : Nat → Nat → Nat → Int} {i : Int} (hx : xo 2 = dz_xs2) (hl : cl sh rf) (hR : RX M rs it ts ch tl up lo fn w pl kd wt nx n hs kp kh) (hW : WF rs it ts ch tl up lo fn w pl kd wt nx n hs kp kh) (hQ : ∀ M2 : Nat → Nat → Int, (∀ q2 k2, 115 ≤ q2 → M2 q2 k2 = M q2 k2) → RX M2 rs it ts ch (o_watch tl w pl kd wt nx (hs n) i).2 up lo fn w pl kd wt nx n hs kp kh → Q (some (dz_i ((o_watch tl w pl kd wt nx (hs n) i).1))) (sh, rf, M2)) : dz_E dz_pp xo (d + 6) 83 [dz_r 0, dz_i i] (sh, rf, M) Q := by
  refine ⟨Nat.le_of_ble_eq_true rfl, ?_⟩
  have hc := dz_E_m dz_pp xo (d + 5)
  show dz_X (dz_E dz_pp xo (d + 5)) dz_pp xo (dz_pp 83) Q 0 [some (dz_r 0), some (dz_i i), none, none, none, none] [] 0 0 (sh, rf, M)
  obtain ⟨c0, c1, c2, c3, c4, c5, c6, c7, c8, c9, c10, c11, c12, c13, c14, c15, c16, c17, c18, c19, c20, c21, c22, c23, c24, c25, c26, c27, c28, c29, c30, c31, c32, c33, c34, c35, c36⟩ := id hl
  obtain ⟨hrow, htxt, htl, hup, hlo, hfn, hdr, hkp, hrb⟩ := id hR
  obtain ⟨wrow, wtxt, wdr, wst, wkp⟩ := id hW
  have n0 : sh[23]? = some (.inl 1) := c14.2.2.2.2.1.1
  have n1 : rf 23 7 = 25 + 1 := c14.2.2.2.2.1.2.2.2.1
  have n2 : sh[25]? = some (.inr (0, 6)) := c14.2.2.2.2.1.2.2.2.2.1
  have n3 : rf 15 1 = 23 + 1 := c14.2.2.2.1
  have n4 : sh[15]? = some (.inl 0) := c14.1
  have n5 : ma_at sh rf 23 := c14.2.2.2.2.1
  have q0 : sh[34]? = some (.inl 1) := c20.1
  have q1 : rf 34 8 = 37 + 1 := c20.2.2.2.2.2.1
  have q2 : sh[37]? = some (.inr (0, 6)) := c20.2.2.2.2.2.2.1
  have q3 : sh[50]? = some (.inl 4) := c26.1
  have k0 : sh[54]? = some (.inl 2) := c28.1
  have k1 : rf 54 1 = 55 + 1 := c28.2.1
  have k2 : sh[55]? = some (.inr (0, 6)) := c28.2.2.1
  have hw6 := WF_w hW
  have hM0 : M 23 0 = w := hdr.2.1.1
  have hM1 : M 23 1 = pl := hdr.2.1.2.1
  have hsp0 : ∀ i : Nat, (i : Int) < w → M 25 i = hs n (5 + i) := fun i hi => (hdr.2.1.2.2.2.2.2.2 i hi).2.1
  refine xr_aloadn hc rfl rfl ?_
  refine xr_getfr hc rfl rfl (by first | assumption | rfl) (by first | assumption | rfl) ?_
  refine xr_getfr hc rfl rfl (by first | assumption | rfl) (by first | assumption | rfl) ?_
  refine xr_iloadn hc rfl rfl ?_
  refine xr_callv1 hc rfl (by first | assumption | rfl) rfl rfl rfl (Nat.le_of_ble_eq_true rfl) (Nat.zero_le _) (Nat.zero_le _) ?_
  refine S_has n5 (by rw [hM0]; exact hw6) (fun u1 v1 => ?_) (fun u1 => ?_)
  all_goals try rw [hM0] at u1
  all_goals try rw [hM0] at v1
  · refine xk_1 ?_
    refine xr_ift hc rfl (t := 16) rfl (by simp [dz_cmp]) ?_
    refine xr_aloadn hc rfl rfl ?_
    refine xr_bipush hc rfl ?_
    refine xr_callv1 hc rfl (by first | assumption | rfl) rfl rfl rfl (Nat.le_of_ble_eq_true rfl) (Nat.zero_le _) (Nat.zero_le _) ?_
    have hw0 : w ≠ 0 := by omega
    have hp := WF_p hW hw0
    have hst := wst.2 n (Nat.le_refl n)
    obtain ⟨p1, p2, p3, p4, p5⟩ := id hp
    obtain ⟨st0, st1, st2, st3, st4, st5, st6, st7, st8⟩ := id hst
    refine S_followSteps hx hl hR hW hw0 (by omega) (fun M1 K f1 f2 f3 f4 f5 f6 => ?_)
    refine xk_0 ?_
    refine xr_aloadn hc rfl rfl ?_
    refine xr_getfr hc rfl rfl (by first | assumption | rfl) (by first | assumption | rfl) ?_
    refine xr_aloadn hc rfl rfl ?_
    refine xr_getfr hc rfl rfl (by first | assumption | rfl) (by first | assumption | rfl) ?_
    refine xr_getfr hc rfl rfl (by first | assumption | rfl) (by first | assumption | rfl) ?_
    refine xr_callv1 hc rfl (by first | assumption | rfl) rfl rfl rfl (Nat.le_of_ble_eq_true rfl) (Nat.zero_le _) (Nat.zero_le _) ?_
    refine S_pbegin hl (fun M2 g1 g2 g3 g4 => ?_)
    have L1 : ∀ q2 k2, ¬ (34 ≤ q2 ∧ q2 ≤ 40) → ¬ (50 ≤ q2 ∧ q2 ≤ 55) → M2 q2 k2 = M q2 k2 := fun q2 k2 v1 v2 => by rw [g1 _ _ (by omega) (by omega), f1 _ _ (by omega) (by omega)]
    have L2 := TR_fr f3 (M2 := M2) (fun q k v1 v2 => g1 _ _ (by omega) (by omega))
    have L3 : ∀ i : Nat, (i : Int) < w → M2 55 i = hs n (5 + i) := fun i hi => by rw [g4 i (by omega), f1 _ _ (by omega) (by omega)]; exact hsp0 i hi
    have LR : scX M M2 := ⟨fun q2 k2 u => L1 _ _ (by omega) (by omega), fun q2 k2 u => by
      rcases u with ⟨a, b⟩ | u
      · rw [a, b, g1 _ _ (by omega) (by omega), f2.2.2.2.2.2.2.2.2.1, hrb.1]
      · exact L1 _ _ (by omega) (by omega)⟩
    have g5 : M2 54 5 = w := by rw [g2, f1 _ _ (by omega) (by omega), hM0]
    have g6 : M2 54 6 = pl := by rw [g3, f1 _ _ (by omega) (by omega), hM1]
    have lp : ∀ (m_ : Nat) (j : Nat) (N : Nat → Nat → Int) (e : Option dz_V), j + m_ = 12 → (∀ q2 k2, q2 ≠ 58 → ¬ (q2 = 55 ∧ k2 = i.toNat) → N q2 k2 = M2 q2 k2) → (∀ k, k < 9 → N 58 k = cka pl kd wt nx w (hs n) i.toNat j k) → dz_X (dz_E dz_pp xo (d + 5)) dz_pp xo (dz_pp 83) Q 50 [some (dz_r 0), some (dz_i i), some (dz_i (t_wt (fun m => g_max (ccl pl kd wt nx w (hs n) i.toNat m) pl.toNat pl.toNat) 1000000 j).1), some (dz_i (t_wt (fun m => g_max (ccl pl kd wt nx w (hs n) i.toNat m) pl.toNat pl.toNat) 1000000 j).2), some (dz_i (j : Int)), e] [] 0 0 (sh, rf, N) := by
      intro m_
      induction m_ with
      | zero =>
        intro j N e hj h1 h2
        have ej : j = 12 := by omega
        subst ej
        refine xr_iload hc rfl rfl ?_
        refine xr_bipush hc rfl ?_
        refine xr_icmp_ge hc rfl (t := 90) rfl (fun b54 => ?_) (fun b54 => ?_)
        · refine xr_aloadn hc rfl rfl ?_
          refine xr_iloadn hc rfl rfl ?_
          refine xr_putfi hc rfl rfl (by first | assumption | rfl) ?_
          refine xr_iloadn hc rfl rfl ?_
          refine xr_ireturn hc rfl rfl (Nat.zero_le _) (Nat.zero_le _) ?_
          have hG : ∀ k, (fun m => g_max (ccl pl kd wt nx w (hs n) i.toNat m) pl.toNat pl.toNat) k < 1000000 ∧ (fun m => g_max (ccl pl kd wt nx w (hs n) i.toNat m) pl.toNat pl.toNat) k < 99999 := fun k => by
            have z := g_max_in (ccl pl kd wt nx w (hs n) i.toNat k) pl.toNat pl.toNat
            show g_max _ _ _ < 1000000 ∧ g_max _ _ _ < 99999
            omega
          rw [t_wt_two hG 11]
          simp only [o_watch] at hQ
          rw [if_neg (by omega)] at hQ
          have hRN := RX_scr hR (scX_trans LR (⟨fun q2 k2 u => h1 _ _ (by omega) (by omega), fun q2 k2 u => h1 _ _ (by omega) (by omega)⟩ : scX M2 N))
          obtain ⟨hrow, htxt, htl, hup, hlo, hfn, hdr, hkp, hrb⟩ := id hRN
          refine hQ _ (fun q2 k2 u => by rw [dz_up_ne (by omega), h1 _ _ (by omega) (by omega), L1 _ _ (by omega) (by omega)]) ⟨rowX_fr hrow (fun q2 k2 u1 u2 => by first | rw [dz_up_ne (by omega)] | rw [dz_up_k (by omega)]), txtX_fr htxt (fun q2 k2 u1 u2 => by first | rw [dz_up_ne (by omega)] | rw [dz_up_k (by omega)]), by rw [dz_up_eq], Eq.trans (by first | rw [dz_up_ne (by omega)] | rw [dz_up_k (by omega)]) hup, Eq.trans (by first | rw [dz_up_ne (by omega)] | rw [dz_up_k (by omega)]) hlo, fndX_fr hfn (by first | rw [dz_up_ne (by omega)] | rw [dz_up_k (by omega)]) (fun k2 => by first | rw [dz_up_ne (by omega)] | rw [dz_up_k (by omega)]), drX_fr hdr (fun q2 k2 u1 u2 => by first | rw [dz_up_ne (by omega)] | rw [dz_up_k (by omega)]), kepX_fr hkp (fun q2 k2 u1 u2 => by first | rw [dz_up_ne (by omega)] | rw [dz_up_k (by omega)]), rbX_fr hrb (fun q2 k2 u1 => by first | rw [dz_up_ne (by omega)] | rw [dz_up_k (by omega)])⟩
        · omega
      | succ m_ ih =>
        intro j N e hj h1 h2
        have et : t_wt (fun m => g_max (ccl pl kd wt nx w (hs n) i.toNat m) pl.toNat pl.toNat) 1000000 (j + 1) = if (fun m => g_max (ccl pl kd wt nx w (hs n) i.toNat m) pl.toNat pl.toNat) (j + 1) < (t_wt (fun m => g_max (ccl pl kd wt nx w (hs n) i.toNat m) pl.toNat pl.toNat) 1000000 j).2 then (((j + 1 : Nat) : Int), (fun m => g_max (ccl pl kd wt nx w (hs n) i.toNat m) pl.toNat pl.toNat) (j + 1)) else (t_wt (fun m => g_max (ccl pl kd wt nx w (hs n) i.toNat m) pl.toNat pl.toNat) 1000000 j) := rfl
        have hgi := g_max_in (ccl pl kd wt nx w (hs n) i.toNat (j + 1)) pl.toNat pl.toNat
        refine xr_iload hc rfl rfl ?_
        refine xr_bipush hc rfl ?_
        refine xr_icmp_ge hc rfl (t := 90) rfl (fun b54 => ?_) (fun b54 => ?_)
        · omega
        · refine xr_aloadn hc rfl rfl ?_
          refine xr_iloadn hc rfl rfl ?_
          refine xr_iload hc rfl rfl ?_
          refine xr_callv2 hc rfl (by first | assumption | rfl) rfl rfl rfl (Nat.le_of_ble_eq_true rfl) (Nat.zero_le _) (Nat.zero_le _) ?_
          refine S_turnClocks (w := w) (pl := pl) (kd := kd) (wt := wt) (nx := nx) (hs := hs) (n := n) hl hp hst (by omega) (TR_fr L2 (fun q k v1 v2 => h1 _ _ (by omega) (by omega))) f4 (fun k hk hk2 => by rw [h1 _ _ (by omega) (by omega)]; exact L3 k hk) (by omega) (by omega) h2 (fun N2 a1 a2 => ?_)
          have h1b : ∀ q2 k2, q2 ≠ 58 → ¬ (q2 = 55 ∧ k2 = i.toNat) → N2 q2 k2 = M2 q2 k2 := fun q2 k2 v1 v2 => by rw [a1 _ _ v1 v2, h1 _ _ v1 v2]
          refine xk_0 ?_
          refine xr_aloadn hc rfl rfl ?_
          refine xr_callv0 hc rfl (by first | assumption | rfl) rfl rfl rfl (Nat.le_of_ble_eq_true rfl) (Nat.zero_le _) (Nat.zero_le _) ?_
          refine S_greatestPart hl ?_
          have eg : g_max (N2 58) 9 9 = g_max (ccl pl kd wt nx w (hs n) i.toNat (j + 1)) pl.toNat pl.toNat := by
            rw [← g_two hp hst (by omega)]
            refine g_max_c 9 (fun k hk => ?_)
            rw [a2 k hk]
            exact ⟨Iff.rfl, fun _ => g_cnt_c 9 (fun q hq => by rw [a2 q hq])⟩
          rw [eg]
          refine xk_1 ?_
          refine xr_istore5 hc rfl rfl ?_
          refine xr_iload hc rfl rfl ?_
          refine xr_iloadn hc rfl rfl ?_
          refine xr_icmp_ge hc rfl (t := 84) rfl (fun b73 => ?_) (fun b73 => ?_)
          · refine xr_iincz4 hc rfl rfl (by first | exact dz_wid (by first | omega | (unfold dz_w; omega)) (by first | omega | (unfold dz_w; omega)) | rfl) ?_
            refine xr_goto hc rfl (t := 50) rfl ?_
            first
              | (rw [if_pos (show (fun m => g_max (ccl pl kd wt nx w (hs n) i.toNat m) pl.toNat pl.toNat) (j + 1) < (t_wt (fun m => g_max (ccl pl kd wt nx w (hs n) i.toNat m) pl.toNat pl.toNat) 1000000 j).2 by assumption)] at et
                 have e1 := congrArg Prod.fst et
                 have e2 := congrArg Prod.snd et
                 dsimp only at e1 e2
                 have l0 := ih (j + 1) N2 (some (dz_i (g_max (ccl pl kd wt nx w (hs n) i.toNat (j + 1)) pl.toNat pl.toNat))) (by omega) h1b a2
                 rw [e1, e2] at l0
                 exact l0)
              | (rw [if_neg (show ¬ (fun m => g_max (ccl pl kd wt nx w (hs n) i.toNat m) pl.toNat pl.toNat) (j + 1) < (t_wt (fun m => g_max (ccl pl kd wt nx w (hs n) i.toNat m) pl.toNat pl.toNat) 1000000 j).2 by show ¬ (g_max _ _ _ < _); omega)] at et
                 rw [← et]
                 exact ih (j + 1) N2 _ (by omega) h1b a2)
          · refine xr_iload hc rfl rfl ?_
            refine xr_iconst hc rfl ?_
            refine xr_iaddz hc rfl (by first | exact dz_wid (by first | omega | (unfold dz_w; omega)) (by first | omega | (unfold dz_w; omega)) | rfl) ?_
            refine xr_istore2 hc rfl rfl ?_
            refine xr_iload hc rfl rfl ?_
            refine xr_istore3 hc rfl rfl ?_
            refine xr_iincz4 hc rfl rfl (by first | exact dz_wid (by first | omega | (unfold dz_w; omega)) (by first | omega | (unfold dz_w; omega)) | rfl) ?_
            refine xr_goto hc rfl (t := 50) rfl ?_
            first
              | (rw [if_pos (show (fun m => g_max (ccl pl kd wt nx w (hs n) i.toNat m) pl.toNat pl.toNat) (j + 1) < (t_wt (fun m => g_max (ccl pl kd wt nx w (hs n) i.toNat m) pl.toNat pl.toNat) 1000000 j).2 by assumption)] at et
                 have e1 := congrArg Prod.fst et
                 have e2 := congrArg Prod.snd et
                 dsimp only at e1 e2
                 have l0 := ih (j + 1) N2 (some (dz_i (g_max (ccl pl kd wt nx w (hs n) i.toNat (j + 1)) pl.toNat pl.toNat))) (by omega) h1b a2
                 rw [e1, e2] at l0
                 exact l0)
              | (rw [if_neg (show ¬ (fun m => g_max (ccl pl kd wt nx w (hs n) i.toNat m) pl.toNat pl.toNat) (j + 1) < (t_wt (fun m => g_max (ccl pl kd wt nx w (hs n) i.toNat m) pl.toNat pl.toNat) 1000000 j).2 by show ¬ (g_max _ _ _ < _); omega)] at et
                 rw [← et]
                 exact ih (j + 1) N2 _ (by omega) h1b a2)
    refine xk_0 ?_
    refine xr_aloadn hc rfl rfl ?_
    refine xr_iloadn hc rfl rfl ?_
    refine xr_callv1 hc rfl (by first | assumption | rfl) rfl rfl rfl (Nat.le_of_ble_eq_true rfl) (Nat.zero_le _) (Nat.zero_le _) ?_
    refine S_beginClocks hl (RX_scr hR LR) hW (by omega) (fun M3 a1 a2 => ?_)
    refine xk_0 ?_
    refine xr_bipush hc rfl ?_
    refine xr_istore2 hc rfl rfl ?_
    refine xr_ldc hc rfl ?_
    refine xr_istore3 hc rfl rfl ?_
    refine xr_iconst hc rfl ?_
    refine xr_istore4 hc rfl rfl ?_
    exact lp 12 0 M3 none (by omega) (fun q2 k2 v1 v2 => a1 _ _ v1) a2
  · refine xk_1 ?_
    refine xr_iff hc rfl (by simp [dz_cmp]) ?_
    refine xr_iconst hc rfl ?_
    refine xr_ireturn hc rfl rfl (Nat.zero_le _) (Nat.zero_le _) ?_
    simp only [o_watch] at hQ
    repeat (first | rw [if_pos (by omega)] at hQ | rw [if_neg (by omega)] at hQ)
    try dsimp only at hQ
    exact hQ M (fun _ _ _ => rfl) hR
