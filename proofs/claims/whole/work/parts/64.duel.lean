/-! By turns: the class. Written by l2_64.py. -/
def bst (lg : Bool) (a b : Int) : Int := if lg = true then max a b else min a b
def vdf (f : (Nat → Int) → Int) (lg : Bool) (W : Nat) (sp : Nat → Int) : Nat → Int
  | 0 => f sp
  | k + 1 => if k / W < k % W then bst lg (vdf f lg W sp k) (f (swp sp (k / W) (k % W))) else vdf f lg W sp k
/-- what comes of n turns -/
def vd (pl : Int) (kd wt nx : Nat → Int) (W : Nat) (s : Nat → Int) : Nat → Bool → (Nat → Int) → Int
  | 0, _, sp => t_at pl kd wt nx sp 8 s
  | n + 1, lg, sp => vdf (vd pl kd wt nx W s n (!lg)) lg W sp (W * W)
theorem vdf_skip {f : (Nat → Int) → Int} {lg : Bool} {W i : Nat} {sp : Nat → Int} (hi : i < W) : ∀ j, j ≤ i + 1 → vdf f lg W sp (i * W + j) = vdf f lg W sp (i * W)
  | 0, _ => rfl
  | j + 1, hj => by
    have ih := vdf_skip (f := f) (lg := lg) (sp := sp) hi j (by omega)
    have hd := dvm (W := W) (i := i) (j := j) (by omega)
    show (if (i * W + j) / W < (i * W + j) % W then _ else _) = _
    rw [if_neg (fun z => by rw [hd.1, hd.2] at z; omega)]
    exact ih
theorem vdf_mono {f : (Nat → Int) → Int} {W k : Nat} {sp : Nat → Int} : ∀ m, vdf f true W sp k ≤ vdf f true W sp (k + m) ∧ vdf f false W sp (k + m) ≤ vdf f false W sp k
  | 0 => ⟨Int.le_refl _, Int.le_refl _⟩
  | m + 1 => by
    have ih := vdf_mono (f := f) (W := W) (k := k) (sp := sp) m
    have e1 : ∀ lg, vdf f lg W sp (k + (m + 1)) = if (k + m) / W < (k + m) % W then bst lg (vdf f lg W sp (k + m)) (f (swp sp ((k + m) / W) ((k + m) % W))) else vdf f lg W sp (k + m) := fun _ => rfl
    rw [e1, e1]
    by_cases e : (k + m) / W < (k + m) % W
    · rw [if_pos e, if_pos e]
      show _ ≤ max _ _ ∧ min _ _ ≤ _
      exact ⟨Int.le_trans ih.1 (Int.le_max_left _ _), Int.le_trans (Int.min_le_left _ _) ih.2⟩
    · rw [if_neg e, if_neg e]
      exact ih
/-- told exactly only between low and high -/
def AB (r v lo hi : Int) : Prop := (lo < r → r < hi → r = v) ∧ (r ≤ lo → v ≤ r) ∧ (hi ≤ r → r ≤ v)
theorem AB_max {b w v r lo hi : Int} (h : lo < hi) (h1 : AB b w lo hi) (h2 : max lo b < hi) (h3 : AB r v (max lo b) hi) : AB (max b r) (max w v) lo hi := by
  unfold AB at *
  omega
theorem AB_min {b w v r lo hi : Int} (h : lo < hi) (h1 : AB b w lo hi) (h2 : lo < min hi b) (h3 : AB r v lo (min hi b)) : AB (min b r) (min w v) lo hi := by
  unfold AB at *
  omega
theorem vdf_in {f : (Nat → Int) → Int} {lg : Bool} {W : Nat} {sp : Nat → Int} {A B : Int} (h : ∀ sp, A ≤ f sp ∧ f sp ≤ B) : ∀ k, A ≤ vdf f lg W sp k ∧ vdf f lg W sp k ≤ B
  | 0 => h sp
  | k + 1 => by
    have ih := vdf_in (lg := lg) (W := W) (sp := sp) h k
    have h2 := h (swp sp (k / W) (k % W))
    unfold vdf bst
    split
    · split <;> omega
    · exact ih
theorem vd_in {w pl B : Int} {kd wt nx s : Nat → Int} {W : Nat} (hp : pgok w pl kd wt nx) (hs : stok w pl B s) (hB : B ≤ 900000) : ∀ (n : Nat) (lg : Bool) (sp : Nat → Int), 0 ≤ vd pl kd wt nx W s n lg sp ∧ vd pl kd wt nx W s n lg sp ≤ 320
  | 0, lg, sp => by
    have h := t_at_in (sp := sp) (m := 8) hp hs (by omega)
    exact ⟨h.1, h.2⟩
  | n + 1, lg, sp => vdf_in (fun sp2 => vd_in hp hs hB n (!lg) sp2) _
def o_duel (w pl : Int) (kd wt nx s : Nat → Int) (m : Int) : Int := if m < 0 ∨ 3 < m then -1 else if w = 0 then -4 else vd pl kd wt nx w.toNat s m.toNat true (fun k => s (5 + k))
theorem vdf_c {f : (Nat → Int) → Int} {lg : Bool} {W : Nat} {w : Int} {sp sp2 : Nat → Int} (hW : W = w.toNat) (hf : ∀ a b : Nat → Int, (∀ k : Nat, (k : Int) < w → a k = b k) → f a = f b) (h : ∀ k : Nat, (k : Int) < w → sp k = sp2 k) : ∀ k, k ≤ W * W → vdf f lg W sp k = vdf f lg W sp2 k
  | 0, _ => hf sp sp2 h
  | k + 1, hk => by
    have ih := vdf_c (lg := lg) hW hf h k (by omega)
    unfold vdf
    rw [ih]
    by_cases e : k / W < k % W
    · rw [if_pos e, if_pos e]
      have h0 : 0 < W := by
        rcases Nat.eq_zero_or_pos W with z | z
        · rw [z] at hk
          omega
        · exact z
      have h1 : k / W < W := Nat.div_lt_of_lt_mul (by omega)
      have h2 : k % W < W := Nat.mod_lt _ h0
      rw [hf (swp sp (k / W) (k % W)) (swp sp2 (k / W) (k % W)) (fun x hx => by
        unfold swp
        split
        · exact h _ (by omega)
        · split
          · exact h _ (by omega)
          · exact h x hx)]
    · rw [if_neg e, if_neg e]
theorem vd_c {w pl B : Int} {kd wt nx s : Nat → Int} (hp : pgok w pl kd wt nx) (hs : stok w pl B s) (hB : B ≤ 900000) : ∀ (n : Nat) (lg : Bool) (sp sp2 : Nat → Int), (∀ k : Nat, (k : Int) < w → sp k = sp2 k) → vd pl kd wt nx w.toNat s n lg sp = vd pl kd wt nx w.toNat s n lg sp2
  | 0, lg, sp, sp2, h => t_at_c hp hs (by omega) h
  | n + 1, lg, sp, sp2, h => vdf_c rfl (fun a b hab => vd_c hp hs hB n (!lg) a b hab) h _ (Nat.le_refl _)
set_option maxRecDepth 100000 in
theorem S_play {xo : Nat → List Int} {d : Nat} {sh : List (Nat ⊕ (Nat × Nat))} {rf : Nat → Nat → Nat} {w pl B : Int} {kd wt nx s : Nat → Int} {K : Nat} (hl : cl sh rf) (hp : pgok w pl kd wt nx) (hs : stok w pl B s) (hB : B ≤ 900000) (hN : K = 8 ∨ t_run pl kd wt nx K s 3 = -9) : ∀ (n : Nat), n ≤ 10 → ∀ (Q : dz_Q) (M : Nat → Nat → Int) (lg : Bool) (lo hi : Int), TR M pl kd wt nx K s → M 54 5 = w → (∀ i : Nat, (i : Int) < w → 0 ≤ M 55 i ∧ M 55 i ≤ 9) → lo < hi → -1000000 ≤ lo → hi ≤ 1000000 → (∀ r, AB r (vd pl kd wt nx w.toNat s n lg (M 55)) lo hi → Q (some (dz_i r)) (sh, rf, M)) → dz_E dz_pp xo (d + n + 5) 35 [dz_r 54, dz_i (n : Int), dz_i (if lg = true then 1 else 0), dz_i lo, dz_i hi] (sh, rf, M) Q := by
  obtain ⟨c0, c1, c2, c3, c4, c5, c6, c7, c8, c9, c10, c11, c12, c13, c14, c15, c16, c17, c18, c19, c20, c21, c22, c23, c24, c25, c26, c27, c28, c29, c30, c31, c32, c33, c34, c35, c36⟩ := id hl
  have k0 : sh[54]? = some (.inl 2) := c28.1
  have k1 : rf 54 1 = 55 + 1 := c28.2.1
  have k2 : sh[55]? = some (.inr (0, 6)) := c28.2.2.1
  have k3 : rf 54 2 = 56 + 1 := c28.2.2.2.1
  have k4 : sh[56]? = some (.inr (0, 6)) := c28.2.2.2.2.1
  have k5 : rf 54 3 = 57 + 1 := c28.2.2.2.2.2.1
  have k6 : sh[57]? = some (.inr (0, 6)) := c28.2.2.2.2.2.2
  have k7 : rf 54 0 = 50 + 1 := c29
  have ht := c26
  have q3 : sh[50]? = some (.inl 4) := c26.1
  obtain ⟨p1, p2, p3, p4, p5⟩ := id hp
  intro n
  induction n with
  | zero =>
    intro hn10 Q M lg lo hi hT h5 hsp h1 h2 h3 hQ
    refine ⟨Nat.le_of_ble_eq_true rfl, ?_⟩
    have hc := dz_E_m dz_pp xo (d + 0 + 4)
    show dz_X (dz_E dz_pp xo (d + 0 + 4)) dz_pp xo (dz_pp 35) Q 0 [some (dz_r 54), some (dz_i ((0 : Nat) : Int)), some (dz_i (if lg = true then 1 else 0)), some (dz_i lo), some (dz_i hi), none, none, none, none, none, none] [] 0 0 (sh, rf, M)
    refine xr_iloadn hc rfl rfl ?_
    refine xr_if_gt hc rfl (t := 18) rfl (fun b1 => ?_) (fun b1 => ?_)
    · exfalso
      omega
    · refine xr_aloadn hc rfl rfl ?_
      refine xr_getfr hc rfl rfl (by first | assumption | rfl) (by first | assumption | rfl) ?_
      refine xr_aloadn hc rfl rfl ?_
      refine xr_getfr hc rfl rfl (by first | assumption | rfl) (by first | assumption | rfl) ?_
      refine xr_bipush hc rfl ?_
      refine xr_callv2 hc rfl (by first | assumption | rfl) rfl rfl rfl (Nat.le_of_ble_eq_true rfl) (Nat.zero_le _) (Nat.zero_le _) ?_
      refine S_beatsAt (N := 8) (sp := M 55) hp hs hB ht hT hN (by omega) k2 hsp (fun i hi => rfl) (by omega) ?_
      refine xk_1 ?_
      refine xr_ireturn hc rfl rfl (Nat.zero_le _) (Nat.zero_le _) ?_
      exact hQ _ ⟨fun _ _ => rfl, fun _ => Int.le_refl _, fun _ => Int.le_refl _⟩
  | succ n ihn =>
    intro hn10 Q M lg lo hi hT h5 hsp h1 h2 h3 hQ
    refine ⟨Nat.le_of_ble_eq_true rfl, ?_⟩
    have hc := dz_E_m dz_pp xo (d + n + 5)
    have en : ((n + 1 : Nat) : Int) - 1 = (n : Int) := by omega
    show dz_X (dz_E dz_pp xo (d + n + 5)) dz_pp xo (dz_pp 35) Q 0 [some (dz_r 54), some (dz_i ((n + 1 : Nat) : Int)), some (dz_i (if lg = true then 1 else 0)), some (dz_i lo), some (dz_i hi), none, none, none, none, none, none] [] 0 0 (sh, rf, M)
    cases lg with
    | true =>
      have ihN : ∀ (Q : dz_Q) (M : Nat → Nat → Int) (lo hi : Int), TR M pl kd wt nx K s → M 54 5 = w → (∀ i : Nat, (i : Int) < w → 0 ≤ M 55 i ∧ M 55 i ≤ 9) → lo < hi → -1000000 ≤ lo → hi ≤ 1000000 → (∀ r, AB r (vd pl kd wt nx w.toNat s n false (M 55)) lo hi → Q (some (dz_i r)) (sh, rf, M)) → dz_E dz_pp xo (d + n + 5) 35 [dz_r 54, dz_i (n : Int), dz_i 0, dz_i lo, dz_i hi] (sh, rf, M) Q := fun Q M lo hi => by
        have z := ihn (by omega) Q M false lo hi
        rw [if_neg (by decide)] at z
        exact z
      have hQ : ∀ r, AB r (vd pl kd wt nx w.toNat s (n + 1) true (M 55)) lo hi → Q (some (dz_i r)) (sh, rf, M) := hQ
      show dz_X (dz_E dz_pp xo (d + n + 5)) dz_pp xo (dz_pp 35) Q 0 [some (dz_r 54), some (dz_i ((n + 1 : Nat) : Int)), some (dz_i 1), some (dz_i lo), some (dz_i hi), none, none, none, none, none, none] [] 0 0 (sh, rf, M)
      have lp : ∀ (m_ i : Nat) (b : Int) (e7 e8 e9 e10 : Option dz_V), (i : Int) + m_ = w → AB b ((vdf (vd pl kd wt nx w.toNat s n false) true w.toNat (M 55)) (i * w.toNat)) lo hi → dz_X (dz_E dz_pp xo (d + n + 5)) dz_pp xo (dz_pp 35) Q 42 [some (dz_r 54), some (dz_i ((n + 1 : Nat) : Int)), some (dz_i 1), some (dz_i lo), some (dz_i hi), some (dz_i b), some (dz_i (i : Int)), e7, e8, e9, e10] [] 0 0 (sh, rf, M) := by
        intro m_
        induction m_ with
        | zero =>
          intro i b e7 e8 e9 e10 hi2 hb
          refine xr_iload hc rfl rfl ?_
          refine xr_aloadn hc rfl rfl ?_
          refine xr_getfi hc rfl (Or.inl rfl) (by first | assumption | rfl) ?_
          rw [h5]
          refine xr_icmp_ge hc rfl (t := 189) rfl (fun b48 => ?_) (fun b48 => ?_)
          · refine xr_iload hc rfl rfl ?_
            refine xr_ireturn hc rfl rfl (Nat.zero_le _) (Nat.zero_le _) ?_
            have ei : i = w.toNat := by omega
            subst ei
            exact hQ b hb
          · omega
        | succ m_ IH =>
          intro i b e7 e8 e9 e10 hi2 hb
          have lq : ∀ (m2 j : Nat) (b : Int) (e8 e9 e10 : Option dz_V), (j : Int) + m2 = w → i < j → AB b ((vdf (vd pl kd wt nx w.toNat s n false) true w.toNat (M 55)) (i * w.toNat + j)) lo hi → dz_X (dz_E dz_pp xo (d + n + 5)) dz_pp xo (dz_pp 35) Q 57 [some (dz_r 54), some (dz_i ((n + 1 : Nat) : Int)), some (dz_i 1), some (dz_i lo), some (dz_i hi), some (dz_i b), some (dz_i (i : Int)), some (dz_i (j : Int)), e8, e9, e10] [] 0 0 (sh, rf, M) := by
            intro m2
            induction m2 with
            | zero =>
              intro j b e8 e9 e10 hj hij hb
              have ej : j = w.toNat := by omega
              subst ej
              rw [show i * w.toNat + w.toNat = (i + 1) * w.toNat by rw [Nat.add_mul, Nat.one_mul]] at hb
              refine xr_iload hc rfl rfl ?_
              refine xr_aloadn hc rfl rfl ?_
              refine xr_getfi hc rfl (Or.inl rfl) (by first | assumption | rfl) ?_
              rw [h5]
              refine xr_icmp_ge hc rfl (t := 183) rfl (fun b63 => ?_) (fun b63 => ?_)
              · refine xr_iincz6 hc rfl rfl (by first | exact dz_wid (by first | omega | (unfold dz_w; omega)) (by first | omega | (unfold dz_w; omega)) | rfl) ?_
                refine xr_goto hc rfl (t := 42) rfl ?_
                exact IH (i + 1) b _ _ _ _ (by omega) hb
              · omega
            | succ m2 ih2 =>
              intro j b e8 e9 e10 hj hij hb
              have hd := dvm (W := w.toNat) (i := i) (j := j) (by omega)
              have et : (vdf (vd pl kd wt nx w.toNat s n false) true w.toNat (M 55)) (i * w.toNat + j + 1) = if (i * w.toNat + j) / w.toNat < (i * w.toNat + j) % w.toNat then bst true ((vdf (vd pl kd wt nx w.toNat s n false) true w.toNat (M 55)) (i * w.toNat + j)) (vd pl kd wt nx w.toNat s n false (swp (M 55) ((i * w.toNat + j) / w.toNat) ((i * w.toNat + j) % w.toNat))) else (vdf (vd pl kd wt nx w.toNat s n false) true w.toNat (M 55)) (i * w.toNat + j) := rfl
              rw [hd.1, hd.2] at et
              have ex : i * w.toNat + j + 1 = i * w.toNat + (j + 1) := by omega
              refine xr_iload hc rfl rfl ?_
              refine xr_aloadn hc rfl rfl ?_
              refine xr_getfi hc rfl (Or.inl rfl) (by first | assumption | rfl) ?_
              rw [h5]
              refine xr_icmp_ge hc rfl (t := 183) rfl (fun b63 => ?_) (fun b63 => ?_)
              · omega
              · refine xr_iloadn hc rfl rfl ?_
                refine xr_iff hc rfl (by simp [dz_cmp]) ?_
                refine xr_iloadn hc rfl rfl ?_
                refine xr_iload hc rfl rfl ?_
                refine xr_calls2 hc rfl (by decide) rfl rfl rfl (Nat.le_of_ble_eq_true rfl) (Nat.zero_le _) (Nat.zero_le _) ?_
                refine S_max ?_
                refine xk_1 ?_
                refine xr_goto hc rfl (t := 80) rfl ?_
                refine xr_istore8 hc rfl rfl ?_
                refine xr_iloadn hc rfl rfl ?_
                refine xr_iff hc rfl (by simp [dz_cmp]) ?_
                refine xr_iload hc rfl rfl ?_
                refine xr_goto hc rfl (t := 98) rfl ?_
                refine xr_istore9 hc rfl rfl ?_
                refine xr_iload hc rfl rfl ?_
                refine xr_iload hc rfl rfl ?_
                refine xr_icmp_lt hc rfl (t := 110) rfl (fun b104 => ?_) (fun b104 => ?_)
                · refine xr_aloadn hc rfl rfl ?_
                  refine xr_getfr hc rfl rfl (by first | assumption | rfl) (by first | assumption | rfl) ?_
                  refine xr_iload hc rfl rfl ?_
                  refine xr_iload hc rfl rfl ?_
                  refine xr_calls3 hc rfl (by decide) rfl rfl rfl (Nat.le_of_ble_eq_true rfl) (Nat.zero_le _) (Nat.zero_le _) ?_
                  refine S_exchange (d := d + n + 4) k2 (by omega) (by omega) (fun N1 x1 x2 => ?_)
                  rw [Int.toNat_natCast, Int.toNat_natCast] at x2
                  have e55 : N1 55 = swp (M 55) i j := funext fun k => by rw [x2 k]; rfl
                  refine xk_0 ?_
                  refine xr_aloadn hc rfl rfl ?_
                  refine xr_iloadn hc rfl rfl ?_
                  refine xr_iconst hc rfl ?_
                  refine xr_isubz hc rfl (by first | exact dz_wid (by first | omega | (unfold dz_w; omega)) (by first | omega | (unfold dz_w; omega)) | rfl) ?_
                  rw [en]
                  refine xr_iloadn hc rfl rfl ?_
                  refine xr_ift hc rfl (t := 133) rfl (by simp [dz_cmp]) ?_
                  refine xr_iconst hc rfl ?_
                  refine xr_iload hc rfl rfl ?_
                  refine xr_iload hc rfl rfl ?_
                  refine xr_calls5 hc rfl (by decide) rfl rfl rfl (Nat.le_of_ble_eq_true rfl) (Nat.zero_le _) (Nat.zero_le _) ?_
                  refine ihN _ N1 (max lo b) (hi) (TR_fr hT (fun q k v1 v2 => x1 _ _ (by omega))) (by rw [x1 _ _ (by omega)]; exact h5) (fun k hk => ?_) (by omega) (by omega) (by omega) (fun y hy => ?_)
                  · rw [x2 k]
                    have z1 := hsp i (by omega)
                    have z2 := hsp j (by omega)
                    have z3 := hsp k hk
                    split
                    · exact z2
                    · split
                      · exact z1
                      · exact z3
                  rw [e55] at hy
                  refine xk_1 ?_
                  refine xr_istore10 hc rfl rfl ?_
                  refine xr_aloadn hc rfl rfl ?_
                  refine xr_getfr hc rfl rfl (by first | assumption | rfl) (by first | assumption | rfl) ?_
                  refine xr_iload hc rfl rfl ?_
                  refine xr_iload hc rfl rfl ?_
                  refine xr_calls3 hc rfl (by decide) rfl rfl rfl (Nat.le_of_ble_eq_true rfl) (Nat.zero_le _) (Nat.zero_le _) ?_
                  refine S_exchange (d := d + n + 4) k2 (by omega) (by omega) (fun N2 x3 x4 => ?_)
                  rw [Int.toNat_natCast, Int.toNat_natCast] at x4
                  have eM : N2 = M := funext fun q => funext fun k => by
                    by_cases e : q = 55
                    · subst e
                      rw [x4 k]
                      by_cases e1 : k = i
                      · rw [if_pos e1, x2 j, if_neg (by omega), if_pos rfl, e1]
                      · rw [if_neg e1]
                        by_cases e2 : k = j
                        · rw [if_pos e2, x2 i, if_pos rfl, e2]
                        · rw [if_neg e2, x2 k, if_neg e1, if_neg e2]
                    · rw [x3 _ _ e, x1 _ _ e]
                  rw [eM]
                  refine xk_0 ?_
                  refine xr_iloadn hc rfl rfl ?_
                  refine xr_iff hc rfl (by simp [dz_cmp]) ?_
                  refine xr_iload hc rfl rfl ?_
                  refine xr_iload hc rfl rfl ?_
                  refine xr_calls2 hc rfl (by decide) rfl rfl rfl (Nat.le_of_ble_eq_true rfl) (Nat.zero_le _) (Nat.zero_le _) ?_
                  refine S_max ?_
                  refine xk_1 ?_
                  refine xr_goto hc rfl (t := 175) rfl ?_
                  refine xr_istore5 hc rfl rfl ?_
                  refine xr_iincz7 hc rfl rfl (by first | exact dz_wid (by first | omega | (unfold dz_w; omega)) (by first | omega | (unfold dz_w; omega)) | rfl) ?_
                  refine xr_goto hc rfl (t := 57) rfl ?_
                  exact ih2 (j + 1) (max b y) _ _ _ (by omega) (by omega) (by
                    rw [← ex, et, if_pos hij]
                    exact AB_max h1 hb (by omega) hy)
                · refine xr_iload hc rfl rfl ?_
                  refine xr_ireturn hc rfl rfl (Nat.zero_le _) (Nat.zero_le _) ?_
                  refine hQ b ?_
                  have hmo := vdf_mono (f := vd pl kd wt nx w.toNat s n false) (W := w.toNat) (k := i * w.toNat + j) (sp := M 55) (w.toNat * w.toNat - (i * w.toNat + j))
                  have hle : i * w.toNat + j ≤ w.toNat * w.toNat := by
                    have z : (i + 1) * w.toNat ≤ w.toNat * w.toNat := Nat.mul_le_mul_right _ (by omega)
                    rw [Nat.add_mul, Nat.one_mul] at z
                    omega
                  rw [show i * w.toNat + j + (w.toNat * w.toNat - (i * w.toNat + j)) = w.toNat * w.toNat by omega] at hmo
                  have hv : vd pl kd wt nx w.toNat s (n + 1) true (M 55) = (vdf (vd pl kd wt nx w.toNat s n false) true w.toNat (M 55)) (w.toNat * w.toNat) := rfl
                  rw [hv]
                  unfold AB at hb ⊢
                  omega
          refine xr_iload hc rfl rfl ?_
          refine xr_aloadn hc rfl rfl ?_
          refine xr_getfi hc rfl (Or.inl rfl) (by first | assumption | rfl) ?_
          rw [h5]
          refine xr_icmp_ge hc rfl (t := 189) rfl (fun b48 => ?_) (fun b48 => ?_)
          · omega
          · refine xr_iload hc rfl rfl ?_
            refine xr_iconst hc rfl ?_
            refine xr_iaddz hc rfl (by first | exact dz_wid (by first | omega | (unfold dz_w; omega)) (by first | omega | (unfold dz_w; omega)) | rfl) ?_
            refine xr_istore7 hc rfl rfl ?_
            exact lq m_ (i + 1) b _ _ _ (by omega) (by omega) (by rw [vdf_skip (by omega) (i + 1) (by omega)]; exact hb)
      refine xr_iloadn hc rfl rfl ?_
      refine xr_if_gt hc rfl (t := 18) rfl (fun b1 => ?_) (fun b1 => ?_)
      · refine xr_aloadn hc rfl rfl ?_
        refine xr_iloadn hc rfl rfl ?_
        refine xr_iconst hc rfl ?_
        refine xr_isubz hc rfl (by first | exact dz_wid (by first | omega | (unfold dz_w; omega)) (by first | omega | (unfold dz_w; omega)) | rfl) ?_
        rw [en]
        refine xr_iloadn hc rfl rfl ?_
        refine xr_ift hc rfl (t := 30) rfl (by simp [dz_cmp]) ?_
        refine xr_iconst hc rfl ?_
        refine xr_iloadn hc rfl rfl ?_
        refine xr_iload hc rfl rfl ?_
        refine xr_calls5 hc rfl (by decide) rfl rfl rfl (Nat.le_of_ble_eq_true rfl) (Nat.zero_le _) (Nat.zero_le _) ?_
        refine ihN _ M lo hi hT h5 hsp h1 h2 h3 (fun b hb => ?_)
        refine xk_1 ?_
        refine xr_istore5 hc rfl rfl ?_
        refine xr_iconst hc rfl ?_
        refine xr_istore6 hc rfl rfl ?_
        exact lp w.toNat 0 b _ _ _ _ (by omega) (by rw [Nat.zero_mul]; exact hb)
      · exfalso
        omega
    | false =>
      have ihN : ∀ (Q : dz_Q) (M : Nat → Nat → Int) (lo hi : Int), TR M pl kd wt nx K s → M 54 5 = w → (∀ i : Nat, (i : Int) < w → 0 ≤ M 55 i ∧ M 55 i ≤ 9) → lo < hi → -1000000 ≤ lo → hi ≤ 1000000 → (∀ r, AB r (vd pl kd wt nx w.toNat s n true (M 55)) lo hi → Q (some (dz_i r)) (sh, rf, M)) → dz_E dz_pp xo (d + n + 5) 35 [dz_r 54, dz_i (n : Int), dz_i 1, dz_i lo, dz_i hi] (sh, rf, M) Q := fun Q M lo hi => by
        have z := ihn (by omega) Q M true lo hi
        rw [if_pos rfl] at z
        exact z
      have hQ : ∀ r, AB r (vd pl kd wt nx w.toNat s (n + 1) false (M 55)) lo hi → Q (some (dz_i r)) (sh, rf, M) := hQ
      show dz_X (dz_E dz_pp xo (d + n + 5)) dz_pp xo (dz_pp 35) Q 0 [some (dz_r 54), some (dz_i ((n + 1 : Nat) : Int)), some (dz_i 0), some (dz_i lo), some (dz_i hi), none, none, none, none, none, none] [] 0 0 (sh, rf, M)
      have lp : ∀ (m_ i : Nat) (b : Int) (e7 e8 e9 e10 : Option dz_V), (i : Int) + m_ = w → AB b ((vdf (vd pl kd wt nx w.toNat s n true) false w.toNat (M 55)) (i * w.toNat)) lo hi → dz_X (dz_E dz_pp xo (d + n + 5)) dz_pp xo (dz_pp 35) Q 42 [some (dz_r 54), some (dz_i ((n + 1 : Nat) : Int)), some (dz_i 0), some (dz_i lo), some (dz_i hi), some (dz_i b), some (dz_i (i : Int)), e7, e8, e9, e10] [] 0 0 (sh, rf, M) := by
        intro m_
        induction m_ with
        | zero =>
          intro i b e7 e8 e9 e10 hi2 hb
          refine xr_iload hc rfl rfl ?_
          refine xr_aloadn hc rfl rfl ?_
          refine xr_getfi hc rfl (Or.inl rfl) (by first | assumption | rfl) ?_
          rw [h5]
          refine xr_icmp_ge hc rfl (t := 189) rfl (fun b48 => ?_) (fun b48 => ?_)
          · refine xr_iload hc rfl rfl ?_
            refine xr_ireturn hc rfl rfl (Nat.zero_le _) (Nat.zero_le _) ?_
            have ei : i = w.toNat := by omega
            subst ei
            exact hQ b hb
          · omega
        | succ m_ IH =>
          intro i b e7 e8 e9 e10 hi2 hb
          have lq : ∀ (m2 j : Nat) (b : Int) (e8 e9 e10 : Option dz_V), (j : Int) + m2 = w → i < j → AB b ((vdf (vd pl kd wt nx w.toNat s n true) false w.toNat (M 55)) (i * w.toNat + j)) lo hi → dz_X (dz_E dz_pp xo (d + n + 5)) dz_pp xo (dz_pp 35) Q 57 [some (dz_r 54), some (dz_i ((n + 1 : Nat) : Int)), some (dz_i 0), some (dz_i lo), some (dz_i hi), some (dz_i b), some (dz_i (i : Int)), some (dz_i (j : Int)), e8, e9, e10] [] 0 0 (sh, rf, M) := by
            intro m2
            induction m2 with
            | zero =>
              intro j b e8 e9 e10 hj hij hb
              have ej : j = w.toNat := by omega
              subst ej
              rw [show i * w.toNat + w.toNat = (i + 1) * w.toNat by rw [Nat.add_mul, Nat.one_mul]] at hb
              refine xr_iload hc rfl rfl ?_
              refine xr_aloadn hc rfl rfl ?_
              refine xr_getfi hc rfl (Or.inl rfl) (by first | assumption | rfl) ?_
              rw [h5]
              refine xr_icmp_ge hc rfl (t := 183) rfl (fun b63 => ?_) (fun b63 => ?_)
              · refine xr_iincz6 hc rfl rfl (by first | exact dz_wid (by first | omega | (unfold dz_w; omega)) (by first | omega | (unfold dz_w; omega)) | rfl) ?_
                refine xr_goto hc rfl (t := 42) rfl ?_
                exact IH (i + 1) b _ _ _ _ (by omega) hb
              · omega
            | succ m2 ih2 =>
              intro j b e8 e9 e10 hj hij hb
              have hd := dvm (W := w.toNat) (i := i) (j := j) (by omega)
              have et : (vdf (vd pl kd wt nx w.toNat s n true) false w.toNat (M 55)) (i * w.toNat + j + 1) = if (i * w.toNat + j) / w.toNat < (i * w.toNat + j) % w.toNat then bst false ((vdf (vd pl kd wt nx w.toNat s n true) false w.toNat (M 55)) (i * w.toNat + j)) (vd pl kd wt nx w.toNat s n true (swp (M 55) ((i * w.toNat + j) / w.toNat) ((i * w.toNat + j) % w.toNat))) else (vdf (vd pl kd wt nx w.toNat s n true) false w.toNat (M 55)) (i * w.toNat + j) := rfl
              rw [hd.1, hd.2] at et
              have ex : i * w.toNat + j + 1 = i * w.toNat + (j + 1) := by omega
              refine xr_iload hc rfl rfl ?_
              refine xr_aloadn hc rfl rfl ?_
              refine xr_getfi hc rfl (Or.inl rfl) (by first | assumption | rfl) ?_
              rw [h5]
              refine xr_icmp_ge hc rfl (t := 183) rfl (fun b63 => ?_) (fun b63 => ?_)
              · omega
              · refine xr_iloadn hc rfl rfl ?_
                refine xr_ift hc rfl (t := 79) rfl (by simp [dz_cmp]) ?_
                refine xr_iloadn hc rfl rfl ?_
                refine xr_istore8 hc rfl rfl ?_
                refine xr_iloadn hc rfl rfl ?_
                refine xr_ift hc rfl (t := 91) rfl (by simp [dz_cmp]) ?_
                refine xr_iload hc rfl rfl ?_
                refine xr_iload hc rfl rfl ?_
                refine xr_calls2 hc rfl (by decide) rfl rfl rfl (Nat.le_of_ble_eq_true rfl) (Nat.zero_le _) (Nat.zero_le _) ?_
                refine S_min ?_
                refine xk_1 ?_
                refine xr_istore9 hc rfl rfl ?_
                refine xr_iload hc rfl rfl ?_
                refine xr_iload hc rfl rfl ?_
                refine xr_icmp_lt hc rfl (t := 110) rfl (fun b104 => ?_) (fun b104 => ?_)
                · refine xr_aloadn hc rfl rfl ?_
                  refine xr_getfr hc rfl rfl (by first | assumption | rfl) (by first | assumption | rfl) ?_
                  refine xr_iload hc rfl rfl ?_
                  refine xr_iload hc rfl rfl ?_
                  refine xr_calls3 hc rfl (by decide) rfl rfl rfl (Nat.le_of_ble_eq_true rfl) (Nat.zero_le _) (Nat.zero_le _) ?_
                  refine S_exchange (d := d + n + 4) k2 (by omega) (by omega) (fun N1 x1 x2 => ?_)
                  rw [Int.toNat_natCast, Int.toNat_natCast] at x2
                  have e55 : N1 55 = swp (M 55) i j := funext fun k => by rw [x2 k]; rfl
                  refine xk_0 ?_
                  refine xr_aloadn hc rfl rfl ?_
                  refine xr_iloadn hc rfl rfl ?_
                  refine xr_iconst hc rfl ?_
                  refine xr_isubz hc rfl (by first | exact dz_wid (by first | omega | (unfold dz_w; omega)) (by first | omega | (unfold dz_w; omega)) | rfl) ?_
                  rw [en]
                  refine xr_iloadn hc rfl rfl ?_
                  refine xr_iff hc rfl (by simp [dz_cmp]) ?_
                  refine xr_iconst hc rfl ?_
                  refine xr_goto hc rfl (t := 134) rfl ?_
                  refine xr_iload hc rfl rfl ?_
                  refine xr_iload hc rfl rfl ?_
                  refine xr_calls5 hc rfl (by decide) rfl rfl rfl (Nat.le_of_ble_eq_true rfl) (Nat.zero_le _) (Nat.zero_le _) ?_
                  refine ihN _ N1 (lo) (min hi b) (TR_fr hT (fun q k v1 v2 => x1 _ _ (by omega))) (by rw [x1 _ _ (by omega)]; exact h5) (fun k hk => ?_) (by omega) (by omega) (by omega) (fun y hy => ?_)
                  · rw [x2 k]
                    have z1 := hsp i (by omega)
                    have z2 := hsp j (by omega)
                    have z3 := hsp k hk
                    split
                    · exact z2
                    · split
                      · exact z1
                      · exact z3
                  rw [e55] at hy
                  refine xk_1 ?_
                  refine xr_istore10 hc rfl rfl ?_
                  refine xr_aloadn hc rfl rfl ?_
                  refine xr_getfr hc rfl rfl (by first | assumption | rfl) (by first | assumption | rfl) ?_
                  refine xr_iload hc rfl rfl ?_
                  refine xr_iload hc rfl rfl ?_
                  refine xr_calls3 hc rfl (by decide) rfl rfl rfl (Nat.le_of_ble_eq_true rfl) (Nat.zero_le _) (Nat.zero_le _) ?_
                  refine S_exchange (d := d + n + 4) k2 (by omega) (by omega) (fun N2 x3 x4 => ?_)
                  rw [Int.toNat_natCast, Int.toNat_natCast] at x4
                  have eM : N2 = M := funext fun q => funext fun k => by
                    by_cases e : q = 55
                    · subst e
                      rw [x4 k]
                      by_cases e1 : k = i
                      · rw [if_pos e1, x2 j, if_neg (by omega), if_pos rfl, e1]
                      · rw [if_neg e1]
                        by_cases e2 : k = j
                        · rw [if_pos e2, x2 i, if_pos rfl, e2]
                        · rw [if_neg e2, x2 k, if_neg e1, if_neg e2]
                    · rw [x3 _ _ e, x1 _ _ e]
                  rw [eM]
                  refine xk_0 ?_
                  refine xr_iloadn hc rfl rfl ?_
                  refine xr_ift hc rfl (t := 168) rfl (by simp [dz_cmp]) ?_
                  refine xr_iload hc rfl rfl ?_
                  refine xr_iload hc rfl rfl ?_
                  refine xr_calls2 hc rfl (by decide) rfl rfl rfl (Nat.le_of_ble_eq_true rfl) (Nat.zero_le _) (Nat.zero_le _) ?_
                  refine S_min ?_
                  refine xk_1 ?_
                  refine xr_istore5 hc rfl rfl ?_
                  refine xr_iincz7 hc rfl rfl (by first | exact dz_wid (by first | omega | (unfold dz_w; omega)) (by first | omega | (unfold dz_w; omega)) | rfl) ?_
                  refine xr_goto hc rfl (t := 57) rfl ?_
                  exact ih2 (j + 1) (min b y) _ _ _ (by omega) (by omega) (by
                    rw [← ex, et, if_pos hij]
                    exact AB_min h1 hb (by omega) hy)
                · refine xr_iload hc rfl rfl ?_
                  refine xr_ireturn hc rfl rfl (Nat.zero_le _) (Nat.zero_le _) ?_
                  refine hQ b ?_
                  have hmo := vdf_mono (f := vd pl kd wt nx w.toNat s n true) (W := w.toNat) (k := i * w.toNat + j) (sp := M 55) (w.toNat * w.toNat - (i * w.toNat + j))
                  have hle : i * w.toNat + j ≤ w.toNat * w.toNat := by
                    have z : (i + 1) * w.toNat ≤ w.toNat * w.toNat := Nat.mul_le_mul_right _ (by omega)
                    rw [Nat.add_mul, Nat.one_mul] at z
                    omega
                  rw [show i * w.toNat + j + (w.toNat * w.toNat - (i * w.toNat + j)) = w.toNat * w.toNat by omega] at hmo
                  have hv : vd pl kd wt nx w.toNat s (n + 1) false (M 55) = (vdf (vd pl kd wt nx w.toNat s n true) false w.toNat (M 55)) (w.toNat * w.toNat) := rfl
                  rw [hv]
                  unfold AB at hb ⊢
                  omega
          refine xr_iload hc rfl rfl ?_
          refine xr_aloadn hc rfl rfl ?_
          refine xr_getfi hc rfl (Or.inl rfl) (by first | assumption | rfl) ?_
          rw [h5]
          refine xr_icmp_ge hc rfl (t := 189) rfl (fun b48 => ?_) (fun b48 => ?_)
          · omega
          · refine xr_iload hc rfl rfl ?_
            refine xr_iconst hc rfl ?_
            refine xr_iaddz hc rfl (by first | exact dz_wid (by first | omega | (unfold dz_w; omega)) (by first | omega | (unfold dz_w; omega)) | rfl) ?_
            refine xr_istore7 hc rfl rfl ?_
            exact lq m_ (i + 1) b _ _ _ (by omega) (by omega) (by rw [vdf_skip (by omega) (i + 1) (by omega)]; exact hb)
      refine xr_iloadn hc rfl rfl ?_
      refine xr_if_gt hc rfl (t := 18) rfl (fun b1 => ?_) (fun b1 => ?_)
      · refine xr_aloadn hc rfl rfl ?_
        refine xr_iloadn hc rfl rfl ?_
        refine xr_iconst hc rfl ?_
        refine xr_isubz hc rfl (by first | exact dz_wid (by first | omega | (unfold dz_w; omega)) (by first | omega | (unfold dz_w; omega)) | rfl) ?_
        rw [en]
        refine xr_iloadn hc rfl rfl ?_
        refine xr_iff hc rfl (by simp [dz_cmp]) ?_
        refine xr_iconst hc rfl ?_
        refine xr_goto hc rfl (t := 31) rfl ?_
        refine xr_iloadn hc rfl rfl ?_
        refine xr_iload hc rfl rfl ?_
        refine xr_calls5 hc rfl (by decide) rfl rfl rfl (Nat.le_of_ble_eq_true rfl) (Nat.zero_le _) (Nat.zero_le _) ?_
        refine ihN _ M lo hi hT h5 hsp h1 h2 h3 (fun b hb => ?_)
        refine xk_1 ?_
        refine xr_istore5 hc rfl rfl ?_
        refine xr_iconst hc rfl ?_
        refine xr_istore6 hc rfl rfl ?_
        exact lp w.toNat 0 b _ _ _ _ (by omega) (by rw [Nat.zero_mul]; exact hb)
      · exfalso
        omega
set_option maxRecDepth 100000 in
theorem X_duel {xo : Nat → List Int} {d : Nat} {Q : dz_Q} {sh : List (Nat ⊕ (Nat × Nat))} {rf : Nat → Nat → Nat} {M : Nat → Nat → Int} {rs : Nat → Int} {it : Nat → Nat → Int} {ts : Nat → Int} {ch : Nat → Nat → Int} {tl up lo : Int} {fn : Nat → Int} {w pl : Int} {kd wt nx : Nat → Int} {n : Nat} {hs : Nat → Nat → Int} {kp : Nat → Int} {kh : Nat → Nat → Nat → Int} {m : Int} (hx : xo 2 = dz_xs2) (hl : cl sh rf) (hR : RX M rs it ts ch tl up lo fn w pl kd wt nx n hs kp kh) (hW : WF rs it ts ch tl up lo fn w pl kd wt nx n hs kp kh) (hQ : ∀ M2 : Nat → Nat → Int, (∀ q2 k2, 115 ≤ q2 → M2 q2 k2 = M q2 k2) → RX M2 rs it ts ch tl up lo fn w pl kd wt nx n hs kp kh → Q (some (dz_i ((o_duel w pl kd wt nx (hs n) m)))) (sh, rf, M2)) : dz_E dz_pp xo (d + 9) 84 [dz_r 0, dz_i m] (sh, rf, M) Q := by
  refine ⟨Nat.le_of_ble_eq_true rfl, ?_⟩
  have hc := dz_E_m dz_pp xo (d + 8)
  show dz_X (dz_E dz_pp xo (d + 8)) dz_pp xo (dz_pp 84) Q 0 [some (dz_r 0), some (dz_i m), none] [] 0 0 (sh, rf, M)
  obtain ⟨c0, c1, c2, c3, c4, c5, c6, c7, c8, c9, c10, c11, c12, c13, c14, c15, c16, c17, c18, c19, c20, c21, c22, c23, c24, c25, c26, c27, c28, c29, c30, c31, c32, c33, c34, c35, c36⟩ := id hl
  obtain ⟨hrow, htxt, htl, hup, hlo, hfn, hdr, hkp, hrb⟩ := id hR
  obtain ⟨wrow, wtxt, wdr, wst, wkp⟩ := id hW
  have n0 : sh[23]? = some (.inl 1) := c14.2.2.2.2.1.1
  have n1 : rf 23 7 = 25 + 1 := c14.2.2.2.2.1.2.2.2.1
  have n2 : sh[25]? = some (.inr (0, 6)) := c14.2.2.2.2.1.2.2.2.2.1
  have n3 : rf 15 1 = 23 + 1 := c14.2.2.2.1
  have n4 : sh[15]? = some (.inl 0) := c14.1
  have n5 : ma_at sh rf 23 := c14.2.2.2.2.1
  have q0 : sh[34]? = some (.inl 1) := c20.1
  have q1 : rf 34 8 = 37 + 1 := c20.2.2.2.2.2.1
  have q2 : sh[37]? = some (.inr (0, 6)) := c20.2.2.2.2.2.2.1
  have q3 : sh[50]? = some (.inl 4) := c26.1
  have k0 : sh[54]? = some (.inl 2) := c28.1
  have k1 : rf 54 1 = 55 + 1 := c28.2.1
  have k2 : sh[55]? = some (.inr (0, 6)) := c28.2.2.1
  have hw6 := WF_w hW
  have hM0 : M 23 0 = w := hdr.2.1.1
  have hM1 : M 23 1 = pl := hdr.2.1.2.1
  have hsp0 : ∀ i : Nat, (i : Int) < w → M 25 i = hs n (5 + i) := fun i hi => (hdr.2.1.2.2.2.2.2.2 i hi).2.1
  refine xr_aloadn hc rfl rfl ?_
  refine xr_iloadn hc rfl rfl ?_
  refine xr_iconst hc rfl ?_
  refine xr_callv2 hc rfl (by first | assumption | rfl) rfl rfl rfl (Nat.le_of_ble_eq_true rfl) (Nat.zero_le _) (Nat.zero_le _) ?_
  refine S_refusedSteps hl hR hW (fun u1 => ?_) (fun u1 v1 hw0 => ?_) (fun u1 v1 hw0 => ?_)
  · refine xk_1 ?_
    refine xr_istore2 hc rfl rfl ?_
    refine xr_iloadn hc rfl rfl ?_
    refine xr_iff hc rfl (by simp [dz_cmp]) ?_
    refine xr_iloadn hc rfl rfl ?_
    refine xr_ireturn hc rfl rfl (Nat.zero_le _) (Nat.zero_le _) ?_
    simp only [o_duel] at hQ
    repeat (first | rw [if_pos (by omega)] at hQ | rw [if_neg (by omega)] at hQ)
    try dsimp only at hQ
    exact hQ M (fun _ _ _ => rfl) hR
  · refine xk_1 ?_
    refine xr_istore2 hc rfl rfl ?_
    refine xr_iloadn hc rfl rfl ?_
    refine xr_iff hc rfl (by simp [dz_cmp]) ?_
    refine xr_iloadn hc rfl rfl ?_
    refine xr_ireturn hc rfl rfl (Nat.zero_le _) (Nat.zero_le _) ?_
    simp only [o_duel] at hQ
    repeat (first | rw [if_pos (by omega)] at hQ | rw [if_neg (by omega)] at hQ)
    try dsimp only at hQ
    exact hQ M (fun _ _ _ => rfl) hR
  · refine xk_1 ?_
    refine xr_istore2 hc rfl rfl ?_
    refine xr_iloadn hc rfl rfl ?_
    refine xr_ift hc rfl (t := 13) rfl (by simp [dz_cmp]) ?_
    refine xr_aloadn hc rfl rfl ?_
    refine xr_bipush hc rfl ?_
    refine xr_callv1 hc rfl (by first | assumption | rfl) rfl rfl rfl (Nat.le_of_ble_eq_true rfl) (Nat.zero_le _) (Nat.zero_le _) ?_
    have hp := WF_p hW hw0
    have hst := wst.2 n (Nat.le_refl n)
    obtain ⟨p1, p2, p3, p4, p5⟩ := id hp
    obtain ⟨st0, st1, st2, st3, st4, st5, st6, st7, st8⟩ := id hst
    refine S_followSteps hx hl hR hW hw0 (by omega) (fun M1 K f1 f2 f3 f4 f5 f6 => ?_)
    refine xk_0 ?_
    refine xr_aloadn hc rfl rfl ?_
    refine xr_getfr hc rfl rfl (by first | assumption | rfl) (by first | assumption | rfl) ?_
    refine xr_aloadn hc rfl rfl ?_
    refine xr_getfr hc rfl rfl (by first | assumption | rfl) (by first | assumption | rfl) ?_
    refine xr_getfr hc rfl rfl (by first | assumption | rfl) (by first | assumption | rfl) ?_
    refine xr_callv1 hc rfl (by first | assumption | rfl) rfl rfl rfl (Nat.le_of_ble_eq_true rfl) (Nat.zero_le _) (Nat.zero_le _) ?_
    refine S_pbegin hl (fun M2 g1 g2 g3 g4 => ?_)
    have L1 : ∀ q2 k2, ¬ (34 ≤ q2 ∧ q2 ≤ 40) → ¬ (50 ≤ q2 ∧ q2 ≤ 55) → M2 q2 k2 = M q2 k2 := fun q2 k2 v1 v2 => by rw [g1 _ _ (by omega) (by omega), f1 _ _ (by omega) (by omega)]
    have L2 := TR_fr f3 (M2 := M2) (fun q k v1 v2 => g1 _ _ (by omega) (by omega))
    have L3 : ∀ i : Nat, (i : Int) < w → M2 55 i = hs n (5 + i) := fun i hi => by rw [g4 i (by omega), f1 _ _ (by omega) (by omega)]; exact hsp0 i hi
    have LR : scX M M2 := ⟨fun q2 k2 u => L1 _ _ (by omega) (by omega), fun q2 k2 u => by
      rcases u with ⟨a, b⟩ | u
      · rw [a, b, g1 _ _ (by omega) (by omega), f2.2.2.2.2.2.2.2.2.1, hrb.1]
      · exact L1 _ _ (by omega) (by omega)⟩
    have g5 : M2 54 5 = w := by rw [g2, f1 _ _ (by omega) (by omega), hM0]
    have g6 : M2 54 6 = pl := by rw [g3, f1 _ _ (by omega) (by omega), hM1]
    refine xk_0 ?_
    refine xr_aloadn hc rfl rfl ?_
    refine xr_getfr hc rfl rfl (by first | assumption | rfl) (by first | assumption | rfl) ?_
    refine xr_iloadn hc rfl rfl ?_
    refine xr_iconst hc rfl ?_
    refine xr_ldcw hc rfl ?_
    refine xr_ldc hc rfl ?_
    refine xr_calls5 hc rfl (by decide) rfl rfl rfl (Nat.le_of_ble_eq_true rfl) (Nat.zero_le _) (Nat.zero_le _) ?_
    have hE : dz_E dz_pp xo (d + (3 - m.toNat) + m.toNat + 5) 35 [dz_r 54, dz_i ((m.toNat : Nat) : Int), dz_i (if true = true then 1 else 0), dz_i (-1000000), dz_i 1000000] (sh, rf, M2) (fun r g => dz_X (dz_E dz_pp xo (d + 8)) dz_pp xo (dz_pp 84) Q 47 [some (dz_r 0), some (dz_i m), some (dz_i 0)] (r.toList ++ []) 0 0 g) := by
      refine S_play (w := w) (pl := pl) (kd := kd) (wt := wt) (nx := nx) hl hp hst (by omega) f4 m.toNat (by omega) _ M2 true (-1000000) 1000000 L2 g5 (fun i hi => ?_) (by omega) (by omega) (by omega) (fun y hy => ?_)
      · rw [L3 i hi]
        have z := st8 i hi
        omega
      · have hvi := vd_in (W := w.toNat) hp hst (by omega) m.toNat true (M2 55)
        have ey : y = vd pl kd wt nx w.toNat (hs n) m.toNat true (M2 55) := by
          unfold AB at hy
          omega
        rw [ey, vd_c hp hst (by omega) m.toNat true (M2 55) (fun k => hs n (5 + k)) L3]
        refine xk_1 ?_
        refine xr_ireturn hc rfl rfl (Nat.zero_le _) (Nat.zero_le _) ?_
        simp only [o_duel] at hQ
        rw [if_neg (by omega), if_neg hw0] at hQ
        exact hQ M2 (fun q2 k2 u => L1 _ _ (by omega) (by omega)) (RX_scr hR LR)
    rw [show d + (3 - m.toNat) + m.toNat + 5 = d + 8 by omega, show ((m.toNat : Nat) : Int) = m by omega] at hE
    exact hE
