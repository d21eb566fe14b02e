/-! The class reads a text. Written by l2_72.py. -/
def sk (c : Nat → Int) : Nat → Nat → Nat
  | 0, p => p
  | f + 1, p => if c p = 32 then sk c f (p + 1) else p
/-- behind the blanks -/
def skp (c : Nat → Int) (n p : Nat) : Nat := sk c (n - p) p
theorem sk_in (c : Nat → Int) : ∀ f p, p ≤ sk c f p ∧ sk c f p ≤ p + f
  | 0, p => by
    show p ≤ p ∧ p ≤ p + 0
    omega
  | f + 1, p => by
    have ih := sk_in c f (p + 1)
    unfold sk
    split <;> omega
theorem skp_in {c : Nat → Int} {n p : Nat} (h : p ≤ n) : p ≤ skp c n p ∧ skp c n p ≤ n := by
  have z := sk_in c (n - p) p
  unfold skp
  omega
abbrev fig (c : Nat → Int) (n : Nat) (lo hi : Int) (p : Nat) : Prop := p < n ∧ 48 + lo ≤ c p ∧ c p ≤ 48 + hi
def kl (x : Int) : Int := if x = 110 then 0 else if x = 97 then 1 else if x = 106 then 2 else if x = 115 then 3 else if x = 116 then 4 else if x = 101 then 5 else -9
theorem kl_in (x : Int) : kl x = -9 ∨ (0 ≤ kl x ∧ kl x ≤ 5) := by
  unfold kl
  repeat' split
  all_goals omega
/-- one word at p: is it one; where reading ends -/
def rwd (c : Nat → Int) (n : Nat) (pl : Int) (ps : Nat → Nat) (i p : Nat) : Bool × Nat := if kl (c p) = -9 ∨ i = 6 then (false, p) else if ¬ fig c n 0 (pl - 1) (p + 1) then (false, p + 1) else if ly_at (fun k => c (ps k + 1) - 48) (c (p + 1) - 48) i 0 ≠ -9 then (false, p + 1) else if ¬ fig c n 0 (if kl (c p) = 0 then 9 else 5) (p + 2) then (false, p + 2) else if ¬ fig c n 0 (if kl (c p) = 0 then 9 else 5) (p + 3) then (false, p + 3) else (true, p + 4)
def pup (ps : Nat → Nat) (i p : Nat) : Nat → Nat := fun k => if k = i then p else ps k
def rml (c : Nat → Int) (n : Nat) (pl : Int) : Nat → Nat → (Nat → Nat) → Nat → Bool × Nat × Nat × (Nat → Nat)
  | 0, i, ps, p => (true, p, i, ps)
  | f + 1, i, ps, p => if p < n then (if (rwd c n pl ps i p).1 = true then rml c n pl f (i + 1) (pup ps i p) (skp c n (rwd c n pl ps i p).2) else (false, (rwd c n pl ps i p).2, i, ps)) else (true, p, i, ps)
/-- what a word tells -/
def wKd (c : Nat → Int) (ps : Nat → Nat) (k : Nat) : Int := kl (c (ps k))
def wPl (c : Nat → Int) (ps : Nat → Nat) (k : Nat) : Int := c (ps k + 1) - 48
def wVl (c : Nat → Int) (ps : Nat → Nat) (k : Nat) : Int := if kl (c (ps k)) = 0 then 10 * (c (ps k + 2) - 48) + (c (ps k + 3) - 48) else 0
def wWt (c : Nat → Int) (ps : Nat → Nat) (k : Nat) : Int := if kl (c (ps k)) = 0 then 0 else c (ps k + 2) - 48
def wNx (c : Nat → Int) (ps : Nat → Nat) (k : Nat) : Int := if kl (c (ps k)) = 0 then 0 else c (ps k + 3) - 48
def rat (c : Nat → Int) (ps : Nat → Nat) (W : Nat) : Nat → Bool
  | 0 => true
  | k + 1 => rat c ps W k && decide (wWt c ps k < W ∧ wNx c ps k < W)
def rh (c : Nat → Int) (n : Nat) : Nat := skp c n 0
def rdt (c : Nat → Int) (n : Nat) : Bool × Nat × Nat × (Nat → Nat) := if ¬ (rh c n < n ∧ c (rh c n) = 100) then (false, rh c n, 0, fun _ => 0) else if ¬ fig c n 6 9 (rh c n + 1) then (false, rh c n + 1, 0, fun _ => 0) else rml c n (c (rh c n + 1) - 48) 8 0 (fun _ => 0) (skp c n (rh c n + 2))
/-- the place of the fault, -9 if there is none -/
def rflt (c : Nat → Int) (n : Nat) : Int := if (rdt c n).1 = false then ((rdt c n).2.1 : Int) else if 2 ≤ (rdt c n).2.2.1 ∧ rat c (rdt c n).2.2.2 (rdt c n).2.2.1 (rdt c n).2.2.1 = true then -9 else (n : Int)
set_option maxRecDepth 100000 in
theorem S_skipBlanks {xo : Nat → List Int} {d : Nat} {Q : dz_Q} {sh : List (Nat ⊕ (Nat × Nat))} {rf : Nat → Nat → Nat} {M : Nat → Nat → Int} {tx nn p : Nat} {c : Nat → Int} (hl : cl sh rf) (htx : tx < 4) (hrf : rf 41 1 = 10 + tx + 1) (hn : nn ≤ 60) (hc2 : ∀ k, k < nn → M (10 + tx) k = c k ∧ -128 ≤ c k ∧ c k ≤ 127) (h2 : M 41 2 = (nn : Int)) (h3 : M 41 3 = (p : Int)) (hp : p ≤ nn) (hQ : ∀ M2 : Nat → Nat → Int, (∀ q2 k2, ¬ (q2 = 41 ∧ k2 = 3) → M2 q2 k2 = M q2 k2) → M2 41 3 = (skp c nn p : Int) → Q none (sh, rf, M2)) : dz_E dz_pp xo (d + 1) 38 [dz_r 41] (sh, rf, M) Q := by
  refine ⟨Nat.le_of_ble_eq_true rfl, ?_⟩
  have hc := dz_E_m dz_pp xo (d + 0)
  show dz_X (dz_E dz_pp xo (d + 0)) dz_pp xo (dz_pp 38) Q 0 [some (dz_r 41)] [] 0 0 (sh, rf, M)
  obtain ⟨c0, c1, c2, c3, c4, c5, c6, c7, c8, c9, c10, c11, c12, c13, c14, c15, c16, c17, c18, c19, c20, c21, c22, c23, c24, c25, c26, c27, c28, c29, c30, c31, c32, c33, c34, c35, c36⟩ := id hl
  have r0 : sh[41]? = some (.inl 3) := c22
  have r1 : rf 41 0 = 42 + 1 := c23
  have r2 : sh[42]? = some (.inl 1) := c24.1
  have r3 : rf 42 6 = 43 + 1 := c24.2.1
  have r4 : sh[43]? = some (.inr (0, 6)) := c24.2.2.1
  have r5 : rf 42 7 = 44 + 1 := c24.2.2.2.1
  have r6 : sh[44]? = some (.inr (0, 6)) := c24.2.2.2.2.1
  have r7 : rf 42 8 = 45 + 1 := c24.2.2.2.2.2.1
  have r8 : sh[45]? = some (.inr (0, 6)) := c24.2.2.2.2.2.2.1
  have r9 : rf 42 9 = 46 + 1 := c24.2.2.2.2.2.2.2.1
  have r10 : sh[46]? = some (.inr (0, 6)) := c24.2.2.2.2.2.2.2.2.1
  have r11 : rf 42 10 = 47 + 1 := c24.2.2.2.2.2.2.2.2.2.1
  have r12 : sh[47]? = some (.inr (0, 6)) := c24.2.2.2.2.2.2.2.2.2.2.1
  have r13 := c10 tx htx
  have lp : ∀ (m_ : Nat) (a : Nat) (N : Nat → Nat → Int), a + m_ = nn → (∀ q2 k2, ¬ (q2 = 41 ∧ k2 = 3) → N q2 k2 = M q2 k2) → N 41 3 = (a : Int) → skp c nn p = sk c m_ a → dz_X (dz_E dz_pp xo (d + 0)) dz_pp xo (dz_pp 38) Q 0 [some (dz_r 41)] [] 0 0 (sh, rf, N) := by
    intro m_
    induction m_ with
    | zero =>
      intro a N ha g1 g2 g3
      have e2 : N 41 2 = (nn : Int) := by rw [g1 _ _ (by omega)]; exact h2
      have g3b : skp c nn p = a := g3
      refine xr_aloadn hc rfl rfl ?_
      refine xr_getfi hc rfl (Or.inl rfl) (by first | assumption | rfl) ?_
      rw [g2]
      refine xr_aloadn hc rfl rfl ?_
      refine xr_getfi hc rfl (Or.inl rfl) (by first | assumption | rfl) ?_
      rw [e2]
      refine xr_icmp_ge hc rfl (t := 38) rfl (fun b8 => ?_) (fun b8 => ?_)
      · refine xr_return hc rfl rfl (Nat.zero_le _) (Nat.zero_le _) ?_
        exact hQ N g1 (by rw [g2, g3b])
      · omega
    | succ m_ ih =>
      intro a N ha g1 g2 g3
      have e2 : N 41 2 = (nn : Int) := by rw [g1 _ _ (by omega)]; exact h2
      obtain ⟨z1, z2, z3⟩ := hc2 a (by omega)
      have e3 : N (10 + tx) a = c a := by rw [g1 _ _ (by omega)]; exact z1
      have es : sk c (m_ + 1) a = if c a = 32 then sk c m_ (a + 1) else a := rfl
      refine xr_aloadn hc rfl rfl ?_
      refine xr_getfi hc rfl (Or.inl rfl) (by first | assumption | rfl) ?_
      rw [g2]
      refine xr_aloadn hc rfl rfl ?_
      refine xr_getfi hc rfl (Or.inl rfl) (by first | assumption | rfl) ?_
      rw [e2]
      refine xr_icmp_ge hc rfl (t := 38) rfl (fun b8 => ?_) (fun b8 => ?_)
      · refine xr_return hc rfl rfl (Nat.zero_le _) (Nat.zero_le _) ?_
        first
          | (exfalso; omega)
          | exact hQ N g1 (by rw [g2, g3, es, if_neg (by omega)])
      · refine xr_aloadn hc rfl rfl ?_
        refine xr_getfr hc rfl rfl (by first | assumption | rfl) (by first | assumption | rfl) ?_
        refine xr_aloadn hc rfl rfl ?_
        refine xr_getfi hc rfl (Or.inl rfl) (by first | assumption | rfl) ?_
        rw [g2]
        refine xr_baload hc rfl (by first | assumption | rfl) (by first | omega | (unfold dz_w; omega)) (by first | omega | (unfold dz_w; omega)) ?_
        rw [Int.toNat_natCast, e3]
        refine xr_bipush hc rfl ?_
        refine xr_icmp_ne hc rfl (t := 38) rfl (fun b22 => ?_) (fun b22 => ?_)
        · refine xr_return hc rfl rfl (Nat.zero_le _) (Nat.zero_le _) ?_
          first
            | (exfalso; omega)
            | exact hQ N g1 (by rw [g2, g3, es, if_neg (by omega)])
        · refine xr_aloadn hc rfl rfl ?_
          refine xr_dup hc rfl rfl ?_
          refine xr_getfi hc rfl (Or.inl rfl) (by first | assumption | rfl) ?_
          rw [g2]
          refine xr_iconst hc rfl ?_
          refine xr_iaddz hc rfl (by first | exact dz_wid (by first | omega | (unfold dz_w; omega)) (by first | omega | (unfold dz_w; omega)) | rfl) ?_
          refine xr_putfi hc rfl rfl (by first | assumption | rfl) ?_
          refine xr_goto hc rfl (t := 0) rfl ?_
          exact ih (a + 1) _ (by omega) (fun q2 k2 v => by
            by_cases e : q2 = 41
            · subst e
              rw [dz_up_k (by omega), g1 _ _ v]
            · rw [dz_up_ne e, g1 _ _ v]) (by rw [dz_up_eq]; omega) (by rw [g3, es, if_pos (by omega)])
  exact lp (nn - p) p M (by omega) (fun _ _ _ => rfl) h3 rfl
set_option maxRecDepth 100000 in
theorem S_readFigure {xo : Nat → List Int} {d : Nat} {Q : dz_Q} {sh : List (Nat ⊕ (Nat × Nat))} {rf : Nat → Nat → Nat} {M : Nat → Nat → Int} {tx nn p : Nat} {c : Nat → Int} (hl : cl sh rf) (htx : tx < 4) (hrf : rf 41 1 = 10 + tx + 1) (hn : nn ≤ 60) (hc2 : ∀ k, k < nn → M (10 + tx) k = c k ∧ -128 ≤ c k ∧ c k ≤ 127) (h2 : M 41 2 = (nn : Int)) (h3 : M 41 3 = (p : Int)) (hp : p ≤ nn) {lo hi : Int} (h1 : fig c nn lo hi p → ∀ M2 : Nat → Nat → Int, (∀ q2 k2, ¬ (q2 = 41 ∧ k2 = 3) → M2 q2 k2 = M q2 k2) → M2 41 3 = ((p + 1 : Nat) : Int) → Q (some (dz_i (c p - 48))) (sh, rf, M2)) (h0 : ¬ fig c nn lo hi p → Q (some (dz_i (-9))) (sh, rf, M)) : dz_E dz_pp xo (d + 2) 43 [dz_r 41, dz_i lo, dz_i hi] (sh, rf, M) Q := by
  refine ⟨Nat.le_of_ble_eq_true rfl, ?_⟩
  have hc := dz_E_m dz_pp xo (d + 1)
  show dz_X (dz_E dz_pp xo (d + 1)) dz_pp xo (dz_pp 43) Q 0 [some (dz_r 41), some (dz_i lo), some (dz_i hi), none] [] 0 0 (sh, rf, M)
  obtain ⟨c0, c1, c2, c3, c4, c5, c6, c7, c8, c9, c10, c11, c12, c13, c14, c15, c16, c17, c18, c19, c20, c21, c22, c23, c24, c25, c26, c27, c28, c29, c30, c31, c32, c33, c34, c35, c36⟩ := id hl
  have r0 : sh[41]? = some (.inl 3) := c22
  have r1 : rf 41 0 = 42 + 1 := c23
  have r2 : sh[42]? = some (.inl 1) := c24.1
  have r3 : rf 42 6 = 43 + 1 := c24.2.1
  have r4 : sh[43]? = some (.inr (0, 6)) := c24.2.2.1
  have r5 : rf 42 7 = 44 + 1 := c24.2.2.2.1
  have r6 : sh[44]? = some (.inr (0, 6)) := c24.2.2.2.2.1
  have r7 : rf 42 8 = 45 + 1 := c24.2.2.2.2.2.1
  have r8 : sh[45]? = some (.inr (0, 6)) := c24.2.2.2.2.2.2.1
  have r9 : rf 42 9 = 46 + 1 := c24.2.2.2.2.2.2.2.1
  have r10 : sh[46]? = some (.inr (0, 6)) := c24.2.2.2.2.2.2.2.2.1
  have r11 : rf 42 10 = 47 + 1 := c24.2.2.2.2.2.2.2.2.2.1
  have r12 : sh[47]? = some (.inr (0, 6)) := c24.2.2.2.2.2.2.2.2.2.2.1
  have r13 := c10 tx htx
  refine xr_aloadn hc rfl rfl ?_
  refine xr_getfi hc rfl (Or.inl rfl) (by first | assumption | rfl) ?_
  rw [h3]
  refine xr_aloadn hc rfl rfl ?_
  refine xr_getfi hc rfl (Or.inl rfl) (by first | assumption | rfl) ?_
  rw [h2]
  refine xr_icmp_lt hc rfl (t := 14) rfl (fun b8 => ?_) (fun b8 => ?_)
  · obtain ⟨z1, z2, z3⟩ := hc2 p (by omega)
    refine xr_aloadn hc rfl rfl ?_
    refine xr_getfr hc rfl rfl (by first | assumption | rfl) (by first | assumption | rfl) ?_
    refine xr_aloadn hc rfl rfl ?_
    refine xr_getfi hc rfl (Or.inl rfl) (by first | assumption | rfl) ?_
    rw [h3]
    refine xr_baload hc rfl (by first | assumption | rfl) (by first | omega | (unfold dz_w; omega)) (by first | omega | (unfold dz_w; omega)) ?_
    rw [Int.toNat_natCast, z1]
    refine xr_bipush hc rfl ?_
    refine xr_isubz hc rfl (by first | exact dz_wid (by first | omega | (unfold dz_w; omega)) (by first | omega | (unfold dz_w; omega)) | rfl) ?_
    refine xr_istore3 hc rfl rfl ?_
    refine xr_iloadn hc rfl rfl ?_
    refine xr_iloadn hc rfl rfl ?_
    refine xr_iloadn hc rfl rfl ?_
    refine xr_calls3 hc rfl (by decide) rfl rfl rfl (Nat.le_of_ble_eq_true rfl) (Nat.zero_le _) (Nat.zero_le _) ?_
    refine S_isWithin (fun u1 v1 => ?_) (fun u1 => ?_)
    · refine xk_1 ?_
      refine xr_ift hc rfl (t := 39) rfl (by simp [dz_cmp]) ?_
      refine xr_aloadn hc rfl rfl ?_
      refine xr_dup hc rfl rfl ?_
      refine xr_getfi hc rfl (Or.inl rfl) (by first | assumption | rfl) ?_
      rw [h3]
      refine xr_iconst hc rfl ?_
      refine xr_iaddz hc rfl (by first | exact dz_wid (by first | omega | (unfold dz_w; omega)) (by first | omega | (unfold dz_w; omega)) | rfl) ?_
      refine xr_putfi hc rfl rfl (by first | assumption | rfl) ?_
      refine xr_iloadn hc rfl rfl ?_
      refine xr_ireturn hc rfl rfl (Nat.zero_le _) (Nat.zero_le _) ?_
      refine h1 ⟨by omega, by omega, by omega⟩ _ (fun q2 k2 v => ?_) (by rw [dz_up_eq]; omega)
      by_cases e : q2 = 41
      · subst e
        rw [dz_up_k (by omega)]
      · rw [dz_up_ne e]
    · refine xk_1 ?_
      refine xr_iff hc rfl (by simp [dz_cmp]) ?_
      refine xr_bipush hc rfl ?_
      refine xr_ireturn hc rfl rfl (Nat.zero_le _) (Nat.zero_le _) ?_
      exact h0 (fun z => by have z2 := z.2; omega)
  · refine xr_bipush hc rfl ?_
    refine xr_ireturn hc rfl rfl (Nat.zero_le _) (Nat.zero_le _) ?_
    exact h0 (fun z => by have z2 := z.1; omega)
set_option maxRecDepth 100000 in
theorem S_readHead {xo : Nat → List Int} {d : Nat} {Q : dz_Q} {sh : List (Nat ⊕ (Nat × Nat))} {rf : Nat → Nat → Nat} {M : Nat → Nat → Int} {tx nn p : Nat} {c : Nat → Int} (hl : cl sh rf) (htx : tx < 4) (hrf : rf 41 1 = 10 + tx + 1) (hn : nn ≤ 60) (hc2 : ∀ k, k < nn → M (10 + tx) k = c k ∧ -128 ≤ c k ∧ c k ≤ 127) (h2 : M 41 2 = (nn : Int)) (h3 : M 41 3 = (p : Int)) (hp : p ≤ nn) (hp0 : p = 0) (h1 : (rh c nn < nn ∧ c (rh c nn) = 100) → fig c nn 6 9 (rh c nn + 1) → ∀ M2 : Nat → Nat → Int, (∀ q2 k2, ¬ (q2 = 41 ∧ k2 = 3) → ¬ (q2 = 42 ∧ k2 = 1) → M2 q2 k2 = M q2 k2) → M2 41 3 = ((rh c nn + 2 : Nat) : Int) → M2 42 1 = c (rh c nn + 1) - 48 → Q (some (dz_i 1)) (sh, rf, M2)) (h0 : ¬ (rh c nn < nn ∧ c (rh c nn) = 100) → ∀ M2 : Nat → Nat → Int, (∀ q2 k2, ¬ (q2 = 41 ∧ k2 = 3) → ¬ (q2 = 42 ∧ k2 = 1) → M2 q2 k2 = M q2 k2) → M2 41 3 = (rh c nn : Int) → Q (some (dz_i 0)) (sh, rf, M2)) (h4 : (rh c nn < nn ∧ c (rh c nn) = 100) → ¬ fig c nn 6 9 (rh c nn + 1) → ∀ M2 : Nat → Nat → Int, (∀ q2 k2, ¬ (q2 = 41 ∧ k2 = 3) → ¬ (q2 = 42 ∧ k2 = 1) → M2 q2 k2 = M q2 k2) → M2 41 3 = ((rh c nn + 1 : Nat) : Int) → Q (some (dz_i 0)) (sh, rf, M2)) : dz_E dz_pp xo (d + 3) 39 [dz_r 41] (sh, rf, M) Q := by
  refine ⟨Nat.le_of_ble_eq_true rfl, ?_⟩
  have hc := dz_E_m dz_pp xo (d + 2)
  show dz_X (dz_E dz_pp xo (d + 2)) dz_pp xo (dz_pp 39) Q 0 [some (dz_r 41), none] [] 0 0 (sh, rf, M)
  obtain ⟨c0, c1, c2, c3, c4, c5, c6, c7, c8, c9, c10, c11, c12, c13, c14, c15, c16, c17, c18, c19, c20, c21, c22, c23, c24, c25, c26, c27, c28, c29, c30, c31, c32, c33, c34, c35, c36⟩ := id hl
  have r0 : sh[41]? = some (.inl 3) := c22
  have r1 : rf 41 0 = 42 + 1 := c23
  have r2 : sh[42]? = some (.inl 1) := c24.1
  have r3 : rf 42 6 = 43 + 1 := c24.2.1
  have r4 : sh[43]? = some (.inr (0, 6)) := c24.2.2.1
  have r5 : rf 42 7 = 44 + 1 := c24.2.2.2.1
  have r6 : sh[44]? = some (.inr (0, 6)) := c24.2.2.2.2.1
  have r7 : rf 42 8 = 45 + 1 := c24.2.2.2.2.2.1
  have r8 : sh[45]? = some (.inr (0, 6)) := c24.2.2.2.2.2.2.1
  have r9 : rf 42 9 = 46 + 1 := c24.2.2.2.2.2.2.2.1
  have r10 : sh[46]? = some (.inr (0, 6)) := c24.2.2.2.2.2.2.2.2.1
  have r11 : rf 42 10 = 47 + 1 := c24.2.2.2.2.2.2.2.2.2.1
  have r12 : sh[47]? = some (.inr (0, 6)) := c24.2.2.2.2.2.2.2.2.2.2.1
  have r13 := c10 tx htx
  refine xr_aloadn hc rfl rfl ?_
  refine xr_callv0 hc rfl (by first | assumption | rfl) rfl rfl rfl (Nat.le_of_ble_eq_true rfl) (Nat.zero_le _) (Nat.zero_le _) ?_
  refine S_skipBlanks hl htx hrf hn hc2 h2 h3 hp (fun N g1 g2 => ?_)
  rw [hp0] at g2
  have g2 : N 41 3 = (rh c nn : Int) := g2
  have e2 : N 41 2 = (nn : Int) := by rw [g1 _ _ (by omega)]; exact h2
  have hle := (skp_in (c := c) (n := nn) (p := 0) (by omega)).2
  have hle : rh c nn ≤ nn := hle
  refine xk_0 ?_
  refine xr_aloadn hc rfl rfl ?_
  refine xr_getfi hc rfl (Or.inl rfl) (by first | assumption | rfl) ?_
  rw [g2]
  refine xr_aloadn hc rfl rfl ?_
  refine xr_getfi hc rfl (Or.inl rfl) (by first | assumption | rfl) ?_
  rw [e2]
  refine xr_icmp_ge hc rfl (t := 29) rfl (fun b12 => ?_) (fun b12 => ?_)
  · refine xr_iconst hc rfl ?_
    refine xr_zreturn hc rfl rfl (Nat.zero_le _) (Nat.zero_le _) (by first | exact Or.inl rfl | exact Or.inr rfl | assumption) ?_
    exact h0 (by omega) N (fun q2 k2 v1 v2 => g1 _ _ v1) g2
  · obtain ⟨z1, z2, z3⟩ := hc2 (rh c nn) (by omega)
    have e3 : N (10 + tx) (rh c nn) = c (rh c nn) := by rw [g1 _ _ (by omega)]; exact z1
    refine xr_aloadn hc rfl rfl ?_
    refine xr_getfr hc rfl rfl (by first | assumption | rfl) (by first | assumption | rfl) ?_
    refine xr_aloadn hc rfl rfl ?_
    refine xr_getfi hc rfl (Or.inl rfl) (by first | assumption | rfl) ?_
    rw [g2]
    refine xr_baload hc rfl (by first | assumption | rfl) (by first | omega | (unfold dz_w; omega)) (by first | omega | (unfold dz_w; omega)) ?_
    rw [Int.toNat_natCast, e3]
    refine xr_bipush hc rfl ?_
    refine xr_icmp_eq hc rfl (t := 31) rfl (fun b26 => ?_) (fun b26 => ?_)
    · refine xr_aloadn hc rfl rfl ?_
      refine xr_dup hc rfl rfl ?_
      refine xr_getfi hc rfl (Or.inl rfl) (by first | assumption | rfl) ?_
      rw [g2]
      refine xr_iconst hc rfl ?_
      refine xr_iaddz hc rfl (by first | exact dz_wid (by first | omega | (unfold dz_w; omega)) (by first | omega | (unfold dz_w; omega)) | rfl) ?_
      refine xr_putfi hc rfl rfl (by first | assumption | rfl) ?_
      refine xr_aloadn hc rfl rfl ?_
      refine xr_bipush hc rfl ?_
      refine xr_bipush hc rfl ?_
      refine xr_callv2 hc rfl (by first | assumption | rfl) rfl rfl rfl (Nat.le_of_ble_eq_true rfl) (Nat.zero_le _) (Nat.zero_le _) ?_
      refine S_readFigure (tx := tx) (nn := nn) (p := rh c nn + 1) (c := c) hl htx hrf hn (fun k hk => by rw [dz_up_ne (by omega), g1 _ _ (by omega)]; exact hc2 k hk) (by rw [dz_up_k (by omega)]; exact e2) (by rw [dz_up_eq]; omega) (by omega) (fun y N2 y1 y2 => ?_) (fun y => ?_)
      · refine xk_1 ?_
        refine xr_istore1 hc rfl rfl ?_
        refine xr_iloadn hc rfl rfl ?_
        refine xr_bipush hc rfl ?_
        refine xr_icmp_ne hc rfl (t := 58) rfl (fun b53 => ?_) (fun b53 => ?_)
        · refine xr_aloadn hc rfl rfl ?_
          refine xr_getfr hc rfl rfl (by first | assumption | rfl) (by first | assumption | rfl) ?_
          refine xr_iloadn hc rfl rfl ?_
          refine xr_putfi hc rfl rfl (by first | assumption | rfl) ?_
          refine xr_iconst hc rfl ?_
          refine xr_zreturn hc rfl rfl (Nat.zero_le _) (Nat.zero_le _) (by first | exact Or.inl rfl | exact Or.inr rfl | assumption) ?_
          refine h1 ⟨by omega, by omega⟩ y _ (fun q2 k2 v1 v2 => ?_) (by rw [dz_up_ne (by omega)]; exact y2) (by rw [dz_up_eq])
          by_cases e : q2 = 42
          · subst e
            rw [dz_up_k (by omega), y1 _ _ (by omega), dz_up_ne (by omega), g1 _ _ (by omega)]
          · rw [dz_up_ne e, y1 _ _ v1]
            by_cases e2 : q2 = 41
            · subst e2
              rw [dz_up_k (by omega), g1 _ _ v1]
            · rw [dz_up_ne e2, g1 _ _ v1]
        · refine xr_iconst hc rfl ?_
          refine xr_zreturn hc rfl rfl (Nat.zero_le _) (Nat.zero_le _) (by first | exact Or.inl rfl | exact Or.inr rfl | assumption) ?_
          exfalso
          omega
      · refine xk_1 ?_
        refine xr_istore1 hc rfl rfl ?_
        refine xr_iloadn hc rfl rfl ?_
        refine xr_bipush hc rfl ?_
        refine xr_icmp_ne hc rfl (t := 58) rfl (fun b53 => ?_) (fun b53 => ?_)
        · refine xr_aloadn hc rfl rfl ?_
          refine xr_getfr hc rfl rfl (by first | assumption | rfl) (by first | assumption | rfl) ?_
          refine xr_iloadn hc rfl rfl ?_
          refine xr_putfi hc rfl rfl (by first | assumption | rfl) ?_
          refine xr_iconst hc rfl ?_
          refine xr_zreturn hc rfl rfl (Nat.zero_le _) (Nat.zero_le _) (by first | exact Or.inl rfl | exact Or.inr rfl | assumption) ?_
          exfalso
          omega
        · refine xr_iconst hc rfl ?_
          refine xr_zreturn hc rfl rfl (Nat.zero_le _) (Nat.zero_le _) (by first | exact Or.inl rfl | exact Or.inr rfl | assumption) ?_
          refine h4 ⟨by omega, by omega⟩ y _ (fun q2 k2 v1 v2 => ?_) (by rw [dz_up_eq]; omega)
          by_cases e2 : q2 = 41
          · subst e2
            rw [dz_up_k (by omega), g1 _ _ v1]
          · rw [dz_up_ne e2, g1 _ _ v1]
    · refine xr_iconst hc rfl ?_
      refine xr_zreturn hc rfl rfl (Nat.zero_le _) (Nat.zero_le _) (by first | exact Or.inl rfl | exact Or.inr rfl | assumption) ?_
      exact h0 (by omega) N (fun q2 k2 v1 v2 => g1 _ _ v1) g2
set_option maxRecDepth 100000 in
theorem S_readLetter {xo : Nat → List Int} {d : Nat} {Q : dz_Q} {sh : List (Nat ⊕ (Nat × Nat))} {rf : Nat → Nat → Nat} {M : Nat → Nat → Int} {tx nn p : Nat} {c : Nat → Int} (hl : cl sh rf) (htx : tx < 4) (hrf : rf 41 1 = 10 + tx + 1) (hn : nn ≤ 60) (hc2 : ∀ k, k < nn → M (10 + tx) k = c k ∧ -128 ≤ c k ∧ c k ≤ 127) (h2 : M 41 2 = (nn : Int)) (h3 : M 41 3 = (p : Int)) (hp : p ≤ nn) (hx1 : xo 1 = dz_xs1) (hlt : p < nn) (h1 : ∀ {k : Nat}, kl (c p) = (k : Int) → ∀ M2 : Nat → Nat → Int, (∀ q2 k2, ¬ (q2 = 41 ∧ k2 = 3) → M2 q2 k2 = M q2 k2) → M2 41 3 = ((p + 1 : Nat) : Int) → Q (some (dz_i (k : Int))) (sh, rf, M2)) (h0 : kl (c p) = -9 → Q (some (dz_i (-9))) (sh, rf, M)) : dz_E dz_pp xo (d + 1) 41 [dz_r 41] (sh, rf, M) Q := by
  refine ⟨Nat.le_of_ble_eq_true rfl, ?_⟩
  have hc := dz_E_m dz_pp xo (d + 0)
  show dz_X (dz_E dz_pp xo (d + 0)) dz_pp xo (dz_pp 41) Q 0 [some (dz_r 41), none] [] 0 0 (sh, rf, M)
  obtain ⟨c0, c1, c2, c3, c4, c5, c6, c7, c8, c9, c10, c11, c12, c13, c14, c15, c16, c17, c18, c19, c20, c21, c22, c23, c24, c25, c26, c27, c28, c29, c30, c31, c32, c33, c34, c35, c36⟩ := id hl
  have r0 : sh[41]? = some (.inl 3) := c22
  have r1 : rf 41 0 = 42 + 1 := c23
  have r2 : sh[42]? = some (.inl 1) := c24.1
  have r3 : rf 42 6 = 43 + 1 := c24.2.1
  have r4 : sh[43]? = some (.inr (0, 6)) := c24.2.2.1
  have r5 : rf 42 7 = 44 + 1 := c24.2.2.2.1
  have r6 : sh[44]? = some (.inr (0, 6)) := c24.2.2.2.2.1
  have r7 : rf 42 8 = 45 + 1 := c24.2.2.2.2.2.1
  have r8 : sh[45]? = some (.inr (0, 6)) := c24.2.2.2.2.2.2.1
  have r9 : rf 42 9 = 46 + 1 := c24.2.2.2.2.2.2.2.1
  have r10 : sh[46]? = some (.inr (0, 6)) := c24.2.2.2.2.2.2.2.2.1
  have r11 : rf 42 10 = 47 + 1 := c24.2.2.2.2.2.2.2.2.2.1
  have r12 : sh[47]? = some (.inr (0, 6)) := c24.2.2.2.2.2.2.2.2.2.2.1
  have r13 := c10 tx htx
  obtain ⟨z1, z2, z3⟩ := hc2 p hlt
  have lp : ∀ (m_ : Nat) (k : Nat), k + m_ = 6 → (∀ i, i < k → dz_xs1.getD i 0 ≠ c p) → dz_X (dz_E dz_pp xo (d + 0)) dz_pp xo (dz_pp 41) Q 2 [some (dz_r 41), some (dz_i (k : Int))] [] 0 0 (sh, rf, M) := by
    intro m_
    induction m_ with
    | zero =>
      intro k hk hne
      have ek : k = 6 := by omega
      subst ek
      have kn : kl (c p) = -9 := by
        have q0 : (110 : Int) ≠ c p := hne 0 (by omega)
        have q1 : (97 : Int) ≠ c p := hne 1 (by omega)
        have q2 : (106 : Int) ≠ c p := hne 2 (by omega)
        have q3 : (115 : Int) ≠ c p := hne 3 (by omega)
        have q4 : (116 : Int) ≠ c p := hne 4 (by omega)
        have q5 : (101 : Int) ≠ c p := hne 5 (by omega)
        unfold kl
        rw [if_neg (by omega), if_neg (by omega), if_neg (by omega), if_neg (by omega), if_neg (by omega), if_neg (by omega)]
      refine xr_iloadn hc rfl rfl ?_
      refine xr_bipush hc rfl ?_
      refine xr_icmp_ge hc rfl (t := 54) rfl (fun b5 => ?_) (fun b5 => ?_)
      · refine xr_bipush hc rfl ?_
        refine xr_ireturn hc rfl rfl (Nat.zero_le _) (Nat.zero_le _) ?_
        exact h0 kn
      · omega
    | succ m_ ih =>
      intro k hk hne
      have hlen : (xo 1).length = 6 := by rw [hx1]; rfl
      have hkl : c p = dz_xs1.getD k 0 → kl (c p) = (k : Int) := fun z => by
        rw [z]
        rcases (show k = 0 ∨ k = 1 ∨ k = 2 ∨ k = 3 ∨ k = 4 ∨ k = 5 by omega) with e | e | e | e | e | e <;> subst e <;> rfl
      refine xr_iloadn hc rfl rfl ?_
      refine xr_bipush hc rfl ?_
      refine xr_icmp_ge hc rfl (t := 54) rfl (fun b5 => ?_) (fun b5 => ?_)
      · omega
      · refine xr_aloadn hc rfl rfl ?_
        refine xr_getfi hc rfl (Or.inl rfl) (by first | assumption | rfl) ?_
        rw [h3]
        refine xr_aloadn hc rfl rfl ?_
        refine xr_getfi hc rfl (Or.inl rfl) (by first | assumption | rfl) ?_
        rw [h2]
        refine xr_icmp_ge hc rfl (t := 54) rfl (fun b16 => ?_) (fun b16 => ?_)
        · omega
        · refine xr_aloadn hc rfl rfl ?_
          refine xr_getfr hc rfl rfl (by first | assumption | rfl) (by first | assumption | rfl) ?_
          refine xr_aloadn hc rfl rfl ?_
          refine xr_getfi hc rfl (Or.inl rfl) (by first | assumption | rfl) ?_
          rw [h3]
          refine xr_baload hc rfl (by first | assumption | rfl) (by first | omega | (unfold dz_w; omega)) (by first | omega | (unfold dz_w; omega)) ?_
          rw [Int.toNat_natCast, z1]
          refine xr_getstatic hc rfl ?_
          refine xr_iloadn hc rfl rfl ?_
          first | refine xr_iaload hc rfl (by first | assumption | rfl) (by first | omega | (unfold dz_w; omega)) (by first | omega | (unfold dz_w; omega)) ?_ | refine xr_ialoado hc rfl (by first | omega | (unfold dz_w; omega)) (by first | omega | (unfold dz_w; omega)) ?_
          rw [Int.toNat_natCast, hx1]
          refine xr_icmp_ne hc rfl (t := 48) rfl (fun b33 => ?_) (fun b33 => ?_)
          · refine xr_iincz1 hc rfl rfl (by first | exact dz_wid (by first | omega | (unfold dz_w; omega)) (by first | omega | (unfold dz_w; omega)) | rfl) ?_
            refine xr_goto hc rfl (t := 2) rfl ?_
            exact ih (k + 1) (by omega) (fun i hi => by
              by_cases e : i = k
              · rw [e]
                exact fun z => absurd z.symm (by assumption)
              · exact hne i (by omega))
          · refine xr_aloadn hc rfl rfl ?_
            refine xr_dup hc rfl rfl ?_
            refine xr_getfi hc rfl (Or.inl rfl) (by first | assumption | rfl) ?_
            rw [h3]
            refine xr_iconst hc rfl ?_
            refine xr_iaddz hc rfl (by first | exact dz_wid (by first | omega | (unfold dz_w; omega)) (by first | omega | (unfold dz_w; omega)) | rfl) ?_
            refine xr_putfi hc rfl rfl (by first | assumption | rfl) ?_
            refine xr_iloadn hc rfl rfl ?_
            refine xr_ireturn hc rfl rfl (Nat.zero_le _) (Nat.zero_le _) ?_
            refine h1 ?_ _ (fun q2 k2 v => ?_) (by rw [dz_up_eq]; omega)
            · exact hkl (by assumption)
            · by_cases e : q2 = 41
              · subst e
                rw [dz_up_k (by omega)]
              · rw [dz_up_ne e]
  refine xr_iconst hc rfl ?_
  refine xr_istore1 hc rfl rfl ?_
  exact lp 6 0 (by omega) (fun i hi => by omega)
