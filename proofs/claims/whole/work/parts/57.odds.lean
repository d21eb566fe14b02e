/-! Chances: the class. Written by l2_57.py. -/
def mw (p : Nat) : Nat → Nat → Nat
  | 0, m => if m = 0 then 1 else 0
  | r + 1, m => mw p r m * (12 - p) + (if 0 < m then mw p r (m - 1) * p else 0)
def mit (b pl v : Int) (p R : Nat) : Nat → Nat
  | 0 => 0
  | k + 1 => mit b pl v p R k + if b + k * pl ≤ v then mw p R k else 0
theorem mw_le : ∀ p : Fin 13, ∀ R : Fin 7, ∀ k : Fin 8, mw p.val R.val k.val ≤ 3000000 := by decide +kernel
theorem mw_0 : ∀ p : Fin 13, ∀ R : Fin 7, ∀ k : Fin 8, R.val < k.val → mw p.val R.val k.val = 0 := by decide +kernel
theorem mw_b {p R k : Nat} (hp : p ≤ 12) (hR : R ≤ 6) (hk : k ≤ 7) : mw p R k ≤ 3000000 := mw_le ⟨p, by omega⟩ ⟨R, by omega⟩ ⟨k, by omega⟩
theorem mw_z {p R k : Nat} (hp : p ≤ 12) (hR : R ≤ 6) (hk : k ≤ 7) (h : R < k) : mw p R k = 0 := mw_0 ⟨p, by omega⟩ ⟨R, by omega⟩ ⟨k, by omega⟩ h
theorem mit_le {b pl v : Int} {p R : Nat} (hp : p ≤ 12) (hR : R ≤ 6) : ∀ k, k ≤ 7 → mit b pl v p R k ≤ 3000000 * k
  | 0, _ => by simp [mit]
  | k + 1, hk => by
    have ih := mit_le (b := b) (pl := pl) (v := v) hp hR k (by omega)
    have h1 := mw_b (k := k) hp hR (by omega)
    unfold mit
    split <;> omega
theorem mit_all {b pl v : Int} {p R : Nat} (hp : p ≤ 12) (hR : R ≤ 6) : ∀ k, R + 1 + k ≤ 7 → mit b pl v p R (R + 1 + k) = mit b pl v p R (R + 1)
  | 0, _ => rfl
  | k + 1, hk => by
    have ih := mit_all (b := b) (pl := pl) (v := v) hp hR k (by omega)
    have h1 := mw_z (k := R + 1 + k) hp hR (by omega) (by omega)
    show mit b pl v p R (R + 1 + k) + (if _ then mw p R (R + 1 + k) else 0) = _
    rw [h1, ih]
    split <;> omega
theorem dW_mul {a b : Nat} (ha : a ≤ 1000000000) (hb : b ≤ 10000) : dz_W ((a : Int) * (b : Int)) = ((a * b : Nat) : Int) := by
  have h1 : a * b ≤ 1000000000 * 10000 := Nat.mul_le_mul ha hb
  rw [← Int.natCast_mul]
  exact dz_W_id ⟨by omega, by omega⟩
def o_odds (up lo w pl : Int) (kd wt nx s : Nat → Int) (m v p : Int) : Int × Int × Int := if m < 0 ∨ 3 < m ∨ v < 0 ∨ 999 < v ∨ p < 0 ∨ 12 < p then (-1, up, lo) else if w = 0 then (-4, up, lo) else (1, o_sh (mit (t_at pl kd wt nx (fun k => s (5 + k)) m.toNat s) pl v p.toNat (t_l pl kd wt nx m.toNat s).length 7 : Nat) ((12 ^ (t_l pl kd wt nx m.toNat s).length : Nat) : Int))
def o_mid (up lo w pl : Int) (kd wt nx s : Nat → Int) (m p : Int) : Int × Int × Int := if m < 0 ∨ 3 < m ∨ p < 0 ∨ 12 < p then (-1, up, lo) else if w = 0 then (-4, up, lo) else (1, o_sh (12 * t_at pl kd wt nx (fun k => s (5 + k)) m.toNat s + (t_l pl kd wt nx m.toNat s).length * pl * p) 12)
set_option maxRecDepth 100000 in
theorem S_refusedChances {xo : Nat → List Int} {d : Nat} {Q : dz_Q} {sh : List (Nat ⊕ (Nat × Nat))} {rf : Nat → Nat → Nat} {M : Nat → Nat → Int} {rs : Nat → Int} {it : Nat → Nat → Int} {ts : Nat → Int} {ch : Nat → Nat → Int} {tl up lo : Int} {fn : Nat → Int} {w pl : Int} {kd wt nx : Nat → Int} {n : Nat} {hs : Nat → Nat → Int} {kp : Nat → Int} {kh : Nat → Nat → Nat → Int} {m p : Int} (hl : cl sh rf) (hR : RX M rs it ts ch tl up lo fn w pl kd wt nx n hs kp kh) (hW : WF rs it ts ch tl up lo fn w pl kd wt nx n hs kp kh) (h1 : (m < 0 ∨ 3 < m ∨ p < 0 ∨ 12 < p) → Q (some (dz_i (-1))) (sh, rf, M)) (h2 : 0 ≤ m → m ≤ 3 → 0 ≤ p → p ≤ 12 → w = 0 → Q (some (dz_i (-4))) (sh, rf, M)) (h3 : 0 ≤ m → m ≤ 3 → 0 ≤ p → p ≤ 12 → w ≠ 0 → Q (some (dz_i 0)) (sh, rf, M)) : dz_E dz_pp xo (d + 4) 106 [dz_r 0, dz_i m, dz_i p] (sh, rf, M) Q := by
  refine ⟨Nat.le_of_ble_eq_true rfl, ?_⟩
  have hc := dz_E_m dz_pp xo (d + 3)
  show dz_X (dz_E dz_pp xo (d + 3)) dz_pp xo (dz_pp 106) Q 0 [some (dz_r 0), some (dz_i m), some (dz_i p)] [] 0 0 (sh, rf, M)
  obtain ⟨c0, c1, c2, c3, c4, c5, c6, c7, c8, c9, c10, c11, c12, c13, c14, c15, c16, c17, c18, c19, c20, c21, c22, c23, c24, c25, c26, c27, c28, c29, c30, c31, c32, c33, c34, c35, c36⟩ := id hl
  refine xr_iloadn hc rfl rfl ?_
  refine xr_iconst hc rfl ?_
  refine xr_bipush hc rfl ?_
  refine xr_calls3 hc rfl (by decide) rfl rfl rfl (Nat.le_of_ble_eq_true rfl) (Nat.zero_le _) (Nat.zero_le _) ?_
  refine S_isWithin (fun u1 v1 => ?_) (fun u1 => ?_)
  · refine xk_1 ?_
    refine xr_iff hc rfl (by simp [dz_cmp]) ?_
    refine xr_aloadn hc rfl rfl ?_
    refine xr_iloadn hc rfl rfl ?_
    refine xr_iconst hc rfl ?_
    refine xr_callv2 hc rfl (by first | assumption | rfl) rfl rfl rfl (Nat.le_of_ble_eq_true rfl) (Nat.zero_le _) (Nat.zero_le _) ?_
    refine S_refusedSteps hl hR hW (fun u2 => ?_) (fun u2 v2 hw0 => ?_) (fun u2 v2 hw0 => ?_)
    · refine xk_1 ?_
      refine xr_goto hc rfl (t := 20) rfl ?_
      refine xr_ireturn hc rfl rfl (Nat.zero_le _) (Nat.zero_le _) ?_
      first
        | exact h1 (by omega)
        | exact h2 (by omega) (by omega) (by omega) (by omega) hw0
        | exact h3 (by omega) (by omega) (by omega) (by omega) hw0
    · refine xk_1 ?_
      refine xr_goto hc rfl (t := 20) rfl ?_
      refine xr_ireturn hc rfl rfl (Nat.zero_le _) (Nat.zero_le _) ?_
      first
        | exact h1 (by omega)
        | exact h2 (by omega) (by omega) (by omega) (by omega) hw0
        | exact h3 (by omega) (by omega) (by omega) (by omega) hw0
    · refine xk_1 ?_
      refine xr_goto hc rfl (t := 20) rfl ?_
      refine xr_ireturn hc rfl rfl (Nat.zero_le _) (Nat.zero_le _) ?_
      first
        | exact h1 (by omega)
        | exact h2 (by omega) (by omega) (by omega) (by omega) hw0
        | exact h3 (by omega) (by omega) (by omega) (by omega) hw0
  · refine xk_1 ?_
    refine xr_ift hc rfl (t := 19) rfl (by simp [dz_cmp]) ?_
    refine xr_iconst hc rfl ?_
    refine xr_ireturn hc rfl rfl (Nat.zero_le _) (Nat.zero_le _) ?_
    first
      | exact h1 (by omega)
      | exact h2 (by omega) (by omega) (by omega) (by omega) hw0
      | exact h3 (by omega) (by omega) (by omega) (by omega) hw0
set_option maxRecDepth 100000 in
theorem S_spreadMiss {xo : Nat → List Int} {d : Nat} {Q : dz_Q} {sh : List (Nat ⊕ (Nat × Nat))} {rf : Nat → Nat → Nat} {M : Nat → Nat → Int} {p : Int} {R : Nat} (hl : cl sh rf) (hp : 0 ≤ p ∧ p ≤ 12) (hR : R < 6) (h0 : ∀ k, k < 7 → M 59 k = ((mw p.toNat R k : Nat) : Int)) (hQ : ∀ M2 : Nat → Nat → Int, (∀ q2 k2, q2 ≠ 59 → M2 q2 k2 = M q2 k2) → (∀ k, k < 7 → M2 59 k = ((mw p.toNat (R + 1) k : Nat) : Int)) → Q none (sh, rf, M2)) : dz_E dz_pp xo (d + 1) 114 [dz_r 0, dz_i p] (sh, rf, M) Q := by
  refine ⟨Nat.le_of_ble_eq_true rfl, ?_⟩
  have hc := dz_E_m dz_pp xo (d + 0)
  show dz_X (dz_E dz_pp xo (d + 0)) dz_pp xo (dz_pp 114) Q 0 [some (dz_r 0), some (dz_i p), none, none, none] [] 0 0 (sh, rf, M)
  obtain ⟨c0, c1, c2, c3, c4, c5, c6, c7, c8, c9, c10, c11, c12, c13, c14, c15, c16, c17, c18, c19, c20, c21, c22, c23, c24, c25, c26, c27, c28, c29, c30, c31, c32, c33, c34, c35, c36⟩ := id hl
  have lp : ∀ (m_ : Nat) (N : Nat → Nat → Int) (e1 e2 : Option dz_V), m_ ≤ 7 → (∀ q2 k2, q2 ≠ 59 → N q2 k2 = M q2 k2) → (∀ k, k < m_ → N 59 k = ((mw p.toNat R k : Nat) : Int)) → (∀ k, m_ ≤ k → k < 7 → N 59 k = ((mw p.toNat (R + 1) k : Nat) : Int)) → dz_X (dz_E dz_pp xo (d + 0)) dz_pp xo (dz_pp 114) Q 3 [some (dz_r 0), some (dz_i p), some (dz_i ((m_ : Int) - 1)), e1, e2] [] 0 0 (sh, rf, N) := by
    intro m_
    induction m_ with
    | zero =>
      intro N e1 e2 hm h1 h2 h3
      refine xr_iloadn hc rfl rfl ?_
      refine xr_if_lt hc rfl (t := 53) rfl (fun b4 => ?_) (fun b4 => ?_)
      · refine xr_return hc rfl rfl (Nat.zero_le _) (Nat.zero_le _) ?_
        exact hQ N h1 (fun k hk => h3 k (by omega) hk)
      · omega
    | succ m_ ih =>
      intro N e1 e2 hm h1 h2 h3
      rw [show (((m_ + 1 : Nat) : Int) - 1) = (m_ : Int) by omega]
      have v0 := h2 m_ (by omega)
      have b0 : ((mw p.toNat R m_ : Nat) : Int) ≤ 3000000 := Int.ofNat_le.mpr (mw_b (by omega) (by omega) (by omega))
      have b1 : ((mw p.toNat R (m_ - 1) : Nat) : Int) ≤ 3000000 := Int.ofNat_le.mpr (mw_b (by omega) (by omega) (by omega))
      have b2 : ((mw p.toNat (R + 1) m_ : Nat) : Int) ≤ 3000000 := Int.ofNat_le.mpr (mw_b (by omega) (by omega) (by omega))
      have e12 : (12 : Int) - p = ((12 - p.toNat : Nat) : Int) := by omega
      have ep : p = ((p.toNat : Nat) : Int) := by omega
      have ez : ∀ a : Int, a * p = a * ((p.toNat : Nat) : Int) := fun a => by rw [← ep]
      have w0 := fun _ : Unit => dW_mul (a := mw p.toNat R m_) (b := 12 - p.toNat) (by omega) (by omega)
      have w1 := fun _ : Unit => dW_mul (a := mw p.toNat R (m_ - 1)) (b := p.toNat) (by omega) (by omega)
      have er : ∀ _ : Unit, mw p.toNat (R + 1) m_ = mw p.toNat R m_ * (12 - p.toNat) + (if 0 < m_ then mw p.toNat R (m_ - 1) * p.toNat else 0) := fun _ => rfl
      refine xr_iloadn hc rfl rfl ?_
      refine xr_if_lt hc rfl (t := 53) rfl (fun b4 => ?_) (fun b4 => ?_)
      · omega
      · refine xr_iloadn hc rfl rfl ?_
        refine xr_if_le hc rfl (t := 25) rfl (fun b8 => ?_) (fun b8 => ?_)
        · have hm0 : ¬ 0 < m_ := by omega
          refine xr_lconst hc rfl ?_
          refine xr_lstore3 hc rfl rfl ?_
          refine xr_aloadn hc rfl rfl ?_
          refine xr_getfr hc rfl rfl (by first | assumption | rfl) (by first | assumption | rfl) ?_
          refine xr_iloadn hc rfl rfl ?_
          refine xr_aloadn hc rfl rfl ?_
          refine xr_getfr hc rfl rfl (by first | assumption | rfl) (by first | assumption | rfl) ?_
          refine xr_iloadn hc rfl rfl ?_
          refine xr_laload hc rfl (by first | assumption | rfl) (by first | omega | (unfold dz_w; omega)) (by first | omega | (unfold dz_w; omega)) ?_
          rw [Int.toNat_natCast, v0]
          refine xr_bipush hc rfl ?_
          refine xr_iloadn hc rfl rfl ?_
          refine xr_isubz hc rfl (by first | exact dz_wid (by first | omega | (unfold dz_w; omega)) (by first | omega | (unfold dz_w; omega)) | rfl) ?_
          rw [e12]
          refine xr_i2l hc rfl ?_
          refine xr_lmul hc rfl ?_
          rw [w0 ()]
          refine xr_lloadn hc rfl rfl ?_
          refine xr_ladd hc rfl ?_
          have hfin : ∀ z : Int, dz_l z = dz_l ((mw p.toNat (R + 1) m_ : Nat) : Int) → z = ((mw p.toNat (R + 1) m_ : Nat) : Int) := fun z h => by simpa using h
          first
            | rw [show dz_W (((mw p.toNat R m_ * (12 - p.toNat) : Nat) : Int) + ((mw p.toNat R (m_ - 1) * p.toNat : Nat) : Int)) = ((mw p.toNat (R + 1) m_ : Nat) : Int) by have z := er (); rw [if_pos hm0] at z; rw [← Int.natCast_add, ← z]; exact dz_W_id ⟨by omega, by omega⟩]
            | rw [show dz_W (((mw p.toNat R m_ * (12 - p.toNat) : Nat) : Int) + ((0 : Fin 2).val : Int)) = ((mw p.toNat (R + 1) m_ : Nat) : Int) by have z : mw p.toNat (R + 1) m_ = mw p.toNat R m_ * (12 - p.toNat) := (by have y := er (); rw [if_neg hm0] at y; exact y); rw [← z, show (((0 : Fin 2).val : Int)) = 0 from rfl, Int.add_zero]; exact dz_W_id ⟨by omega, by omega⟩]
          refine xr_lastore hc rfl (by first | assumption | rfl) (by first | omega | (unfold dz_w; omega)) (by first | omega | (unfold dz_w; omega)) ?_
          rw [Int.toNat_natCast]
          refine xr_iincz2 hc rfl rfl (by first | exact dz_wid (by first | omega | (unfold dz_w; omega)) (by first | omega | (unfold dz_w; omega)) | rfl) ?_
          refine xr_goto hc rfl (t := 3) rfl ?_
          rw [show (m_ : Int) + -1 = (m_ : Int) - 1 by omega]
          refine ih _ _ _ (by omega) (fun q2 k2 u => by rw [dz_up_ne u, h1 _ _ u]) (fun k hk => ?_) (fun k hk1 hk2 => ?_)
          · rw [dz_up_k (by omega)]
            exact h2 k (by omega)
          · by_cases e : k = m_
            · rw [e, dz_up_eq]
            · rw [dz_up_k e]
              exact h3 k (by omega) hk2
        · have hm0 : 0 < m_ := by omega
          have im : ((m_ : Int) - 1).toNat = m_ - 1 := by omega
          have v1 := h2 (m_ - 1) (by omega)
          refine xr_aloadn hc rfl rfl ?_
          refine xr_getfr hc rfl rfl (by first | assumption | rfl) (by first | assumption | rfl) ?_
          refine xr_iloadn hc rfl rfl ?_
          refine xr_iconst hc rfl ?_
          refine xr_isubz hc rfl (by first | exact dz_wid (by first | omega | (unfold dz_w; omega)) (by first | omega | (unfold dz_w; omega)) | rfl) ?_
          refine xr_laload hc rfl (by first | assumption | rfl) (by first | omega | (unfold dz_w; omega)) (by first | omega | (unfold dz_w; omega)) ?_
          rw [im, v1]
          refine xr_iloadn hc rfl rfl ?_
          refine xr_i2l hc rfl ?_
          refine xr_lmul hc rfl ?_
          rw [ez, w1 ()]
          refine xr_goto hc rfl (t := 26) rfl ?_
          refine xr_lstore3 hc rfl rfl ?_
          refine xr_aloadn hc rfl rfl ?_
          refine xr_getfr hc rfl rfl (by first | assumption | rfl) (by first | assumption | rfl) ?_
          refine xr_iloadn hc rfl rfl ?_
          refine xr_aloadn hc rfl rfl ?_
          refine xr_getfr hc rfl rfl (by first | assumption | rfl) (by first | assumption | rfl) ?_
          refine xr_iloadn hc rfl rfl ?_
          refine xr_laload hc rfl (by first | assumption | rfl) (by first | omega | (unfold dz_w; omega)) (by first | omega | (unfold dz_w; omega)) ?_
          rw [Int.toNat_natCast, v0]
          refine xr_bipush hc rfl ?_
          refine xr_iloadn hc rfl rfl ?_
          refine xr_isubz hc rfl (by first | exact dz_wid (by first | omega | (unfold dz_w; omega)) (by first | omega | (unfold dz_w; omega)) | rfl) ?_
          rw [e12]
          refine xr_i2l hc rfl ?_
          refine xr_lmul hc rfl ?_
          rw [w0 ()]
          refine xr_lloadn hc rfl rfl ?_
          refine xr_ladd hc rfl ?_
          have hfin : ∀ z : Int, dz_l z = dz_l ((mw p.toNat (R + 1) m_ : Nat) : Int) → z = ((mw p.toNat (R + 1) m_ : Nat) : Int) := fun z h => by simpa using h
          first
            | rw [show dz_W (((mw p.toNat R m_ * (12 - p.toNat) : Nat) : Int) + ((mw p.toNat R (m_ - 1) * p.toNat : Nat) : Int)) = ((mw p.toNat (R + 1) m_ : Nat) : Int) by have z := er (); rw [if_pos hm0] at z; rw [← Int.natCast_add, ← z]; exact dz_W_id ⟨by omega, by omega⟩]
            | rw [show dz_W (((mw p.toNat R m_ * (12 - p.toNat) : Nat) : Int) + ((0 : Fin 2).val : Int)) = ((mw p.toNat (R + 1) m_ : Nat) : Int) by have z : mw p.toNat (R + 1) m_ = mw p.toNat R m_ * (12 - p.toNat) := (by have y := er (); rw [if_neg hm0] at y; exact y); rw [← z, show (((0 : Fin 2).val : Int)) = 0 from rfl, Int.add_zero]; exact dz_W_id ⟨by omega, by omega⟩]
          refine xr_lastore hc rfl (by first | assumption | rfl) (by first | omega | (unfold dz_w; omega)) (by first | omega | (unfold dz_w; omega)) ?_
          rw [Int.toNat_natCast]
          refine xr_iincz2 hc rfl rfl (by first | exact dz_wid (by first | omega | (unfold dz_w; omega)) (by first | omega | (unfold dz_w; omega)) | rfl) ?_
          refine xr_goto hc rfl (t := 3) rfl ?_
          rw [show (m_ : Int) + -1 = (m_ : Int) - 1 by omega]
          refine ih _ _ _ (by omega) (fun q2 k2 u => by rw [dz_up_ne u, h1 _ _ u]) (fun k hk => ?_) (fun k hk1 hk2 => ?_)
          · rw [dz_up_k (by omega)]
            exact h2 k (by omega)
          · by_cases e : k = m_
            · rw [e, dz_up_eq]
            · rw [dz_up_k e]
              exact h3 k (by omega) hk2
  refine xr_bipush hc rfl ?_
  refine xr_istore2 hc rfl rfl ?_
  exact lp 7 M _ _ (by omega) (fun _ _ _ => rfl) h0 (fun k h1 h2 => by omega)
set_option maxRecDepth 100000 in
theorem X_odds {xo : Nat → List Int} {d : Nat} {Q : dz_Q} {sh : List (Nat ⊕ (Nat × Nat))} {rf : Nat → Nat → Nat} {M : Nat → Nat → Int} {rs : Nat → Int} {it : Nat → Nat → Int} {ts : Nat → Int} {ch : Nat → Nat → Int} {tl up lo : Int} {fn : Nat → Int} {w pl : Int} {kd wt nx : Nat → Int} {n : Nat} {hs : Nat → Nat → Int} {kp : Nat → Int} {kh : Nat → Nat → Nat → Int} {m v p : Int} (hx : xo 2 = dz_xs2) (hl : cl sh rf) (hR : RX M rs it ts ch tl up lo fn w pl kd wt nx n hs kp kh) (hW : WF rs it ts ch tl up lo fn w pl kd wt nx n hs kp kh) (hQ : ∀ M2 : Nat → Nat → Int, (∀ q2 k2, 115 ≤ q2 → M2 q2 k2 = M q2 k2) → RX M2 rs it ts ch tl (o_odds up lo w pl kd wt nx (hs n) m v p).2.1 (o_odds up lo w pl kd wt nx (hs n) m v p).2.2 fn w pl kd wt nx n hs kp kh → Q (some (dz_i ((o_odds up lo w pl kd wt nx (hs n) m v p).1))) (sh, rf, M2)) : dz_E dz_pp xo (d + 5) 85 [dz_r 0, dz_i m, dz_i v, dz_i p] (sh, rf, M) Q := by
  refine ⟨Nat.le_of_ble_eq_true rfl, ?_⟩
  have hc := dz_E_m dz_pp xo (d + 4)
  show dz_X (dz_E dz_pp xo (d + 4)) dz_pp xo (dz_pp 85) Q 0 [some (dz_r 0), some (dz_i m), some (dz_i v), some (dz_i p), none, none, none, none, none, none, none] [] 0 0 (sh, rf, M)
  obtain ⟨c0, c1, c2, c3, c4, c5, c6, c7, c8, c9, c10, c11, c12, c13, c14, c15, c16, c17, c18, c19, c20, c21, c22, c23, c24, c25, c26, c27, c28, c29, c30, c31, c32, c33, c34, c35, c36⟩ := id hl
  obtain ⟨hrow, htxt, htl, hup, hlo, hfn, hdr, hkp, hrb⟩ := id hR
  obtain ⟨wrow, wtxt, wdr, wst, wkp⟩ := id hW
  have n0 : sh[23]? = some (.inl 1) := c14.2.2.2.2.1.1
  have n1 : rf 23 7 = 25 + 1 := c14.2.2.2.2.1.2.2.2.1
  have n2 : sh[25]? = some (.inr (0, 6)) := c14.2.2.2.2.1.2.2.2.2.1
  have n3 : rf 15 1 = 23 + 1 := c14.2.2.2.1
  have n4 : sh[15]? = some (.inl 0) := c14.1
  have n5 : ma_at sh rf 23 := c14.2.2.2.2.1
  have q0 : sh[34]? = some (.inl 1) := c20.1
  have q1 : rf 34 8 = 37 + 1 := c20.2.2.2.2.2.1
  have q2 : sh[37]? = some (.inr (0, 6)) := c20.2.2.2.2.2.2.1
  have q3 : sh[50]? = some (.inl 4) := c26.1
  refine xr_iloadn hc rfl rfl ?_
  refine xr_iconst hc rfl ?_
  refine xr_sipush hc rfl ?_
  refine xr_calls3 hc rfl (by decide) rfl rfl rfl (Nat.le_of_ble_eq_true rfl) (Nat.zero_le _) (Nat.zero_le _) ?_
  refine S_isWithin (fun u1 v1 => ?_) (fun u1 => ?_)
  · refine xk_1 ?_
    refine xr_iff hc rfl (by simp [dz_cmp]) ?_
    refine xr_aloadn hc rfl rfl ?_
    refine xr_iloadn hc rfl rfl ?_
    refine xr_iloadn hc rfl rfl ?_
    refine xr_callv2 hc rfl (by first | assumption | rfl) rfl rfl rfl (Nat.le_of_ble_eq_true rfl) (Nat.zero_le _) (Nat.zero_le _) ?_
    refine S_refusedChances hl hR hW (fun u2 => ?_) (fun u2 v2 u3 v3 hw0 => ?_) (fun u2 v2 u3 v3 hw0 => ?_)
    · refine xk_1 ?_
      refine xr_goto hc rfl (t := 21) rfl ?_
      refine xr_istore4 hc rfl rfl ?_
      refine xr_iload hc rfl rfl ?_
      refine xr_iff hc rfl (by simp [dz_cmp]) ?_
      refine xr_iload hc rfl rfl ?_
      refine xr_ireturn hc rfl rfl (Nat.zero_le _) (Nat.zero_le _) ?_
      simp only [o_odds] at hQ
      repeat (first | rw [if_pos (by omega)] at hQ | rw [if_neg (by omega)] at hQ)
      try dsimp only at hQ
      exact hQ M (fun _ _ _ => rfl) hR
    · refine xk_1 ?_
      refine xr_goto hc rfl (t := 21) rfl ?_
      refine xr_istore4 hc rfl rfl ?_
      refine xr_iload hc rfl rfl ?_
      refine xr_iff hc rfl (by simp [dz_cmp]) ?_
      refine xr_iload hc rfl rfl ?_
      refine xr_ireturn hc rfl rfl (Nat.zero_le _) (Nat.zero_le _) ?_
      simp only [o_odds] at hQ
      repeat (first | rw [if_pos (by omega)] at hQ | rw [if_neg (by omega)] at hQ)
      try dsimp only at hQ
      exact hQ M (fun _ _ _ => rfl) hR
    · refine xk_1 ?_
      refine xr_goto hc rfl (t := 21) rfl ?_
      refine xr_istore4 hc rfl rfl ?_
      refine xr_iload hc rfl rfl ?_
      refine xr_ift hc rfl (t := 31) rfl (by simp [dz_cmp]) ?_
      refine xr_aloadn hc rfl rfl ?_
      refine xr_iloadn hc rfl rfl ?_
      refine xr_callv1 hc rfl (by first | assumption | rfl) rfl rfl rfl (Nat.le_of_ble_eq_true rfl) (Nat.zero_le _) (Nat.zero_le _) ?_
      have hp := WF_p hW hw0
      have hst := wst.2 n (Nat.le_refl n)
      obtain ⟨p1, p2, p3, p4, p5⟩ := id hp
      obtain ⟨st0, st1, st2, st3, st4, st5, st6, st7, st8⟩ := id hst
      refine S_followSteps hx hl hR hW hw0 (by omega) (fun M1 K f1 f2 f3 f4 f5 f6 => ?_)
      have hln := t_l_in hp m.toNat _ _ hst (by omega)
      have hlen : (t_l pl kd wt nx m.toNat (hs n)).length ≤ 6 := by have z := hln.2; omega
      have hRd : M1 50 3 = ((t_l pl kd wt nx m.toNat (hs n)).length : Int) := by rw [f3.2.2.2.1, ← TR_end f4 f5]
      have hAt := t_at_in (sp := (fun k => hs n (5 + k))) (m := m.toNat) hp hst (by omega)
      have hnow : ∀ i : Nat, (i : Int) < w → M1 25 i = hs n (5 + i) := fun i hi => by
        rw [f1 _ _ (by omega) (by omega)]
        exact (hdr.2.1.2.2.2.2.2.2 i hi).2.1
      refine xk_0 ?_
      refine xr_aloadn hc rfl rfl ?_
      refine xr_getfr hc rfl rfl (by first | assumption | rfl) (by first | assumption | rfl) ?_
      refine xr_aloadn hc rfl rfl ?_
      refine xr_getfr hc rfl rfl (by first | assumption | rfl) (by first | assumption | rfl) ?_
      refine xr_getfr hc rfl rfl (by first | assumption | rfl) (by first | assumption | rfl) ?_
      refine xr_getfr hc rfl rfl (by first | assumption | rfl) (by first | assumption | rfl) ?_
      refine xr_iloadn hc rfl rfl ?_
      refine xr_callv2 hc rfl (by first | assumption | rfl) rfl rfl rfl (Nat.le_of_ble_eq_true rfl) (Nat.zero_le _) (Nat.zero_le _) ?_
      refine S_beatsAt (N := m.toNat) (sp := (fun k => hs n (5 + k))) hp hst (by omega) c26 f3 f4 (by omega) n2 (fun i hi => ?_) (fun i hi => ?_) (by omega) ?_
      · have z := hnow i hi
        have z2 := st8 i hi
        omega
      · have z := hnow i hi
        omega
      have lq : ∀ (m_ : Nat) (k : Nat) (N : Nat → Nat → Int), k + m_ = 7 → (∀ q2 k2, q2 ≠ 59 → N q2 k2 = M1 q2 k2) → (∀ i, i < 7 → N 59 i = ((mw p.toNat (t_l pl kd wt nx m.toNat (hs n)).length i : Nat) : Int)) → dz_X (dz_E dz_pp xo (d + 4)) dz_pp xo (dz_pp 85) Q 121 [some (dz_r 0), some (dz_i m), some (dz_i v), some (dz_i p), some (dz_i 0), some (dz_i (t_at pl kd wt nx (fun k => hs n (5 + k)) m.toNat (hs n))), some (dz_l ((12 ^ (t_l pl kd wt nx m.toNat (hs n)).length : Nat) : Int)), none, some (dz_l ((mit (t_at pl kd wt nx (fun k => hs n (5 + k)) m.toNat (hs n)) pl v p.toNat (t_l pl kd wt nx m.toNat (hs n)).length k : Nat) : Int)), none, some (dz_i (k : Int))] [] 0 0 (sh, rf, N) := by
        intro m_
        induction m_ with
        | zero =>
          intro k N hk h1 h2
          have ek : k = 7 := by omega
          subst ek
          have hml : ((mit (t_at pl kd wt nx (fun k => hs n (5 + k)) m.toNat (hs n)) pl v p.toNat (t_l pl kd wt nx m.toNat (hs n)).length 7 : Nat) : Int) ≤ 3000000 * ((7 : Nat) : Int) := by have z := mit_le (b := t_at pl kd wt nx (fun k => hs n (5 + k)) m.toNat (hs n)) (pl := pl) (v := v) (p := p.toNat) (R := (t_l pl kd wt nx m.toNat (hs n)).length) (by omega) hlen 7 (by omega); omega
          have h12 : ((12 ^ (t_l pl kd wt nx m.toNat (hs n)).length : Nat) : Int) ≤ 2985984 := Int.ofNat_le.mpr (Nat.le_trans (Nat.pow_le_pow_right (by omega) hlen) (by decide))
          refine xr_iload hc rfl rfl ?_
          refine xr_bipush hc rfl ?_
          refine xr_icmp_gt hc rfl (t := 166) rfl (fun b125 => ?_) (fun b125 => ?_)
          · refine xr_aloadn hc rfl rfl ?_
            refine xr_lload hc rfl rfl ?_
            refine xr_lload hc rfl rfl ?_
            refine xr_callv2 hc rfl (by first | assumption | rfl) rfl rfl rfl (Nat.le_of_ble_eq_true rfl) (Nat.zero_le _) (Nat.zero_le _) ?_
            refine S_tellShare c0 (by omega) (by omega) (fun M2 g1 g2 g3 => ?_)
            refine xk_0 ?_
            refine xr_iconst hc rfl ?_
            refine xr_ireturn hc rfl rfl (Nat.zero_le _) (Nat.zero_le _) ?_
            simp only [o_odds] at hQ
            rw [if_neg (by omega), if_neg hw0] at hQ
            have hRN := RX_scr f2 (M2 := N) ⟨fun q2 k2 u => h1 _ _ (by omega), fun q2 k2 u => h1 _ _ (by omega)⟩
            obtain ⟨hrow, htxt, htl, hup, hlo, hfn, hdr, hkp, hrb⟩ := id hRN
            refine hQ _ (fun q2 k2 u => by rw [g1 _ _ (by omega), h1 _ _ (by omega), f1 _ _ (by omega) (by omega)]) ⟨rowX_fr hrow (fun q2 k2 u1 u2 => g1 _ _ (by omega)), txtX_fr htxt (fun q2 k2 u1 u2 => g1 _ _ (by omega)), Eq.trans (g1 _ _ (by omega)) htl, g2, g3, fndX_fr hfn (g1 _ _ (by omega)) (fun k2 => g1 _ _ (by omega)), drX_fr hdr (fun q2 k2 u1 u2 => g1 _ _ (by omega)), kepX_fr hkp (fun q2 k2 u1 u2 => g1 _ _ (by omega)), rbX_fr hrb (fun q2 k2 u1 => g1 _ _ (by omega))⟩
          · omega
        | succ m_ ih =>
          intro k N hk h1 h2
          have n1 : N 23 1 = pl := by rw [h1 _ _ (by omega), f1 _ _ (by omega) (by omega)]; exact hdr.2.1.2.1
          have hkp2 := mul99 (a := (k : Int)) (b := pl) (by omega) (by omega)
          have hml : ((mit (t_at pl kd wt nx (fun k => hs n (5 + k)) m.toNat (hs n)) pl v p.toNat (t_l pl kd wt nx m.toNat (hs n)).length k : Nat) : Int) ≤ 3000000 * (k : Int) := by have z := mit_le (b := t_at pl kd wt nx (fun k => hs n (5 + k)) m.toNat (hs n)) (pl := pl) (v := v) (p := p.toNat) (R := (t_l pl kd wt nx m.toNat (hs n)).length) (by omega) hlen k (by omega); omega
          have hmb : ((mw p.toNat (t_l pl kd wt nx m.toNat (hs n)).length k : Nat) : Int) ≤ 3000000 := Int.ofNat_le.mpr (mw_b (by omega) hlen (by omega))
          have em : ∀ _ : Unit, mit (t_at pl kd wt nx (fun k => hs n (5 + k)) m.toNat (hs n)) pl v p.toNat (t_l pl kd wt nx m.toNat (hs n)).length (k + 1) = mit (t_at pl kd wt nx (fun k => hs n (5 + k)) m.toNat (hs n)) pl v p.toNat (t_l pl kd wt nx m.toNat (hs n)).length k + if t_at pl kd wt nx (fun k => hs n (5 + k)) m.toNat (hs n) + k * pl ≤ v then mw p.toNat (t_l pl kd wt nx m.toNat (hs n)).length k else 0 := fun _ => rfl
          have h2k := h2 k (by omega)
          refine xr_iload hc rfl rfl ?_
          refine xr_bipush hc rfl ?_
          refine xr_icmp_gt hc rfl (t := 166) rfl (fun b125 => ?_) (fun b125 => ?_)
          · omega
          · refine xr_iload hc rfl rfl ?_
            refine xr_iload hc rfl rfl ?_
            refine xr_aloadn hc rfl rfl ?_
            refine xr_getfr hc rfl rfl (by first | assumption | rfl) (by first | assumption | rfl) ?_
            refine xr_getfr hc rfl rfl (by first | assumption | rfl) (by first | assumption | rfl) ?_
            refine xr_getfi hc rfl (Or.inl rfl) (by first | assumption | rfl) ?_
            rw [n1]
            refine xr_imulz hc rfl (by first | exact dz_wid (by first | omega | (unfold dz_w; omega)) (by first | omega | (unfold dz_w; omega)) | rfl) ?_
            refine xr_iaddz hc rfl (by first | exact dz_wid (by first | omega | (unfold dz_w; omega)) (by first | omega | (unfold dz_w; omega)) | rfl) ?_
            refine xr_iloadn hc rfl rfl ?_
            refine xr_icmp_gt hc rfl (t := 160) rfl (fun b145 => ?_) (fun b145 => ?_)
            · refine xr_iincz10 hc rfl rfl (by first | exact dz_wid (by first | omega | (unfold dz_w; omega)) (by first | omega | (unfold dz_w; omega)) | rfl) ?_
              refine xr_goto hc rfl (t := 121) rfl ?_
              have em := em ()
              by_cases hv : t_at pl kd wt nx (fun k => hs n (5 + k)) m.toNat (hs n) + (k : Int) * pl ≤ v
              · rw [if_pos hv] at em
                first
                  | (exfalso; omega)
                  | (rw [← em]
                     exact ih (k + 1) N (by omega) h1 h2)
              · rw [if_neg hv, Nat.add_zero] at em
                first
                  | (exfalso; omega)
                  | (have l0 := ih (k + 1) N (by omega) h1 h2
                     rw [em] at l0
                     exact l0)
            · refine xr_lload hc rfl rfl ?_
              refine xr_aloadn hc rfl rfl ?_
              refine xr_getfr hc rfl rfl (by first | assumption | rfl) (by first | assumption | rfl) ?_
              refine xr_iload hc rfl rfl ?_
              refine xr_laload hc rfl (by first | assumption | rfl) (by first | omega | (unfold dz_w; omega)) (by first | omega | (unfold dz_w; omega)) ?_
              rw [Int.toNat_natCast, h2k]
              refine xr_ladd hc rfl ?_
              rw [show dz_W (((mit (t_at pl kd wt nx (fun k => hs n (5 + k)) m.toNat (hs n)) pl v p.toNat (t_l pl kd wt nx m.toNat (hs n)).length k : Nat) : Int) + ((mw p.toNat (t_l pl kd wt nx m.toNat (hs n)).length k : Nat) : Int)) = ((mit (t_at pl kd wt nx (fun k => hs n (5 + k)) m.toNat (hs n)) pl v p.toNat (t_l pl kd wt nx m.toNat (hs n)).length k + mw p.toNat (t_l pl kd wt nx m.toNat (hs n)).length k : Nat) : Int) by rw [Int.natCast_add]; exact dz_W_id ⟨by omega, by omega⟩]
              refine xr_lstore8 hc rfl rfl ?_
              refine xr_iincz10 hc rfl rfl (by first | exact dz_wid (by first | omega | (unfold dz_w; omega)) (by first | omega | (unfold dz_w; omega)) | rfl) ?_
              refine xr_goto hc rfl (t := 121) rfl ?_
              have em := em ()
              by_cases hv : t_at pl kd wt nx (fun k => hs n (5 + k)) m.toNat (hs n) + (k : Int) * pl ≤ v
              · rw [if_pos hv] at em
                first
                  | (exfalso; omega)
                  | (rw [← em]
                     exact ih (k + 1) N (by omega) h1 h2)
              · rw [if_neg hv, Nat.add_zero] at em
                first
                  | (exfalso; omega)
                  | (have l0 := ih (k + 1) N (by omega) h1 h2
                     rw [em] at l0
                     exact l0)
      have lp : ∀ (m_ : Nat) (k : Nat) (N : Nat → Nat → Int) (e1 e2 : Option dz_V), k + m_ = (t_l pl kd wt nx m.toNat (hs n)).length → (∀ q2 k2, q2 ≠ 59 → N q2 k2 = M1 q2 k2) → (∀ i, i < 7 → N 59 i = ((mw p.toNat k i : Nat) : Int)) → dz_X (dz_E dz_pp xo (d + 4)) dz_pp xo (dz_pp 85) Q 77 [some (dz_r 0), some (dz_i m), some (dz_i v), some (dz_i p), some (dz_i 0), some (dz_i (t_at pl kd wt nx (fun k => hs n (5 + k)) m.toNat (hs n))), some (dz_l ((12 ^ k : Nat) : Int)), none, some (dz_i (k : Int)), e1, e2] [] 0 0 (sh, rf, N) := by
        intro m_
        induction m_ with
        | zero =>
          intro k N e1 e2 hk h1 h2
          have nR : N 50 3 = ((t_l pl kd wt nx m.toNat (hs n)).length : Int) := by rw [h1 _ _ (by omega)]; exact hRd
          have ek : k = (t_l pl kd wt nx m.toNat (hs n)).length := by omega
          subst ek
          refine xr_iload hc rfl rfl ?_
          refine xr_aloadn hc rfl rfl ?_
          refine xr_getfr hc rfl rfl (by first | assumption | rfl) (by first | assumption | rfl) ?_
          refine xr_getfi hc rfl (Or.inl rfl) (by first | assumption | rfl) ?_
          rw [nR]
          refine xr_icmp_ge hc rfl (t := 115) rfl (fun b86 => ?_) (fun b86 => ?_)
          · refine xr_lconst hc rfl ?_
            refine xr_lstore8 hc rfl rfl ?_
            refine xr_iconst hc rfl ?_
            refine xr_istore10 hc rfl rfl ?_
            exact lq 7 0 N (by omega) h1 h2
          · omega
        | succ m_ ih =>
          intro k N e1 e2 hk h1 h2
          have nR : N 50 3 = ((t_l pl kd wt nx m.toNat (hs n)).length : Int) := by rw [h1 _ _ (by omega)]; exact hRd
          have h12 : ((12 ^ k : Nat) : Int) ≤ 2985984 := Int.ofNat_le.mpr (Nat.le_trans (Nat.pow_le_pow_right (by omega) (show k ≤ 6 by omega)) (by decide))
          have w0 : ∀ _ : Unit, dz_W (((12 ^ k : Nat) : Int) * 12) = ((12 ^ (k + 1) : Nat) : Int) := fun _ => by
            rw [Nat.pow_succ]
            exact dW_mul (a := 12 ^ k) (b := 12) (by omega) (by decide)
          refine xr_iload hc rfl rfl ?_
          refine xr_aloadn hc rfl rfl ?_
          refine xr_getfr hc rfl rfl (by first | assumption | rfl) (by first | assumption | rfl) ?_
          refine xr_getfi hc rfl (Or.inl rfl) (by first | assumption | rfl) ?_
          rw [nR]
          refine xr_icmp_ge hc rfl (t := 115) rfl (fun b86 => ?_) (fun b86 => ?_)
          · omega
          · refine xr_iload hc rfl rfl ?_
            refine xr_bipush hc rfl ?_
            refine xr_icmp_ge hc rfl (t := 115) rfl (fun b93 => ?_) (fun b93 => ?_)
            · omega
            · refine xr_aloadn hc rfl rfl ?_
              refine xr_iloadn hc rfl rfl ?_
              refine xr_callv1 hc rfl (by first | assumption | rfl) rfl rfl rfl (Nat.le_of_ble_eq_true rfl) (Nat.zero_le _) (Nat.zero_le _) ?_
              refine S_spreadMiss hl (by omega) (by omega) h2 (fun N2 a1 a2 => ?_)
              refine xk_0 ?_
              refine xr_lload hc rfl rfl ?_
              refine xr_ldc2 hc rfl ?_
              refine xr_lmul hc rfl ?_
              rw [w0 ()]
              refine xr_lstore6 hc rfl rfl ?_
              refine xr_iincz8 hc rfl rfl (by first | exact dz_wid (by first | omega | (unfold dz_w; omega)) (by first | omega | (unfold dz_w; omega)) | rfl) ?_
              refine xr_goto hc rfl (t := 77) rfl ?_
              exact ih (k + 1) N2 _ _ (by omega) (fun q2 k2 u => by rw [a1 _ _ u, h1 _ _ u]) a2
      refine xk_1 ?_
      refine xr_istore5 hc rfl rfl ?_
      refine xr_lconst hc rfl ?_
      refine xr_lstore6 hc rfl rfl ?_
      refine xr_aloadn hc rfl rfl ?_
      refine xr_getfr hc rfl rfl (by first | assumption | rfl) (by first | assumption | rfl) ?_
      refine xr_lconst hc rfl ?_
      refine xr_calls2 hc rfl (by decide) rfl rfl rfl (Nat.le_of_ble_eq_true rfl) (Nat.zero_le _) (Nat.zero_le _) ?_
      refine S_fillL c33 (by omega) (fun N0 a1 a2 => ?_)
      refine xk_0 ?_
      refine xr_aloadn hc rfl rfl ?_
      refine xr_getfr hc rfl rfl (by first | assumption | rfl) (by first | assumption | rfl) ?_
      refine xr_iconst hc rfl ?_
      refine xr_lconst hc rfl ?_
      refine xr_lastore hc rfl (by first | assumption | rfl) (by first | omega | (unfold dz_w; omega)) (by first | omega | (unfold dz_w; omega)) ?_
      refine xr_iconst hc rfl ?_
      refine xr_istore8 hc rfl rfl ?_
      refine lp (t_l pl kd wt nx m.toNat (hs n)).length 0 _ _ _ (by omega) (fun q2 k2 u => by rw [dz_up_ne u, a1 _ _ u]) (fun i hi => ?_)
      by_cases e : i = 0
      · subst e
        rw [show Int.toNat 0 = 0 from rfl, dz_up_eq]
        rfl
      · rw [show Int.toNat 0 = 0 from rfl, dz_up_k e, a2 i (by omega)]
        show _ = ((if i = 0 then 1 else 0 : Nat) : Int)
        rw [if_neg e]
        rfl
  · refine xk_1 ?_
    refine xr_ift hc rfl (t := 20) rfl (by simp [dz_cmp]) ?_
    refine xr_iconst hc rfl ?_
    refine xr_istore4 hc rfl rfl ?_
    refine xr_iload hc rfl rfl ?_
    refine xr_iff hc rfl (by simp [dz_cmp]) ?_
    refine xr_iload hc rfl rfl ?_
    refine xr_ireturn hc rfl rfl (Nat.zero_le _) (Nat.zero_le _) ?_
    simp only [o_odds] at hQ
    repeat (first | rw [if_pos (by omega)] at hQ | rw [if_neg (by omega)] at hQ)
    try dsimp only at hQ
    exact hQ M (fun _ _ _ => rfl) hR
set_option maxRecDepth 100000 in
theorem X_mid {xo : Nat → List Int} {d : Nat} {Q : dz_Q} {sh : List (Nat ⊕ (Nat × Nat))} {rf : Nat → Nat → Nat} {M : Nat → Nat → Int} {rs : Nat → Int} {it : Nat → Nat → Int} {ts : Nat → Int} {ch : Nat → Nat → Int} {tl up lo : Int} {fn : Nat → Int} {w pl : Int} {kd wt nx : Nat → Int} {n : Nat} {hs : Nat → Nat → Int} {kp : Nat → Int} {kh : Nat → Nat → Nat → Int} {m p : Int} (hx : xo 2 = dz_xs2) (hl : cl sh rf) (hR : RX M rs it ts ch tl up lo fn w pl kd wt nx n hs kp kh) (hW : WF rs it ts ch tl up lo fn w pl kd wt nx n hs kp kh) (hQ : ∀ M2 : Nat → Nat → Int, (∀ q2 k2, 115 ≤ q2 → M2 q2 k2 = M q2 k2) → RX M2 rs it ts ch tl (o_mid up lo w pl kd wt nx (hs n) m p).2.1 (o_mid up lo w pl kd wt nx (hs n) m p).2.2 fn w pl kd wt nx n hs kp kh → Q (some (dz_i ((o_mid up lo w pl kd wt nx (hs n) m p).1))) (sh, rf, M2)) : dz_E dz_pp xo (d + 5) 86 [dz_r 0, dz_i m, dz_i p] (sh, rf, M) Q := by
  refine ⟨Nat.le_of_ble_eq_true rfl, ?_⟩
  have hc := dz_E_m dz_pp xo (d + 4)
  show dz_X (dz_E dz_pp xo (d + 4)) dz_pp xo (dz_pp 86) Q 0 [some (dz_r 0), some (dz_i m), some (dz_i p), none, none] [] 0 0 (sh, rf, M)
  obtain ⟨c0, c1, c2, c3, c4, c5, c6, c7, c8, c9, c10, c11, c12, c13, c14, c15, c16, c17, c18, c19, c20, c21, c22, c23, c24, c25, c26, c27, c28, c29, c30, c31, c32, c33, c34, c35, c36⟩ := id hl
  obtain ⟨hrow, htxt, htl, hup, hlo, hfn, hdr, hkp, hrb⟩ := id hR
  obtain ⟨wrow, wtxt, wdr, wst, wkp⟩ := id hW
  have n0 : sh[23]? = some (.inl 1) := c14.2.2.2.2.1.1
  have n1 : rf 23 7 = 25 + 1 := c14.2.2.2.2.1.2.2.2.1
  have n2 : sh[25]? = some (.inr (0, 6)) := c14.2.2.2.2.1.2.2.2.2.1
  have n3 : rf 15 1 = 23 + 1 := c14.2.2.2.1
  have n4 : sh[15]? = some (.inl 0) := c14.1
  have n5 : ma_at sh rf 23 := c14.2.2.2.2.1
  have q0 : sh[34]? = some (.inl 1) := c20.1
  have q1 : rf 34 8 = 37 + 1 := c20.2.2.2.2.2.1
  have q2 : sh[37]? = some (.inr (0, 6)) := c20.2.2.2.2.2.2.1
  have q3 : sh[50]? = some (.inl 4) := c26.1
  refine xr_aloadn hc rfl rfl ?_
  refine xr_iloadn hc rfl rfl ?_
  refine xr_iloadn hc rfl rfl ?_
  refine xr_callv2 hc rfl (by first | assumption | rfl) rfl rfl rfl (Nat.le_of_ble_eq_true rfl) (Nat.zero_le _) (Nat.zero_le _) ?_
  refine S_refusedChances hl hR hW (fun u2 => ?_) (fun u2 v2 u3 v3 hw0 => ?_) (fun u2 v2 u3 v3 hw0 => ?_)
  · refine xk_1 ?_
    refine xr_istore3 hc rfl rfl ?_
    refine xr_iloadn hc rfl rfl ?_
    refine xr_iff hc rfl (by simp [dz_cmp]) ?_
    refine xr_iloadn hc rfl rfl ?_
    refine xr_ireturn hc rfl rfl (Nat.zero_le _) (Nat.zero_le _) ?_
    simp only [o_mid] at hQ
    repeat (first | rw [if_pos (by omega)] at hQ | rw [if_neg (by omega)] at hQ)
    try dsimp only at hQ
    exact hQ M (fun _ _ _ => rfl) hR
  · refine xk_1 ?_
    refine xr_istore3 hc rfl rfl ?_
    refine xr_iloadn hc rfl rfl ?_
    refine xr_iff hc rfl (by simp [dz_cmp]) ?_
    refine xr_iloadn hc rfl rfl ?_
    refine xr_ireturn hc rfl rfl (Nat.zero_le _) (Nat.zero_le _) ?_
    simp only [o_mid] at hQ
    repeat (first | rw [if_pos (by omega)] at hQ | rw [if_neg (by omega)] at hQ)
    try dsimp only at hQ
    exact hQ M (fun _ _ _ => rfl) hR
  · refine xk_1 ?_
    refine xr_istore3 hc rfl rfl ?_
    refine xr_iloadn hc rfl rfl ?_
    refine xr_ift hc rfl (t := 13) rfl (by simp [dz_cmp]) ?_
    refine xr_aloadn hc rfl rfl ?_
    refine xr_iloadn hc rfl rfl ?_
    refine xr_callv1 hc rfl (by first | assumption | rfl) rfl rfl rfl (Nat.le_of_ble_eq_true rfl) (Nat.zero_le _) (Nat.zero_le _) ?_
    have hp := WF_p hW hw0
    have hst := wst.2 n (Nat.le_refl n)
    obtain ⟨p1, p2, p3, p4, p5⟩ := id hp
    obtain ⟨st0, st1, st2, st3, st4, st5, st6, st7, st8⟩ := id hst
    refine S_followSteps hx hl hR hW hw0 (by omega) (fun M1 K f1 f2 f3 f4 f5 f6 => ?_)
    have hln := t_l_in hp m.toNat _ _ hst (by omega)
    have hlen : (t_l pl kd wt nx m.toNat (hs n)).length ≤ 6 := by have z := hln.2; omega
    have hRd : M1 50 3 = ((t_l pl kd wt nx m.toNat (hs n)).length : Int) := by rw [f3.2.2.2.1, ← TR_end f4 f5]
    have hAt := t_at_in (sp := (fun k => hs n (5 + k))) (m := m.toNat) hp hst (by omega)
    have hnow : ∀ i : Nat, (i : Int) < w → M1 25 i = hs n (5 + i) := fun i hi => by
      rw [f1 _ _ (by omega) (by omega)]
      exact (hdr.2.1.2.2.2.2.2.2 i hi).2.1
    have hN1 : M1 23 1 = pl := by rw [f1 _ _ (by omega) (by omega)]; exact hdr.2.1.2.1
    have hx1 := mul99 (a := ((t_l pl kd wt nx m.toNat (hs n)).length : Int)) (b := pl) (by omega) (by omega)
    have hx1b : ((t_l pl kd wt nx m.toNat (hs n)).length : Int) * pl ≤ 6 * 9 := Int.mul_le_mul (by omega) (by omega) (by omega) (by omega)
    have hx2 := mul99 (a := ((t_l pl kd wt nx m.toNat (hs n)).length : Int) * pl) (b := p) (by omega) (by omega)
    refine xk_0 ?_
    refine xr_aloadn hc rfl rfl ?_
    refine xr_getfr hc rfl rfl (by first | assumption | rfl) (by first | assumption | rfl) ?_
    refine xr_aloadn hc rfl rfl ?_
    refine xr_getfr hc rfl rfl (by first | assumption | rfl) (by first | assumption | rfl) ?_
    refine xr_getfr hc rfl rfl (by first | assumption | rfl) (by first | assumption | rfl) ?_
    refine xr_getfr hc rfl rfl (by first | assumption | rfl) (by first | assumption | rfl) ?_
    refine xr_iloadn hc rfl rfl ?_
    refine xr_callv2 hc rfl (by first | assumption | rfl) rfl rfl rfl (Nat.le_of_ble_eq_true rfl) (Nat.zero_le _) (Nat.zero_le _) ?_
    refine S_beatsAt (N := m.toNat) (sp := (fun k => hs n (5 + k))) hp hst (by omega) c26 f3 f4 (by omega) n2 (fun i hi => ?_) (fun i hi => ?_) (by omega) ?_
    · have z := hnow i hi
      have z2 := st8 i hi
      omega
    · have z := hnow i hi
      omega
    refine xk_1 ?_
    refine xr_istore4 hc rfl rfl ?_
    refine xr_aloadn hc rfl rfl ?_
    refine xr_iload hc rfl rfl ?_
    refine xr_i2l hc rfl ?_
    refine xr_ldc2 hc rfl ?_
    refine xr_lmul hc rfl ?_
    rw [show dz_W ((t_at pl kd wt nx (fun k => hs n (5 + k)) m.toNat (hs n)) * 12) = (t_at pl kd wt nx (fun k => hs n (5 + k)) m.toNat (hs n)) * 12 from dz_W_id ⟨by omega, by omega⟩]
    refine xr_aloadn hc rfl rfl ?_
    refine xr_getfr hc rfl rfl (by first | assumption | rfl) (by first | assumption | rfl) ?_
    refine xr_getfi hc rfl (Or.inl rfl) (by first | assumption | rfl) ?_
    rw [hRd]
    refine xr_i2l hc rfl ?_
    refine xr_aloadn hc rfl rfl ?_
    refine xr_getfr hc rfl rfl (by first | assumption | rfl) (by first | assumption | rfl) ?_
    refine xr_getfr hc rfl rfl (by first | assumption | rfl) (by first | assumption | rfl) ?_
    refine xr_getfi hc rfl (Or.inl rfl) (by first | assumption | rfl) ?_
    rw [hN1]
    refine xr_i2l hc rfl ?_
    refine xr_lmul hc rfl ?_
    rw [show dz_W (((t_l pl kd wt nx m.toNat (hs n)).length : Int) * pl) = ((t_l pl kd wt nx m.toNat (hs n)).length : Int) * pl from dz_W_id ⟨by omega, by omega⟩]
    refine xr_iloadn hc rfl rfl ?_
    refine xr_i2l hc rfl ?_
    refine xr_lmul hc rfl ?_
    rw [show dz_W (((t_l pl kd wt nx m.toNat (hs n)).length : Int) * pl * p) = ((t_l pl kd wt nx m.toNat (hs n)).length : Int) * pl * p from dz_W_id ⟨by omega, by omega⟩]
    refine xr_ladd hc rfl ?_
    rw [show dz_W ((t_at pl kd wt nx (fun k => hs n (5 + k)) m.toNat (hs n)) * 12 + ((t_l pl kd wt nx m.toNat (hs n)).length : Int) * pl * p) = (t_at pl kd wt nx (fun k => hs n (5 + k)) m.toNat (hs n)) * 12 + ((t_l pl kd wt nx m.toNat (hs n)).length : Int) * pl * p from dz_W_id ⟨by omega, by omega⟩]
    refine xr_ldc2 hc rfl ?_
    refine xr_callv2 hc rfl (by first | assumption | rfl) rfl rfl rfl (Nat.le_of_ble_eq_true rfl) (Nat.zero_le _) (Nat.zero_le _) ?_
    rw [show ((t_at pl kd wt nx (fun k => hs n (5 + k)) m.toNat (hs n) * 12) : Int) = 12 * (t_at pl kd wt nx (fun k => hs n (5 + k)) m.toNat (hs n)) by omega]
    obtain ⟨Z, hZ⟩ : ∃ Z : Nat, (Z : Int) = 12 * (t_at pl kd wt nx (fun k => hs n (5 + k)) m.toNat (hs n)) + ((t_l pl kd wt nx m.toNat (hs n)).length : Int) * pl * p := ⟨(12 * (t_at pl kd wt nx (fun k => hs n (5 + k)) m.toNat (hs n)) + ((t_l pl kd wt nx m.toNat (hs n)).length : Int) * pl * p).toNat, by omega⟩
    rw [← hZ]
    refine S_tellShare (y := 12) c0 (by omega) (by omega) (fun M2 g1 g2 g3 => ?_)
    rw [hZ] at g2 g3
    refine xk_0 ?_
    refine xr_iconst hc rfl ?_
    refine xr_ireturn hc rfl rfl (Nat.zero_le _) (Nat.zero_le _) ?_
    simp only [o_mid] at hQ
    rw [if_neg (by omega), if_neg hw0] at hQ
    obtain ⟨hrow, htxt, htl, hup, hlo, hfn, hdr, hkp, hrb⟩ := id f2
    refine hQ _ (fun q2 k2 u => by rw [g1 _ _ (by omega), f1 _ _ (by omega) (by omega)]) ⟨rowX_fr hrow (fun q2 k2 u1 u2 => g1 _ _ (by omega)), txtX_fr htxt (fun q2 k2 u1 u2 => g1 _ _ (by omega)), Eq.trans (g1 _ _ (by omega)) htl, g2, g3, fndX_fr hfn (g1 _ _ (by omega)) (fun k2 => g1 _ _ (by omega)), drX_fr hdr (fun q2 k2 u1 u2 => g1 _ _ (by omega)), kepX_fr hkp (fun q2 k2 u1 u2 => g1 _ _ (by omega)), rbX_fr hrb (fun q2 k2 u1 => g1 _ _ (by omega))⟩
