/-! Chances: the other one. Written by l2_58.py. -/
def wpr (p mi : Nat) : Nat → Nat
  | 0 => 1
  | k + 1 => wpr p mi k * (if k < mi then p else 12 - p)
def wch (R : Nat) : Nat → Nat
  | 0 => 1
  | k + 1 => wch R k * (R - k) / (k + 1)
def msm (p R : Nat) : Nat → Nat
  | 0 => 0
  | k + 1 => msm p R k + mw p R k
def msj (p R : Nat) : Nat → Nat
  | 0 => 0
  | k + 1 => msj p R k + mw p R k * k
def mmn (b pl : Int) (p R : Nat) : Nat → Int
  | 0 => 0
  | k + 1 => mmn b pl p R k + (mw p R k : Int) * (b + pl * k)
theorem wpr_le : ∀ p : Fin 13, ∀ mi : Fin 7, ∀ k : Fin 7, wpr p.val mi.val k.val ≤ 3000000 := by decide +kernel
theorem wch_le : ∀ R : Fin 7, ∀ k : Fin 7, wch R.val k.val ≤ 100 := by decide +kernel
theorem wo_eq : ∀ p : Fin 13, ∀ R : Fin 7, ∀ mi : Fin 7, mi.val ≤ R.val → wpr p.val mi.val R.val * wch R.val mi.val = mw p.val R.val mi.val := by decide +kernel
theorem msm_eq : ∀ p : Fin 13, ∀ R : Fin 7, msm p.val R.val (R.val + 1) = 12 ^ R.val := by decide +kernel
theorem msj_eq : ∀ p : Fin 13, ∀ R : Fin 6, msj p.val (R.val + 1) (R.val + 1 + 1) = 12 ^ R.val * ((R.val + 1) * p.val) := by decide +kernel
theorem msj_0 : ∀ p : Fin 13, msj p.val 0 1 = 0 := by decide +kernel
theorem msm_le {p R : Nat} (hp : p ≤ 12) (hR : R ≤ 6) : ∀ k, k ≤ 7 → msm p R k ≤ 3000000 * k
  | 0, _ => by simp [msm]
  | k + 1, hk => by
    have ih := msm_le hp hR k (by omega)
    have h1 := mw_b (k := k) hp hR (by omega)
    unfold msm
    omega
theorem mmn_eq {b pl : Int} {p R : Nat} : ∀ k, mmn b pl p R k = b * (msm p R k : Int) + pl * (msj p R k : Int)
  | 0 => by simp [mmn, msm, msj]
  | k + 1 => by
    have ih := mmn_eq (b := b) (pl := pl) (p := p) (R := R) k
    have e1 : (mw p R k : Int) * (b + pl * k) = b * (mw p R k : Int) + pl * ((mw p R k : Int) * k) := by rw [Int.mul_add, Int.mul_comm _ b, Int.mul_left_comm]
    unfold mmn msm msj
    rw [ih, e1, Int.natCast_add, Int.natCast_add, Int.natCast_mul, Int.mul_add, Int.mul_add]
    omega
theorem mmn_in {b pl : Int} {p R : Nat} (hp : p ≤ 12) (hR : R ≤ 6) (hb : 0 ≤ b ∧ b ≤ 200) (hpl : 0 ≤ pl ∧ pl ≤ 9) : ∀ k, k ≤ 7 → 0 ≤ mmn b pl p R k ∧ mmn b pl p R k ≤ 900000000 * k
  | 0, _ => by simp [mmn]
  | k + 1, hk => by
    have ih := mmn_in hp hR hb hpl k (by omega)
    have h1 := mw_b (k := k) hp hR (by omega)
    have h2 := mul99 (a := pl) (b := (k : Int)) (by omega) (by omega)
    have h2b : pl * (k : Int) ≤ 9 * 7 := Int.mul_le_mul (by omega) (by omega) (by omega) (by omega)
    have h3 : 0 ≤ (mw p R k : Int) * (b + pl * k) := Int.mul_nonneg (by omega) (by omega)
    have h4 : (mw p R k : Int) * (b + pl * k) ≤ 3000000 * 300 := Int.mul_le_mul (by omega) (by omega) (by omega) (by omega)
    unfold mmn
    omega
theorem sh_mul {c a b : Nat} (hc : 0 < c) : o_sh ((c * a : Nat) : Int) ((c * b : Nat) : Int) = o_sh (a : Int) (b : Int) := by
  unfold o_sh
  rw [Int.toNat_natCast, Int.toNat_natCast, Int.toNat_natCast, Int.toNat_natCast, Nat.gcd_mul_left]
  by_cases h : a = 0 ∨ b = 0
  · rw [if_pos (show ((a : Int) = 0 ∨ (b : Int) ≤ 0) by omega), if_pos]
    rcases h with h | h
    · exact Or.inl (by rw [h, Nat.mul_zero]; rfl)
    · exact Or.inr (by rw [h, Nat.mul_zero]; exact Int.le_refl _)
  · have ha : 0 < c * a := Nat.mul_pos hc (by omega)
    have hb : 0 < c * b := Nat.mul_pos hc (by omega)
    rw [if_neg (by omega), if_neg (by omega), ← Int.natCast_ediv, ← Int.natCast_ediv, ← Int.natCast_ediv, ← Int.natCast_ediv, Nat.mul_div_mul_left _ _ hc, Nat.mul_div_mul_left _ _ hc]
/-- the mean: one share, told in two ways -/
theorem mid_eq {b pl : Int} {p R : Nat} (hp : p ≤ 12) (hR : R ≤ 6) (hb : 0 ≤ b) (hpl : 0 ≤ pl) : o_sh (mmn b pl p R (R + 1)) ((12 ^ R : Nat) : Int) = o_sh (12 * b + R * pl * p) 12 := by
  obtain ⟨B, hB⟩ : ∃ B : Nat, b = B := ⟨b.toNat, by omega⟩
  obtain ⟨L, hL⟩ : ∃ L : Nat, pl = L := ⟨pl.toNat, by omega⟩
  rw [mmn_eq, show msm p R (R + 1) = 12 ^ R from msm_eq ⟨p, by omega⟩ ⟨R, by omega⟩, hB, hL]
  cases R with
  | zero =>
    rw [show msj p 0 (0 + 1) = 0 from msj_0 ⟨p, by omega⟩]
    have z := sh_mul (c := 12) (a := B) (b := 1) (by omega)
    simp at z ⊢
    rw [z]
  | succ R =>
    rw [show msj p (R + 1) (R + 1 + 1) = 12 ^ R * ((R + 1) * p) from msj_eq ⟨p, by omega⟩ ⟨R, by omega⟩]
    have z := sh_mul (c := 12 ^ R) (a := 12 * B + (R + 1) * L * p) (b := 12) (Nat.pow_pos (by omega))
    have e1 : (12 ^ R * (12 * B + (R + 1) * L * p) : Nat) = B * 12 ^ (R + 1) + L * (12 ^ R * ((R + 1) * p)) := by
      rw [Nat.pow_succ, Nat.mul_add]
      have e2 : 12 ^ R * (12 * B) = B * (12 ^ R * 12) := by rw [← Nat.mul_assoc, Nat.mul_comm]
      have e3 : 12 ^ R * ((R + 1) * L * p) = L * (12 ^ R * ((R + 1) * p)) := by
        rw [Nat.mul_left_comm L, Nat.mul_comm (R + 1) L, Nat.mul_assoc L]
      rw [e2, e3]
    rw [e1, ← Nat.pow_succ] at z
    have e4 : ((B * 12 ^ (R + 1) + L * (12 ^ R * ((R + 1) * p)) : Nat) : Int) = (B : Int) * ((12 ^ (R + 1) : Nat) : Int) + (L : Int) * ((12 ^ R * ((R + 1) * p) : Nat) : Int) := by rw [Int.natCast_add, Int.natCast_mul, Int.natCast_mul]
    have e5 : ((12 * B + (R + 1) * L * p : Nat) : Int) = 12 * (B : Int) + ((R + 1 : Nat) : Int) * (L : Int) * (p : Int) := by rw [Int.natCast_add, Int.natCast_mul, Int.natCast_mul, Int.natCast_mul]; rfl
    rw [e4, e5] at z
    exact z
set_option maxRecDepth 100000 in
theorem D_waysOf {xo : Nat → List Int} {d : Nat} {Q : dz_Q} {sh : List (Nat ⊕ (Nat × Nat))} {rf : Nat → Nat → Nat} {M : Nat → Nat → Int} {p : Int} {R mi : Nat} (hp : 0 ≤ p ∧ p ≤ 12) (hR : R ≤ 6) (hm : mi ≤ R) (hQ : Q (some (dz_l ((mw p.toNat R mi : Nat) : Int))) (sh, rf, M)) : dz_E dz_pp xo (d + 1) 199 [dz_i (R : Int), dz_i (mi : Int), dz_i p] (sh, rf, M) Q := by
  refine ⟨Nat.le_of_ble_eq_true rfl, ?_⟩
  have hc := dz_E_m dz_pp xo (d + 0)
  show dz_X (dz_E dz_pp xo (d + 0)) dz_pp xo (dz_pp 199) Q 0 [some (dz_i (R : Int)), some (dz_i (mi : Int)), some (dz_i p), none, none, none, none, none] [] 0 0 (sh, rf, M)
  have lq : ∀ (m_ : Nat) (k : Nat), k + m_ = mi → dz_X (dz_E dz_pp xo (d + 0)) dz_pp xo (dz_pp 199) Q 42 [some (dz_i (R : Int)), some (dz_i (mi : Int)), some (dz_i p), some (dz_l ((wpr p.toNat mi R : Nat) : Int)), none, some (dz_l ((wch R k : Nat) : Int)), none, some (dz_i (k : Int))] [] 0 0 (sh, rf, M) := by
    intro m_
    induction m_ with
    | zero =>
      intro k hk
      have ek : k = mi := by omega
      subst ek
      have b1 : ((wpr p.toNat k R : Nat) : Int) ≤ 3000000 := Int.ofNat_le.mpr (wpr_le ⟨p.toNat, by omega⟩ ⟨k, by omega⟩ ⟨R, by omega⟩)
      have b2 : ((wch R k : Nat) : Int) ≤ 100 := Int.ofNat_le.mpr (wch_le ⟨R, by omega⟩ ⟨k, by omega⟩)
      have w0 := fun _ : Unit => dW_mul (a := wpr p.toNat k R) (b := wch R k) (by omega) (by omega)
      refine xr_iload hc rfl rfl ?_
      refine xr_iloadn hc rfl rfl ?_
      refine xr_icmp_ge hc rfl (t := 70) rfl (fun b45 => ?_) (fun b45 => ?_)
      · refine xr_lloadn hc rfl rfl ?_
        refine xr_lload hc rfl rfl ?_
        refine xr_lmul hc rfl ?_
        rw [w0 (), wo_eq ⟨p.toNat, by omega⟩ ⟨R, by omega⟩ ⟨k, by omega⟩ (by show k ≤ R; omega)]
        refine xr_lreturn hc rfl rfl (Nat.zero_le _) (Nat.zero_le _) ?_
        exact hQ
      · omega
    | succ m_ ih =>
      intro k hk
      have b2 : ((wch R k : Nat) : Int) ≤ 100 := Int.ofNat_le.mpr (wch_le ⟨R, by omega⟩ ⟨k, by omega⟩)
      have b3 : ((wch R (k + 1) : Nat) : Int) ≤ 100 := Int.ofNat_le.mpr (wch_le ⟨R, by omega⟩ ⟨k + 1, by omega⟩)
      have w0 := fun _ : Unit => dW_mul (a := wch R k) (b := R - k) (by omega) (by omega)
      have eRk : (R : Int) - (k : Int) = ((R - k : Nat) : Int) := by omega
      have w1 : ∀ _ : Unit, dz_W (Int.tdiv ((wch R k * (R - k) : Nat) : Int) ((k + 1 : Nat) : Int)) = ((wch R (k + 1) : Nat) : Int) := fun _ => by
        rw [← Int.ofNat_tdiv]
        exact dz_W_id ⟨by show _ ≤ ((wch R (k + 1) : Nat) : Int); omega, by show ((wch R (k + 1) : Nat) : Int) < _; omega⟩
      refine xr_iload hc rfl rfl ?_
      refine xr_iloadn hc rfl rfl ?_
      refine xr_icmp_ge hc rfl (t := 70) rfl (fun b45 => ?_) (fun b45 => ?_)
      · omega
      · refine xr_lload hc rfl rfl ?_
        refine xr_iloadn hc rfl rfl ?_
        refine xr_iload hc rfl rfl ?_
        refine xr_isubz hc rfl (by first | exact dz_wid (by first | omega | (unfold dz_w; omega)) (by first | omega | (unfold dz_w; omega)) | rfl) ?_
        rw [eRk]
        refine xr_i2l hc rfl ?_
        refine xr_lmul hc rfl ?_
        rw [w0 ()]
        refine xr_iload hc rfl rfl ?_
        refine xr_iconst hc rfl ?_
        refine xr_iaddz hc rfl (by first | exact dz_wid (by first | omega | (unfold dz_w; omega)) (by first | omega | (unfold dz_w; omega)) | rfl) ?_
        rw [show (k : Int) + 1 = ((k + 1 : Nat) : Int) by omega]
        refine xr_i2l hc rfl ?_
        refine xr_ldiv hc rfl (by first | omega | (unfold dz_w; omega)) ?_
        rw [w1 ()]
        refine xr_lstore5 hc rfl rfl ?_
        refine xr_iincz7 hc rfl rfl (by first | exact dz_wid (by first | omega | (unfold dz_w; omega)) (by first | omega | (unfold dz_w; omega)) | rfl) ?_
        refine xr_goto hc rfl (t := 42) rfl ?_
        exact ih (k + 1) (by omega)
  have lp : ∀ (m_ : Nat) (k : Nat) (e1 e2 : Option dz_V), k + m_ = R → dz_X (dz_E dz_pp xo (d + 0)) dz_pp xo (dz_pp 199) Q 5 [some (dz_i (R : Int)), some (dz_i (mi : Int)), some (dz_i p), some (dz_l ((wpr p.toNat mi k : Nat) : Int)), none, some (dz_i (k : Int)), e1, e2] [] 0 0 (sh, rf, M) := by
    intro m_
    induction m_ with
    | zero =>
      intro k e1 e2 hk
      have ek : k = R := by omega
      subst ek
      refine xr_iload hc rfl rfl ?_
      refine xr_iloadn hc rfl rfl ?_
      refine xr_icmp_ge hc rfl (t := 36) rfl (fun b8 => ?_) (fun b8 => ?_)
      · refine xr_lconst hc rfl ?_
        refine xr_lstore5 hc rfl rfl ?_
        refine xr_iconst hc rfl ?_
        refine xr_istore7 hc rfl rfl ?_
        exact lq mi 0 (by omega)
      · omega
    | succ m_ ih =>
      intro k e1 e2 hk
      have b1 : ((wpr p.toNat mi k : Nat) : Int) ≤ 3000000 := Int.ofNat_le.mpr (wpr_le ⟨p.toNat, by omega⟩ ⟨mi, by omega⟩ ⟨k, by omega⟩)
      have w0 := fun _ : Unit => dW_mul (a := wpr p.toNat mi k) (b := 12 - p.toNat) (by omega) (by omega)
      have w1 := fun _ : Unit => dW_mul (a := wpr p.toNat mi k) (b := p.toNat) (by omega) (by omega)
      have er : ∀ _ : Unit, wpr p.toNat mi (k + 1) = wpr p.toNat mi k * (if k < mi then p.toNat else 12 - p.toNat) := fun _ => rfl
      have e12 : (12 : Int) - p = ((12 - p.toNat : Nat) : Int) := by omega
      have ep : p = ((p.toNat : Nat) : Int) := by omega
      have ez : ∀ a : Int, a * p = a * ((p.toNat : Nat) : Int) := fun a => by rw [← ep]
      refine xr_iload hc rfl rfl ?_
      refine xr_iloadn hc rfl rfl ?_
      refine xr_icmp_ge hc rfl (t := 36) rfl (fun b8 => ?_) (fun b8 => ?_)
      · omega
      · refine xr_lloadn hc rfl rfl ?_
        refine xr_iload hc rfl rfl ?_
        refine xr_iloadn hc rfl rfl ?_
        refine xr_icmp_ge hc rfl (t := 23) rfl (fun b15 => ?_) (fun b15 => ?_)
        · refine xr_bipush hc rfl ?_
          refine xr_iloadn hc rfl rfl ?_
          refine xr_isubz hc rfl (by first | exact dz_wid (by first | omega | (unfold dz_w; omega)) (by first | omega | (unfold dz_w; omega)) | rfl) ?_
          rw [e12]
          refine xr_i2l hc rfl ?_
          refine xr_lmul hc rfl ?_
          first
            | rw [w0 ()]
            | rw [ez, w1 ()]
          refine xr_lstore3 hc rfl rfl ?_
          refine xr_iincz5 hc rfl rfl (by first | exact dz_wid (by first | omega | (unfold dz_w; omega)) (by first | omega | (unfold dz_w; omega)) | rfl) ?_
          refine xr_goto hc rfl (t := 5) rfl ?_
          have er := er ()
          first
            | (rw [if_pos (by omega)] at er
               rw [← er]
               exact ih (k + 1) _ _ (by omega))
            | (rw [if_neg (by omega)] at er
               rw [← er]
               exact ih (k + 1) _ _ (by omega))
        · refine xr_iloadn hc rfl rfl ?_
          refine xr_i2l hc rfl ?_
          refine xr_goto hc rfl (t := 28) rfl ?_
          refine xr_lmul hc rfl ?_
          first
            | rw [w0 ()]
            | rw [ez, w1 ()]
          refine xr_lstore3 hc rfl rfl ?_
          refine xr_iincz5 hc rfl rfl (by first | exact dz_wid (by first | omega | (unfold dz_w; omega)) (by first | omega | (unfold dz_w; omega)) | rfl) ?_
          refine xr_goto hc rfl (t := 5) rfl ?_
          have er := er ()
          first
            | (rw [if_pos (by omega)] at er
               rw [← er]
               exact ih (k + 1) _ _ (by omega))
            | (rw [if_neg (by omega)] at er
               rw [← er]
               exact ih (k + 1) _ _ (by omega))
  refine xr_lconst hc rfl ?_
  refine xr_lstore3 hc rfl rfl ?_
  refine xr_iconst hc rfl ?_
  refine xr_istore5 hc rfl rfl ?_
  exact lp R 0 _ _ (by omega)
set_option maxRecDepth 100000 in
theorem D_tellMisses0 {xo : Nat → List Int} {d : Nat} {Q : dz_Q} {sh : List (Nat ⊕ (Nat × Nat))} {rf : Nat → Nat → Nat} {M : Nat → Nat → Int} {rs : Nat → Int} {it : Nat → Nat → Int} {ts : Nat → Int} {ch : Nat → Nat → Int} {tl up lo : Int} {fn : Nat → Int} {w pl : Int} {kd wt nx : Nat → Int} {n : Nat} {hs : Nat → Nat → Int} {kp : Nat → Int} {kh : Nat → Nat → Nat → Int} {m v p : Int} (hl : ml sh rf) (hR : RM M rs it ts ch tl up lo fn w pl kd wt nx n hs kp kh) (hW : WF rs it ts ch tl up lo fn w pl kd wt nx n hs kp kh) (hw0 : w ≠ 0) (hm : 0 ≤ m ∧ m ≤ 3) (hpp : 0 ≤ p ∧ p ≤ 12) (hQ : ∀ M2 : Nat → Nat → Int, (∀ q2 k2, ¬ (q2 = 115 ∧ 21 ≤ k2 ∧ k2 ≤ 23) → ¬ (q2 = 116 ∧ 3612 ≤ k2) → ¬ (q2 = 115 ∧ (k2 = 11 ∨ k2 = 12)) → M2 q2 k2 = M q2 k2) → M2 115 11 = (o_sh ((mit (t_at pl kd wt nx (fun k => hs n (5 + k)) m.toNat (hs n)) pl v p.toNat (t_l pl kd wt nx m.toNat (hs n)).length 7 : Nat) : Int) ((12 ^ (t_l pl kd wt nx m.toNat (hs n)).length : Nat) : Int)).1 → M2 115 12 = (o_sh ((mit (t_at pl kd wt nx (fun k => hs n (5 + k)) m.toNat (hs n)) pl v p.toNat (t_l pl kd wt nx m.toNat (hs n)).length 7 : Nat) : Int) ((12 ^ (t_l pl kd wt nx m.toNat (hs n)).length : Nat) : Int)).2 → Q (some (dz_i 1)) (sh, rf, M2)) : dz_E dz_pp xo (d + 6) 200 [dz_r 115, dz_i m, dz_i v, dz_i p, dz_i 0] (sh, rf, M) Q := by
  refine ⟨Nat.le_of_ble_eq_true rfl, ?_⟩
  have hc := dz_E_m dz_pp xo (d + 5)
  show dz_X (dz_E dz_pp xo (d + 5)) dz_pp xo (dz_pp 200) Q 0 [some (dz_r 115), some (dz_i m), some (dz_i v), some (dz_i p), some (dz_i 0), none, none, none, none, none, none, none, none, none, none] [] 0 0 (sh, rf, M)
  obtain ⟨c0, c1, c2, c3, c4, c5, c6, c7, c8, c9, c10, c11, c12, c13, c14, c15, c16, c17, c18, c19, c20, c21, c22, c23, c24, c25, c26, c27, c28, c29⟩ := id hl
  obtain ⟨hrow, htxt, htl, hup, hlo, hfn, hdr, hkp⟩ := id hR
  obtain ⟨wrow, wtxt, wdr, wst, wkp⟩ := id hW
  have hw6 := WF_w hW
  have hdr3 : drM M w pl kd wt nx n hs ∧ w ≤ 6 ∧ n ≤ 40 := ⟨hdr, hw6.2, wst.1⟩
  have hkp3 : kepM M w kp kh ∧ w ≤ 6 ∧ ∀ k, k < 3 → kp k ≤ 40 := ⟨hkp, hw6.2, fun k hk => by
    rcases wkp k hk with z | z
    · omega
    · exact z.2.1⟩
  obtain ⟨a1, a2, a3, b1, b2, b3⟩ := id hdr
  have hpg : pgM M w pl kd wt nx := ⟨a1, a2, a3⟩
  have b2c : ∀ c, okc w c → M 116 c = hs n c := fun c hc => by
    have h3 := b2 c hc
    rw [Nat.zero_add] at h3
    exact h3
  have hp := WF_p hW (by omega)
  have hst := wst.2 n (Nat.le_refl n)
  obtain ⟨p1, p2, p3, p4, p5⟩ := id hp
  obtain ⟨st0, st1, st2, st3, st4, st5, st6, st7, st8⟩ := id hst
  have hln := t_l_in hp m.toNat _ _ hst (by omega)
  have hlen : (t_l pl kd wt nx m.toNat (hs n)).length ≤ 6 := by have z := hln.2; omega
  have hAt := t_at_in (sp := (fun k => hs n (5 + k))) (m := m.toNat) hp hst (by omega)
  refine xr_aloadn hc rfl rfl ?_
  refine xr_callv0 hc rfl (by first | assumption | rfl) rfl rfl rfl (Nat.le_of_ble_eq_true rfl) (Nat.zero_le _) (Nat.zero_le _) ?_
  refine D_layTried hl hR hW (fun M1 z1 z2 z3 z4 z5 => ?_)
  refine xk_0 ?_
  refine xr_aloadn hc rfl rfl ?_
  refine xr_iloadn hc rfl rfl ?_
  refine xr_callv1 hc rfl (by first | assumption | rfl) rfl rfl rfl (Nat.le_of_ble_eq_true rfl) (Nat.zero_le _) (Nat.zero_le _) ?_
  refine D_beatsTried (w := w) (pl := pl) (B := 29 * n) (kd := kd) (wt := wt) (nx := nx) (s := hs n) hl (tfr_pg z1 hpg) hp hst (by omega) z2 z5 (by omega) (fun M2 y1 y2 y3 y4 => ?_)
  have tf := tfr_trans z1 y1
  have hR2 := RM_scr hR hW (tfr_scr tf)
  obtain ⟨-, c2⟩ := y4 ⟨z3, z4⟩
  have ea : t_run pl kd wt nx m.toNat (hs n) 1 - hs n 1 = t_at pl kd wt nx (fun k => hs n (5 + k)) m.toNat (hs n) := t_at_run hp hst (by omega) (t_eq_refl w (hs n)) rfl (fun i hi => rfl)
  rw [ea]
  have lp : ∀ (m_ : Nat) (k : Nat) (e1 e2 e3 : Option dz_V), k + m_ = (t_l pl kd wt nx m.toNat (hs n)).length + 1 → dz_X (dz_E dz_pp xo (d + 5)) dz_pp xo (dz_pp 200) Q 26 [some (dz_r 115), some (dz_i m), some (dz_i v), some (dz_i p), some (dz_i 0), some (dz_i (t_at pl kd wt nx (fun k => hs n (5 + k)) m.toNat (hs n))), some (dz_i ((t_l pl kd wt nx m.toNat (hs n)).length : Int)), some (dz_l ((mit (t_at pl kd wt nx (fun k => hs n (5 + k)) m.toNat (hs n)) pl v p.toNat (t_l pl kd wt nx m.toNat (hs n)).length (k) : Nat) : Int)), none, some (dz_l ((msm p.toNat (t_l pl kd wt nx m.toNat (hs n)).length k : Nat) : Int)), none, some (dz_i (k : Int)), e1, e2, e3] [] 0 0 (sh, rf, M2) := by
    intro m_
    induction m_ with
    | zero =>
      intro k e1 e2 e3 hk
      have ek : k = (t_l pl kd wt nx m.toNat (hs n)).length + 1 := by omega
      subst ek
      have hml : ((mit (t_at pl kd wt nx (fun k => hs n (5 + k)) m.toNat (hs n)) pl v p.toNat (t_l pl kd wt nx m.toNat (hs n)).length ((t_l pl kd wt nx m.toNat (hs n)).length + 1) : Nat) : Int) ≤ 3000000 * (((t_l pl kd wt nx m.toNat (hs n)).length + 1 : Nat) : Int) := by have z := mit_le (b := t_at pl kd wt nx (fun k => hs n (5 + k)) m.toNat (hs n)) (pl := pl) (v := v) (p := p.toNat) (R := (t_l pl kd wt nx m.toNat (hs n)).length) (by omega) hlen ((t_l pl kd wt nx m.toNat (hs n)).length + 1) (by omega); omega
      have hms : ((msm p.toNat (t_l pl kd wt nx m.toNat (hs n)).length ((t_l pl kd wt nx m.toNat (hs n)).length + 1) : Nat) : Int) ≤ 3000000 * (((t_l pl kd wt nx m.toNat (hs n)).length + 1 : Nat) : Int) := by have z := msm_le (p := p.toNat) (R := (t_l pl kd wt nx m.toNat (hs n)).length) (by omega) hlen ((t_l pl kd wt nx m.toNat (hs n)).length + 1) (by omega); omega
      have hsm : msm p.toNat (t_l pl kd wt nx m.toNat (hs n)).length ((t_l pl kd wt nx m.toNat (hs n)).length + 1) = 12 ^ (t_l pl kd wt nx m.toNat (hs n)).length := msm_eq ⟨p.toNat, by omega⟩ ⟨(t_l pl kd wt nx m.toNat (hs n)).length, by omega⟩
      have hpos : 0 < 12 ^ (t_l pl kd wt nx m.toNat (hs n)).length := Nat.pow_pos (by omega)
      have h12 : ((12 ^ (t_l pl kd wt nx m.toNat (hs n)).length : Nat) : Int) ≤ 2985984 := Int.ofNat_le.mpr (Nat.le_trans (Nat.pow_le_pow_right (by omega) hlen) (by decide))
      rw [hsm]
      refine xr_iload hc rfl rfl ?_
      refine xr_iload hc rfl rfl ?_
      refine xr_icmp_gt hc rfl (t := 99) rfl (fun b30 => ?_) (fun b30 => ?_)
      · refine xr_aloadn hc rfl rfl ?_
        refine xr_lload hc rfl rfl ?_
        refine xr_lload hc rfl rfl ?_
        refine xr_callv2 hc rfl (by first | assumption | rfl) rfl rfl rfl (Nat.le_of_ble_eq_true rfl) (Nat.zero_le _) (Nat.zero_le _) ?_
        refine D_tellParts hl (by omega) (by omega) (fun z => by omega) (fun M3 g1 g2 g3 => ?_)
        refine xk_0 ?_
        refine xr_iconst hc rfl ?_
        refine xr_ireturn hc rfl rfl (Nat.zero_le _) (Nat.zero_le _) ?_
        have hall := mit_all (b := t_at pl kd wt nx (fun k => hs n (5 + k)) m.toNat (hs n)) (pl := pl) (v := v) (p := p.toNat) (R := (t_l pl kd wt nx m.toNat (hs n)).length) (by omega) hlen (6 - (t_l pl kd wt nx m.toNat (hs n)).length) (by omega)
        rw [show (t_l pl kd wt nx m.toNat (hs n)).length + 1 + (6 - (t_l pl kd wt nx m.toNat (hs n)).length) = 7 by omega] at hall
        rw [← hall] at g2 g3
        exact hQ M3 (fun q2 k2 u1 u2 u3 => by rw [g1 _ _ u3, tf _ _ u1 u2]) g2 g3
      · omega
    | succ m_ ih =>
      intro k e1 e2 e3 hk
      have nR : M2 115 1 = pl := by rw [tf _ _ (by omega) (by omega)]; exact a2
      have hmb : ((mw p.toNat (t_l pl kd wt nx m.toNat (hs n)).length k : Nat) : Int) ≤ 3000000 := Int.ofNat_le.mpr (mw_b (by omega) hlen (by omega))
      have hkp2 := mul99 (a := pl) (b := (k : Int)) (by omega) (by omega)
      have hkp3 : pl * (k : Int) ≤ 9 * 7 := Int.mul_le_mul (by omega) (by omega) (by omega) (by omega)
      have hcm : (k : Int) * pl = pl * (k : Int) := Int.mul_comm _ _
      have hml : ((mit (t_at pl kd wt nx (fun k => hs n (5 + k)) m.toNat (hs n)) pl v p.toNat (t_l pl kd wt nx m.toNat (hs n)).length (k) : Nat) : Int) ≤ 3000000 * ((k : Nat) : Int) := by have z := mit_le (b := t_at pl kd wt nx (fun k => hs n (5 + k)) m.toNat (hs n)) (pl := pl) (v := v) (p := p.toNat) (R := (t_l pl kd wt nx m.toNat (hs n)).length) (by omega) hlen (k) (by omega); omega
      have hms : ((msm p.toNat (t_l pl kd wt nx m.toNat (hs n)).length (k) : Nat) : Int) ≤ 3000000 * ((k : Nat) : Int) := by have z := msm_le (p := p.toNat) (R := (t_l pl kd wt nx m.toNat (hs n)).length) (by omega) hlen (k) (by omega); omega
      have em : ∀ _ : Unit, mit (t_at pl kd wt nx (fun k => hs n (5 + k)) m.toNat (hs n)) pl v p.toNat (t_l pl kd wt nx m.toNat (hs n)).length (k + 1) = mit (t_at pl kd wt nx (fun k => hs n (5 + k)) m.toNat (hs n)) pl v p.toNat (t_l pl kd wt nx m.toNat (hs n)).length k + if t_at pl kd wt nx (fun k => hs n (5 + k)) m.toNat (hs n) + k * pl ≤ v then mw p.toNat (t_l pl kd wt nx m.toNat (hs n)).length k else 0 := fun _ => rfl
      refine xr_iload hc rfl rfl ?_
      refine xr_iload hc rfl rfl ?_
      refine xr_icmp_gt hc rfl (t := 99) rfl (fun b30 => ?_) (fun b30 => ?_)
      · omega
      · refine xr_iload hc rfl rfl ?_
        refine xr_iload hc rfl rfl ?_
        refine xr_iloadn hc rfl rfl ?_
        refine xr_calls3 hc rfl (by decide) rfl rfl rfl (Nat.le_of_ble_eq_true rfl) (Nat.zero_le _) (Nat.zero_le _) ?_
        refine D_waysOf (by omega) hlen (by omega) ?_
        refine xk_1 ?_
        refine xr_lstore12 hc rfl rfl ?_
        refine xr_iload hc rfl rfl ?_
        refine xr_aloadn hc rfl rfl ?_
        refine xr_getfi hc rfl (Or.inl rfl) (by first | assumption | rfl) ?_
        rw [nR]
        refine xr_iload hc rfl rfl ?_
        refine xr_imulz hc rfl (by first | exact dz_wid (by first | omega | (unfold dz_w; omega)) (by first | omega | (unfold dz_w; omega)) | rfl) ?_
        refine xr_iaddz hc rfl (by first | exact dz_wid (by first | omega | (unfold dz_w; omega)) (by first | omega | (unfold dz_w; omega)) | rfl) ?_
        refine xr_istore14 hc rfl rfl ?_
        refine xr_lload hc rfl rfl ?_
        refine xr_iload hc rfl rfl ?_
        refine xr_if_eq hc rfl (t := 71) rfl (fun b59 => ?_) (fun b59 => ?_)
        · refine xr_iload hc rfl rfl ?_
          refine xr_iloadn hc rfl rfl ?_
          refine xr_icmp_gt hc rfl (t := 82) rfl (fun b74 => ?_) (fun b74 => ?_)
          · refine xr_lconst hc rfl ?_
            refine xr_ladd hc rfl ?_
            refine xr_lstore7 hc rfl rfl ?_
            refine xr_lload hc rfl rfl ?_
            refine xr_lload hc rfl rfl ?_
            refine xr_ladd hc rfl ?_
            refine xr_lstore9 hc rfl rfl ?_
            refine xr_iincz11 hc rfl rfl (by first | exact dz_wid (by first | omega | (unfold dz_w; omega)) (by first | omega | (unfold dz_w; omega)) | rfl) ?_
            refine xr_goto hc rfl (t := 26) rfl ?_
            have em := em ()
            have ems : ((msm p.toNat (t_l pl kd wt nx m.toNat (hs n)).length k : Nat) : Int) + ((mw p.toNat (t_l pl kd wt nx m.toNat (hs n)).length k : Nat) : Int) = ((msm p.toNat (t_l pl kd wt nx m.toNat (hs n)).length (k + 1) : Nat) : Int) := by rw [← Int.natCast_add]; rfl
            rw [show dz_W (((msm p.toNat (t_l pl kd wt nx m.toNat (hs n)).length k : Nat) : Int) + ((mw p.toNat (t_l pl kd wt nx m.toNat (hs n)).length k : Nat) : Int)) = ((msm p.toNat (t_l pl kd wt nx m.toNat (hs n)).length (k + 1) : Nat) : Int) by rw [ems]; exact dz_W_id ⟨by omega, by omega⟩]
            by_cases hv : t_at pl kd wt nx (fun k => hs n (5 + k)) m.toNat (hs n) + (k : Int) * pl ≤ v
            · rw [if_pos hv] at em
              first
                | (exfalso; omega)
                | (rw [show dz_W (((mit (t_at pl kd wt nx (fun k => hs n (5 + k)) m.toNat (hs n)) pl v p.toNat (t_l pl kd wt nx m.toNat (hs n)).length (k) : Nat) : Int) + ((mw p.toNat (t_l pl kd wt nx m.toNat (hs n)).length k : Nat) : Int)) = ((mit (t_at pl kd wt nx (fun k => hs n (5 + k)) m.toNat (hs n)) pl v p.toNat (t_l pl kd wt nx m.toNat (hs n)).length ((k + 1)) : Nat) : Int) by rw [em, Int.natCast_add]; exact dz_W_id ⟨by omega, by omega⟩]
                   exact ih (k + 1) _ _ _ (by omega))
            · rw [if_neg hv] at em
              first
                | (exfalso; omega)
                | (rw [show dz_W (((mit (t_at pl kd wt nx (fun k => hs n (5 + k)) m.toNat (hs n)) pl v p.toNat (t_l pl kd wt nx m.toNat (hs n)).length (k) : Nat) : Int) + ((0 : Fin 2).val : Int)) = ((mit (t_at pl kd wt nx (fun k => hs n (5 + k)) m.toNat (hs n)) pl v p.toNat (t_l pl kd wt nx m.toNat (hs n)).length ((k + 1)) : Nat) : Int) by rw [em, show (((0 : Fin 2).val : Int)) = 0 from rfl, Int.add_zero]; exact dz_W_id ⟨by omega, by omega⟩]
                   exact ih (k + 1) _ _ _ (by omega))
          · refine xr_lload hc rfl rfl ?_
            refine xr_goto hc rfl (t := 83) rfl ?_
            refine xr_ladd hc rfl ?_
            refine xr_lstore7 hc rfl rfl ?_
            refine xr_lload hc rfl rfl ?_
            refine xr_lload hc rfl rfl ?_
            refine xr_ladd hc rfl ?_
            refine xr_lstore9 hc rfl rfl ?_
            refine xr_iincz11 hc rfl rfl (by first | exact dz_wid (by first | omega | (unfold dz_w; omega)) (by first | omega | (unfold dz_w; omega)) | rfl) ?_
            refine xr_goto hc rfl (t := 26) rfl ?_
            have em := em ()
            have ems : ((msm p.toNat (t_l pl kd wt nx m.toNat (hs n)).length k : Nat) : Int) + ((mw p.toNat (t_l pl kd wt nx m.toNat (hs n)).length k : Nat) : Int) = ((msm p.toNat (t_l pl kd wt nx m.toNat (hs n)).length (k + 1) : Nat) : Int) := by rw [← Int.natCast_add]; rfl
            rw [show dz_W (((msm p.toNat (t_l pl kd wt nx m.toNat (hs n)).length k : Nat) : Int) + ((mw p.toNat (t_l pl kd wt nx m.toNat (hs n)).length k : Nat) : Int)) = ((msm p.toNat (t_l pl kd wt nx m.toNat (hs n)).length (k + 1) : Nat) : Int) by rw [ems]; exact dz_W_id ⟨by omega, by omega⟩]
            by_cases hv : t_at pl kd wt nx (fun k => hs n (5 + k)) m.toNat (hs n) + (k : Int) * pl ≤ v
            · rw [if_pos hv] at em
              first
                | (exfalso; omega)
                | (rw [show dz_W (((mit (t_at pl kd wt nx (fun k => hs n (5 + k)) m.toNat (hs n)) pl v p.toNat (t_l pl kd wt nx m.toNat (hs n)).length (k) : Nat) : Int) + ((mw p.toNat (t_l pl kd wt nx m.toNat (hs n)).length k : Nat) : Int)) = ((mit (t_at pl kd wt nx (fun k => hs n (5 + k)) m.toNat (hs n)) pl v p.toNat (t_l pl kd wt nx m.toNat (hs n)).length ((k + 1)) : Nat) : Int) by rw [em, Int.natCast_add]; exact dz_W_id ⟨by omega, by omega⟩]
                   exact ih (k + 1) _ _ _ (by omega))
            · rw [if_neg hv] at em
              first
                | (exfalso; omega)
                | (rw [show dz_W (((mit (t_at pl kd wt nx (fun k => hs n (5 + k)) m.toNat (hs n)) pl v p.toNat (t_l pl kd wt nx m.toNat (hs n)).length (k) : Nat) : Int) + ((0 : Fin 2).val : Int)) = ((mit (t_at pl kd wt nx (fun k => hs n (5 + k)) m.toNat (hs n)) pl v p.toNat (t_l pl kd wt nx m.toNat (hs n)).length ((k + 1)) : Nat) : Int) by rw [em, show (((0 : Fin 2).val : Int)) = 0 from rfl, Int.add_zero]; exact dz_W_id ⟨by omega, by omega⟩]
                   exact ih (k + 1) _ _ _ (by omega))
        · refine xr_lload hc rfl rfl ?_
          refine xr_iload hc rfl rfl ?_
          refine xr_i2l hc rfl ?_
          refine xr_lmul hc rfl ?_
          refine xr_goto hc rfl (t := 83) rfl ?_
          refine xr_ladd hc rfl ?_
          refine xr_lstore7 hc rfl rfl ?_
          refine xr_lload hc rfl rfl ?_
          refine xr_lload hc rfl rfl ?_
          refine xr_ladd hc rfl ?_
          refine xr_lstore9 hc rfl rfl ?_
          refine xr_iincz11 hc rfl rfl (by first | exact dz_wid (by first | omega | (unfold dz_w; omega)) (by first | omega | (unfold dz_w; omega)) | rfl) ?_
          refine xr_goto hc rfl (t := 26) rfl ?_
          have em := em ()
          have ems : ((msm p.toNat (t_l pl kd wt nx m.toNat (hs n)).length k : Nat) : Int) + ((mw p.toNat (t_l pl kd wt nx m.toNat (hs n)).length k : Nat) : Int) = ((msm p.toNat (t_l pl kd wt nx m.toNat (hs n)).length (k + 1) : Nat) : Int) := by rw [← Int.natCast_add]; rfl
          rw [show dz_W (((msm p.toNat (t_l pl kd wt nx m.toNat (hs n)).length k : Nat) : Int) + ((mw p.toNat (t_l pl kd wt nx m.toNat (hs n)).length k : Nat) : Int)) = ((msm p.toNat (t_l pl kd wt nx m.toNat (hs n)).length (k + 1) : Nat) : Int) by rw [ems]; exact dz_W_id ⟨by omega, by omega⟩]
          by_cases hv : t_at pl kd wt nx (fun k => hs n (5 + k)) m.toNat (hs n) + (k : Int) * pl ≤ v
          · rw [if_pos hv] at em
            first
              | (exfalso; omega)
              | (rw [show dz_W (((mit (t_at pl kd wt nx (fun k => hs n (5 + k)) m.toNat (hs n)) pl v p.toNat (t_l pl kd wt nx m.toNat (hs n)).length (k) : Nat) : Int) + ((mw p.toNat (t_l pl kd wt nx m.toNat (hs n)).length k : Nat) : Int)) = ((mit (t_at pl kd wt nx (fun k => hs n (5 + k)) m.toNat (hs n)) pl v p.toNat (t_l pl kd wt nx m.toNat (hs n)).length ((k + 1)) : Nat) : Int) by rw [em, Int.natCast_add]; exact dz_W_id ⟨by omega, by omega⟩]
                 exact ih (k + 1) _ _ _ (by omega))
          · rw [if_neg hv] at em
            first
              | (exfalso; omega)
              | (rw [show dz_W (((mit (t_at pl kd wt nx (fun k => hs n (5 + k)) m.toNat (hs n)) pl v p.toNat (t_l pl kd wt nx m.toNat (hs n)).length (k) : Nat) : Int) + ((0 : Fin 2).val : Int)) = ((mit (t_at pl kd wt nx (fun k => hs n (5 + k)) m.toNat (hs n)) pl v p.toNat (t_l pl kd wt nx m.toNat (hs n)).length ((k + 1)) : Nat) : Int) by rw [em, show (((0 : Fin 2).val : Int)) = 0 from rfl, Int.add_zero]; exact dz_W_id ⟨by omega, by omega⟩]
                 exact ih (k + 1) _ _ _ (by omega))
  refine xk_1 ?_
  refine xr_istore5 hc rfl rfl ?_
  refine xr_aloadn hc rfl rfl ?_
  refine xr_getfi hc rfl (Or.inl rfl) (by first | assumption | rfl) ?_
  rw [c2]
  refine xr_istore6 hc rfl rfl ?_
  refine xr_lconst hc rfl ?_
  refine xr_lstore7 hc rfl rfl ?_
  refine xr_lconst hc rfl ?_
  refine xr_lstore9 hc rfl rfl ?_
  refine xr_iconst hc rfl ?_
  refine xr_istore11 hc rfl rfl ?_
  exact lp ((t_l pl kd wt nx m.toNat (hs n)).length + 1) 0 _ _ _ (by omega)
set_option maxRecDepth 100000 in
theorem D_tellMisses1 {xo : Nat → List Int} {d : Nat} {Q : dz_Q} {sh : List (Nat ⊕ (Nat × Nat))} {rf : Nat → Nat → Nat} {M : Nat → Nat → Int} {rs : Nat → Int} {it : Nat → Nat → Int} {ts : Nat → Int} {ch : Nat → Nat → Int} {tl up lo : Int} {fn : Nat → Int} {w pl : Int} {kd wt nx : Nat → Int} {n : Nat} {hs : Nat → Nat → Int} {kp : Nat → Int} {kh : Nat → Nat → Nat → Int} {m v p : Int} (hl : ml sh rf) (hR : RM M rs it ts ch tl up lo fn w pl kd wt nx n hs kp kh) (hW : WF rs it ts ch tl up lo fn w pl kd wt nx n hs kp kh) (hw0 : w ≠ 0) (hm : 0 ≤ m ∧ m ≤ 3) (hpp : 0 ≤ p ∧ p ≤ 12) (hQ : ∀ M2 : Nat → Nat → Int, (∀ q2 k2, ¬ (q2 = 115 ∧ 21 ≤ k2 ∧ k2 ≤ 23) → ¬ (q2 = 116 ∧ 3612 ≤ k2) → ¬ (q2 = 115 ∧ (k2 = 11 ∨ k2 = 12)) → M2 q2 k2 = M q2 k2) → M2 115 11 = (o_sh (12 * t_at pl kd wt nx (fun k => hs n (5 + k)) m.toNat (hs n) + (t_l pl kd wt nx m.toNat (hs n)).length * pl * p) 12).1 → M2 115 12 = (o_sh (12 * t_at pl kd wt nx (fun k => hs n (5 + k)) m.toNat (hs n) + (t_l pl kd wt nx m.toNat (hs n)).length * pl * p) 12).2 → Q (some (dz_i 1)) (sh, rf, M2)) : dz_E dz_pp xo (d + 6) 200 [dz_r 115, dz_i m, dz_i v, dz_i p, dz_i 1] (sh, rf, M) Q := by
  refine ⟨Nat.le_of_ble_eq_true rfl, ?_⟩
  have hc := dz_E_m dz_pp xo (d + 5)
  show dz_X (dz_E dz_pp xo (d + 5)) dz_pp xo (dz_pp 200) Q 0 [some (dz_r 115), some (dz_i m), some (dz_i v), some (dz_i p), some (dz_i 1), none, none, none, none, none, none, none, none, none, none] [] 0 0 (sh, rf, M)
  obtain ⟨c0, c1, c2, c3, c4, c5, c6, c7, c8, c9, c10, c11, c12, c13, c14, c15, c16, c17, c18, c19, c20, c21, c22, c23, c24, c25, c26, c27, c28, c29⟩ := id hl
  obtain ⟨hrow, htxt, htl, hup, hlo, hfn, hdr, hkp⟩ := id hR
  obtain ⟨wrow, wtxt, wdr, wst, wkp⟩ := id hW
  have hw6 := WF_w hW
  have hdr3 : drM M w pl kd wt nx n hs ∧ w ≤ 6 ∧ n ≤ 40 := ⟨hdr, hw6.2, wst.1⟩
  have hkp3 : kepM M w kp kh ∧ w ≤ 6 ∧ ∀ k, k < 3 → kp k ≤ 40 := ⟨hkp, hw6.2, fun k hk => by
    rcases wkp k hk with z | z
    · omega
    · exact z.2.1⟩
  obtain ⟨a1, a2, a3, b1, b2, b3⟩ := id hdr
  have hpg : pgM M w pl kd wt nx := ⟨a1, a2, a3⟩
  have b2c : ∀ c, okc w c → M 116 c = hs n c := fun c hc => by
    have h3 := b2 c hc
    rw [Nat.zero_add] at h3
    exact h3
  have hp := WF_p hW (by omega)
  have hst := wst.2 n (Nat.le_refl n)
  obtain ⟨p1, p2, p3, p4, p5⟩ := id hp
  obtain ⟨st0, st1, st2, st3, st4, st5, st6, st7, st8⟩ := id hst
  have hln := t_l_in hp m.toNat _ _ hst (by omega)
  have hlen : (t_l pl kd wt nx m.toNat (hs n)).length ≤ 6 := by have z := hln.2; omega
  have hAt := t_at_in (sp := (fun k => hs n (5 + k))) (m := m.toNat) hp hst (by omega)
  refine xr_aloadn hc rfl rfl ?_
  refine xr_callv0 hc rfl (by first | assumption | rfl) rfl rfl rfl (Nat.le_of_ble_eq_true rfl) (Nat.zero_le _) (Nat.zero_le _) ?_
  refine D_layTried hl hR hW (fun M1 z1 z2 z3 z4 z5 => ?_)
  refine xk_0 ?_
  refine xr_aloadn hc rfl rfl ?_
  refine xr_iloadn hc rfl rfl ?_
  refine xr_callv1 hc rfl (by first | assumption | rfl) rfl rfl rfl (Nat.le_of_ble_eq_true rfl) (Nat.zero_le _) (Nat.zero_le _) ?_
  refine D_beatsTried (w := w) (pl := pl) (B := 29 * n) (kd := kd) (wt := wt) (nx := nx) (s := hs n) hl (tfr_pg z1 hpg) hp hst (by omega) z2 z5 (by omega) (fun M2 y1 y2 y3 y4 => ?_)
  have tf := tfr_trans z1 y1
  have hR2 := RM_scr hR hW (tfr_scr tf)
  obtain ⟨-, c2⟩ := y4 ⟨z3, z4⟩
  have ea : t_run pl kd wt nx m.toNat (hs n) 1 - hs n 1 = t_at pl kd wt nx (fun k => hs n (5 + k)) m.toNat (hs n) := t_at_run hp hst (by omega) (t_eq_refl w (hs n)) rfl (fun i hi => rfl)
  rw [ea]
  have lp : ∀ (m_ : Nat) (k : Nat) (e1 e2 e3 : Option dz_V), k + m_ = (t_l pl kd wt nx m.toNat (hs n)).length + 1 → dz_X (dz_E dz_pp xo (d + 5)) dz_pp xo (dz_pp 200) Q 26 [some (dz_r 115), some (dz_i m), some (dz_i v), some (dz_i p), some (dz_i 1), some (dz_i (t_at pl kd wt nx (fun k => hs n (5 + k)) m.toNat (hs n))), some (dz_i ((t_l pl kd wt nx m.toNat (hs n)).length : Int)), some (dz_l (mmn (t_at pl kd wt nx (fun k => hs n (5 + k)) m.toNat (hs n)) pl p.toNat (t_l pl kd wt nx m.toNat (hs n)).length (k))), none, some (dz_l ((msm p.toNat (t_l pl kd wt nx m.toNat (hs n)).length k : Nat) : Int)), none, some (dz_i (k : Int)), e1, e2, e3] [] 0 0 (sh, rf, M2) := by
    intro m_
    induction m_ with
    | zero =>
      intro k e1 e2 e3 hk
      have ek : k = (t_l pl kd wt nx m.toNat (hs n)).length + 1 := by omega
      subst ek
      have hml := mmn_in (b := t_at pl kd wt nx (fun k => hs n (5 + k)) m.toNat (hs n)) (pl := pl) (p := p.toNat) (R := (t_l pl kd wt nx m.toNat (hs n)).length) (by omega) hlen (by omega) (by omega) ((t_l pl kd wt nx m.toNat (hs n)).length + 1) (by omega)
      have hms : ((msm p.toNat (t_l pl kd wt nx m.toNat (hs n)).length ((t_l pl kd wt nx m.toNat (hs n)).length + 1) : Nat) : Int) ≤ 3000000 * (((t_l pl kd wt nx m.toNat (hs n)).length + 1 : Nat) : Int) := by have z := msm_le (p := p.toNat) (R := (t_l pl kd wt nx m.toNat (hs n)).length) (by omega) hlen ((t_l pl kd wt nx m.toNat (hs n)).length + 1) (by omega); omega
      have hsm : msm p.toNat (t_l pl kd wt nx m.toNat (hs n)).length ((t_l pl kd wt nx m.toNat (hs n)).length + 1) = 12 ^ (t_l pl kd wt nx m.toNat (hs n)).length := msm_eq ⟨p.toNat, by omega⟩ ⟨(t_l pl kd wt nx m.toNat (hs n)).length, by omega⟩
      have hpos : 0 < 12 ^ (t_l pl kd wt nx m.toNat (hs n)).length := Nat.pow_pos (by omega)
      have h12 : ((12 ^ (t_l pl kd wt nx m.toNat (hs n)).length : Nat) : Int) ≤ 2985984 := Int.ofNat_le.mpr (Nat.le_trans (Nat.pow_le_pow_right (by omega) hlen) (by decide))
      rw [hsm]
      obtain ⟨Z, hZ⟩ : ∃ Z : Nat, (Z : Int) = mmn (t_at pl kd wt nx (fun k => hs n (5 + k)) m.toNat (hs n)) pl p.toNat (t_l pl kd wt nx m.toNat (hs n)).length ((t_l pl kd wt nx m.toNat (hs n)).length + 1) := ⟨(mmn (t_at pl kd wt nx (fun k => hs n (5 + k)) m.toNat (hs n)) pl p.toNat (t_l pl kd wt nx m.toNat (hs n)).length ((t_l pl kd wt nx m.toNat (hs n)).length + 1)).toNat, by omega⟩
      rw [← hZ]
      refine xr_iload hc rfl rfl ?_
      refine xr_iload hc rfl rfl ?_
      refine xr_icmp_gt hc rfl (t := 99) rfl (fun b30 => ?_) (fun b30 => ?_)
      · refine xr_aloadn hc rfl rfl ?_
        refine xr_lload hc rfl rfl ?_
        refine xr_lload hc rfl rfl ?_
        refine xr_callv2 hc rfl (by first | assumption | rfl) rfl rfl rfl (Nat.le_of_ble_eq_true rfl) (Nat.zero_le _) (Nat.zero_le _) ?_
        refine D_tellParts hl (by omega) (by omega) (fun z => by omega) (fun M3 g1 g2 g3 => ?_)
        refine xk_0 ?_
        refine xr_iconst hc rfl ?_
        refine xr_ireturn hc rfl rfl (Nat.zero_le _) (Nat.zero_le _) ?_
        rw [hZ, mid_eq (by omega) hlen (by omega) (by omega), show ((p.toNat : Nat) : Int) = p by omega] at g2 g3
        exact hQ M3 (fun q2 k2 u1 u2 u3 => by rw [g1 _ _ u3, tf _ _ u1 u2]) g2 g3
      · omega
    | succ m_ ih =>
      intro k e1 e2 e3 hk
      have nR : M2 115 1 = pl := by rw [tf _ _ (by omega) (by omega)]; exact a2
      have hmb : ((mw p.toNat (t_l pl kd wt nx m.toNat (hs n)).length k : Nat) : Int) ≤ 3000000 := Int.ofNat_le.mpr (mw_b (by omega) hlen (by omega))
      have hkp2 := mul99 (a := pl) (b := (k : Int)) (by omega) (by omega)
      have hkp3 : pl * (k : Int) ≤ 9 * 7 := Int.mul_le_mul (by omega) (by omega) (by omega) (by omega)
      have hcm : (k : Int) * pl = pl * (k : Int) := Int.mul_comm _ _
      have hml := mmn_in (b := t_at pl kd wt nx (fun k => hs n (5 + k)) m.toNat (hs n)) (pl := pl) (p := p.toNat) (R := (t_l pl kd wt nx m.toNat (hs n)).length) (by omega) hlen (by omega) (by omega) (k) (by omega)
      have hms : ((msm p.toNat (t_l pl kd wt nx m.toNat (hs n)).length (k) : Nat) : Int) ≤ 3000000 * ((k : Nat) : Int) := by have z := msm_le (p := p.toNat) (R := (t_l pl kd wt nx m.toNat (hs n)).length) (by omega) hlen (k) (by omega); omega
      have em : ∀ _ : Unit, mmn (t_at pl kd wt nx (fun k => hs n (5 + k)) m.toNat (hs n)) pl p.toNat (t_l pl kd wt nx m.toNat (hs n)).length (k + 1) = mmn (t_at pl kd wt nx (fun k => hs n (5 + k)) m.toNat (hs n)) pl p.toNat (t_l pl kd wt nx m.toNat (hs n)).length k + ((mw p.toNat (t_l pl kd wt nx m.toNat (hs n)).length k : Nat) : Int) * (t_at pl kd wt nx (fun k => hs n (5 + k)) m.toNat (hs n) + pl * k) := fun _ => rfl
      have hmn2 := mmn_in (b := t_at pl kd wt nx (fun k => hs n (5 + k)) m.toNat (hs n)) (pl := pl) (p := p.toNat) (R := (t_l pl kd wt nx m.toNat (hs n)).length) (by omega) hlen (by omega) (by omega) (k + 1) (by omega)
      have hml0 : 0 ≤ ((mw p.toNat (t_l pl kd wt nx m.toNat (hs n)).length k : Nat) : Int) * (t_at pl kd wt nx (fun k => hs n (5 + k)) m.toNat (hs n) + pl * k) ∧ ((mw p.toNat (t_l pl kd wt nx m.toNat (hs n)).length k : Nat) : Int) * (t_at pl kd wt nx (fun k => hs n (5 + k)) m.toNat (hs n) + pl * k) ≤ 3000000 * 300 := ⟨Int.mul_nonneg (by omega) (by omega), Int.mul_le_mul (by omega) (by omega) (by omega) (by omega)⟩
      refine xr_iload hc rfl rfl ?_
      refine xr_iload hc rfl rfl ?_
      refine xr_icmp_gt hc rfl (t := 99) rfl (fun b30 => ?_) (fun b30 => ?_)
      · omega
      · refine xr_iload hc rfl rfl ?_
        refine xr_iload hc rfl rfl ?_
        refine xr_iloadn hc rfl rfl ?_
        refine xr_calls3 hc rfl (by decide) rfl rfl rfl (Nat.le_of_ble_eq_true rfl) (Nat.zero_le _) (Nat.zero_le _) ?_
        refine D_waysOf (by omega) hlen (by omega) ?_
        refine xk_1 ?_
        refine xr_lstore12 hc rfl rfl ?_
        refine xr_iload hc rfl rfl ?_
        refine xr_aloadn hc rfl rfl ?_
        refine xr_getfi hc rfl (Or.inl rfl) (by first | assumption | rfl) ?_
        rw [nR]
        refine xr_iload hc rfl rfl ?_
        refine xr_imulz hc rfl (by first | exact dz_wid (by first | omega | (unfold dz_w; omega)) (by first | omega | (unfold dz_w; omega)) | rfl) ?_
        refine xr_iaddz hc rfl (by first | exact dz_wid (by first | omega | (unfold dz_w; omega)) (by first | omega | (unfold dz_w; omega)) | rfl) ?_
        refine xr_istore14 hc rfl rfl ?_
        refine xr_lload hc rfl rfl ?_
        refine xr_iload hc rfl rfl ?_
        refine xr_if_eq hc rfl (t := 71) rfl (fun b59 => ?_) (fun b59 => ?_)
        · refine xr_iload hc rfl rfl ?_
          refine xr_iloadn hc rfl rfl ?_
          refine xr_icmp_gt hc rfl (t := 82) rfl (fun b74 => ?_) (fun b74 => ?_)
          · refine xr_lconst hc rfl ?_
            refine xr_ladd hc rfl ?_
            refine xr_lstore7 hc rfl rfl ?_
            refine xr_lload hc rfl rfl ?_
            refine xr_lload hc rfl rfl ?_
            refine xr_ladd hc rfl ?_
            refine xr_lstore9 hc rfl rfl ?_
            refine xr_iincz11 hc rfl rfl (by first | exact dz_wid (by first | omega | (unfold dz_w; omega)) (by first | omega | (unfold dz_w; omega)) | rfl) ?_
            refine xr_goto hc rfl (t := 26) rfl ?_
            first
              | (exfalso; omega)
              | (skip
                 have em := em ()
                 have ems : ((msm p.toNat (t_l pl kd wt nx m.toNat (hs n)).length k : Nat) : Int) + ((mw p.toNat (t_l pl kd wt nx m.toNat (hs n)).length k : Nat) : Int) = ((msm p.toNat (t_l pl kd wt nx m.toNat (hs n)).length (k + 1) : Nat) : Int) := by rw [← Int.natCast_add]; rfl
                 rw [show dz_W (((msm p.toNat (t_l pl kd wt nx m.toNat (hs n)).length k : Nat) : Int) + ((mw p.toNat (t_l pl kd wt nx m.toNat (hs n)).length k : Nat) : Int)) = ((msm p.toNat (t_l pl kd wt nx m.toNat (hs n)).length (k + 1) : Nat) : Int) by rw [ems]; exact dz_W_id ⟨by omega, by omega⟩]
                 rw [show dz_W (((mw p.toNat (t_l pl kd wt nx m.toNat (hs n)).length k : Nat) : Int) * (t_at pl kd wt nx (fun k => hs n (5 + k)) m.toNat (hs n) + pl * (k : Int))) = ((mw p.toNat (t_l pl kd wt nx m.toNat (hs n)).length k : Nat) : Int) * (t_at pl kd wt nx (fun k => hs n (5 + k)) m.toNat (hs n) + pl * (k : Int)) from dz_W_id ⟨by omega, by omega⟩, show dz_W ((mmn (t_at pl kd wt nx (fun k => hs n (5 + k)) m.toNat (hs n)) pl p.toNat (t_l pl kd wt nx m.toNat (hs n)).length (k)) + ((mw p.toNat (t_l pl kd wt nx m.toNat (hs n)).length k : Nat) : Int) * (t_at pl kd wt nx (fun k => hs n (5 + k)) m.toNat (hs n) + pl * (k : Int))) = (mmn (t_at pl kd wt nx (fun k => hs n (5 + k)) m.toNat (hs n)) pl p.toNat (t_l pl kd wt nx m.toNat (hs n)).length ((k + 1))) by rw [em]; exact dz_W_id ⟨by omega, by omega⟩]
                 exact ih (k + 1) _ _ _ (by omega))
          · refine xr_lload hc rfl rfl ?_
            refine xr_goto hc rfl (t := 83) rfl ?_
            refine xr_ladd hc rfl ?_
            refine xr_lstore7 hc rfl rfl ?_
            refine xr_lload hc rfl rfl ?_
            refine xr_lload hc rfl rfl ?_
            refine xr_ladd hc rfl ?_
            refine xr_lstore9 hc rfl rfl ?_
            refine xr_iincz11 hc rfl rfl (by first | exact dz_wid (by first | omega | (unfold dz_w; omega)) (by first | omega | (unfold dz_w; omega)) | rfl) ?_
            refine xr_goto hc rfl (t := 26) rfl ?_
            first
              | (exfalso; omega)
              | (skip
                 have em := em ()
                 have ems : ((msm p.toNat (t_l pl kd wt nx m.toNat (hs n)).length k : Nat) : Int) + ((mw p.toNat (t_l pl kd wt nx m.toNat (hs n)).length k : Nat) : Int) = ((msm p.toNat (t_l pl kd wt nx m.toNat (hs n)).length (k + 1) : Nat) : Int) := by rw [← Int.natCast_add]; rfl
                 rw [show dz_W (((msm p.toNat (t_l pl kd wt nx m.toNat (hs n)).length k : Nat) : Int) + ((mw p.toNat (t_l pl kd wt nx m.toNat (hs n)).length k : Nat) : Int)) = ((msm p.toNat (t_l pl kd wt nx m.toNat (hs n)).length (k + 1) : Nat) : Int) by rw [ems]; exact dz_W_id ⟨by omega, by omega⟩]
                 rw [show dz_W (((mw p.toNat (t_l pl kd wt nx m.toNat (hs n)).length k : Nat) : Int) * (t_at pl kd wt nx (fun k => hs n (5 + k)) m.toNat (hs n) + pl * (k : Int))) = ((mw p.toNat (t_l pl kd wt nx m.toNat (hs n)).length k : Nat) : Int) * (t_at pl kd wt nx (fun k => hs n (5 + k)) m.toNat (hs n) + pl * (k : Int)) from dz_W_id ⟨by omega, by omega⟩, show dz_W ((mmn (t_at pl kd wt nx (fun k => hs n (5 + k)) m.toNat (hs n)) pl p.toNat (t_l pl kd wt nx m.toNat (hs n)).length (k)) + ((mw p.toNat (t_l pl kd wt nx m.toNat (hs n)).length k : Nat) : Int) * (t_at pl kd wt nx (fun k => hs n (5 + k)) m.toNat (hs n) + pl * (k : Int))) = (mmn (t_at pl kd wt nx (fun k => hs n (5 + k)) m.toNat (hs n)) pl p.toNat (t_l pl kd wt nx m.toNat (hs n)).length ((k + 1))) by rw [em]; exact dz_W_id ⟨by omega, by omega⟩]
                 exact ih (k + 1) _ _ _ (by omega))
        · refine xr_lload hc rfl rfl ?_
          refine xr_iload hc rfl rfl ?_
          refine xr_i2l hc rfl ?_
          refine xr_lmul hc rfl ?_
          refine xr_goto hc rfl (t := 83) rfl ?_
          refine xr_ladd hc rfl ?_
          refine xr_lstore7 hc rfl rfl ?_
          refine xr_lload hc rfl rfl ?_
          refine xr_lload hc rfl rfl ?_
          refine xr_ladd hc rfl ?_
          refine xr_lstore9 hc rfl rfl ?_
          refine xr_iincz11 hc rfl rfl (by first | exact dz_wid (by first | omega | (unfold dz_w; omega)) (by first | omega | (unfold dz_w; omega)) | rfl) ?_
          refine xr_goto hc rfl (t := 26) rfl ?_
          first
            | (exfalso; omega)
            | (skip
               have em := em ()
               have ems : ((msm p.toNat (t_l pl kd wt nx m.toNat (hs n)).length k : Nat) : Int) + ((mw p.toNat (t_l pl kd wt nx m.toNat (hs n)).length k : Nat) : Int) = ((msm p.toNat (t_l pl kd wt nx m.toNat (hs n)).length (k + 1) : Nat) : Int) := by rw [← Int.natCast_add]; rfl
               rw [show dz_W (((msm p.toNat (t_l pl kd wt nx m.toNat (hs n)).length k : Nat) : Int) + ((mw p.toNat (t_l pl kd wt nx m.toNat (hs n)).length k : Nat) : Int)) = ((msm p.toNat (t_l pl kd wt nx m.toNat (hs n)).length (k + 1) : Nat) : Int) by rw [ems]; exact dz_W_id ⟨by omega, by omega⟩]
               rw [show dz_W (((mw p.toNat (t_l pl kd wt nx m.toNat (hs n)).length k : Nat) : Int) * (t_at pl kd wt nx (fun k => hs n (5 + k)) m.toNat (hs n) + pl * (k : Int))) = ((mw p.toNat (t_l pl kd wt nx m.toNat (hs n)).length k : Nat) : Int) * (t_at pl kd wt nx (fun k => hs n (5 + k)) m.toNat (hs n) + pl * (k : Int)) from dz_W_id ⟨by omega, by omega⟩, show dz_W ((mmn (t_at pl kd wt nx (fun k => hs n (5 + k)) m.toNat (hs n)) pl p.toNat (t_l pl kd wt nx m.toNat (hs n)).length (k)) + ((mw p.toNat (t_l pl kd wt nx m.toNat (hs n)).length k : Nat) : Int) * (t_at pl kd wt nx (fun k => hs n (5 + k)) m.toNat (hs n) + pl * (k : Int))) = (mmn (t_at pl kd wt nx (fun k => hs n (5 + k)) m.toNat (hs n)) pl p.toNat (t_l pl kd wt nx m.toNat (hs n)).length ((k + 1))) by rw [em]; exact dz_W_id ⟨by omega, by omega⟩]
               exact ih (k + 1) _ _ _ (by omega))
  refine xk_1 ?_
  refine xr_istore5 hc rfl rfl ?_
  refine xr_aloadn hc rfl rfl ?_
  refine xr_getfi hc rfl (Or.inl rfl) (by first | assumption | rfl) ?_
  rw [c2]
  refine xr_istore6 hc rfl rfl ?_
  refine xr_lconst hc rfl ?_
  refine xr_lstore7 hc rfl rfl ?_
  refine xr_lconst hc rfl ?_
  refine xr_lstore9 hc rfl rfl ?_
  refine xr_iconst hc rfl ?_
  refine xr_istore11 hc rfl rfl ?_
  exact lp ((t_l pl kd wt nx m.toNat (hs n)).length + 1) 0 _ _ _ (by omega)
set_option maxRecDepth 100000 in
theorem D_odds {xo : Nat → List Int} {d : Nat} {Q : dz_Q} {sh : List (Nat ⊕ (Nat × Nat))} {rf : Nat → Nat → Nat} {M : Nat → Nat → Int} {rs : Nat → Int} {it : Nat → Nat → Int} {ts : Nat → Int} {ch : Nat → Nat → Int} {tl up lo : Int} {fn : Nat → Int} {w pl : Int} {kd wt nx : Nat → Int} {n : Nat} {hs : Nat → Nat → Int} {kp : Nat → Int} {kh : Nat → Nat → Nat → Int} {m v p : Int} (hl : ml sh rf) (hR : RM M rs it ts ch tl up lo fn w pl kd wt nx n hs kp kh) (hW : WF rs it ts ch tl up lo fn w pl kd wt nx n hs kp kh) (hQ : ∀ M2 : Nat → Nat → Int, (∀ q2 k2, q2 < 115 → M2 q2 k2 = M q2 k2) → RM M2 rs it ts ch tl (o_odds up lo w pl kd wt nx (hs n) m v p).2.1 (o_odds up lo w pl kd wt nx (hs n) m v p).2.2 fn w pl kd wt nx n hs kp kh → Q (some (dz_i ((o_odds up lo w pl kd wt nx (hs n) m v p).1))) (sh, rf, M2)) : dz_E dz_pp xo (d + 7) 201 [dz_r 115, dz_i m, dz_i v, dz_i p] (sh, rf, M) Q := by
  refine ⟨Nat.le_of_ble_eq_true rfl, ?_⟩
  have hc := dz_E_m dz_pp xo (d + 6)
  show dz_X (dz_E dz_pp xo (d + 6)) dz_pp xo (dz_pp 201) Q 0 [some (dz_r 115), some (dz_i m), some (dz_i v), some (dz_i p)] [] 0 0 (sh, rf, M)
  obtain ⟨c0, c1, c2, c3, c4, c5, c6, c7, c8, c9, c10, c11, c12, c13, c14, c15, c16, c17, c18, c19, c20, c21, c22, c23, c24, c25, c26, c27, c28, c29⟩ := id hl
  obtain ⟨hrow, htxt, htl, hup, hlo, hfn, hdr, hkp⟩ := id hR
  obtain ⟨wrow, wtxt, wdr, wst, wkp⟩ := id hW
  have hw6 := WF_w hW
  have hdr3 : drM M w pl kd wt nx n hs ∧ w ≤ 6 ∧ n ≤ 40 := ⟨hdr, hw6.2, wst.1⟩
  have hkp3 : kepM M w kp kh ∧ w ≤ 6 ∧ ∀ k, k < 3 → kp k ≤ 40 := ⟨hkp, hw6.2, fun k hk => by
    rcases wkp k hk with z | z
    · omega
    · exact z.2.1⟩
  obtain ⟨a1, a2, a3, b1, b2, b3⟩ := id hdr
  have hpg : pgM M w pl kd wt nx := ⟨a1, a2, a3⟩
  have b2c : ∀ c, okc w c → M 116 c = hs n c := fun c hc => by
    have h3 := b2 c hc
    rw [Nat.zero_add] at h3
    exact h3
  refine xr_iloadn hc rfl rfl ?_
  refine xr_i2l hc rfl ?_
  refine xr_lconst hc rfl ?_
  refine xr_ldc2 hc rfl ?_
  refine xr_calls3 hc rfl (by decide) rfl rfl rfl (Nat.le_of_ble_eq_true rfl) (Nat.zero_le _) (Nat.zero_le _) ?_
  refine S_in (fun u1 v1 => ?_) (fun u1 => ?_)
  · refine xk_1 ?_
    refine xr_iff hc rfl (by simp [dz_cmp]) ?_
    refine xr_iloadn hc rfl rfl ?_
    refine xr_i2l hc rfl ?_
    refine xr_lconst hc rfl ?_
    refine xr_ldc2 hc rfl ?_
    refine xr_calls3 hc rfl (by decide) rfl rfl rfl (Nat.le_of_ble_eq_true rfl) (Nat.zero_le _) (Nat.zero_le _) ?_
    refine S_in (fun u2 v2 => ?_) (fun u2 => ?_)
    · refine xk_1 ?_
      refine xr_iff hc rfl (by simp [dz_cmp]) ?_
      refine xr_iloadn hc rfl rfl ?_
      refine xr_i2l hc rfl ?_
      refine xr_lconst hc rfl ?_
      refine xr_ldc2 hc rfl ?_
      refine xr_calls3 hc rfl (by decide) rfl rfl rfl (Nat.le_of_ble_eq_true rfl) (Nat.zero_le _) (Nat.zero_le _) ?_
      refine S_in (fun u3 v3 => ?_) (fun u3 => ?_)
      · refine xk_1 ?_
        refine xr_ift hc rfl (t := 38) rfl (by simp [dz_cmp]) ?_
        refine xr_aloadn hc rfl rfl ?_
        refine xr_getfi hc rfl (Or.inl rfl) (by first | assumption | rfl) ?_
        rw [a1]
        refine xr_if_ne hc rfl (t := 50) rfl (fun b42 => ?_) (fun b42 => ?_)
        · have hw0 : w ≠ 0 := by omega
          refine xr_aloadn hc rfl rfl ?_
          refine xr_iloadn hc rfl rfl ?_
          refine xr_iloadn hc rfl rfl ?_
          refine xr_iloadn hc rfl rfl ?_
          refine xr_iconst hc rfl ?_
          refine xr_callv4 hc rfl (by first | assumption | rfl) rfl rfl rfl (Nat.le_of_ble_eq_true rfl) (Nat.zero_le _) (Nat.zero_le _) ?_
          refine D_tellMisses0 hl hR hW hw0 (by omega) (by omega) (fun M2 g1 g2 g3 => ?_)
          refine xk_1 ?_
          refine xr_ireturn hc rfl rfl (Nat.zero_le _) (Nat.zero_le _) ?_
          first
            | (exfalso; omega)
            | (simp only [o_odds] at hQ
               repeat (first | rw [if_pos (by omega)] at hQ | rw [if_neg (by omega)] at hQ)
               try dsimp only at hQ
               exact hQ M (fun _ _ _ => rfl) hR)
            | (simp only [o_odds] at hQ
               rw [if_neg (by omega), if_neg hw0] at hQ
               refine hQ M2 (fun q2 k2 u => g1 _ _ (by omega) (by omega) (by omega)) ⟨rowM_fr hrow (fun k2 => g1 _ _ (by omega) (by omega) (by omega)) (fun k2 => g1 _ _ (by omega) (by omega) (by omega)), txtM_fr htxt (fun k2 => g1 _ _ (by omega) (by omega) (by omega)) (fun k2 => g1 _ _ (by omega) (by omega) (by omega)), Eq.trans (g1 _ _ (by omega) (by omega) (by omega)) htl, g2, g3, fndM_fr hfn (g1 _ _ (by omega) (by omega) (by omega)) (fun k2 => g1 _ _ (by omega) (by omega) (by omega)), drM_fr hdr3 (g1 _ _ (by omega) (by omega) (by omega)) (g1 _ _ (by omega) (by omega) (by omega)) (fun k2 => g1 _ _ (by omega) (by omega) (by omega)) (fun k2 => g1 _ _ (by omega) (by omega) (by omega)) (fun k2 => g1 _ _ (by omega) (by omega) (by omega)) (fun k2 u1 => g1 _ _ (by omega) (by omega) (by omega)), kepM_fr hkp3 (fun k2 u1 u2 => g1 _ _ (by omega) (by omega) (by omega))⟩)
        · refine xr_bipush hc rfl ?_
          refine xr_goto hc rfl (t := 58) rfl ?_
          refine xr_ireturn hc rfl rfl (Nat.zero_le _) (Nat.zero_le _) ?_
          first
            | (exfalso; omega)
            | (simp only [o_odds] at hQ
               repeat (first | rw [if_pos (by omega)] at hQ | rw [if_neg (by omega)] at hQ)
               try dsimp only at hQ
               exact hQ M (fun _ _ _ => rfl) hR)
            | (simp only [o_odds] at hQ
               rw [if_neg (by omega), if_neg hw0] at hQ
               refine hQ M2 (fun q2 k2 u => g1 _ _ (by omega) (by omega) (by omega)) ⟨rowM_fr hrow (fun k2 => g1 _ _ (by omega) (by omega) (by omega)) (fun k2 => g1 _ _ (by omega) (by omega) (by omega)), txtM_fr htxt (fun k2 => g1 _ _ (by omega) (by omega) (by omega)) (fun k2 => g1 _ _ (by omega) (by omega) (by omega)), Eq.trans (g1 _ _ (by omega) (by omega) (by omega)) htl, g2, g3, fndM_fr hfn (g1 _ _ (by omega) (by omega) (by omega)) (fun k2 => g1 _ _ (by omega) (by omega) (by omega)), drM_fr hdr3 (g1 _ _ (by omega) (by omega) (by omega)) (g1 _ _ (by omega) (by omega) (by omega)) (fun k2 => g1 _ _ (by omega) (by omega) (by omega)) (fun k2 => g1 _ _ (by omega) (by omega) (by omega)) (fun k2 => g1 _ _ (by omega) (by omega) (by omega)) (fun k2 u1 => g1 _ _ (by omega) (by omega) (by omega)), kepM_fr hkp3 (fun k2 u1 u2 => g1 _ _ (by omega) (by omega) (by omega))⟩)
      · refine xk_1 ?_
        refine xr_iff hc rfl (by simp [dz_cmp]) ?_
        refine xr_iconst hc rfl ?_
        refine xr_ireturn hc rfl rfl (Nat.zero_le _) (Nat.zero_le _) ?_
        simp only [o_odds] at hQ
        repeat (first | rw [if_pos (by omega)] at hQ | rw [if_neg (by omega)] at hQ)
        try dsimp only at hQ
        exact hQ M (fun _ _ _ => rfl) hR
    · refine xk_1 ?_
      refine xr_ift hc rfl (t := 36) rfl (by simp [dz_cmp]) ?_
      refine xr_iconst hc rfl ?_
      refine xr_ireturn hc rfl rfl (Nat.zero_le _) (Nat.zero_le _) ?_
      simp only [o_odds] at hQ
      repeat (first | rw [if_pos (by omega)] at hQ | rw [if_neg (by omega)] at hQ)
      try dsimp only at hQ
      exact hQ M (fun _ _ _ => rfl) hR
  · refine xk_1 ?_
    refine xr_ift hc rfl (t := 36) rfl (by simp [dz_cmp]) ?_
    refine xr_iconst hc rfl ?_
    refine xr_ireturn hc rfl rfl (Nat.zero_le _) (Nat.zero_le _) ?_
    simp only [o_odds] at hQ
    repeat (first | rw [if_pos (by omega)] at hQ | rw [if_neg (by omega)] at hQ)
    try dsimp only at hQ
    exact hQ M (fun _ _ _ => rfl) hR
set_option maxRecDepth 100000 in
theorem D_mid {xo : Nat → List Int} {d : Nat} {Q : dz_Q} {sh : List (Nat ⊕ (Nat × Nat))} {rf : Nat → Nat → Nat} {M : Nat → Nat → Int} {rs : Nat → Int} {it : Nat → Nat → Int} {ts : Nat → Int} {ch : Nat → Nat → Int} {tl up lo : Int} {fn : Nat → Int} {w pl : Int} {kd wt nx : Nat → Int} {n : Nat} {hs : Nat → Nat → Int} {kp : Nat → Int} {kh : Nat → Nat → Nat → Int} {m p : Int} (hl : ml sh rf) (hR : RM M rs it ts ch tl up lo fn w pl kd wt nx n hs kp kh) (hW : WF rs it ts ch tl up lo fn w pl kd wt nx n hs kp kh) (hQ : ∀ M2 : Nat → Nat → Int, (∀ q2 k2, q2 < 115 → M2 q2 k2 = M q2 k2) → RM M2 rs it ts ch tl (o_mid up lo w pl kd wt nx (hs n) m p).2.1 (o_mid up lo w pl kd wt nx (hs n) m p).2.2 fn w pl kd wt nx n hs kp kh → Q (some (dz_i ((o_mid up lo w pl kd wt nx (hs n) m p).1))) (sh, rf, M2)) : dz_E dz_pp xo (d + 7) 202 [dz_r 115, dz_i m, dz_i p] (sh, rf, M) Q := by
  refine ⟨Nat.le_of_ble_eq_true rfl, ?_⟩
  have hc := dz_E_m dz_pp xo (d + 6)
  show dz_X (dz_E dz_pp xo (d + 6)) dz_pp xo (dz_pp 202) Q 0 [some (dz_r 115), some (dz_i m), some (dz_i p)] [] 0 0 (sh, rf, M)
  obtain ⟨c0, c1, c2, c3, c4, c5, c6, c7, c8, c9, c10, c11, c12, c13, c14, c15, c16, c17, c18, c19, c20, c21, c22, c23, c24, c25, c26, c27, c28, c29⟩ := id hl
  obtain ⟨hrow, htxt, htl, hup, hlo, hfn, hdr, hkp⟩ := id hR
  obtain ⟨wrow, wtxt, wdr, wst, wkp⟩ := id hW
  have hw6 := WF_w hW
  have hdr3 : drM M w pl kd wt nx n hs ∧ w ≤ 6 ∧ n ≤ 40 := ⟨hdr, hw6.2, wst.1⟩
  have hkp3 : kepM M w kp kh ∧ w ≤ 6 ∧ ∀ k, k < 3 → kp k ≤ 40 := ⟨hkp, hw6.2, fun k hk => by
    rcases wkp k hk with z | z
    · omega
    · exact z.2.1⟩
  obtain ⟨a1, a2, a3, b1, b2, b3⟩ := id hdr
  have hpg : pgM M w pl kd wt nx := ⟨a1, a2, a3⟩
  have b2c : ∀ c, okc w c → M 116 c = hs n c := fun c hc => by
    have h3 := b2 c hc
    rw [Nat.zero_add] at h3
    exact h3
  refine xr_iloadn hc rfl rfl ?_
  refine xr_i2l hc rfl ?_
  refine xr_lconst hc rfl ?_
  refine xr_ldc2 hc rfl ?_
  refine xr_calls3 hc rfl (by decide) rfl rfl rfl (Nat.le_of_ble_eq_true rfl) (Nat.zero_le _) (Nat.zero_le _) ?_
  refine S_in (fun u1 v1 => ?_) (fun u1 => ?_)
  · refine xk_1 ?_
    refine xr_iff hc rfl (by simp [dz_cmp]) ?_
    refine xr_iloadn hc rfl rfl ?_
    refine xr_i2l hc rfl ?_
    refine xr_lconst hc rfl ?_
    refine xr_ldc2 hc rfl ?_
    refine xr_calls3 hc rfl (by decide) rfl rfl rfl (Nat.le_of_ble_eq_true rfl) (Nat.zero_le _) (Nat.zero_le _) ?_
    refine S_in (fun u2 v2 => ?_) (fun u2 => ?_)
    · refine xk_1 ?_
      refine xr_ift hc rfl (t := 26) rfl (by simp [dz_cmp]) ?_
      refine xr_aloadn hc rfl rfl ?_
      refine xr_getfi hc rfl (Or.inl rfl) (by first | assumption | rfl) ?_
      rw [a1]
      refine xr_if_ne hc rfl (t := 38) rfl (fun b30 => ?_) (fun b30 => ?_)
      · have hw0 : w ≠ 0 := by omega
        refine xr_aloadn hc rfl rfl ?_
        refine xr_iloadn hc rfl rfl ?_
        refine xr_iconst hc rfl ?_
        refine xr_iloadn hc rfl rfl ?_
        refine xr_iconst hc rfl ?_
        refine xr_callv4 hc rfl (by first | assumption | rfl) rfl rfl rfl (Nat.le_of_ble_eq_true rfl) (Nat.zero_le _) (Nat.zero_le _) ?_
        refine D_tellMisses1 hl hR hW hw0 (by omega) (by omega) (fun M2 g1 g2 g3 => ?_)
        refine xk_1 ?_
        refine xr_ireturn hc rfl rfl (Nat.zero_le _) (Nat.zero_le _) ?_
        first
          | (exfalso; omega)
          | (simp only [o_mid] at hQ
             repeat (first | rw [if_pos (by omega)] at hQ | rw [if_neg (by omega)] at hQ)
             try dsimp only at hQ
             exact hQ M (fun _ _ _ => rfl) hR)
          | (simp only [o_mid] at hQ
             rw [if_neg (by omega), if_neg hw0] at hQ
             refine hQ M2 (fun q2 k2 u => g1 _ _ (by omega) (by omega) (by omega)) ⟨rowM_fr hrow (fun k2 => g1 _ _ (by omega) (by omega) (by omega)) (fun k2 => g1 _ _ (by omega) (by omega) (by omega)), txtM_fr htxt (fun k2 => g1 _ _ (by omega) (by omega) (by omega)) (fun k2 => g1 _ _ (by omega) (by omega) (by omega)), Eq.trans (g1 _ _ (by omega) (by omega) (by omega)) htl, g2, g3, fndM_fr hfn (g1 _ _ (by omega) (by omega) (by omega)) (fun k2 => g1 _ _ (by omega) (by omega) (by omega)), drM_fr hdr3 (g1 _ _ (by omega) (by omega) (by omega)) (g1 _ _ (by omega) (by omega) (by omega)) (fun k2 => g1 _ _ (by omega) (by omega) (by omega)) (fun k2 => g1 _ _ (by omega) (by omega) (by omega)) (fun k2 => g1 _ _ (by omega) (by omega) (by omega)) (fun k2 u1 => g1 _ _ (by omega) (by omega) (by omega)), kepM_fr hkp3 (fun k2 u1 u2 => g1 _ _ (by omega) (by omega) (by omega))⟩)
      · refine xr_bipush hc rfl ?_
        refine xr_goto hc rfl (t := 46) rfl ?_
        refine xr_ireturn hc rfl rfl (Nat.zero_le _) (Nat.zero_le _) ?_
        first
          | (exfalso; omega)
          | (simp only [o_mid] at hQ
             repeat (first | rw [if_pos (by omega)] at hQ | rw [if_neg (by omega)] at hQ)
             try dsimp only at hQ
             exact hQ M (fun _ _ _ => rfl) hR)
          | (simp only [o_mid] at hQ
             rw [if_neg (by omega), if_neg hw0] at hQ
             refine hQ M2 (fun q2 k2 u => g1 _ _ (by omega) (by omega) (by omega)) ⟨rowM_fr hrow (fun k2 => g1 _ _ (by omega) (by omega) (by omega)) (fun k2 => g1 _ _ (by omega) (by omega) (by omega)), txtM_fr htxt (fun k2 => g1 _ _ (by omega) (by omega) (by omega)) (fun k2 => g1 _ _ (by omega) (by omega) (by omega)), Eq.trans (g1 _ _ (by omega) (by omega) (by omega)) htl, g2, g3, fndM_fr hfn (g1 _ _ (by omega) (by omega) (by omega)) (fun k2 => g1 _ _ (by omega) (by omega) (by omega)), drM_fr hdr3 (g1 _ _ (by omega) (by omega) (by omega)) (g1 _ _ (by omega) (by omega) (by omega)) (fun k2 => g1 _ _ (by omega) (by omega) (by omega)) (fun k2 => g1 _ _ (by omega) (by omega) (by omega)) (fun k2 => g1 _ _ (by omega) (by omega) (by omega)) (fun k2 u1 => g1 _ _ (by omega) (by omega) (by omega)), kepM_fr hkp3 (fun k2 u1 u2 => g1 _ _ (by omega) (by omega) (by omega))⟩)
    · refine xk_1 ?_
      refine xr_iff hc rfl (by simp [dz_cmp]) ?_
      refine xr_iconst hc rfl ?_
      refine xr_ireturn hc rfl rfl (Nat.zero_le _) (Nat.zero_le _) ?_
      simp only [o_mid] at hQ
      repeat (first | rw [if_pos (by omega)] at hQ | rw [if_neg (by omega)] at hQ)
      try dsimp only at hQ
      exact hQ M (fun _ _ _ => rfl) hR
  · refine xk_1 ?_
    refine xr_ift hc rfl (t := 24) rfl (by simp [dz_cmp]) ?_
    refine xr_iconst hc rfl ?_
    refine xr_ireturn hc rfl rfl (Nat.zero_le _) (Nat.zero_le _) ?_
    simp only [o_mid] at hQ
    repeat (first | rw [if_pos (by omega)] at hQ | rw [if_neg (by omega)] at hQ)
    try dsimp only at hQ
    exact hQ M (fun _ _ _ => rfl) hR
