/-! The class: how long steps take. Written by l2_48.py. -/
def eI (m a b : Nat) : Prop := ∃ e, (b < 2 ^ e ∧ 2 * e ≤ m) ∨ (b < a ∧ a < 2 ^ e ∧ 2 * e ≤ m + 1)
theorem eI_0 {a b : Nat} (h : eI 0 a b) : b = 0 := by
  obtain ⟨e, h | h⟩ := h
  · have e0 : e = 0 := by omega
    subst e0
    simp at h
    exact h
  · have e0 : e = 0 := by omega
    subst e0
    simp at h
    omega
theorem eI_s {m a b : Nat} (hb : b ≠ 0) (h : eI (m + 1) a b) : eI m b (a % b) := by
  have h1 := Nat.mod_lt a (show 0 < b by omega)
  obtain ⟨e, h | h⟩ := h
  · exact ⟨e, Or.inr ⟨h1, h.1, by omega⟩⟩
  · cases e with
    | zero =>
      have h2 := h.2.1
      simp at h2
      omega
    | succ e =>
      have h2 := h.2.1
      rw [Nat.pow_succ] at h2
      have h3 : a % b = (a - b) % b := Nat.mod_eq_sub_mod (by omega)
      have h4 : (a - b) % b ≤ a - b := Nat.mod_le _ _
      exact ⟨e, Or.inl ⟨by omega, by omega⟩⟩
theorem gcd_st (a b : Nat) : Nat.gcd b (a % b) = Nat.gcd a b := by rw [Nat.gcd_comm a b, Nat.gcd_rec b a, Nat.gcd_comm]
/-- a share in its lowest terms -/
def o_sh (a b : Int) : Int × Int := if a = 0 ∨ b ≤ 0 then (0, 1) else (a / (Nat.gcd a.toNat b.toNat : Nat), b / (Nat.gcd a.toNat b.toNat : Nat))
theorem sh_q {x : Int} {g : Nat} (hx : 0 ≤ x ∧ x ≤ 1000000000000) : dz_W (Int.tdiv x (g : Int)) = x / (g : Int) := by
  rw [Int.tdiv_eq_ediv_of_nonneg hx.1]
  have h1 : 0 ≤ x / (g : Int) := Int.ediv_nonneg hx.1 (by omega)
  have h2 : x / (g : Int) ≤ x := Int.ediv_le_self _ hx.1
  exact dz_W_id ⟨by omega, by omega⟩
theorem lcmp_0 (x y : Int) : (dz_lcmp x y < 0 ↔ x < y) ∧ (0 < dz_lcmp x y ↔ y < x) ∧ (dz_lcmp x y = 0 ↔ x = y) := by
  unfold dz_lcmp
  split
  · omega
  · split <;> omega
theorem TR_end {pl : Int} {kd wt nx : Nat → Int} {K m : Nat} {s : Nat → Int} (hN : K = m ∨ t_run pl kd wt nx K s 3 = -9) (h : K ≤ m) : t_l pl kd wt nx m s = t_l pl kd wt nx K s := by
  rcases hN with e | e
  · rw [e]
  · have e1 := (t_stay e (m - K)).2
    rw [show K + (m - K) = m by omega] at e1
    exact e1
/-- how many steps, at most k -/
def t_n (pl : Int) (kd wt nx : Nat → Int) : Nat → (Nat → Int) → Nat
  | 0, _ => 0
  | k + 1, s => if s 3 = -9 then 0 else t_n pl kd wt nx k (stp pl kd wt nx s) + 1
theorem t_n_eq {pl : Int} {kd wt nx : Nat → Int} : ∀ (m K : Nat) (s : Nat → Int), K ≤ m → (∀ j, j < K → t_run pl kd wt nx j s 3 ≠ -9) → (K = m ∨ t_run pl kd wt nx K s 3 = -9) → t_n pl kd wt nx m s = K
  | 0, K, s, h, _, _ => by
    show 0 = K
    omega
  | m + 1, 0, s, h, h1, h2 => by
    have h9 : s 3 = -9 := by
      rcases h2 with e | e
      · omega
      · exact e
    unfold t_n
    rw [if_pos h9]
  | m + 1, K + 1, s, h, h1, h2 => by
    have h9 : s 3 ≠ -9 := h1 0 (by omega)
    have hr : ∀ j, t_run pl kd wt nx (j + 1) s = t_run pl kd wt nx j (stp pl kd wt nx s) := fun j => by
      show (if s 3 = -9 then s else t_run pl kd wt nx j (stp pl kd wt nx s)) = _
      rw [if_neg h9]
    unfold t_n
    rw [if_neg h9, t_n_eq m K (stp pl kd wt nx s) (by omega) (fun j hj => by rw [← hr]; exact h1 (j + 1) (by omega)) (by
      rcases h2 with e | e
      · exact Or.inl (by omega)
      · rw [hr] at e
        exact Or.inr e)]
/-- till a number is so much -/
def t_whn (pl : Int) (kd wt nx : Nat → Int) (i : Nat) (v : Int) : Nat → (Nat → Int) → (Nat → Int)
  | 0, s => s
  | k + 1, s => if v ≤ s (11 + i) ∨ s 3 = -9 then s else t_whn pl kd wt nx i v k (stp pl kd wt nx s)
def o_takes (tl w pl : Int) (kd wt nx s : Nat → Int) (m : Int) : Int × Int := if m < 0 ∨ 40 < m then (-1, tl) else if w = 0 then (-4, tl) else (t_at pl kd wt nx (fun k => s (5 + k)) m.toNat s, t_run pl kd wt nx m.toNat s 2)
def o_idle (up lo w pl : Int) (kd wt nx s : Nat → Int) (m : Int) : Int × Int × Int := if m < 0 ∨ 40 < m then (-1, up, lo) else if w = 0 then (-4, up, lo) else (t_w pl (fun k => s (5 + k)) (t_l pl kd wt nx m.toNat s) (s 1), o_sh (t_w pl (fun k => s (5 + k)) (t_l pl kd wt nx m.toNat s) (s 1)) (t_at pl kd wt nx (fun k => s (5 + k)) m.toNat s))
def o_stops (w pl : Int) (kd wt nx s : Nat → Int) : Int := if w = 0 then -4 else if t_run pl kd wt nx 40 s 3 = -9 then (t_n pl kd wt nx 40 s : Int) else -9
def o_when (tl w pl : Int) (kd wt nx s : Nat → Int) (i v : Int) : Int × Int := if i < 0 ∨ w ≤ i ∨ v < 0 ∨ 99 < v then (-1, tl) else if t_whn pl kd wt nx i.toNat v 40 s (11 + i.toNat) < v then (-9, tl) else (t_whn pl kd wt nx i.toNat v 40 s 4 - s 4, t_whn pl kd wt nx i.toNat v 40 s 1 - s 1)
theorem S_beatsAt {xo : Nat → List Int} {d : Nat} {Q : dz_Q} {sh : List (Nat ⊕ (Nat × Nat))} {rf : Nat → Nat → Nat} {M : Nat → Nat → Int} {q : Nat} {m : Int} {sp : Nat → Int} {w pl B : Int} {kd wt nx s : Nat → Int} (hp : pgok w pl kd wt nx) (hs : stok w pl B s) (hB : B ≤ 900000) {K N : Nat} (ht : tr_at sh rf 50) (hT : TR M pl kd wt nx K s) (hN : K = N ∨ t_run pl kd wt nx K s 3 = -9) (h40 : N ≤ 40) (ha : sh[q]? = some (.inr (0, 6))) (hsp : ∀ i : Nat, (i : Int) < w → 0 ≤ M q i ∧ M q i ≤ 9) (hq : ∀ i : Nat, (i : Int) < w → M q i = sp i) (hm : 0 ≤ m ∧ m ≤ N) (hQ : Q (some (dz_i (t_at pl kd wt nx sp m.toNat s))) (sh, rf, M)) : dz_E dz_pp xo (d + 4) 50 [dz_r 50, dz_r q, dz_i m] (sh, rf, M) Q := by
  refine S_beatsOf hp hs hB ht hT hN h40 ha hsp hm ?_
  have e := t_at_c (sp := M q) (sp2 := sp) (m := m.toNat) hp hs (by omega) hq
  rw [← e] at hQ
  exact hQ
set_option maxRecDepth 100000 in
theorem S_tellShare {xo : Nat → List Int} {d : Nat} {Q : dz_Q} {sh : List (Nat ⊕ (Nat × Nat))} {rf : Nat → Nat → Nat} {M : Nat → Nat → Int} {x y : Nat} (h0 : sh[0]? = some (.inl 5)) (hx : x ≤ 1000000000000) (hy : y ≤ 10000000) (hQ : ∀ M2 : Nat → Nat → Int, (∀ q2 k2, ¬ (q2 = 0 ∧ (k2 = 15 ∨ k2 = 16)) → M2 q2 k2 = M q2 k2) → M2 0 15 = (o_sh (x : Int) (y : Int)).1 → M2 0 16 = (o_sh (x : Int) (y : Int)).2 → Q none (sh, rf, M2)) : dz_E dz_pp xo (d + 1) 110 [dz_r 0, dz_l (x : Int), dz_l (y : Int)] (sh, rf, M) Q := by
  refine ⟨Nat.le_of_ble_eq_true rfl, ?_⟩
  have hc := dz_E_m dz_pp xo (d + 0)
  show dz_X (dz_E dz_pp xo (d + 0)) dz_pp xo (dz_pp 110) Q 0 [some (dz_r 0), some (dz_l (x : Int)), none, some (dz_l (y : Int)), none, none, none, none, none, none, none, none] [] 0 0 (sh, rf, M)
  have hla := lcmp_0 (x : Int) 0
  have hlb := lcmp_0 (y : Int) 0
  refine xr_lloadn hc rfl rfl ?_
  refine xr_lconst hc rfl ?_
  refine xr_lcmp hc rfl ?_
  refine xr_if_eq hc rfl (t := 12) rfl (fun b3 => ?_) (fun b3 => ?_)
  · have hz : (x : Int) = 0 ∨ (y : Int) ≤ 0 := by
      first
        | exact Or.inl (hla.2.2.mp b3)
        | (refine Or.inr ?_
           have z := b9
           have z2 := hlb.2.1
           simp only [show ((0 : Fin 2).val : Int) = 0 from rfl] at z
           omega)
    refine xr_aloadn hc rfl rfl ?_
    refine xr_lconst hc rfl ?_
    refine xr_putfl hc rfl rfl (by first | assumption | rfl) ?_
    refine xr_aloadn hc rfl rfl ?_
    refine xr_lconst hc rfl ?_
    refine xr_putfl hc rfl rfl (by first | assumption | rfl) ?_
    refine xr_return hc rfl rfl (Nat.zero_le _) (Nat.zero_le _) ?_
    refine hQ _ (fun q2 k2 u => ?_) ?_ ?_
    · by_cases e : q2 = 0
      · subst e
        rw [dz_up_k (by omega), dz_up_k (by omega)]
      · rw [dz_up_ne e, dz_up_ne e]
    · rw [dz_up_k (by omega), dz_up_eq]
      unfold o_sh
      rw [if_pos hz]
      rfl
    · rw [dz_up_eq]
      unfold o_sh
      rw [if_pos hz]
      rfl
  · refine xr_lloadn hc rfl rfl ?_
    refine xr_lconst hc rfl ?_
    refine xr_lcmp hc rfl ?_
    refine xr_if_gt hc rfl (t := 23) rfl (fun b9 => ?_) (fun b9 => ?_)
    · have hz : (x : Int) ≠ 0 ∧ 0 < (y : Int) := by
        have z1 := b3
        have z2 := b9
        simp only [show ((0 : Fin 2).val : Int) = 0 from rfl] at z1 z2
        have z3 := hla.2.2
        have z4 := hlb.2.1
        omega
      have lp : ∀ (m_ : Nat) (a b k : Nat) (e1 e2 : Option dz_V), k + m_ = 200 → eI m_ a b → Nat.gcd a b = Nat.gcd x y → dz_X (dz_E dz_pp xo (d + 0)) dz_pp xo (dz_pp 110) Q 32 [some (dz_r 0), some (dz_l (x : Int)), none, some (dz_l (y : Int)), none, some (dz_l (a : Int)), none, some (dz_l (b : Int)), none, some (dz_i (k : Int)), e1, e2] [] 0 0 (sh, rf, M) := by
        intro m_
        induction m_ with
        | zero =>
          intro a b k e1 e2 hk hI hG
          have hb := eI_0 hI
          have hg : a = Nat.gcd x y := by rw [← hG, hb, Nat.gcd_zero_right]
          have hgp : 0 < Nat.gcd x y := Nat.gcd_pos_of_pos_left _ (by omega)
          refine xr_iload hc rfl rfl ?_
          refine xr_sipush hc rfl ?_
          refine xr_icmp_ge hc rfl (t := 68) rfl (fun b37 => ?_) (fun b37 => ?_)
          · have hy0 : ((a : Int)) ≠ 0 := by omega
            refine xr_aloadn hc rfl rfl ?_
            refine xr_lloadn hc rfl rfl ?_
            refine xr_lload hc rfl rfl ?_
            refine xr_ldiv hc rfl (by first | omega | (unfold dz_w; omega)) ?_
            refine xr_putfl hc rfl rfl (by first | assumption | rfl) ?_
            refine xr_aloadn hc rfl rfl ?_
            refine xr_lloadn hc rfl rfl ?_
            refine xr_lload hc rfl rfl ?_
            refine xr_ldiv hc rfl (by first | omega | (unfold dz_w; omega)) ?_
            refine xr_putfl hc rfl rfl (by first | assumption | rfl) ?_
            refine xr_return hc rfl rfl (Nat.zero_le _) (Nat.zero_le _) ?_
            rw [hg]
            rw [sh_q (by omega), sh_q (by omega)]
            refine hQ _ (fun q2 k2 u => ?_) ?_ ?_
            · by_cases e : q2 = 0
              · subst e
                rw [dz_up_k (by omega), dz_up_k (by omega)]
              · rw [dz_up_ne e, dz_up_ne e]
            · rw [dz_up_k (by omega), dz_up_eq]
              unfold o_sh
              rw [if_neg (by omega)]
              rfl
            · rw [dz_up_eq]
              unfold o_sh
              rw [if_neg (by omega)]
              rfl
          · omega
        | succ m_ ih =>
          intro a b k e1 e2 hk hI hG
          have hlc := lcmp_0 (b : Int) 0
          refine xr_iload hc rfl rfl ?_
          refine xr_sipush hc rfl ?_
          refine xr_icmp_ge hc rfl (t := 68) rfl (fun b37 => ?_) (fun b37 => ?_)
          · first
            | (exfalso; omega)
            | (skip
               have hb : b = 0 := by
                 have z := hlc.2.2.mp (by rw [show (0 : Int) = ((0 : Fin 2).val : Int) from rfl]; exact b44)
                 omega
               have hg : a = Nat.gcd x y := by rw [← hG, hb, Nat.gcd_zero_right]
               have hgp : 0 < Nat.gcd x y := Nat.gcd_pos_of_pos_left _ (by omega)
               have hy0 : ((a : Int)) ≠ 0 := by omega
               refine xr_aloadn hc rfl rfl ?_
               refine xr_lloadn hc rfl rfl ?_
               refine xr_lload hc rfl rfl ?_
               refine xr_ldiv hc rfl (by first | omega | (unfold dz_w; omega)) ?_
               refine xr_putfl hc rfl rfl (by first | assumption | rfl) ?_
               refine xr_aloadn hc rfl rfl ?_
               refine xr_lloadn hc rfl rfl ?_
               refine xr_lload hc rfl rfl ?_
               refine xr_ldiv hc rfl (by first | omega | (unfold dz_w; omega)) ?_
               refine xr_putfl hc rfl rfl (by first | assumption | rfl) ?_
               refine xr_return hc rfl rfl (Nat.zero_le _) (Nat.zero_le _) ?_
               rw [hg]
               rw [sh_q (by omega), sh_q (by omega)]
               refine hQ _ (fun q2 k2 u => ?_) ?_ ?_
               · by_cases e : q2 = 0
                 · subst e
                   rw [dz_up_k (by omega), dz_up_k (by omega)]
                 · rw [dz_up_ne e, dz_up_ne e]
               · rw [dz_up_k (by omega), dz_up_eq]
                 unfold o_sh
                 rw [if_neg (by omega)]
                 rfl
               · rw [dz_up_eq]
                 unfold o_sh
                 rw [if_neg (by omega)]
                 rfl)
          · first
            | (exfalso; omega)
            | (skip
               refine xr_lload hc rfl rfl ?_
               refine xr_lconst hc rfl ?_
               refine xr_lcmp hc rfl ?_
               refine xr_if_eq hc rfl (t := 68) rfl (fun b44 => ?_) (fun b44 => ?_)
               · first
                 | (exfalso; omega)
                 | (skip
                    have hb : b = 0 := by
                      have z := hlc.2.2.mp (by rw [show (0 : Int) = ((0 : Fin 2).val : Int) from rfl]; exact b44)
                      omega
                    have hg : a = Nat.gcd x y := by rw [← hG, hb, Nat.gcd_zero_right]
                    have hgp : 0 < Nat.gcd x y := Nat.gcd_pos_of_pos_left _ (by omega)
                    have hy0 : ((a : Int)) ≠ 0 := by omega
                    refine xr_aloadn hc rfl rfl ?_
                    refine xr_lloadn hc rfl rfl ?_
                    refine xr_lload hc rfl rfl ?_
                    refine xr_ldiv hc rfl (by first | omega | (unfold dz_w; omega)) ?_
                    refine xr_putfl hc rfl rfl (by first | assumption | rfl) ?_
                    refine xr_aloadn hc rfl rfl ?_
                    refine xr_lloadn hc rfl rfl ?_
                    refine xr_lload hc rfl rfl ?_
                    refine xr_ldiv hc rfl (by first | omega | (unfold dz_w; omega)) ?_
                    refine xr_putfl hc rfl rfl (by first | assumption | rfl) ?_
                    refine xr_return hc rfl rfl (Nat.zero_le _) (Nat.zero_le _) ?_
                    rw [hg]
                    rw [sh_q (by omega), sh_q (by omega)]
                    refine hQ _ (fun q2 k2 u => ?_) ?_ ?_
                    · by_cases e : q2 = 0
                      · subst e
                        rw [dz_up_k (by omega), dz_up_k (by omega)]
                      · rw [dz_up_ne e, dz_up_ne e]
                    · rw [dz_up_k (by omega), dz_up_eq]
                      unfold o_sh
                      rw [if_neg (by omega)]
                      rfl
                    · rw [dz_up_eq]
                      unfold o_sh
                      rw [if_neg (by omega)]
                      rfl)
               · first
                 | (exfalso; omega)
                 | (skip
                    have hbn : (b : Int) ≠ 0 := fun z => b44 (by rw [show ((0 : Fin 2).val : Int) = 0 from rfl]; exact hlc.2.2.mpr z)
                    refine xr_lload hc rfl rfl ?_
                    refine xr_lload hc rfl rfl ?_
                    refine xr_lrem hc rfl (by first | omega | (unfold dz_w; omega)) ?_
                    rw [← Int.ofNat_tmod]
                    refine xr_lstore10 hc rfl rfl ?_
                    refine xr_lload hc rfl rfl ?_
                    refine xr_lstore5 hc rfl rfl ?_
                    refine xr_lload hc rfl rfl ?_
                    refine xr_lstore7 hc rfl rfl ?_
                    refine xr_iincz9 hc rfl rfl (by first | exact dz_wid (by first | omega | (unfold dz_w; omega)) (by first | omega | (unfold dz_w; omega)) | rfl) ?_
                    refine xr_goto hc rfl (t := 32) rfl ?_
                    exact ih b (a % b) (k + 1) _ _ (by omega) (eI_s (by omega) hI) (by rw [gcd_st]; exact hG)))
      refine xr_lloadn hc rfl rfl ?_
      refine xr_lstore5 hc rfl rfl ?_
      refine xr_lloadn hc rfl rfl ?_
      refine xr_lstore7 hc rfl rfl ?_
      refine xr_iconst hc rfl ?_
      refine xr_istore9 hc rfl rfl ?_
      exact lp 200 x y 0 none none (by omega) ⟨24, Or.inl ⟨by omega, by omega⟩⟩ rfl
    · have hz : (x : Int) = 0 ∨ (y : Int) ≤ 0 := by
        first
          | exact Or.inl (hla.2.2.mp b3)
          | (refine Or.inr ?_
             have z := b9
             have z2 := hlb.2.1
             simp only [show ((0 : Fin 2).val : Int) = 0 from rfl] at z
             omega)
      refine xr_aloadn hc rfl rfl ?_
      refine xr_lconst hc rfl ?_
      refine xr_putfl hc rfl rfl (by first | assumption | rfl) ?_
      refine xr_aloadn hc rfl rfl ?_
      refine xr_lconst hc rfl ?_
      refine xr_putfl hc rfl rfl (by first | assumption | rfl) ?_
      refine xr_return hc rfl rfl (Nat.zero_le _) (Nat.zero_le _) ?_
      refine hQ _ (fun q2 k2 u => ?_) ?_ ?_
      · by_cases e : q2 = 0
        · subst e
          rw [dz_up_k (by omega), dz_up_k (by omega)]
        · rw [dz_up_ne e, dz_up_ne e]
      · rw [dz_up_k (by omega), dz_up_eq]
        unfold o_sh
        rw [if_pos hz]
        rfl
      · rw [dz_up_eq]
        unfold o_sh
        rw [if_pos hz]
        rfl
set_option maxRecDepth 100000 in
theorem X_takes {xo : Nat → List Int} {d : Nat} {Q : dz_Q} {sh : List (Nat ⊕ (Nat × Nat))} {rf : Nat → Nat → Nat} {M : Nat → Nat → Int} {rs : Nat → Int} {it : Nat → Nat → Int} {ts : Nat → Int} {ch : Nat → Nat → Int} {tl up lo : Int} {fn : Nat → Int} {w pl : Int} {kd wt nx : Nat → Int} {n : Nat} {hs : Nat → Nat → Int} {kp : Nat → Int} {kh : Nat → Nat → Nat → Int} {m : Int} (hx : xo 2 = dz_xs2) (hl : cl sh rf) (hR : RX M rs it ts ch tl up lo fn w pl kd wt nx n hs kp kh) (hW : WF rs it ts ch tl up lo fn w pl kd wt nx n hs kp kh) (hQ : ∀ M2 : Nat → Nat → Int, (∀ q2 k2, 115 ≤ q2 → M2 q2 k2 = M q2 k2) → RX M2 rs it ts ch (o_takes tl w pl kd wt nx (hs n) m).2 up lo fn w pl kd wt nx n hs kp kh → Q (some (dz_i ((o_takes tl w pl kd wt nx (hs n) m).1))) (sh, rf, M2)) : dz_E dz_pp xo (d + 5) 73 [dz_r 0, dz_i m] (sh, rf, M) Q := by
  refine ⟨Nat.le_of_ble_eq_true rfl, ?_⟩
  have hc := dz_E_m dz_pp xo (d + 4)
  show dz_X (dz_E dz_pp xo (d + 4)) dz_pp xo (dz_pp 73) Q 0 [some (dz_r 0), some (dz_i m), none] [] 0 0 (sh, rf, M)
  obtain ⟨c0, c1, c2, c3, c4, c5, c6, c7, c8, c9, c10, c11, c12, c13, c14, c15, c16, c17, c18, c19, c20, c21, c22, c23, c24, c25, c26, c27, c28, c29, c30, c31, c32, c33, c34, c35, c36⟩ := id hl
  obtain ⟨hrow, htxt, htl, hup, hlo, hfn, hdr, hkp, hrb⟩ := id hR
  obtain ⟨wrow, wtxt, wdr, wst, wkp⟩ := id hW
  have n0 : sh[23]? = some (.inl 1) := c14.2.2.2.2.1.1
  have n1 : rf 23 7 = 25 + 1 := c14.2.2.2.2.1.2.2.2.1
  have n2 : sh[25]? = some (.inr (0, 6)) := c14.2.2.2.2.1.2.2.2.2.1
  have n3 : rf 15 1 = 23 + 1 := c14.2.2.2.1
  have n4 : sh[15]? = some (.inl 0) := c14.1
  have n5 : ma_at sh rf 23 := c14.2.2.2.2.1
  have q0 : sh[34]? = some (.inl 1) := c20.1
  have q1 : rf 34 8 = 37 + 1 := c20.2.2.2.2.2.1
  have q2 : sh[37]? = some (.inr (0, 6)) := c20.2.2.2.2.2.2.1
  have q3 : sh[50]? = some (.inl 4) := c26.1
  refine xr_aloadn hc rfl rfl ?_
  refine xr_iloadn hc rfl rfl ?_
  refine xr_bipush hc rfl ?_
  refine xr_callv2 hc rfl (by first | assumption | rfl) rfl rfl rfl (Nat.le_of_ble_eq_true rfl) (Nat.zero_le _) (Nat.zero_le _) ?_
  refine S_refusedSteps hl hR hW (fun u1 => ?_) (fun u1 v1 hw0 => ?_) (fun u1 v1 hw0 => ?_)
  · refine xk_1 ?_
    refine xr_istore2 hc rfl rfl ?_
    refine xr_iloadn hc rfl rfl ?_
    refine xr_iff hc rfl (by simp [dz_cmp]) ?_
    refine xr_iloadn hc rfl rfl ?_
    refine xr_ireturn hc rfl rfl (Nat.zero_le _) (Nat.zero_le _) ?_
    simp only [o_takes] at hQ
    repeat (first | rw [if_pos (by omega)] at hQ | rw [if_neg (by omega)] at hQ)
    try dsimp only at hQ
    exact hQ M (fun _ _ _ => rfl) hR
  · refine xk_1 ?_
    refine xr_istore2 hc rfl rfl ?_
    refine xr_iloadn hc rfl rfl ?_
    refine xr_iff hc rfl (by simp [dz_cmp]) ?_
    refine xr_iloadn hc rfl rfl ?_
    refine xr_ireturn hc rfl rfl (Nat.zero_le _) (Nat.zero_le _) ?_
    simp only [o_takes] at hQ
    repeat (first | rw [if_pos (by omega)] at hQ | rw [if_neg (by omega)] at hQ)
    try dsimp only at hQ
    exact hQ M (fun _ _ _ => rfl) hR
  · refine xk_1 ?_
    refine xr_istore2 hc rfl rfl ?_
    refine xr_iloadn hc rfl rfl ?_
    refine xr_ift hc rfl (t := 14) rfl (by simp [dz_cmp]) ?_
    refine xr_aloadn hc rfl rfl ?_
    refine xr_iloadn hc rfl rfl ?_
    refine xr_callv1 hc rfl (by first | assumption | rfl) rfl rfl rfl (Nat.le_of_ble_eq_true rfl) (Nat.zero_le _) (Nat.zero_le _) ?_
    have hp := WF_p hW hw0
    have hst := wst.2 n (Nat.le_refl n)
    obtain ⟨p1, p2, p3, p4, p5⟩ := id hp
    obtain ⟨st0, st1, st2, st3, st4, st5, st6, st7, st8⟩ := id hst
    refine S_followSteps hx hl hR hW hw0 (by omega) (fun M1 K f1 f2 f3 f4 f5 f6 => ?_)
    have hsum : M1 34 3 = t_run pl kd wt nx m.toNat (hs n) 2 := f6.2.2.2.1
    refine xk_0 ?_
    refine xr_aloadn hc rfl rfl ?_
    refine xr_aloadn hc rfl rfl ?_
    refine xr_getfr hc rfl rfl (by first | assumption | rfl) (by first | assumption | rfl) ?_
    refine xr_getfi hc rfl (Or.inl rfl) (by first | assumption | rfl) ?_
    rw [hsum]
    refine xr_putfi hc rfl rfl (by first | assumption | rfl) ?_
    refine xr_aloadn hc rfl rfl ?_
    refine xr_getfr hc rfl rfl (by first | assumption | rfl) (by first | assumption | rfl) ?_
    refine xr_aloadn hc rfl rfl ?_
    refine xr_getfr hc rfl rfl (by first | assumption | rfl) (by first | assumption | rfl) ?_
    refine xr_getfr hc rfl rfl (by first | assumption | rfl) (by first | assumption | rfl) ?_
    refine xr_getfr hc rfl rfl (by first | assumption | rfl) (by first | assumption | rfl) ?_
    refine xr_iloadn hc rfl rfl ?_
    refine xr_callv2 hc rfl (by first | assumption | rfl) rfl rfl rfl (Nat.le_of_ble_eq_true rfl) (Nat.zero_le _) (Nat.zero_le _) ?_
    have hnow : ∀ i : Nat, (i : Int) < w → (dz_up M1 0 14 (t_run pl kd wt nx m.toNat (hs n) 2)) 25 i = hs n (5 + i) := fun i hi => by
      rw [dz_up_ne (by omega), f1 _ _ (by omega) (by omega)]
      exact (hdr.2.1.2.2.2.2.2.2 i hi).2.1
    refine S_beatsAt (N := m.toNat) (sp := (fun k => hs n (5 + k))) hp hst (by omega) c26 (TR_fr f3 (fun q k v1 v2 => by first | rfl | rw [dz_up_ne (by omega)])) f4 (by omega) n2 (fun i hi => ?_) (fun i hi => ?_) (by omega) ?_
    · have z := hnow i hi
      have z2 := st8 i hi
      omega
    · have z := hnow i hi
      omega
    refine xk_1 ?_
    refine xr_ireturn hc rfl rfl (Nat.zero_le _) (Nat.zero_le _) ?_
    simp only [o_takes] at hQ
    repeat (first | rw [if_pos (by omega)] at hQ | rw [if_neg (by omega)] at hQ)
    try dsimp only at hQ
    obtain ⟨hrow, htxt, htl, hup, hlo, hfn, hdr, hkp, hrb⟩ := id f2
    refine hQ _ (fun q2 k2 u => by rw [dz_up_ne (by omega), f1 _ _ (by omega) (by omega)]) ⟨rowX_fr hrow (fun q2 k2 u1 u2 => by first | rw [dz_up_ne (by omega)] | rw [dz_up_k (by omega)]), txtX_fr htxt (fun q2 k2 u1 u2 => by first | rw [dz_up_ne (by omega)] | rw [dz_up_k (by omega)]), by rw [dz_up_eq], Eq.trans (by first | rw [dz_up_ne (by omega)] | rw [dz_up_k (by omega)]) hup, Eq.trans (by first | rw [dz_up_ne (by omega)] | rw [dz_up_k (by omega)]) hlo, fndX_fr hfn (by first | rw [dz_up_ne (by omega)] | rw [dz_up_k (by omega)]) (fun k2 => by first | rw [dz_up_ne (by omega)] | rw [dz_up_k (by omega)]), drX_fr hdr (fun q2 k2 u1 u2 => by first | rw [dz_up_ne (by omega)] | rw [dz_up_k (by omega)]), kepX_fr hkp (fun q2 k2 u1 u2 => by first | rw [dz_up_ne (by omega)] | rw [dz_up_k (by omega)]), rbX_fr hrb (fun q2 k2 u1 => by first | rw [dz_up_ne (by omega)] | rw [dz_up_k (by omega)])⟩
set_option maxRecDepth 100000 in
theorem X_idle {xo : Nat → List Int} {d : Nat} {Q : dz_Q} {sh : List (Nat ⊕ (Nat × Nat))} {rf : Nat → Nat → Nat} {M : Nat → Nat → Int} {rs : Nat → Int} {it : Nat → Nat → Int} {ts : Nat → Int} {ch : Nat → Nat → Int} {tl up lo : Int} {fn : Nat → Int} {w pl : Int} {kd wt nx : Nat → Int} {n : Nat} {hs : Nat → Nat → Int} {kp : Nat → Int} {kh : Nat → Nat → Nat → Int} {m : Int} (hx : xo 2 = dz_xs2) (hl : cl sh rf) (hR : RX M rs it ts ch tl up lo fn w pl kd wt nx n hs kp kh) (hW : WF rs it ts ch tl up lo fn w pl kd wt nx n hs kp kh) (hQ : ∀ M2 : Nat → Nat → Int, (∀ q2 k2, 115 ≤ q2 → M2 q2 k2 = M q2 k2) → RX M2 rs it ts ch tl (o_idle up lo w pl kd wt nx (hs n) m).2.1 (o_idle up lo w pl kd wt nx (hs n) m).2.2 fn w pl kd wt nx n hs kp kh → Q (some (dz_i ((o_idle up lo w pl kd wt nx (hs n) m).1))) (sh, rf, M2)) : dz_E dz_pp xo (d + 5) 74 [dz_r 0, dz_i m] (sh, rf, M) Q := by
  refine ⟨Nat.le_of_ble_eq_true rfl, ?_⟩
  have hc := dz_E_m dz_pp xo (d + 4)
  show dz_X (dz_E dz_pp xo (d + 4)) dz_pp xo (dz_pp 74) Q 0 [some (dz_r 0), some (dz_i m), none, none, none] [] 0 0 (sh, rf, M)
  obtain ⟨c0, c1, c2, c3, c4, c5, c6, c7, c8, c9, c10, c11, c12, c13, c14, c15, c16, c17, c18, c19, c20, c21, c22, c23, c24, c25, c26, c27, c28, c29, c30, c31, c32, c33, c34, c35, c36⟩ := id hl
  obtain ⟨hrow, htxt, htl, hup, hlo, hfn, hdr, hkp, hrb⟩ := id hR
  obtain ⟨wrow, wtxt, wdr, wst, wkp⟩ := id hW
  have n0 : sh[23]? = some (.inl 1) := c14.2.2.2.2.1.1
  have n1 : rf 23 7 = 25 + 1 := c14.2.2.2.2.1.2.2.2.1
  have n2 : sh[25]? = some (.inr (0, 6)) := c14.2.2.2.2.1.2.2.2.2.1
  have n3 : rf 15 1 = 23 + 1 := c14.2.2.2.1
  have n4 : sh[15]? = some (.inl 0) := c14.1
  have n5 : ma_at sh rf 23 := c14.2.2.2.2.1
  have q0 : sh[34]? = some (.inl 1) := c20.1
  have q1 : rf 34 8 = 37 + 1 := c20.2.2.2.2.2.1
  have q2 : sh[37]? = some (.inr (0, 6)) := c20.2.2.2.2.2.2.1
  have q3 : sh[50]? = some (.inl 4) := c26.1
  refine xr_aloadn hc rfl rfl ?_
  refine xr_iloadn hc rfl rfl ?_
  refine xr_bipush hc rfl ?_
  refine xr_callv2 hc rfl (by first | assumption | rfl) rfl rfl rfl (Nat.le_of_ble_eq_true rfl) (Nat.zero_le _) (Nat.zero_le _) ?_
  refine S_refusedSteps hl hR hW (fun u1 => ?_) (fun u1 v1 hw0 => ?_) (fun u1 v1 hw0 => ?_)
  · refine xk_1 ?_
    refine xr_istore2 hc rfl rfl ?_
    refine xr_iloadn hc rfl rfl ?_
    refine xr_iff hc rfl (by simp [dz_cmp]) ?_
    refine xr_iloadn hc rfl rfl ?_
    refine xr_ireturn hc rfl rfl (Nat.zero_le _) (Nat.zero_le _) ?_
    simp only [o_idle] at hQ
    repeat (first | rw [if_pos (by omega)] at hQ | rw [if_neg (by omega)] at hQ)
    try dsimp only at hQ
    exact hQ M (fun _ _ _ => rfl) hR
  · refine xk_1 ?_
    refine xr_istore2 hc rfl rfl ?_
    refine xr_iloadn hc rfl rfl ?_
    refine xr_iff hc rfl (by simp [dz_cmp]) ?_
    refine xr_iloadn hc rfl rfl ?_
    refine xr_ireturn hc rfl rfl (Nat.zero_le _) (Nat.zero_le _) ?_
    simp only [o_idle] at hQ
    repeat (first | rw [if_pos (by omega)] at hQ | rw [if_neg (by omega)] at hQ)
    try dsimp only at hQ
    exact hQ M (fun _ _ _ => rfl) hR
  · refine xk_1 ?_
    refine xr_istore2 hc rfl rfl ?_
    refine xr_iloadn hc rfl rfl ?_
    refine xr_ift hc rfl (t := 14) rfl (by simp [dz_cmp]) ?_
    refine xr_aloadn hc rfl rfl ?_
    refine xr_iloadn hc rfl rfl ?_
    refine xr_callv1 hc rfl (by first | assumption | rfl) rfl rfl rfl (Nat.le_of_ble_eq_true rfl) (Nat.zero_le _) (Nat.zero_le _) ?_
    have hp := WF_p hW hw0
    have hst := wst.2 n (Nat.le_refl n)
    obtain ⟨p1, p2, p3, p4, p5⟩ := id hp
    obtain ⟨st0, st1, st2, st3, st4, st5, st6, st7, st8⟩ := id hst
    refine S_followSteps hx hl hR hW hw0 (by omega) (fun M1 K f1 f2 f3 f4 f5 f6 => ?_)
    refine xk_0 ?_
    refine xr_aloadn hc rfl rfl ?_
    refine xr_getfr hc rfl rfl (by first | assumption | rfl) (by first | assumption | rfl) ?_
    refine xr_aloadn hc rfl rfl ?_
    refine xr_getfr hc rfl rfl (by first | assumption | rfl) (by first | assumption | rfl) ?_
    refine xr_getfr hc rfl rfl (by first | assumption | rfl) (by first | assumption | rfl) ?_
    refine xr_getfr hc rfl rfl (by first | assumption | rfl) (by first | assumption | rfl) ?_
    refine xr_iloadn hc rfl rfl ?_
    refine xr_callv2 hc rfl (by first | assumption | rfl) rfl rfl rfl (Nat.le_of_ble_eq_true rfl) (Nat.zero_le _) (Nat.zero_le _) ?_
    have hnow : ∀ i : Nat, (i : Int) < w → M1 25 i = hs n (5 + i) := fun i hi => by
      rw [f1 _ _ (by omega) (by omega)]
      exact (hdr.2.1.2.2.2.2.2.2 i hi).2.1
    refine S_beatsAt (N := m.toNat) (sp := (fun k => hs n (5 + k))) hp hst (by omega) c26 (TR_fr f3 (fun q k v1 v2 => by first | rfl | rw [dz_up_ne (by omega)])) f4 (by omega) n2 (fun i hi => ?_) (fun i hi => ?_) (by omega) ?_
    · have z := hnow i hi
      have z2 := st8 i hi
      omega
    · have z := hnow i hi
      omega
    refine xk_1 ?_
    refine xr_istore3 hc rfl rfl ?_
    refine xr_iloadn hc rfl rfl ?_
    refine xr_aloadn hc rfl rfl ?_
    refine xr_getfr hc rfl rfl (by first | assumption | rfl) (by first | assumption | rfl) ?_
    refine xr_callv0 hc rfl (by first | assumption | rfl) rfl rfl rfl (Nat.le_of_ble_eq_true rfl) (Nat.zero_le _) (Nat.zero_le _) ?_
    refine S_busyBeats hp hst (by omega) c26 f3 ?_
    have eL := TR_end f4 f5
    have eb := t_b_eq pl (fun k => hs n (5 + k)) (t_l pl kd wt nx m.toNat (hs n)) (hs n 1)
    have hl1 := t_l_in hp m.toNat _ _ hst (by omega)
    have hk1 := t_k_in _ (fun x hx => (hl1.1 x hx).2)
    have hw1 := t_w_in (sp := (fun k => hs n (5 + k))) ⟨p3, p4⟩ (t_l pl kd wt nx m.toNat (hs n)) (hs n 1)
    have ha1 : t_at pl kd wt nx (fun k => hs n (5 + k)) m.toNat (hs n) = t_b pl (fun k => hs n (5 + k)) (t_l pl kd wt nx m.toNat (hs n)) (hs n 1) - hs n 1 := rfl
    rw [← eL]
    have ew : t_at pl kd wt nx (fun k => hs n (5 + k)) m.toNat (hs n) - (((t_l pl kd wt nx m.toNat (hs n)).length : Int) + t_k (t_l pl kd wt nx m.toNat (hs n))) = t_w pl (fun k => hs n (5 + k)) (t_l pl kd wt nx m.toNat (hs n)) (hs n 1) := by omega
    refine xk_1 ?_
    refine xr_isubz hc rfl (by first | exact dz_wid (by first | omega | (unfold dz_w; omega)) (by first | omega | (unfold dz_w; omega)) | rfl) ?_
    rw [ew]
    refine xr_istore4 hc rfl rfl ?_
    refine xr_aloadn hc rfl rfl ?_
    refine xr_iload hc rfl rfl ?_
    refine xr_i2l hc rfl ?_
    refine xr_iloadn hc rfl rfl ?_
    refine xr_i2l hc rfl ?_
    refine xr_callv2 hc rfl (by first | assumption | rfl) rfl rfl rfl (Nat.le_of_ble_eq_true rfl) (Nat.zero_le _) (Nat.zero_le _) ?_
    have ex : t_w pl (fun k => hs n (5 + k)) (t_l pl kd wt nx m.toNat (hs n)) (hs n 1) = ((t_w pl (fun k => hs n (5 + k)) (t_l pl kd wt nx m.toNat (hs n)) (hs n 1)).toNat : Int) := by omega
    have ey : t_at pl kd wt nx (fun k => hs n (5 + k)) m.toNat (hs n) = ((t_at pl kd wt nx (fun k => hs n (5 + k)) m.toNat (hs n)).toNat : Int) := by omega
    rw [ex, ey]
    refine S_tellShare c0 (by omega) (by omega) (fun M2 g1 g2 g3 => ?_)
    rw [← ex, ← ey] at g2 g3
    rw [← ex]
    refine xk_0 ?_
    refine xr_iload hc rfl rfl ?_
    refine xr_ireturn hc rfl rfl (Nat.zero_le _) (Nat.zero_le _) ?_
    simp only [o_idle] at hQ
    repeat (first | rw [if_pos (by omega)] at hQ | rw [if_neg (by omega)] at hQ)
    try dsimp only at hQ
    obtain ⟨hrow, htxt, htl, hup, hlo, hfn, hdr, hkp, hrb⟩ := id f2
    refine hQ _ (fun q2 k2 u => by rw [g1 _ _ (by omega), f1 _ _ (by omega) (by omega)]) ⟨rowX_fr hrow (fun q2 k2 u1 u2 => g1 _ _ (by omega)), txtX_fr htxt (fun q2 k2 u1 u2 => g1 _ _ (by omega)), Eq.trans (g1 _ _ (by omega)) htl, g2, g3, fndX_fr hfn (g1 _ _ (by omega)) (fun k2 => g1 _ _ (by omega)), drX_fr hdr (fun q2 k2 u1 u2 => g1 _ _ (by omega)), kepX_fr hkp (fun q2 k2 u1 u2 => g1 _ _ (by omega)), rbX_fr hrb (fun q2 k2 u1 => g1 _ _ (by omega))⟩
set_option maxRecDepth 100000 in
theorem X_stops {xo : Nat → List Int} {d : Nat} {Q : dz_Q} {sh : List (Nat ⊕ (Nat × Nat))} {rf : Nat → Nat → Nat} {M : Nat → Nat → Int} {rs : Nat → Int} {it : Nat → Nat → Int} {ts : Nat → Int} {ch : Nat → Nat → Int} {tl up lo : Int} {fn : Nat → Int} {w pl : Int} {kd wt nx : Nat → Int} {n : Nat} {hs : Nat → Nat → Int} {kp : Nat → Int} {kh : Nat → Nat → Nat → Int} (hx : xo 2 = dz_xs2) (hl : cl sh rf) (hR : RX M rs it ts ch tl up lo fn w pl kd wt nx n hs kp kh) (hW : WF rs it ts ch tl up lo fn w pl kd wt nx n hs kp kh) (hQ : ∀ M2 : Nat → Nat → Int, (∀ q2 k2, 115 ≤ q2 → M2 q2 k2 = M q2 k2) → RX M2 rs it ts ch tl up lo fn w pl kd wt nx n hs kp kh → Q (some (dz_i ((o_stops w pl kd wt nx (hs n))))) (sh, rf, M2)) : dz_E dz_pp xo (d + 5) 75 [dz_r 0] (sh, rf, M) Q := by
  refine ⟨Nat.le_of_ble_eq_true rfl, ?_⟩
  have hc := dz_E_m dz_pp xo (d + 4)
  show dz_X (dz_E dz_pp xo (d + 4)) dz_pp xo (dz_pp 75) Q 0 [some (dz_r 0)] [] 0 0 (sh, rf, M)
  obtain ⟨c0, c1, c2, c3, c4, c5, c6, c7, c8, c9, c10, c11, c12, c13, c14, c15, c16, c17, c18, c19, c20, c21, c22, c23, c24, c25, c26, c27, c28, c29, c30, c31, c32, c33, c34, c35, c36⟩ := id hl
  obtain ⟨hrow, htxt, htl, hup, hlo, hfn, hdr, hkp, hrb⟩ := id hR
  obtain ⟨wrow, wtxt, wdr, wst, wkp⟩ := id hW
  have n0 : sh[23]? = some (.inl 1) := c14.2.2.2.2.1.1
  have n1 : rf 23 7 = 25 + 1 := c14.2.2.2.2.1.2.2.2.1
  have n2 : sh[25]? = some (.inr (0, 6)) := c14.2.2.2.2.1.2.2.2.2.1
  have n3 : rf 15 1 = 23 + 1 := c14.2.2.2.1
  have n4 : sh[15]? = some (.inl 0) := c14.1
  have n5 : ma_at sh rf 23 := c14.2.2.2.2.1
  have q0 : sh[34]? = some (.inl 1) := c20.1
  have q1 : rf 34 8 = 37 + 1 := c20.2.2.2.2.2.1
  have q2 : sh[37]? = some (.inr (0, 6)) := c20.2.2.2.2.2.2.1
  have q3 : sh[50]? = some (.inl 4) := c26.1
  refine xr_aloadn hc rfl rfl ?_
  refine xr_callv0 hc rfl (by first | assumption | rfl) rfl rfl rfl (Nat.le_of_ble_eq_true rfl) (Nat.zero_le _) (Nat.zero_le _) ?_
  refine S_hasNoWords hl hR hW (fun hw0 => ?_) (fun hw0 => ?_)
  · refine xk_1 ?_
    refine xr_iff hc rfl (by simp [dz_cmp]) ?_
    refine xr_bipush hc rfl ?_
    refine xr_ireturn hc rfl rfl (Nat.zero_le _) (Nat.zero_le _) ?_
    simp only [o_stops] at hQ
    repeat (first | rw [if_pos (by omega)] at hQ | rw [if_neg (by omega)] at hQ)
    try dsimp only at hQ
    exact hQ M (fun _ _ _ => rfl) hR
  · refine xk_1 ?_
    refine xr_ift hc rfl (t := 10) rfl (by simp [dz_cmp]) ?_
    refine xr_aloadn hc rfl rfl ?_
    refine xr_bipush hc rfl ?_
    refine xr_callv1 hc rfl (by first | assumption | rfl) rfl rfl rfl (Nat.le_of_ble_eq_true rfl) (Nat.zero_le _) (Nat.zero_le _) ?_
    have hp := WF_p hW hw0
    have hst := wst.2 n (Nat.le_refl n)
    obtain ⟨p1, p2, p3, p4, p5⟩ := id hp
    obtain ⟨st0, st1, st2, st3, st4, st5, st6, st7, st8⟩ := id hst
    refine S_followSteps hx hl hR hW hw0 (by omega) (fun M1 K f1 f2 f3 f4 f5 f6 => ?_)
    have hdue : M1 34 4 = t_run pl kd wt nx 40 (hs n) 3 := f6.2.2.2.2.1
    have hK : M1 50 4 = (K : Int) := f3.1
    have hKn := t_n_eq 40 K (hs n) f5 f3.2.2.2.2.2.2.2 f4
    refine xk_0 ?_
    refine xr_aloadn hc rfl rfl ?_
    refine xr_getfr hc rfl rfl (by first | assumption | rfl) (by first | assumption | rfl) ?_
    refine xr_getfi hc rfl (Or.inl rfl) (by first | assumption | rfl) ?_
    rw [hdue]
    refine xr_bipush hc rfl ?_
    refine xr_icmp_ne hc rfl (t := 38) rfl (fun b25 => ?_) (fun b25 => ?_)
    · refine xr_bipush hc rfl ?_
      refine xr_ireturn hc rfl rfl (Nat.zero_le _) (Nat.zero_le _) ?_
      simp only [o_stops, hKn] at hQ
      repeat (first | rw [if_pos (by omega)] at hQ | rw [if_neg (by omega)] at hQ)
      exact hQ M1 (fun q2 k2 u => f1 _ _ (by omega) (by omega)) f2
    · refine xr_aloadn hc rfl rfl ?_
      refine xr_getfr hc rfl rfl (by first | assumption | rfl) (by first | assumption | rfl) ?_
      refine xr_getfi hc rfl (Or.inl rfl) (by first | assumption | rfl) ?_
      rw [hK]
      refine xr_goto hc rfl (t := 40) rfl ?_
      refine xr_ireturn hc rfl rfl (Nat.zero_le _) (Nat.zero_le _) ?_
      simp only [o_stops, hKn] at hQ
      repeat (first | rw [if_pos (by omega)] at hQ | rw [if_neg (by omega)] at hQ)
      exact hQ M1 (fun q2 k2 u => f1 _ _ (by omega) (by omega)) f2
set_option maxRecDepth 100000 in
theorem X_when {xo : Nat → List Int} {d : Nat} {Q : dz_Q} {sh : List (Nat ⊕ (Nat × Nat))} {rf : Nat → Nat → Nat} {M : Nat → Nat → Int} {rs : Nat → Int} {it : Nat → Nat → Int} {ts : Nat → Int} {ch : Nat → Nat → Int} {tl up lo : Int} {fn : Nat → Int} {w pl : Int} {kd wt nx : Nat → Int} {n : Nat} {hs : Nat → Nat → Int} {kp : Nat → Int} {kh : Nat → Nat → Nat → Int} {i v : Int} (hx : xo 2 = dz_xs2) (hl : cl sh rf) (hR : RX M rs it ts ch tl up lo fn w pl kd wt nx n hs kp kh) (hW : WF rs it ts ch tl up lo fn w pl kd wt nx n hs kp kh) (hQ : ∀ M2 : Nat → Nat → Int, (∀ q2 k2, 115 ≤ q2 → M2 q2 k2 = M q2 k2) → RX M2 rs it ts ch (o_when tl w pl kd wt nx (hs n) i v).2 up lo fn w pl kd wt nx n hs kp kh → Q (some (dz_i ((o_when tl w pl kd wt nx (hs n) i v).1))) (sh, rf, M2)) : dz_E dz_pp xo (d + 5) 76 [dz_r 0, dz_i i, dz_i v] (sh, rf, M) Q := by
  refine ⟨Nat.le_of_ble_eq_true rfl, ?_⟩
  have hc := dz_E_m dz_pp xo (d + 4)
  show dz_X (dz_E dz_pp xo (d + 4)) dz_pp xo (dz_pp 76) Q 0 [some (dz_r 0), some (dz_i i), some (dz_i v), none] [] 0 0 (sh, rf, M)
  obtain ⟨c0, c1, c2, c3, c4, c5, c6, c7, c8, c9, c10, c11, c12, c13, c14, c15, c16, c17, c18, c19, c20, c21, c22, c23, c24, c25, c26, c27, c28, c29, c30, c31, c32, c33, c34, c35, c36⟩ := id hl
  obtain ⟨hrow, htxt, htl, hup, hlo, hfn, hdr, hkp, hrb⟩ := id hR
  obtain ⟨wrow, wtxt, wdr, wst, wkp⟩ := id hW
  have n0 : sh[23]? = some (.inl 1) := c14.2.2.2.2.1.1
  have n1 : rf 23 7 = 25 + 1 := c14.2.2.2.2.1.2.2.2.1
  have n2 : sh[25]? = some (.inr (0, 6)) := c14.2.2.2.2.1.2.2.2.2.1
  have n3 : rf 15 1 = 23 + 1 := c14.2.2.2.1
  have n4 : sh[15]? = some (.inl 0) := c14.1
  have n5 : ma_at sh rf 23 := c14.2.2.2.2.1
  have q0 : sh[34]? = some (.inl 1) := c20.1
  have q1 : rf 34 8 = 37 + 1 := c20.2.2.2.2.2.1
  have q2 : sh[37]? = some (.inr (0, 6)) := c20.2.2.2.2.2.2.1
  have q3 : sh[50]? = some (.inl 4) := c26.1
  have hw6 := WF_w hW
  have hM0 : M 23 0 = w := hdr.2.1.1
  refine xr_aloadn hc rfl rfl ?_
  refine xr_getfr hc rfl rfl (by first | assumption | rfl) (by first | assumption | rfl) ?_
  refine xr_getfr hc rfl rfl (by first | assumption | rfl) (by first | assumption | rfl) ?_
  refine xr_iloadn hc rfl rfl ?_
  refine xr_callv1 hc rfl (by first | assumption | rfl) rfl rfl rfl (Nat.le_of_ble_eq_true rfl) (Nat.zero_le _) (Nat.zero_le _) ?_
  refine S_has n5 (by rw [hM0]; exact hw6) (fun u1 v1 => ?_) (fun u1 => ?_)
  all_goals try rw [hM0] at u1
  all_goals try rw [hM0] at v1
  · refine xk_1 ?_
    refine xr_iff hc rfl (by simp [dz_cmp]) ?_
    refine xr_iloadn hc rfl rfl ?_
    refine xr_iconst hc rfl ?_
    refine xr_bipush hc rfl ?_
    refine xr_calls3 hc rfl (by decide) rfl rfl rfl (Nat.le_of_ble_eq_true rfl) (Nat.zero_le _) (Nat.zero_le _) ?_
    refine S_isWithin (fun u2 v2 => ?_) (fun u2 => ?_)
    · refine xk_1 ?_
      refine xr_ift hc rfl (t := 26) rfl (by simp [dz_cmp]) ?_
      refine xr_aloadn hc rfl rfl ?_
      refine xr_getfr hc rfl rfl (by first | assumption | rfl) (by first | assumption | rfl) ?_
      refine xr_aloadn hc rfl rfl ?_
      refine xr_getfr hc rfl rfl (by first | assumption | rfl) (by first | assumption | rfl) ?_
      refine xr_getfr hc rfl rfl (by first | assumption | rfl) (by first | assumption | rfl) ?_
      refine xr_callv1 hc rfl (by first | assumption | rfl) rfl rfl rfl (Nat.le_of_ble_eq_true rfl) (Nat.zero_le _) (Nat.zero_le _) ?_
      have hw0 : w ≠ 0 := by omega
      have hp := WF_p hW hw0
      have hst := wst.2 n (Nat.le_refl n)
      obtain ⟨p1, p2, p3, p4, p5⟩ := id hp
      obtain ⟨st0, st1, st2, st3, st4, st5, st6, st7, st8⟩ := id hst
      have lp : ∀ (m_ : Nat) (k : Nat) (M1 : Nat → Nat → Int) (c : Nat → Int), k + m_ = 40 → (∀ q2 k2, (q2 < 34 ∨ 40 < q2) → M1 q2 k2 = M q2 k2) → mrel M1 34 w pl kd wt nx c → stok w pl (29 * n + 29 * k) c → (t_whn pl kd wt nx i.toNat v 40 (hs n)) = t_whn pl kd wt nx i.toNat v m_ c → dz_X (dz_E dz_pp xo (d + 4)) dz_pp xo (dz_pp 76) Q 42 [some (dz_r 0), some (dz_i i), some (dz_i v), some (dz_i (k : Int))] [] 0 0 (sh, rf, M1) := by
        intro m_
        induction m_ with
        | zero =>
          intro k M1 c hk h1 h2 h3 h4
          obtain ⟨r0, r1, r2, r3, r4, r5, r6⟩ := id h2
          obtain ⟨y1, y2, y3, y4, y5, y6⟩ := r6 i.toNat (by omega)
          have Y3 : M1 37 i.toNat = c (11 + i.toNat) := y3
          obtain ⟨e0, e1, e2, e3, e4, e5, e6, e7, e8⟩ := id h3
          have N1 : M1 23 2 = hs n 1 := by rw [h1 _ _ (by omega)]; exact hdr.2.1.2.2.1
          have N4 : M1 23 5 = hs n 4 := by rw [h1 _ _ (by omega)]; exact hdr.2.1.2.2.2.2.2.1
          have h4 : (t_whn pl kd wt nx i.toNat v 40 (hs n)) = c := h4
          refine xr_iloadn hc rfl rfl ?_
          refine xr_bipush hc rfl ?_
          refine xr_icmp_ge hc rfl (t := 87) rfl (fun b45 => ?_) (fun b45 => ?_)
          · refine xr_aloadn hc rfl rfl ?_
            refine xr_getfr hc rfl rfl (by first | assumption | rfl) (by first | assumption | rfl) ?_
            refine xr_getfr hc rfl rfl (by first | assumption | rfl) (by first | assumption | rfl) ?_
            refine xr_iloadn hc rfl rfl ?_
            first | refine xr_iaload hc rfl (by first | assumption | rfl) (by first | omega | (unfold dz_w; omega)) (by first | omega | (unfold dz_w; omega)) ?_ | refine xr_ialoado hc rfl (by first | omega | (unfold dz_w; omega)) (by first | omega | (unfold dz_w; omega)) ?_
            rw [Y3]
            refine xr_iloadn hc rfl rfl ?_
            refine xr_icmp_ge hc rfl (t := 103) rfl (fun b97 => ?_) (fun b97 => ?_)
            · refine xr_aloadn hc rfl rfl ?_
              refine xr_aloadn hc rfl rfl ?_
              refine xr_getfr hc rfl rfl (by first | assumption | rfl) (by first | assumption | rfl) ?_
              refine xr_getfi hc rfl (Or.inl rfl) (by first | assumption | rfl) ?_
              rw [show M1 34 2 = c 1 from r2]
              refine xr_aloadn hc rfl rfl ?_
              refine xr_getfr hc rfl rfl (by first | assumption | rfl) (by first | assumption | rfl) ?_
              refine xr_getfr hc rfl rfl (by first | assumption | rfl) (by first | assumption | rfl) ?_
              refine xr_getfi hc rfl (Or.inl rfl) (by first | assumption | rfl) ?_
              rw [N1]
              refine xr_isubz hc rfl (by first | exact dz_wid (by first | omega | (unfold dz_w; omega)) (by first | omega | (unfold dz_w; omega)) | rfl) ?_
              refine xr_putfi hc rfl rfl (by first | assumption | rfl) ?_
              refine xr_aloadn hc rfl rfl ?_
              refine xr_getfr hc rfl rfl (by first | assumption | rfl) (by first | assumption | rfl) ?_
              refine xr_getfi hc rfl (Or.inl rfl) (by first | assumption | rfl) ?_
              rw [dz_up_ne (by omega), show M1 34 5 = c 4 from r5]
              refine xr_aloadn hc rfl rfl ?_
              refine xr_getfr hc rfl rfl (by first | assumption | rfl) (by first | assumption | rfl) ?_
              refine xr_getfr hc rfl rfl (by first | assumption | rfl) (by first | assumption | rfl) ?_
              refine xr_getfi hc rfl (Or.inl rfl) (by first | assumption | rfl) ?_
              rw [dz_up_ne (by omega), N4]
              refine xr_isubz hc rfl (by first | exact dz_wid (by first | omega | (unfold dz_w; omega)) (by first | omega | (unfold dz_w; omega)) | rfl) ?_
              refine xr_ireturn hc rfl rfl (Nat.zero_le _) (Nat.zero_le _) ?_
              have hge : ¬ c (11 + i.toNat) < v := by omega
              simp only [o_when] at hQ
              rw [if_neg (by omega), h4, if_neg hge] at hQ
              have hR1 := RX_scr hR (M2 := M1) ⟨fun q2 k2 u => h1 _ _ (by omega), fun q2 k2 u => h1 _ _ (by omega)⟩
              obtain ⟨hrow, htxt, htl, hup, hlo, hfn, hdr, hkp, hrb⟩ := id hR1
              refine hQ _ (fun q2 k2 u => by rw [dz_up_ne (by omega), h1 _ _ (by omega)]) ⟨rowX_fr hrow (fun q2 k2 u1 u2 => by first | rw [dz_up_ne (by omega)] | rw [dz_up_k (by omega)]), txtX_fr htxt (fun q2 k2 u1 u2 => by first | rw [dz_up_ne (by omega)] | rw [dz_up_k (by omega)]), by rw [dz_up_eq], Eq.trans (by first | rw [dz_up_ne (by omega)] | rw [dz_up_k (by omega)]) hup, Eq.trans (by first | rw [dz_up_ne (by omega)] | rw [dz_up_k (by omega)]) hlo, fndX_fr hfn (by first | rw [dz_up_ne (by omega)] | rw [dz_up_k (by omega)]) (fun k2 => by first | rw [dz_up_ne (by omega)] | rw [dz_up_k (by omega)]), drX_fr hdr (fun q2 k2 u1 u2 => by first | rw [dz_up_ne (by omega)] | rw [dz_up_k (by omega)]), kepX_fr hkp (fun q2 k2 u1 u2 => by first | rw [dz_up_ne (by omega)] | rw [dz_up_k (by omega)]), rbX_fr hrb (fun q2 k2 u1 => by first | rw [dz_up_ne (by omega)] | rw [dz_up_k (by omega)])⟩
            · refine xr_bipush hc rfl ?_
              refine xr_ireturn hc rfl rfl (Nat.zero_le _) (Nat.zero_le _) ?_
              have hlt : c (11 + i.toNat) < v := by omega
              simp only [o_when] at hQ
              rw [if_neg (by omega), h4, if_pos hlt] at hQ
              exact hQ M1 (fun q2 k2 u => h1 _ _ (by omega)) (RX_scr hR ⟨fun q2 k2 u => h1 _ _ (by omega), fun q2 k2 u => h1 _ _ (by omega)⟩)
          · omega
        | succ m_ ih =>
          intro k M1 c hk h1 h2 h3 h4
          obtain ⟨r0, r1, r2, r3, r4, r5, r6⟩ := id h2
          obtain ⟨y1, y2, y3, y4, y5, y6⟩ := r6 i.toNat (by omega)
          have Y3 : M1 37 i.toNat = c (11 + i.toNat) := y3
          obtain ⟨e0, e1, e2, e3, e4, e5, e6, e7, e8⟩ := id h3
          have N1 : M1 23 2 = hs n 1 := by rw [h1 _ _ (by omega)]; exact hdr.2.1.2.2.1
          have N4 : M1 23 5 = hs n 4 := by rw [h1 _ _ (by omega)]; exact hdr.2.1.2.2.2.2.2.1
          
          refine xr_iloadn hc rfl rfl ?_
          refine xr_bipush hc rfl ?_
          refine xr_icmp_ge hc rfl (t := 87) rfl (fun b45 => ?_) (fun b45 => ?_)
          · first
            | (exfalso; omega)
            | (skip
               have h4 : (t_whn pl kd wt nx i.toNat v 40 (hs n)) = c := by
                 rw [h4]
                 unfold t_whn
                 rw [if_pos (by omega)]
               refine xr_aloadn hc rfl rfl ?_
               refine xr_getfr hc rfl rfl (by first | assumption | rfl) (by first | assumption | rfl) ?_
               refine xr_getfr hc rfl rfl (by first | assumption | rfl) (by first | assumption | rfl) ?_
               refine xr_iloadn hc rfl rfl ?_
               first | refine xr_iaload hc rfl (by first | assumption | rfl) (by first | omega | (unfold dz_w; omega)) (by first | omega | (unfold dz_w; omega)) ?_ | refine xr_ialoado hc rfl (by first | omega | (unfold dz_w; omega)) (by first | omega | (unfold dz_w; omega)) ?_
               rw [Y3]
               refine xr_iloadn hc rfl rfl ?_
               refine xr_icmp_ge hc rfl (t := 103) rfl (fun b97 => ?_) (fun b97 => ?_)
               · first
                 | (exfalso; omega)
                 | (skip
                    refine xr_aloadn hc rfl rfl ?_
                    refine xr_aloadn hc rfl rfl ?_
                    refine xr_getfr hc rfl rfl (by first | assumption | rfl) (by first | assumption | rfl) ?_
                    refine xr_getfi hc rfl (Or.inl rfl) (by first | assumption | rfl) ?_
                    rw [show M1 34 2 = c 1 from r2]
                    refine xr_aloadn hc rfl rfl ?_
                    refine xr_getfr hc rfl rfl (by first | assumption | rfl) (by first | assumption | rfl) ?_
                    refine xr_getfr hc rfl rfl (by first | assumption | rfl) (by first | assumption | rfl) ?_
                    refine xr_getfi hc rfl (Or.inl rfl) (by first | assumption | rfl) ?_
                    rw [N1]
                    refine xr_isubz hc rfl (by first | exact dz_wid (by first | omega | (unfold dz_w; omega)) (by first | omega | (unfold dz_w; omega)) | rfl) ?_
                    refine xr_putfi hc rfl rfl (by first | assumption | rfl) ?_
                    refine xr_aloadn hc rfl rfl ?_
                    refine xr_getfr hc rfl rfl (by first | assumption | rfl) (by first | assumption | rfl) ?_
                    refine xr_getfi hc rfl (Or.inl rfl) (by first | assumption | rfl) ?_
                    rw [dz_up_ne (by omega), show M1 34 5 = c 4 from r5]
                    refine xr_aloadn hc rfl rfl ?_
                    refine xr_getfr hc rfl rfl (by first | assumption | rfl) (by first | assumption | rfl) ?_
                    refine xr_getfr hc rfl rfl (by first | assumption | rfl) (by first | assumption | rfl) ?_
                    refine xr_getfi hc rfl (Or.inl rfl) (by first | assumption | rfl) ?_
                    rw [dz_up_ne (by omega), N4]
                    refine xr_isubz hc rfl (by first | exact dz_wid (by first | omega | (unfold dz_w; omega)) (by first | omega | (unfold dz_w; omega)) | rfl) ?_
                    refine xr_ireturn hc rfl rfl (Nat.zero_le _) (Nat.zero_le _) ?_
                    have hge : ¬ c (11 + i.toNat) < v := by omega
                    simp only [o_when] at hQ
                    rw [if_neg (by omega), h4, if_neg hge] at hQ
                    have hR1 := RX_scr hR (M2 := M1) ⟨fun q2 k2 u => h1 _ _ (by omega), fun q2 k2 u => h1 _ _ (by omega)⟩
                    obtain ⟨hrow, htxt, htl, hup, hlo, hfn, hdr, hkp, hrb⟩ := id hR1
                    refine hQ _ (fun q2 k2 u => by rw [dz_up_ne (by omega), h1 _ _ (by omega)]) ⟨rowX_fr hrow (fun q2 k2 u1 u2 => by first | rw [dz_up_ne (by omega)] | rw [dz_up_k (by omega)]), txtX_fr htxt (fun q2 k2 u1 u2 => by first | rw [dz_up_ne (by omega)] | rw [dz_up_k (by omega)]), by rw [dz_up_eq], Eq.trans (by first | rw [dz_up_ne (by omega)] | rw [dz_up_k (by omega)]) hup, Eq.trans (by first | rw [dz_up_ne (by omega)] | rw [dz_up_k (by omega)]) hlo, fndX_fr hfn (by first | rw [dz_up_ne (by omega)] | rw [dz_up_k (by omega)]) (fun k2 => by first | rw [dz_up_ne (by omega)] | rw [dz_up_k (by omega)]), drX_fr hdr (fun q2 k2 u1 u2 => by first | rw [dz_up_ne (by omega)] | rw [dz_up_k (by omega)]), kepX_fr hkp (fun q2 k2 u1 u2 => by first | rw [dz_up_ne (by omega)] | rw [dz_up_k (by omega)]), rbX_fr hrb (fun q2 k2 u1 => by first | rw [dz_up_ne (by omega)] | rw [dz_up_k (by omega)])⟩)
               · first
                 | (exfalso; omega)
                 | (skip
                    refine xr_bipush hc rfl ?_
                    refine xr_ireturn hc rfl rfl (Nat.zero_le _) (Nat.zero_le _) ?_
                    have hlt : c (11 + i.toNat) < v := by omega
                    simp only [o_when] at hQ
                    rw [if_neg (by omega), h4, if_pos hlt] at hQ
                    exact hQ M1 (fun q2 k2 u => h1 _ _ (by omega)) (RX_scr hR ⟨fun q2 k2 u => h1 _ _ (by omega), fun q2 k2 u => h1 _ _ (by omega)⟩)))
          · first
            | (exfalso; omega)
            | (skip
               refine xr_aloadn hc rfl rfl ?_
               refine xr_getfr hc rfl rfl (by first | assumption | rfl) (by first | assumption | rfl) ?_
               refine xr_getfr hc rfl rfl (by first | assumption | rfl) (by first | assumption | rfl) ?_
               refine xr_iloadn hc rfl rfl ?_
               first | refine xr_iaload hc rfl (by first | assumption | rfl) (by first | omega | (unfold dz_w; omega)) (by first | omega | (unfold dz_w; omega)) ?_ | refine xr_ialoado hc rfl (by first | omega | (unfold dz_w; omega)) (by first | omega | (unfold dz_w; omega)) ?_
               rw [Y3]
               refine xr_iloadn hc rfl rfl ?_
               refine xr_icmp_ge hc rfl (t := 87) rfl (fun b58 => ?_) (fun b58 => ?_)
               · first
                 | (exfalso; omega)
                 | (skip
                    have h4 : (t_whn pl kd wt nx i.toNat v 40 (hs n)) = c := by
                      rw [h4]
                      unfold t_whn
                      rw [if_pos (by omega)]
                    refine xr_aloadn hc rfl rfl ?_
                    refine xr_getfr hc rfl rfl (by first | assumption | rfl) (by first | assumption | rfl) ?_
                    refine xr_getfr hc rfl rfl (by first | assumption | rfl) (by first | assumption | rfl) ?_
                    refine xr_iloadn hc rfl rfl ?_
                    first | refine xr_iaload hc rfl (by first | assumption | rfl) (by first | omega | (unfold dz_w; omega)) (by first | omega | (unfold dz_w; omega)) ?_ | refine xr_ialoado hc rfl (by first | omega | (unfold dz_w; omega)) (by first | omega | (unfold dz_w; omega)) ?_
                    rw [Y3]
                    refine xr_iloadn hc rfl rfl ?_
                    refine xr_icmp_ge hc rfl (t := 103) rfl (fun b97 => ?_) (fun b97 => ?_)
                    · first
                      | (exfalso; omega)
                      | (skip
                         refine xr_aloadn hc rfl rfl ?_
                         refine xr_aloadn hc rfl rfl ?_
                         refine xr_getfr hc rfl rfl (by first | assumption | rfl) (by first | assumption | rfl) ?_
                         refine xr_getfi hc rfl (Or.inl rfl) (by first | assumption | rfl) ?_
                         rw [show M1 34 2 = c 1 from r2]
                         refine xr_aloadn hc rfl rfl ?_
                         refine xr_getfr hc rfl rfl (by first | assumption | rfl) (by first | assumption | rfl) ?_
                         refine xr_getfr hc rfl rfl (by first | assumption | rfl) (by first | assumption | rfl) ?_
                         refine xr_getfi hc rfl (Or.inl rfl) (by first | assumption | rfl) ?_
                         rw [N1]
                         refine xr_isubz hc rfl (by first | exact dz_wid (by first | omega | (unfold dz_w; omega)) (by first | omega | (unfold dz_w; omega)) | rfl) ?_
                         refine xr_putfi hc rfl rfl (by first | assumption | rfl) ?_
                         refine xr_aloadn hc rfl rfl ?_
                         refine xr_getfr hc rfl rfl (by first | assumption | rfl) (by first | assumption | rfl) ?_
                         refine xr_getfi hc rfl (Or.inl rfl) (by first | assumption | rfl) ?_
                         rw [dz_up_ne (by omega), show M1 34 5 = c 4 from r5]
                         refine xr_aloadn hc rfl rfl ?_
                         refine xr_getfr hc rfl rfl (by first | assumption | rfl) (by first | assumption | rfl) ?_
                         refine xr_getfr hc rfl rfl (by first | assumption | rfl) (by first | assumption | rfl) ?_
                         refine xr_getfi hc rfl (Or.inl rfl) (by first | assumption | rfl) ?_
                         rw [dz_up_ne (by omega), N4]
                         refine xr_isubz hc rfl (by first | exact dz_wid (by first | omega | (unfold dz_w; omega)) (by first | omega | (unfold dz_w; omega)) | rfl) ?_
                         refine xr_ireturn hc rfl rfl (Nat.zero_le _) (Nat.zero_le _) ?_
                         have hge : ¬ c (11 + i.toNat) < v := by omega
                         simp only [o_when] at hQ
                         rw [if_neg (by omega), h4, if_neg hge] at hQ
                         have hR1 := RX_scr hR (M2 := M1) ⟨fun q2 k2 u => h1 _ _ (by omega), fun q2 k2 u => h1 _ _ (by omega)⟩
                         obtain ⟨hrow, htxt, htl, hup, hlo, hfn, hdr, hkp, hrb⟩ := id hR1
                         refine hQ _ (fun q2 k2 u => by rw [dz_up_ne (by omega), h1 _ _ (by omega)]) ⟨rowX_fr hrow (fun q2 k2 u1 u2 => by first | rw [dz_up_ne (by omega)] | rw [dz_up_k (by omega)]), txtX_fr htxt (fun q2 k2 u1 u2 => by first | rw [dz_up_ne (by omega)] | rw [dz_up_k (by omega)]), by rw [dz_up_eq], Eq.trans (by first | rw [dz_up_ne (by omega)] | rw [dz_up_k (by omega)]) hup, Eq.trans (by first | rw [dz_up_ne (by omega)] | rw [dz_up_k (by omega)]) hlo, fndX_fr hfn (by first | rw [dz_up_ne (by omega)] | rw [dz_up_k (by omega)]) (fun k2 => by first | rw [dz_up_ne (by omega)] | rw [dz_up_k (by omega)]), drX_fr hdr (fun q2 k2 u1 u2 => by first | rw [dz_up_ne (by omega)] | rw [dz_up_k (by omega)]), kepX_fr hkp (fun q2 k2 u1 u2 => by first | rw [dz_up_ne (by omega)] | rw [dz_up_k (by omega)]), rbX_fr hrb (fun q2 k2 u1 => by first | rw [dz_up_ne (by omega)] | rw [dz_up_k (by omega)])⟩)
                    · first
                      | (exfalso; omega)
                      | (skip
                         refine xr_bipush hc rfl ?_
                         refine xr_ireturn hc rfl rfl (Nat.zero_le _) (Nat.zero_le _) ?_
                         have hlt : c (11 + i.toNat) < v := by omega
                         simp only [o_when] at hQ
                         rw [if_neg (by omega), h4, if_pos hlt] at hQ
                         exact hQ M1 (fun q2 k2 u => h1 _ _ (by omega)) (RX_scr hR ⟨fun q2 k2 u => h1 _ _ (by omega), fun q2 k2 u => h1 _ _ (by omega)⟩)))
               · first
                 | (exfalso; omega)
                 | (skip
                    refine xr_aloadn hc rfl rfl ?_
                    refine xr_getfr hc rfl rfl (by first | assumption | rfl) (by first | assumption | rfl) ?_
                    refine xr_getfi hc rfl (Or.inl rfl) (by first | assumption | rfl) ?_
                    rw [show M1 34 4 = c 3 from r4]
                    refine xr_bipush hc rfl ?_
                    refine xr_icmp_eq hc rfl (t := 87) rfl (fun b70 => ?_) (fun b70 => ?_)
                    · first
                      | (exfalso; omega)
                      | (skip
                         have h4 : (t_whn pl kd wt nx i.toNat v 40 (hs n)) = c := by
                           rw [h4]
                           unfold t_whn
                           rw [if_pos (by omega)]
                         refine xr_aloadn hc rfl rfl ?_
                         refine xr_getfr hc rfl rfl (by first | assumption | rfl) (by first | assumption | rfl) ?_
                         refine xr_getfr hc rfl rfl (by first | assumption | rfl) (by first | assumption | rfl) ?_
                         refine xr_iloadn hc rfl rfl ?_
                         first | refine xr_iaload hc rfl (by first | assumption | rfl) (by first | omega | (unfold dz_w; omega)) (by first | omega | (unfold dz_w; omega)) ?_ | refine xr_ialoado hc rfl (by first | omega | (unfold dz_w; omega)) (by first | omega | (unfold dz_w; omega)) ?_
                         rw [Y3]
                         refine xr_iloadn hc rfl rfl ?_
                         refine xr_icmp_ge hc rfl (t := 103) rfl (fun b97 => ?_) (fun b97 => ?_)
                         · first
                           | (exfalso; omega)
                           | (skip
                              refine xr_aloadn hc rfl rfl ?_
                              refine xr_aloadn hc rfl rfl ?_
                              refine xr_getfr hc rfl rfl (by first | assumption | rfl) (by first | assumption | rfl) ?_
                              refine xr_getfi hc rfl (Or.inl rfl) (by first | assumption | rfl) ?_
                              rw [show M1 34 2 = c 1 from r2]
                              refine xr_aloadn hc rfl rfl ?_
                              refine xr_getfr hc rfl rfl (by first | assumption | rfl) (by first | assumption | rfl) ?_
                              refine xr_getfr hc rfl rfl (by first | assumption | rfl) (by first | assumption | rfl) ?_
                              refine xr_getfi hc rfl (Or.inl rfl) (by first | assumption | rfl) ?_
                              rw [N1]
                              refine xr_isubz hc rfl (by first | exact dz_wid (by first | omega | (unfold dz_w; omega)) (by first | omega | (unfold dz_w; omega)) | rfl) ?_
                              refine xr_putfi hc rfl rfl (by first | assumption | rfl) ?_
                              refine xr_aloadn hc rfl rfl ?_
                              refine xr_getfr hc rfl rfl (by first | assumption | rfl) (by first | assumption | rfl) ?_
                              refine xr_getfi hc rfl (Or.inl rfl) (by first | assumption | rfl) ?_
                              rw [dz_up_ne (by omega), show M1 34 5 = c 4 from r5]
                              refine xr_aloadn hc rfl rfl ?_
                              refine xr_getfr hc rfl rfl (by first | assumption | rfl) (by first | assumption | rfl) ?_
                              refine xr_getfr hc rfl rfl (by first | assumption | rfl) (by first | assumption | rfl) ?_
                              refine xr_getfi hc rfl (Or.inl rfl) (by first | assumption | rfl) ?_
                              rw [dz_up_ne (by omega), N4]
                              refine xr_isubz hc rfl (by first | exact dz_wid (by first | omega | (unfold dz_w; omega)) (by first | omega | (unfold dz_w; omega)) | rfl) ?_
                              refine xr_ireturn hc rfl rfl (Nat.zero_le _) (Nat.zero_le _) ?_
                              have hge : ¬ c (11 + i.toNat) < v := by omega
                              simp only [o_when] at hQ
                              rw [if_neg (by omega), h4, if_neg hge] at hQ
                              have hR1 := RX_scr hR (M2 := M1) ⟨fun q2 k2 u => h1 _ _ (by omega), fun q2 k2 u => h1 _ _ (by omega)⟩
                              obtain ⟨hrow, htxt, htl, hup, hlo, hfn, hdr, hkp, hrb⟩ := id hR1
                              refine hQ _ (fun q2 k2 u => by rw [dz_up_ne (by omega), h1 _ _ (by omega)]) ⟨rowX_fr hrow (fun q2 k2 u1 u2 => by first | rw [dz_up_ne (by omega)] | rw [dz_up_k (by omega)]), txtX_fr htxt (fun q2 k2 u1 u2 => by first | rw [dz_up_ne (by omega)] | rw [dz_up_k (by omega)]), by rw [dz_up_eq], Eq.trans (by first | rw [dz_up_ne (by omega)] | rw [dz_up_k (by omega)]) hup, Eq.trans (by first | rw [dz_up_ne (by omega)] | rw [dz_up_k (by omega)]) hlo, fndX_fr hfn (by first | rw [dz_up_ne (by omega)] | rw [dz_up_k (by omega)]) (fun k2 => by first | rw [dz_up_ne (by omega)] | rw [dz_up_k (by omega)]), drX_fr hdr (fun q2 k2 u1 u2 => by first | rw [dz_up_ne (by omega)] | rw [dz_up_k (by omega)]), kepX_fr hkp (fun q2 k2 u1 u2 => by first | rw [dz_up_ne (by omega)] | rw [dz_up_k (by omega)]), rbX_fr hrb (fun q2 k2 u1 => by first | rw [dz_up_ne (by omega)] | rw [dz_up_k (by omega)])⟩)
                         · first
                           | (exfalso; omega)
                           | (skip
                              refine xr_bipush hc rfl ?_
                              refine xr_ireturn hc rfl rfl (Nat.zero_le _) (Nat.zero_le _) ?_
                              have hlt : c (11 + i.toNat) < v := by omega
                              simp only [o_when] at hQ
                              rw [if_neg (by omega), h4, if_pos hlt] at hQ
                              exact hQ M1 (fun q2 k2 u => h1 _ _ (by omega)) (RX_scr hR ⟨fun q2 k2 u => h1 _ _ (by omega), fun q2 k2 u => h1 _ _ (by omega)⟩)))
                    · first
                      | (exfalso; omega)
                      | (skip
                         have h4b : (t_whn pl kd wt nx i.toNat v 40 (hs n)) = t_whn pl kd wt nx i.toNat v m_ (stp pl kd wt nx c) := by
                           rw [h4]
                           show (if v ≤ c (11 + i.toNat) ∨ c 3 = -9 then c else _) = _
                           rw [if_neg (by omega)]
                         refine xr_aloadn hc rfl rfl ?_
                         refine xr_getfr hc rfl rfl (by first | assumption | rfl) (by first | assumption | rfl) ?_
                         refine xr_callv0 hc rfl (by first | assumption | rfl) rfl rfl rfl (Nat.le_of_ble_eq_true rfl) (Nat.zero_le _) (Nat.zero_le _) ?_
                         refine S_doStep (w := w) (pl := pl) (B := 29 * n + 29 * k) (kd := kd) (wt := wt) (nx := nx) (s := c) hx c20 hp h3 h2 (by omega) (by omega) (fun M2 g1 g2 => ?_)
                         refine xk_1 ?_
                         refine xr_pop hc rfl rfl ?_
                         refine xr_iincz3 hc rfl rfl (by first | exact dz_wid (by first | omega | (unfold dz_w; omega)) (by first | omega | (unfold dz_w; omega)) | rfl) ?_
                         refine xr_goto hc rfl (t := 42) rfl ?_
                         exact ih (k + 1) M2 _ (by omega) (fun q2 k2 u => by rw [g1.1 _ _ (by omega) (by omega) (by omega) (by omega), h1 _ _ u]) g2 (by have z := stp_ok hp h3 (by omega) (show c 3 ≠ -9 by omega); rw [show (29 * (n : Int) + 29 * ((k + 1 : Nat) : Int)) = 29 * n + 29 * k + 29 by omega]; exact z) h4b)))
      refine S_mbecome c20 n5 (by omega) (fun M1 f1 f2 f3 => ?_)
      refine xk_0 ?_
      refine xr_iconst hc rfl ?_
      refine xr_istore3 hc rfl rfl ?_
      exact lp 40 0 M1 (hs n) (by omega) (fun q2 k2 u => f1 _ _ (by omega)) (mrel_same hw6.2 hdr.2.1 f2 f3) (stok_up hst (by omega) (by omega)) rfl
    · refine xk_1 ?_
      refine xr_iff hc rfl (by simp [dz_cmp]) ?_
      refine xr_iconst hc rfl ?_
      refine xr_ireturn hc rfl rfl (Nat.zero_le _) (Nat.zero_le _) ?_
      simp only [o_when] at hQ
      repeat (first | rw [if_pos (by omega)] at hQ | rw [if_neg (by omega)] at hQ)
      try dsimp only at hQ
      exact hQ M (fun _ _ _ => rfl) hR
  · refine xk_1 ?_
    refine xr_ift hc rfl (t := 24) rfl (by simp [dz_cmp]) ?_
    refine xr_iconst hc rfl ?_
    refine xr_ireturn hc rfl rfl (Nat.zero_le _) (Nat.zero_le _) ?_
    simp only [o_when] at hQ
    repeat (first | rw [if_pos (by omega)] at hQ | rw [if_neg (by omega)] at hQ)
    try dsimp only at hQ
    exact hQ M (fun _ _ _ => rfl) hR
