/-! The class: where to put a word, which two to change round. Written by l2_50.py. -/
abbrev mly (s : Nat → Int) (w : Int) (i : Nat) (p : Int) : Prop := s (5 + i) = p ∨ ly_at (fun k => s (5 + k)) p w.toNat 0 = -9
def t_pb (pl : Int) (kd wt nx : Nat → Int) (w : Int) (s : Nat → Int) (i m : Nat) (top : Int) : Nat → Int × Int
  | 0 => (-9, top)
  | p + 1 => if mly s w i p ∧ t_at pl kd wt nx (fup (fun k => s (5 + k)) i p) m s < (t_pb pl kd wt nx w s i m top p).2 then ((p : Int), t_at pl kd wt nx (fup (fun k => s (5 + k)) i p) m s) else t_pb pl kd wt nx w s i m top p
theorem t_pb_two {w pl B : Int} {kd wt nx s : Nat → Int} {i m : Nat} {T1 T2 : Int} (hp : pgok w pl kd wt nx) (hs : stok w pl B s) (hB : B + 29 * m ≤ 1000000) (hm : m ≤ 40) (h1 : 2000 ≤ T1) (h2 : 2000 ≤ T2) : ∀ P : Nat, ((∀ p : Nat, p < P → ¬ mly s w i p) ∧ t_pb pl kd wt nx w s i m T1 P = (-9, T1) ∧ t_pb pl kd wt nx w s i m T2 P = (-9, T2)) ∨ t_pb pl kd wt nx w s i m T1 P = t_pb pl kd wt nx w s i m T2 P
  | 0 => Or.inl ⟨fun p hp => by omega, rfl, rfl⟩
  | P + 1 => by
    have ih := t_pb_two (i := i) hp hs hB hm h1 h2 P
    have hA := t_at_in (sp := fup (fun k => s (5 + k)) i P) (m := m) hp hs hB
    unfold t_pb
    rcases ih with ⟨e0, e1, e2⟩ | e
    · rw [e1, e2]
      by_cases hy : mly s w i P
      · refine Or.inr ?_
        rw [if_pos ⟨hy, by show _ < T1; omega⟩, if_pos ⟨hy, by show _ < T2; omega⟩]
      · refine Or.inl ⟨fun p hpp => ?_, ?_, ?_⟩
        · by_cases e : p = P
          · rw [e]
            exact hy
          · exact e0 p (by omega)
        · rw [if_neg (fun z => hy z.1)]
        · rw [if_neg (fun z => hy z.1)]
    · refine Or.inr ?_
      rw [e]
theorem t_pb_all {w pl B : Int} {kd wt nx s : Nat → Int} {i m : Nat} {T1 T2 : Int} (hp : pgok w pl kd wt nx) (hs : stok w pl B s) (hB : B + 29 * m ≤ 1000000) (hm : m ≤ 40) (h1 : 2000 ≤ T1) (h2 : 2000 ≤ T2) (hi : (i : Int) < w) : t_pb pl kd wt nx w s i m T1 pl.toNat = t_pb pl kd wt nx w s i m T2 pl.toNat := by
  have h3 := hs.2.2.2.2.2.2.2.2 i hi
  rcases t_pb_two (i := i) hp hs hB hm h1 h2 pl.toNat with ⟨e0, e1, e2⟩ | e
  · exact absurd (Or.inl (by omega)) (e0 (s (5 + i)).toNat (by omega))
  · exact e
def o_place (tl w pl : Int) (kd wt nx s : Nat → Int) (i m : Int) : Int × Int := if i < 0 ∨ w ≤ i ∨ m < 0 ∨ 40 < m then (-1, tl) else t_pb pl kd wt nx w s i.toNat m.toNat 99999 pl.toNat
/-- two words changed round -/
def swp (sp : Nat → Int) (i j : Nat) : Nat → Int := fun k => if k = i then sp j else if k = j then sp i else sp k
def t_bf (pl : Int) (kd wt nx : Nat → Int) (W : Nat) (s : Nat → Int) (m : Nat) : Nat → Int × Int
  | 0 => (-9, t_at pl kd wt nx (fun k => s (5 + k)) m s)
  | k + 1 => if k / W < k % W ∧ t_at pl kd wt nx (swp (fun k => s (5 + k)) (k / W) (k % W)) m s < (t_bf pl kd wt nx W s m k).2 then (10 * ((k / W : Nat) : Int) + ((k % W : Nat) : Int), t_at pl kd wt nx (swp (fun k => s (5 + k)) (k / W) (k % W)) m s) else t_bf pl kd wt nx W s m k
theorem dvm {W i j : Nat} (h : j < W) : (i * W + j) / W = i ∧ (i * W + j) % W = j := by
  refine ⟨?_, ?_⟩
  · rw [Nat.add_comm, Nat.add_mul_div_right _ _ (by omega), Nat.div_eq_of_lt h]
    omega
  · rw [Nat.add_comm, Nat.add_mul_mod_self_right, Nat.mod_eq_of_lt h]
theorem t_bf_skip {pl : Int} {kd wt nx s : Nat → Int} {W m i : Nat} (hi : i < W) : ∀ j, j ≤ i + 1 → t_bf pl kd wt nx W s m (i * W + j) = t_bf pl kd wt nx W s m (i * W)
  | 0, _ => rfl
  | j + 1, hj => by
    have ih := t_bf_skip (pl := pl) (kd := kd) (wt := wt) (nx := nx) (s := s) (m := m) hi j (by omega)
    have hd := dvm (W := W) (i := i) (j := j) (by omega)
    show (if (i * W + j) / W < (i * W + j) % W ∧ _ then _ else _) = _
    rw [if_neg (fun z => by have z1 := z.1; rw [hd.1, hd.2] at z1; omega)]
    exact ih
def o_best (tl w pl : Int) (kd wt nx s : Nat → Int) (m : Int) : Int × Int := if m < 0 ∨ 40 < m then (-1, tl) else if w = 0 then (-4, tl) else ((t_bf pl kd wt nx w.toNat s m.toNat (w.toNat * w.toNat)).1, if (t_bf pl kd wt nx w.toNat s m.toNat (w.toNat * w.toNat)).1 = -9 then tl else (t_bf pl kd wt nx w.toNat s m.toNat (w.toNat * w.toNat)).2)
theorem S_mly {xo : Nat → List Int} {d : Nat} {Q : dz_Q} {sh : List (Nat ⊕ (Nat × Nat))} {rf : Nat → Nat → Nat} {M : Nat → Nat → Int} {w i p : Int} {s : Nat → Int} (hm : ma_at sh rf 23) (h0 : M 23 0 = w) (hw : 0 ≤ w ∧ w ≤ 6) (hs : ∀ i : Nat, (i : Int) < w → M 25 i = s (5 + i)) (hi : 0 ≤ i ∧ i < w) (h1 : mly s w i.toNat p → Q (some (dz_i 1)) (sh, rf, M)) (h2 : ¬ mly s w i.toNat p → Q (some (dz_i 0)) (sh, rf, M)) : dz_E dz_pp xo (d + 3) 12 [dz_r 23, dz_i i, dz_i p] (sh, rf, M) Q := by
  have e1 : M 25 i.toNat = s (5 + i.toNat) := hs _ (by omega)
  have e2 : free (M 25) w p ↔ ly_at (fun k => s (5 + k)) p w.toNat 0 = -9 := by rw [ly_free hw.1]; exact free_c hs
  refine S_mayLie hm (by rw [h0]; exact hw) (by rw [h0]; exact hi) (fun z => h1 ?_) (fun z => h2 (fun y => z ?_))
  · rw [h0] at z
    rcases z with z | z
    · exact Or.inl (e1.symm.trans z)
    · exact Or.inr (e2.mp z)
  · rw [h0]
    rcases y with y | y
    · exact Or.inl (e1.trans y)
    · exact Or.inr (e2.mpr y)
set_option maxRecDepth 100000 in
theorem X_place {xo : Nat → List Int} {d : Nat} {Q : dz_Q} {sh : List (Nat ⊕ (Nat × Nat))} {rf : Nat → Nat → Nat} {M : Nat → Nat → Int} {rs : Nat → Int} {it : Nat → Nat → Int} {ts : Nat → Int} {ch : Nat → Nat → Int} {tl up lo : Int} {fn : Nat → Int} {w pl : Int} {kd wt nx : Nat → Int} {n : Nat} {hs : Nat → Nat → Int} {kp : Nat → Int} {kh : Nat → Nat → Nat → Int} {i m : Int} (hx : xo 2 = dz_xs2) (hl : cl sh rf) (hR : RX M rs it ts ch tl up lo fn w pl kd wt nx n hs kp kh) (hW : WF rs it ts ch tl up lo fn w pl kd wt nx n hs kp kh) (hQ : ∀ M2 : Nat → Nat → Int, (∀ q2 k2, 115 ≤ q2 → M2 q2 k2 = M q2 k2) → RX M2 rs it ts ch (o_place tl w pl kd wt nx (hs n) i m).2 up lo fn w pl kd wt nx n hs kp kh → Q (some (dz_i ((o_place tl w pl kd wt nx (hs n) i m).1))) (sh, rf, M2)) : dz_E dz_pp xo (d + 5) 77 [dz_r 0, dz_i i, dz_i m] (sh, rf, M) Q := by
  refine ⟨Nat.le_of_ble_eq_true rfl, ?_⟩
  have hc := dz_E_m dz_pp xo (d + 4)
  show dz_X (dz_E dz_pp xo (d + 4)) dz_pp xo (dz_pp 77) Q 0 [some (dz_r 0), some (dz_i i), some (dz_i m), none, none, none, none] [] 0 0 (sh, rf, M)
  obtain ⟨c0, c1, c2, c3, c4, c5, c6, c7, c8, c9, c10, c11, c12, c13, c14, c15, c16, c17, c18, c19, c20, c21, c22, c23, c24, c25, c26, c27, c28, c29, c30, c31, c32, c33, c34, c35, c36⟩ := id hl
  obtain ⟨hrow, htxt, htl, hup, hlo, hfn, hdr, hkp, hrb⟩ := id hR
  obtain ⟨wrow, wtxt, wdr, wst, wkp⟩ := id hW
  have n0 : sh[23]? = some (.inl 1) := c14.2.2.2.2.1.1
  have n1 : rf 23 7 = 25 + 1 := c14.2.2.2.2.1.2.2.2.1
  have n2 : sh[25]? = some (.inr (0, 6)) := c14.2.2.2.2.1.2.2.2.2.1
  have n3 : rf 15 1 = 23 + 1 := c14.2.2.2.1
  have n4 : sh[15]? = some (.inl 0) := c14.1
  have n5 : ma_at sh rf 23 := c14.2.2.2.2.1
  have q0 : sh[34]? = some (.inl 1) := c20.1
  have q1 : rf 34 8 = 37 + 1 := c20.2.2.2.2.2.1
  have q2 : sh[37]? = some (.inr (0, 6)) := c20.2.2.2.2.2.2.1
  have q3 : sh[50]? = some (.inl 4) := c26.1
  have k0 : sh[54]? = some (.inl 2) := c28.1
  have k1 : rf 54 1 = 55 + 1 := c28.2.1
  have k2 : sh[55]? = some (.inr (0, 6)) := c28.2.2.1
  have hw6 := WF_w hW
  have hM0 : M 23 0 = w := hdr.2.1.1
  have hM1 : M 23 1 = pl := hdr.2.1.2.1
  have hsp0 : ∀ i : Nat, (i : Int) < w → M 25 i = hs n (5 + i) := fun i hi => (hdr.2.1.2.2.2.2.2.2 i hi).2.1
  refine xr_aloadn hc rfl rfl ?_
  refine xr_getfr hc rfl rfl (by first | assumption | rfl) (by first | assumption | rfl) ?_
  refine xr_getfr hc rfl rfl (by first | assumption | rfl) (by first | assumption | rfl) ?_
  refine xr_iloadn hc rfl rfl ?_
  refine xr_callv1 hc rfl (by first | assumption | rfl) rfl rfl rfl (Nat.le_of_ble_eq_true rfl) (Nat.zero_le _) (Nat.zero_le _) ?_
  refine S_has n5 (by rw [hM0]; exact hw6) (fun u1 v1 => ?_) (fun u1 => ?_)
  all_goals try rw [hM0] at u1
  all_goals try rw [hM0] at v1
  · refine xk_1 ?_
    refine xr_iff hc rfl (by simp [dz_cmp]) ?_
    refine xr_iloadn hc rfl rfl ?_
    refine xr_iconst hc rfl ?_
    refine xr_bipush hc rfl ?_
    refine xr_calls3 hc rfl (by decide) rfl rfl rfl (Nat.le_of_ble_eq_true rfl) (Nat.zero_le _) (Nat.zero_le _) ?_
    refine S_isWithin (fun u2 v2 => ?_) (fun u2 => ?_)
    · refine xk_1 ?_
      refine xr_ift hc rfl (t := 26) rfl (by simp [dz_cmp]) ?_
      refine xr_aloadn hc rfl rfl ?_
      refine xr_iloadn hc rfl rfl ?_
      refine xr_callv1 hc rfl (by first | assumption | rfl) rfl rfl rfl (Nat.le_of_ble_eq_true rfl) (Nat.zero_le _) (Nat.zero_le _) ?_
      have hw0 : w ≠ 0 := by omega
      have hp := WF_p hW hw0
      have hst := wst.2 n (Nat.le_refl n)
      obtain ⟨p1, p2, p3, p4, p5⟩ := id hp
      obtain ⟨st0, st1, st2, st3, st4, st5, st6, st7, st8⟩ := id hst
      refine S_followSteps hx hl hR hW hw0 (by omega) (fun M1 K f1 f2 f3 f4 f5 f6 => ?_)
      refine xk_0 ?_
      refine xr_aloadn hc rfl rfl ?_
      refine xr_getfr hc rfl rfl (by first | assumption | rfl) (by first | assumption | rfl) ?_
      refine xr_aloadn hc rfl rfl ?_
      refine xr_getfr hc rfl rfl (by first | assumption | rfl) (by first | assumption | rfl) ?_
      refine xr_getfr hc rfl rfl (by first | assumption | rfl) (by first | assumption | rfl) ?_
      refine xr_callv1 hc rfl (by first | assumption | rfl) rfl rfl rfl (Nat.le_of_ble_eq_true rfl) (Nat.zero_le _) (Nat.zero_le _) ?_
      refine S_pbegin hl (fun M2 g1 g2 g3 g4 => ?_)
      have L1 : ∀ q2 k2, ¬ (34 ≤ q2 ∧ q2 ≤ 40) → ¬ (50 ≤ q2 ∧ q2 ≤ 55) → M2 q2 k2 = M q2 k2 := fun q2 k2 v1 v2 => by rw [g1 _ _ (by omega) (by omega), f1 _ _ (by omega) (by omega)]
      have L2 := TR_fr f3 (M2 := M2) (fun q k v1 v2 => g1 _ _ (by omega) (by omega))
      have L3 : ∀ i : Nat, (i : Int) < w → M2 55 i = hs n (5 + i) := fun i hi => by rw [g4 i (by omega), f1 _ _ (by omega) (by omega)]; exact hsp0 i hi
      have LR : scX M M2 := ⟨fun q2 k2 u => L1 _ _ (by omega) (by omega), fun q2 k2 u => by
        rcases u with ⟨a, b⟩ | u
        · rw [a, b, g1 _ _ (by omega) (by omega), f2.2.2.2.2.2.2.2.2.1, hrb.1]
        · exact L1 _ _ (by omega) (by omega)⟩
      have g5 : M2 54 5 = w := by rw [g2, f1 _ _ (by omega) (by omega), hM0]
      have g6 : M2 54 6 = pl := by rw [g3, f1 _ _ (by omega) (by omega), hM1]
      have lp : ∀ (m_ : Nat) (p : Nat) (N : Nat → Nat → Int) (e : Option dz_V), (p : Int) + m_ = pl → (∀ q2 k2, ¬ (q2 = 55 ∧ k2 = i.toNat) → N q2 k2 = M2 q2 k2) → dz_X (dz_E dz_pp xo (d + 4)) dz_pp xo (dz_pp 77) Q 55 [some (dz_r 0), some (dz_i i), some (dz_i m), some (dz_i (t_pb pl kd wt nx w (hs n) i.toNat m.toNat 1000000 p).1), some (dz_i (t_pb pl kd wt nx w (hs n) i.toNat m.toNat 1000000 p).2), some (dz_i (p : Int)), e] [] 0 0 (sh, rf, N) := by
        intro m_
        induction m_ with
        | zero =>
          intro p N e hp2 h1
          have n23 : N 23 1 = pl := by rw [h1 _ _ (by omega), L1 _ _ (by omega) (by omega)]; exact hM1
          have n230 : N 23 0 = w := by rw [h1 _ _ (by omega), L1 _ _ (by omega) (by omega)]; exact hM0
          have ep : p = pl.toNat := by omega
          subst ep
          refine xr_iload hc rfl rfl ?_
          refine xr_aloadn hc rfl rfl ?_
          refine xr_getfr hc rfl rfl (by first | assumption | rfl) (by first | assumption | rfl) ?_
          refine xr_getfr hc rfl rfl (by first | assumption | rfl) (by first | assumption | rfl) ?_
          refine xr_getfi hc rfl (Or.inl rfl) (by first | assumption | rfl) ?_
          rw [n23]
          refine xr_icmp_ge hc rfl (t := 134) rfl (fun b67 => ?_) (fun b67 => ?_)
          · refine xr_aloadn hc rfl rfl ?_
            refine xr_iload hc rfl rfl ?_
            refine xr_putfi hc rfl rfl (by first | assumption | rfl) ?_
            refine xr_iloadn hc rfl rfl ?_
            refine xr_ireturn hc rfl rfl (Nat.zero_le _) (Nat.zero_le _) ?_
            rw [t_pb_all (T1 := 1000000) (T2 := 99999) hp hst (by omega) (by omega) (by omega) (by omega) (by omega)]
            simp only [o_place] at hQ
            rw [if_neg (by omega)] at hQ
            have hRN := RX_scr hR (scX_trans LR (⟨fun q2 k2 u => h1 _ _ (by omega), fun q2 k2 u => h1 _ _ (by omega)⟩ : scX M2 N))
            obtain ⟨hrow, htxt, htl, hup, hlo, hfn, hdr, hkp, hrb⟩ := id hRN
            refine hQ _ (fun q2 k2 u => by rw [dz_up_ne (by omega), h1 _ _ (by omega), L1 _ _ (by omega) (by omega)]) ⟨rowX_fr hrow (fun q2 k2 u1 u2 => by first | rw [dz_up_ne (by omega)] | rw [dz_up_k (by omega)]), txtX_fr htxt (fun q2 k2 u1 u2 => by first | rw [dz_up_ne (by omega)] | rw [dz_up_k (by omega)]), by rw [dz_up_eq], Eq.trans (by first | rw [dz_up_ne (by omega)] | rw [dz_up_k (by omega)]) hup, Eq.trans (by first | rw [dz_up_ne (by omega)] | rw [dz_up_k (by omega)]) hlo, fndX_fr hfn (by first | rw [dz_up_ne (by omega)] | rw [dz_up_k (by omega)]) (fun k2 => by first | rw [dz_up_ne (by omega)] | rw [dz_up_k (by omega)]), drX_fr hdr (fun q2 k2 u1 u2 => by first | rw [dz_up_ne (by omega)] | rw [dz_up_k (by omega)]), kepX_fr hkp (fun q2 k2 u1 u2 => by first | rw [dz_up_ne (by omega)] | rw [dz_up_k (by omega)]), rbX_fr hrb (fun q2 k2 u1 => by first | rw [dz_up_ne (by omega)] | rw [dz_up_k (by omega)])⟩
          · omega
        | succ m_ ih =>
          intro p N e hp2 h1
          have n23 : N 23 1 = pl := by rw [h1 _ _ (by omega), L1 _ _ (by omega) (by omega)]; exact hM1
          have n230 : N 23 0 = w := by rw [h1 _ _ (by omega), L1 _ _ (by omega) (by omega)]; exact hM0
          have n25 : ∀ k : Nat, (k : Int) < w → N 25 k = hs n (5 + k) := fun k hk => by rw [h1 _ _ (by omega), L1 _ _ (by omega) (by omega)]; exact hsp0 k hk
          have hA := t_at_in (sp := fup (fun k => hs n (5 + k)) i.toNat p) (m := m.toNat) hp hst (by omega)
          have et : t_pb pl kd wt nx w (hs n) i.toNat m.toNat 1000000 (p + 1) = if mly (hs n) w i.toNat p ∧ t_at pl kd wt nx (fup (fun k => hs n (5 + k)) i.toNat p) m.toNat (hs n) < (t_pb pl kd wt nx w (hs n) i.toNat m.toNat 1000000 p).2 then ((p : Int), t_at pl kd wt nx (fup (fun k => hs n (5 + k)) i.toNat p) m.toNat (hs n)) else (t_pb pl kd wt nx w (hs n) i.toNat m.toNat 1000000 p) := rfl
          refine xr_iload hc rfl rfl ?_
          refine xr_aloadn hc rfl rfl ?_
          refine xr_getfr hc rfl rfl (by first | assumption | rfl) (by first | assumption | rfl) ?_
          refine xr_getfr hc rfl rfl (by first | assumption | rfl) (by first | assumption | rfl) ?_
          refine xr_getfi hc rfl (Or.inl rfl) (by first | assumption | rfl) ?_
          rw [n23]
          refine xr_icmp_ge hc rfl (t := 134) rfl (fun b67 => ?_) (fun b67 => ?_)
          · omega
          · refine xr_aloadn hc rfl rfl ?_
            refine xr_getfr hc rfl rfl (by first | assumption | rfl) (by first | assumption | rfl) ?_
            refine xr_getfr hc rfl rfl (by first | assumption | rfl) (by first | assumption | rfl) ?_
            refine xr_iloadn hc rfl rfl ?_
            refine xr_iload hc rfl rfl ?_
            refine xr_callv2 hc rfl (by first | assumption | rfl) rfl rfl rfl (Nat.le_of_ble_eq_true rfl) (Nat.zero_le _) (Nat.zero_le _) ?_
            refine S_mly (s := hs n) n5 n230 hw6 n25 (by omega) (fun y1 => ?_) (fun y1 => ?_)
            · refine xk_1 ?_
              refine xr_iff hc rfl (by simp [dz_cmp]) ?_
              refine xr_aloadn hc rfl rfl ?_
              refine xr_getfr hc rfl rfl (by first | assumption | rfl) (by first | assumption | rfl) ?_
              refine xr_getfr hc rfl rfl (by first | assumption | rfl) (by first | assumption | rfl) ?_
              refine xr_iloadn hc rfl rfl ?_
              refine xr_iload hc rfl rfl ?_
              refine xr_iastore hc rfl (by first | assumption | rfl) (by first | omega | (unfold dz_w; omega)) (by first | omega | (unfold dz_w; omega)) ?_
              refine xr_aloadn hc rfl rfl ?_
              refine xr_getfr hc rfl rfl (by first | assumption | rfl) (by first | assumption | rfl) ?_
              refine xr_aloadn hc rfl rfl ?_
              refine xr_getfr hc rfl rfl (by first | assumption | rfl) (by first | assumption | rfl) ?_
              refine xr_getfr hc rfl rfl (by first | assumption | rfl) (by first | assumption | rfl) ?_
              refine xr_iloadn hc rfl rfl ?_
              refine xr_callv2 hc rfl (by first | assumption | rfl) rfl rfl rfl (Nat.le_of_ble_eq_true rfl) (Nat.zero_le _) (Nat.zero_le _) ?_
              refine S_beatsAt (N := m.toNat) (sp := fup (fun k => hs n (5 + k)) i.toNat p) hp hst (by omega) c26 (TR_fr L2 (fun q k v1 v2 => by rw [dz_up_ne (by omega), h1 _ _ (by omega)])) f4 (by omega) k2 (fun k hk => ?_) (fun k hk => ?_) (by omega) ?_
              · rw [up_fup]
                unfold fup
                split
                · omega
                · rw [h1 _ _ (by omega), L3 k hk]
                  have z2 := st8 k hk
                  omega
              · rw [up_fup]
                unfold fup
                split
                · rfl
                · rw [h1 _ _ (by omega), L3 k hk]
              refine xk_1 ?_
              refine xr_istore6 hc rfl rfl ?_
              refine xr_iload hc rfl rfl ?_
              refine xr_iload hc rfl rfl ?_
              refine xr_icmp_ge hc rfl (t := 128) rfl (fun b118 => ?_) (fun b118 => ?_)
              · refine xr_iincz5 hc rfl rfl (by first | exact dz_wid (by first | omega | (unfold dz_w; omega)) (by first | omega | (unfold dz_w; omega)) | rfl) ?_
                refine xr_goto hc rfl (t := 55) rfl ?_
                first
                  | (rw [if_pos ⟨y1, by omega⟩] at et
                     have e1 : (t_pb pl kd wt nx w (hs n) i.toNat m.toNat 1000000 (p + 1)).1 = p := by rw [et]
                     have e2 := congrArg Prod.snd et
                     dsimp only at e2
                     rw [← e2]
                     have l0 := ih (p + 1) (dz_up N 55 i.toNat p) (some (dz_i (t_pb pl kd wt nx w (hs n) i.toNat m.toNat 1000000 (p + 1)).2)) (by omega) (fun q2 k2 u => by
                       by_cases e : q2 = 55
                       · subst e
                         rw [dz_up_k (by omega), h1 _ _ u]
                       · rw [dz_up_ne e, h1 _ _ u])
                     rw [e1] at l0
                     exact l0)
                  | (rw [if_neg (fun z => by have z2 := z.2; omega)] at et
                     rw [← et]
                     exact ih (p + 1) (dz_up N 55 i.toNat p) _ (by omega) (fun q2 k2 u => by
                       by_cases e : q2 = 55
                       · subst e
                         rw [dz_up_k (by omega), h1 _ _ u]
                       · rw [dz_up_ne e, h1 _ _ u]))
                  | (rw [if_neg (fun z => y1 z.1)] at et
                     rw [← et]
                     exact ih (p + 1) N _ (by omega) h1)
              · refine xr_iload hc rfl rfl ?_
                refine xr_istore3 hc rfl rfl ?_
                refine xr_iload hc rfl rfl ?_
                refine xr_istore4 hc rfl rfl ?_
                refine xr_iincz5 hc rfl rfl (by first | exact dz_wid (by first | omega | (unfold dz_w; omega)) (by first | omega | (unfold dz_w; omega)) | rfl) ?_
                refine xr_goto hc rfl (t := 55) rfl ?_
                first
                  | (rw [if_pos ⟨y1, by omega⟩] at et
                     have e1 : (t_pb pl kd wt nx w (hs n) i.toNat m.toNat 1000000 (p + 1)).1 = p := by rw [et]
                     have e2 := congrArg Prod.snd et
                     dsimp only at e2
                     rw [← e2]
                     have l0 := ih (p + 1) (dz_up N 55 i.toNat p) (some (dz_i (t_pb pl kd wt nx w (hs n) i.toNat m.toNat 1000000 (p + 1)).2)) (by omega) (fun q2 k2 u => by
                       by_cases e : q2 = 55
                       · subst e
                         rw [dz_up_k (by omega), h1 _ _ u]
                       · rw [dz_up_ne e, h1 _ _ u])
                     rw [e1] at l0
                     exact l0)
                  | (rw [if_neg (fun z => by have z2 := z.2; omega)] at et
                     rw [← et]
                     exact ih (p + 1) (dz_up N 55 i.toNat p) _ (by omega) (fun q2 k2 u => by
                       by_cases e : q2 = 55
                       · subst e
                         rw [dz_up_k (by omega), h1 _ _ u]
                       · rw [dz_up_ne e, h1 _ _ u]))
                  | (rw [if_neg (fun z => y1 z.1)] at et
                     rw [← et]
                     exact ih (p + 1) N _ (by omega) h1)
            · refine xk_1 ?_
              refine xr_ift hc rfl (t := 128) rfl (by simp [dz_cmp]) ?_
              refine xr_iincz5 hc rfl rfl (by first | exact dz_wid (by first | omega | (unfold dz_w; omega)) (by first | omega | (unfold dz_w; omega)) | rfl) ?_
              refine xr_goto hc rfl (t := 55) rfl ?_
              first
                | (rw [if_pos ⟨y1, by omega⟩] at et
                   have e1 : (t_pb pl kd wt nx w (hs n) i.toNat m.toNat 1000000 (p + 1)).1 = p := by rw [et]
                   have e2 := congrArg Prod.snd et
                   dsimp only at e2
                   rw [← e2]
                   have l0 := ih (p + 1) (dz_up N 55 i.toNat p) (some (dz_i (t_pb pl kd wt nx w (hs n) i.toNat m.toNat 1000000 (p + 1)).2)) (by omega) (fun q2 k2 u => by
                     by_cases e : q2 = 55
                     · subst e
                       rw [dz_up_k (by omega), h1 _ _ u]
                     · rw [dz_up_ne e, h1 _ _ u])
                   rw [e1] at l0
                   exact l0)
                | (rw [if_neg (fun z => by have z2 := z.2; omega)] at et
                   rw [← et]
                   exact ih (p + 1) (dz_up N 55 i.toNat p) _ (by omega) (fun q2 k2 u => by
                     by_cases e : q2 = 55
                     · subst e
                       rw [dz_up_k (by omega), h1 _ _ u]
                     · rw [dz_up_ne e, h1 _ _ u]))
                | (rw [if_neg (fun z => y1 z.1)] at et
                   rw [← et]
                   exact ih (p + 1) N _ (by omega) h1)
      refine xk_0 ?_
      refine xr_bipush hc rfl ?_
      refine xr_istore3 hc rfl rfl ?_
      refine xr_ldc hc rfl ?_
      refine xr_istore4 hc rfl rfl ?_
      refine xr_iconst hc rfl ?_
      refine xr_istore5 hc rfl rfl ?_
      exact lp pl.toNat 0 M2 none (by omega) (fun _ _ _ => rfl)
    · refine xk_1 ?_
      refine xr_iff hc rfl (by simp [dz_cmp]) ?_
      refine xr_iconst hc rfl ?_
      refine xr_ireturn hc rfl rfl (Nat.zero_le _) (Nat.zero_le _) ?_
      simp only [o_place] at hQ
      repeat (first | rw [if_pos (by omega)] at hQ | rw [if_neg (by omega)] at hQ)
      try dsimp only at hQ
      exact hQ M (fun _ _ _ => rfl) hR
  · refine xk_1 ?_
    refine xr_ift hc rfl (t := 24) rfl (by simp [dz_cmp]) ?_
    refine xr_iconst hc rfl ?_
    refine xr_ireturn hc rfl rfl (Nat.zero_le _) (Nat.zero_le _) ?_
    simp only [o_place] at hQ
    repeat (first | rw [if_pos (by omega)] at hQ | rw [if_neg (by omega)] at hQ)
    try dsimp only at hQ
    exact hQ M (fun _ _ _ => rfl) hR
set_option maxRecDepth 100000 in
theorem X_best {xo : Nat → List Int} {d : Nat} {Q : dz_Q} {sh : List (Nat ⊕ (Nat × Nat))} {rf : Nat → Nat → Nat} {M : Nat → Nat → Int} {rs : Nat → Int} {it : Nat → Nat → Int} {ts : Nat → Int} {ch : Nat → Nat → Int} {tl up lo : Int} {fn : Nat → Int} {w pl : Int} {kd wt nx : Nat → Int} {n : Nat} {hs : Nat → Nat → Int} {kp : Nat → Int} {kh : Nat → Nat → Nat → Int} {m : Int} (hx : xo 2 = dz_xs2) (hl : cl sh rf) (hR : RX M rs it ts ch tl up lo fn w pl kd wt nx n hs kp kh) (hW : WF rs it ts ch tl up lo fn w pl kd wt nx n hs kp kh) (hQ : ∀ M2 : Nat → Nat → Int, (∀ q2 k2, 115 ≤ q2 → M2 q2 k2 = M q2 k2) → RX M2 rs it ts ch (o_best tl w pl kd wt nx (hs n) m).2 up lo fn w pl kd wt nx n hs kp kh → Q (some (dz_i ((o_best tl w pl kd wt nx (hs n) m).1))) (sh, rf, M2)) : dz_E dz_pp xo (d + 5) 78 [dz_r 0, dz_i m] (sh, rf, M) Q := by
  refine ⟨Nat.le_of_ble_eq_true rfl, ?_⟩
  have hc := dz_E_m dz_pp xo (d + 4)
  show dz_X (dz_E dz_pp xo (d + 4)) dz_pp xo (dz_pp 78) Q 0 [some (dz_r 0), some (dz_i m), none, none, none, none, none, none] [] 0 0 (sh, rf, M)
  obtain ⟨c0, c1, c2, c3, c4, c5, c6, c7, c8, c9, c10, c11, c12, c13, c14, c15, c16, c17, c18, c19, c20, c21, c22, c23, c24, c25, c26, c27, c28, c29, c30, c31, c32, c33, c34, c35, c36⟩ := id hl
  obtain ⟨hrow, htxt, htl, hup, hlo, hfn, hdr, hkp, hrb⟩ := id hR
  obtain ⟨wrow, wtxt, wdr, wst, wkp⟩ := id hW
  have n0 : sh[23]? = some (.inl 1) := c14.2.2.2.2.1.1
  have n1 : rf 23 7 = 25 + 1 := c14.2.2.2.2.1.2.2.2.1
  have n2 : sh[25]? = some (.inr (0, 6)) := c14.2.2.2.2.1.2.2.2.2.1
  have n3 : rf 15 1 = 23 + 1 := c14.2.2.2.1
  have n4 : sh[15]? = some (.inl 0) := c14.1
  have n5 : ma_at sh rf 23 := c14.2.2.2.2.1
  have q0 : sh[34]? = some (.inl 1) := c20.1
  have q1 : rf 34 8 = 37 + 1 := c20.2.2.2.2.2.1
  have q2 : sh[37]? = some (.inr (0, 6)) := c20.2.2.2.2.2.2.1
  have q3 : sh[50]? = some (.inl 4) := c26.1
  have k0 : sh[54]? = some (.inl 2) := c28.1
  have k1 : rf 54 1 = 55 + 1 := c28.2.1
  have k2 : sh[55]? = some (.inr (0, 6)) := c28.2.2.1
  have hw6 := WF_w hW
  have hM0 : M 23 0 = w := hdr.2.1.1
  have hM1 : M 23 1 = pl := hdr.2.1.2.1
  have hsp0 : ∀ i : Nat, (i : Int) < w → M 25 i = hs n (5 + i) := fun i hi => (hdr.2.1.2.2.2.2.2.2 i hi).2.1
  refine xr_aloadn hc rfl rfl ?_
  refine xr_iloadn hc rfl rfl ?_
  refine xr_bipush hc rfl ?_
  refine xr_callv2 hc rfl (by first | assumption | rfl) rfl rfl rfl (Nat.le_of_ble_eq_true rfl) (Nat.zero_le _) (Nat.zero_le _) ?_
  refine S_refusedSteps hl hR hW (fun u1 => ?_) (fun u1 v1 hw0 => ?_) (fun u1 v1 hw0 => ?_)
  · refine xk_1 ?_
    refine xr_istore2 hc rfl rfl ?_
    refine xr_iloadn hc rfl rfl ?_
    refine xr_iff hc rfl (by simp [dz_cmp]) ?_
    refine xr_iloadn hc rfl rfl ?_
    refine xr_ireturn hc rfl rfl (Nat.zero_le _) (Nat.zero_le _) ?_
    simp only [o_best] at hQ
    repeat (first | rw [if_pos (by omega)] at hQ | rw [if_neg (by omega)] at hQ)
    try dsimp only at hQ
    exact hQ M (fun _ _ _ => rfl) hR
  · refine xk_1 ?_
    refine xr_istore2 hc rfl rfl ?_
    refine xr_iloadn hc rfl rfl ?_
    refine xr_iff hc rfl (by simp [dz_cmp]) ?_
    refine xr_iloadn hc rfl rfl ?_
    refine xr_ireturn hc rfl rfl (Nat.zero_le _) (Nat.zero_le _) ?_
    simp only [o_best] at hQ
    repeat (first | rw [if_pos (by omega)] at hQ | rw [if_neg (by omega)] at hQ)
    try dsimp only at hQ
    exact hQ M (fun _ _ _ => rfl) hR
  · refine xk_1 ?_
    refine xr_istore2 hc rfl rfl ?_
    refine xr_iloadn hc rfl rfl ?_
    refine xr_ift hc rfl (t := 14) rfl (by simp [dz_cmp]) ?_
    refine xr_aloadn hc rfl rfl ?_
    refine xr_iloadn hc rfl rfl ?_
    refine xr_callv1 hc rfl (by first | assumption | rfl) rfl rfl rfl (Nat.le_of_ble_eq_true rfl) (Nat.zero_le _) (Nat.zero_le _) ?_
    have hp := WF_p hW hw0
    have hst := wst.2 n (Nat.le_refl n)
    obtain ⟨p1, p2, p3, p4, p5⟩ := id hp
    obtain ⟨st0, st1, st2, st3, st4, st5, st6, st7, st8⟩ := id hst
    refine S_followSteps hx hl hR hW hw0 (by omega) (fun M1 K f1 f2 f3 f4 f5 f6 => ?_)
    refine xk_0 ?_
    refine xr_aloadn hc rfl rfl ?_
    refine xr_getfr hc rfl rfl (by first | assumption | rfl) (by first | assumption | rfl) ?_
    refine xr_aloadn hc rfl rfl ?_
    refine xr_getfr hc rfl rfl (by first | assumption | rfl) (by first | assumption | rfl) ?_
    refine xr_getfr hc rfl rfl (by first | assumption | rfl) (by first | assumption | rfl) ?_
    refine xr_callv1 hc rfl (by first | assumption | rfl) rfl rfl rfl (Nat.le_of_ble_eq_true rfl) (Nat.zero_le _) (Nat.zero_le _) ?_
    refine S_pbegin hl (fun M2 g1 g2 g3 g4 => ?_)
    have L1 : ∀ q2 k2, ¬ (34 ≤ q2 ∧ q2 ≤ 40) → ¬ (50 ≤ q2 ∧ q2 ≤ 55) → M2 q2 k2 = M q2 k2 := fun q2 k2 v1 v2 => by rw [g1 _ _ (by omega) (by omega), f1 _ _ (by omega) (by omega)]
    have L2 := TR_fr f3 (M2 := M2) (fun q k v1 v2 => g1 _ _ (by omega) (by omega))
    have L3 : ∀ i : Nat, (i : Int) < w → M2 55 i = hs n (5 + i) := fun i hi => by rw [g4 i (by omega), f1 _ _ (by omega) (by omega)]; exact hsp0 i hi
    have LR : scX M M2 := ⟨fun q2 k2 u => L1 _ _ (by omega) (by omega), fun q2 k2 u => by
      rcases u with ⟨a, b⟩ | u
      · rw [a, b, g1 _ _ (by omega) (by omega), f2.2.2.2.2.2.2.2.2.1, hrb.1]
      · exact L1 _ _ (by omega) (by omega)⟩
    have g5 : M2 54 5 = w := by rw [g2, f1 _ _ (by omega) (by omega), hM0]
    have g6 : M2 54 6 = pl := by rw [g3, f1 _ _ (by omega) (by omega), hM1]
    have lp : ∀ (m_ : Nat) (i : Nat) (N : Nat → Nat → Int) (e e2 : Option dz_V), (i : Int) + m_ = w → (∀ q2 k2, ¬ (q2 = 55) → N q2 k2 = M2 q2 k2) → (∀ k : Nat, (k : Int) < w → N 55 k = hs n (5 + k)) → dz_X (dz_E dz_pp xo (d + 4)) dz_pp xo (dz_pp 78) Q 56 [some (dz_r 0), some (dz_i m), some (dz_i 0), some (dz_i (t_bf pl kd wt nx w.toNat (hs n) m.toNat (i * w.toNat)).1), some (dz_i (t_bf pl kd wt nx w.toNat (hs n) m.toNat (i * w.toNat)).2), some (dz_i (i : Int)), e, e2] [] 0 0 (sh, rf, N) := by
      intro m_
      induction m_ with
      | zero =>
        intro i N e e2 hi h1 h2
        have n230 : N 23 0 = w := by rw [h1 _ _ (by omega), L1 _ _ (by omega) (by omega)]; exact hM0
        have ei : i = w.toNat := by omega
        subst ei
        refine xr_iload hc rfl rfl ?_
        refine xr_aloadn hc rfl rfl ?_
        refine xr_getfr hc rfl rfl (by first | assumption | rfl) (by first | assumption | rfl) ?_
        refine xr_getfr hc rfl rfl (by first | assumption | rfl) (by first | assumption | rfl) ?_
        refine xr_getfi hc rfl (Or.inl rfl) (by first | assumption | rfl) ?_
        rw [n230]
        refine xr_icmp_ge hc rfl (t := 169) rfl (fun b68 => ?_) (fun b68 => ?_)
        · refine xr_iloadn hc rfl rfl ?_
          refine xr_bipush hc rfl ?_
          refine xr_icmp_eq hc rfl (t := 181) rfl (fun b172 => ?_) (fun b172 => ?_)
          · refine xr_iloadn hc rfl rfl ?_
            refine xr_ireturn hc rfl rfl (Nat.zero_le _) (Nat.zero_le _) ?_
            simp only [o_best] at hQ
            rw [if_neg (by omega), if_neg hw0] at hQ
            have hRN := RX_scr hR (scX_trans LR (⟨fun q2 k2 u => h1 _ _ (by omega), fun q2 k2 u => h1 _ _ (by omega)⟩ : scX M2 N))
            first
              | (rw [if_pos (by omega)] at hQ
                 exact hQ N (fun q2 k2 u => by rw [h1 _ _ (by omega), L1 _ _ (by omega) (by omega)]) hRN)
              | (rw [if_neg (by omega)] at hQ
                 obtain ⟨hrow, htxt, htl, hup, hlo, hfn, hdr, hkp, hrb⟩ := id hRN
                 refine hQ _ (fun q2 k2 u => by rw [dz_up_ne (by omega), h1 _ _ (by omega), L1 _ _ (by omega) (by omega)]) ⟨rowX_fr hrow (fun q2 k2 u1 u2 => by first | rw [dz_up_ne (by omega)] | rw [dz_up_k (by omega)]), txtX_fr htxt (fun q2 k2 u1 u2 => by first | rw [dz_up_ne (by omega)] | rw [dz_up_k (by omega)]), by rw [dz_up_eq], Eq.trans (by first | rw [dz_up_ne (by omega)] | rw [dz_up_k (by omega)]) hup, Eq.trans (by first | rw [dz_up_ne (by omega)] | rw [dz_up_k (by omega)]) hlo, fndX_fr hfn (by first | rw [dz_up_ne (by omega)] | rw [dz_up_k (by omega)]) (fun k2 => by first | rw [dz_up_ne (by omega)] | rw [dz_up_k (by omega)]), drX_fr hdr (fun q2 k2 u1 u2 => by first | rw [dz_up_ne (by omega)] | rw [dz_up_k (by omega)]), kepX_fr hkp (fun q2 k2 u1 u2 => by first | rw [dz_up_ne (by omega)] | rw [dz_up_k (by omega)]), rbX_fr hrb (fun q2 k2 u1 => by first | rw [dz_up_ne (by omega)] | rw [dz_up_k (by omega)])⟩)
          · refine xr_aloadn hc rfl rfl ?_
            refine xr_iload hc rfl rfl ?_
            refine xr_putfi hc rfl rfl (by first | assumption | rfl) ?_
            refine xr_iloadn hc rfl rfl ?_
            refine xr_ireturn hc rfl rfl (Nat.zero_le _) (Nat.zero_le _) ?_
            simp only [o_best] at hQ
            rw [if_neg (by omega), if_neg hw0] at hQ
            have hRN := RX_scr hR (scX_trans LR (⟨fun q2 k2 u => h1 _ _ (by omega), fun q2 k2 u => h1 _ _ (by omega)⟩ : scX M2 N))
            first
              | (rw [if_pos (by omega)] at hQ
                 exact hQ N (fun q2 k2 u => by rw [h1 _ _ (by omega), L1 _ _ (by omega) (by omega)]) hRN)
              | (rw [if_neg (by omega)] at hQ
                 obtain ⟨hrow, htxt, htl, hup, hlo, hfn, hdr, hkp, hrb⟩ := id hRN
                 refine hQ _ (fun q2 k2 u => by rw [dz_up_ne (by omega), h1 _ _ (by omega), L1 _ _ (by omega) (by omega)]) ⟨rowX_fr hrow (fun q2 k2 u1 u2 => by first | rw [dz_up_ne (by omega)] | rw [dz_up_k (by omega)]), txtX_fr htxt (fun q2 k2 u1 u2 => by first | rw [dz_up_ne (by omega)] | rw [dz_up_k (by omega)]), by rw [dz_up_eq], Eq.trans (by first | rw [dz_up_ne (by omega)] | rw [dz_up_k (by omega)]) hup, Eq.trans (by first | rw [dz_up_ne (by omega)] | rw [dz_up_k (by omega)]) hlo, fndX_fr hfn (by first | rw [dz_up_ne (by omega)] | rw [dz_up_k (by omega)]) (fun k2 => by first | rw [dz_up_ne (by omega)] | rw [dz_up_k (by omega)]), drX_fr hdr (fun q2 k2 u1 u2 => by first | rw [dz_up_ne (by omega)] | rw [dz_up_k (by omega)]), kepX_fr hkp (fun q2 k2 u1 u2 => by first | rw [dz_up_ne (by omega)] | rw [dz_up_k (by omega)]), rbX_fr hrb (fun q2 k2 u1 => by first | rw [dz_up_ne (by omega)] | rw [dz_up_k (by omega)])⟩)
        · omega
      | succ m_ ih =>
        intro i N e e2 hi h1 h2
        have n230 : N 23 0 = w := by rw [h1 _ _ (by omega), L1 _ _ (by omega) (by omega)]; exact hM0
        have IH := ih
        have lq : ∀ (m_ : Nat) (j : Nat) (N : Nat → Nat → Int) (e : Option dz_V), (j : Int) + m_ = w → i < j → (∀ q2 k2, ¬ (q2 = 55) → N q2 k2 = M2 q2 k2) → (∀ k : Nat, (k : Int) < w → N 55 k = hs n (5 + k)) → dz_X (dz_E dz_pp xo (d + 4)) dz_pp xo (dz_pp 78) Q 77 [some (dz_r 0), some (dz_i m), some (dz_i 0), some (dz_i (t_bf pl kd wt nx w.toNat (hs n) m.toNat (i * w.toNat + j)).1), some (dz_i (t_bf pl kd wt nx w.toNat (hs n) m.toNat (i * w.toNat + j)).2), some (dz_i (i : Int)), some (dz_i (j : Int)), e] [] 0 0 (sh, rf, N) := by
          intro m_
          induction m_ with
          | zero =>
            intro j N e hj hij h1 h2
            have n230 : N 23 0 = w := by rw [h1 _ _ (by omega), L1 _ _ (by omega) (by omega)]; exact hM0
            have ej : j = w.toNat := by omega
            subst ej
            have ew : i * w.toNat + w.toNat = (i + 1) * w.toNat := by rw [Nat.add_mul, Nat.one_mul]
            rw [ew]
            refine xr_iload hc rfl rfl ?_
            refine xr_aloadn hc rfl rfl ?_
            refine xr_getfr hc rfl rfl (by first | assumption | rfl) (by first | assumption | rfl) ?_
            refine xr_getfr hc rfl rfl (by first | assumption | rfl) (by first | assumption | rfl) ?_
            refine xr_getfi hc rfl (Or.inl rfl) (by first | assumption | rfl) ?_
            rw [n230]
            refine xr_icmp_ge hc rfl (t := 163) rfl (fun b89 => ?_) (fun b89 => ?_)
            · refine xr_iincz5 hc rfl rfl (by first | exact dz_wid (by first | omega | (unfold dz_w; omega)) (by first | omega | (unfold dz_w; omega)) | rfl) ?_
              refine xr_goto hc rfl (t := 56) rfl ?_
              exact IH (i + 1) N _ _ (by omega) h1 h2
            · omega
          | succ m_ ih =>
            intro j N e hj hij h1 h2
            have n230 : N 23 0 = w := by rw [h1 _ _ (by omega), L1 _ _ (by omega) (by omega)]; exact hM0
            have hd := dvm (W := w.toNat) (i := i) (j := j) (by omega)
            have et : (t_bf pl kd wt nx w.toNat (hs n) m.toNat (i * w.toNat + j + 1)) = if (i * w.toNat + j) / w.toNat < (i * w.toNat + j) % w.toNat ∧ t_at pl kd wt nx (swp (fun k => hs n (5 + k)) ((i * w.toNat + j) / w.toNat) ((i * w.toNat + j) % w.toNat)) m.toNat (hs n) < (t_bf pl kd wt nx w.toNat (hs n) m.toNat (i * w.toNat + j)).2 then (10 * (((i * w.toNat + j) / w.toNat : Nat) : Int) + (((i * w.toNat + j) % w.toNat : Nat) : Int), t_at pl kd wt nx (swp (fun k => hs n (5 + k)) ((i * w.toNat + j) / w.toNat) ((i * w.toNat + j) % w.toNat)) m.toNat (hs n)) else (t_bf pl kd wt nx w.toNat (hs n) m.toNat (i * w.toNat + j)) := rfl
            rw [hd.1, hd.2] at et
            have ex : i * w.toNat + j + 1 = i * w.toNat + (j + 1) := by omega
            rw [ex] at et
            have hA := t_at_in (sp := (swp (fun k => hs n (5 + k)) i j)) (m := m.toNat) hp hst (by omega)
            refine xr_iload hc rfl rfl ?_
            refine xr_aloadn hc rfl rfl ?_
            refine xr_getfr hc rfl rfl (by first | assumption | rfl) (by first | assumption | rfl) ?_
            refine xr_getfr hc rfl rfl (by first | assumption | rfl) (by first | assumption | rfl) ?_
            refine xr_getfi hc rfl (Or.inl rfl) (by first | assumption | rfl) ?_
            rw [n230]
            refine xr_icmp_ge hc rfl (t := 163) rfl (fun b89 => ?_) (fun b89 => ?_)
            · omega
            · refine xr_aloadn hc rfl rfl ?_
              refine xr_getfr hc rfl rfl (by first | assumption | rfl) (by first | assumption | rfl) ?_
              refine xr_getfr hc rfl rfl (by first | assumption | rfl) (by first | assumption | rfl) ?_
              refine xr_iload hc rfl rfl ?_
              refine xr_iload hc rfl rfl ?_
              refine xr_calls3 hc rfl (by decide) rfl rfl rfl (Nat.le_of_ble_eq_true rfl) (Nat.zero_le _) (Nat.zero_le _) ?_
              refine S_exchange k2 (by omega) (by omega) (fun N1 x1 x2 => ?_)
              rw [Int.toNat_natCast, Int.toNat_natCast] at x2
              refine xk_0 ?_
              refine xr_aloadn hc rfl rfl ?_
              refine xr_getfr hc rfl rfl (by first | assumption | rfl) (by first | assumption | rfl) ?_
              refine xr_aloadn hc rfl rfl ?_
              refine xr_getfr hc rfl rfl (by first | assumption | rfl) (by first | assumption | rfl) ?_
              refine xr_getfr hc rfl rfl (by first | assumption | rfl) (by first | assumption | rfl) ?_
              refine xr_iloadn hc rfl rfl ?_
              refine xr_callv2 hc rfl (by first | assumption | rfl) rfl rfl rfl (Nat.le_of_ble_eq_true rfl) (Nat.zero_le _) (Nat.zero_le _) ?_
              refine S_beatsAt (N := m.toNat) (sp := (swp (fun k => hs n (5 + k)) i j)) hp hst (by omega) c26 (TR_fr L2 (fun q k v1 v2 => by rw [x1 _ _ (by omega), h1 _ _ (by omega)])) f4 (by omega) k2 (fun k hk => ?_) (fun k hk => ?_) (by omega) ?_
              · rw [x2 k]
                have z1 := st8 i (by omega)
                have z2 := st8 j (by omega)
                have z3 := st8 k hk
                split
                · rw [h2 j (by omega)]
                  omega
                · split
                  · rw [h2 i (by omega)]
                    omega
                  · rw [h2 k hk]
                    omega
              · rw [x2 k]
                unfold swp
                split
                · rw [h2 j (by omega)]
                · split
                  · rw [h2 i (by omega)]
                  · rw [h2 k hk]
              refine xk_1 ?_
              refine xr_istore7 hc rfl rfl ?_
              refine xr_aloadn hc rfl rfl ?_
              refine xr_getfr hc rfl rfl (by first | assumption | rfl) (by first | assumption | rfl) ?_
              refine xr_getfr hc rfl rfl (by first | assumption | rfl) (by first | assumption | rfl) ?_
              refine xr_iload hc rfl rfl ?_
              refine xr_iload hc rfl rfl ?_
              refine xr_calls3 hc rfl (by decide) rfl rfl rfl (Nat.le_of_ble_eq_true rfl) (Nat.zero_le _) (Nat.zero_le _) ?_
              refine S_exchange k2 (by omega) (by omega) (fun N2 x3 x4 => ?_)
              rw [Int.toNat_natCast, Int.toNat_natCast] at x4
              have h1b : ∀ q2 k2, ¬ (q2 = 55) → N2 q2 k2 = M2 q2 k2 := fun q2 k2 u => by rw [x3 _ _ u, x1 _ _ u, h1 _ _ u]
              have h2b : ∀ k : Nat, (k : Int) < w → N2 55 k = hs n (5 + k) := fun k hk => by
                rw [x4 k]
                by_cases e1 : k = i
                · rw [if_pos e1, x2 j, if_neg (by omega), if_pos rfl, e1]
                  exact h2 i (by omega)
                · rw [if_neg e1]
                  by_cases e2 : k = j
                  · rw [if_pos e2, x2 i, if_pos rfl, e2]
                    exact h2 j (by omega)
                  · rw [if_neg e2, x2 k, if_neg e1, if_neg e2]
                    exact h2 k hk
              refine xk_0 ?_
              refine xr_iload hc rfl rfl ?_
              refine xr_iload hc rfl rfl ?_
              refine xr_icmp_ge hc rfl (t := 157) rfl (fun b141 => ?_) (fun b141 => ?_)
              · refine xr_iincz6 hc rfl rfl (by first | exact dz_wid (by first | omega | (unfold dz_w; omega)) (by first | omega | (unfold dz_w; omega)) | rfl) ?_
                refine xr_goto hc rfl (t := 77) rfl ?_
                first
                  | (rw [if_pos ⟨hij, by omega⟩] at et
                     have e1 := congrArg Prod.fst et
                     have e2 := congrArg Prod.snd et
                     dsimp only at e1 e2
                     have l0 := ih (j + 1) N2 (some (dz_i (t_at pl kd wt nx (swp (fun k => hs n (5 + k)) i j) m.toNat (hs n)))) (by omega) (by omega) h1b h2b
                     rw [e1, e2] at l0
                     exact l0)
                  | (rw [if_neg (fun z => by have z2 := z.2; omega)] at et
                     have l0 := ih (j + 1) N2 (some (dz_i (t_at pl kd wt nx (swp (fun k => hs n (5 + k)) i j) m.toNat (hs n)))) (by omega) (by omega) h1b h2b
                     rw [et] at l0
                     exact l0)
              · refine xr_bipush hc rfl ?_
                refine xr_iload hc rfl rfl ?_
                refine xr_imulz hc rfl (by first | exact dz_wid (by first | omega | (unfold dz_w; omega)) (by first | omega | (unfold dz_w; omega)) | rfl) ?_
                refine xr_iload hc rfl rfl ?_
                refine xr_iaddz hc rfl (by first | exact dz_wid (by first | omega | (unfold dz_w; omega)) (by first | omega | (unfold dz_w; omega)) | rfl) ?_
                refine xr_istore3 hc rfl rfl ?_
                refine xr_iload hc rfl rfl ?_
                refine xr_istore4 hc rfl rfl ?_
                refine xr_iincz6 hc rfl rfl (by first | exact dz_wid (by first | omega | (unfold dz_w; omega)) (by first | omega | (unfold dz_w; omega)) | rfl) ?_
                refine xr_goto hc rfl (t := 77) rfl ?_
                first
                  | (rw [if_pos ⟨hij, by omega⟩] at et
                     have e1 := congrArg Prod.fst et
                     have e2 := congrArg Prod.snd et
                     dsimp only at e1 e2
                     have l0 := ih (j + 1) N2 (some (dz_i (t_at pl kd wt nx (swp (fun k => hs n (5 + k)) i j) m.toNat (hs n)))) (by omega) (by omega) h1b h2b
                     rw [e1, e2] at l0
                     exact l0)
                  | (rw [if_neg (fun z => by have z2 := z.2; omega)] at et
                     have l0 := ih (j + 1) N2 (some (dz_i (t_at pl kd wt nx (swp (fun k => hs n (5 + k)) i j) m.toNat (hs n)))) (by omega) (by omega) h1b h2b
                     rw [et] at l0
                     exact l0)
        refine xr_iload hc rfl rfl ?_
        refine xr_aloadn hc rfl rfl ?_
        refine xr_getfr hc rfl rfl (by first | assumption | rfl) (by first | assumption | rfl) ?_
        refine xr_getfr hc rfl rfl (by first | assumption | rfl) (by first | assumption | rfl) ?_
        refine xr_getfi hc rfl (Or.inl rfl) (by first | assumption | rfl) ?_
        rw [n230]
        refine xr_icmp_ge hc rfl (t := 169) rfl (fun b68 => ?_) (fun b68 => ?_)
        · omega
        · refine xr_iload hc rfl rfl ?_
          refine xr_iconst hc rfl ?_
          refine xr_iaddz hc rfl (by first | exact dz_wid (by first | omega | (unfold dz_w; omega)) (by first | omega | (unfold dz_w; omega)) | rfl) ?_
          refine xr_istore6 hc rfl rfl ?_
          have hsk := t_bf_skip (pl := pl) (kd := kd) (wt := wt) (nx := nx) (s := hs n) (m := m.toNat) (W := w.toNat) (i := i) (by omega) (i + 1) (by omega)
          have l0 := lq m_ (i + 1) N e2 (by omega) (by omega) h1 h2
          rw [hsk] at l0
          exact l0
    refine xk_0 ?_
    refine xr_bipush hc rfl ?_
    refine xr_istore3 hc rfl rfl ?_
    refine xr_aloadn hc rfl rfl ?_
    refine xr_getfr hc rfl rfl (by first | assumption | rfl) (by first | assumption | rfl) ?_
    refine xr_aloadn hc rfl rfl ?_
    refine xr_getfr hc rfl rfl (by first | assumption | rfl) (by first | assumption | rfl) ?_
    refine xr_getfr hc rfl rfl (by first | assumption | rfl) (by first | assumption | rfl) ?_
    refine xr_iloadn hc rfl rfl ?_
    refine xr_callv2 hc rfl (by first | assumption | rfl) rfl rfl rfl (Nat.le_of_ble_eq_true rfl) (Nat.zero_le _) (Nat.zero_le _) ?_
    refine S_beatsAt (N := m.toNat) (sp := (fun k => hs n (5 + k))) hp hst (by omega) c26 L2 f4 (by omega) k2 (fun k hk => ?_) (fun k hk => ?_) (by omega) ?_
    · rw [L3 k hk]
      have z3 := st8 k hk
      omega
    · rw [L3 k hk]
    refine xk_1 ?_
    refine xr_istore4 hc rfl rfl ?_
    refine xr_iconst hc rfl ?_
    refine xr_istore5 hc rfl rfl ?_
    have l0 := lp w.toNat 0 M2 none none (by omega) (fun _ _ _ => rfl) L3
    rw [Nat.zero_mul] at l0
    exact l0
