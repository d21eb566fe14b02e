/-! Lots, of both. Written by l2_54.py. -/
def lt_n (x : Int) : Int := 48271 * x % 2147483647
def o_lot (w pl : Int) (kd wt nx : Nat → Int) (x : Int) (s : Nat → Int) : Nat → Int := if x % 3 ≠ 0 ∧ s 3 ≠ -9 then ded pl kd wt nx 0 0 0 s else ded pl kd wt nx 2 (x / 8 % w) ((x / 8 % w + 1) % w) s
def o_lf (w pl : Int) (kd wt nx : Nat → Int) : Nat → Int → Nat → (Nat → Nat → Int) → (Nat → Nat → Int)
  | 0, _, _, hs => hs
  | k + 1, x, n, hs => o_lf w pl kd wt nx k (lt_n x) (n + 1) (hup hs n (o_lot w pl kd wt nx (lt_n x) (hs n)))
def o_lots (w pl : Int) (kd wt nx : Nat → Int) (n : Nat) (hs : Nat → Nat → Int) (m sd : Int) : Int × Nat × (Nat → Nat → Int) := if m < 1 ∨ 20 < m ∨ sd < 1 ∨ 2147483646 < sd then (-1, n, hs) else if w = 0 then (-4, n, hs) else if 40 < n + m then (-2, n, hs) else (o_lf w pl kd wt nx m.toNat sd n hs (n + m.toNat) 1, n + m.toNat, o_lf w pl kd wt nx m.toNat sd n hs)
theorem WF_deed {rs : Nat → Int} {it : Nat → Nat → Int} {ts : Nat → Int} {ch : Nat → Nat → Int} {tl up lo : Int} {fn : Nat → Int} {w pl : Int} {kd wt nx : Nat → Int} {n : Nat} {hs : Nat → Nat → Int} {kp : Nat → Int} {kh : Nat → Nat → Nat → Int} {s : Nat → Int} (hW : WF rs it ts ch tl up lo fn w pl kd wt nx n hs kp kh) (hw0 : w ≠ 0) (hn : n < 40) (hs1 : stok w pl (29 * (n + 1 : Nat)) s) : WF rs it ts ch tl up lo fn w pl kd wt nx (n + 1) (hup hs n s) kp kh := by
  obtain ⟨wrow, wtxt, wdr, wst, wkp⟩ := hW
  refine ⟨wrow, wtxt, ?_, ⟨by omega, fun k hk => ?_⟩, wkp⟩
  · rcases wdr with z | z
    · exact Or.inl z
    · exact absurd z.1 hw0
  · by_cases e : k = n + 1
    · rw [e, hup_eq]
      exact hs1
    · rw [hup_ne e]
      exact wst.2 k (by omega)
theorem lt_in {x : Int} (hx : 0 ≤ x ∧ x < 2147483647) : 0 ≤ lt_n x ∧ lt_n x < 2147483647 := ⟨Int.emod_nonneg _ (by omega), Int.emod_lt_of_pos _ (by omega)⟩
theorem lt_dok {w pl x : Int} {s : Nat → Int} (hw : 2 ≤ w) : dok w pl 2 (x / 8 % w) ((x / 8 % w + 1) % w) s := Or.inr (Or.inr (Or.inl ⟨rfl, ⟨Int.emod_nonneg _ (by omega), Int.emod_lt_of_pos _ (by omega)⟩, Int.emod_nonneg _ (by omega), Int.emod_lt_of_pos _ (by omega)⟩))
theorem lot_ok {w pl B x : Int} {kd wt nx s : Nat → Int} (hp : pgok w pl kd wt nx) (hs : stok w pl B s) (hB : B + 29 ≤ 1000000) : stok w pl (B + 29) (o_lot w pl kd wt nx x s) := by
  unfold o_lot
  split
  · rename_i h
    exact ded_ok hp hs hB (Or.inl ⟨rfl, h.2⟩)
  · exact ded_ok hp hs hB (lt_dok hp.1)
set_option maxRecDepth 100000 in
theorem S_doLot {xo : Nat → List Int} {d : Nat} {Q : dz_Q} {sh : List (Nat ⊕ (Nat × Nat))} {rf : Nat → Nat → Nat} {M : Nat → Nat → Int} {rs : Nat → Int} {it : Nat → Nat → Int} {ts : Nat → Int} {ch : Nat → Nat → Int} {tl up lo : Int} {fn : Nat → Int} {w pl : Int} {kd wt nx : Nat → Int} {n : Nat} {hs : Nat → Nat → Int} {kp : Nat → Int} {kh : Nat → Nat → Nat → Int} {x : Int} (hx : xo 2 = dz_xs2) (hl : cl sh rf) (hR : RX M rs it ts ch tl up lo fn w pl kd wt nx n hs kp kh) (hW : WF rs it ts ch tl up lo fn w pl kd wt nx n hs kp kh) (hw0 : w ≠ 0) (hn : n < 40) (hx0 : 0 ≤ x ∧ x < 2147483647) (hQ : ∀ M2 : Nat → Nat → Int, (∀ q2 k2, 115 ≤ q2 → M2 q2 k2 = M q2 k2) → RX M2 rs it ts ch tl up lo fn w pl kd wt nx (n + 1) (hup hs n (o_lot w pl kd wt nx x (hs n))) kp kh → Q none (sh, rf, M2)) : dz_E dz_pp xo (d + 7) 115 [dz_r 0, dz_l x] (sh, rf, M) Q := by
  refine ⟨Nat.le_of_ble_eq_true rfl, ?_⟩
  have hc := dz_E_m dz_pp xo (d + 6)
  show dz_X (dz_E dz_pp xo (d + 6)) dz_pp xo (dz_pp 115) Q 0 [some (dz_r 0), some (dz_l x), none, none, none] [] 0 0 (sh, rf, M)
  obtain ⟨c0, c1, c2, c3, c4, c5, c6, c7, c8, c9, c10, c11, c12, c13, c14, c15, c16, c17, c18, c19, c20, c21, c22, c23, c24, c25, c26, c27, c28, c29, c30, c31, c32, c33, c34, c35, c36⟩ := id hl
  obtain ⟨hrow, htxt, htl, hup, hlo, hfn, hdr, hkp, hrb⟩ := id hR
  obtain ⟨wrow, wtxt, wdr, wst, wkp⟩ := id hW
  have n0 : sh[23]? = some (.inl 1) := c14.2.2.2.2.1.1
  have n1 : rf 23 7 = 25 + 1 := c14.2.2.2.2.1.2.2.2.1
  have n2 : sh[25]? = some (.inr (0, 6)) := c14.2.2.2.2.1.2.2.2.2.1
  have n3 : rf 15 1 = 23 + 1 := c14.2.2.2.1
  have n4 : sh[15]? = some (.inl 0) := c14.1
  have n5 : ma_at sh rf 23 := c14.2.2.2.2.1
  have q0 : sh[34]? = some (.inl 1) := c20.1
  have q1 : rf 34 8 = 37 + 1 := c20.2.2.2.2.2.1
  have q2 : sh[37]? = some (.inr (0, 6)) := c20.2.2.2.2.2.2.1
  have q3 : sh[50]? = some (.inl 4) := c26.1
  have hp := WF_p hW hw0
  obtain ⟨p1, p2, p3, p4, p5⟩ := id hp
  have hst := wst.2 n (Nat.le_refl n)
  have hM0 : M 23 0 = w := hdr.2.1.1
  have hM4 : M 23 4 = hs n 3 := hdr.2.1.2.2.2.2.1
  have hw2 : 2 ≤ w ∧ w ≤ 6 := ⟨p1, p2⟩
  have ed : dz_W (Int.tdiv x 8) = x / 8 := by
    rw [Int.tdiv_eq_ediv_of_nonneg (by omega)]
    exact dz_W_id ⟨by omega, by omega⟩
  have em : Int.tmod (x / 8) w = x / 8 % w := Int.tmod_eq_emod_of_nonneg (by omega)
  obtain ⟨I, hI⟩ : ∃ I, I = x / 8 % w := ⟨_, rfl⟩
  have hI0 : 0 ≤ I := by rw [hI]; exact Int.emod_nonneg _ (by omega)
  have hI1 : I < w := by rw [hI]; exact Int.emod_lt_of_pos _ (by omega)
  have em2 : Int.tmod (I + 1) w = (I + 1) % w := Int.tmod_eq_emod_of_nonneg (by omega)
  have hJ0 : 0 ≤ (I + 1) % w := Int.emod_nonneg _ (by omega)
  have hJ1 : (I + 1) % w < w := Int.emod_lt_of_pos _ (by omega)
  have e3 : Int.tmod x 3 = x % 3 := Int.tmod_eq_emod_of_nonneg (by omega)
  have hlc := lcmp_0 (x % 3) 0
  have hlc2 : (dz_lcmp (x % 3) ((0 : Fin 2).val : Int) = 0 ↔ x % 3 = 0) := hlc.2.2
  have ew : dz_w I = I := dz_wid (by omega) (by omega)
  refine xr_aloadn hc rfl rfl ?_
  refine xr_getfr hc rfl rfl (by first | assumption | rfl) (by first | assumption | rfl) ?_
  refine xr_getfr hc rfl rfl (by first | assumption | rfl) (by first | assumption | rfl) ?_
  refine xr_getfi hc rfl (Or.inl rfl) (by first | assumption | rfl) ?_
  rw [hM0]
  refine xr_istore3 hc rfl rfl ?_
  refine xr_lloadn hc rfl rfl ?_
  refine xr_ldc2 hc rfl ?_
  refine xr_lrem hc rfl (by first | omega | (unfold dz_w; omega)) ?_
  rw [e3]
  refine xr_lconst hc rfl ?_
  refine xr_lcmp hc rfl ?_
  refine xr_if_eq hc rfl (t := 50) rfl (fun b18 => ?_) (fun b18 => ?_)
  · refine xr_iloadn hc rfl rfl ?_
    refine xr_if_le hc rfl (t := 82) rfl (fun b51 => ?_) (fun b51 => ?_)
    · refine xr_return hc rfl rfl (Nat.zero_le _) (Nat.zero_le _) ?_
      first
        | (exfalso; omega)
        | (skip
           have eo : o_lot w pl kd wt nx x (hs n) = if x % 3 ≠ 0 ∧ hs n 3 ≠ -9 then ded pl kd wt nx 0 0 0 (hs n) else ded pl kd wt nx 2 (x / 8 % w) ((x / 8 % w + 1) % w) (hs n) := rfl
           first
             | (rw [if_pos ⟨by omega, by omega⟩] at eo
                rw [eo] at hQ
                exact hQ M2 (fun q2 k2 u => z1 q2 k2 (by omega)) ⟨rowX_fr hrow (fun q2 k2 u1 u2 => z1 _ _ (by omega)), txtX_fr htxt (fun q2 k2 u1 u2 => z1 _ _ (by omega)), Eq.trans (z1 _ _ (by omega)) htl, Eq.trans (z1 _ _ (by omega)) hup, Eq.trans (z1 _ _ (by omega)) hlo, fndX_fr hfn (z1 _ _ (by omega)) (fun k2 => z1 _ _ (by omega)), z2, kepX_fr hkp (fun q2 k2 u1 u2 => z1 _ _ (by omega)), rbX_fr hrb (fun q2 k2 u1 => z1 _ _ (by omega))⟩)
             | (rw [if_neg (by omega), ← hI] at eo
                rw [eo] at hQ
                exact hQ M2 (fun q2 k2 u => z1 q2 k2 (by omega)) ⟨rowX_fr hrow (fun q2 k2 u1 u2 => z1 _ _ (by omega)), txtX_fr htxt (fun q2 k2 u1 u2 => z1 _ _ (by omega)), Eq.trans (z1 _ _ (by omega)) htl, Eq.trans (z1 _ _ (by omega)) hup, Eq.trans (z1 _ _ (by omega)) hlo, fndX_fr hfn (z1 _ _ (by omega)) (fun k2 => z1 _ _ (by omega)), z2, kepX_fr hkp (fun q2 k2 u1 u2 => z1 _ _ (by omega)), rbX_fr hrb (fun q2 k2 u1 => z1 _ _ (by omega))⟩))
    · refine xr_lloadn hc rfl rfl ?_
      refine xr_ldc2 hc rfl ?_
      refine xr_ldiv hc rfl (by first | omega | (unfold dz_w; omega)) ?_
      rw [ed]
      refine xr_iloadn hc rfl rfl ?_
      refine xr_i2l hc rfl ?_
      refine xr_lrem hc rfl (by first | omega | (unfold dz_w; omega)) ?_
      rw [em, ← hI]
      refine xr_l2i hc rfl ?_
      rw [ew]
      refine xr_istore4 hc rfl rfl ?_
      refine xr_aloadn hc rfl rfl ?_
      refine xr_getfr hc rfl rfl (by first | assumption | rfl) (by first | assumption | rfl) ?_
      refine xr_iconst hc rfl ?_
      refine xr_iload hc rfl rfl ?_
      refine xr_iload hc rfl rfl ?_
      refine xr_iconst hc rfl ?_
      refine xr_iaddz hc rfl (by first | exact dz_wid (by first | omega | (unfold dz_w; omega)) (by first | omega | (unfold dz_w; omega)) | rfl) ?_
      refine xr_iloadn hc rfl rfl ?_
      refine xr_irem hc rfl (by first | omega | (unfold dz_w; omega)) ?_
      rw [em2]
      refine xr_callv3 hc rfl (by first | assumption | rfl) rfl rfl rfl (Nat.le_of_ble_eq_true rfl) (Nat.zero_le _) (Nat.zero_le _) ?_
      refine S_doDeed (w := w) (pl := pl) (kd := kd) (wt := wt) (nx := nx) hx c14 hp hdr (by rw [hI]; exact lt_dok p1) (fun u7 => absurd u7 (by omega)) (fun u7 M2 z1 z2 => ?_)
      refine xk_1 ?_
      refine xr_pop hc rfl rfl ?_
      refine xr_return hc rfl rfl (Nat.zero_le _) (Nat.zero_le _) ?_
      first
        | (exfalso; omega)
        | (skip
           have eo : o_lot w pl kd wt nx x (hs n) = if x % 3 ≠ 0 ∧ hs n 3 ≠ -9 then ded pl kd wt nx 0 0 0 (hs n) else ded pl kd wt nx 2 (x / 8 % w) ((x / 8 % w + 1) % w) (hs n) := rfl
           first
             | (rw [if_pos ⟨by omega, by omega⟩] at eo
                rw [eo] at hQ
                exact hQ M2 (fun q2 k2 u => z1 q2 k2 (by omega)) ⟨rowX_fr hrow (fun q2 k2 u1 u2 => z1 _ _ (by omega)), txtX_fr htxt (fun q2 k2 u1 u2 => z1 _ _ (by omega)), Eq.trans (z1 _ _ (by omega)) htl, Eq.trans (z1 _ _ (by omega)) hup, Eq.trans (z1 _ _ (by omega)) hlo, fndX_fr hfn (z1 _ _ (by omega)) (fun k2 => z1 _ _ (by omega)), z2, kepX_fr hkp (fun q2 k2 u1 u2 => z1 _ _ (by omega)), rbX_fr hrb (fun q2 k2 u1 => z1 _ _ (by omega))⟩)
             | (rw [if_neg (by omega), ← hI] at eo
                rw [eo] at hQ
                exact hQ M2 (fun q2 k2 u => z1 q2 k2 (by omega)) ⟨rowX_fr hrow (fun q2 k2 u1 u2 => z1 _ _ (by omega)), txtX_fr htxt (fun q2 k2 u1 u2 => z1 _ _ (by omega)), Eq.trans (z1 _ _ (by omega)) htl, Eq.trans (z1 _ _ (by omega)) hup, Eq.trans (z1 _ _ (by omega)) hlo, fndX_fr hfn (z1 _ _ (by omega)) (fun k2 => z1 _ _ (by omega)), z2, kepX_fr hkp (fun q2 k2 u1 u2 => z1 _ _ (by omega)), rbX_fr hrb (fun q2 k2 u1 => z1 _ _ (by omega))⟩))
  · refine xr_aloadn hc rfl rfl ?_
    refine xr_getfr hc rfl rfl (by first | assumption | rfl) (by first | assumption | rfl) ?_
    refine xr_getfr hc rfl rfl (by first | assumption | rfl) (by first | assumption | rfl) ?_
    refine xr_getfi hc rfl (Or.inl rfl) (by first | assumption | rfl) ?_
    rw [hM4]
    refine xr_bipush hc rfl ?_
    refine xr_icmp_eq hc rfl (t := 50) rfl (fun b33 => ?_) (fun b33 => ?_)
    · refine xr_iloadn hc rfl rfl ?_
      refine xr_if_le hc rfl (t := 82) rfl (fun b51 => ?_) (fun b51 => ?_)
      · refine xr_return hc rfl rfl (Nat.zero_le _) (Nat.zero_le _) ?_
        first
          | (exfalso; omega)
          | (skip
             have eo : o_lot w pl kd wt nx x (hs n) = if x % 3 ≠ 0 ∧ hs n 3 ≠ -9 then ded pl kd wt nx 0 0 0 (hs n) else ded pl kd wt nx 2 (x / 8 % w) ((x / 8 % w + 1) % w) (hs n) := rfl
             first
               | (rw [if_pos ⟨by omega, by omega⟩] at eo
                  rw [eo] at hQ
                  exact hQ M2 (fun q2 k2 u => z1 q2 k2 (by omega)) ⟨rowX_fr hrow (fun q2 k2 u1 u2 => z1 _ _ (by omega)), txtX_fr htxt (fun q2 k2 u1 u2 => z1 _ _ (by omega)), Eq.trans (z1 _ _ (by omega)) htl, Eq.trans (z1 _ _ (by omega)) hup, Eq.trans (z1 _ _ (by omega)) hlo, fndX_fr hfn (z1 _ _ (by omega)) (fun k2 => z1 _ _ (by omega)), z2, kepX_fr hkp (fun q2 k2 u1 u2 => z1 _ _ (by omega)), rbX_fr hrb (fun q2 k2 u1 => z1 _ _ (by omega))⟩)
               | (rw [if_neg (by omega), ← hI] at eo
                  rw [eo] at hQ
                  exact hQ M2 (fun q2 k2 u => z1 q2 k2 (by omega)) ⟨rowX_fr hrow (fun q2 k2 u1 u2 => z1 _ _ (by omega)), txtX_fr htxt (fun q2 k2 u1 u2 => z1 _ _ (by omega)), Eq.trans (z1 _ _ (by omega)) htl, Eq.trans (z1 _ _ (by omega)) hup, Eq.trans (z1 _ _ (by omega)) hlo, fndX_fr hfn (z1 _ _ (by omega)) (fun k2 => z1 _ _ (by omega)), z2, kepX_fr hkp (fun q2 k2 u1 u2 => z1 _ _ (by omega)), rbX_fr hrb (fun q2 k2 u1 => z1 _ _ (by omega))⟩))
      · refine xr_lloadn hc rfl rfl ?_
        refine xr_ldc2 hc rfl ?_
        refine xr_ldiv hc rfl (by first | omega | (unfold dz_w; omega)) ?_
        rw [ed]
        refine xr_iloadn hc rfl rfl ?_
        refine xr_i2l hc rfl ?_
        refine xr_lrem hc rfl (by first | omega | (unfold dz_w; omega)) ?_
        rw [em, ← hI]
        refine xr_l2i hc rfl ?_
        rw [ew]
        refine xr_istore4 hc rfl rfl ?_
        refine xr_aloadn hc rfl rfl ?_
        refine xr_getfr hc rfl rfl (by first | assumption | rfl) (by first | assumption | rfl) ?_
        refine xr_iconst hc rfl ?_
        refine xr_iload hc rfl rfl ?_
        refine xr_iload hc rfl rfl ?_
        refine xr_iconst hc rfl ?_
        refine xr_iaddz hc rfl (by first | exact dz_wid (by first | omega | (unfold dz_w; omega)) (by first | omega | (unfold dz_w; omega)) | rfl) ?_
        refine xr_iloadn hc rfl rfl ?_
        refine xr_irem hc rfl (by first | omega | (unfold dz_w; omega)) ?_
        rw [em2]
        refine xr_callv3 hc rfl (by first | assumption | rfl) rfl rfl rfl (Nat.le_of_ble_eq_true rfl) (Nat.zero_le _) (Nat.zero_le _) ?_
        refine S_doDeed (w := w) (pl := pl) (kd := kd) (wt := wt) (nx := nx) hx c14 hp hdr (by rw [hI]; exact lt_dok p1) (fun u7 => absurd u7 (by omega)) (fun u7 M2 z1 z2 => ?_)
        refine xk_1 ?_
        refine xr_pop hc rfl rfl ?_
        refine xr_return hc rfl rfl (Nat.zero_le _) (Nat.zero_le _) ?_
        first
          | (exfalso; omega)
          | (skip
             have eo : o_lot w pl kd wt nx x (hs n) = if x % 3 ≠ 0 ∧ hs n 3 ≠ -9 then ded pl kd wt nx 0 0 0 (hs n) else ded pl kd wt nx 2 (x / 8 % w) ((x / 8 % w + 1) % w) (hs n) := rfl
             first
               | (rw [if_pos ⟨by omega, by omega⟩] at eo
                  rw [eo] at hQ
                  exact hQ M2 (fun q2 k2 u => z1 q2 k2 (by omega)) ⟨rowX_fr hrow (fun q2 k2 u1 u2 => z1 _ _ (by omega)), txtX_fr htxt (fun q2 k2 u1 u2 => z1 _ _ (by omega)), Eq.trans (z1 _ _ (by omega)) htl, Eq.trans (z1 _ _ (by omega)) hup, Eq.trans (z1 _ _ (by omega)) hlo, fndX_fr hfn (z1 _ _ (by omega)) (fun k2 => z1 _ _ (by omega)), z2, kepX_fr hkp (fun q2 k2 u1 u2 => z1 _ _ (by omega)), rbX_fr hrb (fun q2 k2 u1 => z1 _ _ (by omega))⟩)
               | (rw [if_neg (by omega), ← hI] at eo
                  rw [eo] at hQ
                  exact hQ M2 (fun q2 k2 u => z1 q2 k2 (by omega)) ⟨rowX_fr hrow (fun q2 k2 u1 u2 => z1 _ _ (by omega)), txtX_fr htxt (fun q2 k2 u1 u2 => z1 _ _ (by omega)), Eq.trans (z1 _ _ (by omega)) htl, Eq.trans (z1 _ _ (by omega)) hup, Eq.trans (z1 _ _ (by omega)) hlo, fndX_fr hfn (z1 _ _ (by omega)) (fun k2 => z1 _ _ (by omega)), z2, kepX_fr hkp (fun q2 k2 u1 u2 => z1 _ _ (by omega)), rbX_fr hrb (fun q2 k2 u1 => z1 _ _ (by omega))⟩))
    · refine xr_aloadn hc rfl rfl ?_
      refine xr_getfr hc rfl rfl (by first | assumption | rfl) (by first | assumption | rfl) ?_
      refine xr_iconst hc rfl ?_
      refine xr_iconst hc rfl ?_
      refine xr_iconst hc rfl ?_
      refine xr_callv3 hc rfl (by first | assumption | rfl) rfl rfl rfl (Nat.le_of_ble_eq_true rfl) (Nat.zero_le _) (Nat.zero_le _) ?_
      refine S_doDeed (w := w) (pl := pl) (kd := kd) (wt := wt) (nx := nx) hx c14 hp hdr (Or.inl ⟨rfl, by omega⟩) (fun u7 => absurd u7 (by omega)) (fun u7 M2 z1 z2 => ?_)
      refine xk_1 ?_
      refine xr_pop hc rfl rfl ?_
      refine xr_goto hc rfl (t := 82) rfl ?_
      refine xr_return hc rfl rfl (Nat.zero_le _) (Nat.zero_le _) ?_
      first
        | (exfalso; omega)
        | (skip
           have eo : o_lot w pl kd wt nx x (hs n) = if x % 3 ≠ 0 ∧ hs n 3 ≠ -9 then ded pl kd wt nx 0 0 0 (hs n) else ded pl kd wt nx 2 (x / 8 % w) ((x / 8 % w + 1) % w) (hs n) := rfl
           first
             | (rw [if_pos ⟨by omega, by omega⟩] at eo
                rw [eo] at hQ
                exact hQ M2 (fun q2 k2 u => z1 q2 k2 (by omega)) ⟨rowX_fr hrow (fun q2 k2 u1 u2 => z1 _ _ (by omega)), txtX_fr htxt (fun q2 k2 u1 u2 => z1 _ _ (by omega)), Eq.trans (z1 _ _ (by omega)) htl, Eq.trans (z1 _ _ (by omega)) hup, Eq.trans (z1 _ _ (by omega)) hlo, fndX_fr hfn (z1 _ _ (by omega)) (fun k2 => z1 _ _ (by omega)), z2, kepX_fr hkp (fun q2 k2 u1 u2 => z1 _ _ (by omega)), rbX_fr hrb (fun q2 k2 u1 => z1 _ _ (by omega))⟩)
             | (rw [if_neg (by omega), ← hI] at eo
                rw [eo] at hQ
                exact hQ M2 (fun q2 k2 u => z1 q2 k2 (by omega)) ⟨rowX_fr hrow (fun q2 k2 u1 u2 => z1 _ _ (by omega)), txtX_fr htxt (fun q2 k2 u1 u2 => z1 _ _ (by omega)), Eq.trans (z1 _ _ (by omega)) htl, Eq.trans (z1 _ _ (by omega)) hup, Eq.trans (z1 _ _ (by omega)) hlo, fndX_fr hfn (z1 _ _ (by omega)) (fun k2 => z1 _ _ (by omega)), z2, kepX_fr hkp (fun q2 k2 u1 u2 => z1 _ _ (by omega)), rbX_fr hrb (fun q2 k2 u1 => z1 _ _ (by omega))⟩))
set_option maxRecDepth 100000 in
theorem X_lots {xo : Nat → List Int} {d : Nat} {Q : dz_Q} {sh : List (Nat ⊕ (Nat × Nat))} {rf : Nat → Nat → Nat} {M : Nat → Nat → Int} {rs : Nat → Int} {it : Nat → Nat → Int} {ts : Nat → Int} {ch : Nat → Nat → Int} {tl up lo : Int} {fn : Nat → Int} {w pl : Int} {kd wt nx : Nat → Int} {n : Nat} {hs : Nat → Nat → Int} {kp : Nat → Int} {kh : Nat → Nat → Nat → Int} {m sd : Int} (hx : xo 2 = dz_xs2) (hl : cl sh rf) (hR : RX M rs it ts ch tl up lo fn w pl kd wt nx n hs kp kh) (hW : WF rs it ts ch tl up lo fn w pl kd wt nx n hs kp kh) (hQ : ∀ M2 : Nat → Nat → Int, (∀ q2 k2, 115 ≤ q2 → M2 q2 k2 = M q2 k2) → RX M2 rs it ts ch tl up lo fn w pl kd wt nx (o_lots w pl kd wt nx n hs m sd).2.1 (o_lots w pl kd wt nx n hs m sd).2.2 kp kh → Q (some (dz_i ((o_lots w pl kd wt nx n hs m sd).1))) (sh, rf, M2)) : dz_E dz_pp xo (d + 8) 87 [dz_r 0, dz_i m, dz_i sd] (sh, rf, M) Q := by
  refine ⟨Nat.le_of_ble_eq_true rfl, ?_⟩
  have hc := dz_E_m dz_pp xo (d + 7)
  show dz_X (dz_E dz_pp xo (d + 7)) dz_pp xo (dz_pp 87) Q 0 [some (dz_r 0), some (dz_i m), some (dz_i sd), none, none, none] [] 0 0 (sh, rf, M)
  obtain ⟨c0, c1, c2, c3, c4, c5, c6, c7, c8, c9, c10, c11, c12, c13, c14, c15, c16, c17, c18, c19, c20, c21, c22, c23, c24, c25, c26, c27, c28, c29, c30, c31, c32, c33, c34, c35, c36⟩ := id hl
  obtain ⟨hrow, htxt, htl, hup, hlo, hfn, hdr, hkp, hrb⟩ := id hR
  obtain ⟨wrow, wtxt, wdr, wst, wkp⟩ := id hW
  have n0 : sh[23]? = some (.inl 1) := c14.2.2.2.2.1.1
  have n1 : rf 23 7 = 25 + 1 := c14.2.2.2.2.1.2.2.2.1
  have n2 : sh[25]? = some (.inr (0, 6)) := c14.2.2.2.2.1.2.2.2.2.1
  have n3 : rf 15 1 = 23 + 1 := c14.2.2.2.1
  have n4 : sh[15]? = some (.inl 0) := c14.1
  have n5 : ma_at sh rf 23 := c14.2.2.2.2.1
  have q0 : sh[34]? = some (.inl 1) := c20.1
  have q1 : rf 34 8 = 37 + 1 := c20.2.2.2.2.2.1
  have q2 : sh[37]? = some (.inr (0, 6)) := c20.2.2.2.2.2.2.1
  have q3 : sh[50]? = some (.inl 4) := c26.1
  have hM2 : M 15 2 = (n : Int) := hdr.2.2.1
  refine xr_iloadn hc rfl rfl ?_
  refine xr_iconst hc rfl ?_
  refine xr_bipush hc rfl ?_
  refine xr_calls3 hc rfl (by decide) rfl rfl rfl (Nat.le_of_ble_eq_true rfl) (Nat.zero_le _) (Nat.zero_le _) ?_
  refine S_isWithin (fun u1 v1 => ?_) (fun u1 => ?_)
  · refine xk_1 ?_
    refine xr_iff hc rfl (by simp [dz_cmp]) ?_
    refine xr_iloadn hc rfl rfl ?_
    refine xr_iconst hc rfl ?_
    refine xr_ldcw hc rfl ?_
    refine xr_calls3 hc rfl (by decide) rfl rfl rfl (Nat.le_of_ble_eq_true rfl) (Nat.zero_le _) (Nat.zero_le _) ?_
    refine S_isWithin (fun u2 v2 => ?_) (fun u2 => ?_)
    · refine xk_1 ?_
      refine xr_ift hc rfl (t := 23) rfl (by simp [dz_cmp]) ?_
      refine xr_aloadn hc rfl rfl ?_
      refine xr_callv0 hc rfl (by first | assumption | rfl) rfl rfl rfl (Nat.le_of_ble_eq_true rfl) (Nat.zero_le _) (Nat.zero_le _) ?_
      refine S_hasNoWords hl hR hW (fun hw0 => ?_) (fun hw0 => ?_)
      · refine xk_1 ?_
        refine xr_iff hc rfl (by simp [dz_cmp]) ?_
        refine xr_bipush hc rfl ?_
        refine xr_ireturn hc rfl rfl (Nat.zero_le _) (Nat.zero_le _) ?_
        simp only [o_lots] at hQ
        repeat (first | rw [if_pos (by omega)] at hQ | rw [if_neg (by omega)] at hQ)
        try dsimp only at hQ
        exact hQ M (fun _ _ _ => rfl) hR
      · refine xk_1 ?_
        refine xr_ift hc rfl (t := 33) rfl (by simp [dz_cmp]) ?_
        refine xr_aloadn hc rfl rfl ?_
        refine xr_getfr hc rfl rfl (by first | assumption | rfl) (by first | assumption | rfl) ?_
        refine xr_getfi hc rfl (Or.inl rfl) (by first | assumption | rfl) ?_
        rw [hM2]
        refine xr_iloadn hc rfl rfl ?_
        refine xr_iaddz hc rfl (by first | exact dz_wid (by first | omega | (unfold dz_w; omega)) (by first | omega | (unfold dz_w; omega)) | rfl) ?_
        refine xr_bipush hc rfl ?_
        refine xr_icmp_le hc rfl (t := 50) rfl (fun b44 => ?_) (fun b44 => ?_)
        · have lp : ∀ (m_ : Nat) (k : Nat) (x : Int) (nn : Nat) (hh : Nat → Nat → Int) (N : Nat → Nat → Int), (k : Int) + m_ = m → 0 ≤ x ∧ x < 2147483647 → (∀ q2 k2, 115 ≤ q2 → N q2 k2 = M q2 k2) → RX N rs it ts ch tl up lo fn w pl kd wt nx nn hh kp kh → WF rs it ts ch tl up lo fn w pl kd wt nx nn hh kp kh → nn + m_ = n + m.toNat → o_lf w pl kd wt nx m.toNat sd n hs = o_lf w pl kd wt nx m_ x nn hh → dz_X (dz_E dz_pp xo (d + 7)) dz_pp xo (dz_pp 87) Q 56 [some (dz_r 0), some (dz_i m), some (dz_i sd), some (dz_l x), none, some (dz_i (k : Int))] [] 0 0 (sh, rf, N) := by
            intro m_
            induction m_ with
            | zero =>
              intro k x nn hh N hk hx0 h1 h2 h3 h4 h5
              have en : nn = n + m.toNat := by omega
              have eh : o_lf w pl kd wt nx m.toNat sd n hs = hh := h5
              have b1 : N 23 2 = hh nn 1 := h2.2.2.2.2.2.2.1.2.1.2.2.1
              subst en
              refine xr_iload hc rfl rfl ?_
              refine xr_iloadn hc rfl rfl ?_
              refine xr_icmp_ge hc rfl (t := 83) rfl (fun b59 => ?_) (fun b59 => ?_)
              · refine xr_aloadn hc rfl rfl ?_
                refine xr_getfr hc rfl rfl (by first | assumption | rfl) (by first | assumption | rfl) ?_
                refine xr_getfr hc rfl rfl (by first | assumption | rfl) (by first | assumption | rfl) ?_
                refine xr_getfi hc rfl (Or.inl rfl) (by first | assumption | rfl) ?_
                rw [b1]
                refine xr_ireturn hc rfl rfl (Nat.zero_le _) (Nat.zero_le _) ?_
                simp only [o_lots] at hQ
                rw [if_neg (by omega), if_neg hw0, if_neg (by omega), eh] at hQ
                exact hQ N h1 h2
              · omega
            | succ m_ ih =>
              intro k x nn hh N hk hx0 h1 h2 h3 h4 h5
              have hp := WF_p hW hw0
              have hst := h3.2.2.2.1.2 nn (Nat.le_refl nn)
              have hln := lt_in hx0
              have e1 : dz_W (48271 * x) = 48271 * x := dz_W_id ⟨by omega, by omega⟩
              have e2 : Int.tmod (48271 * x) 2147483647 = lt_n x := Int.tmod_eq_emod_of_nonneg (by omega)
              refine xr_iload hc rfl rfl ?_
              refine xr_iloadn hc rfl rfl ?_
              refine xr_icmp_ge hc rfl (t := 83) rfl (fun b59 => ?_) (fun b59 => ?_)
              · omega
              · refine xr_ldc2 hc rfl ?_
                refine xr_lloadn hc rfl rfl ?_
                refine xr_lmul hc rfl ?_
                rw [e1]
                refine xr_ldc2 hc rfl ?_
                refine xr_lrem hc rfl (by first | omega | (unfold dz_w; omega)) ?_
                rw [e2]
                refine xr_lstore3 hc rfl rfl ?_
                refine xr_aloadn hc rfl rfl ?_
                refine xr_lloadn hc rfl rfl ?_
                refine xr_callv1 hc rfl (by first | assumption | rfl) rfl rfl rfl (Nat.le_of_ble_eq_true rfl) (Nat.zero_le _) (Nat.zero_le _) ?_
                refine S_doLot hx hl h2 h3 hw0 (by omega) hln (fun N2 g1 g2 => ?_)
                refine xk_0 ?_
                refine xr_iincz5 hc rfl rfl (by first | exact dz_wid (by first | omega | (unfold dz_w; omega)) (by first | omega | (unfold dz_w; omega)) | rfl) ?_
                refine xr_goto hc rfl (t := 56) rfl ?_
                exact ih (k + 1) _ (nn + 1) _ N2 (by omega) hln (fun q2 k2 u => by rw [g1 _ _ u, h1 _ _ u]) g2 (WF_deed h3 hw0 (by omega) (by have z := lot_ok (x := lt_n x) hp hst (by omega); exact stok_up z (by omega) (by omega))) (by omega) h5
          refine xr_iloadn hc rfl rfl ?_
          refine xr_i2l hc rfl ?_
          refine xr_lstore3 hc rfl rfl ?_
          refine xr_iconst hc rfl ?_
          refine xr_istore5 hc rfl rfl ?_
          exact lp m.toNat 0 sd n hs M (by omega) (by omega) (fun _ _ _ => rfl) hR hW (by omega) rfl
        · refine xr_bipush hc rfl ?_
          refine xr_ireturn hc rfl rfl (Nat.zero_le _) (Nat.zero_le _) ?_
          simp only [o_lots] at hQ
          repeat (first | rw [if_pos (by omega)] at hQ | rw [if_neg (by omega)] at hQ)
          try dsimp only at hQ
          exact hQ M (fun _ _ _ => rfl) hR
    · refine xk_1 ?_
      refine xr_iff hc rfl (by simp [dz_cmp]) ?_
      refine xr_iconst hc rfl ?_
      refine xr_ireturn hc rfl rfl (Nat.zero_le _) (Nat.zero_le _) ?_
      simp only [o_lots] at hQ
      repeat (first | rw [if_pos (by omega)] at hQ | rw [if_neg (by omega)] at hQ)
      try dsimp only at hQ
      exact hQ M (fun _ _ _ => rfl) hR
  · refine xk_1 ?_
    refine xr_ift hc rfl (t := 21) rfl (by simp [dz_cmp]) ?_
    refine xr_iconst hc rfl ?_
    refine xr_ireturn hc rfl rfl (Nat.zero_le _) (Nat.zero_le _) ?_
    simp only [o_lots] at hQ
    repeat (first | rw [if_pos (by omega)] at hQ | rw [if_neg (by omega)] at hQ)
    try dsimp only at hQ
    exact hQ M (fun _ _ _ => rfl) hR
set_option maxRecDepth 100000 in
theorem D_lots {xo : Nat → List Int} {d : Nat} {Q : dz_Q} {sh : List (Nat ⊕ (Nat × Nat))} {rf : Nat → Nat → Nat} {M : Nat → Nat → Int} {rs : Nat → Int} {it : Nat → Nat → Int} {ts : Nat → Int} {ch : Nat → Nat → Int} {tl up lo : Int} {fn : Nat → Int} {w pl : Int} {kd wt nx : Nat → Int} {n : Nat} {hs : Nat → Nat → Int} {kp : Nat → Int} {kh : Nat → Nat → Nat → Int} {m sd : Int} (hl : ml sh rf) (hR : RM M rs it ts ch tl up lo fn w pl kd wt nx n hs kp kh) (hW : WF rs it ts ch tl up lo fn w pl kd wt nx n hs kp kh) (hQ : ∀ M2 : Nat → Nat → Int, (∀ q2 k2, q2 < 115 → M2 q2 k2 = M q2 k2) → RM M2 rs it ts ch tl up lo fn w pl kd wt nx (o_lots w pl kd wt nx n hs m sd).2.1 (o_lots w pl kd wt nx n hs m sd).2.2 kp kh → Q (some (dz_i ((o_lots w pl kd wt nx n hs m sd).1))) (sh, rf, M2)) : dz_E dz_pp xo (d + 4) 203 [dz_r 115, dz_i m, dz_i sd] (sh, rf, M) Q := by
  refine ⟨Nat.le_of_ble_eq_true rfl, ?_⟩
  have hc := dz_E_m dz_pp xo (d + 3)
  show dz_X (dz_E dz_pp xo (d + 3)) dz_pp xo (dz_pp 203) Q 0 [some (dz_r 115), some (dz_i m), some (dz_i sd), none, none, none, none] [] 0 0 (sh, rf, M)
  obtain ⟨c0, c1, c2, c3, c4, c5, c6, c7, c8, c9, c10, c11, c12, c13, c14, c15, c16, c17, c18, c19, c20, c21, c22, c23, c24, c25, c26, c27, c28, c29⟩ := id hl
  obtain ⟨hrow, htxt, htl, hup, hlo, hfn, hdr, hkp⟩ := id hR
  obtain ⟨wrow, wtxt, wdr, wst, wkp⟩ := id hW
  have hw6 := WF_w hW
  have hdr3 : drM M w pl kd wt nx n hs ∧ w ≤ 6 ∧ n ≤ 40 := ⟨hdr, hw6.2, wst.1⟩
  have hkp3 : kepM M w kp kh ∧ w ≤ 6 ∧ ∀ k, k < 3 → kp k ≤ 40 := ⟨hkp, hw6.2, fun k hk => by
    rcases wkp k hk with z | z
    · omega
    · exact z.2.1⟩
  obtain ⟨a1, a2, a3, b1, b2, b3⟩ := id hdr
  have hpg : pgM M w pl kd wt nx := ⟨a1, a2, a3⟩
  have b2c : ∀ c, okc w c → M 116 c = hs n c := fun c hc => by
    have h3 := b2 c hc
    rw [Nat.zero_add] at h3
    exact h3
  clear hup
  have t0 : Int.toNat 0 = 0 := rfl
  have t1 : Int.toNat 1 = 1 := rfl
  have t3 : Int.toNat 3 = 3 := rfl
  refine xr_iloadn hc rfl rfl ?_
  refine xr_i2l hc rfl ?_
  refine xr_lconst hc rfl ?_
  refine xr_ldc2 hc rfl ?_
  refine xr_calls3 hc rfl (by decide) rfl rfl rfl (Nat.le_of_ble_eq_true rfl) (Nat.zero_le _) (Nat.zero_le _) ?_
  refine S_in (fun u1 v1 => ?_) (fun u1 => ?_)
  · refine xk_1 ?_
    refine xr_iff hc rfl (by simp [dz_cmp]) ?_
    refine xr_iloadn hc rfl rfl ?_
    refine xr_i2l hc rfl ?_
    refine xr_lconst hc rfl ?_
    refine xr_ldc2 hc rfl ?_
    refine xr_calls3 hc rfl (by decide) rfl rfl rfl (Nat.le_of_ble_eq_true rfl) (Nat.zero_le _) (Nat.zero_le _) ?_
    refine S_in (fun u2 v2 => ?_) (fun u2 => ?_)
    · refine xk_1 ?_
      refine xr_ift hc rfl (t := 26) rfl (by simp [dz_cmp]) ?_
      refine xr_aloadn hc rfl rfl ?_
      refine xr_getfi hc rfl (Or.inl rfl) (by first | assumption | rfl) ?_
      rw [a1]
      refine xr_if_ne hc rfl (t := 36) rfl (fun b30 => ?_) (fun b30 => ?_)
      · refine xr_aloadn hc rfl rfl ?_
        refine xr_getfr hc rfl rfl (by first | assumption | rfl) (by first | assumption | rfl) ?_
        refine xr_iconst hc rfl ?_
        first | refine xr_iaload hc rfl (by first | assumption | rfl) (by first | omega | (unfold dz_w; omega)) (by first | omega | (unfold dz_w; omega)) ?_ | refine xr_ialoado hc rfl (by first | omega | (unfold dz_w; omega)) (by first | omega | (unfold dz_w; omega)) ?_
        rw [t0, b1]
        refine xr_iloadn hc rfl rfl ?_
        refine xr_iaddz hc rfl (by first | exact dz_wid (by first | omega | (unfold dz_w; omega)) (by first | omega | (unfold dz_w; omega)) | rfl) ?_
        refine xr_bipush hc rfl ?_
        refine xr_icmp_le hc rfl (t := 52) rfl (fun b46 => ?_) (fun b46 => ?_)
        · have hw0 : w ≠ 0 := by omega
          have lp : ∀ (m_ : Nat) (k : Nat) (y : Int) (nn : Nat) (hh : Nat → Nat → Int) (N : Nat → Nat → Int) (e : Option dz_V), (k : Int) + m_ = m → 0 ≤ y ∧ y < 2147483647 → (∀ q2 k2, q2 < 115 → N q2 k2 = M q2 k2) → RM N rs it ts ch tl up lo fn w pl kd wt nx nn hh kp kh → WF rs it ts ch tl up lo fn w pl kd wt nx nn hh kp kh → nn + m_ = n + m.toNat → o_lf w pl kd wt nx m.toNat sd n hs = o_lf w pl kd wt nx m_ y nn hh → N 115 23 = 0 → dz_X (dz_E dz_pp xo (d + 3)) dz_pp xo (dz_pp 203) Q 63 [some (dz_r 115), some (dz_i m), some (dz_i sd), some (dz_l y), none, some (dz_i (k : Int)), e] [] 0 0 (sh, rf, N) := by
            intro m_
            induction m_ with
            | zero =>
              intro k y nn hh N e hk hx0 h1 h2 h3 h4 h5 h6
              have en : nn = n + m.toNat := by omega
              have eh : o_lf w pl kd wt nx m.toNat sd n hs = hh := h5
              have b1 : N 116 1 = hh nn 1 := by
                have z := h2.2.2.2.2.2.2.1.2.2.2.2.1 1 (by unfold okc; omega)
                rw [Nat.zero_add] at z
                exact z
              subst en
              refine xr_iload hc rfl rfl ?_
              refine xr_iloadn hc rfl rfl ?_
              refine xr_icmp_ge hc rfl (t := 148) rfl (fun b66 => ?_) (fun b66 => ?_)
              · refine xr_aloadn hc rfl rfl ?_
                refine xr_getfr hc rfl rfl (by first | assumption | rfl) (by first | assumption | rfl) ?_
                refine xr_iconst hc rfl ?_
                first | refine xr_iaload hc rfl (by first | assumption | rfl) (by first | omega | (unfold dz_w; omega)) (by first | omega | (unfold dz_w; omega)) ?_ | refine xr_ialoado hc rfl (by first | omega | (unfold dz_w; omega)) (by first | omega | (unfold dz_w; omega)) ?_
                rw [t1, b1]
                refine xr_ireturn hc rfl rfl (Nat.zero_le _) (Nat.zero_le _) ?_
                simp only [o_lots] at hQ
                rw [if_neg (by omega), if_neg hw0, if_neg (by omega), eh] at hQ
                exact hQ N h1 h2
              · omega
            | succ m_ ih =>
              intro k y nn hh N e hk hx0 h1 h2 h3 h4 h5 h6
              have hp := WF_p hW hw0
              obtain ⟨p1, p2, p3, p4, p5⟩ := id hp
              have hst := h3.2.2.2.1.2 nn (Nat.le_refl nn)
              have hln := lt_in hx0
              have e1 : dz_W (y * 48271) = 48271 * y := by rw [show y * 48271 = 48271 * y by omega]; exact dz_W_id ⟨by omega, by omega⟩
              have e2 : Int.tmod (48271 * y) 2147483647 = lt_n y := Int.tmod_eq_emod_of_nonneg (by omega)
              obtain ⟨x, hxx⟩ : ∃ x, x = lt_n y := ⟨_, rfl⟩
              rw [← hxx] at e2 hln
              have hw2 : 2 ≤ w ∧ w ≤ 6 := ⟨p1, p2⟩
              have ed : dz_W (Int.tdiv x 8) = x / 8 := by
                rw [Int.tdiv_eq_ediv_of_nonneg (by omega)]
                exact dz_W_id ⟨by omega, by omega⟩
              have em : Int.tmod (x / 8) w = x / 8 % w := Int.tmod_eq_emod_of_nonneg (by omega)
              obtain ⟨I, hI⟩ : ∃ I, I = x / 8 % w := ⟨_, rfl⟩
              have hI0 : 0 ≤ I := by rw [hI]; exact Int.emod_nonneg _ (by omega)
              have hI1 : I < w := by rw [hI]; exact Int.emod_lt_of_pos _ (by omega)
              have em2 : Int.tmod (I + 1) w = (I + 1) % w := Int.tmod_eq_emod_of_nonneg (by omega)
              have hJ0 : 0 ≤ (I + 1) % w := Int.emod_nonneg _ (by omega)
              have hJ1 : (I + 1) % w < w := Int.emod_lt_of_pos _ (by omega)
              have e3 : Int.tmod x 3 = x % 3 := Int.tmod_eq_emod_of_nonneg (by omega)
              have hlc := lcmp_0 (x % 3) 0
              have hlc2 : (dz_lcmp (x % 3) ((0 : Fin 2).val : Int) = 0 ↔ x % 3 = 0) := hlc.2.2
              have ew : dz_w I = I := dz_wid (by omega) (by omega)
              obtain ⟨a1, a2, a3, b1, b2, b3⟩ := id h2.2.2.2.2.2.2.1
              have h5b : o_lf w pl kd wt nx m.toNat sd n hs = o_lf w pl kd wt nx m_ x (nn + 1) (hup hh nn (o_lot w pl kd wt nx x (hh nn))) := by rw [hxx]; exact h5
              have hWn := WF_deed h3 hw0 (by omega) (show stok w pl (29 * (nn + 1 : Nat)) (o_lot w pl kd wt nx x (hh nn)) from stok_up (lot_ok (x := x) hp hst (by omega)) (by omega) (by omega))
              obtain ⟨oo, hoo⟩ : ∃ oo, oo = o_lot w pl kd wt nx x (hh nn) := ⟨_, rfl⟩
              rw [← hoo] at hWn h5b
              unfold o_lot at hoo
              have y3 : N 116 3 = hh nn 3 := by
                have z := b2 3 (by unfold okc; omega)
                rw [Nat.zero_add] at z
                exact z
              refine xr_iload hc rfl rfl ?_
              refine xr_iloadn hc rfl rfl ?_
              refine xr_icmp_ge hc rfl (t := 148) rfl (fun b66 => ?_) (fun b66 => ?_)
              · omega
              · refine xr_lloadn hc rfl rfl ?_
                refine xr_ldc2 hc rfl ?_
                refine xr_lmul hc rfl ?_
                rw [e1]
                refine xr_ldc2 hc rfl ?_
                refine xr_lrem hc rfl (by first | omega | (unfold dz_w; omega)) ?_
                rw [e2]
                refine xr_lstore3 hc rfl rfl ?_
                refine xr_lloadn hc rfl rfl ?_
                refine xr_ldc2 hc rfl ?_
                refine xr_ldiv hc rfl (by first | omega | (unfold dz_w; omega)) ?_
                rw [ed]
                refine xr_aloadn hc rfl rfl ?_
                refine xr_getfi hc rfl (Or.inl rfl) (by first | assumption | rfl) ?_
                rw [a1]
                refine xr_i2l hc rfl ?_
                refine xr_lrem hc rfl (by first | omega | (unfold dz_w; omega)) ?_
                rw [em, ← hI]
                refine xr_l2i hc rfl ?_
                rw [ew]
                refine xr_istore6 hc rfl rfl ?_
                refine xr_aloadn hc rfl rfl ?_
                refine xr_callv0 hc rfl (by first | assumption | rfl) rfl rfl rfl (Nat.le_of_ble_eq_true rfl) (Nat.zero_le _) (Nat.zero_le _) ?_
                refine D_keepPast (n := nn) hl (by omega) b1 (fun N1 f1 f2 f3 => ?_)
                have pr1 : prel N1 0 w (hh nn) := prel_fr (by omega) b2 (fun k u v => f1 _ _ (by omega))
                have pg1 : pgM N1 w pl kd wt nx := ⟨by rw [f1 _ _ (by omega)]; exact a1, by rw [f1 _ _ (by omega)]; exact a2, fun i hi => by rw [f1 _ _ (by omega), f1 _ _ (by omega), f1 _ _ (by omega)]; exact a3 i hi⟩
                refine xk_0 ?_
                refine xr_lloadn hc rfl rfl ?_
                refine xr_ldc2 hc rfl ?_
                refine xr_lrem hc rfl (by first | omega | (unfold dz_w; omega)) ?_
                rw [e3]
                refine xr_lconst hc rfl ?_
                refine xr_lcmp hc rfl ?_
                refine xr_if_eq hc rfl (t := 118) rfl (fun b104 => ?_) (fun b104 => ?_)
                · refine xr_aloadn hc rfl rfl ?_
                  refine xr_iconst hc rfl ?_
                  refine xr_iload hc rfl rfl ?_
                  refine xr_iload hc rfl rfl ?_
                  refine xr_iconst hc rfl ?_
                  refine xr_iaddz hc rfl (by first | exact dz_wid (by first | omega | (unfold dz_w; omega)) (by first | omega | (unfold dz_w; omega)) | rfl) ?_
                  refine xr_aloadn hc rfl rfl ?_
                  refine xr_getfi hc rfl (Or.inl rfl) (by first | assumption | rfl) ?_
                  rw [f1 _ _ (by omega), a1]
                  refine xr_irem hc rfl (by first | omega | (unfold dz_w; omega)) ?_
                  rw [em2]
                  refine xr_callv3 hc rfl (by first | assumption | rfl) rfl rfl rfl (Nat.le_of_ble_eq_true rfl) (Nat.zero_le _) (Nat.zero_le _) ?_
                  refine D_swaps (b := 0) hl (by omega) (by omega) (by omega) (fun N2 z1 z2 => ?_)
                  refine xk_0 ?_
                  refine xr_goto hc rfl (t := 142) rfl ?_
                  refine xr_iincz5 hc rfl rfl (by first | exact dz_wid (by first | omega | (unfold dz_w; omega)) (by first | omega | (unfold dz_w; omega)) | rfl) ?_
                  refine xr_goto hc rfl (t := 63) rfl ?_
                  first
                    | (rw [if_pos ⟨by omega, by omega⟩] at hoo
                       have hs2 : oo = stp pl kd wt nx (hh nn) := by rw [hoo]; unfold ded; rw [if_pos rfl]
                       rw [← hs2] at z2
                       refine ih (k + 1) _ (nn + 1) _ N2 _ (by omega) hln (fun q2 k2 u => by rw [z1 _ _ (by omega) (by omega), f1 _ _ (by omega), h1 _ _ u]) (RM_deed h2 h3 (by omega) (fun q2 k2 u1 u2 => ?_) ?_ (fun c u1 u2 => ?_) z2) hWn (by omega) h5b (by rw [z1 _ _ (by omega) (by omega), f1 _ _ (by omega)]; exact h6)
                       · rw [z1 _ _ (by omega) (by omega), f1 _ _ (by omega)]
                       · rw [z1 _ _ (by omega) (by omega), f2]
                       · rw [z1 _ _ (by omega) (by omega), f3 c u1 u2])
                    | (rw [if_neg (by omega), ← hI] at hoo
                       have hs2 : oo = sw (hh nn) I.toNat ((I + 1) % w).toNat := by rw [hoo]; unfold ded; rw [if_neg (by omega), if_neg (by omega), if_pos rfl]
                       have pr2 := prel_sw (i := I.toNat) (j := ((I + 1) % w).toNat) (by omega) (by omega) pr1 z2
                       rw [← hs2] at pr2
                       have zz : ∀ k2, k2 < 5 ∨ 11 ≤ k2 → N2 116 k2 = N1 116 k2 := fun k2 u1 => by rw [z2, if_neg (by omega), if_neg (by omega)]
                       refine ih (k + 1) _ (nn + 1) _ N2 _ (by omega) hln (fun q2 k2 u => by rw [z1 _ _ (by omega), f1 _ _ (by omega), h1 _ _ u]) (RM_deed h2 h3 (by omega) (fun q2 k2 u1 u2 => ?_) ?_ (fun c u1 u2 => ?_) pr2) hWn (by omega) h5b (by rw [z1 _ _ (by omega), f1 _ _ (by omega)]; exact h6)
                       · by_cases e : q2 = 116
                         · subst e
                           rw [zz _ (by omega), f1 _ _ (by omega)]
                         · rw [z1 _ _ e, f1 _ _ (by omega)]
                       · rw [zz _ (by omega), f2]
                       · rw [zz _ (by omega), f3 c u1 u2])
                · refine xr_aloadn hc rfl rfl ?_
                  refine xr_getfr hc rfl rfl (by first | assumption | rfl) (by first | assumption | rfl) ?_
                  refine xr_iconst hc rfl ?_
                  first | refine xr_iaload hc rfl (by first | assumption | rfl) (by first | omega | (unfold dz_w; omega)) (by first | omega | (unfold dz_w; omega)) ?_ | refine xr_ialoado hc rfl (by first | omega | (unfold dz_w; omega)) (by first | omega | (unfold dz_w; omega)) ?_
                  rw [t3, f1 _ _ (by omega), y3]
                  refine xr_bipush hc rfl ?_
                  refine xr_icmp_ne hc rfl (t := 137) rfl (fun b115 => ?_) (fun b115 => ?_)
                  · refine xr_aloadn hc rfl rfl ?_
                    refine xr_iconst hc rfl ?_
                    refine xr_callv1 hc rfl (by first | assumption | rfl) rfl rfl rfl (Nat.le_of_ble_eq_true rfl) (Nat.zero_le _) (Nat.zero_le _) ?_
                    refine D_goes (b := 0) (pl := pl) (kd := kd) (wt := wt) (nx := nx) (w := w) (s := hh nn) hl (by omega) pg1 hp hst (by omega) pr1 (by rw [f1 _ _ (by omega)]; exact h6) (by omega) (fun N2 z1 z2 z3 => ?_)
                    refine xk_0 ?_
                    refine xr_iincz5 hc rfl rfl (by first | exact dz_wid (by first | omega | (unfold dz_w; omega)) (by first | omega | (unfold dz_w; omega)) | rfl) ?_
                    refine xr_goto hc rfl (t := 63) rfl ?_
                    first
                      | (rw [if_pos ⟨by omega, by omega⟩] at hoo
                         have hs2 : oo = stp pl kd wt nx (hh nn) := by rw [hoo]; unfold ded; rw [if_pos rfl]
                         rw [← hs2] at z2
                         refine ih (k + 1) _ (nn + 1) _ N2 _ (by omega) hln (fun q2 k2 u => by rw [z1 _ _ (by omega) (by omega), f1 _ _ (by omega), h1 _ _ u]) (RM_deed h2 h3 (by omega) (fun q2 k2 u1 u2 => ?_) ?_ (fun c u1 u2 => ?_) z2) hWn (by omega) h5b (by rw [z1 _ _ (by omega) (by omega), f1 _ _ (by omega)]; exact h6)
                         · rw [z1 _ _ (by omega) (by omega), f1 _ _ (by omega)]
                         · rw [z1 _ _ (by omega) (by omega), f2]
                         · rw [z1 _ _ (by omega) (by omega), f3 c u1 u2])
                      | (rw [if_neg (by omega), ← hI] at hoo
                         have hs2 : oo = sw (hh nn) I.toNat ((I + 1) % w).toNat := by rw [hoo]; unfold ded; rw [if_neg (by omega), if_neg (by omega), if_pos rfl]
                         have pr2 := prel_sw (i := I.toNat) (j := ((I + 1) % w).toNat) (by omega) (by omega) pr1 z2
                         rw [← hs2] at pr2
                         have zz : ∀ k2, k2 < 5 ∨ 11 ≤ k2 → N2 116 k2 = N1 116 k2 := fun k2 u1 => by rw [z2, if_neg (by omega), if_neg (by omega)]
                         refine ih (k + 1) _ (nn + 1) _ N2 _ (by omega) hln (fun q2 k2 u => by rw [z1 _ _ (by omega), f1 _ _ (by omega), h1 _ _ u]) (RM_deed h2 h3 (by omega) (fun q2 k2 u1 u2 => ?_) ?_ (fun c u1 u2 => ?_) pr2) hWn (by omega) h5b (by rw [z1 _ _ (by omega), f1 _ _ (by omega)]; exact h6)
                         · by_cases e : q2 = 116
                           · subst e
                             rw [zz _ (by omega), f1 _ _ (by omega)]
                           · rw [z1 _ _ e, f1 _ _ (by omega)]
                         · rw [zz _ (by omega), f2]
                         · rw [zz _ (by omega), f3 c u1 u2])
                  · refine xr_aloadn hc rfl rfl ?_
                    refine xr_iconst hc rfl ?_
                    refine xr_iload hc rfl rfl ?_
                    refine xr_iload hc rfl rfl ?_
                    refine xr_iconst hc rfl ?_
                    refine xr_iaddz hc rfl (by first | exact dz_wid (by first | omega | (unfold dz_w; omega)) (by first | omega | (unfold dz_w; omega)) | rfl) ?_
                    refine xr_aloadn hc rfl rfl ?_
                    refine xr_getfi hc rfl (Or.inl rfl) (by first | assumption | rfl) ?_
                    rw [f1 _ _ (by omega), a1]
                    refine xr_irem hc rfl (by first | omega | (unfold dz_w; omega)) ?_
                    rw [em2]
                    refine xr_callv3 hc rfl (by first | assumption | rfl) rfl rfl rfl (Nat.le_of_ble_eq_true rfl) (Nat.zero_le _) (Nat.zero_le _) ?_
                    refine D_swaps (b := 0) hl (by omega) (by omega) (by omega) (fun N2 z1 z2 => ?_)
                    refine xk_0 ?_
                    refine xr_goto hc rfl (t := 142) rfl ?_
                    refine xr_iincz5 hc rfl rfl (by first | exact dz_wid (by first | omega | (unfold dz_w; omega)) (by first | omega | (unfold dz_w; omega)) | rfl) ?_
                    refine xr_goto hc rfl (t := 63) rfl ?_
                    first
                      | (rw [if_pos ⟨by omega, by omega⟩] at hoo
                         have hs2 : oo = stp pl kd wt nx (hh nn) := by rw [hoo]; unfold ded; rw [if_pos rfl]
                         rw [← hs2] at z2
                         refine ih (k + 1) _ (nn + 1) _ N2 _ (by omega) hln (fun q2 k2 u => by rw [z1 _ _ (by omega) (by omega), f1 _ _ (by omega), h1 _ _ u]) (RM_deed h2 h3 (by omega) (fun q2 k2 u1 u2 => ?_) ?_ (fun c u1 u2 => ?_) z2) hWn (by omega) h5b (by rw [z1 _ _ (by omega) (by omega), f1 _ _ (by omega)]; exact h6)
                         · rw [z1 _ _ (by omega) (by omega), f1 _ _ (by omega)]
                         · rw [z1 _ _ (by omega) (by omega), f2]
                         · rw [z1 _ _ (by omega) (by omega), f3 c u1 u2])
                      | (rw [if_neg (by omega), ← hI] at hoo
                         have hs2 : oo = sw (hh nn) I.toNat ((I + 1) % w).toNat := by rw [hoo]; unfold ded; rw [if_neg (by omega), if_neg (by omega), if_pos rfl]
                         have pr2 := prel_sw (i := I.toNat) (j := ((I + 1) % w).toNat) (by omega) (by omega) pr1 z2
                         rw [← hs2] at pr2
                         have zz : ∀ k2, k2 < 5 ∨ 11 ≤ k2 → N2 116 k2 = N1 116 k2 := fun k2 u1 => by rw [z2, if_neg (by omega), if_neg (by omega)]
                         refine ih (k + 1) _ (nn + 1) _ N2 _ (by omega) hln (fun q2 k2 u => by rw [z1 _ _ (by omega), f1 _ _ (by omega), h1 _ _ u]) (RM_deed h2 h3 (by omega) (fun q2 k2 u1 u2 => ?_) ?_ (fun c u1 u2 => ?_) pr2) hWn (by omega) h5b (by rw [z1 _ _ (by omega), f1 _ _ (by omega)]; exact h6)
                         · by_cases e : q2 = 116
                           · subst e
                             rw [zz _ (by omega), f1 _ _ (by omega)]
                           · rw [z1 _ _ e, f1 _ _ (by omega)]
                         · rw [zz _ (by omega), f2]
                         · rw [zz _ (by omega), f3 c u1 u2])
          refine xr_aloadn hc rfl rfl ?_
          refine xr_iconst hc rfl ?_
          refine xr_putfz hc rfl rfl (by first | assumption | rfl) (by first | exact Or.inl rfl | exact Or.inr rfl | assumption) ?_
          refine xr_iloadn hc rfl rfl ?_
          refine xr_i2l hc rfl ?_
          refine xr_lstore3 hc rfl rfl ?_
          refine xr_iconst hc rfl ?_
          refine xr_istore5 hc rfl rfl ?_
          have tf : tfr M (dz_up M 115 23 0) := fun q2 k2 u1 u2 => by
            by_cases e : q2 = 115
            · subst e
              rw [dz_up_k (by omega)]
            · rw [dz_up_ne e]
          exact lp m.toNat 0 sd n hs _ none (by omega) (by omega) (tfr_x tf) (RM_scr hR hW (tfr_scr tf)) hW (by omega) rfl (dz_up_eq _ _ _ _)
        · refine xr_bipush hc rfl ?_
          refine xr_ireturn hc rfl rfl (Nat.zero_le _) (Nat.zero_le _) ?_
          simp only [o_lots] at hQ
          repeat (first | rw [if_pos (by omega)] at hQ | rw [if_neg (by omega)] at hQ)
          try dsimp only at hQ
          exact hQ M (fun _ _ _ => rfl) hR
      · refine xr_bipush hc rfl ?_
        refine xr_ireturn hc rfl rfl (Nat.zero_le _) (Nat.zero_le _) ?_
        simp only [o_lots] at hQ
        repeat (first | rw [if_pos (by omega)] at hQ | rw [if_neg (by omega)] at hQ)
        try dsimp only at hQ
        exact hQ M (fun _ _ _ => rfl) hR
    · refine xk_1 ?_
      refine xr_iff hc rfl (by simp [dz_cmp]) ?_
      refine xr_iconst hc rfl ?_
      refine xr_ireturn hc rfl rfl (Nat.zero_le _) (Nat.zero_le _) ?_
      simp only [o_lots] at hQ
      repeat (first | rw [if_pos (by omega)] at hQ | rw [if_neg (by omega)] at hQ)
      try dsimp only at hQ
      exact hQ M (fun _ _ _ => rfl) hR
  · refine xk_1 ?_
    refine xr_ift hc rfl (t := 24) rfl (by simp [dz_cmp]) ?_
    refine xr_iconst hc rfl ?_
    refine xr_ireturn hc rfl rfl (Nat.zero_le _) (Nat.zero_le _) ?_
    simp only [o_lots] at hQ
    repeat (first | rw [if_pos (by omega)] at hQ | rw [if_neg (by omega)] at hQ)
    try dsimp only at hQ
    exact hQ M (fun _ _ _ => rfl) hR
