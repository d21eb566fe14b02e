/-! The other one: where to put a word, which two to change round. Written by l2_51.py. -/
theorem D_mly {xo : Nat → List Int} {d : Nat} {Q : dz_Q} {sh : List (Nat ⊕ (Nat × Nat))} {rf : Nat → Nat → Nat} {M : Nat → Nat → Int} {rs : Nat → Int} {it : Nat → Nat → Int} {ts : Nat → Int} {ch : Nat → Nat → Int} {tl up lo : Int} {fn : Nat → Int} {w pl : Int} {kd wt nx : Nat → Int} {n : Nat} {hs : Nat → Nat → Int} {kp : Nat → Int} {kh : Nat → Nat → Nat → Int} {i p : Int} (hl : ml sh rf) (hR : RM M rs it ts ch tl up lo fn w pl kd wt nx n hs kp kh) (hW : WF rs it ts ch tl up lo fn w pl kd wt nx n hs kp kh) (hi : 0 ≤ i ∧ i < w) (h1 : mly (hs n) w i.toNat p → Q (some (dz_i 1)) (sh, rf, M)) (h2 : ¬ mly (hs n) w i.toNat p → Q (some (dz_i 0)) (sh, rf, M)) : dz_E dz_pp xo (d + 2) 178 [dz_r 115, dz_i i, dz_i p] (sh, rf, M) Q := by
  have hw6 := WF_w hW
  refine D_mayLie hl hR hW hi (fun z => h1 ?_) (fun z => h2 (fun y => z ?_))
  · rw [← ly_free hw6.1] at z
    exact z
  · rw [← ly_free hw6.1]
    exact y
theorem t_pb_le {pl : Int} {kd wt nx : Nat → Int} {w : Int} {s : Nat → Int} {i m : Nat} {top : Int} : ∀ P : Nat, (t_pb pl kd wt nx w s i m top P).2 ≤ top
  | 0 => Int.le_refl _
  | P + 1 => by
    have ih := t_pb_le (pl := pl) (kd := kd) (wt := wt) (nx := nx) (w := w) (s := s) (i := i) (m := m) (top := top) P
    unfold t_pb
    split
    · rename_i h
      have h2 := h.2
      show t_at _ _ _ _ _ _ _ ≤ top
      omega
    · exact ih
theorem t_bf_le {pl : Int} {kd wt nx s : Nat → Int} {W m : Nat} : ∀ k : Nat, (t_bf pl kd wt nx W s m k).2 ≤ t_at pl kd wt nx (fun k => s (5 + k)) m s
  | 0 => Int.le_refl _
  | k + 1 => by
    have ih := t_bf_le (pl := pl) (kd := kd) (wt := wt) (nx := nx) (s := s) (W := W) (m := m) k
    unfold t_bf
    split
    · rename_i h
      have h2 := h.2
      show t_at pl kd wt nx (swp _ _ _) _ _ ≤ _
      omega
    · exact ih
theorem t_eq_sw {w : Int} {s : Nat → Int} {i j : Nat} (hi : i < 6) (hj : j < 6) : t_eq w s (sw s i j) := ⟨(sw_ne (by omega) (by omega)).symm, (sw_ne (by omega) (by omega)).symm, fun k hk => by rw [sw_ne (by omega) (by omega)]⟩
theorem sw_swp {s : Nat → Int} {i j k : Nat} : sw s i j (5 + k) = swp (fun k => s (5 + k)) i j k := by
  unfold sw swp
  by_cases e1 : k = i
  · rw [if_pos (by omega), if_pos e1]
  · rw [if_neg (by omega), if_neg e1]
    by_cases e2 : k = j
    · rw [if_pos (by omega), if_pos e2]
    · rw [if_neg (by omega), if_neg e2]
set_option maxRecDepth 100000 in
theorem D_place {xo : Nat → List Int} {d : Nat} {Q : dz_Q} {sh : List (Nat ⊕ (Nat × Nat))} {rf : Nat → Nat → Nat} {M : Nat → Nat → Int} {rs : Nat → Int} {it : Nat → Nat → Int} {ts : Nat → Int} {ch : Nat → Nat → Int} {tl up lo : Int} {fn : Nat → Int} {w pl : Int} {kd wt nx : Nat → Int} {n : Nat} {hs : Nat → Nat → Int} {kp : Nat → Int} {kh : Nat → Nat → Nat → Int} {i m : Int} (hl : ml sh rf) (hR : RM M rs it ts ch tl up lo fn w pl kd wt nx n hs kp kh) (hW : WF rs it ts ch tl up lo fn w pl kd wt nx n hs kp kh) (hQ : ∀ M2 : Nat → Nat → Int, (∀ q2 k2, q2 < 115 → M2 q2 k2 = M q2 k2) → RM M2 rs it ts ch (o_place tl w pl kd wt nx (hs n) i m).2 up lo fn w pl kd wt nx n hs kp kh → Q (some (dz_i ((o_place tl w pl kd wt nx (hs n) i m).1))) (sh, rf, M2)) : dz_E dz_pp xo (d + 6) 179 [dz_r 115, dz_i i, dz_i m] (sh, rf, M) Q := by
  refine ⟨Nat.le_of_ble_eq_true rfl, ?_⟩
  have hc := dz_E_m dz_pp xo (d + 5)
  show dz_X (dz_E dz_pp xo (d + 5)) dz_pp xo (dz_pp 179) Q 0 [some (dz_r 115), some (dz_i i), some (dz_i m), none, none, none, none] [] 0 0 (sh, rf, M)
  obtain ⟨c0, c1, c2, c3, c4, c5, c6, c7, c8, c9, c10, c11, c12, c13, c14, c15, c16, c17, c18, c19, c20, c21, c22, c23, c24, c25, c26, c27, c28, c29⟩ := id hl
  obtain ⟨hrow, htxt, htl, hup, hlo, hfn, hdr, hkp⟩ := id hR
  obtain ⟨wrow, wtxt, wdr, wst, wkp⟩ := id hW
  have hw6 := WF_w hW
  have hdr3 : drM M w pl kd wt nx n hs ∧ w ≤ 6 ∧ n ≤ 40 := ⟨hdr, hw6.2, wst.1⟩
  have hkp3 : kepM M w kp kh ∧ w ≤ 6 ∧ ∀ k, k < 3 → kp k ≤ 40 := ⟨hkp, hw6.2, fun k hk => by
    rcases wkp k hk with z | z
    · omega
    · exact z.2.1⟩
  obtain ⟨a1, a2, a3, b1, b2, b3⟩ := id hdr
  have hpg : pgM M w pl kd wt nx := ⟨a1, a2, a3⟩
  have b2c : ∀ c, okc w c → M 116 c = hs n c := fun c hc => by
    have h3 := b2 c hc
    rw [Nat.zero_add] at h3
    exact h3
  refine xr_aloadn hc rfl rfl ?_
  refine xr_iloadn hc rfl rfl ?_
  refine xr_callv1 hc rfl (by first | assumption | rfl) rfl rfl rfl (Nat.le_of_ble_eq_true rfl) (Nat.zero_le _) (Nat.zero_le _) ?_
  refine D_isWord hl a1 hw6 (fun u1 v1 => ?_) (fun u1 => ?_)
  · refine xk_1 ?_
    refine xr_iff hc rfl (by simp [dz_cmp]) ?_
    refine xr_iloadn hc rfl rfl ?_
    refine xr_i2l hc rfl ?_
    refine xr_lconst hc rfl ?_
    refine xr_ldc2 hc rfl ?_
    refine xr_calls3 hc rfl (by decide) rfl rfl rfl (Nat.le_of_ble_eq_true rfl) (Nat.zero_le _) (Nat.zero_le _) ?_
    refine S_in (fun u2 v2 => ?_) (fun u2 => ?_)
    · refine xk_1 ?_
      refine xr_ift hc rfl (t := 22) rfl (by simp [dz_cmp]) ?_
      have hw0 : w ≠ 0 := by omega
      have hp := WF_p hW (by omega)
      have hst := wst.2 n (Nat.le_refl n)
      obtain ⟨p1, p2, p3, p4, p5⟩ := id hp
      obtain ⟨st0, st1, st2, st3, st4, st5, st6, st7, st8⟩ := id hst
      have lp : ∀ (m_ : Nat) (p : Nat) (N : Nat → Nat → Int) (e : Option dz_V), (p : Int) + m_ = pl → tfr M N → dz_X (dz_E dz_pp xo (d + 5)) dz_pp xo (dz_pp 179) Q 32 [some (dz_r 115), some (dz_i i), some (dz_i m), some (dz_i (t_pb pl kd wt nx w (hs n) i.toNat m.toNat 99999 p).1), some (dz_i (t_pb pl kd wt nx w (hs n) i.toNat m.toNat 99999 p).2), some (dz_i (p : Int)), e] [] 0 0 (sh, rf, N) := by
        intro m_
        induction m_ with
        | zero =>
          intro p N e hp2 h1
          have n1 : N 115 1 = pl := by rw [h1 _ _ (by omega) (by omega)]; exact a2
          have hRN := RM_scr hR hW (tfr_scr h1)
          have ep : p = pl.toNat := by omega
          subst ep
          refine xr_iload hc rfl rfl ?_
          refine xr_aloadn hc rfl rfl ?_
          refine xr_getfi hc rfl (Or.inl rfl) (by first | assumption | rfl) ?_
          rw [n1]
          refine xr_icmp_ge hc rfl (t := 102) rfl (fun b38 => ?_) (fun b38 => ?_)
          · refine xr_aloadn hc rfl rfl ?_
            refine xr_iload hc rfl rfl ?_
            refine xr_putfi hc rfl rfl (by first | assumption | rfl) ?_
            refine xr_iloadn hc rfl rfl ?_
            refine xr_ireturn hc rfl rfl (Nat.zero_le _) (Nat.zero_le _) ?_
            simp only [o_place] at hQ
            rw [if_neg (by omega)] at hQ
            obtain ⟨hrow, htxt, htl, hup, hlo, hfn, hdr, hkp⟩ := id hRN
            have hdr3 : drM _ w pl kd wt nx n hs ∧ w ≤ 6 ∧ n ≤ 40 := ⟨hdr, hw6.2, wst.1⟩
            have hkp3 := And.intro hkp hkp3.2
            refine hQ _ (fun q2 k2 u => by rw [dz_up_ne (by omega), tfr_x h1 _ _ u]) ⟨rowM_fr hrow (fun k2 => by first | rw [dz_up_ne (by omega)] | rw [dz_up_k (by omega)]) (fun k2 => by first | rw [dz_up_ne (by omega)] | rw [dz_up_k (by omega)]), txtM_fr htxt (fun k2 => by first | rw [dz_up_ne (by omega)] | rw [dz_up_k (by omega)]) (fun k2 => by first | rw [dz_up_ne (by omega)] | rw [dz_up_k (by omega)]), by rw [dz_up_eq], Eq.trans (by first | rw [dz_up_ne (by omega)] | rw [dz_up_k (by omega)]) hup, Eq.trans (by first | rw [dz_up_ne (by omega)] | rw [dz_up_k (by omega)]) hlo, fndM_fr hfn (by first | rw [dz_up_ne (by omega)] | rw [dz_up_k (by omega)]) (fun k2 => by first | rw [dz_up_ne (by omega)] | rw [dz_up_k (by omega)]), drM_fr hdr3 (by first | rw [dz_up_ne (by omega)] | rw [dz_up_k (by omega)]) (by first | rw [dz_up_ne (by omega)] | rw [dz_up_k (by omega)]) (fun k2 => by first | rw [dz_up_ne (by omega)] | rw [dz_up_k (by omega)]) (fun k2 => by first | rw [dz_up_ne (by omega)] | rw [dz_up_k (by omega)]) (fun k2 => by first | rw [dz_up_ne (by omega)] | rw [dz_up_k (by omega)]) (fun k2 u1 => by first | rw [dz_up_ne (by omega)] | rw [dz_up_k (by omega)]), kepM_fr hkp3 (fun k2 u1 u2 => by first | rw [dz_up_ne (by omega)] | rw [dz_up_k (by omega)])⟩
          · omega
        | succ m_ ih =>
          intro p N e hp2 h1
          have n1 : N 115 1 = pl := by rw [h1 _ _ (by omega) (by omega)]; exact a2
          have hRN := RM_scr hR hW (tfr_scr h1)
          have hA := t_at_in (sp := fup (fun k => hs n (5 + k)) i.toNat p) (m := m.toNat) hp hst (by omega)
          have hle := t_pb_le (pl := pl) (kd := kd) (wt := wt) (nx := nx) (w := w) (s := hs n) (i := i.toNat) (m := m.toNat) (top := 99999) p
          have et : t_pb pl kd wt nx w (hs n) i.toNat m.toNat 99999 (p + 1) = if mly (hs n) w i.toNat p ∧ t_at pl kd wt nx (fup (fun k => hs n (5 + k)) i.toNat p) m.toNat (hs n) < (t_pb pl kd wt nx w (hs n) i.toNat m.toNat 99999 p).2 then ((p : Int), t_at pl kd wt nx (fup (fun k => hs n (5 + k)) i.toNat p) m.toNat (hs n)) else (t_pb pl kd wt nx w (hs n) i.toNat m.toNat 99999 p) := rfl
          refine xr_iload hc rfl rfl ?_
          refine xr_aloadn hc rfl rfl ?_
          refine xr_getfi hc rfl (Or.inl rfl) (by first | assumption | rfl) ?_
          rw [n1]
          refine xr_icmp_ge hc rfl (t := 102) rfl (fun b38 => ?_) (fun b38 => ?_)
          · omega
          · refine xr_aloadn hc rfl rfl ?_
            refine xr_iloadn hc rfl rfl ?_
            refine xr_iload hc rfl rfl ?_
            refine xr_callv2 hc rfl (by first | assumption | rfl) rfl rfl rfl (Nat.le_of_ble_eq_true rfl) (Nat.zero_le _) (Nat.zero_le _) ?_
            refine D_mly hl hRN hW (by omega) (fun y1 => ?_) (fun y1 => ?_)
            · refine xk_1 ?_
              refine xr_iff hc rfl (by simp [dz_cmp]) ?_
              refine xr_aloadn hc rfl rfl ?_
              refine xr_iloadn hc rfl rfl ?_
              refine xr_iload hc rfl rfl ?_
              refine xr_iloadn hc rfl rfl ?_
              refine xr_callv3 hc rfl (by first | assumption | rfl) rfl rfl rfl (Nat.le_of_ble_eq_true rfl) (Nat.zero_le _) (Nat.zero_le _) ?_
              refine D_beatsAt hl hRN hW (by omega) (by omega) (by omega) (fun N2 x1 => ?_)
              refine xk_1 ?_
              refine xr_goto hc rfl (t := 64) rfl ?_
              refine xr_istore6 hc rfl rfl ?_
              refine xr_iload hc rfl rfl ?_
              refine xr_iload hc rfl rfl ?_
              refine xr_icmp_ge hc rfl (t := 78) rfl (fun b70 => ?_) (fun b70 => ?_)
              · refine xr_iloadn hc rfl rfl ?_
                refine xr_istore3 hc rfl rfl ?_
                refine xr_iload hc rfl rfl ?_
                refine xr_iload hc rfl rfl ?_
                refine xr_icmp_ge hc rfl (t := 92) rfl (fun b84 => ?_) (fun b84 => ?_)
                · refine xr_iload hc rfl rfl ?_
                  refine xr_istore4 hc rfl rfl ?_
                  refine xr_iincz5 hc rfl rfl (by first | exact dz_wid (by first | omega | (unfold dz_w; omega)) (by first | omega | (unfold dz_w; omega)) | rfl) ?_
                  refine xr_goto hc rfl (t := 32) rfl ?_
                  first
                    | (exfalso; omega)
                    | (rw [if_pos ⟨y1, by omega⟩] at et
                       have e1 := congrArg Prod.fst et
                       have e2 := congrArg Prod.snd et
                       dsimp only at e1 e2
                       have l0 := ih (p + 1) N2 (some (dz_i (t_at pl kd wt nx (fup (fun k => hs n (5 + k)) i.toNat p) m.toNat (hs n)))) (by omega) (tfr_trans h1 x1)
                       rw [e1, e2] at l0
                       exact l0)
                    | (rw [if_neg (fun z => by have z2 := z.2; omega)] at et
                       rw [← et]
                       exact ih (p + 1) N2 _ (by omega) (tfr_trans h1 x1))
                    | (rw [if_neg (fun z => y1 z.1)] at et
                       rw [← et]
                       exact ih (p + 1) N _ (by omega) h1)
                · refine xr_iload hc rfl rfl ?_
                  refine xr_goto hc rfl (t := 94) rfl ?_
                  refine xr_istore4 hc rfl rfl ?_
                  refine xr_iincz5 hc rfl rfl (by first | exact dz_wid (by first | omega | (unfold dz_w; omega)) (by first | omega | (unfold dz_w; omega)) | rfl) ?_
                  refine xr_goto hc rfl (t := 32) rfl ?_
                  first
                    | (exfalso; omega)
                    | (rw [if_pos ⟨y1, by omega⟩] at et
                       have e1 := congrArg Prod.fst et
                       have e2 := congrArg Prod.snd et
                       dsimp only at e1 e2
                       have l0 := ih (p + 1) N2 (some (dz_i (t_at pl kd wt nx (fup (fun k => hs n (5 + k)) i.toNat p) m.toNat (hs n)))) (by omega) (tfr_trans h1 x1)
                       rw [e1, e2] at l0
                       exact l0)
                    | (rw [if_neg (fun z => by have z2 := z.2; omega)] at et
                       rw [← et]
                       exact ih (p + 1) N2 _ (by omega) (tfr_trans h1 x1))
                    | (rw [if_neg (fun z => y1 z.1)] at et
                       rw [← et]
                       exact ih (p + 1) N _ (by omega) h1)
              · refine xr_iload hc rfl rfl ?_
                refine xr_goto hc rfl (t := 79) rfl ?_
                refine xr_istore3 hc rfl rfl ?_
                refine xr_iload hc rfl rfl ?_
                refine xr_iload hc rfl rfl ?_
                refine xr_icmp_ge hc rfl (t := 92) rfl (fun b84 => ?_) (fun b84 => ?_)
                · refine xr_iload hc rfl rfl ?_
                  refine xr_istore4 hc rfl rfl ?_
                  refine xr_iincz5 hc rfl rfl (by first | exact dz_wid (by first | omega | (unfold dz_w; omega)) (by first | omega | (unfold dz_w; omega)) | rfl) ?_
                  refine xr_goto hc rfl (t := 32) rfl ?_
                  first
                    | (exfalso; omega)
                    | (rw [if_pos ⟨y1, by omega⟩] at et
                       have e1 := congrArg Prod.fst et
                       have e2 := congrArg Prod.snd et
                       dsimp only at e1 e2
                       have l0 := ih (p + 1) N2 (some (dz_i (t_at pl kd wt nx (fup (fun k => hs n (5 + k)) i.toNat p) m.toNat (hs n)))) (by omega) (tfr_trans h1 x1)
                       rw [e1, e2] at l0
                       exact l0)
                    | (rw [if_neg (fun z => by have z2 := z.2; omega)] at et
                       rw [← et]
                       exact ih (p + 1) N2 _ (by omega) (tfr_trans h1 x1))
                    | (rw [if_neg (fun z => y1 z.1)] at et
                       rw [← et]
                       exact ih (p + 1) N _ (by omega) h1)
                · refine xr_iload hc rfl rfl ?_
                  refine xr_goto hc rfl (t := 94) rfl ?_
                  refine xr_istore4 hc rfl rfl ?_
                  refine xr_iincz5 hc rfl rfl (by first | exact dz_wid (by first | omega | (unfold dz_w; omega)) (by first | omega | (unfold dz_w; omega)) | rfl) ?_
                  refine xr_goto hc rfl (t := 32) rfl ?_
                  first
                    | (exfalso; omega)
                    | (rw [if_pos ⟨y1, by omega⟩] at et
                       have e1 := congrArg Prod.fst et
                       have e2 := congrArg Prod.snd et
                       dsimp only at e1 e2
                       have l0 := ih (p + 1) N2 (some (dz_i (t_at pl kd wt nx (fup (fun k => hs n (5 + k)) i.toNat p) m.toNat (hs n)))) (by omega) (tfr_trans h1 x1)
                       rw [e1, e2] at l0
                       exact l0)
                    | (rw [if_neg (fun z => by have z2 := z.2; omega)] at et
                       rw [← et]
                       exact ih (p + 1) N2 _ (by omega) (tfr_trans h1 x1))
                    | (rw [if_neg (fun z => y1 z.1)] at et
                       rw [← et]
                       exact ih (p + 1) N _ (by omega) h1)
            · refine xk_1 ?_
              refine xr_ift hc rfl (t := 62) rfl (by simp [dz_cmp]) ?_
              refine xr_ldc hc rfl ?_
              refine xr_istore6 hc rfl rfl ?_
              refine xr_iload hc rfl rfl ?_
              refine xr_iload hc rfl rfl ?_
              refine xr_icmp_ge hc rfl (t := 78) rfl (fun b70 => ?_) (fun b70 => ?_)
              · refine xr_iloadn hc rfl rfl ?_
                refine xr_istore3 hc rfl rfl ?_
                refine xr_iload hc rfl rfl ?_
                refine xr_iload hc rfl rfl ?_
                refine xr_icmp_ge hc rfl (t := 92) rfl (fun b84 => ?_) (fun b84 => ?_)
                · refine xr_iload hc rfl rfl ?_
                  refine xr_istore4 hc rfl rfl ?_
                  refine xr_iincz5 hc rfl rfl (by first | exact dz_wid (by first | omega | (unfold dz_w; omega)) (by first | omega | (unfold dz_w; omega)) | rfl) ?_
                  refine xr_goto hc rfl (t := 32) rfl ?_
                  first
                    | (exfalso; omega)
                    | (rw [if_pos ⟨y1, by omega⟩] at et
                       have e1 := congrArg Prod.fst et
                       have e2 := congrArg Prod.snd et
                       dsimp only at e1 e2
                       have l0 := ih (p + 1) N2 (some (dz_i (t_at pl kd wt nx (fup (fun k => hs n (5 + k)) i.toNat p) m.toNat (hs n)))) (by omega) (tfr_trans h1 x1)
                       rw [e1, e2] at l0
                       exact l0)
                    | (rw [if_neg (fun z => by have z2 := z.2; omega)] at et
                       rw [← et]
                       exact ih (p + 1) N2 _ (by omega) (tfr_trans h1 x1))
                    | (rw [if_neg (fun z => y1 z.1)] at et
                       rw [← et]
                       exact ih (p + 1) N _ (by omega) h1)
                · refine xr_iload hc rfl rfl ?_
                  refine xr_goto hc rfl (t := 94) rfl ?_
                  refine xr_istore4 hc rfl rfl ?_
                  refine xr_iincz5 hc rfl rfl (by first | exact dz_wid (by first | omega | (unfold dz_w; omega)) (by first | omega | (unfold dz_w; omega)) | rfl) ?_
                  refine xr_goto hc rfl (t := 32) rfl ?_
                  first
                    | (exfalso; omega)
                    | (rw [if_pos ⟨y1, by omega⟩] at et
                       have e1 := congrArg Prod.fst et
                       have e2 := congrArg Prod.snd et
                       dsimp only at e1 e2
                       have l0 := ih (p + 1) N2 (some (dz_i (t_at pl kd wt nx (fup (fun k => hs n (5 + k)) i.toNat p) m.toNat (hs n)))) (by omega) (tfr_trans h1 x1)
                       rw [e1, e2] at l0
                       exact l0)
                    | (rw [if_neg (fun z => by have z2 := z.2; omega)] at et
                       rw [← et]
                       exact ih (p + 1) N2 _ (by omega) (tfr_trans h1 x1))
                    | (rw [if_neg (fun z => y1 z.1)] at et
                       rw [← et]
                       exact ih (p + 1) N _ (by omega) h1)
              · refine xr_iload hc rfl rfl ?_
                refine xr_goto hc rfl (t := 79) rfl ?_
                refine xr_istore3 hc rfl rfl ?_
                refine xr_iload hc rfl rfl ?_
                refine xr_iload hc rfl rfl ?_
                refine xr_icmp_ge hc rfl (t := 92) rfl (fun b84 => ?_) (fun b84 => ?_)
                · refine xr_iload hc rfl rfl ?_
                  refine xr_istore4 hc rfl rfl ?_
                  refine xr_iincz5 hc rfl rfl (by first | exact dz_wid (by first | omega | (unfold dz_w; omega)) (by first | omega | (unfold dz_w; omega)) | rfl) ?_
                  refine xr_goto hc rfl (t := 32) rfl ?_
                  first
                    | (exfalso; omega)
                    | (rw [if_pos ⟨y1, by omega⟩] at et
                       have e1 := congrArg Prod.fst et
                       have e2 := congrArg Prod.snd et
                       dsimp only at e1 e2
                       have l0 := ih (p + 1) N2 (some (dz_i (t_at pl kd wt nx (fup (fun k => hs n (5 + k)) i.toNat p) m.toNat (hs n)))) (by omega) (tfr_trans h1 x1)
                       rw [e1, e2] at l0
                       exact l0)
                    | (rw [if_neg (fun z => by have z2 := z.2; omega)] at et
                       rw [← et]
                       exact ih (p + 1) N2 _ (by omega) (tfr_trans h1 x1))
                    | (rw [if_neg (fun z => y1 z.1)] at et
                       rw [← et]
                       exact ih (p + 1) N _ (by omega) h1)
                · refine xr_iload hc rfl rfl ?_
                  refine xr_goto hc rfl (t := 94) rfl ?_
                  refine xr_istore4 hc rfl rfl ?_
                  refine xr_iincz5 hc rfl rfl (by first | exact dz_wid (by first | omega | (unfold dz_w; omega)) (by first | omega | (unfold dz_w; omega)) | rfl) ?_
                  refine xr_goto hc rfl (t := 32) rfl ?_
                  first
                    | (exfalso; omega)
                    | (rw [if_pos ⟨y1, by omega⟩] at et
                       have e1 := congrArg Prod.fst et
                       have e2 := congrArg Prod.snd et
                       dsimp only at e1 e2
                       have l0 := ih (p + 1) N2 (some (dz_i (t_at pl kd wt nx (fup (fun k => hs n (5 + k)) i.toNat p) m.toNat (hs n)))) (by omega) (tfr_trans h1 x1)
                       rw [e1, e2] at l0
                       exact l0)
                    | (rw [if_neg (fun z => by have z2 := z.2; omega)] at et
                       rw [← et]
                       exact ih (p + 1) N2 _ (by omega) (tfr_trans h1 x1))
                    | (rw [if_neg (fun z => y1 z.1)] at et
                       rw [← et]
                       exact ih (p + 1) N _ (by omega) h1)
      refine xr_bipush hc rfl ?_
      refine xr_istore3 hc rfl rfl ?_
      refine xr_ldc hc rfl ?_
      refine xr_istore4 hc rfl rfl ?_
      refine xr_iconst hc rfl ?_
      refine xr_istore5 hc rfl rfl ?_
      exact lp pl.toNat 0 M none (by omega) (tfr_refl M)
    · refine xk_1 ?_
      refine xr_iff hc rfl (by simp [dz_cmp]) ?_
      refine xr_iconst hc rfl ?_
      refine xr_ireturn hc rfl rfl (Nat.zero_le _) (Nat.zero_le _) ?_
      simp only [o_place] at hQ
      repeat (first | rw [if_pos (by omega)] at hQ | rw [if_neg (by omega)] at hQ)
      try dsimp only at hQ
      exact hQ M (fun _ _ _ => rfl) hR
  · refine xk_1 ?_
    refine xr_ift hc rfl (t := 20) rfl (by simp [dz_cmp]) ?_
    refine xr_iconst hc rfl ?_
    refine xr_ireturn hc rfl rfl (Nat.zero_le _) (Nat.zero_le _) ?_
    simp only [o_place] at hQ
    repeat (first | rw [if_pos (by omega)] at hQ | rw [if_neg (by omega)] at hQ)
    try dsimp only at hQ
    exact hQ M (fun _ _ _ => rfl) hR
set_option maxRecDepth 100000 in
theorem D_best {xo : Nat → List Int} {d : Nat} {Q : dz_Q} {sh : List (Nat ⊕ (Nat × Nat))} {rf : Nat → Nat → Nat} {M : Nat → Nat → Int} {rs : Nat → Int} {it : Nat → Nat → Int} {ts : Nat → Int} {ch : Nat → Nat → Int} {tl up lo : Int} {fn : Nat → Int} {w pl : Int} {kd wt nx : Nat → Int} {n : Nat} {hs : Nat → Nat → Int} {kp : Nat → Int} {kh : Nat → Nat → Nat → Int} {m : Int} (hl : ml sh rf) (hR : RM M rs it ts ch tl up lo fn w pl kd wt nx n hs kp kh) (hW : WF rs it ts ch tl up lo fn w pl kd wt nx n hs kp kh) (hQ : ∀ M2 : Nat → Nat → Int, (∀ q2 k2, q2 < 115 → M2 q2 k2 = M q2 k2) → RM M2 rs it ts ch (o_best tl w pl kd wt nx (hs n) m).2 up lo fn w pl kd wt nx n hs kp kh → Q (some (dz_i ((o_best tl w pl kd wt nx (hs n) m).1))) (sh, rf, M2)) : dz_E dz_pp xo (d + 5) 180 [dz_r 115, dz_i m] (sh, rf, M) Q := by
  refine ⟨Nat.le_of_ble_eq_true rfl, ?_⟩
  have hc := dz_E_m dz_pp xo (d + 4)
  show dz_X (dz_E dz_pp xo (d + 4)) dz_pp xo (dz_pp 180) Q 0 [some (dz_r 115), some (dz_i m), none, none, none, none, none, none, none] [] 0 0 (sh, rf, M)
  obtain ⟨c0, c1, c2, c3, c4, c5, c6, c7, c8, c9, c10, c11, c12, c13, c14, c15, c16, c17, c18, c19, c20, c21, c22, c23, c24, c25, c26, c27, c28, c29⟩ := id hl
  obtain ⟨hrow, htxt, htl, hup, hlo, hfn, hdr, hkp⟩ := id hR
  obtain ⟨wrow, wtxt, wdr, wst, wkp⟩ := id hW
  have hw6 := WF_w hW
  have hdr3 : drM M w pl kd wt nx n hs ∧ w ≤ 6 ∧ n ≤ 40 := ⟨hdr, hw6.2, wst.1⟩
  have hkp3 : kepM M w kp kh ∧ w ≤ 6 ∧ ∀ k, k < 3 → kp k ≤ 40 := ⟨hkp, hw6.2, fun k hk => by
    rcases wkp k hk with z | z
    · omega
    · exact z.2.1⟩
  obtain ⟨a1, a2, a3, b1, b2, b3⟩ := id hdr
  have hpg : pgM M w pl kd wt nx := ⟨a1, a2, a3⟩
  have b2c : ∀ c, okc w c → M 116 c = hs n c := fun c hc => by
    have h3 := b2 c hc
    rw [Nat.zero_add] at h3
    exact h3
  refine xr_aloadn hc rfl rfl ?_
  refine xr_iloadn hc rfl rfl ?_
  refine xr_bipush hc rfl ?_
  refine xr_callv2 hc rfl (by first | assumption | rfl) rfl rfl rfl (Nat.le_of_ble_eq_true rfl) (Nat.zero_le _) (Nat.zero_le _) ?_
  refine D_noSteps hl hR hW (fun u1 => ?_) (fun u1 v1 hw0 => ?_) (fun u1 v1 hw0 => ?_)
  · refine xk_1 ?_
    refine xr_istore2 hc rfl rfl ?_
    refine xr_iloadn hc rfl rfl ?_
    refine xr_iff hc rfl (by simp [dz_cmp]) ?_
    refine xr_iloadn hc rfl rfl ?_
    refine xr_ireturn hc rfl rfl (Nat.zero_le _) (Nat.zero_le _) ?_
    simp only [o_best] at hQ
    repeat (first | rw [if_pos (by omega)] at hQ | rw [if_neg (by omega)] at hQ)
    try dsimp only at hQ
    exact hQ M (fun _ _ _ => rfl) hR
  · refine xk_1 ?_
    refine xr_istore2 hc rfl rfl ?_
    refine xr_iloadn hc rfl rfl ?_
    refine xr_iff hc rfl (by simp [dz_cmp]) ?_
    refine xr_iloadn hc rfl rfl ?_
    refine xr_ireturn hc rfl rfl (Nat.zero_le _) (Nat.zero_le _) ?_
    simp only [o_best] at hQ
    repeat (first | rw [if_pos (by omega)] at hQ | rw [if_neg (by omega)] at hQ)
    try dsimp only at hQ
    exact hQ M (fun _ _ _ => rfl) hR
  · refine xk_1 ?_
    refine xr_istore2 hc rfl rfl ?_
    refine xr_iloadn hc rfl rfl ?_
    refine xr_ift hc rfl (t := 14) rfl (by simp [dz_cmp]) ?_
    refine xr_aloadn hc rfl rfl ?_
    refine xr_callv0 hc rfl (by first | assumption | rfl) rfl rfl rfl (Nat.le_of_ble_eq_true rfl) (Nat.zero_le _) (Nat.zero_le _) ?_
    have hp := WF_p hW (by omega)
    have hst := wst.2 n (Nat.le_refl n)
    obtain ⟨p1, p2, p3, p4, p5⟩ := id hp
    obtain ⟨st0, st1, st2, st3, st4, st5, st6, st7, st8⟩ := id hst
    have lp : ∀ (m_ : Nat) (k : Nat) (N : Nat → Nat → Int) (e e2 e3 : Option dz_V), k + m_ = w.toNat * w.toNat → tfr M N → dz_X (dz_E dz_pp xo (d + 4)) dz_pp xo (dz_pp 180) Q 31 [some (dz_r 115), some (dz_i m), some (dz_i 0), some (dz_i (t_bf pl kd wt nx w.toNat (hs n) m.toNat (k)).2), some (dz_i (t_bf pl kd wt nx w.toNat (hs n) m.toNat (k)).1), some (dz_i (k : Int)), e, e2, e3] [] 0 0 (sh, rf, N) := by
      intro m_
      induction m_ with
      | zero =>
        intro k N e e2 e3 hk h1
        have n1 : N 115 2 = w := by rw [h1 _ _ (by omega) (by omega)]; exact a1
        have hRN := RM_scr hR hW (tfr_scr h1)
        have eww : w * w = ((w.toNat * w.toNat : Nat) : Int) := by
          rw [Int.natCast_mul, show ((w.toNat : Nat) : Int) = w by omega]
        have hww : w.toNat * w.toNat ≤ 36 := Nat.le_trans (Nat.mul_le_mul (show w.toNat ≤ 6 by omega) (show w.toNat ≤ 6 by omega)) (by omega)
        have ek : k = w.toNat * w.toNat := by omega
        subst ek
        refine xr_iload hc rfl rfl ?_
        refine xr_aloadn hc rfl rfl ?_
        refine xr_getfi hc rfl (Or.inl rfl) (by first | assumption | rfl) ?_
        refine xr_aloadn hc rfl rfl ?_
        refine xr_getfi hc rfl (Or.inl rfl) (by first | assumption | rfl) ?_
        rw [n1]
        refine xr_imulz hc rfl (by first | exact dz_wid (by first | omega | (unfold dz_w; omega)) (by first | omega | (unfold dz_w; omega)) | rfl) ?_
        rw [eww]
        refine xr_icmp_ge hc rfl (t := 137) rfl (fun b42 => ?_) (fun b42 => ?_)
        · refine xr_aloadn hc rfl rfl ?_
          refine xr_iload hc rfl rfl ?_
          refine xr_bipush hc rfl ?_
          refine xr_icmp_ne hc rfl (t := 152) rfl (fun b142 => ?_) (fun b142 => ?_)
          · refine xr_iloadn hc rfl rfl ?_
            refine xr_putfi hc rfl rfl (by first | assumption | rfl) ?_
            refine xr_iload hc rfl rfl ?_
            refine xr_ireturn hc rfl rfl (Nat.zero_le _) (Nat.zero_le _) ?_
            simp only [o_best] at hQ
            rw [if_neg (by omega), if_neg hw0] at hQ
            obtain ⟨hrow, htxt, htl, hup, hlo, hfn, hdr, hkp⟩ := id hRN
            have hdr3 : drM _ w pl kd wt nx n hs ∧ w ≤ 6 ∧ n ≤ 40 := ⟨hdr, hw6.2, wst.1⟩
            have hkp3 := And.intro hkp hkp3.2
            first
              | (rw [if_pos (by omega)] at hQ
                 refine hQ _ (fun q2 k2 u => by rw [dz_up_ne (by omega), tfr_x h1 _ _ u]) ⟨rowM_fr hrow (fun k2 => by first | rw [dz_up_ne (by omega)] | rw [dz_up_k (by omega)]) (fun k2 => by first | rw [dz_up_ne (by omega)] | rw [dz_up_k (by omega)]), txtM_fr htxt (fun k2 => by first | rw [dz_up_ne (by omega)] | rw [dz_up_k (by omega)]) (fun k2 => by first | rw [dz_up_ne (by omega)] | rw [dz_up_k (by omega)]), by rw [dz_up_eq]; exact htl, Eq.trans (by first | rw [dz_up_ne (by omega)] | rw [dz_up_k (by omega)]) hup, Eq.trans (by first | rw [dz_up_ne (by omega)] | rw [dz_up_k (by omega)]) hlo, fndM_fr hfn (by first | rw [dz_up_ne (by omega)] | rw [dz_up_k (by omega)]) (fun k2 => by first | rw [dz_up_ne (by omega)] | rw [dz_up_k (by omega)]), drM_fr hdr3 (by first | rw [dz_up_ne (by omega)] | rw [dz_up_k (by omega)]) (by first | rw [dz_up_ne (by omega)] | rw [dz_up_k (by omega)]) (fun k2 => by first | rw [dz_up_ne (by omega)] | rw [dz_up_k (by omega)]) (fun k2 => by first | rw [dz_up_ne (by omega)] | rw [dz_up_k (by omega)]) (fun k2 => by first | rw [dz_up_ne (by omega)] | rw [dz_up_k (by omega)]) (fun k2 u1 => by first | rw [dz_up_ne (by omega)] | rw [dz_up_k (by omega)]), kepM_fr hkp3 (fun k2 u1 u2 => by first | rw [dz_up_ne (by omega)] | rw [dz_up_k (by omega)])⟩)
              | (rw [if_neg (by omega)] at hQ
                 refine hQ _ (fun q2 k2 u => by rw [dz_up_ne (by omega), tfr_x h1 _ _ u]) ⟨rowM_fr hrow (fun k2 => by first | rw [dz_up_ne (by omega)] | rw [dz_up_k (by omega)]) (fun k2 => by first | rw [dz_up_ne (by omega)] | rw [dz_up_k (by omega)]), txtM_fr htxt (fun k2 => by first | rw [dz_up_ne (by omega)] | rw [dz_up_k (by omega)]) (fun k2 => by first | rw [dz_up_ne (by omega)] | rw [dz_up_k (by omega)]), by rw [dz_up_eq], Eq.trans (by first | rw [dz_up_ne (by omega)] | rw [dz_up_k (by omega)]) hup, Eq.trans (by first | rw [dz_up_ne (by omega)] | rw [dz_up_k (by omega)]) hlo, fndM_fr hfn (by first | rw [dz_up_ne (by omega)] | rw [dz_up_k (by omega)]) (fun k2 => by first | rw [dz_up_ne (by omega)] | rw [dz_up_k (by omega)]), drM_fr hdr3 (by first | rw [dz_up_ne (by omega)] | rw [dz_up_k (by omega)]) (by first | rw [dz_up_ne (by omega)] | rw [dz_up_k (by omega)]) (fun k2 => by first | rw [dz_up_ne (by omega)] | rw [dz_up_k (by omega)]) (fun k2 => by first | rw [dz_up_ne (by omega)] | rw [dz_up_k (by omega)]) (fun k2 => by first | rw [dz_up_ne (by omega)] | rw [dz_up_k (by omega)]) (fun k2 u1 => by first | rw [dz_up_ne (by omega)] | rw [dz_up_k (by omega)]), kepM_fr hkp3 (fun k2 u1 u2 => by first | rw [dz_up_ne (by omega)] | rw [dz_up_k (by omega)])⟩)
          · refine xr_aloadn hc rfl rfl ?_
            refine xr_getfi hc rfl (Or.inl rfl) (by first | assumption | rfl) ?_
            refine xr_goto hc rfl (t := 153) rfl ?_
            refine xr_putfi hc rfl rfl (by first | assumption | rfl) ?_
            refine xr_iload hc rfl rfl ?_
            refine xr_ireturn hc rfl rfl (Nat.zero_le _) (Nat.zero_le _) ?_
            simp only [o_best] at hQ
            rw [if_neg (by omega), if_neg hw0] at hQ
            obtain ⟨hrow, htxt, htl, hup, hlo, hfn, hdr, hkp⟩ := id hRN
            have hdr3 : drM _ w pl kd wt nx n hs ∧ w ≤ 6 ∧ n ≤ 40 := ⟨hdr, hw6.2, wst.1⟩
            have hkp3 := And.intro hkp hkp3.2
            first
              | (rw [if_pos (by omega)] at hQ
                 refine hQ _ (fun q2 k2 u => by rw [dz_up_ne (by omega), tfr_x h1 _ _ u]) ⟨rowM_fr hrow (fun k2 => by first | rw [dz_up_ne (by omega)] | rw [dz_up_k (by omega)]) (fun k2 => by first | rw [dz_up_ne (by omega)] | rw [dz_up_k (by omega)]), txtM_fr htxt (fun k2 => by first | rw [dz_up_ne (by omega)] | rw [dz_up_k (by omega)]) (fun k2 => by first | rw [dz_up_ne (by omega)] | rw [dz_up_k (by omega)]), by rw [dz_up_eq]; exact htl, Eq.trans (by first | rw [dz_up_ne (by omega)] | rw [dz_up_k (by omega)]) hup, Eq.trans (by first | rw [dz_up_ne (by omega)] | rw [dz_up_k (by omega)]) hlo, fndM_fr hfn (by first | rw [dz_up_ne (by omega)] | rw [dz_up_k (by omega)]) (fun k2 => by first | rw [dz_up_ne (by omega)] | rw [dz_up_k (by omega)]), drM_fr hdr3 (by first | rw [dz_up_ne (by omega)] | rw [dz_up_k (by omega)]) (by first | rw [dz_up_ne (by omega)] | rw [dz_up_k (by omega)]) (fun k2 => by first | rw [dz_up_ne (by omega)] | rw [dz_up_k (by omega)]) (fun k2 => by first | rw [dz_up_ne (by omega)] | rw [dz_up_k (by omega)]) (fun k2 => by first | rw [dz_up_ne (by omega)] | rw [dz_up_k (by omega)]) (fun k2 u1 => by first | rw [dz_up_ne (by omega)] | rw [dz_up_k (by omega)]), kepM_fr hkp3 (fun k2 u1 u2 => by first | rw [dz_up_ne (by omega)] | rw [dz_up_k (by omega)])⟩)
              | (rw [if_neg (by omega)] at hQ
                 refine hQ _ (fun q2 k2 u => by rw [dz_up_ne (by omega), tfr_x h1 _ _ u]) ⟨rowM_fr hrow (fun k2 => by first | rw [dz_up_ne (by omega)] | rw [dz_up_k (by omega)]) (fun k2 => by first | rw [dz_up_ne (by omega)] | rw [dz_up_k (by omega)]), txtM_fr htxt (fun k2 => by first | rw [dz_up_ne (by omega)] | rw [dz_up_k (by omega)]) (fun k2 => by first | rw [dz_up_ne (by omega)] | rw [dz_up_k (by omega)]), by rw [dz_up_eq], Eq.trans (by first | rw [dz_up_ne (by omega)] | rw [dz_up_k (by omega)]) hup, Eq.trans (by first | rw [dz_up_ne (by omega)] | rw [dz_up_k (by omega)]) hlo, fndM_fr hfn (by first | rw [dz_up_ne (by omega)] | rw [dz_up_k (by omega)]) (fun k2 => by first | rw [dz_up_ne (by omega)] | rw [dz_up_k (by omega)]), drM_fr hdr3 (by first | rw [dz_up_ne (by omega)] | rw [dz_up_k (by omega)]) (by first | rw [dz_up_ne (by omega)] | rw [dz_up_k (by omega)]) (fun k2 => by first | rw [dz_up_ne (by omega)] | rw [dz_up_k (by omega)]) (fun k2 => by first | rw [dz_up_ne (by omega)] | rw [dz_up_k (by omega)]) (fun k2 => by first | rw [dz_up_ne (by omega)] | rw [dz_up_k (by omega)]) (fun k2 u1 => by first | rw [dz_up_ne (by omega)] | rw [dz_up_k (by omega)]), kepM_fr hkp3 (fun k2 u1 u2 => by first | rw [dz_up_ne (by omega)] | rw [dz_up_k (by omega)])⟩)
        · omega
      | succ m_ ih =>
        intro k N e e2 e3 hk h1
        have n1 : N 115 2 = w := by rw [h1 _ _ (by omega) (by omega)]; exact a1
        have hRN := RM_scr hR hW (tfr_scr h1)
        have eww : w * w = ((w.toNat * w.toNat : Nat) : Int) := by
          rw [Int.natCast_mul, show ((w.toNat : Nat) : Int) = w by omega]
        have hww : w.toNat * w.toNat ≤ 36 := Nat.le_trans (Nat.mul_le_mul (show w.toNat ≤ 6 by omega) (show w.toNat ≤ 6 by omega)) (by omega)
        have ewn : w = ((w.toNat : Nat) : Int) := by omega
        have hdv : k / w.toNat < w.toNat := Nat.div_lt_of_lt_mul (by omega)
        have hmd : k % w.toNat < w.toNat := Nat.mod_lt _ (by omega)
        have ed : Int.tdiv (k : Int) w = ((k / w.toNat : Nat) : Int) := by
          have z := Int.ofNat_tdiv k w.toNat
          rw [← ewn] at z
          exact z.symm
        have em : Int.tmod (k : Int) w = ((k % w.toNat : Nat) : Int) := by
          have z := Int.ofNat_tmod k w.toNat
          rw [← ewn] at z
          exact z.symm
        obtain ⟨qi, hqi⟩ : ∃ qi, qi = k / w.toNat := ⟨_, rfl⟩
        obtain ⟨qj, hqj⟩ : ∃ qj, qj = k % w.toNat := ⟨_, rfl⟩
        rw [← hqi] at ed hdv
        rw [← hqj] at em hmd
        have hed : 0 ≤ Int.tdiv (k : Int) w ∧ Int.tdiv (k : Int) w ≤ 6 := by rw [ed]; omega
        have hA := t_at_in (sp := swp (fun k => hs n (5 + k)) qi qj) (m := m.toNat) hp hst (by omega)
        have hA0 := t_at_in (sp := (fun k => hs n (5 + k))) (m := m.toNat) hp hst (by omega)
        have hle := t_bf_le (pl := pl) (kd := kd) (wt := wt) (nx := nx) (W := w.toNat) (s := hs n) (m := m.toNat) k
        have et : (t_bf pl kd wt nx w.toNat (hs n) m.toNat (k + 1)) = if qi < qj ∧ t_at pl kd wt nx (swp (fun k => hs n (5 + k)) qi qj) m.toNat (hs n) < (t_bf pl kd wt nx w.toNat (hs n) m.toNat (k)).2 then (10 * (qi : Int) + (qj : Int), t_at pl kd wt nx (swp (fun k => hs n (5 + k)) qi qj) m.toNat (hs n)) else (t_bf pl kd wt nx w.toNat (hs n) m.toNat (k)) := by
          rw [hqi, hqj]
          rfl
        refine xr_iload hc rfl rfl ?_
        refine xr_aloadn hc rfl rfl ?_
        refine xr_getfi hc rfl (Or.inl rfl) (by first | assumption | rfl) ?_
        refine xr_aloadn hc rfl rfl ?_
        refine xr_getfi hc rfl (Or.inl rfl) (by first | assumption | rfl) ?_
        rw [n1]
        refine xr_imulz hc rfl (by first | exact dz_wid (by first | omega | (unfold dz_w; omega)) (by first | omega | (unfold dz_w; omega)) | rfl) ?_
        rw [eww]
        refine xr_icmp_ge hc rfl (t := 137) rfl (fun b42 => ?_) (fun b42 => ?_)
        · omega
        · refine xr_iload hc rfl rfl ?_
          refine xr_aloadn hc rfl rfl ?_
          refine xr_getfi hc rfl (Or.inl rfl) (by first | assumption | rfl) ?_
          rw [n1]
          refine xr_idivz hc rfl (by first | omega | (unfold dz_w; omega)) (by first | exact dz_wid (by first | omega | (unfold dz_w; omega)) (by first | omega | (unfold dz_w; omega)) | rfl) ?_
          rw [ed]
          refine xr_istore6 hc rfl rfl ?_
          refine xr_iload hc rfl rfl ?_
          refine xr_aloadn hc rfl rfl ?_
          refine xr_getfi hc rfl (Or.inl rfl) (by first | assumption | rfl) ?_
          rw [n1]
          refine xr_irem hc rfl (by first | omega | (unfold dz_w; omega)) ?_
          rw [em]
          refine xr_istore7 hc rfl rfl ?_
          refine xr_aloadn hc rfl rfl ?_
          refine xr_callv0 hc rfl (by first | assumption | rfl) rfl rfl rfl (Nat.le_of_ble_eq_true rfl) (Nat.zero_le _) (Nat.zero_le _) ?_
          refine D_layTried hl hRN hW (fun N1 z1 z2 z3 z4 z5 => ?_)
          refine xk_0 ?_
          refine xr_aloadn hc rfl rfl ?_
          refine xr_sipush hc rfl ?_
          refine xr_iload hc rfl rfl ?_
          refine xr_iload hc rfl rfl ?_
          refine xr_callv3 hc rfl (by first | assumption | rfl) rfl rfl rfl (Nat.le_of_ble_eq_true rfl) (Nat.zero_le _) (Nat.zero_le _) ?_
          refine D_swaps (b := 3612) hl (by omega) (by omega) (by omega) (fun N2 x1 x2 => ?_)
          rw [Int.toNat_natCast, Int.toNat_natCast] at x2
          have tf2 : tfr M N2 := fun q2 k2 u1 u2 => by
            by_cases e : q2 = 116
            · subst e
              rw [x2 k2, if_neg (by omega), if_neg (by omega), z1 _ _ u1 u2, h1 _ _ u1 u2]
            · rw [x1 _ _ e, z1 _ _ u1 u2, h1 _ _ u1 u2]
          refine xk_0 ?_
          refine xr_iload hc rfl rfl ?_
          refine xr_iload hc rfl rfl ?_
          refine xr_icmp_ge hc rfl (t := 93) rfl (fun b82 => ?_) (fun b82 => ?_)
          · refine xr_ldc hc rfl ?_
            refine xr_istore8 hc rfl rfl ?_
            refine xr_iload hc rfl rfl ?_
            refine xr_iloadn hc rfl rfl ?_
            refine xr_icmp_ge hc rfl (t := 114) rfl (fun b100 => ?_) (fun b100 => ?_)
            · refine xr_iload hc rfl rfl ?_
              refine xr_istore4 hc rfl rfl ?_
              refine xr_iload hc rfl rfl ?_
              refine xr_iloadn hc rfl rfl ?_
              refine xr_icmp_ge hc rfl (t := 129) rfl (fun b121 => ?_) (fun b121 => ?_)
              · refine xr_iloadn hc rfl rfl ?_
                refine xr_istore3 hc rfl rfl ?_
                refine xr_iincz5 hc rfl rfl (by first | exact dz_wid (by first | omega | (unfold dz_w; omega)) (by first | omega | (unfold dz_w; omega)) | rfl) ?_
                refine xr_goto hc rfl (t := 31) rfl ?_
                first
                  | (exfalso; omega)
                  | (rw [if_pos ⟨by omega, by omega⟩] at et
                     have e1 := congrArg Prod.fst et
                     have e2 := congrArg Prod.snd et
                     dsimp only at e1 e2
                     have l0 := ih (k + 1) N3 (some (dz_i (qi : Int))) (some (dz_i (qj : Int))) (some (dz_i (t_at pl kd wt nx (swp (fun k => hs n (5 + k)) qi qj) m.toNat (hs n)))) (by omega) (tfr_trans tf2 y1)
                     rw [e1, e2] at l0
                     exact l0)
                  | (rw [if_neg (fun z => by have z2 := z.2; omega)] at et
                     rw [← et]
                     first
                       | exact ih (k + 1) N3 _ _ _ (by omega) (tfr_trans tf2 y1)
                       | exact ih (k + 1) N2 _ _ _ (by omega) tf2)
                  | (rw [if_neg (fun z => by have z2 := z.1; omega)] at et
                     rw [← et]
                     exact ih (k + 1) N2 _ _ _ (by omega) tf2)
              · refine xr_iload hc rfl rfl ?_
                refine xr_goto hc rfl (t := 130) rfl ?_
                refine xr_istore3 hc rfl rfl ?_
                refine xr_iincz5 hc rfl rfl (by first | exact dz_wid (by first | omega | (unfold dz_w; omega)) (by first | omega | (unfold dz_w; omega)) | rfl) ?_
                refine xr_goto hc rfl (t := 31) rfl ?_
                first
                  | (exfalso; omega)
                  | (rw [if_pos ⟨by omega, by omega⟩] at et
                     have e1 := congrArg Prod.fst et
                     have e2 := congrArg Prod.snd et
                     dsimp only at e1 e2
                     have l0 := ih (k + 1) N3 (some (dz_i (qi : Int))) (some (dz_i (qj : Int))) (some (dz_i (t_at pl kd wt nx (swp (fun k => hs n (5 + k)) qi qj) m.toNat (hs n)))) (by omega) (tfr_trans tf2 y1)
                     rw [e1, e2] at l0
                     exact l0)
                  | (rw [if_neg (fun z => by have z2 := z.2; omega)] at et
                     rw [← et]
                     first
                       | exact ih (k + 1) N3 _ _ _ (by omega) (tfr_trans tf2 y1)
                       | exact ih (k + 1) N2 _ _ _ (by omega) tf2)
                  | (rw [if_neg (fun z => by have z2 := z.1; omega)] at et
                     rw [← et]
                     exact ih (k + 1) N2 _ _ _ (by omega) tf2)
            · refine xr_bipush hc rfl ?_
              refine xr_iload hc rfl rfl ?_
              refine xr_imulz hc rfl (by first | exact dz_wid (by first | omega | (unfold dz_w; omega)) (by first | omega | (unfold dz_w; omega)) | rfl) ?_
              refine xr_iload hc rfl rfl ?_
              refine xr_iaddz hc rfl (by first | exact dz_wid (by first | omega | (unfold dz_w; omega)) (by first | omega | (unfold dz_w; omega)) | rfl) ?_
              refine xr_goto hc rfl (t := 116) rfl ?_
              refine xr_istore4 hc rfl rfl ?_
              refine xr_iload hc rfl rfl ?_
              refine xr_iloadn hc rfl rfl ?_
              refine xr_icmp_ge hc rfl (t := 129) rfl (fun b121 => ?_) (fun b121 => ?_)
              · refine xr_iloadn hc rfl rfl ?_
                refine xr_istore3 hc rfl rfl ?_
                refine xr_iincz5 hc rfl rfl (by first | exact dz_wid (by first | omega | (unfold dz_w; omega)) (by first | omega | (unfold dz_w; omega)) | rfl) ?_
                refine xr_goto hc rfl (t := 31) rfl ?_
                first
                  | (exfalso; omega)
                  | (rw [if_pos ⟨by omega, by omega⟩] at et
                     have e1 := congrArg Prod.fst et
                     have e2 := congrArg Prod.snd et
                     dsimp only at e1 e2
                     have l0 := ih (k + 1) N3 (some (dz_i (qi : Int))) (some (dz_i (qj : Int))) (some (dz_i (t_at pl kd wt nx (swp (fun k => hs n (5 + k)) qi qj) m.toNat (hs n)))) (by omega) (tfr_trans tf2 y1)
                     rw [e1, e2] at l0
                     exact l0)
                  | (rw [if_neg (fun z => by have z2 := z.2; omega)] at et
                     rw [← et]
                     first
                       | exact ih (k + 1) N3 _ _ _ (by omega) (tfr_trans tf2 y1)
                       | exact ih (k + 1) N2 _ _ _ (by omega) tf2)
                  | (rw [if_neg (fun z => by have z2 := z.1; omega)] at et
                     rw [← et]
                     exact ih (k + 1) N2 _ _ _ (by omega) tf2)
              · refine xr_iload hc rfl rfl ?_
                refine xr_goto hc rfl (t := 130) rfl ?_
                refine xr_istore3 hc rfl rfl ?_
                refine xr_iincz5 hc rfl rfl (by first | exact dz_wid (by first | omega | (unfold dz_w; omega)) (by first | omega | (unfold dz_w; omega)) | rfl) ?_
                refine xr_goto hc rfl (t := 31) rfl ?_
                first
                  | (exfalso; omega)
                  | (rw [if_pos ⟨by omega, by omega⟩] at et
                     have e1 := congrArg Prod.fst et
                     have e2 := congrArg Prod.snd et
                     dsimp only at e1 e2
                     have l0 := ih (k + 1) N3 (some (dz_i (qi : Int))) (some (dz_i (qj : Int))) (some (dz_i (t_at pl kd wt nx (swp (fun k => hs n (5 + k)) qi qj) m.toNat (hs n)))) (by omega) (tfr_trans tf2 y1)
                     rw [e1, e2] at l0
                     exact l0)
                  | (rw [if_neg (fun z => by have z2 := z.2; omega)] at et
                     rw [← et]
                     first
                       | exact ih (k + 1) N3 _ _ _ (by omega) (tfr_trans tf2 y1)
                       | exact ih (k + 1) N2 _ _ _ (by omega) tf2)
                  | (rw [if_neg (fun z => by have z2 := z.1; omega)] at et
                     rw [← et]
                     exact ih (k + 1) N2 _ _ _ (by omega) tf2)
          · refine xr_aloadn hc rfl rfl ?_
            refine xr_iloadn hc rfl rfl ?_
            refine xr_callv1 hc rfl (by first | assumption | rfl) rfl rfl rfl (Nat.le_of_ble_eq_true rfl) (Nat.zero_le _) (Nat.zero_le _) ?_
            refine D_beatsTried (w := w) (pl := pl) (B := 29 * n) (kd := kd) (wt := wt) (nx := nx) (s := sw (hs n) qi qj) hl (tfr_pg tf2 hpg) hp (sw_ok hw6.2 hst (by omega) (by omega)) (by omega) (prel_sw (by omega) (by omega) z2 x2) (by rw [x1 _ _ (by omega)]; exact z5) (by omega) (fun N3 y1 y2 y3 y4 => ?_)
            have ea : t_run pl kd wt nx m.toNat (sw (hs n) qi qj) 1 - sw (hs n) qi qj 1 = t_at pl kd wt nx (swp (fun k => hs n (5 + k)) qi qj) m.toNat (hs n) := t_at_run hp hst (by omega) (t_eq_sw (by omega) (by omega)) (sw_ne (by omega) (by omega)) (fun k hk => sw_swp)
            rw [ea]
            refine xk_1 ?_
            refine xr_goto hc rfl (t := 95) rfl ?_
            refine xr_istore8 hc rfl rfl ?_
            refine xr_iload hc rfl rfl ?_
            refine xr_iloadn hc rfl rfl ?_
            refine xr_icmp_ge hc rfl (t := 114) rfl (fun b100 => ?_) (fun b100 => ?_)
            · refine xr_iload hc rfl rfl ?_
              refine xr_istore4 hc rfl rfl ?_
              refine xr_iload hc rfl rfl ?_
              refine xr_iloadn hc rfl rfl ?_
              refine xr_icmp_ge hc rfl (t := 129) rfl (fun b121 => ?_) (fun b121 => ?_)
              · refine xr_iloadn hc rfl rfl ?_
                refine xr_istore3 hc rfl rfl ?_
                refine xr_iincz5 hc rfl rfl (by first | exact dz_wid (by first | omega | (unfold dz_w; omega)) (by first | omega | (unfold dz_w; omega)) | rfl) ?_
                refine xr_goto hc rfl (t := 31) rfl ?_
                first
                  | (exfalso; omega)
                  | (rw [if_pos ⟨by omega, by omega⟩] at et
                     have e1 := congrArg Prod.fst et
                     have e2 := congrArg Prod.snd et
                     dsimp only at e1 e2
                     have l0 := ih (k + 1) N3 (some (dz_i (qi : Int))) (some (dz_i (qj : Int))) (some (dz_i (t_at pl kd wt nx (swp (fun k => hs n (5 + k)) qi qj) m.toNat (hs n)))) (by omega) (tfr_trans tf2 y1)
                     rw [e1, e2] at l0
                     exact l0)
                  | (rw [if_neg (fun z => by have z2 := z.2; omega)] at et
                     rw [← et]
                     first
                       | exact ih (k + 1) N3 _ _ _ (by omega) (tfr_trans tf2 y1)
                       | exact ih (k + 1) N2 _ _ _ (by omega) tf2)
                  | (rw [if_neg (fun z => by have z2 := z.1; omega)] at et
                     rw [← et]
                     exact ih (k + 1) N2 _ _ _ (by omega) tf2)
              · refine xr_iload hc rfl rfl ?_
                refine xr_goto hc rfl (t := 130) rfl ?_
                refine xr_istore3 hc rfl rfl ?_
                refine xr_iincz5 hc rfl rfl (by first | exact dz_wid (by first | omega | (unfold dz_w; omega)) (by first | omega | (unfold dz_w; omega)) | rfl) ?_
                refine xr_goto hc rfl (t := 31) rfl ?_
                first
                  | (exfalso; omega)
                  | (rw [if_pos ⟨by omega, by omega⟩] at et
                     have e1 := congrArg Prod.fst et
                     have e2 := congrArg Prod.snd et
                     dsimp only at e1 e2
                     have l0 := ih (k + 1) N3 (some (dz_i (qi : Int))) (some (dz_i (qj : Int))) (some (dz_i (t_at pl kd wt nx (swp (fun k => hs n (5 + k)) qi qj) m.toNat (hs n)))) (by omega) (tfr_trans tf2 y1)
                     rw [e1, e2] at l0
                     exact l0)
                  | (rw [if_neg (fun z => by have z2 := z.2; omega)] at et
                     rw [← et]
                     first
                       | exact ih (k + 1) N3 _ _ _ (by omega) (tfr_trans tf2 y1)
                       | exact ih (k + 1) N2 _ _ _ (by omega) tf2)
                  | (rw [if_neg (fun z => by have z2 := z.1; omega)] at et
                     rw [← et]
                     exact ih (k + 1) N2 _ _ _ (by omega) tf2)
            · refine xr_bipush hc rfl ?_
              refine xr_iload hc rfl rfl ?_
              refine xr_imulz hc rfl (by first | exact dz_wid (by first | omega | (unfold dz_w; omega)) (by first | omega | (unfold dz_w; omega)) | rfl) ?_
              refine xr_iload hc rfl rfl ?_
              refine xr_iaddz hc rfl (by first | exact dz_wid (by first | omega | (unfold dz_w; omega)) (by first | omega | (unfold dz_w; omega)) | rfl) ?_
              refine xr_goto hc rfl (t := 116) rfl ?_
              refine xr_istore4 hc rfl rfl ?_
              refine xr_iload hc rfl rfl ?_
              refine xr_iloadn hc rfl rfl ?_
              refine xr_icmp_ge hc rfl (t := 129) rfl (fun b121 => ?_) (fun b121 => ?_)
              · refine xr_iloadn hc rfl rfl ?_
                refine xr_istore3 hc rfl rfl ?_
                refine xr_iincz5 hc rfl rfl (by first | exact dz_wid (by first | omega | (unfold dz_w; omega)) (by first | omega | (unfold dz_w; omega)) | rfl) ?_
                refine xr_goto hc rfl (t := 31) rfl ?_
                first
                  | (exfalso; omega)
                  | (rw [if_pos ⟨by omega, by omega⟩] at et
                     have e1 := congrArg Prod.fst et
                     have e2 := congrArg Prod.snd et
                     dsimp only at e1 e2
                     have l0 := ih (k + 1) N3 (some (dz_i (qi : Int))) (some (dz_i (qj : Int))) (some (dz_i (t_at pl kd wt nx (swp (fun k => hs n (5 + k)) qi qj) m.toNat (hs n)))) (by omega) (tfr_trans tf2 y1)
                     rw [e1, e2] at l0
                     exact l0)
                  | (rw [if_neg (fun z => by have z2 := z.2; omega)] at et
                     rw [← et]
                     first
                       | exact ih (k + 1) N3 _ _ _ (by omega) (tfr_trans tf2 y1)
                       | exact ih (k + 1) N2 _ _ _ (by omega) tf2)
                  | (rw [if_neg (fun z => by have z2 := z.1; omega)] at et
                     rw [← et]
                     exact ih (k + 1) N2 _ _ _ (by omega) tf2)
              · refine xr_iload hc rfl rfl ?_
                refine xr_goto hc rfl (t := 130) rfl ?_
                refine xr_istore3 hc rfl rfl ?_
                refine xr_iincz5 hc rfl rfl (by first | exact dz_wid (by first | omega | (unfold dz_w; omega)) (by first | omega | (unfold dz_w; omega)) | rfl) ?_
                refine xr_goto hc rfl (t := 31) rfl ?_
                first
                  | (exfalso; omega)
                  | (rw [if_pos ⟨by omega, by omega⟩] at et
                     have e1 := congrArg Prod.fst et
                     have e2 := congrArg Prod.snd et
                     dsimp only at e1 e2
                     have l0 := ih (k + 1) N3 (some (dz_i (qi : Int))) (some (dz_i (qj : Int))) (some (dz_i (t_at pl kd wt nx (swp (fun k => hs n (5 + k)) qi qj) m.toNat (hs n)))) (by omega) (tfr_trans tf2 y1)
                     rw [e1, e2] at l0
                     exact l0)
                  | (rw [if_neg (fun z => by have z2 := z.2; omega)] at et
                     rw [← et]
                     first
                       | exact ih (k + 1) N3 _ _ _ (by omega) (tfr_trans tf2 y1)
                       | exact ih (k + 1) N2 _ _ _ (by omega) tf2)
                  | (rw [if_neg (fun z => by have z2 := z.1; omega)] at et
                     rw [← et]
                     exact ih (k + 1) N2 _ _ _ (by omega) tf2)
    refine D_layTried hl hR hW (fun M1 z1 z2 z3 z4 z5 => ?_)
    refine xk_0 ?_
    refine xr_aloadn hc rfl rfl ?_
    refine xr_iloadn hc rfl rfl ?_
    refine xr_callv1 hc rfl (by first | assumption | rfl) rfl rfl rfl (Nat.le_of_ble_eq_true rfl) (Nat.zero_le _) (Nat.zero_le _) ?_
    refine D_beatsTried (w := w) (pl := pl) (B := 29 * n) (kd := kd) (wt := wt) (nx := nx) (s := hs n) hl (tfr_pg z1 hpg) hp hst (by omega) z2 z5 (by omega) (fun M2 y1 y2 y3 y4 => ?_)
    have tf := tfr_trans z1 y1
    have hR2 := RM_scr hR hW (tfr_scr tf)
    have ea : t_run pl kd wt nx m.toNat (hs n) 1 - hs n 1 = t_at pl kd wt nx (fun k => hs n (5 + k)) m.toNat (hs n) := t_at_run hp hst (by omega) (t_eq_refl w (hs n)) rfl (fun i hi => rfl)
    rw [ea]
    refine xk_1 ?_
    refine xr_istore3 hc rfl rfl ?_
    refine xr_bipush hc rfl ?_
    refine xr_istore4 hc rfl rfl ?_
    refine xr_iconst hc rfl ?_
    refine xr_istore5 hc rfl rfl ?_
    exact lp (w.toNat * w.toNat) 0 M2 none none none (by omega) tf
