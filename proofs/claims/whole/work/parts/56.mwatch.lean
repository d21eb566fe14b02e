/-! The step to watch, of the other one. Written by l2_56.py. -/
set_option maxRecDepth 100000 in
theorem D_greatestPart {xo : Nat → List Int} {d : Nat} {Q : dz_Q} {sh : List (Nat ⊕ (Nat × Nat))} {rf : Nat → Nat → Nat} {M : Nat → Nat → Int} {rs : Nat → Int} {it : Nat → Nat → Int} {ts : Nat → Int} {ch : Nat → Nat → Int} {tl up lo : Int} {fn : Nat → Int} {w pl : Int} {kd wt nx : Nat → Int} {n : Nat} {hs : Nat → Nat → Int} {kp : Nat → Int} {kh : Nat → Nat → Nat → Int} {i m : Int} (hl : ml sh rf) (hR : RM M rs it ts ch tl up lo fn w pl kd wt nx n hs kp kh) (hW : WF rs it ts ch tl up lo fn w pl kd wt nx n hs kp kh) (hi : 0 ≤ i ∧ i < w) (hm : 0 ≤ m ∧ m ≤ 40) (hQ : ∀ M2 : Nat → Nat → Int, tfr M M2 → Q (some (dz_i (g_max (ccl pl kd wt nx w (hs n) i.toNat m.toNat) pl.toNat pl.toNat))) (sh, rf, M2)) : dz_E dz_pp xo (d + 6) 191 [dz_r 115, dz_i i, dz_i m] (sh, rf, M) Q := by
  refine ⟨Nat.le_of_ble_eq_true rfl, ?_⟩
  have hc := dz_E_m dz_pp xo (d + 5)
  show dz_X (dz_E dz_pp xo (d + 5)) dz_pp xo (dz_pp 191) Q 0 [some (dz_r 115), some (dz_i i), some (dz_i m), none, none, none, none, none] [] 0 0 (sh, rf, M)
  obtain ⟨c0, c1, c2, c3, c4, c5, c6, c7, c8, c9, c10, c11, c12, c13, c14, c15, c16, c17, c18, c19, c20, c21, c22, c23, c24, c25, c26, c27, c28, c29⟩ := id hl
  obtain ⟨hrow, htxt, htl, hup, hlo, hfn, hdr, hkp⟩ := id hR
  obtain ⟨wrow, wtxt, wdr, wst, wkp⟩ := id hW
  have hw6 := WF_w hW
  have hdr3 : drM M w pl kd wt nx n hs ∧ w ≤ 6 ∧ n ≤ 40 := ⟨hdr, hw6.2, wst.1⟩
  have hkp3 : kepM M w kp kh ∧ w ≤ 6 ∧ ∀ k, k < 3 → kp k ≤ 40 := ⟨hkp, hw6.2, fun k hk => by
    rcases wkp k hk with z | z
    · omega
    · exact z.2.1⟩
  obtain ⟨a1, a2, a3, b1, b2, b3⟩ := id hdr
  have hpg : pgM M w pl kd wt nx := ⟨a1, a2, a3⟩
  have b2c : ∀ c, okc w c → M 116 c = hs n c := fun c hc => by
    have h3 := b2 c hc
    rw [Nat.zero_add] at h3
    exact h3
  have hw0 : w ≠ 0 := by omega
  have hp := WF_p hW (by omega)
  have hst := wst.2 n (Nat.le_refl n)
  obtain ⟨p1, p2, p3, p4, p5⟩ := id hp
  obtain ⟨st0, st1, st2, st3, st4, st5, st6, st7, st8⟩ := id hst
  have lp : ∀ (m_ : Nat) (p : Nat) (N : Nat → Nat → Int) (e1 e2 e3 : Option dz_V), (p : Int) + m_ = pl → tfr M N → dz_X (dz_E dz_pp xo (d + 5)) dz_pp xo (dz_pp 191) Q 5 [some (dz_r 115), some (dz_i i), some (dz_i m), some (dz_i (g_max (ccl pl kd wt nx w (hs n) i.toNat m.toNat) pl.toNat p)), some (dz_i (p : Int)), e1, e2, e3] [] 0 0 (sh, rf, N) := by
    intro m_
    induction m_ with
    | zero =>
      intro p N e1 e2 e3 hp2 h1
      have n1 : N 115 1 = pl := by rw [h1 _ _ (by omega) (by omega)]; exact a2
      have hRN := RM_scr hR hW (tfr_scr h1)
      have ep : p = pl.toNat := by omega
      subst ep
      refine xr_iload hc rfl rfl ?_
      refine xr_aloadn hc rfl rfl ?_
      refine xr_getfi hc rfl (Or.inl rfl) (by first | assumption | rfl) ?_
      rw [n1]
      refine xr_icmp_ge hc rfl (t := 116) rfl (fun b11 => ?_) (fun b11 => ?_)
      · refine xr_iloadn hc rfl rfl ?_
        refine xr_ireturn hc rfl rfl (Nat.zero_le _) (Nat.zero_le _) ?_
        exact hQ N h1
      · omega
    | succ m_ ih =>
      intro p N e1 e2 e3 hp2 h1
      have n1 : N 115 1 = pl := by rw [h1 _ _ (by omega) (by omega)]; exact a2
      have hRN := RM_scr hR hW (tfr_scr h1)
      have IH := ih
      have lq : ∀ (m_ : Nat) (q : Nat) (N : Nat → Nat → Int), (q : Int) + m_ = pl → tfr M N → dz_X (dz_E dz_pp xo (d + 5)) dz_pp xo (dz_pp 191) Q 44 [some (dz_r 115), some (dz_i i), some (dz_i m), some (dz_i (g_max (ccl pl kd wt nx w (hs n) i.toNat m.toNat) pl.toNat p)), some (dz_i (p : Int)), some (dz_i (if mly (hs n) w i.toNat p then t_at pl kd wt nx (fup (fun k => hs n (5 + k)) i.toNat p) m.toNat (hs n) else -1)), some (dz_i (if (ccl pl kd wt nx w (hs n) i.toNat m.toNat) p = -9 then 0 else g_cnt (ccl pl kd wt nx w (hs n) i.toNat m.toNat) ((ccl pl kd wt nx w (hs n) i.toNat m.toNat) p) q)), some (dz_i (q : Int))] [] 0 0 (sh, rf, N) := by
        have hgm := g_max_in (ccl pl kd wt nx w (hs n) i.toNat m.toNat) pl.toNat p
        have em : g_max (ccl pl kd wt nx w (hs n) i.toNat m.toNat) pl.toNat (p + 1) = max (g_max (ccl pl kd wt nx w (hs n) i.toNat m.toNat) pl.toNat p) (if (ccl pl kd wt nx w (hs n) i.toNat m.toNat) p = -9 then 0 else g_cnt (ccl pl kd wt nx w (hs n) i.toNat m.toNat) ((ccl pl kd wt nx w (hs n) i.toNat m.toNat) p) pl.toNat) := rfl
        have ecp : (ccl pl kd wt nx w (hs n) i.toNat m.toNat) p = if mly (hs n) w i.toNat p then t_at pl kd wt nx (fup (fun k => hs n (5 + k)) i.toNat p) m.toNat (hs n) else -9 := rfl
        have hA := t_at_in (sp := fup (fun k => hs n (5 + k)) i.toNat p) (m := m.toNat) hp hst (by omega)
        by_cases y1 : mly (hs n) w i.toNat p
        · rw [if_pos y1] at ecp ⊢
          have h9 : ¬ (ccl pl kd wt nx w (hs n) i.toNat m.toNat) p = -9 := by omega
          have hcn := g_cnt_in (ccl pl kd wt nx w (hs n) i.toNat m.toNat) ((ccl pl kd wt nx w (hs n) i.toNat m.toNat) p) pl.toNat
          rw [if_neg h9] at em
          simp only [if_neg h9]
          intro m_
          induction m_ with
          | zero =>
            intro q N hq h1
            have eq : q = pl.toNat := by omega
            subst eq
            have n1 : N 115 1 = pl := by rw [h1 _ _ (by omega) (by omega)]; exact a2
            have hRN := RM_scr hR hW (tfr_scr h1)
            refine xr_iload hc rfl rfl ?_
            refine xr_aloadn hc rfl rfl ?_
            refine xr_getfi hc rfl (Or.inl rfl) (by first | assumption | rfl) ?_
            rw [n1]
            refine xr_icmp_ge hc rfl (t := 97) rfl (fun b50 => ?_) (fun b50 => ?_)
            · refine xr_iload hc rfl rfl ?_
              refine xr_iloadn hc rfl rfl ?_
              refine xr_icmp_le hc rfl (t := 108) rfl (fun b100 => ?_) (fun b100 => ?_)
              · refine xr_iloadn hc rfl rfl ?_
                refine xr_istore3 hc rfl rfl ?_
                refine xr_iincz4 hc rfl rfl (by first | exact dz_wid (by first | omega | (unfold dz_w; omega)) (by first | omega | (unfold dz_w; omega)) | rfl) ?_
                refine xr_goto hc rfl (t := 5) rfl ?_
                first
                  | (rw [show g_cnt (ccl pl kd wt nx w (hs n) i.toNat m.toNat) ((ccl pl kd wt nx w (hs n) i.toNat m.toNat) p) pl.toNat = g_max (ccl pl kd wt nx w (hs n) i.toNat m.toNat) pl.toNat (p + 1) by omega]
                     exact IH (p + 1) N _ _ _ (by omega) h1)
                  | (rw [show g_max (ccl pl kd wt nx w (hs n) i.toNat m.toNat) pl.toNat p = g_max (ccl pl kd wt nx w (hs n) i.toNat m.toNat) pl.toNat (p + 1) by omega]
                     exact IH (p + 1) N _ _ _ (by omega) h1)
              · refine xr_iload hc rfl rfl ?_
                refine xr_goto hc rfl (t := 109) rfl ?_
                refine xr_istore3 hc rfl rfl ?_
                refine xr_iincz4 hc rfl rfl (by first | exact dz_wid (by first | omega | (unfold dz_w; omega)) (by first | omega | (unfold dz_w; omega)) | rfl) ?_
                refine xr_goto hc rfl (t := 5) rfl ?_
                first
                  | (rw [show g_cnt (ccl pl kd wt nx w (hs n) i.toNat m.toNat) ((ccl pl kd wt nx w (hs n) i.toNat m.toNat) p) pl.toNat = g_max (ccl pl kd wt nx w (hs n) i.toNat m.toNat) pl.toNat (p + 1) by omega]
                     exact IH (p + 1) N _ _ _ (by omega) h1)
                  | (rw [show g_max (ccl pl kd wt nx w (hs n) i.toNat m.toNat) pl.toNat p = g_max (ccl pl kd wt nx w (hs n) i.toNat m.toNat) pl.toNat (p + 1) by omega]
                     exact IH (p + 1) N _ _ _ (by omega) h1)
            · omega
          | succ m_ ih =>
            intro q N hq h1
            have hcq := g_cnt_in (ccl pl kd wt nx w (hs n) i.toNat m.toNat) ((ccl pl kd wt nx w (hs n) i.toNat m.toNat) p) q
            have ec : g_cnt (ccl pl kd wt nx w (hs n) i.toNat m.toNat) ((ccl pl kd wt nx w (hs n) i.toNat m.toNat) p) (q + 1) = g_cnt (ccl pl kd wt nx w (hs n) i.toNat m.toNat) ((ccl pl kd wt nx w (hs n) i.toNat m.toNat) p) q + if (ccl pl kd wt nx w (hs n) i.toNat m.toNat) q = (ccl pl kd wt nx w (hs n) i.toNat m.toNat) p then 1 else 0 := rfl
            have n1 : N 115 1 = pl := by rw [h1 _ _ (by omega) (by omega)]; exact a2
            have hRN := RM_scr hR hW (tfr_scr h1)
            refine xr_iload hc rfl rfl ?_
            refine xr_aloadn hc rfl rfl ?_
            refine xr_getfi hc rfl (Or.inl rfl) (by first | assumption | rfl) ?_
            rw [n1]
            refine xr_icmp_ge hc rfl (t := 97) rfl (fun b50 => ?_) (fun b50 => ?_)
            · omega
            · refine xr_iload hc rfl rfl ?_
              refine xr_iload hc rfl rfl ?_
              refine xr_if_lt hc rfl (t := 87) rfl (fun b57 => ?_) (fun b57 => ?_)
              · refine xr_iconst hc rfl ?_
                refine xr_iaddz hc rfl (by first | exact dz_wid (by first | omega | (unfold dz_w; omega)) (by first | omega | (unfold dz_w; omega)) | rfl) ?_
                refine xr_istore6 hc rfl rfl ?_
                refine xr_iincz7 hc rfl rfl (by first | exact dz_wid (by first | omega | (unfold dz_w; omega)) (by first | omega | (unfold dz_w; omega)) | rfl) ?_
                refine xr_goto hc rfl (t := 44) rfl ?_
                have ecq : (ccl pl kd wt nx w (hs n) i.toNat m.toNat) q = if mly (hs n) w i.toNat q then t_at pl kd wt nx (fup (fun k => hs n (5 + k)) i.toNat q) m.toNat (hs n) else -9 := rfl
                first
                  | (exfalso; omega)
                  | (rw [if_pos y2] at ecq
                     have l0 := ih (q + 1) N2 (by omega) (tfr_trans h1 x1)
                     first
                       | (rw [ec, if_pos (by omega)] at l0
                          exact l0)
                       | (rw [ec, if_neg (by omega), Int.add_zero] at l0
                          rw [Int.add_zero]
                          exact l0))
                  | (rw [if_neg y2] at ecq
                     have l0 := ih (q + 1) N (by omega) h1
                     rw [ec, if_neg (by omega), Int.add_zero] at l0
                     rw [Int.add_zero]
                     exact l0)
              · refine xr_aloadn hc rfl rfl ?_
                refine xr_iloadn hc rfl rfl ?_
                refine xr_iload hc rfl rfl ?_
                refine xr_callv2 hc rfl (by first | assumption | rfl) rfl rfl rfl (Nat.le_of_ble_eq_true rfl) (Nat.zero_le _) (Nat.zero_le _) ?_
                refine D_mly hl hRN hW (by omega) (fun y2 => ?_) (fun y2 => ?_)
                · refine xk_1 ?_
                  refine xr_iff hc rfl (by simp [dz_cmp]) ?_
                  refine xr_aloadn hc rfl rfl ?_
                  refine xr_iloadn hc rfl rfl ?_
                  refine xr_iload hc rfl rfl ?_
                  refine xr_iloadn hc rfl rfl ?_
                  refine xr_callv3 hc rfl (by first | assumption | rfl) rfl rfl rfl (Nat.le_of_ble_eq_true rfl) (Nat.zero_le _) (Nat.zero_le _) ?_
                  refine D_beatsAt hl hRN hW (by omega) (by omega) (by omega) (fun N2 x1 => ?_)
                  refine xk_1 ?_
                  refine xr_iload hc rfl rfl ?_
                  refine xr_icmp_ne hc rfl (t := 87) rfl (fun b80 => ?_) (fun b80 => ?_)
                  · refine xr_iconst hc rfl ?_
                    refine xr_iaddz hc rfl (by first | exact dz_wid (by first | omega | (unfold dz_w; omega)) (by first | omega | (unfold dz_w; omega)) | rfl) ?_
                    refine xr_istore6 hc rfl rfl ?_
                    refine xr_iincz7 hc rfl rfl (by first | exact dz_wid (by first | omega | (unfold dz_w; omega)) (by first | omega | (unfold dz_w; omega)) | rfl) ?_
                    refine xr_goto hc rfl (t := 44) rfl ?_
                    have ecq : (ccl pl kd wt nx w (hs n) i.toNat m.toNat) q = if mly (hs n) w i.toNat q then t_at pl kd wt nx (fup (fun k => hs n (5 + k)) i.toNat q) m.toNat (hs n) else -9 := rfl
                    first
                      | (exfalso; omega)
                      | (rw [if_pos y2] at ecq
                         have l0 := ih (q + 1) N2 (by omega) (tfr_trans h1 x1)
                         first
                           | (rw [ec, if_pos (by omega)] at l0
                              exact l0)
                           | (rw [ec, if_neg (by omega), Int.add_zero] at l0
                              rw [Int.add_zero]
                              exact l0))
                      | (rw [if_neg y2] at ecq
                         have l0 := ih (q + 1) N (by omega) h1
                         rw [ec, if_neg (by omega), Int.add_zero] at l0
                         rw [Int.add_zero]
                         exact l0)
                  · refine xr_iconst hc rfl ?_
                    refine xr_goto hc rfl (t := 88) rfl ?_
                    refine xr_iaddz hc rfl (by first | exact dz_wid (by first | omega | (unfold dz_w; omega)) (by first | omega | (unfold dz_w; omega)) | rfl) ?_
                    refine xr_istore6 hc rfl rfl ?_
                    refine xr_iincz7 hc rfl rfl (by first | exact dz_wid (by first | omega | (unfold dz_w; omega)) (by first | omega | (unfold dz_w; omega)) | rfl) ?_
                    refine xr_goto hc rfl (t := 44) rfl ?_
                    have ecq : (ccl pl kd wt nx w (hs n) i.toNat m.toNat) q = if mly (hs n) w i.toNat q then t_at pl kd wt nx (fup (fun k => hs n (5 + k)) i.toNat q) m.toNat (hs n) else -9 := rfl
                    first
                      | (exfalso; omega)
                      | (rw [if_pos y2] at ecq
                         have l0 := ih (q + 1) N2 (by omega) (tfr_trans h1 x1)
                         first
                           | (rw [ec, if_pos (by omega)] at l0
                              exact l0)
                           | (rw [ec, if_neg (by omega), Int.add_zero] at l0
                              rw [Int.add_zero]
                              exact l0))
                      | (rw [if_neg y2] at ecq
                         have l0 := ih (q + 1) N (by omega) h1
                         rw [ec, if_neg (by omega), Int.add_zero] at l0
                         rw [Int.add_zero]
                         exact l0)
                · refine xk_1 ?_
                  refine xr_ift hc rfl (t := 87) rfl (by simp [dz_cmp]) ?_
                  refine xr_iconst hc rfl ?_
                  refine xr_iaddz hc rfl (by first | exact dz_wid (by first | omega | (unfold dz_w; omega)) (by first | omega | (unfold dz_w; omega)) | rfl) ?_
                  refine xr_istore6 hc rfl rfl ?_
                  refine xr_iincz7 hc rfl rfl (by first | exact dz_wid (by first | omega | (unfold dz_w; omega)) (by first | omega | (unfold dz_w; omega)) | rfl) ?_
                  refine xr_goto hc rfl (t := 44) rfl ?_
                  have ecq : (ccl pl kd wt nx w (hs n) i.toNat m.toNat) q = if mly (hs n) w i.toNat q then t_at pl kd wt nx (fup (fun k => hs n (5 + k)) i.toNat q) m.toNat (hs n) else -9 := rfl
                  first
                    | (exfalso; omega)
                    | (rw [if_pos y2] at ecq
                       have l0 := ih (q + 1) N2 (by omega) (tfr_trans h1 x1)
                       first
                         | (rw [ec, if_pos (by omega)] at l0
                            exact l0)
                         | (rw [ec, if_neg (by omega), Int.add_zero] at l0
                            rw [Int.add_zero]
                            exact l0))
                    | (rw [if_neg y2] at ecq
                       have l0 := ih (q + 1) N (by omega) h1
                       rw [ec, if_neg (by omega), Int.add_zero] at l0
                       rw [Int.add_zero]
                       exact l0)
        · rw [if_neg y1] at ecp ⊢
          rw [if_pos ecp] at em
          simp only [if_pos ecp]
          intro m_
          induction m_ with
          | zero =>
            intro q N hq h1
            have n1 : N 115 1 = pl := by rw [h1 _ _ (by omega) (by omega)]; exact a2
            have hRN := RM_scr hR hW (tfr_scr h1)
            refine xr_iload hc rfl rfl ?_
            refine xr_aloadn hc rfl rfl ?_
            refine xr_getfi hc rfl (Or.inl rfl) (by first | assumption | rfl) ?_
            rw [n1]
            refine xr_icmp_ge hc rfl (t := 97) rfl (fun b50 => ?_) (fun b50 => ?_)
            · refine xr_iload hc rfl rfl ?_
              refine xr_iloadn hc rfl rfl ?_
              refine xr_icmp_le hc rfl (t := 108) rfl (fun b100 => ?_) (fun b100 => ?_)
              · refine xr_iloadn hc rfl rfl ?_
                refine xr_istore3 hc rfl rfl ?_
                refine xr_iincz4 hc rfl rfl (by first | exact dz_wid (by first | omega | (unfold dz_w; omega)) (by first | omega | (unfold dz_w; omega)) | rfl) ?_
                refine xr_goto hc rfl (t := 5) rfl ?_
                first
                  | (rw [show (0 : Int) = g_max (ccl pl kd wt nx w (hs n) i.toNat m.toNat) pl.toNat (p + 1) by omega]
                     exact IH (p + 1) N _ _ _ (by omega) h1)
                  | (rw [show g_max (ccl pl kd wt nx w (hs n) i.toNat m.toNat) pl.toNat p = g_max (ccl pl kd wt nx w (hs n) i.toNat m.toNat) pl.toNat (p + 1) by omega]
                     exact IH (p + 1) N _ _ _ (by omega) h1)
              · refine xr_iload hc rfl rfl ?_
                refine xr_goto hc rfl (t := 109) rfl ?_
                refine xr_istore3 hc rfl rfl ?_
                refine xr_iincz4 hc rfl rfl (by first | exact dz_wid (by first | omega | (unfold dz_w; omega)) (by first | omega | (unfold dz_w; omega)) | rfl) ?_
                refine xr_goto hc rfl (t := 5) rfl ?_
                first
                  | (rw [show (0 : Int) = g_max (ccl pl kd wt nx w (hs n) i.toNat m.toNat) pl.toNat (p + 1) by omega]
                     exact IH (p + 1) N _ _ _ (by omega) h1)
                  | (rw [show g_max (ccl pl kd wt nx w (hs n) i.toNat m.toNat) pl.toNat p = g_max (ccl pl kd wt nx w (hs n) i.toNat m.toNat) pl.toNat (p + 1) by omega]
                     exact IH (p + 1) N _ _ _ (by omega) h1)
            · omega
          | succ m_ ih =>
            intro q N hq h1
            have n1 : N 115 1 = pl := by rw [h1 _ _ (by omega) (by omega)]; exact a2
            have hRN := RM_scr hR hW (tfr_scr h1)
            refine xr_iload hc rfl rfl ?_
            refine xr_aloadn hc rfl rfl ?_
            refine xr_getfi hc rfl (Or.inl rfl) (by first | assumption | rfl) ?_
            rw [n1]
            refine xr_icmp_ge hc rfl (t := 97) rfl (fun b50 => ?_) (fun b50 => ?_)
            · omega
            · refine xr_iload hc rfl rfl ?_
              refine xr_iload hc rfl rfl ?_
              refine xr_if_lt hc rfl (t := 87) rfl (fun b57 => ?_) (fun b57 => ?_)
              · refine xr_iconst hc rfl ?_
                refine xr_iaddz hc rfl (by first | exact dz_wid (by first | omega | (unfold dz_w; omega)) (by first | omega | (unfold dz_w; omega)) | rfl) ?_
                refine xr_istore6 hc rfl rfl ?_
                refine xr_iincz7 hc rfl rfl (by first | exact dz_wid (by first | omega | (unfold dz_w; omega)) (by first | omega | (unfold dz_w; omega)) | rfl) ?_
                refine xr_goto hc rfl (t := 44) rfl ?_
                have l0 := ih (q + 1) N (by omega) h1
                rw [Int.add_zero]
                exact l0
              · omega
      refine xr_iload hc rfl rfl ?_
      refine xr_aloadn hc rfl rfl ?_
      refine xr_getfi hc rfl (Or.inl rfl) (by first | assumption | rfl) ?_
      rw [n1]
      refine xr_icmp_ge hc rfl (t := 116) rfl (fun b11 => ?_) (fun b11 => ?_)
      · omega
      · refine xr_aloadn hc rfl rfl ?_
        refine xr_iloadn hc rfl rfl ?_
        refine xr_iload hc rfl rfl ?_
        refine xr_callv2 hc rfl (by first | assumption | rfl) rfl rfl rfl (Nat.le_of_ble_eq_true rfl) (Nat.zero_le _) (Nat.zero_le _) ?_
        refine D_mly hl hRN hW (by omega) (fun y1 => ?_) (fun y1 => ?_)
        · refine xk_1 ?_
          refine xr_iff hc rfl (by simp [dz_cmp]) ?_
          refine xr_aloadn hc rfl rfl ?_
          refine xr_iloadn hc rfl rfl ?_
          refine xr_iload hc rfl rfl ?_
          refine xr_iloadn hc rfl rfl ?_
          refine xr_callv3 hc rfl (by first | assumption | rfl) rfl rfl rfl (Nat.le_of_ble_eq_true rfl) (Nat.zero_le _) (Nat.zero_le _) ?_
          refine D_beatsAt hl hRN hW (by omega) (by omega) (by omega) (fun N2 x1 => ?_)
          refine xk_1 ?_
          refine xr_goto hc rfl (t := 36) rfl ?_
          refine xr_istore5 hc rfl rfl ?_
          refine xr_iconst hc rfl ?_
          refine xr_istore6 hc rfl rfl ?_
          refine xr_iconst hc rfl ?_
          refine xr_istore7 hc rfl rfl ?_
          have e0 : (if (ccl pl kd wt nx w (hs n) i.toNat m.toNat) p = -9 then 0 else g_cnt (ccl pl kd wt nx w (hs n) i.toNat m.toNat) ((ccl pl kd wt nx w (hs n) i.toNat m.toNat) p) 0) = 0 := by split <;> rfl
          first
            | (have l0 := lq pl.toNat 0 N2 (by omega) (tfr_trans h1 x1)
               rw [e0, if_pos y1] at l0
               exact l0)
            | (have l0 := lq pl.toNat 0 N (by omega) h1
               rw [e0, if_neg y1] at l0
               exact l0)
        · refine xk_1 ?_
          refine xr_ift hc rfl (t := 35) rfl (by simp [dz_cmp]) ?_
          refine xr_iconst hc rfl ?_
          refine xr_istore5 hc rfl rfl ?_
          refine xr_iconst hc rfl ?_
          refine xr_istore6 hc rfl rfl ?_
          refine xr_iconst hc rfl ?_
          refine xr_istore7 hc rfl rfl ?_
          have e0 : (if (ccl pl kd wt nx w (hs n) i.toNat m.toNat) p = -9 then 0 else g_cnt (ccl pl kd wt nx w (hs n) i.toNat m.toNat) ((ccl pl kd wt nx w (hs n) i.toNat m.toNat) p) 0) = 0 := by split <;> rfl
          first
            | (have l0 := lq pl.toNat 0 N2 (by omega) (tfr_trans h1 x1)
               rw [e0, if_pos y1] at l0
               exact l0)
            | (have l0 := lq pl.toNat 0 N (by omega) h1
               rw [e0, if_neg y1] at l0
               exact l0)
  refine xr_iconst hc rfl ?_
  refine xr_istore3 hc rfl rfl ?_
  refine xr_iconst hc rfl ?_
  refine xr_istore4 hc rfl rfl ?_
  exact lp pl.toNat 0 M _ _ _ (by omega) (tfr_refl M)
set_option maxRecDepth 100000 in
theorem D_watch {xo : Nat → List Int} {d : Nat} {Q : dz_Q} {sh : List (Nat ⊕ (Nat × Nat))} {rf : Nat → Nat → Nat} {M : Nat → Nat → Int} {rs : Nat → Int} {it : Nat → Nat → Int} {ts : Nat → Int} {ch : Nat → Nat → Int} {tl up lo : Int} {fn : Nat → Int} {w pl : Int} {kd wt nx : Nat → Int} {n : Nat} {hs : Nat → Nat → Int} {kp : Nat → Int} {kh : Nat → Nat → Nat → Int} {i : Int} (hl : ml sh rf) (hR : RM M rs it ts ch tl up lo fn w pl kd wt nx n hs kp kh) (hW : WF rs it ts ch tl up lo fn w pl kd wt nx n hs kp kh) (hQ : ∀ M2 : Nat → Nat → Int, (∀ q2 k2, q2 < 115 → M2 q2 k2 = M q2 k2) → RM M2 rs it ts ch (o_watch tl w pl kd wt nx (hs n) i).2 up lo fn w pl kd wt nx n hs kp kh → Q (some (dz_i ((o_watch tl w pl kd wt nx (hs n) i).1))) (sh, rf, M2)) : dz_E dz_pp xo (d + 7) 192 [dz_r 115, dz_i i] (sh, rf, M) Q := by
  refine ⟨Nat.le_of_ble_eq_true rfl, ?_⟩
  have hc := dz_E_m dz_pp xo (d + 6)
  show dz_X (dz_E dz_pp xo (d + 6)) dz_pp xo (dz_pp 192) Q 0 [some (dz_r 115), some (dz_i i), none, none, none, none] [] 0 0 (sh, rf, M)
  obtain ⟨c0, c1, c2, c3, c4, c5, c6, c7, c8, c9, c10, c11, c12, c13, c14, c15, c16, c17, c18, c19, c20, c21, c22, c23, c24, c25, c26, c27, c28, c29⟩ := id hl
  obtain ⟨hrow, htxt, htl, hup, hlo, hfn, hdr, hkp⟩ := id hR
  obtain ⟨wrow, wtxt, wdr, wst, wkp⟩ := id hW
  have hw6 := WF_w hW
  have hdr3 : drM M w pl kd wt nx n hs ∧ w ≤ 6 ∧ n ≤ 40 := ⟨hdr, hw6.2, wst.1⟩
  have hkp3 : kepM M w kp kh ∧ w ≤ 6 ∧ ∀ k, k < 3 → kp k ≤ 40 := ⟨hkp, hw6.2, fun k hk => by
    rcases wkp k hk with z | z
    · omega
    · exact z.2.1⟩
  obtain ⟨a1, a2, a3, b1, b2, b3⟩ := id hdr
  have hpg : pgM M w pl kd wt nx := ⟨a1, a2, a3⟩
  have b2c : ∀ c, okc w c → M 116 c = hs n c := fun c hc => by
    have h3 := b2 c hc
    rw [Nat.zero_add] at h3
    exact h3
  refine xr_aloadn hc rfl rfl ?_
  refine xr_iloadn hc rfl rfl ?_
  refine xr_callv1 hc rfl (by first | assumption | rfl) rfl rfl rfl (Nat.le_of_ble_eq_true rfl) (Nat.zero_le _) (Nat.zero_le _) ?_
  refine D_isWord hl a1 hw6 (fun u1 v1 => ?_) (fun u1 => ?_)
  · refine xk_1 ?_
    refine xr_ift hc rfl (t := 10) rfl (by simp [dz_cmp]) ?_
    have lp : ∀ (m_ : Nat) (k : Nat) (N : Nat → Nat → Int) (e : Option dz_V), k + m_ = 12 → tfr M N → dz_X (dz_E dz_pp xo (d + 6)) dz_pp xo (dz_pp 192) Q 19 [some (dz_r 115), some (dz_i i), some (dz_i (t_wt (fun m => g_max (ccl pl kd wt nx w (hs n) i.toNat m) pl.toNat pl.toNat) 99999 k).1), some (dz_i (t_wt (fun m => g_max (ccl pl kd wt nx w (hs n) i.toNat m) pl.toNat pl.toNat) 99999 k).2), some (dz_i ((k + 1 : Nat) : Int)), e] [] 0 0 (sh, rf, N) := by
      intro m_
      induction m_ with
      | zero =>
        intro k N e hk h1
        have ek : k = 12 := by omega
        subst ek
        have hRN := RM_scr hR hW (tfr_scr h1)
        refine xr_iload hc rfl rfl ?_
        refine xr_bipush hc rfl ?_
        refine xr_icmp_ge hc rfl (t := 67) rfl (fun b23 => ?_) (fun b23 => ?_)
        · refine xr_aloadn hc rfl rfl ?_
          refine xr_iloadn hc rfl rfl ?_
          refine xr_putfi hc rfl rfl (by first | assumption | rfl) ?_
          refine xr_iloadn hc rfl rfl ?_
          refine xr_ireturn hc rfl rfl (Nat.zero_le _) (Nat.zero_le _) ?_
          simp only [o_watch] at hQ
          rw [if_neg (by omega)] at hQ
          obtain ⟨hrow, htxt, htl, hup, hlo, hfn, hdr, hkp⟩ := id hRN
          have hdr3 : drM _ w pl kd wt nx n hs ∧ w ≤ 6 ∧ n ≤ 40 := ⟨hdr, hw6.2, wst.1⟩
          have hkp3 := And.intro hkp hkp3.2
          refine hQ _ (fun q2 k2 u => by rw [dz_up_ne (by omega), tfr_x h1 _ _ u]) ⟨rowM_fr hrow (fun k2 => by first | rw [dz_up_ne (by omega)] | rw [dz_up_k (by omega)]) (fun k2 => by first | rw [dz_up_ne (by omega)] | rw [dz_up_k (by omega)]), txtM_fr htxt (fun k2 => by first | rw [dz_up_ne (by omega)] | rw [dz_up_k (by omega)]) (fun k2 => by first | rw [dz_up_ne (by omega)] | rw [dz_up_k (by omega)]), by rw [dz_up_eq], Eq.trans (by first | rw [dz_up_ne (by omega)] | rw [dz_up_k (by omega)]) hup, Eq.trans (by first | rw [dz_up_ne (by omega)] | rw [dz_up_k (by omega)]) hlo, fndM_fr hfn (by first | rw [dz_up_ne (by omega)] | rw [dz_up_k (by omega)]) (fun k2 => by first | rw [dz_up_ne (by omega)] | rw [dz_up_k (by omega)]), drM_fr hdr3 (by first | rw [dz_up_ne (by omega)] | rw [dz_up_k (by omega)]) (by first | rw [dz_up_ne (by omega)] | rw [dz_up_k (by omega)]) (fun k2 => by first | rw [dz_up_ne (by omega)] | rw [dz_up_k (by omega)]) (fun k2 => by first | rw [dz_up_ne (by omega)] | rw [dz_up_k (by omega)]) (fun k2 => by first | rw [dz_up_ne (by omega)] | rw [dz_up_k (by omega)]) (fun k2 u1 => by first | rw [dz_up_ne (by omega)] | rw [dz_up_k (by omega)]), kepM_fr hkp3 (fun k2 u1 u2 => by first | rw [dz_up_ne (by omega)] | rw [dz_up_k (by omega)])⟩
        · omega
      | succ m_ ih =>
        intro k N e hk h1
        have hRN := RM_scr hR hW (tfr_scr h1)
        have et : t_wt (fun m => g_max (ccl pl kd wt nx w (hs n) i.toNat m) pl.toNat pl.toNat) 99999 (k + 1) = if (fun m => g_max (ccl pl kd wt nx w (hs n) i.toNat m) pl.toNat pl.toNat) (k + 1) < (t_wt (fun m => g_max (ccl pl kd wt nx w (hs n) i.toNat m) pl.toNat pl.toNat) 99999 k).2 then (((k + 1 : Nat) : Int), (fun m => g_max (ccl pl kd wt nx w (hs n) i.toNat m) pl.toNat pl.toNat) (k + 1)) else (t_wt (fun m => g_max (ccl pl kd wt nx w (hs n) i.toNat m) pl.toNat pl.toNat) 99999 k) := rfl
        have hgi := g_max_in (ccl pl kd wt nx w (hs n) i.toNat (k + 1)) pl.toNat pl.toNat
        refine xr_iload hc rfl rfl ?_
        refine xr_bipush hc rfl ?_
        refine xr_icmp_ge hc rfl (t := 67) rfl (fun b23 => ?_) (fun b23 => ?_)
        · omega
        · refine xr_aloadn hc rfl rfl ?_
          refine xr_iloadn hc rfl rfl ?_
          refine xr_iload hc rfl rfl ?_
          refine xr_callv2 hc rfl (by first | assumption | rfl) rfl rfl rfl (Nat.le_of_ble_eq_true rfl) (Nat.zero_le _) (Nat.zero_le _) ?_
          refine D_greatestPart hl hRN hW (by omega) (by omega) (fun N2 x1 => ?_)
          rw [Int.toNat_natCast]
          refine xk_1 ?_
          refine xr_istore5 hc rfl rfl ?_
          refine xr_iload hc rfl rfl ?_
          refine xr_iloadn hc rfl rfl ?_
          refine xr_icmp_ge hc rfl (t := 46) rfl (fun b38 => ?_) (fun b38 => ?_)
          · refine xr_iloadn hc rfl rfl ?_
            refine xr_istore2 hc rfl rfl ?_
            refine xr_iload hc rfl rfl ?_
            refine xr_iloadn hc rfl rfl ?_
            refine xr_icmp_ge hc rfl (t := 59) rfl (fun b51 => ?_) (fun b51 => ?_)
            · refine xr_iloadn hc rfl rfl ?_
              refine xr_istore3 hc rfl rfl ?_
              refine xr_iincz4 hc rfl rfl (by first | exact dz_wid (by first | omega | (unfold dz_w; omega)) (by first | omega | (unfold dz_w; omega)) | rfl) ?_
              refine xr_goto hc rfl (t := 19) rfl ?_
              have en : ((k + 1 : Nat) : Int) + 1 = ((k + 1 + 1 : Nat) : Int) := by omega
              first
                | (exfalso; omega)
                | (rw [if_pos (show (fun m => g_max (ccl pl kd wt nx w (hs n) i.toNat m) pl.toNat pl.toNat) (k + 1) < (t_wt (fun m => g_max (ccl pl kd wt nx w (hs n) i.toNat m) pl.toNat pl.toNat) 99999 k).2 by assumption)] at et
                   have e1 := congrArg Prod.fst et
                   have e2 := congrArg Prod.snd et
                   dsimp only at e1 e2
                   have l0 := ih (k + 1) N2 (some (dz_i (g_max (ccl pl kd wt nx w (hs n) i.toNat (k + 1)) pl.toNat pl.toNat))) (by omega) (tfr_trans h1 x1)
                   rw [e1, e2] at l0
                   rw [en]
                   exact l0)
                | (rw [if_neg (show ¬ (fun m => g_max (ccl pl kd wt nx w (hs n) i.toNat m) pl.toNat pl.toNat) (k + 1) < (t_wt (fun m => g_max (ccl pl kd wt nx w (hs n) i.toNat m) pl.toNat pl.toNat) 99999 k).2 by show ¬ (g_max _ _ _ < _); omega)] at et
                   rw [← et, en]
                   exact ih (k + 1) N2 _ (by omega) (tfr_trans h1 x1))
            · refine xr_iload hc rfl rfl ?_
              refine xr_goto hc rfl (t := 60) rfl ?_
              refine xr_istore3 hc rfl rfl ?_
              refine xr_iincz4 hc rfl rfl (by first | exact dz_wid (by first | omega | (unfold dz_w; omega)) (by first | omega | (unfold dz_w; omega)) | rfl) ?_
              refine xr_goto hc rfl (t := 19) rfl ?_
              have en : ((k + 1 : Nat) : Int) + 1 = ((k + 1 + 1 : Nat) : Int) := by omega
              first
                | (exfalso; omega)
                | (rw [if_pos (show (fun m => g_max (ccl pl kd wt nx w (hs n) i.toNat m) pl.toNat pl.toNat) (k + 1) < (t_wt (fun m => g_max (ccl pl kd wt nx w (hs n) i.toNat m) pl.toNat pl.toNat) 99999 k).2 by assumption)] at et
                   have e1 := congrArg Prod.fst et
                   have e2 := congrArg Prod.snd et
                   dsimp only at e1 e2
                   have l0 := ih (k + 1) N2 (some (dz_i (g_max (ccl pl kd wt nx w (hs n) i.toNat (k + 1)) pl.toNat pl.toNat))) (by omega) (tfr_trans h1 x1)
                   rw [e1, e2] at l0
                   rw [en]
                   exact l0)
                | (rw [if_neg (show ¬ (fun m => g_max (ccl pl kd wt nx w (hs n) i.toNat m) pl.toNat pl.toNat) (k + 1) < (t_wt (fun m => g_max (ccl pl kd wt nx w (hs n) i.toNat m) pl.toNat pl.toNat) 99999 k).2 by show ¬ (g_max _ _ _ < _); omega)] at et
                   rw [← et, en]
                   exact ih (k + 1) N2 _ (by omega) (tfr_trans h1 x1))
          · refine xr_iload hc rfl rfl ?_
            refine xr_goto hc rfl (t := 47) rfl ?_
            refine xr_istore2 hc rfl rfl ?_
            refine xr_iload hc rfl rfl ?_
            refine xr_iloadn hc rfl rfl ?_
            refine xr_icmp_ge hc rfl (t := 59) rfl (fun b51 => ?_) (fun b51 => ?_)
            · refine xr_iloadn hc rfl rfl ?_
              refine xr_istore3 hc rfl rfl ?_
              refine xr_iincz4 hc rfl rfl (by first | exact dz_wid (by first | omega | (unfold dz_w; omega)) (by first | omega | (unfold dz_w; omega)) | rfl) ?_
              refine xr_goto hc rfl (t := 19) rfl ?_
              have en : ((k + 1 : Nat) : Int) + 1 = ((k + 1 + 1 : Nat) : Int) := by omega
              first
                | (exfalso; omega)
                | (rw [if_pos (show (fun m => g_max (ccl pl kd wt nx w (hs n) i.toNat m) pl.toNat pl.toNat) (k + 1) < (t_wt (fun m => g_max (ccl pl kd wt nx w (hs n) i.toNat m) pl.toNat pl.toNat) 99999 k).2 by assumption)] at et
                   have e1 := congrArg Prod.fst et
                   have e2 := congrArg Prod.snd et
                   dsimp only at e1 e2
                   have l0 := ih (k + 1) N2 (some (dz_i (g_max (ccl pl kd wt nx w (hs n) i.toNat (k + 1)) pl.toNat pl.toNat))) (by omega) (tfr_trans h1 x1)
                   rw [e1, e2] at l0
                   rw [en]
                   exact l0)
                | (rw [if_neg (show ¬ (fun m => g_max (ccl pl kd wt nx w (hs n) i.toNat m) pl.toNat pl.toNat) (k + 1) < (t_wt (fun m => g_max (ccl pl kd wt nx w (hs n) i.toNat m) pl.toNat pl.toNat) 99999 k).2 by show ¬ (g_max _ _ _ < _); omega)] at et
                   rw [← et, en]
                   exact ih (k + 1) N2 _ (by omega) (tfr_trans h1 x1))
            · refine xr_iload hc rfl rfl ?_
              refine xr_goto hc rfl (t := 60) rfl ?_
              refine xr_istore3 hc rfl rfl ?_
              refine xr_iincz4 hc rfl rfl (by first | exact dz_wid (by first | omega | (unfold dz_w; omega)) (by first | omega | (unfold dz_w; omega)) | rfl) ?_
              refine xr_goto hc rfl (t := 19) rfl ?_
              have en : ((k + 1 : Nat) : Int) + 1 = ((k + 1 + 1 : Nat) : Int) := by omega
              first
                | (exfalso; omega)
                | (rw [if_pos (show (fun m => g_max (ccl pl kd wt nx w (hs n) i.toNat m) pl.toNat pl.toNat) (k + 1) < (t_wt (fun m => g_max (ccl pl kd wt nx w (hs n) i.toNat m) pl.toNat pl.toNat) 99999 k).2 by assumption)] at et
                   have e1 := congrArg Prod.fst et
                   have e2 := congrArg Prod.snd et
                   dsimp only at e1 e2
                   have l0 := ih (k + 1) N2 (some (dz_i (g_max (ccl pl kd wt nx w (hs n) i.toNat (k + 1)) pl.toNat pl.toNat))) (by omega) (tfr_trans h1 x1)
                   rw [e1, e2] at l0
                   rw [en]
                   exact l0)
                | (rw [if_neg (show ¬ (fun m => g_max (ccl pl kd wt nx w (hs n) i.toNat m) pl.toNat pl.toNat) (k + 1) < (t_wt (fun m => g_max (ccl pl kd wt nx w (hs n) i.toNat m) pl.toNat pl.toNat) 99999 k).2 by show ¬ (g_max _ _ _ < _); omega)] at et
                   rw [← et, en]
                   exact ih (k + 1) N2 _ (by omega) (tfr_trans h1 x1))
    refine xr_bipush hc rfl ?_
    refine xr_istore2 hc rfl rfl ?_
    refine xr_ldc hc rfl ?_
    refine xr_istore3 hc rfl rfl ?_
    refine xr_iconst hc rfl ?_
    refine xr_istore4 hc rfl rfl ?_
    exact lp 12 0 M none (by omega) (tfr_refl M)
  · refine xk_1 ?_
    refine xr_iff hc rfl (by simp [dz_cmp]) ?_
    refine xr_iconst hc rfl ?_
    refine xr_ireturn hc rfl rfl (Nat.zero_le _) (Nat.zero_le _) ?_
    simp only [o_watch] at hQ
    repeat (first | rw [if_pos (by omega)] at hQ | rw [if_neg (by omega)] at hQ)
    try dsimp only at hQ
    exact hQ M (fun _ _ _ => rfl) hR
