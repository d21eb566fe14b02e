/-! The placing by first use: the other one. Written by l2_63.py. -/
theorem nf_at {w : Int} {sp : Nat → Int} : ∀ (f p p2 : Nat), p ≤ p2 → p2 < p + f → ly_at sp (p2 : Int) w.toNat 0 = -9 → nf w sp f p ≤ p2 ∧ ly_at sp ((nf w sp f p : Nat) : Int) w.toNat 0 = -9 ∧ ∀ g : Nat, p ≤ g → g < nf w sp f p → ly_at sp (g : Int) w.toNat 0 ≠ -9
  | 0, p, p2, h1, h2, _ => by omega
  | f + 1, p, p2, h1, h2, h3 => by
    unfold nf
    by_cases e : ly_at sp (p : Int) w.toNat 0 = -9
    · rw [if_pos e]
      exact ⟨h1, e, fun g h4 h5 => by omega⟩
    · rw [if_neg e]
      have hne : p ≠ p2 := fun z => e (by rw [z]; exact h3)
      obtain ⟨e1, e2, e3⟩ := nf_at f (p + 1) p2 (by omega) (by omega) h3
      refine ⟨e1, e2, fun g h4 h5 => ?_⟩
      by_cases e8 : g = p
      · rw [e8]
        exact e
      · exact e3 g (by omega) h5
theorem ly_fup {w : Int} {sp : Nat → Int} {i : Nat} {q r : Int} (h9 : sp i = -9) (hq : 0 ≤ q) (h : ly_at sp q w.toNat 0 ≠ -9) : ly_at (fup sp i r) q w.toNat 0 ≠ -9 := by
  intro z
  rw [lyN] at z
  refine h (lyN.mpr (fun k hk => ?_))
  by_cases e : k = i
  · rw [e, h9]
    omega
  · have z2 := z k hk
    rw [fup_ne e] at z2
    exact z2
set_option maxRecDepth 100000 in
theorem D_clerk {xo : Nat → List Int} {d : Nat} {Q : dz_Q} {sh : List (Nat ⊕ (Nat × Nat))} {rf : Nat → Nat → Nat} {M : Nat → Nat → Int} {rs : Nat → Int} {it : Nat → Nat → Int} {ts : Nat → Int} {ch : Nat → Nat → Int} {tl up lo : Int} {fn : Nat → Int} {w pl : Int} {kd wt nx : Nat → Int} {n : Nat} {hs : Nat → Nat → Int} {kp : Nat → Int} {kh : Nat → Nat → Nat → Int} {m r : Int} (hl : ml sh rf) (hR : RM M rs it ts ch tl up lo fn w pl kd wt nx n hs kp kh) (hW : WF rs it ts ch tl up lo fn w pl kd wt nx n hs kp kh) (hQ : ∀ M2 : Nat → Nat → Int, (∀ q2 k2, q2 < 115 → M2 q2 k2 = M q2 k2) → RM M2 (o_clerk rs it w pl kd wt nx (hs n) m r).2.1 (o_clerk rs it w pl kd wt nx (hs n) m r).2.2 ts ch tl up lo fn w pl kd wt nx n hs kp kh → Q (some (dz_i ((o_clerk rs it w pl kd wt nx (hs n) m r).1))) (sh, rf, M2)) : dz_E dz_pp xo (d + 6) 186 [dz_r 115, dz_i m, dz_i r] (sh, rf, M) Q := by
  refine ⟨Nat.le_of_ble_eq_true rfl, ?_⟩
  have hc := dz_E_m dz_pp xo (d + 5)
  show dz_X (dz_E dz_pp xo (d + 5)) dz_pp xo (dz_pp 186) Q 0 [some (dz_r 115), some (dz_i m), some (dz_i r), none, none, none, none] [] 0 0 (sh, rf, M)
  obtain ⟨c0, c1, c2, c3, c4, c5, c6, c7, c8, c9, c10, c11, c12, c13, c14, c15, c16, c17, c18, c19, c20, c21, c22, c23, c24, c25, c26, c27, c28, c29⟩ := id hl
  obtain ⟨hrow, htxt, htl, hup, hlo, hfn, hdr, hkp⟩ := id hR
  obtain ⟨wrow, wtxt, wdr, wst, wkp⟩ := id hW
  have hw6 := WF_w hW
  have hdr3 : drM M w pl kd wt nx n hs ∧ w ≤ 6 ∧ n ≤ 40 := ⟨hdr, hw6.2, wst.1⟩
  have hkp3 : kepM M w kp kh ∧ w ≤ 6 ∧ ∀ k, k < 3 → kp k ≤ 40 := ⟨hkp, hw6.2, fun k hk => by
    rcases wkp k hk with z | z
    · omega
    · exact z.2.1⟩
  obtain ⟨a1, a2, a3, b1, b2, b3⟩ := id hdr
  have hpg : pgM M w pl kd wt nx := ⟨a1, a2, a3⟩
  have b2c : ∀ c, okc w c → M 116 c = hs n c := fun c hc => by
    have h3 := b2 c hc
    rw [Nat.zero_add] at h3
    exact h3
  refine xr_aloadn hc rfl rfl ?_
  refine xr_iloadn hc rfl rfl ?_
  refine xr_iloadn hc rfl rfl ?_
  refine xr_callv2 hc rfl (by first | assumption | rfl) rfl rfl rfl (Nat.le_of_ble_eq_true rfl) (Nat.zero_le _) (Nat.zero_le _) ?_
  refine D_noPlacing hl hR hW (fun u1 => ?_) (fun u1 v1 u2 v2 hw0 => ?_) (fun u1 v1 u2 v2 hw0 => ?_)
  · refine xk_1 ?_
    refine xr_istore3 hc rfl rfl ?_
    refine xr_iloadn hc rfl rfl ?_
    refine xr_iff hc rfl (by simp [dz_cmp]) ?_
    refine xr_iloadn hc rfl rfl ?_
    refine xr_ireturn hc rfl rfl (Nat.zero_le _) (Nat.zero_le _) ?_
    simp only [o_clerk] at hQ
    repeat (first | rw [if_pos (by omega)] at hQ | rw [if_neg (by omega)] at hQ)
    try dsimp only at hQ
    exact hQ M (fun _ _ _ => rfl) hR
  · refine xk_1 ?_
    refine xr_istore3 hc rfl rfl ?_
    refine xr_iloadn hc rfl rfl ?_
    refine xr_iff hc rfl (by simp [dz_cmp]) ?_
    refine xr_iloadn hc rfl rfl ?_
    refine xr_ireturn hc rfl rfl (Nat.zero_le _) (Nat.zero_le _) ?_
    simp only [o_clerk] at hQ
    repeat (first | rw [if_pos (by omega)] at hQ | rw [if_neg (by omega)] at hQ)
    try dsimp only at hQ
    exact hQ M (fun _ _ _ => rfl) hR
  · refine xk_1 ?_
    refine xr_istore3 hc rfl rfl ?_
    refine xr_iloadn hc rfl rfl ?_
    refine xr_ift hc rfl (t := 13) rfl (by simp [dz_cmp]) ?_
    refine xr_aloadn hc rfl rfl ?_
    refine xr_callv0 hc rfl (by first | assumption | rfl) rfl rfl rfl (Nat.le_of_ble_eq_true rfl) (Nat.zero_le _) (Nat.zero_le _) ?_
    have hp := WF_p hW (by omega)
    have hst := wst.2 n (Nat.le_refl n)
    obtain ⟨p1, p2, p3, p4, p5⟩ := id hp
    obtain ⟨st0, st1, st2, st3, st4, st5, st6, st7, st8⟩ := id hst
    have hln := t_l_in hp m.toNat _ _ hst (by omega)
    have hok0 : spok w pl (spf0 (hs n)) := fun k hk => by
      unfold spf0
      have z := st8 0 (by omega)
      by_cases e : k = 0
      · rw [if_pos e]
        exact Or.inr ⟨z.1, z.2.1⟩
      · rw [if_neg e]
        exact Or.inl rfl
    have lp3 : ∀ (m_ : Nat) (k : Nat) (N : Nat → Nat → Int) (p5 : Int), (k : Int) + m_ = w → (∀ q2 k2, ¬ (q2 = 115 ∧ 21 ≤ k2 ∧ k2 ≤ 23) → ¬ (q2 = 116 ∧ 3612 ≤ k2) → q2 ≠ 120 → q2 ≠ 121 → N q2 k2 = M q2 k2) → (∀ k2, N 120 k2 = fup (M 120) r.toNat w k2) → (∀ k2, (k2 < 40 * r.toNat ∨ 40 * r.toNat + 40 ≤ k2) → N 121 k2 = M 121 k2) → (∀ i, i < k → N 121 (40 * r.toNat + i) = (ck_sp pl kd wt nx w (hs n) m.toNat) i) → (∀ i : Nat, (i : Int) < w → N 116 (3612 + (5 + i)) = (ck_sp pl kd wt nx w (hs n) m.toNat) i) → dz_X (dz_E dz_pp xo (d + 5)) dz_pp xo (dz_pp 186) Q 137 [some (dz_r 115), some (dz_i m), some (dz_i r), some (dz_i 0), some (dz_i ((ck_l pl w (t_l pl kd wt nx m.toNat (hs n)) (spf0 (hs n)) (hs n 1)).2 - hs n 1)), some (dz_i p5), some (dz_i (k : Int))] [] 0 0 (sh, rf, N) := by
      intro m_
      induction m_ with
      | zero =>
        intro k N p5 hk h1 h2 h3 h4 h5
        have n2 : N 115 2 = w := by rw [h1 _ _ (by omega) (by omega) (by omega) (by omega)]; exact a1
        refine xr_iload hc rfl rfl ?_
        refine xr_aloadn hc rfl rfl ?_
        refine xr_getfi hc rfl (Or.inl rfl) (by first | assumption | rfl) ?_
        rw [n2]
        refine xr_icmp_ge hc rfl (t := 175) rfl (fun b143 => ?_) (fun b143 => ?_)
        · refine xr_iload hc rfl rfl ?_
          refine xr_ireturn hc rfl rfl (Nat.zero_le _) (Nat.zero_le _) ?_
          simp only [o_clerk] at hQ
          rw [if_neg (by omega), if_neg hw0] at hQ
          refine hQ N (fun q2 k2 u => h1 _ _ (by omega) (by omega) (by omega) (by omega)) ⟨fun r2 hr2 => ?_, txtM_fr htxt (fun k2 => h1 _ _ (by omega) (by omega) (by omega) (by omega)) (fun k2 => h1 _ _ (by omega) (by omega) (by omega) (by omega)), Eq.trans (h1 _ _ (by omega) (by omega) (by omega) (by omega)) htl, Eq.trans (h1 _ _ (by omega) (by omega) (by omega) (by omega)) hup, Eq.trans (h1 _ _ (by omega) (by omega) (by omega) (by omega)) hlo, fndM_fr hfn (h1 _ _ (by omega) (by omega) (by omega) (by omega)) (fun k2 => h1 _ _ (by omega) (by omega) (by omega) (by omega)), drM_fr hdr3 (h1 _ _ (by omega) (by omega) (by omega) (by omega)) (h1 _ _ (by omega) (by omega) (by omega) (by omega)) (fun k2 => h1 _ _ (by omega) (by omega) (by omega) (by omega)) (fun k2 => h1 _ _ (by omega) (by omega) (by omega) (by omega)) (fun k2 => h1 _ _ (by omega) (by omega) (by omega) (by omega)) (fun k2 u1 => h1 _ _ (by omega) (by omega) (by omega) (by omega)), kepM_fr hkp3 (fun k2 u1 u2 => h1 _ _ (by omega) (by omega) (by omega) (by omega))⟩
          dsimp only
          rw [h2 r2]
          by_cases e : r2 = r.toNat
          · subst e
            rw [fup_eq, fup_eq, rup_eq]
            exact ⟨rfl, fun k hk => h4 k (by omega)⟩
          · rw [fup_ne e, fup_ne e, rup_ne e]
            have w1 := wrow r2 hr2
            exact ⟨(hrow r2 hr2).1, fun k hk => by rw [h3 _ (by omega)]; exact (hrow r2 hr2).2 k hk⟩
        · omega
      | succ m_ ih =>
        intro k N p5 hk h1 h2 h3 h4 h5
        have n2 : N 115 2 = w := by rw [h1 _ _ (by omega) (by omega) (by omega) (by omega)]; exact a1
        have ix : ((3617 : Int) + (k : Int)).toNat = 3612 + (5 + k) := by omega
        have iy : (40 * r + (k : Int)).toNat = 40 * r.toNat + k := by omega
        refine xr_iload hc rfl rfl ?_
        refine xr_aloadn hc rfl rfl ?_
        refine xr_getfi hc rfl (Or.inl rfl) (by first | assumption | rfl) ?_
        rw [n2]
        refine xr_icmp_ge hc rfl (t := 175) rfl (fun b143 => ?_) (fun b143 => ?_)
        · omega
        · refine xr_aloadn hc rfl rfl ?_
          refine xr_getfr hc rfl rfl (by first | assumption | rfl) (by first | assumption | rfl) ?_
          refine xr_bipush hc rfl ?_
          refine xr_iloadn hc rfl rfl ?_
          refine xr_imulz hc rfl (by first | exact dz_wid (by first | omega | (unfold dz_w; omega)) (by first | omega | (unfold dz_w; omega)) | rfl) ?_
          refine xr_iload hc rfl rfl ?_
          refine xr_iaddz hc rfl (by first | exact dz_wid (by first | omega | (unfold dz_w; omega)) (by first | omega | (unfold dz_w; omega)) | rfl) ?_
          refine xr_aloadn hc rfl rfl ?_
          refine xr_getfr hc rfl rfl (by first | assumption | rfl) (by first | assumption | rfl) ?_
          refine xr_sipush hc rfl ?_
          refine xr_iload hc rfl rfl ?_
          refine xr_iaddz hc rfl (by first | exact dz_wid (by first | omega | (unfold dz_w; omega)) (by first | omega | (unfold dz_w; omega)) | rfl) ?_
          first | refine xr_iaload hc rfl (by first | assumption | rfl) (by first | omega | (unfold dz_w; omega)) (by first | omega | (unfold dz_w; omega)) ?_ | refine xr_ialoado hc rfl (by first | omega | (unfold dz_w; omega)) (by first | omega | (unfold dz_w; omega)) ?_
          rw [ix, h5 k (by omega)]
          refine xr_iastore hc rfl (by first | assumption | rfl) (by first | omega | (unfold dz_w; omega)) (by first | omega | (unfold dz_w; omega)) ?_
          rw [iy]
          refine xr_iincz6 hc rfl rfl (by first | exact dz_wid (by first | omega | (unfold dz_w; omega)) (by first | omega | (unfold dz_w; omega)) | rfl) ?_
          refine xr_goto hc rfl (t := 137) rfl ?_
          refine ih (k + 1) _ _ (by omega) (fun q2 k2 v1 v2 v3 v4 => by rw [dz_up_ne v4, h1 _ _ v1 v2 v3 v4]) (fun k2 => by rw [dz_up_ne (by omega), h2 k2]) (fun k2 u => by rw [dz_up_k (by omega), h3 k2 u]) (fun i hi => ?_) (fun i hi => by rw [dz_up_ne (by omega)]; exact h5 i hi)
          by_cases e : i = k
          · rw [e, dz_up_eq]
          · rw [dz_up_k (by omega)]
            exact h4 i (by omega)
    have lp2 : ∀ (m_ : Nat) (i p0 : Nat) (sp : Nat → Int) (N : Nat → Nat → Int), (i : Int) + m_ = w → 1 ≤ i → p0 ≤ pl.toNat → tfr M N → (∀ k : Nat, (k : Int) < w → N 116 (3612 + (5 + k)) = enc (sp k)) → spok w pl sp → (∀ q : Nat, q < p0 → ly_at sp (q : Int) w.toNat 0 ≠ -9) → (ck_sp pl kd wt nx w (hs n) m.toNat) = fillr w pl.toNat m_ i p0 sp → (∀ k, k < i → sp k ≠ -9) → dz_X (dz_E dz_pp xo (d + 5)) dz_pp xo (dz_pp 186) Q 65 [some (dz_r 115), some (dz_i m), some (dz_i r), some (dz_i 0), some (dz_i ((ck_l pl w (t_l pl kd wt nx m.toNat (hs n)) (spf0 (hs n)) (hs n 1)).2 - hs n 1)), some (dz_i (p0 : Int)), some (dz_i (i : Int))] [] 0 0 (sh, rf, N) := by
      intro m_
      induction m_ with
      | zero =>
        intro i p0 sp N hi hi1 hp0 h1 h2 h3 h4 h5 h6
        have n2 : N 115 2 = w := by rw [h1 _ _ (by omega) (by omega)]; exact a1
        have h5b : (ck_sp pl kd wt nx w (hs n) m.toNat) = sp := h5
        refine xr_iload hc rfl rfl ?_
        refine xr_aloadn hc rfl rfl ?_
        refine xr_getfi hc rfl (Or.inl rfl) (by first | assumption | rfl) ?_
        rw [n2]
        refine xr_icmp_ge hc rfl (t := 125) rfl (fun b71 => ?_) (fun b71 => ?_)
        · refine xr_aloadn hc rfl rfl ?_
          refine xr_iloadn hc rfl rfl ?_
          refine xr_aloadn hc rfl rfl ?_
          refine xr_getfi hc rfl (Or.inl rfl) (by first | assumption | rfl) ?_
          rw [n2]
          refine xr_callv2 hc rfl (by first | assumption | rfl) rfl rfl rfl (Nat.le_of_ble_eq_true rfl) (Nat.zero_le _) (Nat.zero_le _) ?_
          refine D_makeRow hl (by omega) (fun N3 b1 b2 b3 b4 => ?_)
          refine xk_0 ?_
          refine xr_iconst hc rfl ?_
          refine xr_istore6 hc rfl rfl ?_
          exact lp3 w.toNat 0 N3 _ (by omega) (fun q2 k2 v1 v2 v3 v4 => by rw [b1 _ _ v3 v4, h1 _ _ v1 v2]) (fun k2 => by rw [b2 k2]; unfold fup; split; rfl; rw [h1 _ _ (by omega) (by omega)]) (fun k2 u => by rw [b3 k2 u, h1 _ _ (by omega) (by omega)]) (fun k hk => by omega) (fun k hk => by rw [b1 _ _ (by omega) (by omega), h2 k hk, h5b, enc_ne (h6 k (by omega))])
        · omega
      | succ m_ ih =>
        intro i p0 sp N hi hi1 hp0 h1 h2 h3 h4 h5 h6
        have n2 : N 115 2 = w := by rw [h1 _ _ (by omega) (by omega)]; exact a1
        have ix : ((3617 : Int) + (i : Int)).toNat = 3612 + (5 + i) := by omega
        have hv := h2 i (by omega)
        have hel := enc_lt (x := sp i) ((h3 i (by omega)).imp id (fun z => z.1))
        have lq : ∀ (f p : Nat), p + f = pl.toNat → (∃ p2 : Nat, p ≤ p2 ∧ p2 < pl.toNat ∧ ly_at sp (p2 : Int) w.toNat 0 = -9) → (∀ x : Nat, x = nf w sp f p → dz_X (dz_E dz_pp xo (d + 5)) dz_pp xo (dz_pp 186) Q 106 [some (dz_r 115), some (dz_i m), some (dz_i r), some (dz_i 0), some (dz_i ((ck_l pl w (t_l pl kd wt nx m.toNat (hs n)) (spf0 (hs n)) (hs n 1)).2 - hs n 1)), some (dz_i (x : Int)), some (dz_i (i : Int))] [] 0 0 (sh, rf, N)) → dz_X (dz_E dz_pp xo (d + 5)) dz_pp xo (dz_pp 186) Q 88 [some (dz_r 115), some (dz_i m), some (dz_i r), some (dz_i 0), some (dz_i ((ck_l pl w (t_l pl kd wt nx m.toNat (hs n)) (spf0 (hs n)) (hs n 1)).2 - hs n 1)), some (dz_i (p : Int)), some (dz_i (i : Int))] [] 0 0 (sh, rf, N) := by
          intro f
          induction f with
          | zero =>
            intro p hp3 hex hK
            obtain ⟨p2, e1, e2, e3⟩ := hex
            omega
          | succ f ih2 =>
            intro p hp3 hex hK
            have hfe := free_enc (f := fun k => N 116 (3612 + (5 + k))) (p := (p : Int)) (sp := sp) (w := w) (by omega) (by omega) h2 (fun k hk => (h3 k hk).imp id (fun z => z.1))
            have en : nf w sp (f + 1) p = if ly_at sp (p : Int) w.toNat 0 = -9 then p else nf w sp f (p + 1) := rfl
            refine xr_aloadn hc rfl rfl ?_
            refine xr_sipush hc rfl ?_
            refine xr_iload hc rfl rfl ?_
            refine xr_callv2 hc rfl (by first | assumption | rfl) rfl rfl rfl (Nat.le_of_ble_eq_true rfl) (Nat.zero_le _) (Nat.zero_le _) ?_
            refine D_isFree (b := 3612) hl (by omega) n2 hw6 (fun y1 => ?_) (fun y1 => ?_)
            · refine xk_1 ?_
              refine xr_ift hc rfl (t := 106) rfl (by simp [dz_cmp]) ?_
              exact hK p (by rw [en, if_pos (hfe.mp y1)])
            · refine xk_1 ?_
              refine xr_iff hc rfl (by simp [dz_cmp]) ?_
              refine xr_iincz5 hc rfl rfl (by first | exact dz_wid (by first | omega | (unfold dz_w; omega)) (by first | omega | (unfold dz_w; omega)) | rfl) ?_
              refine xr_goto hc rfl (t := 88) rfl ?_
              refine ih2 (p + 1) (by omega) ?_ (fun x hx => hK x (by rw [en, if_neg (fun z => y1 (hfe.mpr z))]; exact hx))
              obtain ⟨p2, e1, e2, e3⟩ := hex
              by_cases e : p2 = p
              · exact absurd (hfe.mpr (by rw [← e]; exact e3)) y1
              · exact ⟨p2, by omega, e2, e3⟩
        refine xr_iload hc rfl rfl ?_
        refine xr_aloadn hc rfl rfl ?_
        refine xr_getfi hc rfl (Or.inl rfl) (by first | assumption | rfl) ?_
        rw [n2]
        refine xr_icmp_ge hc rfl (t := 125) rfl (fun b71 => ?_) (fun b71 => ?_)
        · omega
        · refine xr_aloadn hc rfl rfl ?_
          refine xr_getfr hc rfl rfl (by first | assumption | rfl) (by first | assumption | rfl) ?_
          refine xr_sipush hc rfl ?_
          refine xr_iload hc rfl rfl ?_
          refine xr_iaddz hc rfl (by first | exact dz_wid (by first | omega | (unfold dz_w; omega)) (by first | omega | (unfold dz_w; omega)) | rfl) ?_
          first | refine xr_iaload hc rfl (by first | assumption | rfl) (by first | omega | (unfold dz_w; omega)) (by first | omega | (unfold dz_w; omega)) ?_ | refine xr_ialoado hc rfl (by first | omega | (unfold dz_w; omega)) (by first | omega | (unfold dz_w; omega)) ?_
          rw [ix, hv]
          refine xr_if_ge hc rfl (t := 119) rfl (fun b85 => ?_) (fun b85 => ?_)
          · refine xr_iincz6 hc rfl rfl (by first | exact dz_wid (by first | omega | (unfold dz_w; omega)) (by first | omega | (unfold dz_w; omega)) | rfl) ?_
            refine xr_goto hc rfl (t := 65) rfl ?_
            have h9 : sp i ≠ -9 := fun z => by have z2 := hel.mpr z; omega
            exact ih (i + 1) p0 sp N (by omega) (by omega) hp0 h1 h2 h3 h4 (by rw [h5]; show (if sp i = -9 then _ else fillr w pl.toNat m_ (i + 1) p0 sp) = _; rw [if_neg h9]) (fun k hk => by
              by_cases e : k = i
              · rw [e]
                exact h9
              · exact h6 k (by omega))
          · have h9 : sp i = -9 := hel.mp (by omega)
            obtain ⟨pf, hpf1, hpf2⟩ := fr_ex (pl := pl) hw6 (by omega) (i := i) (by omega) h9
            have hge : p0 ≤ pf := by
              by_cases e : p0 ≤ pf
              · exact e
              · exact absurd hpf2 (h4 pf (by omega))
            obtain ⟨hx1, hx2, hx3⟩ := nf_at (pl.toNat - p0) p0 pf hge (by omega) hpf2
            have hni := nf_in (w := w) (sp := sp) (pl.toNat - p0) p0
            refine lq (pl.toNat - p0) p0 (by omega) ⟨pf, hge, by omega, hpf2⟩ (fun x ex => ?_)
            rw [← ex] at hx1 hx2 hni
            refine xr_aloadn hc rfl rfl ?_
            refine xr_getfr hc rfl rfl (by first | assumption | rfl) (by first | assumption | rfl) ?_
            refine xr_sipush hc rfl ?_
            refine xr_iload hc rfl rfl ?_
            refine xr_iaddz hc rfl (by first | exact dz_wid (by first | omega | (unfold dz_w; omega)) (by first | omega | (unfold dz_w; omega)) | rfl) ?_
            refine xr_iload hc rfl rfl ?_
            refine xr_iastore hc rfl (by first | assumption | rfl) (by first | omega | (unfold dz_w; omega)) (by first | omega | (unfold dz_w; omega)) ?_
            rw [ix]
            refine xr_iincz6 hc rfl rfl (by first | exact dz_wid (by first | omega | (unfold dz_w; omega)) (by first | omega | (unfold dz_w; omega)) | rfl) ?_
            refine xr_goto hc rfl (t := 65) rfl ?_
            refine ih (i + 1) x (fup sp i (x : Int)) _ (by omega) (by omega) (by omega) (fun q2 k2 v1 v2 => ?_) (fun k hk => ?_) (fun k hk => ?_) (fun q hq => ?_) ?_ (fun k hk => ?_)
            · by_cases e : q2 = 116
              · subst e
                rw [dz_up_k (by omega), h1 _ _ v1 v2]
              · rw [dz_up_ne e, h1 _ _ v1 v2]
            · by_cases e : k = i
              · rw [e, dz_up_eq, fup_eq, enc_ne (by omega)]
              · rw [dz_up_k (by omega), fup_ne e]
                exact h2 k hk
            · by_cases e : k = i
              · rw [e, fup_eq]
                exact Or.inr (by omega)
              · rw [fup_ne e]
                exact h3 k hk
            · refine ly_fup h9 (by omega) ?_
              by_cases e : q < p0
              · exact h4 q e
              · exact hx3 q (by omega) (by rw [← ex]; omega)
            · rw [h5]
              show (if sp i = -9 then fillr w pl.toNat m_ (i + 1) (nf w sp (pl.toNat - p0) p0) (fup sp i (nf w sp (pl.toNat - p0) p0 : Nat)) else _) = _
              rw [if_pos h9, ← ex]
            · by_cases e : k = i
              · rw [e, fup_eq]
                omega
              · rw [fup_ne e]
                exact h6 k (by omega)
    have lp1 : ∀ (m_ : Nat) (i : Nat) (N : Nat → Nat → Int), (i : Int) + m_ = w → 1 ≤ i → tfr M N → N 115 23 = 1 → (∀ c, okc w c → ¬ (5 < c ∧ c < 11) → N 116 (3612 + c) = hs n c) → (∀ k, 1 ≤ k → k < i → N 116 (3612 + (5 + k)) = -1) → dz_X (dz_E dz_pp xo (d + 5)) dz_pp xo (dz_pp 186) Q 25 [some (dz_r 115), some (dz_i m), some (dz_i r), some (dz_i 0), some (dz_i (i : Int)), none, none] [] 0 0 (sh, rf, N) := by
      intro m_
      induction m_ with
      | zero =>
        intro i N hi hi1 h1 h2 h3 h4
        have n2 : N 115 2 = w := by rw [h1 _ _ (by omega) (by omega)]; exact a1
        refine xr_iload hc rfl rfl ?_
        refine xr_aloadn hc rfl rfl ?_
        refine xr_getfi hc rfl (Or.inl rfl) (by first | assumption | rfl) ?_
        rw [n2]
        refine xr_icmp_ge hc rfl (t := 52) rfl (fun b31 => ?_) (fun b31 => ?_)
        · refine xr_aloadn hc rfl rfl ?_
          refine xr_iloadn hc rfl rfl ?_
          refine xr_callv1 hc rfl (by first | assumption | rfl) rfl rfl rfl (Nat.le_of_ble_eq_true rfl) (Nat.zero_le _) (Nat.zero_le _) ?_
          refine D_beatsTriedL (w := w) (pl := pl) (B := 29 * n) (kd := kd) (wt := wt) (nx := nx) (s := hs n) (sp0 := spf0 (hs n)) hl (tfr_pg h1 hpg) hp hst (by omega) hok0 (fun c hc => ?_) h2 (by omega) (fun M2 y1 y2 => ?_)
          · have hc2 := hc
            unfold okc at hc2
            by_cases e : 5 < c ∧ c < 11
            · have z := h4 (c - 5) (by omega) (by omega)
              rw [show 5 + (c - 5) = c by omega] at z
              rw [z, show c = 5 + (c - 5) by omega, lst_p (by omega)]
              unfold spf0
              rw [if_neg (by omega)]
              rfl
            · rw [h3 c hc e]
              by_cases e1 : c = 1
              · rw [e1]
                rfl
              · by_cases e5 : c = 5
                · subst e5
                  have z := st8 0 (by omega)
                  rw [show (5 : Nat) = 5 + 0 by omega, lst_p (by omega)]
                  show hs n 5 = enc (hs n 5)
                  rw [enc_ne (by have z2 : 0 ≤ hs n 5 := z.1; omega)]
                · rw [lst_o e1 (by omega)]
          refine xk_1 ?_
          refine xr_istore4 hc rfl rfl ?_
          refine xr_iconst hc rfl ?_
          refine xr_istore5 hc rfl rfl ?_
          refine xr_iconst hc rfl ?_
          refine xr_istore6 hc rfl rfl ?_
          have tf2 := tfr_trans h1 y1
          have hok1 := ck_ok hw6 (by omega) (t_l pl kd wt nx m.toNat (hs n)) (spf0 (hs n)) (hs n 1) (fun x hx => (hln.1 x hx).1) hok0
          have h0 : (ck_l pl w (t_l pl kd wt nx m.toNat (hs n)) (spf0 (hs n)) (hs n 1)).1 0 = hs n 5 := ck_keep _ _ _ (by show hs n 5 ≠ -9; have z : 0 ≤ hs n 5 := (st8 0 (by omega)).1; omega)
          refine lp2 (w.toNat - 1) 1 0 (ck_l pl w (t_l pl kd wt nx m.toNat (hs n)) (spf0 (hs n)) (hs n 1)).1 M2 (by omega) (by omega) (by omega) tf2 (fun k hk => ?_) hok1 (fun q hq => by omega) ?_ (fun k hk => ?_)
          · rw [y2 (5 + k) (by unfold okc; omega), lst_p (by omega)]
          · unfold ck_sp
            obtain ⟨W1, hW1⟩ : ∃ W1, w.toNat = W1 + 1 := ⟨w.toNat - 1, by omega⟩
            rw [hW1]
            exact if_neg (by rw [h0]; have z : 0 ≤ hs n 5 := (st8 0 (by omega)).1; omega)
          · rw [show k = 0 by omega, h0]
            have z : 0 ≤ hs n 5 := (st8 0 (by omega)).1
            omega
        · omega
      | succ m_ ih =>
        intro i N hi hi1 h1 h2 h3 h4
        have n2 : N 115 2 = w := by rw [h1 _ _ (by omega) (by omega)]; exact a1
        have ix : ((3617 : Int) + (i : Int)).toNat = 3612 + (5 + i) := by omega
        refine xr_iload hc rfl rfl ?_
        refine xr_aloadn hc rfl rfl ?_
        refine xr_getfi hc rfl (Or.inl rfl) (by first | assumption | rfl) ?_
        rw [n2]
        refine xr_icmp_ge hc rfl (t := 52) rfl (fun b31 => ?_) (fun b31 => ?_)
        · omega
        · refine xr_aloadn hc rfl rfl ?_
          refine xr_getfr hc rfl rfl (by first | assumption | rfl) (by first | assumption | rfl) ?_
          refine xr_sipush hc rfl ?_
          refine xr_iload hc rfl rfl ?_
          refine xr_iaddz hc rfl (by first | exact dz_wid (by first | omega | (unfold dz_w; omega)) (by first | omega | (unfold dz_w; omega)) | rfl) ?_
          refine xr_iconst hc rfl ?_
          refine xr_iastore hc rfl (by first | assumption | rfl) (by first | omega | (unfold dz_w; omega)) (by first | omega | (unfold dz_w; omega)) ?_
          rw [ix]
          refine xr_iincz4 hc rfl rfl (by first | exact dz_wid (by first | omega | (unfold dz_w; omega)) (by first | omega | (unfold dz_w; omega)) | rfl) ?_
          refine xr_goto hc rfl (t := 25) rfl ?_
          refine ih (i + 1) _ (by omega) (by omega) (fun q2 k2 v1 v2 => ?_) (by rw [dz_up_ne (by omega)]; exact h2) (fun c hc hc3 => ?_) (fun k hk1 hk2 => ?_)
          · by_cases e : q2 = 116
            · subst e
              rw [dz_up_k (by omega), h1 _ _ v1 v2]
            · rw [dz_up_ne e, h1 _ _ v1 v2]
          · rw [dz_up_k (by omega)]
            exact h3 c hc hc3
          · by_cases e : k = i
            · rw [e, dz_up_eq]
            · rw [dz_up_k (by omega)]
              exact h4 k hk1 (by omega)
    refine D_layTried hl hR hW (fun M1 z1 z2 z3 z4 z5 => ?_)
    refine xk_0 ?_
    refine xr_aloadn hc rfl rfl ?_
    refine xr_iconst hc rfl ?_
    refine xr_putfz hc rfl rfl (by first | assumption | rfl) (by first | exact Or.inl rfl | exact Or.inr rfl | assumption) ?_
    refine xr_iconst hc rfl ?_
    refine xr_istore4 hc rfl rfl ?_
    refine lp1 (w.toNat - 1) 1 _ (by omega) (by omega) (fun q2 k2 v1 v2 => ?_) (dz_up_eq _ _ _ _) (fun c hc hc3 => by rw [dz_up_ne (by omega)]; exact z2 c hc) (fun k h1 h2 => by omega)
    by_cases e : q2 = 115
    · subst e
      rw [dz_up_k (by omega), z1 _ _ v1 v2]
    · rw [dz_up_ne e, z1 _ _ v1 v2]
