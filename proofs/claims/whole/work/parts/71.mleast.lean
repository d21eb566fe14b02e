/-! The best placing: the other one. Written by l2_71.py. -/
set_option maxRecDepth 100000 in
theorem D_least {xo : Nat → List Int} {d : Nat} {Q : dz_Q} {sh : List (Nat ⊕ (Nat × Nat))} {rf : Nat → Nat → Nat} {M : Nat → Nat → Int} {rs : Nat → Int} {it : Nat → Nat → Int} {ts : Nat → Int} {ch : Nat → Nat → Int} {tl up lo : Int} {fn : Nat → Int} {w pl : Int} {kd wt nx : Nat → Int} {n : Nat} {hs : Nat → Nat → Int} {kp : Nat → Int} {kh : Nat → Nat → Nat → Int} {m r : Int} (hl : ml sh rf) (hR : RM M rs it ts ch tl up lo fn w pl kd wt nx n hs kp kh) (hW : WF rs it ts ch tl up lo fn w pl kd wt nx n hs kp kh) (hQ : ∀ M2 : Nat → Nat → Int, (∀ q2 k2, q2 < 115 → M2 q2 k2 = M q2 k2) → RM M2 (o_least rs it w pl kd wt nx (hs n) m r).2.1 (o_least rs it w pl kd wt nx (hs n) m r).2.2 ts ch tl up lo fn w pl kd wt nx n hs kp kh → Q (some (dz_i ((o_least rs it w pl kd wt nx (hs n) m r).1))) (sh, rf, M2)) : dz_E dz_pp xo (d + 6) 185 [dz_r 115, dz_i m, dz_i r] (sh, rf, M) Q := by
  refine ⟨Nat.le_of_ble_eq_true rfl, ?_⟩
  have hc := dz_E_m dz_pp xo (d + 5)
  show dz_X (dz_E dz_pp xo (d + 5)) dz_pp xo (dz_pp 185) Q 0 [some (dz_r 115), some (dz_i m), some (dz_i r), none, none, none, none, none] [] 0 0 (sh, rf, M)
  obtain ⟨c0, c1, c2, c3, c4, c5, c6, c7, c8, c9, c10, c11, c12, c13, c14, c15, c16, c17, c18, c19, c20, c21, c22, c23, c24, c25, c26, c27, c28, c29⟩ := id hl
  obtain ⟨hrow, htxt, htl, hup, hlo, hfn, hdr, hkp⟩ := id hR
  obtain ⟨wrow, wtxt, wdr, wst, wkp⟩ := id hW
  have hw6 := WF_w hW
  have hdr3 : drM M w pl kd wt nx n hs ∧ w ≤ 6 ∧ n ≤ 40 := ⟨hdr, hw6.2, wst.1⟩
  have hkp3 : kepM M w kp kh ∧ w ≤ 6 ∧ ∀ k, k < 3 → kp k ≤ 40 := ⟨hkp, hw6.2, fun k hk => by
    rcases wkp k hk with z | z
    · omega
    · exact z.2.1⟩
  obtain ⟨a1, a2, a3, b1, b2, b3⟩ := id hdr
  have hpg : pgM M w pl kd wt nx := ⟨a1, a2, a3⟩
  have b2c : ∀ c, okc w c → M 116 c = hs n c := fun c hc => by
    have h3 := b2 c hc
    rw [Nat.zero_add] at h3
    exact h3
  refine xr_aloadn hc rfl rfl ?_
  refine xr_iloadn hc rfl rfl ?_
  refine xr_iloadn hc rfl rfl ?_
  refine xr_callv2 hc rfl (by first | assumption | rfl) rfl rfl rfl (Nat.le_of_ble_eq_true rfl) (Nat.zero_le _) (Nat.zero_le _) ?_
  refine D_noPlacing hl hR hW (fun u1 => ?_) (fun u1 v1 u2 v2 hw0 => ?_) (fun u1 v1 u2 v2 hw0 => ?_)
  · refine xk_1 ?_
    refine xr_istore3 hc rfl rfl ?_
    refine xr_iloadn hc rfl rfl ?_
    refine xr_iff hc rfl (by simp [dz_cmp]) ?_
    refine xr_iloadn hc rfl rfl ?_
    refine xr_ireturn hc rfl rfl (Nat.zero_le _) (Nat.zero_le _) ?_
    simp only [o_least] at hQ
    repeat (first | rw [if_pos (by omega)] at hQ | rw [if_neg (by omega)] at hQ)
    try dsimp only at hQ
    exact hQ M (fun _ _ _ => rfl) hR
  · refine xk_1 ?_
    refine xr_istore3 hc rfl rfl ?_
    refine xr_iloadn hc rfl rfl ?_
    refine xr_iff hc rfl (by simp [dz_cmp]) ?_
    refine xr_iloadn hc rfl rfl ?_
    refine xr_ireturn hc rfl rfl (Nat.zero_le _) (Nat.zero_le _) ?_
    simp only [o_least] at hQ
    repeat (first | rw [if_pos (by omega)] at hQ | rw [if_neg (by omega)] at hQ)
    try dsimp only at hQ
    exact hQ M (fun _ _ _ => rfl) hR
  · refine xk_1 ?_
    refine xr_istore3 hc rfl rfl ?_
    refine xr_iloadn hc rfl rfl ?_
    refine xr_ift hc rfl (t := 13) rfl (by simp [dz_cmp]) ?_
    have hp := WF_p hW (by omega)
    have hst := wst.2 n (Nat.le_refl n)
    obtain ⟨p1, p2, p3, p4, p5⟩ := id hp
    obtain ⟨st0, st1, st2, st3, st4, st5, st6, st7, st8⟩ := id hst
    have hs0 := spf0_ok p1 hst
    have kin : ∀ g, vld w.toNat pl g → 0 ≤ key g w.toNat ∧ key g w.toNat ≤ 999999 := fun g hg => by
      have z := key_in w.toNat (by omega) (vld_dig (by omega) hg)
      omega
    have kdv2 : ∀ g, (∀ k, k < w.toNat → 0 ≤ g k ∧ g k < pl) → 0 ≤ key g w.toNat ∧ key g w.toNat ≤ 999999 := fun g hg => by
      have z := key_in (f := g) w.toNat (by omega) (fun k hk => by have y := hg k hk; omega)
      omega
    have ain : ∀ g, 0 ≤ t_at pl kd wt nx g m.toNat (hs n) ∧ t_at pl kd wt nx g m.toNat (hs n) ≤ 480 := fun g => by
      have z := t_at_in (sp := g) (m := m.toNat) hp hst (by omega)
      omega
    have hrr : ∀ g, (t_at pl kd wt nx g m.toNat (hs n) * 1000000 + key g w.toNat) = rnk pl w.toNat g (t_l pl kd wt nx m.toNat (hs n)) (hs n 1) 0 + (((t_l pl kd wt nx m.toNat (hs n)).length : Int) + t_k (t_l pl kd wt nx m.toNat (hs n))) * 1000000 := fun g => by
      have z := t_b_eq pl g (t_l pl kd wt nx m.toNat (hs n)) (hs n 1)
      unfold rnk t_at
      omega
    have lp3 : ∀ (m_ : Nat) (k : Nat) (N : Nat → Nat → Int) (lb : Int) (e5 : Int) (e7 : Option dz_V), (k : Int) + m_ = w → lb = t_at pl kd wt nx (lsp w pl (t_l pl kd wt nx m.toNat (hs n)) (spf0 (hs n)) (hs n 1)) m.toNat (hs n) → (∀ q2 k2, ¬ (q2 = 115 ∧ 15 ≤ k2 ∧ k2 ≤ 23) → ¬ (q2 = 116 ∧ 3612 ≤ k2) → ¬ (125 ≤ q2 ∧ q2 ≤ 129) → q2 ≠ 120 → q2 ≠ 121 → N q2 k2 = M q2 k2) → (∀ k2, N 120 k2 = fup (M 120) r.toNat w k2) → (∀ k2, (k2 < 40 * r.toNat ∨ 40 * r.toNat + 40 ≤ k2) → N 121 k2 = M 121 k2) → (∀ i, i < k → N 121 (40 * r.toNat + i) = (lsp w pl (t_l pl kd wt nx m.toNat (hs n)) (spf0 (hs n)) (hs n 1)) i) → (∀ i, i < w.toNat → N 127 i = (lsp w pl (t_l pl kd wt nx m.toNat (hs n)) (spf0 (hs n)) (hs n 1)) i) → dz_X (dz_E dz_pp xo (d + 5)) dz_pp xo (dz_pp 185) Q 148 [some (dz_r 115), some (dz_i m), some (dz_i r), some (dz_i 0), some (dz_i lb), some (dz_i e5), some (dz_i (k : Int)), e7] [] 0 0 (sh, rf, N) := by
      intro m_
      induction m_ with
      | zero =>
        intro k N lb e5 e7 hk hlb h1 h2 h3 h4 h5
        have n2 : N 115 2 = w := by rw [h1 _ _ (by omega) (by omega) (by omega) (by omega) (by omega)]; exact a1
        refine xr_iload hc rfl rfl ?_
        refine xr_aloadn hc rfl rfl ?_
        refine xr_getfi hc rfl (Or.inl rfl) (by first | assumption | rfl) ?_
        rw [n2]
        refine xr_icmp_ge hc rfl (t := 182) rfl (fun b154 => ?_) (fun b154 => ?_)
        · refine xr_iload hc rfl rfl ?_
          refine xr_ireturn hc rfl rfl (Nat.zero_le _) (Nat.zero_le _) ?_
          simp only [o_least] at hQ
          rw [if_neg (by omega), if_neg hw0, ← hlb] at hQ
          refine hQ N (fun q2 k2 u => h1 _ _ (by omega) (by omega) (by omega) (by omega) (by omega)) ⟨fun r2 hr2 => ?_, txtM_fr htxt (fun k2 => h1 _ _ (by omega) (by omega) (by omega) (by omega) (by omega)) (fun k2 => h1 _ _ (by omega) (by omega) (by omega) (by omega) (by omega)), Eq.trans (h1 _ _ (by omega) (by omega) (by omega) (by omega) (by omega)) htl, Eq.trans (h1 _ _ (by omega) (by omega) (by omega) (by omega) (by omega)) hup, Eq.trans (h1 _ _ (by omega) (by omega) (by omega) (by omega) (by omega)) hlo, fndM_fr hfn (h1 _ _ (by omega) (by omega) (by omega) (by omega) (by omega)) (fun k2 => h1 _ _ (by omega) (by omega) (by omega) (by omega) (by omega)), drM_fr hdr3 (h1 _ _ (by omega) (by omega) (by omega) (by omega) (by omega)) (h1 _ _ (by omega) (by omega) (by omega) (by omega) (by omega)) (fun k2 => h1 _ _ (by omega) (by omega) (by omega) (by omega) (by omega)) (fun k2 => h1 _ _ (by omega) (by omega) (by omega) (by omega) (by omega)) (fun k2 => h1 _ _ (by omega) (by omega) (by omega) (by omega) (by omega)) (fun k2 u1 => h1 _ _ (by omega) (by omega) (by omega) (by omega) (by omega)), kepM_fr hkp3 (fun k2 u1 u2 => h1 _ _ (by omega) (by omega) (by omega) (by omega) (by omega))⟩
          dsimp only
          rw [h2 r2]
          by_cases e : r2 = r.toNat
          · subst e
            rw [fup_eq, fup_eq, rup_eq]
            exact ⟨rfl, fun k hk => h4 k (by omega)⟩
          · rw [fup_ne e, fup_ne e, rup_ne e]
            have w1 := wrow r2 hr2
            exact ⟨(hrow r2 hr2).1, fun k hk => by rw [h3 _ (by omega)]; exact (hrow r2 hr2).2 k hk⟩
        · omega
      | succ m_ ih =>
        intro k N lb e5 e7 hk hlb h1 h2 h3 h4 h5
        have n2 : N 115 2 = w := by rw [h1 _ _ (by omega) (by omega) (by omega) (by omega) (by omega)]; exact a1
        have iy : (40 * r + (k : Int)).toNat = 40 * r.toNat + k := by omega
        refine xr_iload hc rfl rfl ?_
        refine xr_aloadn hc rfl rfl ?_
        refine xr_getfi hc rfl (Or.inl rfl) (by first | assumption | rfl) ?_
        rw [n2]
        refine xr_icmp_ge hc rfl (t := 182) rfl (fun b154 => ?_) (fun b154 => ?_)
        · omega
        · refine xr_aloadn hc rfl rfl ?_
          refine xr_getfr hc rfl rfl (by first | assumption | rfl) (by first | assumption | rfl) ?_
          refine xr_bipush hc rfl ?_
          refine xr_iloadn hc rfl rfl ?_
          refine xr_imulz hc rfl (by first | exact dz_wid (by first | omega | (unfold dz_w; omega)) (by first | omega | (unfold dz_w; omega)) | rfl) ?_
          refine xr_iload hc rfl rfl ?_
          refine xr_iaddz hc rfl (by first | exact dz_wid (by first | omega | (unfold dz_w; omega)) (by first | omega | (unfold dz_w; omega)) | rfl) ?_
          refine xr_aloadn hc rfl rfl ?_
          refine xr_getfr hc rfl rfl (by first | assumption | rfl) (by first | assumption | rfl) ?_
          refine xr_iload hc rfl rfl ?_
          first | refine xr_iaload hc rfl (by first | assumption | rfl) (by first | omega | (unfold dz_w; omega)) (by first | omega | (unfold dz_w; omega)) ?_ | refine xr_ialoado hc rfl (by first | omega | (unfold dz_w; omega)) (by first | omega | (unfold dz_w; omega)) ?_
          rw [Int.toNat_natCast, h5 k (by omega)]
          refine xr_iastore hc rfl (by first | assumption | rfl) (by first | omega | (unfold dz_w; omega)) (by first | omega | (unfold dz_w; omega)) ?_
          rw [iy]
          refine xr_iincz6 hc rfl rfl (by first | exact dz_wid (by first | omega | (unfold dz_w; omega)) (by first | omega | (unfold dz_w; omega)) | rfl) ?_
          refine xr_goto hc rfl (t := 148) rfl ?_
          refine ih (k + 1) _ lb _ _ (by omega) hlb (fun q2 k2 v1 v2 v3 v4 v5 => by rw [dz_up_ne v5, h1 _ _ v1 v2 v3 v4 v5]) (fun k2 => by rw [dz_up_ne (by omega), h2 k2]) (fun k2 u => by rw [dz_up_k (by omega), h3 k2 u]) (fun i hi => ?_) (fun i hi => by rw [dz_up_ne (by omega)]; exact h5 i hi)
          by_cases e : i = k
          · rw [e, dz_up_eq]
          · rw [dz_up_k (by omega)]
            exact h4 i (by omega)
    have t136 : ∀ (N : Nat → Nat → Int) (lb lbr : Int) (e5 : Int) (e6 e7 : Option dz_V), scr M N → (∀ g, vld w.toNat pl g → g 0 = hs n 5 → lbr ≤ (t_at pl kd wt nx g m.toNat (hs n) * 1000000 + key g w.toNat)) → ((lb = 99999 ∧ lbr = 99999000000) ∨ (vld w.toNat pl (N 127) ∧ N 127 0 = hs n 5 ∧ lb = t_at pl kd wt nx (N 127) m.toNat (hs n) ∧ lbr = lb * 1000000 + key (N 127) w.toNat)) → dz_X (dz_E dz_pp xo (d + 5)) dz_pp xo (dz_pp 185) Q 136 [some (dz_r 115), some (dz_i m), some (dz_i r), some (dz_i 0), some (dz_i lb), some (dz_i e5), e6, e7] [] 0 0 (sh, rf, N) := by
      intro N lb lbr e5 e6 e7 hsc hall hbest
      obtain ⟨q1, q2, q3⟩ := fillr_min (w := w) (pl := pl) (by omega) (by omega) w.toNat 0 0 (spf0 (hs n)) (by omega) (by omega) hs0.1 hs0.2.1 (fun k hk => by omega) (fun p hp => by omega)
      have hx0 : ∀ f, ext w.toNat (spf0 (hs n)) f ↔ f 0 = hs n 5 := fun f => ext_0 (by omega) (by have z := hs0.2.2; omega)
      have z1 := hall _ q1 ((hx0 _).mp q2)
      have z2 := kin _ q1
      have z3 := ain (fillr w pl.toNat w.toNat 0 0 (spf0 (hs n)))
      rcases hbest with ⟨b1, b2⟩ | ⟨b1, b2, b3, b4⟩
      · exfalso
        omega
      · have hl1 : lst1 w pl (t_l pl kd wt nx m.toNat (hs n)) (spf0 (hs n)) (hs n 1) (N 127) := ⟨b1, (hx0 _).mpr b2, fun g hg he => by
          have y := hall g hg ((hx0 g).mp he)
          rw [hrr g] at y
          have y2 := hrr (N 127)
          rw [← b3, ← b4] at y2
          omega⟩
        have hok := lsp_ok hl1
        have e127 : ∀ k, k < w.toNat → N 127 k = (lsp w pl (t_l pl kd wt nx m.toNat (hs n)) (spf0 (hs n)) (hs n 1)) k := lst1_one (by omega) (by omega) hl1 hok
        have elb : lb = t_at pl kd wt nx (lsp w pl (t_l pl kd wt nx m.toNat (hs n)) (spf0 (hs n)) (hs n 1)) m.toNat (hs n) := by rw [b3]; exact t_at_c hp hst (by omega) (fun k hk => e127 k (by omega))
        have n2 : N 115 2 = w := by rw [hsc _ _ (by omega) (by omega) (by omega)]; exact a1
        refine xr_aloadn hc rfl rfl ?_
        refine xr_iloadn hc rfl rfl ?_
        refine xr_aloadn hc rfl rfl ?_
        refine xr_getfi hc rfl (Or.inl rfl) (by first | assumption | rfl) ?_
        rw [n2]
        refine xr_callv2 hc rfl (by first | assumption | rfl) rfl rfl rfl (Nat.le_of_ble_eq_true rfl) (Nat.zero_le _) (Nat.zero_le _) ?_
        refine D_makeRow hl (by omega) (fun N3 b1 b2 b3 b4 => ?_)
        refine xk_0 ?_
        refine xr_iconst hc rfl ?_
        refine xr_istore6 hc rfl rfl ?_
        exact lp3 w.toNat 0 N3 lb e5 _ (by omega) elb (fun q2 k2 v1 v2 v3 v4 v5 => by rw [b1 _ _ v4 v5, hsc _ _ v1 v2 v3]) (fun k2 => by rw [b2 k2]; unfold fup; split; rfl; rw [hsc _ _ (by omega) (by omega) (by omega)]) (fun k2 u => by rw [b3 k2 u, hsc _ _ (by omega) (by omega) (by omega)]) (fun k hk => by omega) (fun k hk => by rw [b1 _ _ (by omega) (by omega)]; exact e127 k hk)
    have lcp : ∀ (N0 : Nat → Nat → Int) (by1 : Int) (e5 : Int), N0 115 2 = w → (∀ (N1 : Nat → Nat → Int), (∀ q2 k2, q2 ≠ 127 → N1 q2 k2 = N0 q2 k2) → (∀ i, i < w.toNat → N1 127 i = N0 126 i) → ∀ e7 : Option dz_V, dz_X (dz_E dz_pp xo (d + 5)) dz_pp xo (dz_pp 185) Q 127 [some (dz_r 115), some (dz_i m), some (dz_i r), some (dz_i 0), some (dz_i by1), some (dz_i e5), some (dz_i by1), e7] [] 0 0 (sh, rf, N1)) → ∀ (k : Nat) (N1 : Nat → Nat → Int), k = 0 → N1 = N0 → dz_X (dz_E dz_pp xo (d + 5)) dz_pp xo (dz_pp 185) Q 98 [some (dz_r 115), some (dz_i m), some (dz_i r), some (dz_i 0), some (dz_i by1), some (dz_i e5), some (dz_i by1), some (dz_i (k : Int))] [] 0 0 (sh, rf, N1) := by
      intro N0 by1 e5 n20 hK
      have lpc : ∀ (mm : Nat) (k : Nat) (N1 : Nat → Nat → Int), (k : Int) + mm = w → (∀ q2 k2, q2 ≠ 127 → N1 q2 k2 = N0 q2 k2) → (∀ i, i < k → N1 127 i = N0 126 i) → dz_X (dz_E dz_pp xo (d + 5)) dz_pp xo (dz_pp 185) Q 98 [some (dz_r 115), some (dz_i m), some (dz_i r), some (dz_i 0), some (dz_i by1), some (dz_i e5), some (dz_i by1), some (dz_i (k : Int))] [] 0 0 (sh, rf, N1) := by
        intro mm
        induction mm with
        | zero =>
          intro k N1 hk g1 g2
          have n2 : N1 115 2 = w := by rw [g1 _ _ (by omega)]; exact n20
          refine xr_iload hc rfl rfl ?_
          refine xr_aloadn hc rfl rfl ?_
          refine xr_getfi hc rfl (Or.inl rfl) (by first | assumption | rfl) ?_
          rw [n2]
          refine xr_icmp_ge hc rfl (t := 127) rfl (fun b104 => ?_) (fun b104 => ?_)
          · exact hK N1 g1 (fun i hi => g2 i (by omega)) _
          · omega
        | succ mm ihc =>
          intro k N1 hk g1 g2
          have n2 : N1 115 2 = w := by rw [g1 _ _ (by omega)]; exact n20
          have n126 : N1 126 k = N0 126 k := g1 _ _ (by omega)
          refine xr_iload hc rfl rfl ?_
          refine xr_aloadn hc rfl rfl ?_
          refine xr_getfi hc rfl (Or.inl rfl) (by first | assumption | rfl) ?_
          rw [n2]
          refine xr_icmp_ge hc rfl (t := 127) rfl (fun b104 => ?_) (fun b104 => ?_)
          · omega
          · refine xr_aloadn hc rfl rfl ?_
            refine xr_getfr hc rfl rfl (by first | assumption | rfl) (by first | assumption | rfl) ?_
            refine xr_iload hc rfl rfl ?_
            refine xr_aloadn hc rfl rfl ?_
            refine xr_getfr hc rfl rfl (by first | assumption | rfl) (by first | assumption | rfl) ?_
            refine xr_iload hc rfl rfl ?_
            first | refine xr_iaload hc rfl (by first | assumption | rfl) (by first | omega | (unfold dz_w; omega)) (by first | omega | (unfold dz_w; omega)) ?_ | refine xr_ialoado hc rfl (by first | omega | (unfold dz_w; omega)) (by first | omega | (unfold dz_w; omega)) ?_
            rw [Int.toNat_natCast, n126]
            refine xr_iastore hc rfl (by first | assumption | rfl) (by first | omega | (unfold dz_w; omega)) (by first | omega | (unfold dz_w; omega)) ?_
            rw [Int.toNat_natCast]
            refine xr_iincz7 hc rfl rfl (by first | exact dz_wid (by first | omega | (unfold dz_w; omega)) (by first | omega | (unfold dz_w; omega)) | rfl) ?_
            refine xr_goto hc rfl (t := 98) rfl ?_
            refine ihc (k + 1) _ (by omega) (fun q2 k2 v => by rw [dz_up_ne v, g1 _ _ v]) (fun i hi => ?_)
            by_cases e : i = k
            · rw [e, dz_up_eq]
            · rw [dz_up_k e]
              exact g2 i (by omega)
      intro k N1 hk0 hN1
      subst hk0
      subst hN1
      exact lpc w.toNat 0 N1 (by omega) (fun _ _ _ => rfl) (fun i hi => by omega)
    have big : ∀ (m_ : Nat) (N : Nat → Nat → Int) (lb lbr : Int) (e5 : Int) (e6 e7 : Option dz_V), 1000000 ≤ key (N 126) w.toNat + (m_ : Int) → scr M N → (∀ k, k < w.toNat → 0 ≤ (N 126) k ∧ (N 126) k < pl) → N 126 0 = hs n 5 → ((lb = 99999 ∧ lbr = 99999000000) ∨ (vld w.toNat pl (N 127) ∧ N 127 0 = hs n 5 ∧ lb = t_at pl kd wt nx (N 127) m.toNat (hs n) ∧ lbr = lb * 1000000 + key (N 127) w.toNat ∧ key (N 127) w.toNat < key (N 126) w.toNat)) → (∀ g, vld w.toNat pl g → g 0 = hs n 5 → key g w.toNat < key (N 126) w.toNat → lbr ≤ (t_at pl kd wt nx g m.toNat (hs n) * 1000000 + key g w.toNat)) → dz_X (dz_E dz_pp xo (d + 5)) dz_pp xo (dz_pp 185) Q 65 [some (dz_r 115), some (dz_i m), some (dz_i r), some (dz_i 0), some (dz_i lb), some (dz_i e5), e6, e7] [] 0 0 (sh, rf, N) := by
      intro m_
      induction m_ with
      | zero =>
        intro N lb lbr e5 e6 e7 hfu hsc hdv h0 hbest hall
        have z := kdv2 _ hdv
        exfalso
        omega
      | succ m_ ih =>
        have t127 : ∀ (N : Nat → Nat → Int) (lb lbr : Int) (e5 : Int) (e6 e7 : Option dz_V), 1000000 ≤ key (N 126) w.toNat + ((m_ + 1 : Nat) : Int) → scr M N → (∀ k, k < w.toNat → 0 ≤ (N 126) k ∧ (N 126) k < pl) → N 126 0 = hs n 5 → ((lb = 99999 ∧ lbr = 99999000000) ∨ (vld w.toNat pl (N 127) ∧ N 127 0 = hs n 5 ∧ lb = t_at pl kd wt nx (N 127) m.toNat (hs n) ∧ lbr = lb * 1000000 + key (N 127) w.toNat ∧ key (N 127) w.toNat ≤ key (N 126) w.toNat)) → (∀ g, vld w.toNat pl g → g 0 = hs n 5 → key g w.toNat ≤ key (N 126) w.toNat → lbr ≤ (t_at pl kd wt nx g m.toNat (hs n) * 1000000 + key g w.toNat)) → dz_X (dz_E dz_pp xo (d + 5)) dz_pp xo (dz_pp 185) Q 127 [some (dz_r 115), some (dz_i m), some (dz_i r), some (dz_i 0), some (dz_i lb), some (dz_i e5), e6, e7] [] 0 0 (sh, rf, N) := by
          intro N lb lbr e5 e6 e7 hfu hsc hdv h0 hbest hall
          have n2 : N 115 2 = w := by rw [hsc _ _ (by omega) (by omega) (by omega)]; exact a1
          have n1 : N 115 1 = pl := by rw [hsc _ _ (by omega) (by omega) (by omega)]; exact a2
          refine xr_aloadn hc rfl rfl ?_
          refine xr_callv0 hc rfl (by first | assumption | rfl) rfl rfl rfl (Nat.le_of_ble_eq_true rfl) (Nat.zero_le _) (Nat.zero_le _) ?_
          refine D_nextLine (w := w) (pl := pl) hl n2 n1 (by omega) (by omega) hdv (fun N2 y1 y2 y3 y4 y5 => ?_) (fun N2 y1 y2 => ?_)
          · refine xk_1 ?_
            refine xr_istore5 hc rfl rfl ?_
            refine xr_goto hc rfl (t := 60) rfl ?_
            refine xr_iload hc rfl rfl ?_
            refine xr_iff hc rfl (by simp [dz_cmp]) ?_
            exact ih N2 lb lbr _ _ _ (by omega) (fun q2 k2 v1 v2 v3 => by rw [y1 _ _ (by omega), hsc _ _ v1 v2 v3]) y2 (by rw [y3]; exact h0) (by
              have e127 : N2 127 = N 127 := funext fun k => y1 _ _ (by omega)
              rw [e127]
              rcases hbest with z | ⟨z1, z2, z3, z4, z5⟩
              · exact Or.inl z
              · exact Or.inr ⟨z1, z2, z3, z4, by omega⟩) (fun g hg g0 hk => by
              rcases y5 g hg.1 (by rw [g0, h0]) with z | z
              · exact hall g hg g0 z
              · omega)
          · refine xk_1 ?_
            refine xr_istore5 hc rfl rfl ?_
            refine xr_goto hc rfl (t := 60) rfl ?_
            refine xr_iload hc rfl rfl ?_
            refine xr_ift hc rfl (t := 136) rfl (by simp [dz_cmp]) ?_
            refine t136 N2 lb lbr _ _ _ (fun q2 k2 v1 v2 v3 => by rw [y1 _ _ (by omega), hsc _ _ v1 v2 v3]) (fun g hg g0 => hall g hg g0 (y2 g hg.1 (by rw [g0, h0]))) ?_
            have e127 : N2 127 = N 127 := funext fun k => y1 _ _ (by omega)
            rw [e127]
            rcases hbest with z | ⟨z1, z2, z3, z4, z5⟩
            · exact Or.inl z
            · exact Or.inr ⟨z1, z2, z3, z4⟩
        intro N lb lbr e5 e6 e7 hfu hsc hdv h0 hbest hall
        have n2 : N 115 2 = w := by rw [hsc _ _ (by omega) (by omega) (by omega)]; exact a1
        have hRN := RM_scr hR hW hsc
        have hlb : lb ≤ 99999 := by
          rcases hbest with ⟨z1, z2⟩ | ⟨z1, z2, z3, z4, z5⟩
          · omega
          · have zz := ain (N 127)
            omega
        refine xr_aloadn hc rfl rfl ?_
        refine xr_callv0 hc rfl (by first | assumption | rfl) rfl rfl rfl (Nat.le_of_ble_eq_true rfl) (Nat.zero_le _) (Nat.zero_le _) ?_
        refine D_areUnlike (w := w) (pl := pl) hl n2 (by omega) (by omega) hdv (fun y => ?_) (fun y => ?_)
        · refine xk_1 ?_
          refine xr_iff hc rfl (by simp [dz_cmp]) ?_
          refine xr_aloadn hc rfl rfl ?_
          refine xr_iloadn hc rfl rfl ?_
          refine xr_callv1 hc rfl (by first | assumption | rfl) rfl rfl rfl (Nat.le_of_ble_eq_true rfl) (Nat.zero_le _) (Nat.zero_le _) ?_
          refine D_beatsByLine hl hRN hW hw0 (by omega) hdv (fun N1 x1 => ?_)
          have e126 : N1 126 = N 126 := funext fun k => x1 _ _ (by omega) (by omega)
          have e127 : N1 127 = N 127 := funext fun k => x1 _ _ (by omega) (by omega)
          have hvL : vld w.toNat pl (N 126) := ⟨hdv, y⟩
          have haL := ain (N 126)
          have hkL := kin _ hvL
          have hsc1 : scr M N1 := fun q2 k2 v1 v2 v3 => by rw [x1 _ _ (by omega) v2, hsc _ _ v1 v2 v3]
          refine xk_1 ?_
          refine xr_goto hc rfl (t := 82) rfl ?_
          refine xr_istore6 hc rfl rfl ?_
          refine xr_iload hc rfl rfl ?_
          refine xr_iload hc rfl rfl ?_
          refine xr_icmp_ge hc rfl (t := 127) rfl (fun b88 => ?_) (fun b88 => ?_)
          · first
              | (exfalso; omega)
              | (refine t127 N1 lb lbr _ _ _ (by rw [e126]; omega) hsc1 (by rw [e126]; exact hdv) (by rw [e126]; exact h0) ?_ (fun g hg g0 hk => ?_)
                 · rw [e126, e127]
                   rcases hbest with z | ⟨z1, z2, z3, z4, z5⟩
                   · exact Or.inl z
                   · exact Or.inr ⟨z1, z2, z3, z4, by omega⟩
                 · rw [e126] at hk
                   by_cases e : key g w.toNat < key (N 126) w.toNat
                   · exact hall g hg g0 e
                   · have eg := key_eq w.toNat (vld_dig (by omega) hg) (vld_dig (by omega) hvL) (by omega)
                     have ea : t_at pl kd wt nx g m.toNat (hs n) = t_at pl kd wt nx (N 126) m.toNat (hs n) := t_at_c hp hst (by omega) (fun k hk => eg k (by omega))
                     rw [ea]
                     rcases hbest with ⟨z1, z2⟩ | ⟨z1, z2, z3, z4, z5⟩
                     · omega
                     · have zz := kin _ z1
                       omega)
              | (refine t127 N lb lbr _ _ _ (by omega) hsc hdv h0 ?_ (fun g hg g0 hk => ?_)
                 · rcases hbest with z | ⟨z1, z2, z3, z4, z5⟩
                   · exact Or.inl z
                   · exact Or.inr ⟨z1, z2, z3, z4, by omega⟩
                 · by_cases e : key g w.toNat < key (N 126) w.toNat
                   · exact hall g hg g0 e
                   · have eg := key_eq (g := N 126) w.toNat (vld_dig (by omega) hg) (fun k hk => by have z := hdv k hk; omega) (by omega)
                     exact absurd (fun j k hj hk h9 e => by rw [← eg j hj] at h9 e; rw [← eg k hk] at e; exact hg.2 j k hj hk h9 e) y)
          · refine xr_iload hc rfl rfl ?_
            refine xr_istore4 hc rfl rfl ?_
            refine xr_iconst hc rfl ?_
            refine xr_istore7 hc rfl rfl ?_
            first
              | (exfalso; omega)
              | (refine lcp N1 _ _ (by rw [x1 _ _ (by omega) (by omega)]; exact n2) (fun N3 g1 g2 e7 => ?_) 0 N1 rfl rfl
                 have f126 : N3 126 = N 126 := funext fun k => by rw [g1 _ _ (by omega), e126]
                 have f127 : ∀ k, k < w.toNat → N3 127 k = N 126 k := fun k hk => by rw [g2 k hk, e126]
                 have k127 : key (N3 127) w.toNat = key (N 126) w.toNat := key_c _ f127
                 have a127 : t_at pl kd wt nx (N3 127) m.toNat (hs n) = t_at pl kd wt nx (N 126) m.toNat (hs n) := t_at_c hp hst (by omega) (fun k hk => f127 k (by omega))
                 refine t127 N3 _ ((t_at pl kd wt nx (N 126) m.toNat (hs n) * 1000000 + key (N 126) w.toNat)) _ _ _ (by rw [f126]; omega) (fun q2 k2 v1 v2 v3 => by rw [g1 _ _ (by omega), hsc1 _ _ v1 v2 v3]) (by rw [f126]; exact hdv) (by rw [f126]; exact h0) (Or.inr ⟨?_, by rw [f127 0 (by omega)]; exact h0, by rw [a127], by rw [k127], by rw [k127, f126]; omega⟩) (fun g hg g0 hk => ?_)
                 · refine ⟨fun k hk => by rw [f127 k hk]; exact hdv k hk, fun j k hj hk h9 e => ?_⟩
                   rw [f127 j hj] at h9 e
                   rw [f127 k hk] at e
                   exact y j k hj hk h9 e
                 · rw [f126] at hk
                   by_cases e : key g w.toNat < key (N 126) w.toNat
                   · have z := hall g hg g0 e
                     have zg := kin g hg
                     rcases hbest with ⟨z1, z2⟩ | ⟨z1, z2, z3, z4, z5⟩
                     · omega
                     · have zz := kin _ z1
                       omega
                   · have eg := key_eq w.toNat (vld_dig (by omega) hg) (vld_dig (by omega) hvL) (by omega)
                     have ea : t_at pl kd wt nx g m.toNat (hs n) = t_at pl kd wt nx (N 126) m.toNat (hs n) := t_at_c hp hst (by omega) (fun k hk => eg k (by omega))
                     rw [ea]
                     omega)
        · refine xk_1 ?_
          refine xr_ift hc rfl (t := 80) rfl (by simp [dz_cmp]) ?_
          refine xr_ldc hc rfl ?_
          refine xr_istore6 hc rfl rfl ?_
          refine xr_iload hc rfl rfl ?_
          refine xr_iload hc rfl rfl ?_
          refine xr_icmp_ge hc rfl (t := 127) rfl (fun b88 => ?_) (fun b88 => ?_)
          · first
              | (exfalso; omega)
              | (refine t127 N1 lb lbr _ _ _ (by rw [e126]; omega) hsc1 (by rw [e126]; exact hdv) (by rw [e126]; exact h0) ?_ (fun g hg g0 hk => ?_)
                 · rw [e126, e127]
                   rcases hbest with z | ⟨z1, z2, z3, z4, z5⟩
                   · exact Or.inl z
                   · exact Or.inr ⟨z1, z2, z3, z4, by omega⟩
                 · rw [e126] at hk
                   by_cases e : key g w.toNat < key (N 126) w.toNat
                   · exact hall g hg g0 e
                   · have eg := key_eq w.toNat (vld_dig (by omega) hg) (vld_dig (by omega) hvL) (by omega)
                     have ea : t_at pl kd wt nx g m.toNat (hs n) = t_at pl kd wt nx (N 126) m.toNat (hs n) := t_at_c hp hst (by omega) (fun k hk => eg k (by omega))
                     rw [ea]
                     rcases hbest with ⟨z1, z2⟩ | ⟨z1, z2, z3, z4, z5⟩
                     · omega
                     · have zz := kin _ z1
                       omega)
              | (refine t127 N lb lbr _ _ _ (by omega) hsc hdv h0 ?_ (fun g hg g0 hk => ?_)
                 · rcases hbest with z | ⟨z1, z2, z3, z4, z5⟩
                   · exact Or.inl z
                   · exact Or.inr ⟨z1, z2, z3, z4, by omega⟩
                 · by_cases e : key g w.toNat < key (N 126) w.toNat
                   · exact hall g hg g0 e
                   · have eg := key_eq (g := N 126) w.toNat (vld_dig (by omega) hg) (fun k hk => by have z := hdv k hk; omega) (by omega)
                     exact absurd (fun j k hj hk h9 e => by rw [← eg j hj] at h9 e; rw [← eg k hk] at e; exact hg.2 j k hj hk h9 e) y)
          · refine xr_iload hc rfl rfl ?_
            refine xr_istore4 hc rfl rfl ?_
            refine xr_iconst hc rfl ?_
            refine xr_istore7 hc rfl rfl ?_
            first
              | (exfalso; omega)
              | (refine lcp N1 _ _ (by rw [x1 _ _ (by omega) (by omega)]; exact n2) (fun N3 g1 g2 e7 => ?_) 0 N1 rfl rfl
                 have f126 : N3 126 = N 126 := funext fun k => by rw [g1 _ _ (by omega), e126]
                 have f127 : ∀ k, k < w.toNat → N3 127 k = N 126 k := fun k hk => by rw [g2 k hk, e126]
                 have k127 : key (N3 127) w.toNat = key (N 126) w.toNat := key_c _ f127
                 have a127 : t_at pl kd wt nx (N3 127) m.toNat (hs n) = t_at pl kd wt nx (N 126) m.toNat (hs n) := t_at_c hp hst (by omega) (fun k hk => f127 k (by omega))
                 refine t127 N3 _ ((t_at pl kd wt nx (N 126) m.toNat (hs n) * 1000000 + key (N 126) w.toNat)) _ _ _ (by rw [f126]; omega) (fun q2 k2 v1 v2 v3 => by rw [g1 _ _ (by omega), hsc1 _ _ v1 v2 v3]) (by rw [f126]; exact hdv) (by rw [f126]; exact h0) (Or.inr ⟨?_, by rw [f127 0 (by omega)]; exact h0, by rw [a127], by rw [k127], by rw [k127, f126]; omega⟩) (fun g hg g0 hk => ?_)
                 · refine ⟨fun k hk => by rw [f127 k hk]; exact hdv k hk, fun j k hj hk h9 e => ?_⟩
                   rw [f127 j hj] at h9 e
                   rw [f127 k hk] at e
                   exact y j k hj hk h9 e
                 · rw [f126] at hk
                   by_cases e : key g w.toNat < key (N 126) w.toNat
                   · have z := hall g hg g0 e
                     have zg := kin g hg
                     rcases hbest with ⟨z1, z2⟩ | ⟨z1, z2, z3, z4, z5⟩
                     · omega
                     · have zz := kin _ z1
                       omega
                   · have eg := key_eq w.toNat (vld_dig (by omega) hg) (vld_dig (by omega) hvL) (by omega)
                     have ea : t_at pl kd wt nx g m.toNat (hs n) = t_at pl kd wt nx (N 126) m.toNat (hs n) := t_at_c hp hst (by omega) (fun k hk => eg k (by omega))
                     rw [ea]
                     omega)
    have lp0 : ∀ (m_ : Nat) (i : Nat) (N : Nat → Nat → Int), (i : Int) + m_ = w → (∀ q2 k2, q2 ≠ 126 → N q2 k2 = M q2 k2) → (∀ k, k < i → N 126 k = if k = 0 then hs n 5 else 0) → dz_X (dz_E dz_pp xo (d + 5)) dz_pp xo (dz_pp 185) Q 16 [some (dz_r 115), some (dz_i m), some (dz_i r), some (dz_i 0), some (dz_i (i : Int)), none, none, none] [] 0 0 (sh, rf, N) := by
      intro m_
      induction m_ with
      | zero =>
        intro i N hi h1 h2
        have n2 : N 115 2 = w := by rw [h1 _ _ (by omega)]; exact a1
        refine xr_iload hc rfl rfl ?_
        refine xr_aloadn hc rfl rfl ?_
        refine xr_getfi hc rfl (Or.inl rfl) (by first | assumption | rfl) ?_
        rw [n2]
        refine xr_icmp_ge hc rfl (t := 53) rfl (fun b22 => ?_) (fun b22 => ?_)
        · refine xr_ldc hc rfl ?_
          refine xr_istore4 hc rfl rfl ?_
          refine xr_iconst hc rfl ?_
          refine xr_istore5 hc rfl rfl ?_
          refine xr_iload hc rfl rfl ?_
          refine xr_iff hc rfl (by simp [dz_cmp]) ?_
          have hdv : (∀ k, k < w.toNat → 0 ≤ (N 126) k ∧ (N 126) k < pl) := fun k hk => by
            rw [h2 k (by omega)]
            have z := st8 0 (by omega)
            have z0 : 0 ≤ hs n 5 ∧ hs n 5 < pl := ⟨z.1, z.2.1⟩
            split <;> omega
          have h00 : N 126 0 = hs n 5 := by rw [h2 0 (by omega), if_pos rfl]
          refine big 1000000 N 99999 99999000000 _ _ _ (by have z := kdv2 _ hdv; omega) (fun q2 k2 v1 v2 v3 => h1 _ _ (by omega)) hdv h00 (Or.inl ⟨rfl, rfl⟩) (fun g hg g0 hk => ?_)
          exfalso
          have z := key_B (f := N 126) (g := g) (a := 1) (by show 0 * 10 + N 126 0 ≤ 0 * 10 + g 0; rw [g0, h00]; exact Int.le_refl _) (w.toNat - 1) (fun k hk hk2 => ⟨by rw [h2 k (by omega), if_neg (by omega)], (hg.1 k (by omega)).1⟩)
          rw [show 1 + (w.toNat - 1) = w.toNat by omega] at z
          omega
        · omega
      | succ m_ ih =>
        intro i N hi h1 h2
        have n2 : N 115 2 = w := by rw [h1 _ _ (by omega)]; exact a1
        have n5 : N 116 5 = hs n 5 := by rw [h1 _ _ (by omega)]; exact b2c 5 (by unfold okc; omega)
        refine xr_iload hc rfl rfl ?_
        refine xr_aloadn hc rfl rfl ?_
        refine xr_getfi hc rfl (Or.inl rfl) (by first | assumption | rfl) ?_
        rw [n2]
        refine xr_icmp_ge hc rfl (t := 53) rfl (fun b22 => ?_) (fun b22 => ?_)
        · omega
        · refine xr_aloadn hc rfl rfl ?_
          refine xr_getfr hc rfl rfl (by first | assumption | rfl) (by first | assumption | rfl) ?_
          refine xr_iload hc rfl rfl ?_
          refine xr_iload hc rfl rfl ?_
          refine xr_if_ne hc rfl (t := 45) rfl (fun b33 => ?_) (fun b33 => ?_)
          · refine xr_iconst hc rfl ?_
            refine xr_iastore hc rfl (by first | assumption | rfl) (by first | omega | (unfold dz_w; omega)) (by first | omega | (unfold dz_w; omega)) ?_
            rw [Int.toNat_natCast]
            refine xr_iincz4 hc rfl rfl (by first | exact dz_wid (by first | omega | (unfold dz_w; omega)) (by first | omega | (unfold dz_w; omega)) | rfl) ?_
            refine xr_goto hc rfl (t := 16) rfl ?_
            refine ih (i + 1) _ (by omega) (fun q2 k2 v => by rw [dz_up_ne v, h1 _ _ v]) (fun k hk => ?_)
            by_cases e : k = i
            · rw [e, dz_up_eq]
              first
                | rw [if_pos (by omega)]
                | rw [if_neg (by omega)]
            · rw [dz_up_k e]
              exact h2 k (by omega)
          · refine xr_aloadn hc rfl rfl ?_
            refine xr_getfr hc rfl rfl (by first | assumption | rfl) (by first | assumption | rfl) ?_
            refine xr_iconst hc rfl ?_
            first | refine xr_iaload hc rfl (by first | assumption | rfl) (by first | omega | (unfold dz_w; omega)) (by first | omega | (unfold dz_w; omega)) ?_ | refine xr_ialoado hc rfl (by first | omega | (unfold dz_w; omega)) (by first | omega | (unfold dz_w; omega)) ?_
            rw [show N 116 (Int.toNat 5) = hs n 5 from n5]
            refine xr_goto hc rfl (t := 46) rfl ?_
            refine xr_iastore hc rfl (by first | assumption | rfl) (by first | omega | (unfold dz_w; omega)) (by first | omega | (unfold dz_w; omega)) ?_
            rw [Int.toNat_natCast]
            refine xr_iincz4 hc rfl rfl (by first | exact dz_wid (by first | omega | (unfold dz_w; omega)) (by first | omega | (unfold dz_w; omega)) | rfl) ?_
            refine xr_goto hc rfl (t := 16) rfl ?_
            refine ih (i + 1) _ (by omega) (fun q2 k2 v => by rw [dz_up_ne v, h1 _ _ v]) (fun k hk => ?_)
            by_cases e : k = i
            · rw [e, dz_up_eq]
              first
                | rw [if_pos (by omega)]
                | rw [if_neg (by omega)]
            · rw [dz_up_k e]
              exact h2 k (by omega)
    refine xr_iconst hc rfl ?_
    refine xr_istore4 hc rfl rfl ?_
    exact lp0 w.toNat 0 M (by omega) (fun _ _ _ => rfl) (fun k hk => by omega)
