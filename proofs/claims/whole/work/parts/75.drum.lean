/-! The class: fault, drum. Written by l2_75.py. -/
set_option maxRecDepth 100000 in
theorem X_fault {xo : Nat → List Int} {d : Nat} {Q : dz_Q} {sh : List (Nat ⊕ (Nat × Nat))} {rf : Nat → Nat → Nat} {M : Nat → Nat → Int} {rs : Nat → Int} {it : Nat → Nat → Int} {ts : Nat → Int} {ch : Nat → Nat → Int} {tl up lo : Int} {fn : Nat → Int} {w pl : Int} {kd wt nx : Nat → Int} {n : Nat} {hs : Nat → Nat → Int} {kp : Nat → Int} {kh : Nat → Nat → Nat → Int} {t : Int} (hx1 : xo 1 = dz_xs1) (hl : cl sh rf) (hR : RX M rs it ts ch tl up lo fn w pl kd wt nx n hs kp kh) (hW : WF rs it ts ch tl up lo fn w pl kd wt nx n hs kp kh) (hQ : ∀ (M2 : Nat → Nat → Int) (rf2 : Nat → Nat → Nat), cl sh rf2 → (ml sh rf → ml sh rf2) → (∀ q2 k2, 115 ≤ q2 → M2 q2 k2 = M q2 k2) → RX M2 rs it ts ch tl up lo (o_fault ts ch fn t).2 w pl kd wt nx n hs kp kh → Q (some (dz_i ((o_fault ts ch fn t).1))) (sh, rf2, M2)) : dz_E dz_pp xo (d + 6) 61 [dz_r 0, dz_i t] (sh, rf, M) Q := by
  refine ⟨Nat.le_of_ble_eq_true rfl, ?_⟩
  have hc := dz_E_m dz_pp xo (d + 5)
  show dz_X (dz_E dz_pp xo (d + 5)) dz_pp xo (dz_pp 61) Q 0 [some (dz_r 0), some (dz_i t)] [] 0 0 (sh, rf, M)
  obtain ⟨c0, c1, c2, c3, c4, c5, c6, c7, c8, c9, c10, c11, c12, c13, c14, c15, c16, c17, c18, c19, c20, c21, c22, c23, c24, c25, c26, c27, c28, c29, c30, c31, c32, c33, c34, c35, c36⟩ := id hl
  obtain ⟨hrow, htxt, htl, hup, hlo, hfn, hdr, hkp, hrb⟩ := id hR
  obtain ⟨wrow, wtxt, wdr, wst, wkp⟩ := id hW
  refine xr_iloadn hc rfl rfl ?_
  refine xr_calls1 hc rfl (by decide) rfl rfl rfl (Nat.le_of_ble_eq_true rfl) (Nat.zero_le _) (Nat.zero_le _) ?_
  refine S_isText (fun u1 v1 => ?_) (fun u1 => ?_)
  · refine xk_1 ?_
    refine xr_ift hc rfl (t := 9) rfl (by simp [dz_cmp]) ?_
    obtain ⟨e1, e2⟩ := htxt t.toNat (by omega)
    obtain ⟨w1, w2⟩ := wtxt t.toNat (by omega)
    have c9r := c9 t.toNat (by omega)
    have c10r := c10 t.toNat (by omega)
    refine xr_aloadn hc rfl rfl ?_
    refine xr_getfr hc rfl rfl (by first | assumption | rfl) (by first | assumption | rfl) ?_
    refine xr_iloadn hc rfl rfl ?_
    first | refine xr_iaload hc rfl (by first | assumption | rfl) (by first | omega | (unfold dz_w; omega)) (by first | omega | (unfold dz_w; omega)) ?_ | refine xr_ialoado hc rfl (by first | omega | (unfold dz_w; omega)) (by first | omega | (unfold dz_w; omega)) ?_
    rw [e1]
    refine xr_iconst hc rfl ?_
    refine xr_icmp_ne hc rfl (t := 25) rfl (fun b16 => ?_) (fun b16 => ?_)
    · have e1n : M 14 t.toNat = ((((ts t.toNat).toNat) : Nat) : Int) := by omega
      refine xr_aloadn hc rfl rfl ?_
      refine xr_getfr hc rfl rfl (by first | assumption | rfl) (by first | assumption | rfl) ?_
      refine xr_aloadn hc rfl rfl ?_
      refine xr_getfr hc rfl rfl (by first | assumption | rfl) (by first | assumption | rfl) ?_
      refine xr_iloadn hc rfl rfl ?_
      refine xr_aaload hc rfl (by first | assumption | rfl) (by decide) (by first | omega | (unfold dz_w; omega)) (by first | omega | (unfold dz_w; omega)) (by first | assumption | rfl) ?_
      refine xr_aloadn hc rfl rfl ?_
      refine xr_getfr hc rfl rfl (by first | assumption | rfl) (by first | assumption | rfl) ?_
      refine xr_iloadn hc rfl rfl ?_
      first | refine xr_iaload hc rfl (by first | assumption | rfl) (by first | omega | (unfold dz_w; omega)) (by first | omega | (unfold dz_w; omega)) ?_ | refine xr_ialoado hc rfl (by first | omega | (unfold dz_w; omega)) (by first | omega | (unfold dz_w; omega)) ?_
      rw [e1n]
      refine xr_callv2 hc rfl (by first | assumption | rfl) rfl rfl rfl (Nat.le_of_ble_eq_true rfl) (Nat.zero_le _) (Nat.zero_le _) ?_
      refine S_faultOf (tx := t.toNat) (nn := (ts t.toNat).toNat) (c := (ch t.toNat)) hl hx1 (by omega) (by omega) (fun k hk => ⟨e2 k (by omega), w2 k (by omega)⟩) (fun M2 y1 y2 => ?_)
      have hsx : scX M M2 := ⟨fun q2 k2 u => y1 _ _ (by omega) (by omega) (by omega), fun q2 k2 u => y1 _ _ (by omega) (by omega) (by omega)⟩
      obtain ⟨rf2, hrf0⟩ : ∃ rf2, rf2 = dz_up rf 41 1 (10 + t.toNat + 1) := ⟨_, rfl⟩
      rw [← hrf0]
      have hl2 : cl sh rf2 := by rw [hrf0]; exact cl_up hl
      have hm2 : ml sh rf → ml sh rf2 := fun z => by rw [hrf0]; exact ml_up z
      refine xk_1 ?_
      refine xr_ireturn hc rfl rfl (Nat.zero_le _) (Nat.zero_le _) ?_
      simp only [o_fault] at hQ
      rw [if_neg (by omega), if_neg (by omega)] at hQ
      exact hQ M2 rf2 hl2 hm2 (fun q2 k2 u => y1 _ _ (by omega) (by omega) (by omega)) (RX_scr hR hsx)
    · refine xr_aloadn hc rfl rfl ?_
      refine xr_iconst hc rfl ?_
      refine xr_callv1 hc rfl (by first | assumption | rfl) rfl rfl rfl (Nat.le_of_ble_eq_true rfl) (Nat.zero_le _) (Nat.zero_le _) ?_
      refine S_refuse hl hR hW (by omega) (fun M2 z1 z2 => ?_)
      refine xk_1 ?_
      refine xr_ireturn hc rfl rfl (Nat.zero_le _) (Nat.zero_le _) ?_
      simp only [o_fault] at hQ
      repeat (first | rw [if_pos (by omega)] at hQ | rw [if_neg (by omega)] at hQ)
      try dsimp only at hQ
      exact hQ M2 rf hl (fun z => z) z1 z2
  · refine xk_1 ?_
    refine xr_iff hc rfl (by simp [dz_cmp]) ?_
    refine xr_iconst hc rfl ?_
    refine xr_ireturn hc rfl rfl (Nat.zero_le _) (Nat.zero_le _) ?_
    simp only [o_fault] at hQ
    repeat (first | rw [if_pos (by omega)] at hQ | rw [if_neg (by omega)] at hQ)
    try dsimp only at hQ
    exact hQ M rf hl (fun z => z) (fun _ _ _ => rfl) hR
set_option maxHeartbeats 2000000 in
set_option maxRecDepth 100000 in
theorem X_drum {xo : Nat → List Int} {d : Nat} {Q : dz_Q} {sh : List (Nat ⊕ (Nat × Nat))} {rf : Nat → Nat → Nat} {M : Nat → Nat → Int} {rs : Nat → Int} {it : Nat → Nat → Int} {ts : Nat → Int} {ch : Nat → Nat → Int} {tl up lo : Int} {fn : Nat → Int} {w pl : Int} {kd wt nx : Nat → Int} {n : Nat} {hs : Nat → Nat → Int} {kp : Nat → Int} {kh : Nat → Nat → Nat → Int} {t : Int} (hx1 : xo 1 = dz_xs1) (hl : cl sh rf) (hR : RX M rs it ts ch tl up lo fn w pl kd wt nx n hs kp kh) (hW : WF rs it ts ch tl up lo fn w pl kd wt nx n hs kp kh) (hQ : ∀ (M2 : Nat → Nat → Int) (rf2 : Nat → Nat → Nat), cl sh rf2 → (ml sh rf → ml sh rf2) → (∀ q2 k2, 115 ≤ q2 → M2 q2 k2 = M q2 k2) → RX M2 rs it ts ch tl up lo (o_drum ts ch fn w pl kd wt nx n hs kp t).2.1 (o_drum ts ch fn w pl kd wt nx n hs kp t).2.2.1 (o_drum ts ch fn w pl kd wt nx n hs kp t).2.2.2.1 (o_drum ts ch fn w pl kd wt nx n hs kp t).2.2.2.2.1 (o_drum ts ch fn w pl kd wt nx n hs kp t).2.2.2.2.2.1 (o_drum ts ch fn w pl kd wt nx n hs kp t).2.2.2.2.2.2.1 (o_drum ts ch fn w pl kd wt nx n hs kp t).2.2.2.2.2.2.2.1 (o_drum ts ch fn w pl kd wt nx n hs kp t).2.2.2.2.2.2.2.2.1 (o_drum ts ch fn w pl kd wt nx n hs kp t).2.2.2.2.2.2.2.2.2 kh → Q (some (dz_i ((o_drum ts ch fn w pl kd wt nx n hs kp t).1))) (sh, rf2, M2)) : dz_E dz_pp xo (d + 7) 62 [dz_r 0, dz_i t] (sh, rf, M) Q := by
  refine ⟨Nat.le_of_ble_eq_true rfl, ?_⟩
  have hc := dz_E_m dz_pp xo (d + 6)
  show dz_X (dz_E dz_pp xo (d + 6)) dz_pp xo (dz_pp 62) Q 0 [some (dz_r 0), some (dz_i t), none] [] 0 0 (sh, rf, M)
  obtain ⟨c0, c1, c2, c3, c4, c5, c6, c7, c8, c9, c10, c11, c12, c13, c14, c15, c16, c17, c18, c19, c20, c21, c22, c23, c24, c25, c26, c27, c28, c29, c30, c31, c32, c33, c34, c35, c36⟩ := id hl
  obtain ⟨hrow, htxt, htl, hup, hlo, hfn, hdr, hkp, hrb⟩ := id hR
  obtain ⟨wrow, wtxt, wdr, wst, wkp⟩ := id hW
  refine xr_iloadn hc rfl rfl ?_
  refine xr_calls1 hc rfl (by decide) rfl rfl rfl (Nat.le_of_ble_eq_true rfl) (Nat.zero_le _) (Nat.zero_le _) ?_
  refine S_isText (fun u1 v1 => ?_) (fun u1 => ?_)
  · refine xk_1 ?_
    refine xr_ift hc rfl (t := 9) rfl (by simp [dz_cmp]) ?_
    obtain ⟨e1, e2⟩ := htxt t.toNat (by omega)
    obtain ⟨w1, w2⟩ := wtxt t.toNat (by omega)
    have c9r := c9 t.toNat (by omega)
    have c10r := c10 t.toNat (by omega)
    refine xr_aloadn hc rfl rfl ?_
    refine xr_getfr hc rfl rfl (by first | assumption | rfl) (by first | assumption | rfl) ?_
    refine xr_iloadn hc rfl rfl ?_
    first | refine xr_iaload hc rfl (by first | assumption | rfl) (by first | omega | (unfold dz_w; omega)) (by first | omega | (unfold dz_w; omega)) ?_ | refine xr_ialoado hc rfl (by first | omega | (unfold dz_w; omega)) (by first | omega | (unfold dz_w; omega)) ?_
    rw [e1]
    refine xr_iconst hc rfl ?_
    refine xr_icmp_ne hc rfl (t := 25) rfl (fun b16 => ?_) (fun b16 => ?_)
    · have e1n : M 14 t.toNat = ((((ts t.toNat).toNat) : Nat) : Int) := by omega
      refine xr_aloadn hc rfl rfl ?_
      refine xr_getfr hc rfl rfl (by first | assumption | rfl) (by first | assumption | rfl) ?_
      refine xr_aloadn hc rfl rfl ?_
      refine xr_getfr hc rfl rfl (by first | assumption | rfl) (by first | assumption | rfl) ?_
      refine xr_iloadn hc rfl rfl ?_
      refine xr_aaload hc rfl (by first | assumption | rfl) (by decide) (by first | omega | (unfold dz_w; omega)) (by first | omega | (unfold dz_w; omega)) (by first | assumption | rfl) ?_
      refine xr_aloadn hc rfl rfl ?_
      refine xr_getfr hc rfl rfl (by first | assumption | rfl) (by first | assumption | rfl) ?_
      refine xr_iloadn hc rfl rfl ?_
      first | refine xr_iaload hc rfl (by first | assumption | rfl) (by first | omega | (unfold dz_w; omega)) (by first | omega | (unfold dz_w; omega)) ?_ | refine xr_ialoado hc rfl (by first | omega | (unfold dz_w; omega)) (by first | omega | (unfold dz_w; omega)) ?_
      rw [e1n]
      refine xr_callv2 hc rfl (by first | assumption | rfl) rfl rfl rfl (Nat.le_of_ble_eq_true rfl) (Nat.zero_le _) (Nat.zero_le _) ?_
      refine S_faultOf (tx := t.toNat) (nn := (ts t.toNat).toNat) (c := (ch t.toNat)) hl hx1 (by omega) (by omega) (fun k hk => ⟨e2 k (by omega), w2 k (by omega)⟩) (fun M2 y1 y2 => ?_)
      have hsx : scX M M2 := ⟨fun q2 k2 u => y1 _ _ (by omega) (by omega) (by omega), fun q2 k2 u => y1 _ _ (by omega) (by omega) (by omega)⟩
      obtain ⟨rf2, hrf0⟩ : ∃ rf2, rf2 = dz_up rf 41 1 (10 + t.toNat + 1) := ⟨_, rfl⟩
      rw [← hrf0]
      have hl2 : cl sh rf2 := by rw [hrf0]; exact cl_up hl
      have hm2 : ml sh rf → ml sh rf2 := fun z => by rw [hrf0]; exact ml_up z
      obtain ⟨d0, d1, d2, d3, d4, d5, d6, d7, d8, d9, d10, d11, d12, d13, d14, d15, d16, d17, d18, d19, d20, d21, d22, d23, d24, d25, d26, d27, d28, d29, d30, d31, d32, d33, d34, d35, d36⟩ := id hl2
      have f1 : sh[15]? = some (.inl 0) := d14.1
      have f2 : rf2 15 1 = 23 + 1 := d14.2.2.2.1
      have f3 : sh[23]? = some (.inl 1) := d14.2.2.2.2.1.1
      refine xk_1 ?_
      refine xr_bipush hc rfl ?_
      refine xr_icmp_eq hc rfl (t := 52) rfl (fun b46 => ?_) (fun b46 => ?_)
      · have hfl : ∀ _ : Unit, rflt (ch t.toNat) (ts t.toNat).toNat = -9 := fun _ => b46
        clear b46
        have y3 := y2 (hfl ())
        clear y2
        simp only [o_drum] at hQ
        rw [if_neg (by omega), if_neg (by omega), if_neg (fun z => z (hfl ()))] at hQ
        clear hfl
        obtain ⟨wn, hwn⟩ : ∃ wn, ∀ _ : Unit, (rdt (ch t.toNat) (ts t.toNat).toNat).2.2.1 = wn := ⟨_, fun _ => rfl⟩
        obtain ⟨ps, hps⟩ : ∃ ps, ∀ _ : Unit, (rdt (ch t.toNat) (ts t.toNat).toNat).2.2.2 = ps := ⟨_, fun _ => rfl⟩
        obtain ⟨lp, hlp⟩ : ∃ lp, ∀ _ : Unit, ((ch t.toNat) (rh (ch t.toNat) (ts t.toNat).toNat + 1) - 48) = lp := ⟨_, fun _ => rfl⟩
        rw [hwn (), hps (), hlp ()] at y3
        rw [hwn (), hps (), hlp ()] at hQ
        clear hwn hps hlp
        obtain ⟨v1, v2, v3, v4, v5, v6, v7, v8, v9⟩ := y3
        refine xr_aloadn hc rfl rfl ?_
        refine xr_getfr hc rfl rfl (by first | assumption | rfl) (by first | assumption | rfl) ?_
        refine xr_aloadn hc rfl rfl ?_
        refine xr_getfr hc rfl rfl (by first | assumption | rfl) (by first | assumption | rfl) ?_
        refine xr_getfr hc rfl rfl (by first | assumption | rfl) (by first | assumption | rfl) ?_
        refine xr_callv1 hc rfl (by first | assumption | rfl) rfl rfl rfl (Nat.le_of_ble_eq_true rfl) (Nat.zero_le _) (Nat.zero_le _) ?_
        have hwi : ∀ k, k < wn → _ := fun k hk => wok_in v4 hk
        have hrt := (rat_all wn).mp v7
        have hss : stok (wn : Int) lp 0 (ist (ch t.toNat) ps) := by
          refine ⟨by omega, ?_, ?_, ?_, ?_, ?_, ?_, ?_, fun i hi => ?_⟩
          · show (0 : Int) ≤ 0
            omega
          · show (0 : Int) ≤ 0
            omega
          · show (0 : Int) ≤ 0
            omega
          · show (0 : Int) ≤ 99
            omega
          · exact Or.inr (by show (0 : Int) ≤ 0 ∧ (0 : Int) < _; omega)
          · show (0 : Int) ≤ 0
            omega
          · show (0 : Int) ≤ 0
            omega
          · have z := hwi i (by omega)
            unfold ist
            rw [if_pos (by omega), if_neg (by omega), if_pos (by omega), if_neg (by omega), if_neg (by omega), show 5 + i - 5 = i by omega, show 11 + i - 11 = i by omega]
            omega
        have hmr : mrel M2 42 (wn : Int) lp (wKd (ch t.toNat) ps) (wWt (ch t.toNat) ps) (wNx (ch t.toNat) ps) (ist (ch t.toNat) ps) := by
          refine ⟨v3.1, v1, ?_, ?_, ?_, ?_, fun i hi => ?_⟩
          · show M2 42 2 = 0
            rw [y1 _ _ (by omega) (by omega) (by omega)]
            exact hrb.2.1
          · show M2 42 3 = 0
            rw [y1 _ _ (by omega) (by omega) (by omega)]
            exact hrb.2.2.1
          · show M2 42 4 = 0
            exact v2
          · show M2 42 5 = 0
            rw [y1 _ _ (by omega) (by omega) (by omega)]
            exact hrb.2.2.2.1
          · obtain ⟨u1, u2, u3, u4, u5⟩ := v3.2 i (by omega)
            refine ⟨u1, ?_, ?_, u4, u5, ?_⟩
            · show M2 44 i = _
              unfold ist
              rw [if_pos (by omega), show 5 + i - 5 = i by omega]
              exact u2
            · show M2 45 i = _
              unfold ist
              rw [if_neg (by omega), if_pos (by omega), show 11 + i - 11 = i by omega]
              exact u3
            · show M2 48 i = _
              unfold ist
              rw [if_neg (by omega), if_neg (by omega), y1 _ _ (by omega) (by omega) (by omega)]
              exact hrb.2.2.2.2 i (by omega)
        refine S_begin (q := 15) (q0 := 42) d14 d24 (by omega) (by omega) hmr hss (fun M3 b1 b2 => ?_)
        have lpd : ∀ (m_ : Nat) (k : Nat) (N : Nat → Nat → Int), k + m_ = 3 → (∀ q2 k2, (q2 < 61 ∨ 114 < q2) → N q2 k2 = M3 q2 k2) → (∀ i, i < k → N (61 + 18 * i + 8) 0 = 0) → dz_X (dz_E dz_pp xo (d + 6)) dz_pp xo (dz_pp 62) Q 68 [some (dz_r 0), some (dz_i t), some (dz_i (k : Int))] [] 0 0 (sh, rf2, N) := by
          intro m_
          induction m_ with
          | zero =>
            intro k N hk g1 g2
            have n0 : N 23 0 = (wn : Int) := by rw [g1 _ _ (by omega)]; exact b2.2.1.1
            refine xr_iloadn hc rfl rfl ?_
            refine xr_iconst hc rfl ?_
            refine xr_icmp_ge hc rfl (t := 88) rfl (fun b70 => ?_) (fun b70 => ?_)
            · refine xr_aloadn hc rfl rfl ?_
              refine xr_getfr hc rfl rfl (by first | assumption | rfl) (by first | assumption | rfl) ?_
              refine xr_getfr hc rfl rfl (by first | assumption | rfl) (by first | assumption | rfl) ?_
              refine xr_getfi hc rfl (Or.inl rfl) (by first | assumption | rfl) ?_
              rw [n0]
              refine xr_ireturn hc rfl rfl (Nat.zero_le _) (Nat.zero_le _) ?_
              refine hQ N rf2 hl2 hm2 (fun q2 k2 u => by rw [g1 _ _ (by omega), b1 _ _ (by omega), y1 _ _ (by omega) (by omega) (by omega)]) ⟨rowX_fr hrow (fun q2 k2 u1 u2 => by rw [g1 _ _ (by omega), b1 _ _ (by omega), y1 _ _ (by omega) (by omega) (by omega)]), txtX_fr htxt (fun q2 k2 u1 u2 => by rw [g1 _ _ (by omega), b1 _ _ (by omega), y1 _ _ (by omega) (by omega) (by omega)]), Eq.trans (by rw [g1 _ _ (by omega), b1 _ _ (by omega), y1 _ _ (by omega) (by omega) (by omega)]) htl, Eq.trans (by rw [g1 _ _ (by omega), b1 _ _ (by omega), y1 _ _ (by omega) (by omega) (by omega)]) hup, Eq.trans (by rw [g1 _ _ (by omega), b1 _ _ (by omega), y1 _ _ (by omega) (by omega) (by omega)]) hlo, fndX_fr hfn (by rw [g1 _ _ (by omega), b1 _ _ (by omega), y1 _ _ (by omega) (by omega) (by omega)]) (fun k2 => by rw [g1 _ _ (by omega), b1 _ _ (by omega), y1 _ _ (by omega) (by omega) (by omega)]), drX_fr b2 (fun q2 k2 u1 u2 => g1 _ _ (by omega)), fun k2 hk2 => Or.inl ⟨rfl, g2 k2 (by omega)⟩, rbX_fr hrb (fun q2 k2 u1 => by rw [g1 _ _ (by omega), b1 _ _ (by omega), y1 _ _ (by omega) (by omega) (by omega)])⟩
            · omega
          | succ m_ ih =>
            intro k N hk g1 g2
            have d17r := d17 k (by omega)
            have d18r := d18 k (by omega)
            have d18s := d18r.1
            refine xr_iloadn hc rfl rfl ?_
            refine xr_iconst hc rfl ?_
            refine xr_icmp_ge hc rfl (t := 88) rfl (fun b70 => ?_) (fun b70 => ?_)
            · omega
            · refine xr_aloadn hc rfl rfl ?_
              refine xr_getfr hc rfl rfl (by first | assumption | rfl) (by first | assumption | rfl) ?_
              refine xr_iloadn hc rfl rfl ?_
              refine xr_aaload hc rfl (by first | assumption | rfl) (by decide) (by first | omega | (unfold dz_w; omega)) (by first | omega | (unfold dz_w; omega)) (by first | assumption | rfl) ?_
              refine xr_callv0 hc rfl (by first | assumption | rfl) rfl rfl rfl (Nat.le_of_ble_eq_true rfl) (Nat.zero_le _) (Nat.zero_le _) ?_
              refine S_drop d18r ?_
              refine xk_0 ?_
              refine xr_iincz2 hc rfl rfl (by first | exact dz_wid (by first | omega | (unfold dz_w; omega)) (by first | omega | (unfold dz_w; omega)) | rfl) ?_
              refine xr_goto hc rfl (t := 68) rfl ?_
              exact ih (k + 1) _ (by omega) (fun q2 k2 u => by rw [dz_up_ne (by omega), g1 _ _ u]) (fun i hi => by
                by_cases e : i = k
                · rw [e, dz_up_eq]
                · rw [dz_up_ne (by omega)]
                  exact g2 i (by omega))
        refine xk_0 ?_
        refine xr_iconst hc rfl ?_
        refine xr_istore2 hc rfl rfl ?_
        exact lpd 3 0 M3 (by omega) (fun _ _ _ => rfl) (fun i hi => by omega)
      · refine xr_bipush hc rfl ?_
        refine xr_ireturn hc rfl rfl (Nat.zero_le _) (Nat.zero_le _) ?_
        simp only [o_drum] at hQ
        rw [if_neg (by omega), if_neg (by omega), if_pos (by omega)] at hQ
        exact hQ M2 rf2 hl2 hm2 (fun q2 k2 u => y1 _ _ (by omega) (by omega) (by omega)) (RX_scr hR hsx)
    · refine xr_aloadn hc rfl rfl ?_
      refine xr_iconst hc rfl ?_
      refine xr_callv1 hc rfl (by first | assumption | rfl) rfl rfl rfl (Nat.le_of_ble_eq_true rfl) (Nat.zero_le _) (Nat.zero_le _) ?_
      refine S_refuse hl hR hW (by omega) (fun M2 z1 z2 => ?_)
      refine xk_1 ?_
      refine xr_ireturn hc rfl rfl (Nat.zero_le _) (Nat.zero_le _) ?_
      simp only [o_drum] at hQ
      repeat (first | rw [if_pos (by omega)] at hQ | rw [if_neg (by omega)] at hQ)
      try dsimp only at hQ
      exact hQ M2 rf hl (fun z => z) z1 z2
  · refine xk_1 ?_
    refine xr_iff hc rfl (by simp [dz_cmp]) ?_
    refine xr_iconst hc rfl ?_
    refine xr_ireturn hc rfl rfl (Nat.zero_le _) (Nat.zero_le _) ?_
    simp only [o_drum] at hQ
    repeat (first | rw [if_pos (by omega)] at hQ | rw [if_neg (by omega)] at hQ)
    try dsimp only at hQ
    exact hQ M rf hl (fun z => z) (fun _ _ _ => rfl) hR
