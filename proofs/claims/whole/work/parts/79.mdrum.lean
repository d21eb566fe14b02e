/-! The other one: drum. Written by l2_79.py. -/
set_option maxHeartbeats 2000000 in
set_option maxRecDepth 100000 in
theorem D_drum {xo : Nat → List Int} {d : Nat} {Q : dz_Q} {sh : List (Nat ⊕ (Nat × Nat))} {rf : Nat → Nat → Nat} {M : Nat → Nat → Int} {rs : Nat → Int} {it : Nat → Nat → Int} {ts : Nat → Int} {ch : Nat → Nat → Int} {tl up lo : Int} {fn : Nat → Int} {w pl : Int} {kd wt nx : Nat → Int} {n : Nat} {hs : Nat → Nat → Int} {kp : Nat → Int} {kh : Nat → Nat → Nat → Int} {t : Int} (hl : ml sh rf) (hR : RM M rs it ts ch tl up lo fn w pl kd wt nx n hs kp kh) (hW : WF rs it ts ch tl up lo fn w pl kd wt nx n hs kp kh) (hQ : ∀ M2 : Nat → Nat → Int, (∀ q2 k2, q2 < 115 → M2 q2 k2 = M q2 k2) → RM M2 rs it ts ch tl up lo (o_drum ts ch fn w pl kd wt nx n hs kp t).2.1 (o_drum ts ch fn w pl kd wt nx n hs kp t).2.2.1 (o_drum ts ch fn w pl kd wt nx n hs kp t).2.2.2.1 (o_drum ts ch fn w pl kd wt nx n hs kp t).2.2.2.2.1 (o_drum ts ch fn w pl kd wt nx n hs kp t).2.2.2.2.2.1 (o_drum ts ch fn w pl kd wt nx n hs kp t).2.2.2.2.2.2.1 (o_drum ts ch fn w pl kd wt nx n hs kp t).2.2.2.2.2.2.2.1 (o_drum ts ch fn w pl kd wt nx n hs kp t).2.2.2.2.2.2.2.2.1 (o_drum ts ch fn w pl kd wt nx n hs kp t).2.2.2.2.2.2.2.2.2 kh → Q (some (dz_i ((o_drum ts ch fn w pl kd wt nx n hs kp t).1))) (sh, rf, M2)) : dz_E dz_pp xo (d + 6) 146 [dz_r 115, dz_i t] (sh, rf, M) Q := by
  refine ⟨Nat.le_of_ble_eq_true rfl, ?_⟩
  have hc := dz_E_m dz_pp xo (d + 5)
  show dz_X (dz_E dz_pp xo (d + 5)) dz_pp xo (dz_pp 146) Q 0 [some (dz_r 115), some (dz_i t), none] [] 0 0 (sh, rf, M)
  obtain ⟨c0, c1, c2, c3, c4, c5, c6, c7, c8, c9, c10, c11, c12, c13, c14, c15, c16, c17, c18, c19, c20, c21, c22, c23, c24, c25, c26, c27, c28, c29⟩ := id hl
  obtain ⟨hrow, htxt, htl, hup, hlo, hfn, hdr, hkp⟩ := id hR
  obtain ⟨wrow, wtxt, wdr, wst, wkp⟩ := id hW
  have hw6 := WF_w hW
  have hdr3 : drM M w pl kd wt nx n hs ∧ w ≤ 6 ∧ n ≤ 40 := ⟨hdr, hw6.2, wst.1⟩
  have hkp3 : kepM M w kp kh ∧ w ≤ 6 ∧ ∀ k, k < 3 → kp k ≤ 40 := ⟨hkp, hw6.2, fun k hk => by
    rcases wkp k hk with z | z
    · omega
    · exact z.2.1⟩
  refine xr_iloadn hc rfl rfl ?_
  refine xr_calls1 hc rfl (by decide) rfl rfl rfl (Nat.le_of_ble_eq_true rfl) (Nat.zero_le _) (Nat.zero_le _) ?_
  refine D_isText (fun u1 v1 => ?_) (fun u1 => ?_)
  · refine xk_1 ?_
    refine xr_ift hc rfl (t := 9) rfl (by simp [dz_cmp]) ?_
    obtain ⟨e1, e2⟩ := htxt t.toNat (by omega)
    obtain ⟨w1, w2⟩ := wtxt t.toNat (by omega)
    refine xr_aloadn hc rfl rfl ?_
    refine xr_getfr hc rfl rfl (by first | assumption | rfl) (by first | assumption | rfl) ?_
    refine xr_iloadn hc rfl rfl ?_
    first | refine xr_iaload hc rfl (by first | assumption | rfl) (by first | omega | (unfold dz_w; omega)) (by first | omega | (unfold dz_w; omega)) ?_ | refine xr_ialoado hc rfl (by first | omega | (unfold dz_w; omega)) (by first | omega | (unfold dz_w; omega)) ?_
    rw [e1]
    refine xr_if_ge hc rfl (t := 24) rfl (fun b15 => ?_) (fun b15 => ?_)
    · refine xr_aloadn hc rfl rfl ?_
      refine xr_iloadn hc rfl rfl ?_
      refine xr_callv1 hc rfl (by first | assumption | rfl) rfl rfl rfl (Nat.le_of_ble_eq_true rfl) (Nat.zero_le _) (Nat.zero_le _) ?_
      obtain ⟨tn, htn⟩ : ∃ tn : Nat, t = (tn : Int) := ⟨t.toNat, by omega⟩
      subst htn
      rw [Int.toNat_natCast] at e1 e2 w1 w2 b15
      refine D_faultOf (tx := tn) (nn := (ts tn).toNat) (c := ch tn) hl (by omega) (by omega) (by rw [e1]; omega) (fun k hk => ⟨e2 k (by omega), w2 k (by omega)⟩) (fun M2 y1 y2 => ?_)
      have hsx : scr M M2 := fun q2 k2 u1 u2 u3 => y1 _ _ (by omega) (by omega)
      refine xk_1 ?_
      refine xr_bipush hc rfl ?_
      refine xr_icmp_eq hc rfl (t := 37) rfl (fun b31 => ?_) (fun b31 => ?_)
      · have hfl : ∀ _ : Unit, rflt (ch tn) (ts tn).toNat = -9 := fun _ => b31
        clear b31
        have y3 := y2 (hfl ())
        clear y2
        simp only [o_drum] at hQ
        rw [Int.toNat_natCast] at hQ
        rw [if_neg (by omega), if_neg (by omega), if_neg (fun z => z (hfl ()))] at hQ
        clear hfl
        obtain ⟨wn, hwn⟩ : ∃ wn, ∀ _ : Unit, (rdt (ch tn) (ts tn).toNat).2.2.1 = wn := ⟨_, fun _ => rfl⟩
        obtain ⟨ps, hps⟩ : ∃ ps, ∀ _ : Unit, (rdt (ch tn) (ts tn).toNat).2.2.2 = ps := ⟨_, fun _ => rfl⟩
        obtain ⟨lp, hlp⟩ : ∃ lp, ∀ _ : Unit, ((ch tn) (rh (ch tn) (ts tn).toNat + 1) - 48) = lp := ⟨_, fun _ => rfl⟩
        rw [hwn (), hps (), hlp ()] at y3
        rw [hwn (), hps (), hlp ()] at hQ
        clear hwn hps hlp
        obtain ⟨v1, ⟨v2, v3⟩, v4, v5, v6, v7, v8, v9⟩ := y3
        clear v4 v7
        dsimp only at hQ
        have lp3 : ∀ (m_ : Nat) (k : Nat) (N : Nat → Nat → Int), k + m_ = 4 → 1 ≤ k → (∀ q2 k2, q2 ≠ 116 → ¬ (q2 = 115 ∧ (k2 = 1 ∨ k2 = 2)) → q2 ≠ 117 → q2 ≠ 118 → q2 ≠ 119 → N q2 k2 = M2 q2 k2) → (N 115 1 = lp ∧ N 115 2 = (wn : Int)) → (∀ j, j < wn → N 117 j = wKd (ch tn) ps j ∧ N 118 j = wWt (ch tn) ps j ∧ N 119 j = wNx (ch tn) ps j) → (∀ c, okc (wn : Int) c → N 116 c = ist (ch tn) ps c) → N 116 0 = 0 → (∀ j, j < k → 1 ≤ j → N 116 (903 * j) = -1) → dz_X (dz_E dz_pp xo (d + 5)) dz_pp xo (dz_pp 146) Q 176 [some (dz_r 115), some (dz_i (tn : Int)), some (dz_i (k : Int))] [] 0 0 (sh, rf, N) := by
          intro m_
          induction m_ with
          | zero =>
            intro k N hk hk1 g1 g2 g3 g4 g5 g6
            refine xr_iloadn hc rfl rfl ?_
            refine xr_iconst hc rfl ?_
            refine xr_icmp_ge hc rfl (t := 200) rfl (fun b178 => ?_) (fun b178 => ?_)
            · refine xr_aloadn hc rfl rfl ?_
              refine xr_getfi hc rfl (Or.inl rfl) (by first | assumption | rfl) ?_
              rw [g2.2]
              refine xr_ireturn hc rfl rfl (Nat.zero_le _) (Nat.zero_le _) ?_
              refine hQ N (fun q2 k2 u => by rw [g1 _ _ (by omega) (by omega) (by omega) (by omega) (by omega), y1 _ _ (by omega) (by omega)]) ⟨rowM_fr hrow (fun k2 => by rw [g1 _ _ (by omega) (by omega) (by omega) (by omega) (by omega), y1 _ _ (by omega) (by omega)]) (fun k2 => by rw [g1 _ _ (by omega) (by omega) (by omega) (by omega) (by omega), y1 _ _ (by omega) (by omega)]), txtM_fr htxt (fun k2 => by rw [g1 _ _ (by omega) (by omega) (by omega) (by omega) (by omega), y1 _ _ (by omega) (by omega)]) (fun k2 => by rw [g1 _ _ (by omega) (by omega) (by omega) (by omega) (by omega), y1 _ _ (by omega) (by omega)]), Eq.trans (by rw [g1 _ _ (by omega) (by omega) (by omega) (by omega) (by omega), y1 _ _ (by omega) (by omega)]) htl, Eq.trans (by rw [g1 _ _ (by omega) (by omega) (by omega) (by omega) (by omega), y1 _ _ (by omega) (by omega)]) hup, Eq.trans (by rw [g1 _ _ (by omega) (by omega) (by omega) (by omega) (by omega), y1 _ _ (by omega) (by omega)]) hlo, fndM_fr hfn (by rw [g1 _ _ (by omega) (by omega) (by omega) (by omega) (by omega), y1 _ _ (by omega) (by omega)]) (fun k2 => by rw [g1 _ _ (by omega) (by omega) (by omega) (by omega) (by omega), y1 _ _ (by omega) (by omega)]), ⟨g2.2, g2.1, fun i hi => g3 i (by omega), g5, fun c hc2 => by rw [Nat.zero_add]; exact g4 c hc2, fun k2 hk2 => by omega⟩, fun k2 hk2 => ⟨g6 (1 + k2) (by omega) (by omega), fun z => absurd z (by show ¬ (0 : Int) ≤ -1; decide)⟩⟩
            · omega
          | succ m_ ih =>
            intro k N hk hk1 g1 g2 g3 g4 g5 g6
            have ix : (903 * (k : Int) + 0).toNat = 903 * k := by omega
            refine xr_iloadn hc rfl rfl ?_
            refine xr_iconst hc rfl ?_
            refine xr_icmp_ge hc rfl (t := 200) rfl (fun b178 => ?_) (fun b178 => ?_)
            · omega
            · refine xr_aloadn hc rfl rfl ?_
              refine xr_getfr hc rfl rfl (by first | assumption | rfl) (by first | assumption | rfl) ?_
              refine xr_sipush hc rfl ?_
              refine xr_iloadn hc rfl rfl ?_
              refine xr_imulz hc rfl (by first | exact dz_wid (by first | omega | (unfold dz_w; omega)) (by first | omega | (unfold dz_w; omega)) | rfl) ?_
              refine xr_iconst hc rfl ?_
              refine xr_iaddz hc rfl (by first | exact dz_wid (by first | omega | (unfold dz_w; omega)) (by first | omega | (unfold dz_w; omega)) | rfl) ?_
              refine xr_iconst hc rfl ?_
              refine xr_iastore hc rfl (by first | assumption | rfl) (by first | omega | (unfold dz_w; omega)) (by first | omega | (unfold dz_w; omega)) ?_
              rw [ix]
              refine xr_iincz2 hc rfl rfl (by first | exact dz_wid (by first | omega | (unfold dz_w; omega)) (by first | omega | (unfold dz_w; omega)) | rfl) ?_
              refine xr_goto hc rfl (t := 176) rfl ?_
              refine ih (k + 1) _ (by omega) (by omega) (fun q2 k2 u1 u2 u3 u4 u5 => by rw [dz_up_ne u1, g1 _ _ u1 u2 u3 u4 u5]) (by rw [dz_up_ne (by omega)]; exact g2) (fun j2 hj => by rw [dz_up_ne (by omega), dz_up_ne (by omega), dz_up_ne (by omega)]; exact g3 j2 hj) (fun c hc2 => ?_) (by rw [dz_up_k (by omega)]; exact g5) (fun j2 hj hj1 => ?_)
              · have hc3 := hc2
                unfold okc at hc3
                rw [dz_up_k (by omega)]
                exact g4 c hc2
              · by_cases e : j2 = k
                · rw [e, dz_up_eq]
                · rw [dz_up_k (by omega)]
                  exact g6 j2 (by omega) hj1
        have lp2 : ∀ (m_ : Nat) (k : Nat) (N : Nat → Nat → Int), k + m_ = wn → (∀ q2 k2, q2 ≠ 116 → ¬ (q2 = 115 ∧ (k2 = 1 ∨ k2 = 2)) → q2 ≠ 117 → q2 ≠ 118 → q2 ≠ 119 → N q2 k2 = M2 q2 k2) → (N 115 1 = lp ∧ N 115 2 = (wn : Int)) → (∀ j, j < k → N 117 j = wKd (ch tn) ps j ∧ N 118 j = wWt (ch tn) ps j ∧ N 119 j = wNx (ch tn) ps j) → (∀ j, j < k → N 116 (5 + j) = wPl (ch tn) ps j ∧ N 116 (11 + j) = wVl (ch tn) ps j) → (∀ j, j < 903 → ¬ (5 ≤ j ∧ j < 17) → N 116 j = 0) → dz_X (dz_E dz_pp xo (d + 5)) dz_pp xo (dz_pp 146) Q 77 [some (dz_r 115), some (dz_i (tn : Int)), some (dz_i (k : Int))] [] 0 0 (sh, rf, N) := by
          intro m_
          induction m_ with
          | zero =>
            intro k N hk g1 g2 g3 g4 g5
            refine xr_iloadn hc rfl rfl ?_
            refine xr_aloadn hc rfl rfl ?_
            refine xr_getfi hc rfl (Or.inl rfl) (by first | assumption | rfl) ?_
            rw [g2.2]
            refine xr_icmp_ge hc rfl (t := 174) rfl (fun b82 => ?_) (fun b82 => ?_)
            · refine xr_iconst hc rfl ?_
              refine xr_istore2 hc rfl rfl ?_
              refine lp3 3 1 N (by omega) (by omega) g1 g2 (fun j2 hj => g3 j2 (by omega)) (fun c hc2 => ?_) (g5 0 (by omega) (by omega)) (fun j2 hj hj1 => by omega)
              unfold okc at hc2
              unfold ist
              by_cases e1 : 5 ≤ c ∧ c < 11
              · rw [if_pos e1]
                have z := (g4 (c - 5) (by omega)).1
                rw [show 5 + (c - 5) = c by omega] at z
                exact z
              · rw [if_neg e1]
                by_cases e2 : 11 ≤ c ∧ c < 17
                · rw [if_pos e2]
                  have z := (g4 (c - 11) (by omega)).2
                  rw [show 11 + (c - 11) = c by omega] at z
                  exact z
                · rw [if_neg e2]
                  exact g5 c (by omega) (by omega)
            · omega
          | succ m_ ih =>
            intro k N hk g1 g2 g3 g4 g5
            obtain ⟨r0, r1, r2, r3, r4⟩ := v3 k (by omega)
            rw [← g1 _ _ (by omega) (by omega) (by omega) (by omega) (by omega)] at r0 r1 r2 r3 r4
            have ix0 : (5 * (k : Int)).toNat = 5 * k := by omega
            have ix1 : (5 * (k : Int) + 1).toNat = 5 * k + 1 := by omega
            have ix2 : (5 * (k : Int) + 2).toNat = 5 * k + 2 := by omega
            have ix3 : (5 * (k : Int) + 3).toNat = 5 * k + 3 := by omega
            have ix4 : (5 * (k : Int) + 4).toNat = 5 * k + 4 := by omega
            have jx5 : (5 + (k : Int)).toNat = 5 + k := by omega
            have jx11 : (11 + (k : Int)).toNat = 11 + k := by omega
            refine xr_iloadn hc rfl rfl ?_
            refine xr_aloadn hc rfl rfl ?_
            refine xr_getfi hc rfl (Or.inl rfl) (by first | assumption | rfl) ?_
            rw [g2.2]
            refine xr_icmp_ge hc rfl (t := 174) rfl (fun b82 => ?_) (fun b82 => ?_)
            · omega
            · refine xr_aloadn hc rfl rfl ?_
              refine xr_getfr hc rfl rfl (by first | assumption | rfl) (by first | assumption | rfl) ?_
              refine xr_iloadn hc rfl rfl ?_
              refine xr_aloadn hc rfl rfl ?_
              refine xr_getfr hc rfl rfl (by first | assumption | rfl) (by first | assumption | rfl) ?_
              refine xr_iconst hc rfl ?_
              refine xr_iloadn hc rfl rfl ?_
              refine xr_imulz hc rfl (by first | exact dz_wid (by first | omega | (unfold dz_w; omega)) (by first | omega | (unfold dz_w; omega)) | rfl) ?_
              first | refine xr_iaload hc rfl (by first | assumption | rfl) (by first | omega | (unfold dz_w; omega)) (by first | omega | (unfold dz_w; omega)) ?_ | refine xr_ialoado hc rfl (by first | omega | (unfold dz_w; omega)) (by first | omega | (unfold dz_w; omega)) ?_
              rw [ix0, r0]
              refine xr_iastore hc rfl (by first | assumption | rfl) (by first | omega | (unfold dz_w; omega)) (by first | omega | (unfold dz_w; omega)) ?_
              rw [Int.toNat_natCast]
              refine xr_aloadn hc rfl rfl ?_
              refine xr_getfr hc rfl rfl (by first | assumption | rfl) (by first | assumption | rfl) ?_
              refine xr_iconst hc rfl ?_
              refine xr_iloadn hc rfl rfl ?_
              refine xr_iaddz hc rfl (by first | exact dz_wid (by first | omega | (unfold dz_w; omega)) (by first | omega | (unfold dz_w; omega)) | rfl) ?_
              refine xr_aloadn hc rfl rfl ?_
              refine xr_getfr hc rfl rfl (by first | assumption | rfl) (by first | assumption | rfl) ?_
              refine xr_iconst hc rfl ?_
              refine xr_iloadn hc rfl rfl ?_
              refine xr_imulz hc rfl (by first | exact dz_wid (by first | omega | (unfold dz_w; omega)) (by first | omega | (unfold dz_w; omega)) | rfl) ?_
              refine xr_iconst hc rfl ?_
              refine xr_iaddz hc rfl (by first | exact dz_wid (by first | omega | (unfold dz_w; omega)) (by first | omega | (unfold dz_w; omega)) | rfl) ?_
              first | refine xr_iaload hc rfl (by first | assumption | rfl) (by first | omega | (unfold dz_w; omega)) (by first | omega | (unfold dz_w; omega)) ?_ | refine xr_ialoado hc rfl (by first | omega | (unfold dz_w; omega)) (by first | omega | (unfold dz_w; omega)) ?_
              rw [ix1, dz_up_ne (by omega), r1]
              refine xr_iastore hc rfl (by first | assumption | rfl) (by first | omega | (unfold dz_w; omega)) (by first | omega | (unfold dz_w; omega)) ?_
              rw [jx5]
              refine xr_aloadn hc rfl rfl ?_
              refine xr_getfr hc rfl rfl (by first | assumption | rfl) (by first | assumption | rfl) ?_
              refine xr_bipush hc rfl ?_
              refine xr_iloadn hc rfl rfl ?_
              refine xr_iaddz hc rfl (by first | exact dz_wid (by first | omega | (unfold dz_w; omega)) (by first | omega | (unfold dz_w; omega)) | rfl) ?_
              refine xr_aloadn hc rfl rfl ?_
              refine xr_getfr hc rfl rfl (by first | assumption | rfl) (by first | assumption | rfl) ?_
              refine xr_iconst hc rfl ?_
              refine xr_iloadn hc rfl rfl ?_
              refine xr_imulz hc rfl (by first | exact dz_wid (by first | omega | (unfold dz_w; omega)) (by first | omega | (unfold dz_w; omega)) | rfl) ?_
              refine xr_iconst hc rfl ?_
              refine xr_iaddz hc rfl (by first | exact dz_wid (by first | omega | (unfold dz_w; omega)) (by first | omega | (unfold dz_w; omega)) | rfl) ?_
              first | refine xr_iaload hc rfl (by first | assumption | rfl) (by first | omega | (unfold dz_w; omega)) (by first | omega | (unfold dz_w; omega)) ?_ | refine xr_ialoado hc rfl (by first | omega | (unfold dz_w; omega)) (by first | omega | (unfold dz_w; omega)) ?_
              rw [ix2, dz_up_ne (by omega), dz_up_ne (by omega), r2]
              refine xr_iastore hc rfl (by first | assumption | rfl) (by first | omega | (unfold dz_w; omega)) (by first | omega | (unfold dz_w; omega)) ?_
              rw [jx11]
              refine xr_aloadn hc rfl rfl ?_
              refine xr_getfr hc rfl rfl (by first | assumption | rfl) (by first | assumption | rfl) ?_
              refine xr_iloadn hc rfl rfl ?_
              refine xr_aloadn hc rfl rfl ?_
              refine xr_getfr hc rfl rfl (by first | assumption | rfl) (by first | assumption | rfl) ?_
              refine xr_iconst hc rfl ?_
              refine xr_iloadn hc rfl rfl ?_
              refine xr_imulz hc rfl (by first | exact dz_wid (by first | omega | (unfold dz_w; omega)) (by first | omega | (unfold dz_w; omega)) | rfl) ?_
              refine xr_iconst hc rfl ?_
              refine xr_iaddz hc rfl (by first | exact dz_wid (by first | omega | (unfold dz_w; omega)) (by first | omega | (unfold dz_w; omega)) | rfl) ?_
              first | refine xr_iaload hc rfl (by first | assumption | rfl) (by first | omega | (unfold dz_w; omega)) (by first | omega | (unfold dz_w; omega)) ?_ | refine xr_ialoado hc rfl (by first | omega | (unfold dz_w; omega)) (by first | omega | (unfold dz_w; omega)) ?_
              rw [ix3, dz_up_ne (by omega), dz_up_ne (by omega), dz_up_ne (by omega), r3]
              refine xr_iastore hc rfl (by first | assumption | rfl) (by first | omega | (unfold dz_w; omega)) (by first | omega | (unfold dz_w; omega)) ?_
              rw [Int.toNat_natCast]
              refine xr_aloadn hc rfl rfl ?_
              refine xr_getfr hc rfl rfl (by first | assumption | rfl) (by first | assumption | rfl) ?_
              refine xr_iloadn hc rfl rfl ?_
              refine xr_aloadn hc rfl rfl ?_
              refine xr_getfr hc rfl rfl (by first | assumption | rfl) (by first | assumption | rfl) ?_
              refine xr_iconst hc rfl ?_
              refine xr_iloadn hc rfl rfl ?_
              refine xr_imulz hc rfl (by first | exact dz_wid (by first | omega | (unfold dz_w; omega)) (by first | omega | (unfold dz_w; omega)) | rfl) ?_
              refine xr_iconst hc rfl ?_
              refine xr_iaddz hc rfl (by first | exact dz_wid (by first | omega | (unfold dz_w; omega)) (by first | omega | (unfold dz_w; omega)) | rfl) ?_
              first | refine xr_iaload hc rfl (by first | assumption | rfl) (by first | omega | (unfold dz_w; omega)) (by first | omega | (unfold dz_w; omega)) ?_ | refine xr_ialoado hc rfl (by first | omega | (unfold dz_w; omega)) (by first | omega | (unfold dz_w; omega)) ?_
              rw [ix4, dz_up_ne (by omega), dz_up_ne (by omega), dz_up_ne (by omega), dz_up_ne (by omega), r4]
              refine xr_iastore hc rfl (by first | assumption | rfl) (by first | omega | (unfold dz_w; omega)) (by first | omega | (unfold dz_w; omega)) ?_
              rw [Int.toNat_natCast]
              refine xr_iincz2 hc rfl rfl (by first | exact dz_wid (by first | omega | (unfold dz_w; omega)) (by first | omega | (unfold dz_w; omega)) | rfl) ?_
              refine xr_goto hc rfl (t := 77) rfl ?_
              refine ih (k + 1) _ (by omega) (fun q2 k2 u1 u2 u3 u4 u5 => ?_) ?_ (fun j2 hj => ?_) (fun j2 hj => ?_) (fun j2 hj hj1 => ?_)
              · rw [dz_up_ne u5, dz_up_ne u4, dz_up_ne u1, dz_up_ne u1, dz_up_ne u3, g1 _ _ u1 u2 u3 u4 u5]
              · refine ⟨?_, ?_⟩
                · rw [dz_up_ne (by omega), dz_up_ne (by omega), dz_up_ne (by omega), dz_up_ne (by omega), dz_up_ne (by omega)]
                  exact g2.1
                · rw [dz_up_ne (by omega), dz_up_ne (by omega), dz_up_ne (by omega), dz_up_ne (by omega), dz_up_ne (by omega)]
                  exact g2.2
              · by_cases e : j2 = k
                · subst e
                  refine ⟨?_, ?_, ?_⟩
                  · repeat (first | rw [dz_up_ne (by omega)] | rw [dz_up_k (by omega)])
                    rw [dz_up_eq]
                  · repeat (first | rw [dz_up_ne (by omega)] | rw [dz_up_k (by omega)])
                    rw [dz_up_eq]
                  · repeat (first | rw [dz_up_ne (by omega)] | rw [dz_up_k (by omega)])
                    rw [dz_up_eq]
                · refine ⟨?_, ?_, ?_⟩
                  · repeat (first | rw [dz_up_ne (by omega)] | rw [dz_up_k (by omega)])
                    exact (g3 j2 (by omega)).1
                  · repeat (first | rw [dz_up_ne (by omega)] | rw [dz_up_k (by omega)])
                    exact (g3 j2 (by omega)).2.1
                  · repeat (first | rw [dz_up_ne (by omega)] | rw [dz_up_k (by omega)])
                    exact (g3 j2 (by omega)).2.2
              · by_cases e : j2 = k
                · subst e
                  refine ⟨?_, ?_⟩
                  · repeat (first | rw [dz_up_ne (by omega)] | rw [dz_up_k (by omega)])
                    rw [dz_up_eq]
                  · repeat (first | rw [dz_up_ne (by omega)] | rw [dz_up_k (by omega)])
                    rw [dz_up_eq]
                · refine ⟨?_, ?_⟩
                  · repeat (first | rw [dz_up_ne (by omega)] | rw [dz_up_k (by omega)])
                    exact (g4 j2 (by omega)).1
                  · repeat (first | rw [dz_up_ne (by omega)] | rw [dz_up_k (by omega)])
                    exact (g4 j2 (by omega)).2
              · repeat (first | rw [dz_up_ne (by omega)] | rw [dz_up_k (by omega)])
                exact g5 j2 hj hj1
        have lp1 : ∀ (m_ : Nat) (k : Nat) (N : Nat → Nat → Int), k + m_ = 903 → (∀ q2 k2, ¬ (q2 = 116 ∧ k2 < 903) → N q2 k2 = M2 q2 k2) → (∀ j, j < k → N 116 j = 0) → dz_X (dz_E dz_pp xo (d + 5)) dz_pp xo (dz_pp 146) Q 39 [some (dz_r 115), some (dz_i (tn : Int)), some (dz_i (k : Int))] [] 0 0 (sh, rf, N) := by
          intro m_
          induction m_ with
          | zero =>
            intro k N hk g1 g2
            have n18 : N 115 18 = lp := by rw [g1 _ _ (by omega)]; exact v1
            have n20 : N 115 20 = (wn : Int) := by rw [g1 _ _ (by omega)]; exact v2
            refine xr_iloadn hc rfl rfl ?_
            refine xr_sipush hc rfl ?_
            refine xr_icmp_ge hc rfl (t := 59) rfl (fun b43 => ?_) (fun b43 => ?_)
            · refine xr_aloadn hc rfl rfl ?_
              refine xr_aloadn hc rfl rfl ?_
              refine xr_getfi hc rfl (Or.inl rfl) (by first | assumption | rfl) ?_
              rw [n18]
              refine xr_putfi hc rfl rfl (by first | assumption | rfl) ?_
              refine xr_aloadn hc rfl rfl ?_
              refine xr_aloadn hc rfl rfl ?_
              refine xr_getfi hc rfl (Or.inl rfl) (by first | assumption | rfl) ?_
              rw [dz_up_k (by omega), n20]
              refine xr_putfi hc rfl rfl (by first | assumption | rfl) ?_
              refine xr_iconst hc rfl ?_
              refine xr_istore2 hc rfl rfl ?_
              exact lp2 wn 0 _ (by omega) (fun q2 k2 u1 u2 u3 u4 u5 => by rw [dz_up_o (by omega), dz_up_o (by omega), g1 _ _ (by omega)]) ⟨by rw [dz_up_k (by omega), dz_up_eq], by rw [dz_up_eq]⟩ (fun j2 hj => by omega) (fun j2 hj => by omega) (fun j2 hj hj1 => by rw [dz_up_ne (by omega), dz_up_ne (by omega)]; exact g2 j2 (by omega))
            · omega
          | succ m_ ih =>
            intro k N hk g1 g2
            refine xr_iloadn hc rfl rfl ?_
            refine xr_sipush hc rfl ?_
            refine xr_icmp_ge hc rfl (t := 59) rfl (fun b43 => ?_) (fun b43 => ?_)
            · omega
            · refine xr_aloadn hc rfl rfl ?_
              refine xr_getfr hc rfl rfl (by first | assumption | rfl) (by first | assumption | rfl) ?_
              refine xr_iloadn hc rfl rfl ?_
              refine xr_iconst hc rfl ?_
              refine xr_iastore hc rfl (by first | assumption | rfl) (by first | omega | (unfold dz_w; omega)) (by first | omega | (unfold dz_w; omega)) ?_
              rw [Int.toNat_natCast]
              refine xr_iincz2 hc rfl rfl (by first | exact dz_wid (by first | omega | (unfold dz_w; omega)) (by first | omega | (unfold dz_w; omega)) | rfl) ?_
              refine xr_goto hc rfl (t := 39) rfl ?_
              exact ih (k + 1) _ (by omega) (fun q2 k2 u => by rw [dz_up_o (by omega), g1 _ _ u]) (fun j2 hj => by
                by_cases e : j2 = k
                · rw [e, dz_up_eq]
                · rw [dz_up_k (by omega)]
                  exact g2 j2 (by omega))
        refine xr_iconst hc rfl ?_
        refine xr_istore2 hc rfl rfl ?_
        exact lp1 903 0 M2 (by omega) (fun _ _ _ => rfl) (fun j2 hj => by omega)
      · refine xr_bipush hc rfl ?_
        refine xr_ireturn hc rfl rfl (Nat.zero_le _) (Nat.zero_le _) ?_
        simp only [o_drum] at hQ
        rw [Int.toNat_natCast] at hQ
        rw [if_neg (by omega), if_neg (by omega), if_pos (by omega)] at hQ
        exact hQ M2 (fun q2 k2 u => y1 _ _ (by omega) (by omega)) (RM_scr hR hW hsx)
    · refine xr_aloadn hc rfl rfl ?_
      refine xr_iconst hc rfl ?_
      refine xr_callv1 hc rfl (by first | assumption | rfl) rfl rfl rfl (Nat.le_of_ble_eq_true rfl) (Nat.zero_le _) (Nat.zero_le _) ?_
      refine D_find hl hR hW (by omega) (fun M2 z1 z2 => ?_)
      refine xk_1 ?_
      refine xr_ireturn hc rfl rfl (Nat.zero_le _) (Nat.zero_le _) ?_
      simp only [o_drum] at hQ
      repeat (first | rw [if_pos (by omega)] at hQ | rw [if_neg (by omega)] at hQ)
      try dsimp only at hQ
      exact hQ M2 z1 z2
  · refine xk_1 ?_
    refine xr_iff hc rfl (by simp [dz_cmp]) ?_
    refine xr_iconst hc rfl ?_
    refine xr_ireturn hc rfl rfl (Nat.zero_le _) (Nat.zero_le _) ?_
    simp only [o_drum] at hQ
    repeat (first | rw [if_pos (by omega)] at hQ | rw [if_neg (by omega)] at hQ)
    try dsimp only at hQ
    exact hQ M (fun _ _ _ => rfl) hR
