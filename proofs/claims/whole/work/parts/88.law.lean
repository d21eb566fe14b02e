/-! The law: its loop, its beginning. Written by l2_87.py. -/
theorem cl_ext {sh sh2 : List (Nat ⊕ (Nat × Nat))} {rf rf2 : Nat → Nat → Nat} (h : cl sh rf) (hf : ∀ q2 k2, q2 < 115 → rf2 q2 k2 = rf q2 k2) (hs : ∀ (q : Nat) (y : Nat ⊕ (Nat × Nat)), sh[q]? = some y → sh2[q]? = some y) : cl sh2 rf2 := by
  obtain ⟨c0, c1, c2, c3, c4, c5, c6, c7, c8, c9, c10, c11, c12, c13, c14, c15, c16, c17, c18, c19, c20, c21, c22, c23, c24, c25, c26, c27, c28, c29, c30, c31, c32, c33, c34, c35, c36⟩ := h
  refine ⟨hs _ _ c0, ?_, hs _ _ c2, fun r hr => ?_, fun r hr => hs _ _ (c4 r hr), ?_, hs _ _ c6, ?_, hs _ _ c8, fun t ht => ?_, fun t ht => hs _ _ (c10 t ht), ?_, hs _ _ c12, ?_, dr_ext c14 (fun q2 k2 u v => hf _ _ (by omega)) hs, ?_, hs _ _ c16, fun k hk => ?_, fun k hk => dr_ext (c18 k hk) (fun q2 k2 u v => hf _ _ (by omega)) hs, ?_, ma_ext c20 (fun k2 => hf _ _ (by omega)) hs, ?_, hs _ _ c22, ?_, ma_ext c24 (fun k2 => hf _ _ (by omega)) hs, ?_, ?_, ?_, ?_, ?_, ?_, hs _ _ c31, ?_, hs _ _ c33, ?_, hs _ _ c35, trivial⟩
  all_goals first
    | (rw [hf _ _ (by omega)]; assumption)
    | skip
  · rw [hf _ _ (by omega)]
    exact c3 r hr
  · rw [hf _ _ (by omega)]
    exact c9 t ht
  · rw [hf _ _ (by omega)]
    exact c17 k hk
  · obtain ⟨a1, a2, a3, a4, a5, a6, a7⟩ := c26
    refine ⟨hs _ _ a1, ?_, hs _ _ a3, ?_, hs _ _ a5, ?_, hs _ _ a7⟩ <;> rw [hf _ _ (by omega)] <;> assumption
  · obtain ⟨a1, a2, a3, a4, a5, a6, a7⟩ := c28
    refine ⟨hs _ _ a1, ?_, hs _ _ a3, ?_, hs _ _ a5, ?_, hs _ _ a7⟩ <;> rw [hf _ _ (by omega)] <;> assumption
theorem L_or {x : Int} (h0 : 0 ≤ x) (h1 : x ≤ 41) : x = 0 ∨ x = 1 ∨ x = 2 ∨ x = 3 ∨ x = 4 ∨ x = 5 ∨ x = 6 ∨ x = 7 ∨ x = 8 ∨ x = 9 ∨ x = 10 ∨ x = 11 ∨ x = 12 ∨ x = 13 ∨ x = 14 ∨ x = 15 ∨ x = 16 ∨ x = 17 ∨ x = 18 ∨ x = 19 ∨ x = 20 ∨ x = 21 ∨ x = 22 ∨ x = 23 ∨ x = 24 ∨ x = 25 ∨ x = 26 ∨ x = 27 ∨ x = 28 ∨ x = 29 ∨ x = 30 ∨ x = 31 ∨ x = 32 ∨ x = 33 ∨ x = 34 ∨ x = 35 ∨ x = 36 ∨ x = 37 ∨ x = 38 ∨ x = 39 ∨ x = 40 ∨ x = 41 := by omega
set_option maxRecDepth 100000 in
set_option maxHeartbeats 4000000 in
theorem L_loop {xo : Nat → List Int} {sh : List (Nat ⊕ (Nat × Nat))} (hx1 : xo 1 = dz_xs1) (hx2 : xo 2 = dz_xs2) (hr : ∀ j, dz_in32 ((xo 0).getD j 0)) (hN : (xo 0).length ≤ 384) : ∀ (m_ : Nat) (i : Int) (rf : Nat → Nat → Nat) (M : Nat → Nat → Int), 0 ≤ i → i ≤ 390 → 390 - i ≤ m_ → LI sh rf M → dz_X (dz_E dz_pp xo 60) dz_pp xo (dz_pp 220) (fun r _ => r = some (dz_i 1)) 18 [some (dz_o 0), some (dz_r 0), some (dz_r 115), some (dz_i i)] [] 130 5989 (sh, rf, M) := by
  intro m_
  induction m_ with
  | zero =>
    intro i rf M hi hi2 hm hI
    have hc := dz_E_m dz_pp xo 60
    refine xr_iloadn hc rfl rfl ?_
    refine xr_aloadn hc rfl rfl ?_
    first | refine xr_alen hc rfl (by first | assumption | rfl) ?_ | refine xr_aleno hc rfl ?_
    refine xr_bipush hc rfl ?_
    refine xr_isubz hc rfl (by first | exact dz_wid (by omega) (by omega) | rfl) ?_
    refine xr_icmp_gt hc rfl (t := 1391) rfl (fun b24 => ?_) (fun b24 => ?_)
    · refine xr_iconst hc rfl ?_
      refine xr_zreturn hc rfl rfl (Nat.le_of_ble_eq_true rfl) (Nat.le_of_ble_eq_true rfl) (by first | exact Or.inl rfl | exact Or.inr rfl | assumption) ?_
      rfl
    · exfalso
      omega
  | succ m_ ih =>
    intro i rf M hi hi2 hm hI
    have hc := dz_E_m dz_pp xo 60
    refine xr_iloadn hc rfl rfl ?_
    refine xr_aloadn hc rfl rfl ?_
    first | refine xr_alen hc rfl (by first | assumption | rfl) ?_ | refine xr_aleno hc rfl ?_
    refine xr_bipush hc rfl ?_
    refine xr_isubz hc rfl (by first | exact dz_wid (by omega) (by omega) | rfl) ?_
    refine xr_icmp_gt hc rfl (t := 1391) rfl (fun b24 => ?_) (fun b24 => ?_)
    · refine xr_iconst hc rfl ?_
      refine xr_zreturn hc rfl rfl (Nat.le_of_ble_eq_true rfl) (Nat.le_of_ble_eq_true rfl) (by first | exact Or.inl rfl | exact Or.inr rfl | assumption) ?_
      rfl
    · refine xr_aloadn hc rfl rfl ?_
      refine xr_iloadn hc rfl rfl ?_
      first | refine xr_iaload hc rfl (by first | assumption | rfl) (by omega) (by omega) ?_ | refine xr_ialoado hc rfl (by omega) (by omega) ?_
      refine xr_bipush hc rfl ?_
      refine xr_iand hc rfl ?_
      have hL : i + 6 ≤ (xo 0).length := by omega
      have nx : ∀ rf2 M2, LI sh rf2 M2 → dz_X (dz_E dz_pp xo 60) dz_pp xo (dz_pp 220) (fun r _ => r = some (dz_i 1)) 18 [some (dz_o 0), some (dz_r 0), some (dz_r 115), some (dz_i (i + 6))] [] 130 5989 (sh, rf2, M2) := fun rf2 M2 h2 => ih (i + 6) rf2 M2 (by omega) (by omega) (by omega) h2
      clear ih
      refine xr_table hc rfl (fun t33 => ?_) (fun t33 t33b => ?_)
      · refine xr_at (t := 1385) rfl ?_
        refine xr_iincz3 hc rfl rfl (dz_wid (by omega) (by omega)) ?_
        refine xr_goto hc rfl (t := 18) rfl ?_
        exact nx _ _ hI
      · generalize dz_and ((xo 0).getD i.toNat 0) 63 = z at t33 t33b ⊢
        have e0 := L_or t33 t33b
        rcases e0 with e | e | e | e | e | e | e | e | e | e | e | e | e | e | e | e | e | e | e | e | e | e | e | e | e | e | e | e | e | e | e | e | e | e | e | e | e | e | e | e | e | e
        · refine ⟨183, by rw [e]; rfl, xr_at (t := 216) rfl ?_⟩
          exact L_row hx1 hx2 hr hi hL hN hI nx
        · refine ⟨216, by rw [e]; rfl, xr_at (t := 249) rfl ?_⟩
          exact L_lay hx1 hx2 hr hi hL hN hI nx
        · refine ⟨259, by rw [e]; rfl, xr_at (t := 292) rfl ?_⟩
          exact L_at hx1 hx2 hr hi hL hN hI nx
        · refine ⟨292, by rw [e]; rfl, xr_at (t := 325) rfl ?_⟩
          exact L_tear hx1 hx2 hr hi hL hN hI nx
        · refine ⟨315, by rw [e]; rfl, xr_at (t := 348) rfl ?_⟩
          exact L_copy hx1 hx2 hr hi hL hN hI nx
        · refine ⟨378, by rw [e]; rfl, xr_at (t := 411) rfl ?_⟩
          exact L_mean hx1 hx2 hr hi hL hN hI nx
        · refine ⟨401, by rw [e]; rfl, xr_at (t := 434) rfl ?_⟩
          exact L_text hx1 hx2 hr hi hL hN hI nx
        · refine ⟨434, by rw [e]; rfl, xr_at (t := 467) rfl ?_⟩
          exact L_put hx1 hx2 hr hi hL hN hI nx
        · refine ⟨477, by rw [e]; rfl, xr_at (t := 510) rfl ?_⟩
          exact L_fault hx1 hx2 hr hi hL hN hI nx
        · refine ⟨500, by rw [e]; rfl, xr_at (t := 533) rfl ?_⟩
          exact L_drum hx1 hx2 hr hi hL hN hI nx
        · refine ⟨523, by rw [e]; rfl, xr_at (t := 556) rfl ?_⟩
          exact L_word hx1 hx2 hr hi hL hN hI nx
        · refine ⟨556, by rw [e]; rfl, xr_at (t := 589) rfl ?_⟩
          exact L_mark hx1 hx2 hr hi hL hN hI nx
        · refine ⟨589, by rw [e]; rfl, xr_at (t := 622) rfl ?_⟩
          exact L_waits hx1 hx2 hr hi hL hN hI nx
        · refine ⟨622, by rw [e]; rfl, xr_at (t := 655) rfl ?_⟩
          exact L_step hx1 hx2 hr hi hL hN hI nx
        · refine ⟨635, by rw [e]; rfl, xr_at (t := 668) rfl ?_⟩
          exact L_move hx1 hx2 hr hi hL hN hI nx
        · refine ⟨668, by rw [e]; rfl, xr_at (t := 701) rfl ?_⟩
          exact L_swap hx1 hx2 hr hi hL hN hI nx
        · refine ⟨701, by rw [e]; rfl, xr_at (t := 734) rfl ?_⟩
          exact L_value hx1 hx2 hr hi hL hN hI nx
        · refine ⟨734, by rw [e]; rfl, xr_at (t := 767) rfl ?_⟩
          exact L_undo hx1 hx2 hr hi hL hN hI nx
        · refine ⟨757, by rw [e]; rfl, xr_at (t := 790) rfl ?_⟩
          exact L_keep hx1 hx2 hr hi hL hN hI nx
        · refine ⟨780, by rw [e]; rfl, xr_at (t := 813) rfl ?_⟩
          exact L_on hx1 hx2 hr hi hL hN hI nx
        · refine ⟨803, by rw [e]; rfl, xr_at (t := 836) rfl ?_⟩
          exact L_takes hx1 hx2 hr hi hL hN hI nx
        · refine ⟨826, by rw [e]; rfl, xr_at (t := 859) rfl ?_⟩
          exact L_idle hx1 hx2 hr hi hL hN hI nx
        · refine ⟨849, by rw [e]; rfl, xr_at (t := 882) rfl ?_⟩
          exact L_stops hx1 hx2 hr hi hL hN hI nx
        · refine ⟨862, by rw [e]; rfl, xr_at (t := 895) rfl ?_⟩
          exact L_when hx1 hx2 hr hi hL hN hI nx
        · refine ⟨895, by rw [e]; rfl, xr_at (t := 928) rfl ?_⟩
          exact L_place hx1 hx2 hr hi hL hN hI nx
        · refine ⟨928, by rw [e]; rfl, xr_at (t := 961) rfl ?_⟩
          exact L_best hx1 hx2 hr hi hL hN hI nx
        · refine ⟨951, by rw [e]; rfl, xr_at (t := 984) rfl ?_⟩
          exact L_least hx1 hx2 hr hi hL hN hI nx
        · refine ⟨984, by rw [e]; rfl, xr_at (t := 1017) rfl ?_⟩
          exact L_clerk hx1 hx2 hr hi hL hN hI nx
        · refine ⟨1017, by rw [e]; rfl, xr_at (t := 1050) rfl ?_⟩
          exact L_lies hx1 hx2 hr hi hL hN hI nx
        · refine ⟨1050, by rw [e]; rfl, xr_at (t := 1083) rfl ?_⟩
          exact L_kinds hx1 hx2 hr hi hL hN hI nx
        · refine ⟨1083, by rw [e]; rfl, xr_at (t := 1116) rfl ?_⟩
          exact L_watch hx1 hx2 hr hi hL hN hI nx
        · refine ⟨1106, by rw [e]; rfl, xr_at (t := 1139) rfl ?_⟩
          exact L_duel hx1 hx2 hr hi hL hN hI nx
        · refine ⟨1129, by rw [e]; rfl, xr_at (t := 1162) rfl ?_⟩
          exact L_odds hx1 hx2 hr hi hL hN hI nx
        · refine ⟨1172, by rw [e]; rfl, xr_at (t := 1205) rfl ?_⟩
          exact L_mid hx1 hx2 hr hi hL hN hI nx
        · refine ⟨1205, by rw [e]; rfl, xr_at (t := 1238) rfl ?_⟩
          exact L_lots hx1 hx2 hr hi hL hN hI nx
        · refine ⟨1238, by rw [e]; rfl, xr_at (t := 1271) rfl ?_⟩
          exact L_asked hx1 hx2 hr hi hL hN hI nx
        · refine ⟨1251, by rw [e]; rfl, xr_at (t := 1284) rfl ?_⟩
          exact L_upper hx1 hx2 hr hi hL hN hI nx
        · refine ⟨1265, by rw [e]; rfl, xr_at (t := 1298) rfl ?_⟩
          exact L_lower hx1 hx2 hr hi hL hN hI nx
        · refine ⟨1279, by rw [e]; rfl, xr_at (t := 1312) rfl ?_⟩
          exact L_count hx1 hx2 hr hi hL hN hI nx
        · refine ⟨1302, by rw [e]; rfl, xr_at (t := 1335) rfl ?_⟩
          exact L_finding hx1 hx2 hr hi hL hN hI nx
        · refine ⟨1315, by rw [e]; rfl, xr_at (t := 1348) rfl ?_⟩
          exact L_findings hx1 hx2 hr hi hL hN hI nx
        · refine ⟨1338, by rw [e]; rfl, xr_at (t := 1371) rfl ?_⟩
          exact L_digest hx1 hx2 hr hi hL hN hI nx
set_option maxRecDepth 100000 in
set_option maxHeartbeats 4000000 in
theorem dz_level2 (xo : Nat → List Int) (h0 : (xo 0).length ≤ 384) (hr : ∀ j, dz_in32 ((xo 0).getD j 0)) (h1 : xo 1 = dz_xs1) (h2 : xo 2 = dz_xs2) : dz_X (dz_E dz_pp xo 60) dz_pp xo (dz_pp 220) (fun r _ => r = some (dz_i 1)) 0 (dz_ent 4 [dz_o 0]) [] 0 0 ([], (fun _ _ => 0), fun _ _ => 0) := by
  have hc := dz_E_m dz_pp xo 60
  show dz_X (dz_E dz_pp xo 60) dz_pp xo (dz_pp 220) (fun r _ => r = some (dz_i 1)) 0 [some (dz_o 0), none, none, none] [] 0 0 ([], (fun _ _ => 0), fun _ _ => 0)
  refine xr_newz (q := 0) hc rfl rfl (fun j => rfl) (fun j => rfl) (Nat.le_of_ble_eq_true rfl) (Nat.le_of_ble_eq_true rfl) ?_
  refine xr_dup hc rfl rfl ?_
  refine xr_ctor0 hc rfl (by decide) rfl (Nat.le_of_ble_eq_true rfl) (Nat.le_of_ble_eq_true rfl) (Nat.le_of_ble_eq_true rfl) ?_
  refine I_class (d := 57) (fun _ _ => rfl) (fun _ _ => rfl) (fun sh rf M hn hl hX hz hZ => ?_)
  refine xk_0 ?_
  refine xr_astore1 hc rfl rfl ?_
  refine xr_newz (q := 115) hc rfl hn (fun j => hz _ _ (Nat.le_refl _)) (fun j => hZ _ _ (Nat.le_refl _)) (Nat.le_of_ble_eq_true rfl) (Nat.le_of_ble_eq_true rfl) ?_
  refine xr_dup hc rfl rfl ?_
  refine xr_ctor0 hc rfl (by decide) rfl (Nat.le_of_ble_eq_true rfl) (Nat.le_of_ble_eq_true rfl) (Nat.le_of_ble_eq_true rfl) ?_
  refine I_model (d := 59) (by simp only [List.length_append, List.length_cons, List.length_nil]; omega) hz hZ (g_at hn) (fun rf2 M2 f1 hm f2 hM => ?_)
  refine xk_0 ?_
  refine xr_astore2 hc rfl rfl ?_
  refine xr_iconst hc rfl ?_
  refine xr_istore3 hc rfl rfl ?_
  refine L_loop h1 h2 hr h0 390 0 rf2 M2 (by omega) (by omega) (by omega) ⟨_, _, _, _, _, _, _, _, _, _, _, _, _, _, _, _, _, ?_, hm, RX_lo hX f2, hM, WF_init⟩
  exact cl_ext hl (fun q2 k2 u => f1 _ _ (by omega)) (fun q y hy => by (repeat refine g_app ?_); exact hy)
