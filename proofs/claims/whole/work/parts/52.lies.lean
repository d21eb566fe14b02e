/-! The class: where a word lies, of which kind it is. Written by l2_52.py. -/
noncomputable def pick (P : Prop) (a b : Int) : Int := @ite Int P (Classical.propDecidable P) a b
theorem pick_t {P : Prop} {a b : Int} (h : P) : pick P a b = a := if_pos h
theorem pick_f {P : Prop} {a b : Int} (h : ¬ P) : pick P a b = b := if_neg h
theorem pick_c {P P2 : Prop} {a b : Int} (h : P ↔ P2) : pick P a b = pick P2 a b := by rw [propext h]
noncomputable def t_ls (P : Nat → Prop) : Nat → Int
  | 0 => 0
  | p + 1 => pick (P p) (dz_or (t_ls P p) (dz_shl 1 p)) (t_ls P p)
theorem t_ls_in (P : Nat → Prop) : ∀ k, dz_in32 (t_ls P k)
  | 0 => by
    show dz_in32 0
    unfold dz_in32
    omega
  | k + 1 => by
    have ih := t_ls_in P k
    by_cases h : P k
    · unfold t_ls
      rw [pick_t h]
      unfold dz_or
      exact dz_Iin _
    · unfold t_ls
      rw [pick_f h]
      exact ih
def rok (f : Nat → Int) : Nat → Bool
  | 0 => true
  | k + 1 => rok f k && decide (0 ≤ f k ∧ f k ≤ 999)
theorem rok_all {f : Nat → Int} : ∀ k, rok f k = true ↔ ∀ i, i < k → 0 ≤ f i ∧ f i ≤ 999
  | 0 => ⟨fun _ i hi => by omega, fun _ => rfl⟩
  | k + 1 => by
    have ih := rok_all (f := f) k
    unfold rok
    rw [Bool.and_eq_true, ih, decide_eq_true_iff]
    refine ⟨fun h i hi => ?_, fun h => ⟨fun i hi => h i (by omega), h k (by omega)⟩⟩
    by_cases e : i = k
    · rw [e]
      exact h.2
    · exact h.1 i (by omega)
def rtc (rs : Nat → Int) (it : Nat → Nat → Int) (w i r : Int) : Int := if i < 0 ∨ w ≤ i ∨ r < 0 ∨ 5 < r then -1 else if rs r.toNat = -1 then 1 else if rs r.toNat < 1 ∨ 6 < rs r.toNat then 5 else if rok (it r.toNat) (rs r.toNat).toNat = true then 0 else 3
theorem t_fit_c {w pl B : Int} {kd wt nx s sp sp2 tm tm2 : Nat → Int} {m : Nat} (hp : pgok w pl kd wt nx) (hs : stok w pl B s) (hB : B + 29 * (m + 1) ≤ 1000000) (h1 : ∀ i : Nat, (i : Int) < w → sp i = sp2 i) (h2 : ∀ j, j < m → tm j = tm2 j) : t_fit pl kd wt nx sp tm m s ↔ t_fit pl kd wt nx sp2 tm2 m s := by
  have e : ∀ j, j < m → t_b pl sp (t_l pl kd wt nx (j + 1) s) (s 1) = t_b pl sp2 (t_l pl kd wt nx (j + 1) s) (s 1) := fun j hj => t_b_c _ _ (fun x hx => h1 x.1 ((t_l_in hp (j + 1) B s hs (by omega)).1 x hx).1)
  refine ⟨fun h j hj => ?_, fun h j hj => ?_⟩
  · rw [← e j hj, ← h2 j hj]
    exact h j hj
  · rw [e j hj, h2 j hj]
    exact h j hj
theorem t_fit_run {w pl B : Int} {kd wt nx s s2 sp tm : Nat → Int} {m : Nat} (hp : pgok w pl kd wt nx) (hs : stok w pl B s) (hB : B + 29 * (m + 1) ≤ 1000000) (he : t_eq w s s2) (h1 : s2 1 = s 1) (h : ∀ i : Nat, (i : Int) < w → s2 (5 + i) = sp i) : (∀ j, j < m → t_run pl kd wt nx j s2 3 ≠ -9 ∧ t_run pl kd wt nx (j + 1) s2 1 - s2 1 = tm j) ↔ t_fit pl kd wt nx sp tm m s := by
  have e : ∀ j, j < m → t_run pl kd wt nx (j + 1) s2 1 - s2 1 = t_b pl sp (t_l pl kd wt nx (j + 1) s) (s 1) - s 1 := fun j hj => t_at_run hp hs (by omega) he h1 h
  have e2 : ∀ j, j < m → t_run pl kd wt nx j s2 3 = t_run pl kd wt nx j s 3 := fun j hj => ((t_way hp j B s s2 hs (by omega) he).1.2.1).symm
  refine ⟨fun h j hj => ?_, fun h j hj => ?_⟩
  · rw [← e j hj, ← e2 j hj]
    exact h j hj
  · rw [e j hj, e2 j hj]
    exact h j hj
noncomputable def o_lies (rs : Nat → Int) (it : Nat → Nat → Int) (fn : Nat → Int) (w pl : Int) (kd wt nx s : Nat → Int) (i r : Int) : Int × (Nat → Int) := if rtc rs it w i r = -1 then (-1, fn) else if rtc rs it w i r ≠ 0 then (-3, rfu fn (rtc rs it w i r).toNat) else (t_ls (fun p => mly s w i.toNat p ∧ t_fit pl kd wt nx (fup (fun k => s (5 + k)) i.toNat p) (it r.toNat) (rs r.toNat).toNat s) pl.toNat, fn)
noncomputable def o_kinds (rs : Nat → Int) (it : Nat → Nat → Int) (fn : Nat → Int) (w pl : Int) (kd wt nx s : Nat → Int) (i r : Int) : Int × (Nat → Int) := if rtc rs it w i r = -1 then (-1, fn) else if rtc rs it w i r ≠ 0 then (-3, rfu fn (rtc rs it w i r).toNat) else (t_ls (fun k => t_fit pl (fup kd i.toNat k) wt nx (fun k => s (5 + k)) (it r.toNat) (rs r.toNat).toNat s) 6, fn)
theorem pg_fup {w pl : Int} {kd wt nx : Nat → Int} {i k : Nat} (hp : pgok w pl kd wt nx) (hk : k ≤ 5) : pgok w pl (fup kd i k) wt nx := by
  obtain ⟨p1, p2, p3, p4, p5⟩ := hp
  refine ⟨p1, p2, p3, p4, fun j hj => ?_⟩
  have z := p5 j hj
  unfold fup
  split
  · exact ⟨by omega, by omega, z.2.2⟩
  · exact z
set_option maxRecDepth 100000 in
theorem S_refusedTimes {xo : Nat → List Int} {d : Nat} {Q : dz_Q} {sh : List (Nat ⊕ (Nat × Nat))} {rf : Nat → Nat → Nat} {M : Nat → Nat → Int} {rs : Nat → Int} {it : Nat → Nat → Int} {ts : Nat → Int} {ch : Nat → Nat → Int} {tl up lo : Int} {fn : Nat → Int} {w pl : Int} {kd wt nx : Nat → Int} {n : Nat} {hs : Nat → Nat → Int} {kp : Nat → Int} {kh : Nat → Nat → Nat → Int} {i r : Int} (hl : cl sh rf) (hR : RX M rs it ts ch tl up lo fn w pl kd wt nx n hs kp kh) (hW : WF rs it ts ch tl up lo fn w pl kd wt nx n hs kp kh) (h1 : rtc rs it w i r = -1 → Q (some (dz_i (-1))) (sh, rf, M)) (h2 : ∀ f : Nat, 1 ≤ f → rtc rs it w i r = f → ∀ M2 : Nat → Nat → Int, (∀ q2 k2, 115 ≤ q2 → M2 q2 k2 = M q2 k2) → RX M2 rs it ts ch tl up lo (rfu fn f) w pl kd wt nx n hs kp kh → Q (some (dz_i (-3))) (sh, rf, M2)) (h3 : rtc rs it w i r = 0 → Q (some (dz_i 0)) (sh, rf, M)) : dz_E dz_pp xo (d + 4) 107 [dz_r 0, dz_i i, dz_i r] (sh, rf, M) Q := by
  refine ⟨Nat.le_of_ble_eq_true rfl, ?_⟩
  have hc := dz_E_m dz_pp xo (d + 3)
  show dz_X (dz_E dz_pp xo (d + 3)) dz_pp xo (dz_pp 107) Q 0 [some (dz_r 0), some (dz_i i), some (dz_i r), none] [] 0 0 (sh, rf, M)
  obtain ⟨c0, c1, c2, c3, c4, c5, c6, c7, c8, c9, c10, c11, c12, c13, c14, c15, c16, c17, c18, c19, c20, c21, c22, c23, c24, c25, c26, c27, c28, c29, c30, c31, c32, c33, c34, c35, c36⟩ := id hl
  obtain ⟨hrow, htxt, htl, hup, hlo, hfn, hdr, hkp, hrb⟩ := id hR
  obtain ⟨wrow, wtxt, wdr, wst, wkp⟩ := id hW
  have n0 : sh[23]? = some (.inl 1) := c14.2.2.2.2.1.1
  have n1 : rf 23 7 = 25 + 1 := c14.2.2.2.2.1.2.2.2.1
  have n2 : sh[25]? = some (.inr (0, 6)) := c14.2.2.2.2.1.2.2.2.2.1
  have n3 : rf 15 1 = 23 + 1 := c14.2.2.2.1
  have n4 : sh[15]? = some (.inl 0) := c14.1
  have n5 : ma_at sh rf 23 := c14.2.2.2.2.1
  have q0 : sh[34]? = some (.inl 1) := c20.1
  have q1 : rf 34 8 = 37 + 1 := c20.2.2.2.2.2.1
  have q2 : sh[37]? = some (.inr (0, 6)) := c20.2.2.2.2.2.2.1
  have q3 : sh[50]? = some (.inl 4) := c26.1
  have k0 : sh[54]? = some (.inl 2) := c28.1
  have k1 : rf 54 1 = 55 + 1 := c28.2.1
  have k2 : sh[55]? = some (.inr (0, 6)) := c28.2.2.1
  have hw6 := WF_w hW
  have hM0 : M 23 0 = w := hdr.2.1.1
  have hM1 : M 23 1 = pl := hdr.2.1.2.1
  have hsp0 : ∀ i : Nat, (i : Int) < w → M 25 i = hs n (5 + i) := fun i hi => (hdr.2.1.2.2.2.2.2.2 i hi).2.1
  refine xr_aloadn hc rfl rfl ?_
  refine xr_getfr hc rfl rfl (by first | assumption | rfl) (by first | assumption | rfl) ?_
  refine xr_getfr hc rfl rfl (by first | assumption | rfl) (by first | assumption | rfl) ?_
  refine xr_iloadn hc rfl rfl ?_
  refine xr_callv1 hc rfl (by first | assumption | rfl) rfl rfl rfl (Nat.le_of_ble_eq_true rfl) (Nat.zero_le _) (Nat.zero_le _) ?_
  refine S_has n5 (by rw [hM0]; exact hw6) (fun u1 v1 => ?_) (fun u1 => ?_)
  all_goals try rw [hM0] at u1
  all_goals try rw [hM0] at v1
  · refine xk_1 ?_
    refine xr_iff hc rfl (by simp [dz_cmp]) ?_
    refine xr_iloadn hc rfl rfl ?_
    refine xr_calls1 hc rfl (by decide) rfl rfl rfl (Nat.le_of_ble_eq_true rfl) (Nat.zero_le _) (Nat.zero_le _) ?_
    refine S_isRow (fun u2 v2 => ?_) (fun u2 => ?_)
    · refine xk_1 ?_
      refine xr_ift hc rfl (t := 23) rfl (by simp [dz_cmp]) ?_
      obtain ⟨e1, e2⟩ := hrow r.toNat (by omega)
      have w1 := wrow r.toNat (by omega)
      have c3r := c3 r.toNat (by omega)
      have c4r := c4 r.toNat (by omega)
      refine xr_aloadn hc rfl rfl ?_
      refine xr_getfr hc rfl rfl (by first | assumption | rfl) (by first | assumption | rfl) ?_
      refine xr_iloadn hc rfl rfl ?_
      first | refine xr_iaload hc rfl (by first | assumption | rfl) (by first | omega | (unfold dz_w; omega)) (by first | omega | (unfold dz_w; omega)) ?_ | refine xr_ialoado hc rfl (by first | omega | (unfold dz_w; omega)) (by first | omega | (unfold dz_w; omega)) ?_
      rw [e1]
      refine xr_iconst hc rfl ?_
      refine xr_icmp_ne hc rfl (t := 39) rfl (fun b30 => ?_) (fun b30 => ?_)
      · refine xr_aloadn hc rfl rfl ?_
        refine xr_getfr hc rfl rfl (by first | assumption | rfl) (by first | assumption | rfl) ?_
        refine xr_iloadn hc rfl rfl ?_
        first | refine xr_iaload hc rfl (by first | assumption | rfl) (by first | omega | (unfold dz_w; omega)) (by first | omega | (unfold dz_w; omega)) ?_ | refine xr_ialoado hc rfl (by first | omega | (unfold dz_w; omega)) (by first | omega | (unfold dz_w; omega)) ?_
        rw [e1]
        refine xr_iconst hc rfl ?_
        refine xr_bipush hc rfl ?_
        refine xr_calls3 hc rfl (by decide) rfl rfl rfl (Nat.le_of_ble_eq_true rfl) (Nat.zero_le _) (Nat.zero_le _) ?_
        refine S_isWithin (fun u3 v3 => ?_) (fun u3 => ?_)
        · refine xk_1 ?_
          refine xr_ift hc rfl (t := 60) rfl (by simp [dz_cmp]) ?_
          have lp : ∀ (m_ : Nat) (k : Nat), (k : Int) + m_ = rs r.toNat → rok (it r.toNat) k = true → dz_X (dz_E dz_pp xo (d + 3)) dz_pp xo (dz_pp 107) Q 62 [some (dz_r 0), some (dz_i i), some (dz_i r), some (dz_i (k : Int))] [] 0 0 (sh, rf, M) := by
            intro m_
            induction m_ with
            | zero =>
              intro k hk hok
              have ek : (rs r.toNat).toNat = k := by omega
              refine xr_iloadn hc rfl rfl ?_
              refine xr_aloadn hc rfl rfl ?_
              refine xr_getfr hc rfl rfl (by first | assumption | rfl) (by first | assumption | rfl) ?_
              refine xr_iloadn hc rfl rfl ?_
              first | refine xr_iaload hc rfl (by first | assumption | rfl) (by first | omega | (unfold dz_w; omega)) (by first | omega | (unfold dz_w; omega)) ?_ | refine xr_ialoado hc rfl (by first | omega | (unfold dz_w; omega)) (by first | omega | (unfold dz_w; omega)) ?_
              rw [e1]
              refine xr_icmp_ge hc rfl (t := 102) rfl (fun b69 => ?_) (fun b69 => ?_)
              · refine xr_iconst hc rfl ?_
                refine xr_ireturn hc rfl rfl (Nat.zero_le _) (Nat.zero_le _) ?_
                refine h3 ?_
                unfold rtc
                rw [if_neg (by omega), if_neg (by omega), if_neg (by omega), if_pos (by rw [ek]; exact hok)]
              · omega
            | succ m_ ih =>
              intro k hk hok
              have e3 := e2 k (by omega)
              refine xr_iloadn hc rfl rfl ?_
              refine xr_aloadn hc rfl rfl ?_
              refine xr_getfr hc rfl rfl (by first | assumption | rfl) (by first | assumption | rfl) ?_
              refine xr_iloadn hc rfl rfl ?_
              first | refine xr_iaload hc rfl (by first | assumption | rfl) (by first | omega | (unfold dz_w; omega)) (by first | omega | (unfold dz_w; omega)) ?_ | refine xr_ialoado hc rfl (by first | omega | (unfold dz_w; omega)) (by first | omega | (unfold dz_w; omega)) ?_
              rw [e1]
              refine xr_icmp_ge hc rfl (t := 102) rfl (fun b69 => ?_) (fun b69 => ?_)
              · omega
              · refine xr_aloadn hc rfl rfl ?_
                refine xr_getfr hc rfl rfl (by first | assumption | rfl) (by first | assumption | rfl) ?_
                refine xr_iloadn hc rfl rfl ?_
                refine xr_aaload hc rfl (by first | assumption | rfl) (by decide) (by first | omega | (unfold dz_w; omega)) (by first | omega | (unfold dz_w; omega)) (by first | assumption | rfl) ?_
                refine xr_iloadn hc rfl rfl ?_
                first | refine xr_iaload hc rfl (by first | assumption | rfl) (by first | omega | (unfold dz_w; omega)) (by first | omega | (unfold dz_w; omega)) ?_ | refine xr_ialoado hc rfl (by first | omega | (unfold dz_w; omega)) (by first | omega | (unfold dz_w; omega)) ?_
                rw [Int.toNat_natCast, e3]
                refine xr_iconst hc rfl ?_
                refine xr_sipush hc rfl ?_
                refine xr_calls3 hc rfl (by decide) rfl rfl rfl (Nat.le_of_ble_eq_true rfl) (Nat.zero_le _) (Nat.zero_le _) ?_
                refine S_isWithin (fun u4 v4 => ?_) (fun u4 => ?_)
                · refine xk_1 ?_
                  refine xr_ift hc rfl (t := 96) rfl (by simp [dz_cmp]) ?_
                  refine xr_iincz3 hc rfl rfl (by first | exact dz_wid (by first | omega | (unfold dz_w; omega)) (by first | omega | (unfold dz_w; omega)) | rfl) ?_
                  refine xr_goto hc rfl (t := 62) rfl ?_
                  exact ih (k + 1) (by omega) (by unfold rok; rw [hok, Bool.true_and, decide_eq_true_iff]; omega)
                · refine xk_1 ?_
                  refine xr_iff hc rfl (by simp [dz_cmp]) ?_
                  refine xr_aloadn hc rfl rfl ?_
                  refine xr_iconst hc rfl ?_
                  refine xr_callv1 hc rfl (by first | assumption | rfl) rfl rfl rfl (Nat.le_of_ble_eq_true rfl) (Nat.zero_le _) (Nat.zero_le _) ?_
                  refine S_refuse hl hR hW (by omega) (fun M2 z1 z2 => ?_)
                  refine xk_1 ?_
                  refine xr_ireturn hc rfl rfl (Nat.zero_le _) (Nat.zero_le _) ?_
                  refine h2 3 (by omega) ?_ M2 z1 z2
                  unfold rtc
                  rw [if_neg (by omega), if_neg (by omega), if_neg (by omega), if_neg (fun z => by have z2 := (rok_all _).mp z k (by omega); omega)]
                  rfl
          refine xr_iconst hc rfl ?_
          refine xr_istore3 hc rfl rfl ?_
          exact lp (rs r.toNat).toNat 0 (by omega) rfl
        · refine xk_1 ?_
          refine xr_iff hc rfl (by simp [dz_cmp]) ?_
          refine xr_aloadn hc rfl rfl ?_
          refine xr_iconst hc rfl ?_
          refine xr_callv1 hc rfl (by first | assumption | rfl) rfl rfl rfl (Nat.le_of_ble_eq_true rfl) (Nat.zero_le _) (Nat.zero_le _) ?_
          refine S_refuse hl hR hW (by omega) (fun M2 z1 z2 => ?_)
          refine xk_1 ?_
          refine xr_ireturn hc rfl rfl (Nat.zero_le _) (Nat.zero_le _) ?_
          refine h2 5 (by omega) ?_ M2 z1 z2
          unfold rtc
          rw [if_neg (by omega), if_neg (by omega), if_pos (by omega)]
          rfl
      · refine xr_aloadn hc rfl rfl ?_
        refine xr_iconst hc rfl ?_
        refine xr_callv1 hc rfl (by first | assumption | rfl) rfl rfl rfl (Nat.le_of_ble_eq_true rfl) (Nat.zero_le _) (Nat.zero_le _) ?_
        refine S_refuse hl hR hW (by omega) (fun M2 z1 z2 => ?_)
        refine xk_1 ?_
        refine xr_ireturn hc rfl rfl (Nat.zero_le _) (Nat.zero_le _) ?_
        refine h2 1 (by omega) ?_ M2 z1 z2
        unfold rtc
        rw [if_neg (by omega), if_pos (by omega)]
        rfl
    · refine xk_1 ?_
      refine xr_iff hc rfl (by simp [dz_cmp]) ?_
      refine xr_iconst hc rfl ?_
      refine xr_ireturn hc rfl rfl (Nat.zero_le _) (Nat.zero_le _) ?_
      refine h1 ?_
      unfold rtc
      rw [if_pos (by omega)]
  · refine xk_1 ?_
    refine xr_ift hc rfl (t := 21) rfl (by simp [dz_cmp]) ?_
    refine xr_iconst hc rfl ?_
    refine xr_ireturn hc rfl rfl (Nat.zero_le _) (Nat.zero_le _) ?_
    refine h1 ?_
    unfold rtc
    rw [if_pos (by omega)]
set_option maxRecDepth 100000 in
theorem X_lies {xo : Nat → List Int} {d : Nat} {Q : dz_Q} {sh : List (Nat ⊕ (Nat × Nat))} {rf : Nat → Nat → Nat} {M : Nat → Nat → Int} {rs : Nat → Int} {it : Nat → Nat → Int} {ts : Nat → Int} {ch : Nat → Nat → Int} {tl up lo : Int} {fn : Nat → Int} {w pl : Int} {kd wt nx : Nat → Int} {n : Nat} {hs : Nat → Nat → Int} {kp : Nat → Int} {kh : Nat → Nat → Nat → Int} {i r : Int} (hx : xo 2 = dz_xs2) (hl : cl sh rf) (hR : RX M rs it ts ch tl up lo fn w pl kd wt nx n hs kp kh) (hW : WF rs it ts ch tl up lo fn w pl kd wt nx n hs kp kh) (hQ : ∀ M2 : Nat → Nat → Int, (∀ q2 k2, 115 ≤ q2 → M2 q2 k2 = M q2 k2) → RX M2 rs it ts ch tl up lo (o_lies rs it fn w pl kd wt nx (hs n) i r).2 w pl kd wt nx n hs kp kh → Q (some (dz_i ((o_lies rs it fn w pl kd wt nx (hs n) i r).1))) (sh, rf, M2)) : dz_E dz_pp xo (d + 5) 81 [dz_r 0, dz_i i, dz_i r] (sh, rf, M) Q := by
  refine ⟨Nat.le_of_ble_eq_true rfl, ?_⟩
  have hc := dz_E_m dz_pp xo (d + 4)
  show dz_X (dz_E dz_pp xo (d + 4)) dz_pp xo (dz_pp 81) Q 0 [some (dz_r 0), some (dz_i i), some (dz_i r), none, none, none] [] 0 0 (sh, rf, M)
  obtain ⟨c0, c1, c2, c3, c4, c5, c6, c7, c8, c9, c10, c11, c12, c13, c14, c15, c16, c17, c18, c19, c20, c21, c22, c23, c24, c25, c26, c27, c28, c29, c30, c31, c32, c33, c34, c35, c36⟩ := id hl
  obtain ⟨hrow, htxt, htl, hup, hlo, hfn, hdr, hkp, hrb⟩ := id hR
  obtain ⟨wrow, wtxt, wdr, wst, wkp⟩ := id hW
  have n0 : sh[23]? = some (.inl 1) := c14.2.2.2.2.1.1
  have n1 : rf 23 7 = 25 + 1 := c14.2.2.2.2.1.2.2.2.1
  have n2 : sh[25]? = some (.inr (0, 6)) := c14.2.2.2.2.1.2.2.2.2.1
  have n3 : rf 15 1 = 23 + 1 := c14.2.2.2.1
  have n4 : sh[15]? = some (.inl 0) := c14.1
  have n5 : ma_at sh rf 23 := c14.2.2.2.2.1
  have q0 : sh[34]? = some (.inl 1) := c20.1
  have q1 : rf 34 8 = 37 + 1 := c20.2.2.2.2.2.1
  have q2 : sh[37]? = some (.inr (0, 6)) := c20.2.2.2.2.2.2.1
  have q3 : sh[50]? = some (.inl 4) := c26.1
  have k0 : sh[54]? = some (.inl 2) := c28.1
  have k1 : rf 54 1 = 55 + 1 := c28.2.1
  have k2 : sh[55]? = some (.inr (0, 6)) := c28.2.2.1
  have hw6 := WF_w hW
  have hM0 : M 23 0 = w := hdr.2.1.1
  have hM1 : M 23 1 = pl := hdr.2.1.2.1
  have hsp0 : ∀ i : Nat, (i : Int) < w → M 25 i = hs n (5 + i) := fun i hi => (hdr.2.1.2.2.2.2.2.2 i hi).2.1
  refine xr_aloadn hc rfl rfl ?_
  refine xr_iloadn hc rfl rfl ?_
  refine xr_iloadn hc rfl rfl ?_
  refine xr_callv2 hc rfl (by first | assumption | rfl) rfl rfl rfl (Nat.le_of_ble_eq_true rfl) (Nat.zero_le _) (Nat.zero_le _) ?_
  refine S_refusedTimes hl hR hW (fun rt => ?_) (fun f hf1 rt M2 z1 z2 => ?_) (fun rt => ?_)
  · refine xk_1 ?_
    refine xr_istore3 hc rfl rfl ?_
    refine xr_iloadn hc rfl rfl ?_
    refine xr_iff hc rfl (by simp [dz_cmp]) ?_
    refine xr_iloadn hc rfl rfl ?_
    refine xr_ireturn hc rfl rfl (Nat.zero_le _) (Nat.zero_le _) ?_
    simp only [o_lies] at hQ
    first
      | (rw [if_pos rt] at hQ
         exact hQ M (fun _ _ _ => rfl) hR)
      | (rw [if_neg (by omega), if_pos (by omega), show (rtc rs it w i r).toNat = f by omega] at hQ
         exact hQ M2 z1 z2)
  · refine xk_1 ?_
    refine xr_istore3 hc rfl rfl ?_
    refine xr_iloadn hc rfl rfl ?_
    refine xr_iff hc rfl (by simp [dz_cmp]) ?_
    refine xr_iloadn hc rfl rfl ?_
    refine xr_ireturn hc rfl rfl (Nat.zero_le _) (Nat.zero_le _) ?_
    simp only [o_lies] at hQ
    first
      | (rw [if_pos rt] at hQ
         exact hQ M (fun _ _ _ => rfl) hR)
      | (rw [if_neg (by omega), if_pos (by omega), show (rtc rs it w i r).toNat = f by omega] at hQ
         exact hQ M2 z1 z2)
  · refine xk_1 ?_
    refine xr_istore3 hc rfl rfl ?_
    refine xr_iloadn hc rfl rfl ?_
    refine xr_ift hc rfl (t := 13) rfl (by simp [dz_cmp]) ?_
    have rt2 := rt
    unfold rtc at rt2
    have rin : ¬ (i < 0 ∨ w ≤ i ∨ r < 0 ∨ 5 < r) := fun z => by rw [if_pos z] at rt2; omega
    rw [if_neg rin] at rt2
    have rn1 : ¬ rs r.toNat = -1 := fun z => by rw [if_pos z] at rt2; omega
    rw [if_neg rn1] at rt2
    have rn2 : ¬ (rs r.toNat < 1 ∨ 6 < rs r.toNat) := fun z => by rw [if_pos z] at rt2; omega
    obtain ⟨e1, e2⟩ := hrow r.toNat (by omega)
    have c3r := c3 r.toNat (by omega)
    have c4r := c4 r.toNat (by omega)
    have hw0 : w ≠ 0 := by omega
    refine xr_aloadn hc rfl rfl ?_
    refine xr_aloadn hc rfl rfl ?_
    refine xr_getfr hc rfl rfl (by first | assumption | rfl) (by first | assumption | rfl) ?_
    refine xr_iloadn hc rfl rfl ?_
    first | refine xr_iaload hc rfl (by first | assumption | rfl) (by first | omega | (unfold dz_w; omega)) (by first | omega | (unfold dz_w; omega)) ?_ | refine xr_ialoado hc rfl (by first | omega | (unfold dz_w; omega)) (by first | omega | (unfold dz_w; omega)) ?_
    rw [e1]
    refine xr_callv1 hc rfl (by first | assumption | rfl) rfl rfl rfl (Nat.le_of_ble_eq_true rfl) (Nat.zero_le _) (Nat.zero_le _) ?_
    have hp := WF_p hW hw0
    have hst := wst.2 n (Nat.le_refl n)
    obtain ⟨p1, p2, p3, p4, p5⟩ := id hp
    obtain ⟨st0, st1, st2, st3, st4, st5, st6, st7, st8⟩ := id hst
    refine S_followSteps hx hl hR hW hw0 (by omega) (fun M1 K f1 f2 f3 f4 f5 f6 => ?_)
    refine xk_0 ?_
    refine xr_aloadn hc rfl rfl ?_
    refine xr_getfr hc rfl rfl (by first | assumption | rfl) (by first | assumption | rfl) ?_
    refine xr_aloadn hc rfl rfl ?_
    refine xr_getfr hc rfl rfl (by first | assumption | rfl) (by first | assumption | rfl) ?_
    refine xr_getfr hc rfl rfl (by first | assumption | rfl) (by first | assumption | rfl) ?_
    refine xr_callv1 hc rfl (by first | assumption | rfl) rfl rfl rfl (Nat.le_of_ble_eq_true rfl) (Nat.zero_le _) (Nat.zero_le _) ?_
    refine S_pbegin hl (fun M2 g1 g2 g3 g4 => ?_)
    have L1 : ∀ q2 k2, ¬ (34 ≤ q2 ∧ q2 ≤ 40) → ¬ (50 ≤ q2 ∧ q2 ≤ 55) → M2 q2 k2 = M q2 k2 := fun q2 k2 v1 v2 => by rw [g1 _ _ (by omega) (by omega), f1 _ _ (by omega) (by omega)]
    have L2 := TR_fr f3 (M2 := M2) (fun q k v1 v2 => g1 _ _ (by omega) (by omega))
    have L3 : ∀ i : Nat, (i : Int) < w → M2 55 i = hs n (5 + i) := fun i hi => by rw [g4 i (by omega), f1 _ _ (by omega) (by omega)]; exact hsp0 i hi
    have LR : scX M M2 := ⟨fun q2 k2 u => L1 _ _ (by omega) (by omega), fun q2 k2 u => by
      rcases u with ⟨a, b⟩ | u
      · rw [a, b, g1 _ _ (by omega) (by omega), f2.2.2.2.2.2.2.2.2.1, hrb.1]
      · exact L1 _ _ (by omega) (by omega)⟩
    have g5 : M2 54 5 = w := by rw [g2, f1 _ _ (by omega) (by omega), hM0]
    have g6 : M2 54 6 = pl := by rw [g3, f1 _ _ (by omega) (by omega), hM1]
    have lp : ∀ (m_ : Nat) (p : Nat) (N : Nat → Nat → Int), (p : Int) + m_ = pl → (∀ q2 k2, ¬ (q2 = 55 ∧ k2 = i.toNat) → N q2 k2 = M2 q2 k2) → dz_X (dz_E dz_pp xo (d + 4)) dz_pp xo (dz_pp 81) Q 43 [some (dz_r 0), some (dz_i i), some (dz_i r), some (dz_i 0), some (dz_i (t_ls (fun p => mly (hs n) w i.toNat p ∧ t_fit pl kd wt nx (fup (fun k => hs n (5 + k)) i.toNat p) (it r.toNat) (rs r.toNat).toNat (hs n)) p)), some (dz_i (p : Int))] [] 0 0 (sh, rf, N) := by
      intro m_
      induction m_ with
      | zero =>
        intro p N hp2 h1
        have n23 : N 23 1 = pl := by rw [h1 _ _ (by omega), L1 _ _ (by omega) (by omega)]; exact hM1
        have n230 : N 23 0 = w := by rw [h1 _ _ (by omega), L1 _ _ (by omega) (by omega)]; exact hM0
        have ep : p = pl.toNat := by omega
        subst ep
        refine xr_iload hc rfl rfl ?_
        refine xr_aloadn hc rfl rfl ?_
        refine xr_getfr hc rfl rfl (by first | assumption | rfl) (by first | assumption | rfl) ?_
        refine xr_getfr hc rfl rfl (by first | assumption | rfl) (by first | assumption | rfl) ?_
        refine xr_getfi hc rfl (Or.inl rfl) (by first | assumption | rfl) ?_
        rw [n23]
        refine xr_icmp_ge hc rfl (t := 129) rfl (fun b55 => ?_) (fun b55 => ?_)
        · refine xr_iload hc rfl rfl ?_
          refine xr_ireturn hc rfl rfl (Nat.zero_le _) (Nat.zero_le _) ?_
          simp only [o_lies] at hQ
          rw [if_neg (by omega), if_neg (by omega)] at hQ
          exact hQ N (fun q2 k2 u => by rw [h1 _ _ (by omega), L1 _ _ (by omega) (by omega)]) (RX_scr hR (scX_trans LR (⟨fun q2 k2 u => h1 _ _ (by omega), fun q2 k2 u => h1 _ _ (by omega)⟩ : scX M2 N)))
        · omega
      | succ m_ ih =>
        intro p N hp2 h1
        have n23 : N 23 1 = pl := by rw [h1 _ _ (by omega), L1 _ _ (by omega) (by omega)]; exact hM1
        have n230 : N 23 0 = w := by rw [h1 _ _ (by omega), L1 _ _ (by omega) (by omega)]; exact hM0
        have n25 : ∀ k : Nat, (k : Int) < w → N 25 k = hs n (5 + k) := fun k hk => by rw [h1 _ _ (by omega), L1 _ _ (by omega) (by omega)]; exact hsp0 k hk
        have et : t_ls (fun p => mly (hs n) w i.toNat p ∧ t_fit pl kd wt nx (fup (fun k => hs n (5 + k)) i.toNat p) (it r.toNat) (rs r.toNat).toNat (hs n)) (p + 1) = pick ((fun p => mly (hs n) w i.toNat p ∧ t_fit pl kd wt nx (fup (fun k => hs n (5 + k)) i.toNat p) (it r.toNat) (rs r.toNat).toNat (hs n)) p) (dz_or (t_ls (fun p => mly (hs n) w i.toNat p ∧ t_fit pl kd wt nx (fup (fun k => hs n (5 + k)) i.toNat p) (it r.toNat) (rs r.toNat).toNat (hs n)) p) (dz_shl 1 p)) (t_ls (fun p => mly (hs n) w i.toNat p ∧ t_fit pl kd wt nx (fup (fun k => hs n (5 + k)) i.toNat p) (it r.toNat) (rs r.toNat).toNat (hs n)) p) := rfl
        have nrs : dz_up N 55 i.toNat p 8 r.toNat = rs r.toNat := by rw [dz_up_ne (by omega), h1 _ _ (by omega), L1 _ _ (by omega) (by omega)]; exact e1
        have h1b : ∀ q2 k2, ¬ (q2 = 55 ∧ k2 = i.toNat) → dz_up N 55 i.toNat p q2 k2 = M2 q2 k2 := fun q2 k2 u => by
          by_cases e : q2 = 55
          · subst e
            rw [dz_up_k (by omega), h1 _ _ u]
          · rw [dz_up_ne e, h1 _ _ u]
        have fc : t_fit pl kd wt nx (dz_up N 55 i.toNat p 55) (dz_up N 55 i.toNat p (2 + r.toNat)) (rs r.toNat).toNat (hs n) ↔ t_fit pl kd wt nx (fup (fun k => hs n (5 + k)) i.toNat p) (it r.toNat) (rs r.toNat).toNat (hs n) := t_fit_c hp hst (by omega) (fun k hk => by
          rw [up_fup]
          unfold fup
          split
          · rfl
          · rw [h1 _ _ (by omega), L3 k hk]) (fun k hk => by
          rw [dz_up_ne (by omega), h1 _ _ (by omega), L1 _ _ (by omega) (by omega)]
          exact e2 k (by omega))
        refine xr_iload hc rfl rfl ?_
        refine xr_aloadn hc rfl rfl ?_
        refine xr_getfr hc rfl rfl (by first | assumption | rfl) (by first | assumption | rfl) ?_
        refine xr_getfr hc rfl rfl (by first | assumption | rfl) (by first | assumption | rfl) ?_
        refine xr_getfi hc rfl (Or.inl rfl) (by first | assumption | rfl) ?_
        rw [n23]
        refine xr_icmp_ge hc rfl (t := 129) rfl (fun b55 => ?_) (fun b55 => ?_)
        · omega
        · refine xr_aloadn hc rfl rfl ?_
          refine xr_getfr hc rfl rfl (by first | assumption | rfl) (by first | assumption | rfl) ?_
          refine xr_getfr hc rfl rfl (by first | assumption | rfl) (by first | assumption | rfl) ?_
          refine xr_iloadn hc rfl rfl ?_
          refine xr_iload hc rfl rfl ?_
          refine xr_callv2 hc rfl (by first | assumption | rfl) rfl rfl rfl (Nat.le_of_ble_eq_true rfl) (Nat.zero_le _) (Nat.zero_le _) ?_
          refine S_mly (s := hs n) n5 n230 hw6 n25 (by omega) (fun y1 => ?_) (fun y1 => ?_)
          · refine xk_1 ?_
            refine xr_iff hc rfl (by simp [dz_cmp]) ?_
            refine xr_aloadn hc rfl rfl ?_
            refine xr_getfr hc rfl rfl (by first | assumption | rfl) (by first | assumption | rfl) ?_
            refine xr_getfr hc rfl rfl (by first | assumption | rfl) (by first | assumption | rfl) ?_
            refine xr_iloadn hc rfl rfl ?_
            refine xr_iload hc rfl rfl ?_
            refine xr_iastore hc rfl (by first | assumption | rfl) (by first | omega | (unfold dz_w; omega)) (by first | omega | (unfold dz_w; omega)) ?_
            refine xr_aloadn hc rfl rfl ?_
            refine xr_getfr hc rfl rfl (by first | assumption | rfl) (by first | assumption | rfl) ?_
            refine xr_aloadn hc rfl rfl ?_
            refine xr_getfr hc rfl rfl (by first | assumption | rfl) (by first | assumption | rfl) ?_
            refine xr_getfr hc rfl rfl (by first | assumption | rfl) (by first | assumption | rfl) ?_
            refine xr_aloadn hc rfl rfl ?_
            refine xr_getfr hc rfl rfl (by first | assumption | rfl) (by first | assumption | rfl) ?_
            refine xr_iloadn hc rfl rfl ?_
            refine xr_aaload hc rfl (by first | assumption | rfl) (by decide) (by first | omega | (unfold dz_w; omega)) (by first | omega | (unfold dz_w; omega)) (by first | assumption | rfl) ?_
            refine xr_aloadn hc rfl rfl ?_
            refine xr_getfr hc rfl rfl (by first | assumption | rfl) (by first | assumption | rfl) ?_
            refine xr_iloadn hc rfl rfl ?_
            first | refine xr_iaload hc rfl (by first | assumption | rfl) (by first | omega | (unfold dz_w; omega)) (by first | omega | (unfold dz_w; omega)) ?_ | refine xr_ialoado hc rfl (by first | omega | (unfold dz_w; omega)) (by first | omega | (unfold dz_w; omega)) ?_
            rw [nrs]
            refine xr_callv3 hc rfl (by first | assumption | rfl) rfl rfl rfl (Nat.le_of_ble_eq_true rfl) (Nat.zero_le _) (Nat.zero_le _) ?_
            refine S_fits (N := (rs r.toNat).toNat) (w := w) hp hst (by omega) c26 (TR_fr L2 (fun q k v1 v2 => h1b _ _ (by omega))) f4 (by omega) k2 (fun k hk => ?_) c4r (by omega) (fun y2 => ?_) (fun y2 => ?_)
            · rw [up_fup]
              unfold fup
              split
              · omega
              · rw [h1 _ _ (by omega), L3 k hk]
                have z2 := st8 k hk
                omega
            all_goals rw [fc] at y2
            · refine xk_1 ?_
              refine xr_iff hc rfl (by simp [dz_cmp]) ?_
              refine xr_iload hc rfl rfl ?_
              refine xr_iconst hc rfl ?_
              refine xr_iload hc rfl rfl ?_
              refine xr_ishl hc rfl ?_
              refine xr_ior hc rfl ?_
              refine xr_istore4 hc rfl rfl ?_
              refine xr_iincz5 hc rfl rfl (by first | exact dz_wid (by first | omega | (unfold dz_w; omega)) (by first | omega | (unfold dz_w; omega)) | rfl) ?_
              refine xr_goto hc rfl (t := 43) rfl ?_
              first
                | (rw [pick_t (show (fun p => mly (hs n) w i.toNat p ∧ t_fit pl kd wt nx (fup (fun k => hs n (5 + k)) i.toNat p) (it r.toNat) (rs r.toNat).toNat (hs n)) p from ⟨y1, y2⟩)] at et
                   have l0 := ih (p + 1) _ (by omega) h1b
                   rw [et] at l0
                   exact l0)
                | (rw [pick_f (fun z : (fun p => mly (hs n) w i.toNat p ∧ t_fit pl kd wt nx (fup (fun k => hs n (5 + k)) i.toNat p) (it r.toNat) (rs r.toNat).toNat (hs n)) p => y2 z.2)] at et
                   have l0 := ih (p + 1) _ (by omega) h1b
                   rw [et] at l0
                   exact l0)
                | (rw [pick_f (fun z : (fun p => mly (hs n) w i.toNat p ∧ t_fit pl kd wt nx (fup (fun k => hs n (5 + k)) i.toNat p) (it r.toNat) (rs r.toNat).toNat (hs n)) p => y1 z.1)] at et
                   have l0 := ih (p + 1) _ (by omega) h1
                   rw [et] at l0
                   exact l0)
            · refine xk_1 ?_
              refine xr_ift hc rfl (t := 123) rfl (by simp [dz_cmp]) ?_
              refine xr_iincz5 hc rfl rfl (by first | exact dz_wid (by first | omega | (unfold dz_w; omega)) (by first | omega | (unfold dz_w; omega)) | rfl) ?_
              refine xr_goto hc rfl (t := 43) rfl ?_
              first
                | (rw [pick_t (show (fun p => mly (hs n) w i.toNat p ∧ t_fit pl kd wt nx (fup (fun k => hs n (5 + k)) i.toNat p) (it r.toNat) (rs r.toNat).toNat (hs n)) p from ⟨y1, y2⟩)] at et
                   have l0 := ih (p + 1) _ (by omega) h1b
                   rw [et] at l0
                   exact l0)
                | (rw [pick_f (fun z : (fun p => mly (hs n) w i.toNat p ∧ t_fit pl kd wt nx (fup (fun k => hs n (5 + k)) i.toNat p) (it r.toNat) (rs r.toNat).toNat (hs n)) p => y2 z.2)] at et
                   have l0 := ih (p + 1) _ (by omega) h1b
                   rw [et] at l0
                   exact l0)
                | (rw [pick_f (fun z : (fun p => mly (hs n) w i.toNat p ∧ t_fit pl kd wt nx (fup (fun k => hs n (5 + k)) i.toNat p) (it r.toNat) (rs r.toNat).toNat (hs n)) p => y1 z.1)] at et
                   have l0 := ih (p + 1) _ (by omega) h1
                   rw [et] at l0
                   exact l0)
          · refine xk_1 ?_
            refine xr_ift hc rfl (t := 123) rfl (by simp [dz_cmp]) ?_
            refine xr_iincz5 hc rfl rfl (by first | exact dz_wid (by first | omega | (unfold dz_w; omega)) (by first | omega | (unfold dz_w; omega)) | rfl) ?_
            refine xr_goto hc rfl (t := 43) rfl ?_
            first
              | (rw [pick_t (show (fun p => mly (hs n) w i.toNat p ∧ t_fit pl kd wt nx (fup (fun k => hs n (5 + k)) i.toNat p) (it r.toNat) (rs r.toNat).toNat (hs n)) p from ⟨y1, y2⟩)] at et
                 have l0 := ih (p + 1) _ (by omega) h1b
                 rw [et] at l0
                 exact l0)
              | (rw [pick_f (fun z : (fun p => mly (hs n) w i.toNat p ∧ t_fit pl kd wt nx (fup (fun k => hs n (5 + k)) i.toNat p) (it r.toNat) (rs r.toNat).toNat (hs n)) p => y2 z.2)] at et
                 have l0 := ih (p + 1) _ (by omega) h1b
                 rw [et] at l0
                 exact l0)
              | (rw [pick_f (fun z : (fun p => mly (hs n) w i.toNat p ∧ t_fit pl kd wt nx (fup (fun k => hs n (5 + k)) i.toNat p) (it r.toNat) (rs r.toNat).toNat (hs n)) p => y1 z.1)] at et
                 have l0 := ih (p + 1) _ (by omega) h1
                 rw [et] at l0
                 exact l0)
    refine xk_0 ?_
    refine xr_iconst hc rfl ?_
    refine xr_istore4 hc rfl rfl ?_
    refine xr_iconst hc rfl ?_
    refine xr_istore5 hc rfl rfl ?_
    exact lp pl.toNat 0 M2 (by omega) (fun _ _ _ => rfl)
set_option maxRecDepth 100000 in
theorem X_kinds {xo : Nat → List Int} {d : Nat} {Q : dz_Q} {sh : List (Nat ⊕ (Nat × Nat))} {rf : Nat → Nat → Nat} {M : Nat → Nat → Int} {rs : Nat → Int} {it : Nat → Nat → Int} {ts : Nat → Int} {ch : Nat → Nat → Int} {tl up lo : Int} {fn : Nat → Int} {w pl : Int} {kd wt nx : Nat → Int} {n : Nat} {hs : Nat → Nat → Int} {kp : Nat → Int} {kh : Nat → Nat → Nat → Int} {i r : Int} (hx : xo 2 = dz_xs2) (hl : cl sh rf) (hR : RX M rs it ts ch tl up lo fn w pl kd wt nx n hs kp kh) (hW : WF rs it ts ch tl up lo fn w pl kd wt nx n hs kp kh) (hQ : ∀ M2 : Nat → Nat → Int, (∀ q2 k2, 115 ≤ q2 → M2 q2 k2 = M q2 k2) → RX M2 rs it ts ch tl up lo (o_kinds rs it fn w pl kd wt nx (hs n) i r).2 w pl kd wt nx n hs kp kh → Q (some (dz_i ((o_kinds rs it fn w pl kd wt nx (hs n) i r).1))) (sh, rf, M2)) : dz_E dz_pp xo (d + 5) 82 [dz_r 0, dz_i i, dz_i r] (sh, rf, M) Q := by
  refine ⟨Nat.le_of_ble_eq_true rfl, ?_⟩
  have hc := dz_E_m dz_pp xo (d + 4)
  show dz_X (dz_E dz_pp xo (d + 4)) dz_pp xo (dz_pp 82) Q 0 [some (dz_r 0), some (dz_i i), some (dz_i r), none, none, none] [] 0 0 (sh, rf, M)
  obtain ⟨c0, c1, c2, c3, c4, c5, c6, c7, c8, c9, c10, c11, c12, c13, c14, c15, c16, c17, c18, c19, c20, c21, c22, c23, c24, c25, c26, c27, c28, c29, c30, c31, c32, c33, c34, c35, c36⟩ := id hl
  obtain ⟨hrow, htxt, htl, hup, hlo, hfn, hdr, hkp, hrb⟩ := id hR
  obtain ⟨wrow, wtxt, wdr, wst, wkp⟩ := id hW
  have n0 : sh[23]? = some (.inl 1) := c14.2.2.2.2.1.1
  have n1 : rf 23 7 = 25 + 1 := c14.2.2.2.2.1.2.2.2.1
  have n2 : sh[25]? = some (.inr (0, 6)) := c14.2.2.2.2.1.2.2.2.2.1
  have n3 : rf 15 1 = 23 + 1 := c14.2.2.2.1
  have n4 : sh[15]? = some (.inl 0) := c14.1
  have n5 : ma_at sh rf 23 := c14.2.2.2.2.1
  have q0 : sh[34]? = some (.inl 1) := c20.1
  have q1 : rf 34 8 = 37 + 1 := c20.2.2.2.2.2.1
  have q2 : sh[37]? = some (.inr (0, 6)) := c20.2.2.2.2.2.2.1
  have q3 : sh[50]? = some (.inl 4) := c26.1
  have q5 : rf 34 6 = 35 + 1 := c20.2.1
  have q6 : sh[35]? = some (.inr (0, 6)) := c20.2.2.1
  have k0 : sh[54]? = some (.inl 2) := c28.1
  have k1 : rf 54 1 = 55 + 1 := c28.2.1
  have k2 : sh[55]? = some (.inr (0, 6)) := c28.2.2.1
  have hw6 := WF_w hW
  have hM0 : M 23 0 = w := hdr.2.1.1
  have hM1 : M 23 1 = pl := hdr.2.1.2.1
  have hsp0 : ∀ i : Nat, (i : Int) < w → M 25 i = hs n (5 + i) := fun i hi => (hdr.2.1.2.2.2.2.2.2 i hi).2.1
  refine xr_aloadn hc rfl rfl ?_
  refine xr_iloadn hc rfl rfl ?_
  refine xr_iloadn hc rfl rfl ?_
  refine xr_callv2 hc rfl (by first | assumption | rfl) rfl rfl rfl (Nat.le_of_ble_eq_true rfl) (Nat.zero_le _) (Nat.zero_le _) ?_
  refine S_refusedTimes hl hR hW (fun rt => ?_) (fun f hf1 rt M2 z1 z2 => ?_) (fun rt => ?_)
  · refine xk_1 ?_
    refine xr_istore3 hc rfl rfl ?_
    refine xr_iloadn hc rfl rfl ?_
    refine xr_iff hc rfl (by simp [dz_cmp]) ?_
    refine xr_iloadn hc rfl rfl ?_
    refine xr_ireturn hc rfl rfl (Nat.zero_le _) (Nat.zero_le _) ?_
    simp only [o_kinds] at hQ
    first
      | (rw [if_pos rt] at hQ
         exact hQ M (fun _ _ _ => rfl) hR)
      | (rw [if_neg (by omega), if_pos (by omega), show (rtc rs it w i r).toNat = f by omega] at hQ
         exact hQ M2 z1 z2)
  · refine xk_1 ?_
    refine xr_istore3 hc rfl rfl ?_
    refine xr_iloadn hc rfl rfl ?_
    refine xr_iff hc rfl (by simp [dz_cmp]) ?_
    refine xr_iloadn hc rfl rfl ?_
    refine xr_ireturn hc rfl rfl (Nat.zero_le _) (Nat.zero_le _) ?_
    simp only [o_kinds] at hQ
    first
      | (rw [if_pos rt] at hQ
         exact hQ M (fun _ _ _ => rfl) hR)
      | (rw [if_neg (by omega), if_pos (by omega), show (rtc rs it w i r).toNat = f by omega] at hQ
         exact hQ M2 z1 z2)
  · refine xk_1 ?_
    refine xr_istore3 hc rfl rfl ?_
    refine xr_iloadn hc rfl rfl ?_
    refine xr_ift hc rfl (t := 13) rfl (by simp [dz_cmp]) ?_
    have rt2 := rt
    unfold rtc at rt2
    have rin : ¬ (i < 0 ∨ w ≤ i ∨ r < 0 ∨ 5 < r) := fun z => by rw [if_pos z] at rt2; omega
    rw [if_neg rin] at rt2
    have rn1 : ¬ rs r.toNat = -1 := fun z => by rw [if_pos z] at rt2; omega
    rw [if_neg rn1] at rt2
    have rn2 : ¬ (rs r.toNat < 1 ∨ 6 < rs r.toNat) := fun z => by rw [if_pos z] at rt2; omega
    obtain ⟨e1, e2⟩ := hrow r.toNat (by omega)
    have c3r := c3 r.toNat (by omega)
    have c4r := c4 r.toNat (by omega)
    have hw0 : w ≠ 0 := by omega
    have hp := WF_p hW hw0
    have hst := wst.2 n (Nat.le_refl n)
    obtain ⟨p1, p2, p3, p4, p5⟩ := id hp
    obtain ⟨st0, st1, st2, st3, st4, st5, st6, st7, st8⟩ := id hst
    have lp : ∀ (m_ : Nat) (k : Nat) (N : Nat → Nat → Int), k + m_ = 6 → (∀ q2 k2, ¬ (34 ≤ q2 ∧ q2 ≤ 40) → ¬ (50 ≤ q2 ∧ q2 ≤ 53) → N q2 k2 = M q2 k2) → N 53 0 = 0 → dz_X (dz_E dz_pp xo (d + 4)) dz_pp xo (dz_pp 82) Q 19 [some (dz_r 0), some (dz_i i), some (dz_i r), some (dz_i 0), some (dz_i (t_ls (fun k => t_fit pl (fup kd i.toNat k) wt nx (fun k => hs n (5 + k)) (it r.toNat) (rs r.toNat).toNat (hs n)) k)), some (dz_i (k : Int))] [] 0 0 (sh, rf, N) := by
      intro m_
      induction m_ with
      | zero =>
        intro k N hk h1 h0
        have ek : k = 6 := by omega
        subst ek
        refine xr_iload hc rfl rfl ?_
        refine xr_bipush hc rfl ?_
        refine xr_icmp_ge hc rfl (t := 115) rfl (fun b23 => ?_) (fun b23 => ?_)
        · refine xr_iload hc rfl rfl ?_
          refine xr_ireturn hc rfl rfl (Nat.zero_le _) (Nat.zero_le _) ?_
          simp only [o_kinds] at hQ
          rw [if_neg (by omega), if_neg (by omega)] at hQ
          exact hQ N (fun q2 k2 u => h1 _ _ (by omega) (by omega)) (RX_scr hR ⟨fun q2 k2 u => h1 _ _ (by omega) (by omega), fun q2 k2 u => by
            rcases u with ⟨a, b⟩ | u
            · rw [a, b, h0, hrb.1]
            · exact h1 _ _ (by omega) (by omega)⟩)
        · omega
      | succ m_ ih =>
        intro k N hk h1 h0
        have hpk := pg_fup (i := i.toNat) (k := k) hp (by omega)
        have et : t_ls (fun k => t_fit pl (fup kd i.toNat k) wt nx (fun k => hs n (5 + k)) (it r.toNat) (rs r.toNat).toNat (hs n)) (k + 1) = pick ((fun k => t_fit pl (fup kd i.toNat k) wt nx (fun k => hs n (5 + k)) (it r.toNat) (rs r.toNat).toNat (hs n)) k) (dz_or (t_ls (fun k => t_fit pl (fup kd i.toNat k) wt nx (fun k => hs n (5 + k)) (it r.toNat) (rs r.toNat).toNat (hs n)) k) (dz_shl 1 k)) (t_ls (fun k => t_fit pl (fup kd i.toNat k) wt nx (fun k => hs n (5 + k)) (it r.toNat) (rs r.toNat).toNat (hs n)) k) := rfl
        have hnow : mrel N 23 w pl kd wt nx (hs n) := mrel_fr hdr.2.1 (fun q2 k2 u1 u2 => h1 _ _ (by omega) (by omega))
        refine xr_iload hc rfl rfl ?_
        refine xr_bipush hc rfl ?_
        refine xr_icmp_ge hc rfl (t := 115) rfl (fun b23 => ?_) (fun b23 => ?_)
        · omega
        · refine xr_aloadn hc rfl rfl ?_
          refine xr_getfr hc rfl rfl (by first | assumption | rfl) (by first | assumption | rfl) ?_
          refine xr_aloadn hc rfl rfl ?_
          refine xr_getfr hc rfl rfl (by first | assumption | rfl) (by first | assumption | rfl) ?_
          refine xr_getfr hc rfl rfl (by first | assumption | rfl) (by first | assumption | rfl) ?_
          refine xr_callv1 hc rfl (by first | assumption | rfl) rfl rfl rfl (Nat.le_of_ble_eq_true rfl) (Nat.zero_le _) (Nat.zero_le _) ?_
          refine S_mbecome c20 n5 (by omega) (fun N1 a1 a2 a3 => ?_)
          have hm1 := mrel_same hw6.2 hnow a2 a3
          refine xk_0 ?_
          refine xr_aloadn hc rfl rfl ?_
          refine xr_getfr hc rfl rfl (by first | assumption | rfl) (by first | assumption | rfl) ?_
          refine xr_getfr hc rfl rfl (by first | assumption | rfl) (by first | assumption | rfl) ?_
          refine xr_iloadn hc rfl rfl ?_
          refine xr_iload hc rfl rfl ?_
          refine xr_iastore hc rfl (by first | assumption | rfl) (by first | omega | (unfold dz_w; omega)) (by first | omega | (unfold dz_w; omega)) ?_
          have n8 : dz_up N1 35 i.toNat k 8 r.toNat = rs r.toNat := by rw [dz_up_ne (by omega), a1 _ _ (by omega), h1 _ _ (by omega) (by omega)]; exact e1
          refine xr_aloadn hc rfl rfl ?_
          refine xr_getfr hc rfl rfl (by first | assumption | rfl) (by first | assumption | rfl) ?_
          refine xr_aloadn hc rfl rfl ?_
          refine xr_getfr hc rfl rfl (by first | assumption | rfl) (by first | assumption | rfl) ?_
          refine xr_aloadn hc rfl rfl ?_
          refine xr_getfr hc rfl rfl (by first | assumption | rfl) (by first | assumption | rfl) ?_
          refine xr_iloadn hc rfl rfl ?_
          first | refine xr_iaload hc rfl (by first | assumption | rfl) (by first | omega | (unfold dz_w; omega)) (by first | omega | (unfold dz_w; omega)) ?_ | refine xr_ialoado hc rfl (by first | omega | (unfold dz_w; omega)) (by first | omega | (unfold dz_w; omega)) ?_
          rw [n8]
          refine xr_callv2 hc rfl (by first | assumption | rfl) rfl rfl rfl (Nat.le_of_ble_eq_true rfl) (Nat.zero_le _) (Nat.zero_le _) ?_
          refine S_follow (w := w) (pl := pl) (B := 29 * n) (kd := (fup kd i.toNat k)) (wt := wt) (nx := nx) (s := hs n) hx c26 c20 hpk hst (by omega) ?_ (by rw [dz_up_ne (by omega), a1 _ _ (by omega)]; exact h0) (by omega) (fun N2 KK b1 b2 b3 b4 b5 => ?_)
          · obtain ⟨r0, r1, r2, r3, r4, r5, r6⟩ := hm1
            refine ⟨by rw [dz_up_ne (by omega)]; exact r0, by rw [dz_up_ne (by omega)]; exact r1, by rw [dz_up_ne (by omega)]; exact r2, by rw [dz_up_ne (by omega)]; exact r3, by rw [dz_up_ne (by omega)]; exact r4, by rw [dz_up_ne (by omega)]; exact r5, fun x hx => ?_⟩
            have z := r6 x hx
            refine ⟨?_, by rw [dz_up_ne (by omega)]; exact z.2.1, by rw [dz_up_ne (by omega)]; exact z.2.2.1, by rw [dz_up_ne (by omega)]; exact z.2.2.2.1, by rw [dz_up_ne (by omega)]; exact z.2.2.2.2.1, by rw [dz_up_ne (by omega)]; exact z.2.2.2.2.2⟩
            show dz_up N1 35 i.toNat k 35 x = _
            rw [up_fup]
            unfold fup
            split
            · rfl
            · exact z.1
          have hb : ∀ q2 k2, ¬ (34 ≤ q2 ∧ q2 ≤ 40) → ¬ (50 ≤ q2 ∧ q2 ≤ 53) → N2 q2 k2 = M q2 k2 := fun q2 k2 v1 v2 => by rw [b1 _ _ v1 v2, dz_up_ne (by omega), a1 _ _ (by omega), h1 _ _ v1 v2]
          have hb0 : N2 53 0 = 0 := b2.2.2.2.2.1 0 (by omega)
          have fc : t_fit pl (fup kd i.toNat k) wt nx (N2 25) (N2 (2 + r.toNat)) (rs r.toNat).toNat (hs n) ↔ t_fit pl (fup kd i.toNat k) wt nx (fun k => hs n (5 + k)) (it r.toNat) (rs r.toNat).toNat (hs n) := t_fit_c hpk hst (by omega) (fun x hx => by rw [hb _ _ (by omega) (by omega)]; exact hsp0 x hx) (fun x hx => by rw [hb _ _ (by omega) (by omega)]; exact e2 x (by omega))
          refine xk_0 ?_
          refine xr_aloadn hc rfl rfl ?_
          refine xr_getfr hc rfl rfl (by first | assumption | rfl) (by first | assumption | rfl) ?_
          refine xr_aloadn hc rfl rfl ?_
          refine xr_getfr hc rfl rfl (by first | assumption | rfl) (by first | assumption | rfl) ?_
          refine xr_getfr hc rfl rfl (by first | assumption | rfl) (by first | assumption | rfl) ?_
          refine xr_getfr hc rfl rfl (by first | assumption | rfl) (by first | assumption | rfl) ?_
          refine xr_aloadn hc rfl rfl ?_
          refine xr_getfr hc rfl rfl (by first | assumption | rfl) (by first | assumption | rfl) ?_
          refine xr_iloadn hc rfl rfl ?_
          refine xr_aaload hc rfl (by first | assumption | rfl) (by decide) (by first | omega | (unfold dz_w; omega)) (by first | omega | (unfold dz_w; omega)) (by first | assumption | rfl) ?_
          refine xr_aloadn hc rfl rfl ?_
          refine xr_getfr hc rfl rfl (by first | assumption | rfl) (by first | assumption | rfl) ?_
          refine xr_iloadn hc rfl rfl ?_
          first | refine xr_iaload hc rfl (by first | assumption | rfl) (by first | omega | (unfold dz_w; omega)) (by first | omega | (unfold dz_w; omega)) ?_ | refine xr_ialoado hc rfl (by first | omega | (unfold dz_w; omega)) (by first | omega | (unfold dz_w; omega)) ?_
          rw [b1 _ _ (by omega) (by omega), n8]
          refine xr_callv3 hc rfl (by first | assumption | rfl) rfl rfl rfl (Nat.le_of_ble_eq_true rfl) (Nat.zero_le _) (Nat.zero_le _) ?_
          refine S_fits (N := (rs r.toNat).toNat) (w := w) hpk hst (by omega) c26 b2 b3 (by omega) n2 (fun x hx => ?_) c4r (by omega) (fun y2 => ?_) (fun y2 => ?_)
          · rw [hb _ _ (by omega) (by omega), hsp0 x hx]
            have z2 := st8 x hx
            omega
          all_goals rw [fc] at y2
          · refine xk_1 ?_
            refine xr_iff hc rfl (by simp [dz_cmp]) ?_
            refine xr_iload hc rfl rfl ?_
            refine xr_iconst hc rfl ?_
            refine xr_iload hc rfl rfl ?_
            refine xr_ishl hc rfl ?_
            refine xr_ior hc rfl ?_
            refine xr_istore4 hc rfl rfl ?_
            refine xr_iincz5 hc rfl rfl (by first | exact dz_wid (by first | omega | (unfold dz_w; omega)) (by first | omega | (unfold dz_w; omega)) | rfl) ?_
            refine xr_goto hc rfl (t := 19) rfl ?_
            first
              | (rw [pick_t (show (fun k => t_fit pl (fup kd i.toNat k) wt nx (fun k => hs n (5 + k)) (it r.toNat) (rs r.toNat).toNat (hs n)) k from y2)] at et
                 have l0 := ih (k + 1) N2 (by omega) hb hb0
                 rw [et] at l0
                 exact l0)
              | (rw [pick_f (fun z : (fun k => t_fit pl (fup kd i.toNat k) wt nx (fun k => hs n (5 + k)) (it r.toNat) (rs r.toNat).toNat (hs n)) k => y2 z)] at et
                 have l0 := ih (k + 1) N2 (by omega) hb hb0
                 rw [et] at l0
                 exact l0)
          · refine xk_1 ?_
            refine xr_ift hc rfl (t := 109) rfl (by simp [dz_cmp]) ?_
            refine xr_iincz5 hc rfl rfl (by first | exact dz_wid (by first | omega | (unfold dz_w; omega)) (by first | omega | (unfold dz_w; omega)) | rfl) ?_
            refine xr_goto hc rfl (t := 19) rfl ?_
            first
              | (rw [pick_t (show (fun k => t_fit pl (fup kd i.toNat k) wt nx (fun k => hs n (5 + k)) (it r.toNat) (rs r.toNat).toNat (hs n)) k from y2)] at et
                 have l0 := ih (k + 1) N2 (by omega) hb hb0
                 rw [et] at l0
                 exact l0)
              | (rw [pick_f (fun z : (fun k => t_fit pl (fup kd i.toNat k) wt nx (fun k => hs n (5 + k)) (it r.toNat) (rs r.toNat).toNat (hs n)) k => y2 z)] at et
                 have l0 := ih (k + 1) N2 (by omega) hb hb0
                 rw [et] at l0
                 exact l0)
    refine xr_iconst hc rfl ?_
    refine xr_istore4 hc rfl rfl ?_
    refine xr_iconst hc rfl ?_
    refine xr_istore5 hc rfl rfl ?_
    exact lp 6 0 M (by omega) (fun _ _ _ _ => rfl) hrb.1
