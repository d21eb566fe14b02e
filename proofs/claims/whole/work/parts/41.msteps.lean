/-! The other one: steps. Written by l2_41.py. -/
/-- the other one holds a program -/
def pgM (M : Nat → Nat → Int) (w pl : Int) (kd wt nx : Nat → Int) : Prop := M 115 2 = w ∧ M 115 1 = pl ∧ ∀ i : Nat, (i : Int) < w → M 117 i = kd i ∧ M 118 i = wt i ∧ M 119 i = nx i
theorem tm_wa {x y : Int} (hy : 6 ≤ y ∧ y ≤ 9) : (Int.tmod x y < 0 → Int.tmod x y + y = x % y) ∧ (0 ≤ Int.tmod x y → Int.tmod x y = x % y) ∧ -9 < Int.tmod x y := by
  rcases Int.lt_or_le x 0 with h | h
  · rw [tm_neg h (by omega)]
    rcases (show y = 6 ∨ y = 7 ∨ y = 8 ∨ y = 9 by omega) with rfl | rfl | rfl | rfl <;> omega
  · rw [Int.tmod_eq_emod_of_nonneg h]
    rcases (show y = 6 ∨ y = 7 ∨ y = 8 ∨ y = 9 by omega) with rfl | rfl | rfl | rfl <;> omega
/-- what the other one may change without changing what it holds -/
def scr (M M2 : Nat → Nat → Int) : Prop := ∀ q2 k2, ¬ (q2 = 115 ∧ 15 ≤ k2 ∧ k2 ≤ 23) → ¬ (q2 = 116 ∧ 3612 ≤ k2) → ¬ (125 ≤ q2 ∧ q2 ≤ 129) → M2 q2 k2 = M q2 k2
theorem scr_refl (M : Nat → Nat → Int) : scr M M := fun _ _ _ _ _ => rfl
theorem scr_trans {M M2 M3 : Nat → Nat → Int} (h : scr M M2) (h2 : scr M2 M3) : scr M M3 := fun q k a b c => (h2 q k a b c).trans (h q k a b c)
theorem RM_scr {M M2 : Nat → Nat → Int} {rs : Nat → Int} {it : Nat → Nat → Int} {ts : Nat → Int} {ch : Nat → Nat → Int} {tl up lo : Int} {fn : Nat → Int} {w pl : Int} {kd wt nx : Nat → Int} {n : Nat} {hs : Nat → Nat → Int} {kp : Nat → Int} {kh : Nat → Nat → Nat → Int} (hR : RM M rs it ts ch tl up lo fn w pl kd wt nx n hs kp kh) (hW : WF rs it ts ch tl up lo fn w pl kd wt nx n hs kp kh) (h : scr M M2) : RM M2 rs it ts ch tl up lo fn w pl kd wt nx n hs kp kh := by
  obtain ⟨hrow, htxt, htl, hup, hlo, hfn, hdr, hkp⟩ := id hR
  obtain ⟨wrow, wtxt, wdr, wst, wkp⟩ := id hW
  have hw6 := WF_w hW
  have hdr3 : drM M w pl kd wt nx n hs ∧ w ≤ 6 ∧ n ≤ 40 := ⟨hdr, hw6.2, wst.1⟩
  have hkp3 : kepM M w kp kh ∧ w ≤ 6 ∧ ∀ k, k < 3 → kp k ≤ 40 := ⟨hkp, hw6.2, fun k hk => by
    rcases wkp k hk with z | z
    · omega
    · exact z.2.1⟩
  exact ⟨rowM_fr hrow (fun k2 => h _ _ (by omega) (by omega) (by omega)) (fun k2 => h _ _ (by omega) (by omega) (by omega)), txtM_fr htxt (fun k2 => h _ _ (by omega) (by omega) (by omega)) (fun k2 => h _ _ (by omega) (by omega) (by omega)), Eq.trans (h _ _ (by omega) (by omega) (by omega)) htl, Eq.trans (h _ _ (by omega) (by omega) (by omega)) hup, Eq.trans (h _ _ (by omega) (by omega) (by omega)) hlo, fndM_fr hfn (h _ _ (by omega) (by omega) (by omega)) (fun k2 => h _ _ (by omega) (by omega) (by omega)), drM_fr hdr3 (h _ _ (by omega) (by omega) (by omega)) (h _ _ (by omega) (by omega) (by omega)) (fun k2 => h _ _ (by omega) (by omega) (by omega)) (fun k2 => h _ _ (by omega) (by omega) (by omega)) (fun k2 => h _ _ (by omega) (by omega) (by omega)) (fun k2 u1 => h _ _ (by omega) (by omega) (by omega)), kepM_fr hkp3 (fun k2 u1 u2 => h _ _ (by omega) (by omega) (by omega))⟩
def scX (M M2 : Nat → Nat → Int) : Prop := (∀ q2 k2, q2 < 34 ∨ 59 < q2 → M2 q2 k2 = M q2 k2) ∧ ∀ q2 k2, ((q2 = 53 ∧ k2 = 0) ∨ (q2 = 42 ∧ (k2 = 2 ∨ k2 = 3 ∨ k2 = 5)) ∨ q2 = 48) → M2 q2 k2 = M q2 k2
theorem scX_refl (M : Nat → Nat → Int) : scX M M := ⟨fun _ _ _ => rfl, fun _ _ _ => rfl⟩
theorem scX_trans {M M2 M3 : Nat → Nat → Int} (h : scX M M2) (h2 : scX M2 M3) : scX M M3 := ⟨fun q k u => (h2.1 q k u).trans (h.1 q k u), fun q k u => (h2.2 q k u).trans (h.2 q k u)⟩
theorem RX_scr {M M2 : Nat → Nat → Int} {rs : Nat → Int} {it : Nat → Nat → Int} {ts : Nat → Int} {ch : Nat → Nat → Int} {tl up lo : Int} {fn : Nat → Int} {w pl : Int} {kd wt nx : Nat → Int} {n : Nat} {hs : Nat → Nat → Int} {kp : Nat → Int} {kh : Nat → Nat → Nat → Int} (hR : RX M rs it ts ch tl up lo fn w pl kd wt nx n hs kp kh) (h : scX M M2) : RX M2 rs it ts ch tl up lo fn w pl kd wt nx n hs kp kh := by
  obtain ⟨hrow, htxt, htl, hup, hlo, hfn, hdr, hkp, hrb⟩ := id hR
  exact ⟨rowX_fr hrow (fun q2 k2 u1 u2 => h.1 _ _ (by omega)), txtX_fr htxt (fun q2 k2 u1 u2 => h.1 _ _ (by omega)), Eq.trans (h.1 _ _ (by omega)) htl, Eq.trans (h.1 _ _ (by omega)) hup, Eq.trans (h.1 _ _ (by omega)) hlo, fndX_fr hfn (h.1 _ _ (by omega)) (fun k2 => h.1 _ _ (by omega)), drX_fr hdr (fun q2 k2 u1 u2 => h.1 _ _ (by omega)), kepX_fr hkp (fun q2 k2 u1 u2 => h.1 _ _ (by omega)), rbX_fr hrb h.2⟩
set_option maxRecDepth 100000 in
theorem D_isWord {xo : Nat → List Int} {d : Nat} {Q : dz_Q} {sh : List (Nat ⊕ (Nat × Nat))} {rf : Nat → Nat → Nat} {M : Nat → Nat → Int} {i w : Int} (hl : ml sh rf) (hw : M 115 2 = w) (hw6 : 0 ≤ w ∧ w ≤ 6) (h1 : 0 ≤ i → i < w → Q (some (dz_i 1)) (sh, rf, M)) (h2 : (i < 0 ∨ w ≤ i) → Q (some (dz_i 0)) (sh, rf, M)) : dz_E dz_pp xo (d + 2) 147 [dz_r 115, dz_i i] (sh, rf, M) Q := by
  refine ⟨Nat.le_of_ble_eq_true rfl, ?_⟩
  have hc := dz_E_m dz_pp xo (d + 1)
  show dz_X (dz_E dz_pp xo (d + 1)) dz_pp xo (dz_pp 147) Q 0 [some (dz_r 115), some (dz_i i)] [] 0 0 (sh, rf, M)
  obtain ⟨c0, c1, c2, c3, c4, c5, c6, c7, c8, c9, c10, c11, c12, c13, c14, c15, c16, c17, c18, c19, c20, c21, c22, c23, c24, c25, c26, c27, c28, c29⟩ := id hl
  refine xr_iloadn hc rfl rfl ?_
  refine xr_i2l hc rfl ?_
  refine xr_lconst hc rfl ?_
  refine xr_aloadn hc rfl rfl ?_
  refine xr_getfi hc rfl (Or.inl rfl) (by first | assumption | rfl) ?_
  refine xr_iconst hc rfl ?_
  refine xr_isubz hc rfl (by first | exact dz_wid (by first | omega | (unfold dz_w; omega)) (by first | omega | (unfold dz_w; omega)) | rfl) ?_
  refine xr_i2l hc rfl ?_
  refine xr_calls3 hc rfl (by decide) rfl rfl rfl (Nat.le_of_ble_eq_true rfl) (Nat.zero_le _) (Nat.zero_le _) ?_
  refine S_in (fun u1 v1 => ?_) (fun u1 => ?_)
  · refine xk_1 ?_
    refine xr_zreturn hc rfl rfl (Nat.zero_le _) (Nat.zero_le _) (by first | exact Or.inl rfl | exact Or.inr rfl | assumption) ?_
    first
      | exact h1 (by omega) (by omega)
      | exact h2 (by omega)
  · refine xk_1 ?_
    refine xr_zreturn hc rfl rfl (Nat.zero_le _) (Nat.zero_le _) (by first | exact Or.inl rfl | exact Or.inr rfl | assumption) ?_
    first
      | exact h1 (by omega) (by omega)
      | exact h2 (by omega)
set_option maxRecDepth 100000 in
theorem D_waitsFor {xo : Nat → List Int} {d : Nat} {Q : dz_Q} {sh : List (Nat ⊕ (Nat × Nat))} {rf : Nat → Nat → Nat} {M : Nat → Nat → Int} {p b pl : Int} (hl : ml sh rf) (hpl : M 115 1 = pl) (h69 : 6 ≤ pl ∧ pl ≤ 9) (hp : -9 ≤ p ∧ p ≤ 999) (hb : 0 ≤ b ∧ b ≤ 999990) (hQ : Q (some (dz_i (wa p b pl))) (sh, rf, M)) : dz_E dz_pp xo (d + 1) 148 [dz_r 115, dz_i p, dz_i b] (sh, rf, M) Q := by
  refine ⟨Nat.le_of_ble_eq_true rfl, ?_⟩
  have hc := dz_E_m dz_pp xo (d + 0)
  show dz_X (dz_E dz_pp xo (d + 0)) dz_pp xo (dz_pp 148) Q 0 [some (dz_r 115), some (dz_i p), some (dz_i b), none] [] 0 0 (sh, rf, M)
  obtain ⟨c0, c1, c2, c3, c4, c5, c6, c7, c8, c9, c10, c11, c12, c13, c14, c15, c16, c17, c18, c19, c20, c21, c22, c23, c24, c25, c26, c27, c28, c29⟩ := id hl
  obtain ⟨t1, t2, t3⟩ := tm_wa (x := p - b) h69
  have t4 : (p - b) % pl = wa p b pl := rfl
  refine xr_iloadn hc rfl rfl ?_
  refine xr_iloadn hc rfl rfl ?_
  refine xr_isubz hc rfl (by first | exact dz_wid (by first | omega | (unfold dz_w; omega)) (by first | omega | (unfold dz_w; omega)) | rfl) ?_
  refine xr_aloadn hc rfl rfl ?_
  refine xr_getfi hc rfl (Or.inl rfl) (by first | assumption | rfl) ?_
  rw [hpl]
  refine xr_irem hc rfl (by first | omega | (unfold dz_w; omega)) ?_
  refine xr_istore3 hc rfl rfl ?_
  refine xr_iloadn hc rfl rfl ?_
  refine xr_if_ge hc rfl (t := 22) rfl (fun b10 => ?_) (fun b10 => ?_)
  · refine xr_iloadn hc rfl rfl ?_
    refine xr_ireturn hc rfl rfl (Nat.zero_le _) (Nat.zero_le _) ?_
    first
      | (rw [show Int.tmod (p - b) pl + pl = wa p b pl by omega]; exact hQ)
      | (rw [show Int.tmod (p - b) pl = wa p b pl by omega]; exact hQ)
  · refine xr_iloadn hc rfl rfl ?_
    refine xr_aloadn hc rfl rfl ?_
    refine xr_getfi hc rfl (Or.inl rfl) (by first | assumption | rfl) ?_
    rw [hpl]
    refine xr_iaddz hc rfl (by first | exact dz_wid (by first | omega | (unfold dz_w; omega)) (by first | omega | (unfold dz_w; omega)) | rfl) ?_
    refine xr_goto hc rfl (t := 23) rfl ?_
    refine xr_ireturn hc rfl rfl (Nat.zero_le _) (Nat.zero_le _) ?_
    first
      | (rw [show Int.tmod (p - b) pl + pl = wa p b pl by omega]; exact hQ)
      | (rw [show Int.tmod (p - b) pl = wa p b pl by omega]; exact hQ)
set_option maxRecDepth 100000 in
theorem D_isFree {xo : Nat → List Int} {d : Nat} {Q : dz_Q} {sh : List (Nat ⊕ (Nat × Nat))} {rf : Nat → Nat → Nat} {M : Nat → Nat → Int} {b : Nat} {p w : Int} (hl : ml sh rf) (hb : b ≤ 3612) (hw : M 115 2 = w) (hw6 : 0 ≤ w ∧ w ≤ 6) (h1 : free (fun k => M 116 (b + (5 + k))) w p → Q (some (dz_i 1)) (sh, rf, M)) (h2 : ¬ free (fun k => M 116 (b + (5 + k))) w p → Q (some (dz_i 0)) (sh, rf, M)) : dz_E dz_pp xo (d + 1) 150 [dz_r 115, dz_i (b : Int), dz_i p] (sh, rf, M) Q := by
  refine ⟨Nat.le_of_ble_eq_true rfl, ?_⟩
  have hc := dz_E_m dz_pp xo (d + 0)
  show dz_X (dz_E dz_pp xo (d + 0)) dz_pp xo (dz_pp 150) Q 0 [some (dz_r 115), some (dz_i (b : Int)), some (dz_i p), none, none] [] 0 0 (sh, rf, M)
  obtain ⟨c0, c1, c2, c3, c4, c5, c6, c7, c8, c9, c10, c11, c12, c13, c14, c15, c16, c17, c18, c19, c20, c21, c22, c23, c24, c25, c26, c27, c28, c29⟩ := id hl
  have lp : ∀ (m_ : Nat) (i : Nat) (v : Int), (i : Int) + m_ = w → ((v = 1 ∧ ∀ k : Nat, k < i → M 116 (b + (5 + k)) ≠ p) ∨ (v = 0 ∧ ∃ k : Nat, k < i ∧ M 116 (b + (5 + k)) = p)) → dz_X (dz_E dz_pp xo (d + 0)) dz_pp xo (dz_pp 150) Q 5 [some (dz_r 115), some (dz_i (b : Int)), some (dz_i p), some (dz_i v), some (dz_i (i : Int))] [] 0 0 (sh, rf, M) := by
    intro m_
    induction m_ with
    | zero =>
      intro i v hi hv
      refine xr_iload hc rfl rfl ?_
      refine xr_aloadn hc rfl rfl ?_
      refine xr_getfi hc rfl (Or.inl rfl) (by first | assumption | rfl) ?_
      rw [hw]
      refine xr_icmp_ge hc rfl (t := 45) rfl (fun b11 => ?_) (fun b11 => ?_)
      · refine xr_iloadn hc rfl rfl ?_
        refine xr_zreturn hc rfl rfl (Nat.zero_le _) (Nat.zero_le _) (by rcases hv with z | z <;> omega) ?_
        rcases hv with ⟨rfl, z⟩ | ⟨rfl, k, z, z2⟩
        · exact h1 (fun k hk => z k (by omega))
        · exact h2 (fun y => y k (by omega) z2)
      · omega
    | succ m_ ih =>
      intro i v hi hv
      have ix : ((b : Int) + 5 + (i : Int)).toNat = b + (5 + i) := by omega
      refine xr_iload hc rfl rfl ?_
      refine xr_aloadn hc rfl rfl ?_
      refine xr_getfi hc rfl (Or.inl rfl) (by first | assumption | rfl) ?_
      rw [hw]
      refine xr_icmp_ge hc rfl (t := 45) rfl (fun b11 => ?_) (fun b11 => ?_)
      · omega
      · refine xr_iloadn hc rfl rfl ?_
        refine xr_if_eq hc rfl (t := 37) rfl (fun b15 => ?_) (fun b15 => ?_)
        · refine xr_iconst hc rfl ?_
          refine xr_istore3 hc rfl rfl ?_
          refine xr_iincz4 hc rfl rfl (by first | exact dz_wid (by first | omega | (unfold dz_w; omega)) (by first | omega | (unfold dz_w; omega)) | rfl) ?_
          refine xr_goto hc rfl (t := 5) rfl ?_
          refine ih (i + 1) _ (by omega) ?_
          rcases hv with ⟨hv1, z⟩ | ⟨hv1, k, z, z2⟩
          · first
              | (exact Or.inl ⟨rfl, fun k hk => by
                  by_cases e : k = i
                  · rw [e]; omega
                  · exact z k (by omega)⟩)
              | exact Or.inr ⟨rfl, i, by omega, by omega⟩
              | (exfalso; omega)
          · first
              | exact Or.inr ⟨rfl, k, by omega, z2⟩
              | (exfalso; omega)
        · refine xr_aloadn hc rfl rfl ?_
          refine xr_getfr hc rfl rfl (by first | assumption | rfl) (by first | assumption | rfl) ?_
          refine xr_iloadn hc rfl rfl ?_
          refine xr_iconst hc rfl ?_
          refine xr_iaddz hc rfl (by first | exact dz_wid (by first | omega | (unfold dz_w; omega)) (by first | omega | (unfold dz_w; omega)) | rfl) ?_
          refine xr_iload hc rfl rfl ?_
          refine xr_iaddz hc rfl (by first | exact dz_wid (by first | omega | (unfold dz_w; omega)) (by first | omega | (unfold dz_w; omega)) | rfl) ?_
          first | refine xr_iaload hc rfl (by first | assumption | rfl) (by first | omega | (unfold dz_w; omega)) (by first | omega | (unfold dz_w; omega)) ?_ | refine xr_ialoado hc rfl (by first | omega | (unfold dz_w; omega)) (by first | omega | (unfold dz_w; omega)) ?_
          rw [ix]
          refine xr_iloadn hc rfl rfl ?_
          refine xr_icmp_eq hc rfl (t := 37) rfl (fun b30 => ?_) (fun b30 => ?_)
          · refine xr_iconst hc rfl ?_
            refine xr_istore3 hc rfl rfl ?_
            refine xr_iincz4 hc rfl rfl (by first | exact dz_wid (by first | omega | (unfold dz_w; omega)) (by first | omega | (unfold dz_w; omega)) | rfl) ?_
            refine xr_goto hc rfl (t := 5) rfl ?_
            refine ih (i + 1) _ (by omega) ?_
            rcases hv with ⟨hv1, z⟩ | ⟨hv1, k, z, z2⟩
            · first
                | (exact Or.inl ⟨rfl, fun k hk => by
                    by_cases e : k = i
                    · rw [e]; omega
                    · exact z k (by omega)⟩)
                | exact Or.inr ⟨rfl, i, by omega, by omega⟩
                | (exfalso; omega)
            · first
                | exact Or.inr ⟨rfl, k, by omega, z2⟩
                | (exfalso; omega)
          · refine xr_iconst hc rfl ?_
            refine xr_goto hc rfl (t := 38) rfl ?_
            refine xr_istore3 hc rfl rfl ?_
            refine xr_iincz4 hc rfl rfl (by first | exact dz_wid (by first | omega | (unfold dz_w; omega)) (by first | omega | (unfold dz_w; omega)) | rfl) ?_
            refine xr_goto hc rfl (t := 5) rfl ?_
            refine ih (i + 1) _ (by omega) ?_
            rcases hv with ⟨hv1, z⟩ | ⟨hv1, k, z, z2⟩
            · first
                | (exact Or.inl ⟨rfl, fun k hk => by
                    by_cases e : k = i
                    · rw [e]; omega
                    · exact z k (by omega)⟩)
                | exact Or.inr ⟨rfl, i, by omega, by omega⟩
                | (exfalso; omega)
            · first
                | exact Or.inr ⟨rfl, k, by omega, z2⟩
                | (exfalso; omega)
  refine xr_iconst hc rfl ?_
  refine xr_istore3 hc rfl rfl ?_
  refine xr_iconst hc rfl ?_
  refine xr_istore4 hc rfl rfl ?_
  exact lp w.toNat 0 1 (by omega) (Or.inl ⟨rfl, fun k hk => by omega⟩)
set_option maxRecDepth 100000 in
theorem D_worksBy {xo : Nat → List Int} {d : Nat} {Q : dz_Q} {sh : List (Nat ⊕ (Nat × Nat))} {rf : Nat → Nat → Nat} {M : Nat → Nat → Int} {k v : Int} (hv : 0 ≤ v ∧ v ≤ 99) (hQ : Q (some (dz_i (wk k v))) (sh, rf, M)) : dz_E dz_pp xo (d + 1) 152 [dz_r 115, dz_i k, dz_i v] (sh, rf, M) Q := by
  refine ⟨Nat.le_of_ble_eq_true rfl, ?_⟩
  have hc := dz_E_m dz_pp xo (d + 0)
  show dz_X (dz_E dz_pp xo (d + 0)) dz_pp xo (dz_pp 152) Q 0 [some (dz_r 115), some (dz_i k), some (dz_i v)] [] 0 0 (sh, rf, M)
  have hdiv : Int.tdiv v 10 = v / 10 := Int.tdiv_eq_ediv_of_nonneg hv.1
  unfold wk at hQ
  refine xr_iloadn hc rfl rfl ?_
  refine xr_iconst hc rfl ?_
  refine xr_icmp_ne hc rfl (t := 9) rfl (fun b2 => ?_) (fun b2 => ?_)
  · refine xr_iloadn hc rfl rfl ?_
    refine xr_iconst hc rfl ?_
    refine xr_icmp_ne hc rfl (t := 23) rfl (fun b11 => ?_) (fun b11 => ?_)
    · refine xr_iloadn hc rfl rfl ?_
      refine xr_iconst hc rfl ?_
      refine xr_icmp_eq hc rfl (t := 33) rfl (fun b25 => ?_) (fun b25 => ?_)
      · refine xr_iconst hc rfl ?_
        refine xr_goto hc rfl (t := 38) rfl ?_
        refine xr_ireturn hc rfl rfl (Nat.zero_le _) (Nat.zero_le _) ?_
        repeat (first | rw [if_pos (by omega)] at hQ | rw [if_neg (by omega)] at hQ)
        exact hQ
      · refine xr_iloadn hc rfl rfl ?_
        refine xr_iconst hc rfl ?_
        refine xr_icmp_ne hc rfl (t := 37) rfl (fun b30 => ?_) (fun b30 => ?_)
        · refine xr_iconst hc rfl ?_
          refine xr_ireturn hc rfl rfl (Nat.zero_le _) (Nat.zero_le _) ?_
          repeat (first | rw [if_pos (by omega)] at hQ | rw [if_neg (by omega)] at hQ)
          exact hQ
        · refine xr_iconst hc rfl ?_
          refine xr_goto hc rfl (t := 38) rfl ?_
          refine xr_ireturn hc rfl rfl (Nat.zero_le _) (Nat.zero_le _) ?_
          repeat (first | rw [if_pos (by omega)] at hQ | rw [if_neg (by omega)] at hQ)
          exact hQ
    · refine xr_iconst hc rfl ?_
      refine xr_iloadn hc rfl rfl ?_
      refine xr_bipush hc rfl ?_
      refine xr_idivz hc rfl (by first | omega | (unfold dz_w; omega)) (by first | exact dz_wid (by first | omega | (unfold dz_w; omega)) (by first | omega | (unfold dz_w; omega)) | rfl) ?_
      rw [hdiv]
      refine xr_iaddz hc rfl (by first | exact dz_wid (by first | omega | (unfold dz_w; omega)) (by first | omega | (unfold dz_w; omega)) | rfl) ?_
      refine xr_goto hc rfl (t := 38) rfl ?_
      refine xr_ireturn hc rfl rfl (Nat.zero_le _) (Nat.zero_le _) ?_
      repeat (first | rw [if_pos (by omega)] at hQ | rw [if_neg (by omega)] at hQ)
      exact hQ
  · refine xr_iconst hc rfl ?_
    refine xr_goto hc rfl (t := 38) rfl ?_
    refine xr_ireturn hc rfl rfl (Nat.zero_le _) (Nat.zero_le _) ?_
    repeat (first | rw [if_pos (by omega)] at hQ | rw [if_neg (by omega)] at hQ)
    exact hQ
set_option maxRecDepth 100000 in
theorem D_reads {xo : Nat → List Int} {d : Nat} {Q : dz_Q} {sh : List (Nat ⊕ (Nat × Nat))} {rf : Nat → Nat → Nat} {M : Nat → Nat → Int} {b : Nat} {i pl : Int} (hl : ml sh rf) (hb : b ≤ 3612) (hpl : M 115 1 = pl) (h69 : 6 ≤ pl ∧ pl ≤ 9) (hi : 0 ≤ i ∧ i < 6) (hld : M 115 23 = 0) (hp : 0 ≤ M 116 (b + (5 + i.toNat)) ∧ M 116 (b + (5 + i.toNat)) ≤ 9) (hbt : 0 ≤ M 116 (b + 1) ∧ M 116 (b + 1) ≤ 999000) (hQ : ∀ M2 : Nat → Nat → Int, (∀ q2 k2, ¬ (q2 = 115 ∧ (k2 = 21 ∨ k2 = 22)) → ¬ (q2 = 116 ∧ k2 = b + 1) → M2 q2 k2 = M q2 k2) → M2 115 21 = dz_w (M 115 21 + wa (M 116 (b + (5 + i.toNat))) (M 116 (b + 1)) pl) → M2 115 22 = dz_w (M 115 22 + 1) → M2 116 (b + 1) = M 116 (b + 1) + wa (M 116 (b + (5 + i.toNat))) (M 116 (b + 1)) pl + 1 → Q none (sh, rf, M2)) : dz_E dz_pp xo (d + 2) 151 [dz_r 115, dz_i (b : Int), dz_i i] (sh, rf, M) Q := by
  refine ⟨Nat.le_of_ble_eq_true rfl, ?_⟩
  have hc := dz_E_m dz_pp xo (d + 1)
  show dz_X (dz_E dz_pp xo (d + 1)) dz_pp xo (dz_pp 151) Q 0 [some (dz_r 115), some (dz_i (b : Int)), some (dz_i i), none] [] 0 0 (sh, rf, M)
  obtain ⟨c0, c1, c2, c3, c4, c5, c6, c7, c8, c9, c10, c11, c12, c13, c14, c15, c16, c17, c18, c19, c20, c21, c22, c23, c24, c25, c26, c27, c28, c29⟩ := id hl
  have ix : ((b : Int) + 5 + i).toNat = b + (5 + i.toNat) := by omega
  have iy : ((b : Int) + 1).toNat = b + 1 := by omega
  have hwa := wa_in (p := M 116 (b + (5 + i.toNat))) (b := M 116 (b + 1)) (pl := pl) (by omega)
  refine xr_aloadn hc rfl rfl ?_
  refine xr_getfi hc rfl (Or.inr rfl) (by first | assumption | rfl) ?_
  rw [hld]
  refine xr_if_eq hc rfl (t := 26) rfl (fun b4 => ?_) (fun b4 => ?_)
  · refine xr_aloadn hc rfl rfl ?_
    refine xr_aloadn hc rfl rfl ?_
    refine xr_getfr hc rfl rfl (by first | assumption | rfl) (by first | assumption | rfl) ?_
    refine xr_iloadn hc rfl rfl ?_
    refine xr_iconst hc rfl ?_
    refine xr_iaddz hc rfl (by first | exact dz_wid (by first | omega | (unfold dz_w; omega)) (by first | omega | (unfold dz_w; omega)) | rfl) ?_
    refine xr_iloadn hc rfl rfl ?_
    refine xr_iaddz hc rfl (by first | exact dz_wid (by first | omega | (unfold dz_w; omega)) (by first | omega | (unfold dz_w; omega)) | rfl) ?_
    first | refine xr_iaload hc rfl (by first | assumption | rfl) (by first | omega | (unfold dz_w; omega)) (by first | omega | (unfold dz_w; omega)) ?_ | refine xr_ialoado hc rfl (by first | omega | (unfold dz_w; omega)) (by first | omega | (unfold dz_w; omega)) ?_
    rw [ix]
    refine xr_aloadn hc rfl rfl ?_
    refine xr_getfr hc rfl rfl (by first | assumption | rfl) (by first | assumption | rfl) ?_
    refine xr_iloadn hc rfl rfl ?_
    refine xr_iconst hc rfl ?_
    refine xr_iaddz hc rfl (by first | exact dz_wid (by first | omega | (unfold dz_w; omega)) (by first | omega | (unfold dz_w; omega)) | rfl) ?_
    first | refine xr_iaload hc rfl (by first | assumption | rfl) (by first | omega | (unfold dz_w; omega)) (by first | omega | (unfold dz_w; omega)) ?_ | refine xr_ialoado hc rfl (by first | omega | (unfold dz_w; omega)) (by first | omega | (unfold dz_w; omega)) ?_
    rw [iy]
    refine xr_callv2 hc rfl (by first | assumption | rfl) rfl rfl rfl (Nat.le_of_ble_eq_true rfl) (Nat.zero_le _) (Nat.zero_le _) ?_
    refine D_waitsFor hl hpl h69 (by omega) (by omega) ?_
    refine xk_1 ?_
    refine xr_istore3 hc rfl rfl ?_
    refine xr_aloadn hc rfl rfl ?_
    refine xr_dup hc rfl rfl ?_
    refine xr_getfi hc rfl (Or.inl rfl) (by first | assumption | rfl) ?_
    refine xr_iloadn hc rfl rfl ?_
    refine xr_iaddz hc rfl (by first | exact dz_wid (by first | omega | (unfold dz_w; omega)) (by first | omega | (unfold dz_w; omega)) | rfl) ?_
    refine xr_putfi hc rfl rfl (by first | assumption | rfl) ?_
    refine xr_aloadn hc rfl rfl ?_
    refine xr_dup hc rfl rfl ?_
    refine xr_getfi hc rfl (Or.inl rfl) (by first | assumption | rfl) ?_
    refine xr_iconst hc rfl ?_
    refine xr_iaddz hc rfl (by first | exact dz_wid (by first | omega | (unfold dz_w; omega)) (by first | omega | (unfold dz_w; omega)) | rfl) ?_
    refine xr_putfi hc rfl rfl (by first | assumption | rfl) ?_
    refine xr_aloadn hc rfl rfl ?_
    refine xr_getfr hc rfl rfl (by first | assumption | rfl) (by first | assumption | rfl) ?_
    refine xr_iloadn hc rfl rfl ?_
    refine xr_iconst hc rfl ?_
    refine xr_iaddz hc rfl (by first | exact dz_wid (by first | omega | (unfold dz_w; omega)) (by first | omega | (unfold dz_w; omega)) | rfl) ?_
    refine xr_dup2i hc rfl ?_
    first | refine xr_iaload hc rfl (by first | assumption | rfl) (by first | omega | (unfold dz_w; omega)) (by first | omega | (unfold dz_w; omega)) ?_ | refine xr_ialoado hc rfl (by first | omega | (unfold dz_w; omega)) (by first | omega | (unfold dz_w; omega)) ?_
    rw [iy]
    rw [dz_up_ne (by omega), dz_up_ne (by omega)]
    refine xr_iloadn hc rfl rfl ?_
    refine xr_iconst hc rfl ?_
    refine xr_iaddz hc rfl (by first | exact dz_wid (by first | omega | (unfold dz_w; omega)) (by first | omega | (unfold dz_w; omega)) | rfl) ?_
    refine xr_iaddz hc rfl (by first | exact dz_wid (by first | omega | (unfold dz_w; omega)) (by first | omega | (unfold dz_w; omega)) | rfl) ?_
    
    refine xr_iastore hc rfl (by first | assumption | rfl) (by first | omega | (unfold dz_w; omega)) (by first | omega | (unfold dz_w; omega)) ?_
    refine xr_return hc rfl rfl (Nat.zero_le _) (Nat.zero_le _) ?_
    try rw [iy]
    refine hQ _ (fun q2 k2 u1 u2 => ?_) ?_ ?_ ?_
    · by_cases e : q2 = 115
      · subst e
        rw [dz_up_ne (by omega), dz_up_k (by omega), dz_up_k (by omega)]
      · by_cases e2 : q2 = 116
        · subst e2
          rw [dz_up_k (by omega), dz_up_ne (by omega), dz_up_ne (by omega)]
        · rw [dz_up_ne (by omega), dz_up_ne (by omega), dz_up_ne (by omega)]
    · rw [dz_up_ne (by omega), dz_up_k (by omega), dz_up_eq]
    · rw [dz_up_ne (by omega), dz_up_eq, dz_up_k (by omega)]
    · rw [dz_up_eq]
      omega
  · omega
/-- waiting, readings of a step -/
def wts (pl : Int) (kd wt s : Nat → Int) : Int := wa (s (5 + (s 3).toNat)) (s 1) pl + (if kd (s 3).toNat = 1 ∨ kd (s 3).toNat = 3 ∨ kd (s 3).toNat = 4 then wa (s (5 + (wt (s 3).toNat).toNat)) (s 1 + wa (s (5 + (s 3).toNat)) (s 1) pl + 1) pl else 0)
def rds (kd s : Nat → Int) : Int := 1 + (if kd (s 3).toNat = 1 ∨ kd (s 3).toNat = 3 ∨ kd (s 3).toNat = 4 then 1 else 0)
def gfr (M M2 : Nat → Nat → Int) (b : Nat) : Prop := ∀ q2 k2, ¬ (q2 = 115 ∧ (k2 = 21 ∨ k2 = 22)) → ¬ (q2 = 116 ∧ b + 1 ≤ k2 ∧ k2 ≤ b + 22) → M2 q2 k2 = M q2 k2
set_option maxRecDepth 100000 in
theorem D_goes {xo : Nat → List Int} {d : Nat} {Q : dz_Q} {sh : List (Nat ⊕ (Nat × Nat))} {rf : Nat → Nat → Nat} {M : Nat → Nat → Int} {b : Nat} {w pl B : Int} {kd wt nx s : Nat → Int} (hl : ml sh rf) (hb : b ≤ 3612) (hpg : pgM M w pl kd wt nx) (hp : pgok w pl kd wt nx) (hs : stok w pl B s) (hB : B ≤ 998000) (hr : prel M b w s) (hld : M 115 23 = 0) (hd : s 3 ≠ -9) (hQ : ∀ M2 : Nat → Nat → Int, gfr M M2 b → prel M2 b w (stp pl kd wt nx s) → ((0 ≤ M 115 21 ∧ M 115 21 ≤ 1000000 ∧ 0 ≤ M 115 22 ∧ M 115 22 ≤ 1000000) → M2 115 21 = M 115 21 + wts pl kd wt s ∧ M2 115 22 = M 115 22 + rds kd s) → Q none (sh, rf, M2)) : dz_E dz_pp xo (d + 3) 153 [dz_r 115, dz_i (b : Int)] (sh, rf, M) Q := by
  refine ⟨Nat.le_of_ble_eq_true rfl, ?_⟩
  have hc := dz_E_m dz_pp xo (d + 2)
  show dz_X (dz_E dz_pp xo (d + 2)) dz_pp xo (dz_pp 153) Q 0 [some (dz_r 115), some (dz_i (b : Int)), none, none, none] [] 0 0 (sh, rf, M)
  obtain ⟨e0, e1, e2, e3, e4, e5, e6, e7, e8, e9, e10, e11, e12, e13, e14, e15, e16, e17, e18, e19, e20, e21, e22, e23, e24, e25, e26, e27, e28, e29⟩ := id hl
  obtain ⟨p1, p2, p3, p4, p5⟩ := id hp
  obtain ⟨s0, s1, s2, s3, s4, s5, s6, s7, s8⟩ := id hs
  obtain ⟨g0, g1, g2⟩ := id hpg
  have hi : ((s 3).toNat : Int) < w := by omega
  obtain ⟨k1, k2, k3, k4, k5, k6⟩ := p5 (s 3).toNat hi
  have hoo : ((wt (s 3).toNat).toNat : Int) < w := by omega
  obtain ⟨a1, a2, a3, a4, a5, a6⟩ := s8 (s 3).toNat hi
  obtain ⟨c1, c2, c3, c4, c5, c6⟩ := s8 (wt (s 3).toNat).toNat hoo
  obtain ⟨x1, x2, x3⟩ := g2 (s 3).toNat hi
  have hw1 := wa_in (p := s (5 + (s 3).toNat)) (b := s 1) (pl := pl) (by omega)
  have ew : ∀ c, 1 ≤ c → c ≤ 22 → b + c < 3635 := fun c h1 h2 => by omega
  have r3 : M 116 (b + 3) = s 3 := hr 3 (by unfold okc; omega)
  have r1 : M 116 (b + 1) = s 1 := hr 1 (by unfold okc; omega)
  have r2 : M 116 (b + 2) = s 2 := hr 2 (by unfold okc; omega)
  have r4 : M 116 (b + 4) = s 4 := hr 4 (by unfold okc; omega)
  have r5 : M 116 (b + (5 + (s 3).toNat)) = s (5 + (s 3).toNat) := hr _ (by unfold okc; omega)
  have r17 : M 116 (b + (17 + (s 3).toNat)) = s (17 + (s 3).toNat) := hr _ (by unfold okc; omega)
  have j3 : ((b : Int) + 3).toNat = b + 3 := by omega
  have j4 : ((b : Int) + 4).toNat = b + 4 := by omega
  have j2 : ((b : Int) + 2).toNat = b + 2 := by omega
  have j17 : ((b : Int) + 17 + s 3).toNat = b + (17 + (s 3).toNat) := by omega
  have t3 : ∀ (M1 : Nat → Nat → Int), (∀ q2 k2, ¬ (q2 = 115 ∧ (k2 = 21 ∨ k2 = 22)) → ¬ (q2 = 116 ∧ b + 1 ≤ k2 ∧ k2 ≤ b + 22) → M1 q2 k2 = M q2 k2) → (∀ c, 1 ≤ c → c ≤ 22 → M1 116 (b + c) = if c = 1 then (bt pl (kd (s 3).toNat) (s (5 + (s 3).toNat)) (s (5 + (wt (s 3).toNat).toNat)) (s 1) (s (11 + (wt (s 3).toNat).toNat))) else if c = 3 then du kd wt nx (s 2) (s 3).toNat else if c = 4 then s 4 + 1 else if c = 17 + (s 3).toNat then M 116 (b + c) + 1 else M 116 (b + c)) → ((0 ≤ M 115 21 ∧ M 115 21 ≤ 1000000 ∧ 0 ≤ M 115 22 ∧ M 115 22 ≤ 1000000) → M1 115 21 = M 115 21 + wts pl kd wt s ∧ M1 115 22 = M 115 22 + rds kd s) → dz_X (dz_E dz_pp xo (d + 2)) dz_pp xo (dz_pp 153) Q 153 [some (dz_r 115), some (dz_i (b : Int)), some (dz_i (s 3)), some (dz_i (kd (s 3).toNat)), some (dz_i (wt (s 3).toNat))] [] 0 0 (sh, rf, M1) := by
    intro M1 z1 z2 z3
    have ei3 : ((b : Int) + 2).toNat = b + 2 := by omega
    have ei4 : ((b : Int) + 11 + wt (s 3).toNat).toNat = b + (11 + (wt (s 3).toNat).toNat) := by omega
    have v2 : M1 116 (b + 2) = s 2 := by rw [z2 2 (by omega) (by omega), if_neg (by omega), if_neg (by omega), if_neg (by omega), if_neg (by omega), hr 2 (by unfold okc; omega)]
    have v11 : M1 116 (b + (11 + (wt (s 3).toNat).toNat)) = s (11 + (wt (s 3).toNat).toNat) := by rw [z2 _ (by omega) (by omega), if_neg (by omega), if_neg (by omega), if_neg (by omega), if_neg (by omega), hr _ (by unfold okc; omega)]
    have hmul := mul99 (a := s 2) (b := s (11 + (wt (s 3).toNat).toNat)) ⟨s3, s4⟩ ⟨c3, c4⟩
    have ht1 : Int.tmod (s 2 + s (11 + (wt (s 3).toNat).toNat)) 100 = (s 2 + s (11 + (wt (s 3).toNat).toNat)) % 100 := Int.tmod_eq_emod_of_nonneg (by omega)
    have ht2 : Int.tmod (s 2 * s (11 + (wt (s 3).toNat).toNat)) 100 = (s 2 * s (11 + (wt (s 3).toNat).toNat)) % 100 := Int.tmod_eq_emod_of_nonneg (by omega)
    have fin : ∀ M3 : Nat → Nat → Int, (∀ q2 k2, q2 ≠ 116 → M3 q2 k2 = M1 q2 k2) → (∀ k2, k2 < b + 1 ∨ b + 22 < k2 → M3 116 k2 = M1 116 k2) → (∀ c, 1 ≤ c → c ≤ 22 → M3 116 (b + c) = if c = 2 then su (kd (s 3).toNat) (s 2) (s (11 + (wt (s 3).toNat).toNat)) else if kd (s 3).toNat = 3 ∧ c = 11 + (wt (s 3).toNat).toNat then s 2 else M1 116 (b + c)) → Q none (sh, rf, M3) := by
      intro M3 y1 y2 y3
      refine hQ M3 (fun q2 k2 u1 u2 => ?_) (fun c hc => ?_) (fun hh => ?_)
      · by_cases e : q2 = 116
        · subst e
          rw [y2 k2 (by omega), z1 _ _ (by omega) (by omega)]
        · rw [y1 _ _ e, z1 _ _ u1 (by omega)]
      · have hc2 := hc
        unfold okc at hc2
        rw [y3 c (by omega) (by omega), z2 c (by omega) (by omega)]
        unfold stp
        by_cases e1 : c = 1
        · subst e1
          rw [if_neg (by omega), if_neg (by omega), if_pos rfl, if_pos rfl]
        · by_cases e2 : c = 2
          · subst e2
            rfl
          · rw [if_neg e1, if_neg e2, if_neg e1, if_neg e2]
            by_cases e3 : c = 3
            · rw [if_neg (by omega), if_pos e3, if_pos e3]
            · by_cases e4 : c = 4
              · rw [if_neg (by omega), if_neg e3, if_pos e4, if_neg e3, if_pos e4]
              · rw [if_neg e3, if_neg e4, if_neg e3, if_neg e4, hr c hc]
                by_cases e5 : c = 17 + (s 3).toNat
                · rw [if_neg (by omega), if_pos e5, if_pos e5]
                · rw [if_neg e5, if_neg e5]
      · have h9 := z3 hh
        rw [y1 _ _ (by omega), y1 _ _ (by omega)]
        exact h9
    refine xr_iloadn hc rfl rfl ?_
    refine xr_iconst hc rfl ?_
    refine xr_icmp_ne hc rfl (t := 193) rfl (fun b155 => ?_) (fun b155 => ?_)
    · refine xr_iloadn hc rfl rfl ?_
      refine xr_iconst hc rfl ?_
      refine xr_icmp_ne hc rfl (t := 233) rfl (fun b195 => ?_) (fun b195 => ?_)
      · refine xr_iloadn hc rfl rfl ?_
        refine xr_iconst hc rfl ?_
        refine xr_icmp_ne hc rfl (t := 258) rfl (fun b235 => ?_) (fun b235 => ?_)
        · try rw [ei3]
          try rw [ei4]
          refine xr_return hc rfl rfl (Nat.zero_le _) (Nat.zero_le _) ?_
          first
            | (refine fin _ (fun q2 k2 u => by rw [dz_up_ne u]) (fun k2 u => by rw [dz_up_k (by omega)]) (fun c h1 h2 => ?_)
               by_cases e : b + c = b + 2
               · rw [e, dz_up_eq]
                 first
                   | (rw [if_pos (by omega)]; unfold su; rw [if_pos (by omega)])
                   | (rw [if_pos (by omega)]; unfold su; rw [if_neg (by omega), if_pos (by omega)])
                   | rw [if_neg (by omega), if_pos (by omega)]
               · rw [dz_up_k e]
                 first
                   | rw [if_neg (by omega), if_neg (by omega)]
                   | (by_cases e2 : c = 2
                      · rw [if_pos e2, e2, v2]
                        unfold su
                        rw [if_neg (by omega), if_neg (by omega)]
                      · rw [if_neg e2, if_neg (by omega)]))
            | (refine fin _ (fun q2 k2 u => by rw [dz_up_ne u]) (fun k2 u => by rw [dz_up_k (by omega)]) (fun c h1 h2 => ?_)
               by_cases e : b + c = b + (11 + (wt (s 3).toNat).toNat)
               · rw [e, dz_up_eq]
                 first
                   | (rw [if_pos (by omega)]; unfold su; rw [if_pos (by omega)])
                   | (rw [if_pos (by omega)]; unfold su; rw [if_neg (by omega), if_pos (by omega)])
                   | rw [if_neg (by omega), if_pos (by omega)]
               · rw [dz_up_k e]
                 first
                   | rw [if_neg (by omega), if_neg (by omega)]
                   | (by_cases e2 : c = 2
                      · rw [if_pos e2, e2, v2]
                        unfold su
                        rw [if_neg (by omega), if_neg (by omega)]
                      · rw [if_neg e2, if_neg (by omega)]))
            | (refine fin _ (fun q2 k2 u => rfl) (fun k2 u => rfl) (fun c h1 h2 => ?_)
               by_cases e2 : c = 2
               · rw [if_pos e2, e2, v2]
                 unfold su
                 rw [if_neg (by omega), if_neg (by omega)]
               · rw [if_neg e2, if_neg (by omega)])
        · refine xr_aloadn hc rfl rfl ?_
          refine xr_getfr hc rfl rfl (by first | assumption | rfl) (by first | assumption | rfl) ?_
          refine xr_iloadn hc rfl rfl ?_
          refine xr_bipush hc rfl ?_
          refine xr_iaddz hc rfl (by first | exact dz_wid (by first | omega | (unfold dz_w; omega)) (by first | omega | (unfold dz_w; omega)) | rfl) ?_
          refine xr_iload hc rfl rfl ?_
          refine xr_iaddz hc rfl (by first | exact dz_wid (by first | omega | (unfold dz_w; omega)) (by first | omega | (unfold dz_w; omega)) | rfl) ?_
          refine xr_aloadn hc rfl rfl ?_
          refine xr_getfr hc rfl rfl (by first | assumption | rfl) (by first | assumption | rfl) ?_
          refine xr_iloadn hc rfl rfl ?_
          refine xr_iconst hc rfl ?_
          refine xr_iaddz hc rfl (by first | exact dz_wid (by first | omega | (unfold dz_w; omega)) (by first | omega | (unfold dz_w; omega)) | rfl) ?_
          first | refine xr_iaload hc rfl (by first | assumption | rfl) (by first | omega | (unfold dz_w; omega)) (by first | omega | (unfold dz_w; omega)) ?_ | refine xr_ialoado hc rfl (by first | omega | (unfold dz_w; omega)) (by first | omega | (unfold dz_w; omega)) ?_
          rw [ei3, v2]
          refine xr_iastore hc rfl (by first | assumption | rfl) (by first | omega | (unfold dz_w; omega)) (by first | omega | (unfold dz_w; omega)) ?_
          try rw [ei3]
          try rw [ei4]
          refine xr_return hc rfl rfl (Nat.zero_le _) (Nat.zero_le _) ?_
          first
            | (refine fin _ (fun q2 k2 u => by rw [dz_up_ne u]) (fun k2 u => by rw [dz_up_k (by omega)]) (fun c h1 h2 => ?_)
               by_cases e : b + c = b + 2
               · rw [e, dz_up_eq]
                 first
                   | (rw [if_pos (by omega)]; unfold su; rw [if_pos (by omega)])
                   | (rw [if_pos (by omega)]; unfold su; rw [if_neg (by omega), if_pos (by omega)])
                   | rw [if_neg (by omega), if_pos (by omega)]
               · rw [dz_up_k e]
                 first
                   | rw [if_neg (by omega), if_neg (by omega)]
                   | (by_cases e2 : c = 2
                      · rw [if_pos e2, e2, v2]
                        unfold su
                        rw [if_neg (by omega), if_neg (by omega)]
                      · rw [if_neg e2, if_neg (by omega)]))
            | (refine fin _ (fun q2 k2 u => by rw [dz_up_ne u]) (fun k2 u => by rw [dz_up_k (by omega)]) (fun c h1 h2 => ?_)
               by_cases e : b + c = b + (11 + (wt (s 3).toNat).toNat)
               · rw [e, dz_up_eq]
                 first
                   | (rw [if_pos (by omega)]; unfold su; rw [if_pos (by omega)])
                   | (rw [if_pos (by omega)]; unfold su; rw [if_neg (by omega), if_pos (by omega)])
                   | rw [if_neg (by omega), if_pos (by omega)]
               · rw [dz_up_k e]
                 first
                   | rw [if_neg (by omega), if_neg (by omega)]
                   | (by_cases e2 : c = 2
                      · rw [if_pos e2, e2, v2]
                        unfold su
                        rw [if_neg (by omega), if_neg (by omega)]
                      · rw [if_neg e2, if_neg (by omega)]))
            | (refine fin _ (fun q2 k2 u => rfl) (fun k2 u => rfl) (fun c h1 h2 => ?_)
               by_cases e2 : c = 2
               · rw [if_pos e2, e2, v2]
                 unfold su
                 rw [if_neg (by omega), if_neg (by omega)]
               · rw [if_neg e2, if_neg (by omega)])
      · refine xr_aloadn hc rfl rfl ?_
        refine xr_getfr hc rfl rfl (by first | assumption | rfl) (by first | assumption | rfl) ?_
        refine xr_iloadn hc rfl rfl ?_
        refine xr_iconst hc rfl ?_
        refine xr_iaddz hc rfl (by first | exact dz_wid (by first | omega | (unfold dz_w; omega)) (by first | omega | (unfold dz_w; omega)) | rfl) ?_
        refine xr_aloadn hc rfl rfl ?_
        refine xr_getfr hc rfl rfl (by first | assumption | rfl) (by first | assumption | rfl) ?_
        refine xr_iloadn hc rfl rfl ?_
        refine xr_iconst hc rfl ?_
        refine xr_iaddz hc rfl (by first | exact dz_wid (by first | omega | (unfold dz_w; omega)) (by first | omega | (unfold dz_w; omega)) | rfl) ?_
        first | refine xr_iaload hc rfl (by first | assumption | rfl) (by first | omega | (unfold dz_w; omega)) (by first | omega | (unfold dz_w; omega)) ?_ | refine xr_ialoado hc rfl (by first | omega | (unfold dz_w; omega)) (by first | omega | (unfold dz_w; omega)) ?_
        rw [ei3, v2]
        refine xr_aloadn hc rfl rfl ?_
        refine xr_getfr hc rfl rfl (by first | assumption | rfl) (by first | assumption | rfl) ?_
        refine xr_iloadn hc rfl rfl ?_
        refine xr_bipush hc rfl ?_
        refine xr_iaddz hc rfl (by first | exact dz_wid (by first | omega | (unfold dz_w; omega)) (by first | omega | (unfold dz_w; omega)) | rfl) ?_
        refine xr_iload hc rfl rfl ?_
        refine xr_iaddz hc rfl (by first | exact dz_wid (by first | omega | (unfold dz_w; omega)) (by first | omega | (unfold dz_w; omega)) | rfl) ?_
        first | refine xr_iaload hc rfl (by first | assumption | rfl) (by first | omega | (unfold dz_w; omega)) (by first | omega | (unfold dz_w; omega)) ?_ | refine xr_ialoado hc rfl (by first | omega | (unfold dz_w; omega)) (by first | omega | (unfold dz_w; omega)) ?_
        rw [ei4, v11]
        refine xr_imulz hc rfl (by first | exact dz_wid (by first | omega | (unfold dz_w; omega)) (by first | omega | (unfold dz_w; omega)) | rfl) ?_
        refine xr_bipush hc rfl ?_
        refine xr_irem hc rfl (by first | omega | (unfold dz_w; omega)) ?_
        rw [ht2]
        refine xr_iastore hc rfl (by first | assumption | rfl) (by first | omega | (unfold dz_w; omega)) (by first | omega | (unfold dz_w; omega)) ?_
        refine xr_goto hc rfl (t := 258) rfl ?_
        try rw [ei3]
        try rw [ei4]
        refine xr_return hc rfl rfl (Nat.zero_le _) (Nat.zero_le _) ?_
        first
          | (refine fin _ (fun q2 k2 u => by rw [dz_up_ne u]) (fun k2 u => by rw [dz_up_k (by omega)]) (fun c h1 h2 => ?_)
             by_cases e : b + c = b + 2
             · rw [e, dz_up_eq]
               first
                 | (rw [if_pos (by omega)]; unfold su; rw [if_pos (by omega)])
                 | (rw [if_pos (by omega)]; unfold su; rw [if_neg (by omega), if_pos (by omega)])
                 | rw [if_neg (by omega), if_pos (by omega)]
             · rw [dz_up_k e]
               first
                 | rw [if_neg (by omega), if_neg (by omega)]
                 | (by_cases e2 : c = 2
                    · rw [if_pos e2, e2, v2]
                      unfold su
                      rw [if_neg (by omega), if_neg (by omega)]
                    · rw [if_neg e2, if_neg (by omega)]))
          | (refine fin _ (fun q2 k2 u => by rw [dz_up_ne u]) (fun k2 u => by rw [dz_up_k (by omega)]) (fun c h1 h2 => ?_)
             by_cases e : b + c = b + (11 + (wt (s 3).toNat).toNat)
             · rw [e, dz_up_eq]
               first
                 | (rw [if_pos (by omega)]; unfold su; rw [if_pos (by omega)])
                 | (rw [if_pos (by omega)]; unfold su; rw [if_neg (by omega), if_pos (by omega)])
                 | rw [if_neg (by omega), if_pos (by omega)]
             · rw [dz_up_k e]
               first
                 | rw [if_neg (by omega), if_neg (by omega)]
                 | (by_cases e2 : c = 2
                    · rw [if_pos e2, e2, v2]
                      unfold su
                      rw [if_neg (by omega), if_neg (by omega)]
                    · rw [if_neg e2, if_neg (by omega)]))
          | (refine fin _ (fun q2 k2 u => rfl) (fun k2 u => rfl) (fun c h1 h2 => ?_)
             by_cases e2 : c = 2
             · rw [if_pos e2, e2, v2]
               unfold su
               rw [if_neg (by omega), if_neg (by omega)]
             · rw [if_neg e2, if_neg (by omega)])
    · refine xr_aloadn hc rfl rfl ?_
      refine xr_getfr hc rfl rfl (by first | assumption | rfl) (by first | assumption | rfl) ?_
      refine xr_iloadn hc rfl rfl ?_
      refine xr_iconst hc rfl ?_
      refine xr_iaddz hc rfl (by first | exact dz_wid (by first | omega | (unfold dz_w; omega)) (by first | omega | (unfold dz_w; omega)) | rfl) ?_
      refine xr_aloadn hc rfl rfl ?_
      refine xr_getfr hc rfl rfl (by first | assumption | rfl) (by first | assumption | rfl) ?_
      refine xr_iloadn hc rfl rfl ?_
      refine xr_iconst hc rfl ?_
      refine xr_iaddz hc rfl (by first | exact dz_wid (by first | omega | (unfold dz_w; omega)) (by first | omega | (unfold dz_w; omega)) | rfl) ?_
      first | refine xr_iaload hc rfl (by first | assumption | rfl) (by first | omega | (unfold dz_w; omega)) (by first | omega | (unfold dz_w; omega)) ?_ | refine xr_ialoado hc rfl (by first | omega | (unfold dz_w; omega)) (by first | omega | (unfold dz_w; omega)) ?_
      rw [ei3, v2]
      refine xr_aloadn hc rfl rfl ?_
      refine xr_getfr hc rfl rfl (by first | assumption | rfl) (by first | assumption | rfl) ?_
      refine xr_iloadn hc rfl rfl ?_
      refine xr_bipush hc rfl ?_
      refine xr_iaddz hc rfl (by first | exact dz_wid (by first | omega | (unfold dz_w; omega)) (by first | omega | (unfold dz_w; omega)) | rfl) ?_
      refine xr_iload hc rfl rfl ?_
      refine xr_iaddz hc rfl (by first | exact dz_wid (by first | omega | (unfold dz_w; omega)) (by first | omega | (unfold dz_w; omega)) | rfl) ?_
      first | refine xr_iaload hc rfl (by first | assumption | rfl) (by first | omega | (unfold dz_w; omega)) (by first | omega | (unfold dz_w; omega)) ?_ | refine xr_ialoado hc rfl (by first | omega | (unfold dz_w; omega)) (by first | omega | (unfold dz_w; omega)) ?_
      rw [ei4, v11]
      refine xr_iaddz hc rfl (by first | exact dz_wid (by first | omega | (unfold dz_w; omega)) (by first | omega | (unfold dz_w; omega)) | rfl) ?_
      refine xr_bipush hc rfl ?_
      refine xr_irem hc rfl (by first | omega | (unfold dz_w; omega)) ?_
      rw [ht1]
      refine xr_iastore hc rfl (by first | assumption | rfl) (by first | omega | (unfold dz_w; omega)) (by first | omega | (unfold dz_w; omega)) ?_
      refine xr_goto hc rfl (t := 258) rfl ?_
      try rw [ei3]
      try rw [ei4]
      refine xr_return hc rfl rfl (Nat.zero_le _) (Nat.zero_le _) ?_
      first
        | (refine fin _ (fun q2 k2 u => by rw [dz_up_ne u]) (fun k2 u => by rw [dz_up_k (by omega)]) (fun c h1 h2 => ?_)
           by_cases e : b + c = b + 2
           · rw [e, dz_up_eq]
             first
               | (rw [if_pos (by omega)]; unfold su; rw [if_pos (by omega)])
               | (rw [if_pos (by omega)]; unfold su; rw [if_neg (by omega), if_pos (by omega)])
               | rw [if_neg (by omega), if_pos (by omega)]
           · rw [dz_up_k e]
             first
               | rw [if_neg (by omega), if_neg (by omega)]
               | (by_cases e2 : c = 2
                  · rw [if_pos e2, e2, v2]
                    unfold su
                    rw [if_neg (by omega), if_neg (by omega)]
                  · rw [if_neg e2, if_neg (by omega)]))
        | (refine fin _ (fun q2 k2 u => by rw [dz_up_ne u]) (fun k2 u => by rw [dz_up_k (by omega)]) (fun c h1 h2 => ?_)
           by_cases e : b + c = b + (11 + (wt (s 3).toNat).toNat)
           · rw [e, dz_up_eq]
             first
               | (rw [if_pos (by omega)]; unfold su; rw [if_pos (by omega)])
               | (rw [if_pos (by omega)]; unfold su; rw [if_neg (by omega), if_pos (by omega)])
               | rw [if_neg (by omega), if_pos (by omega)]
           · rw [dz_up_k e]
             first
               | rw [if_neg (by omega), if_neg (by omega)]
               | (by_cases e2 : c = 2
                  · rw [if_pos e2, e2, v2]
                    unfold su
                    rw [if_neg (by omega), if_neg (by omega)]
                  · rw [if_neg e2, if_neg (by omega)]))
        | (refine fin _ (fun q2 k2 u => rfl) (fun k2 u => rfl) (fun c h1 h2 => ?_)
           by_cases e2 : c = 2
           · rw [if_pos e2, e2, v2]
             unfold su
             rw [if_neg (by omega), if_neg (by omega)]
           · rw [if_neg e2, if_neg (by omega)])
  have t2 : ∀ (M1 : Nat → Nat → Int) (X1 : Int), (∀ q2 k2, ¬ (q2 = 115 ∧ (k2 = 21 ∨ k2 = 22)) → ¬ (q2 = 116 ∧ b + 1 ≤ k2 ∧ k2 ≤ b + 22) → M1 q2 k2 = M q2 k2) → (∀ c, 1 ≤ c → c ≤ 22 → M1 116 (b + c) = if c = 1 then X1 else if c = 3 then du kd wt nx (s 2) (s 3).toNat else if c = 4 then s 4 + 1 else if c = 17 + (s 3).toNat then M 116 (b + c) + 1 else M 116 (b + c)) → X1 + wk (kd (s 3).toNat) (s (11 + (wt (s 3).toNat).toNat)) = (bt pl (kd (s 3).toNat) (s (5 + (s 3).toNat)) (s (5 + (wt (s 3).toNat).toNat)) (s 1) (s (11 + (wt (s 3).toNat).toNat))) → ((0 ≤ M 115 21 ∧ M 115 21 ≤ 1000000 ∧ 0 ≤ M 115 22 ∧ M 115 22 ≤ 1000000) → M1 115 21 = M 115 21 + wts pl kd wt s ∧ M1 115 22 = M 115 22 + rds kd s) → dz_X (dz_E dz_pp xo (d + 2)) dz_pp xo (dz_pp 153) Q 125 [some (dz_r 115), some (dz_i (b : Int)), some (dz_i (s 3)), some (dz_i (kd (s 3).toNat)), some (dz_i (wt (s 3).toNat))] [] 0 0 (sh, rf, M1) := by
    intro M1 X1 z1 z2 hX z3
    have iy : ((b : Int) + 1).toNat = b + 1 := by omega
    have ei4 : ((b : Int) + 11 + wt (s 3).toNat).toNat = b + (11 + (wt (s 3).toNat).toNat) := by omega
    have v1 : M1 116 (b + 1) = X1 := by rw [z2 1 (by omega) (by omega), if_pos rfl]
    have v11 : M1 116 (b + (11 + (wt (s 3).toNat).toNat)) = s (11 + (wt (s 3).toNat).toNat) := by rw [z2 _ (by omega) (by omega), if_neg (by omega), if_neg (by omega), if_neg (by omega), if_neg (by omega), hr _ (by unfold okc; omega)]
    have hbt := bt_in (pl := pl) (k := kd (s 3).toNat) (pi := s (5 + (s 3).toNat)) (po := s (5 + (wt (s 3).toNat).toNat)) (b := s 1) (vo := s (11 + (wt (s 3).toNat).toNat)) ⟨p3, p4⟩ ⟨c3, c4⟩
    have hk3 := wk_in (k := kd (s 3).toNat) (v := s (11 + (wt (s 3).toNat).toNat)) ⟨c3, c4⟩
    refine xr_aloadn hc rfl rfl ?_
    refine xr_getfr hc rfl rfl (by first | assumption | rfl) (by first | assumption | rfl) ?_
    refine xr_iloadn hc rfl rfl ?_
    refine xr_iconst hc rfl ?_
    refine xr_iaddz hc rfl (by first | exact dz_wid (by first | omega | (unfold dz_w; omega)) (by first | omega | (unfold dz_w; omega)) | rfl) ?_
    refine xr_dup2i hc rfl ?_
    first | refine xr_iaload hc rfl (by first | assumption | rfl) (by first | omega | (unfold dz_w; omega)) (by first | omega | (unfold dz_w; omega)) ?_ | refine xr_ialoado hc rfl (by first | omega | (unfold dz_w; omega)) (by first | omega | (unfold dz_w; omega)) ?_
    rw [iy, v1]
    refine xr_aloadn hc rfl rfl ?_
    refine xr_iloadn hc rfl rfl ?_
    refine xr_aloadn hc rfl rfl ?_
    refine xr_getfr hc rfl rfl (by first | assumption | rfl) (by first | assumption | rfl) ?_
    refine xr_iloadn hc rfl rfl ?_
    refine xr_bipush hc rfl ?_
    refine xr_iaddz hc rfl (by first | exact dz_wid (by first | omega | (unfold dz_w; omega)) (by first | omega | (unfold dz_w; omega)) | rfl) ?_
    refine xr_iload hc rfl rfl ?_
    refine xr_iaddz hc rfl (by first | exact dz_wid (by first | omega | (unfold dz_w; omega)) (by first | omega | (unfold dz_w; omega)) | rfl) ?_
    first | refine xr_iaload hc rfl (by first | assumption | rfl) (by first | omega | (unfold dz_w; omega)) (by first | omega | (unfold dz_w; omega)) ?_ | refine xr_ialoado hc rfl (by first | omega | (unfold dz_w; omega)) (by first | omega | (unfold dz_w; omega)) ?_
    rw [ei4, v11]
    refine xr_callv2 hc rfl (by first | assumption | rfl) rfl rfl rfl (Nat.le_of_ble_eq_true rfl) (Nat.zero_le _) (Nat.zero_le _) ?_
    refine D_worksBy (by omega) ?_
    refine xk_1 ?_
    refine xr_iaddz hc rfl (by first | exact dz_wid (by first | omega | (unfold dz_w; omega)) (by first | omega | (unfold dz_w; omega)) | rfl) ?_
    refine xr_iastore hc rfl (by first | assumption | rfl) (by first | omega | (unfold dz_w; omega)) (by first | omega | (unfold dz_w; omega)) ?_
    rw [iy]
    refine t3 _ (fun q2 k2 u1 u2 => ?_) (fun c h1 h2 => ?_) (fun hh => ?_)
    · by_cases e : q2 = 116
      · subst e
        rw [dz_up_k (by omega), z1 _ _ u1 u2]
      · rw [dz_up_ne e, z1 _ _ u1 u2]
    · by_cases e : c = 1
      · subst e
        rw [dz_up_eq, if_pos rfl, hX]
      · rw [dz_up_k (by omega), z2 c h1 h2, if_neg e, if_neg e]
    · rw [dz_up_ne (by omega)]
      exact z3 hh
  have t1 : ∀ (M1 : Nat → Nat → Int), (∀ q2 k2, ¬ (q2 = 115 ∧ (k2 = 21 ∨ k2 = 22)) → ¬ (q2 = 116 ∧ b + 1 ≤ k2 ∧ k2 ≤ b + 22) → M1 q2 k2 = M q2 k2) → (∀ c, 1 ≤ c → c ≤ 22 → M1 116 (b + c) = if c = 1 then (s 1 + wa (s (5 + (s 3).toNat)) (s 1) pl + 1) else if c = 3 then du kd wt nx (s 2) (s 3).toNat else if c = 4 then s 4 + 1 else if c = 17 + (s 3).toNat then M 116 (b + c) + 1 else M 116 (b + c)) → M1 115 21 = dz_w (M 115 21 + wa (s (5 + (s 3).toNat)) (s 1) pl) → M1 115 22 = dz_w (M 115 22 + 1) → dz_X (dz_E dz_pp xo (d + 2)) dz_pp xo (dz_pp 153) Q 103 [some (dz_r 115), some (dz_i (b : Int)), some (dz_i (s 3)), some (dz_i (kd (s 3).toNat)), some (dz_i (wt (s 3).toNat))] [] 0 0 (sh, rf, M1) := by
    intro M1 z1 z2 z3 z4
    have v1 : M1 116 (b + 1) = (s 1 + wa (s (5 + (s 3).toNat)) (s 1) pl + 1) := by rw [z2 1 (by omega) (by omega), if_pos rfl]
    have v5 : M1 116 (b + (5 + (wt (s 3).toNat).toNat)) = s (5 + (wt (s 3).toNat).toNat) := by rw [z2 _ (by omega) (by omega), if_neg (by omega), if_neg (by omega), if_neg (by omega), if_neg (by omega), hr _ (by unfold okc; omega)]
    have hw2 := wa_in (p := s (5 + (wt (s 3).toNat).toNat)) (b := (s 1 + wa (s (5 + (s 3).toNat)) (s 1) pl + 1)) (pl := pl) (by omega)
    refine xr_iloadn hc rfl rfl ?_
    refine xr_iconst hc rfl ?_
    refine xr_icmp_eq hc rfl (t := 118) rfl (fun b105 => ?_) (fun b105 => ?_)
    · refine xr_aloadn hc rfl rfl ?_
      refine xr_iloadn hc rfl rfl ?_
      refine xr_iload hc rfl rfl ?_
      refine xr_callv2 hc rfl (by first | assumption | rfl) rfl rfl rfl (Nat.le_of_ble_eq_true rfl) (Nat.zero_le _) (Nat.zero_le _) ?_
      refine D_reads hl hb (by rw [z1 _ _ (by omega) (by omega)]; exact hpg.2.1) ⟨p3, p4⟩ (by omega) (by rw [z1 _ _ (by omega) (by omega)]; exact hld) (by rw [v5]; omega) (by rw [v1]; omega) (fun M2 y1 y2 y3 y4 => ?_)
      rw [v5, v1] at y2 y4
      refine xk_0 ?_
      first
        | (have had : (kd (s 3).toNat = 1 ∨ kd (s 3).toNat = 3 ∨ kd (s 3).toNat = 4) := by omega
           refine t2 M2 ((s 1 + wa (s (5 + (s 3).toNat)) (s 1) pl + 1) + wa (s (5 + (wt (s 3).toNat).toNat)) (s 1 + wa (s (5 + (s 3).toNat)) (s 1) pl + 1) pl + 1) (fun q2 k2 u1 u2 => by rw [y1 _ _ u1 (by omega), z1 _ _ u1 u2]) (fun c h1 h2 => ?_) (by unfold bt; rw [if_pos had]) (fun hh => ?_)
           · by_cases e : c = 1
             · subst e
               rw [y4, if_pos rfl]
             · rw [y1 _ _ (by omega) (by omega), z2 c h1 h2, if_neg e, if_neg e]
           · unfold wts rds
             rw [if_pos had, if_pos had]
             rw [dz_wid (by omega) (by omega)] at z3
             rw [dz_wid (by omega) (by omega)] at z4
             rw [z3, dz_wid (by omega) (by omega)] at y2
             rw [z4, dz_wid (by omega) (by omega)] at y3
             omega)
        | (have had : ¬ (kd (s 3).toNat = 1 ∨ kd (s 3).toNat = 3 ∨ kd (s 3).toNat = 4) := by omega
           refine t2 M1 (s 1 + wa (s (5 + (s 3).toNat)) (s 1) pl + 1) z1 z2 (by unfold bt; rw [if_neg had]) (fun hh => ?_)
           unfold wts rds
           rw [if_neg had, if_neg had]
           rw [dz_wid (by omega) (by omega)] at z3
           rw [dz_wid (by omega) (by omega)] at z4
           omega)
    · refine xr_iloadn hc rfl rfl ?_
      refine xr_iconst hc rfl ?_
      refine xr_icmp_eq hc rfl (t := 118) rfl (fun b110 => ?_) (fun b110 => ?_)
      · refine xr_aloadn hc rfl rfl ?_
        refine xr_iloadn hc rfl rfl ?_
        refine xr_iload hc rfl rfl ?_
        refine xr_callv2 hc rfl (by first | assumption | rfl) rfl rfl rfl (Nat.le_of_ble_eq_true rfl) (Nat.zero_le _) (Nat.zero_le _) ?_
        refine D_reads hl hb (by rw [z1 _ _ (by omega) (by omega)]; exact hpg.2.1) ⟨p3, p4⟩ (by omega) (by rw [z1 _ _ (by omega) (by omega)]; exact hld) (by rw [v5]; omega) (by rw [v1]; omega) (fun M2 y1 y2 y3 y4 => ?_)
        rw [v5, v1] at y2 y4
        refine xk_0 ?_
        first
          | (have had : (kd (s 3).toNat = 1 ∨ kd (s 3).toNat = 3 ∨ kd (s 3).toNat = 4) := by omega
             refine t2 M2 ((s 1 + wa (s (5 + (s 3).toNat)) (s 1) pl + 1) + wa (s (5 + (wt (s 3).toNat).toNat)) (s 1 + wa (s (5 + (s 3).toNat)) (s 1) pl + 1) pl + 1) (fun q2 k2 u1 u2 => by rw [y1 _ _ u1 (by omega), z1 _ _ u1 u2]) (fun c h1 h2 => ?_) (by unfold bt; rw [if_pos had]) (fun hh => ?_)
             · by_cases e : c = 1
               · subst e
                 rw [y4, if_pos rfl]
               · rw [y1 _ _ (by omega) (by omega), z2 c h1 h2, if_neg e, if_neg e]
             · unfold wts rds
               rw [if_pos had, if_pos had]
               rw [dz_wid (by omega) (by omega)] at z3
               rw [dz_wid (by omega) (by omega)] at z4
               rw [z3, dz_wid (by omega) (by omega)] at y2
               rw [z4, dz_wid (by omega) (by omega)] at y3
               omega)
          | (have had : ¬ (kd (s 3).toNat = 1 ∨ kd (s 3).toNat = 3 ∨ kd (s 3).toNat = 4) := by omega
             refine t2 M1 (s 1 + wa (s (5 + (s 3).toNat)) (s 1) pl + 1) z1 z2 (by unfold bt; rw [if_neg had]) (fun hh => ?_)
             unfold wts rds
             rw [if_neg had, if_neg had]
             rw [dz_wid (by omega) (by omega)] at z3
             rw [dz_wid (by omega) (by omega)] at z4
             omega)
      · refine xr_iloadn hc rfl rfl ?_
        refine xr_iconst hc rfl ?_
        refine xr_icmp_ne hc rfl (t := 125) rfl (fun b115 => ?_) (fun b115 => ?_)
        · first
            | (have had : (kd (s 3).toNat = 1 ∨ kd (s 3).toNat = 3 ∨ kd (s 3).toNat = 4) := by omega
               refine t2 M2 ((s 1 + wa (s (5 + (s 3).toNat)) (s 1) pl + 1) + wa (s (5 + (wt (s 3).toNat).toNat)) (s 1 + wa (s (5 + (s 3).toNat)) (s 1) pl + 1) pl + 1) (fun q2 k2 u1 u2 => by rw [y1 _ _ u1 (by omega), z1 _ _ u1 u2]) (fun c h1 h2 => ?_) (by unfold bt; rw [if_pos had]) (fun hh => ?_)
               · by_cases e : c = 1
                 · subst e
                   rw [y4, if_pos rfl]
                 · rw [y1 _ _ (by omega) (by omega), z2 c h1 h2, if_neg e, if_neg e]
               · unfold wts rds
                 rw [if_pos had, if_pos had]
                 rw [dz_wid (by omega) (by omega)] at z3
                 rw [dz_wid (by omega) (by omega)] at z4
                 rw [z3, dz_wid (by omega) (by omega)] at y2
                 rw [z4, dz_wid (by omega) (by omega)] at y3
                 omega)
            | (have had : ¬ (kd (s 3).toNat = 1 ∨ kd (s 3).toNat = 3 ∨ kd (s 3).toNat = 4) := by omega
               refine t2 M1 (s 1 + wa (s (5 + (s 3).toNat)) (s 1) pl + 1) z1 z2 (by unfold bt; rw [if_neg had]) (fun hh => ?_)
               unfold wts rds
               rw [if_neg had, if_neg had]
               rw [dz_wid (by omega) (by omega)] at z3
               rw [dz_wid (by omega) (by omega)] at z4
               omega)
        · refine xr_aloadn hc rfl rfl ?_
          refine xr_iloadn hc rfl rfl ?_
          refine xr_iload hc rfl rfl ?_
          refine xr_callv2 hc rfl (by first | assumption | rfl) rfl rfl rfl (Nat.le_of_ble_eq_true rfl) (Nat.zero_le _) (Nat.zero_le _) ?_
          refine D_reads hl hb (by rw [z1 _ _ (by omega) (by omega)]; exact hpg.2.1) ⟨p3, p4⟩ (by omega) (by rw [z1 _ _ (by omega) (by omega)]; exact hld) (by rw [v5]; omega) (by rw [v1]; omega) (fun M2 y1 y2 y3 y4 => ?_)
          rw [v5, v1] at y2 y4
          refine xk_0 ?_
          first
            | (have had : (kd (s 3).toNat = 1 ∨ kd (s 3).toNat = 3 ∨ kd (s 3).toNat = 4) := by omega
               refine t2 M2 ((s 1 + wa (s (5 + (s 3).toNat)) (s 1) pl + 1) + wa (s (5 + (wt (s 3).toNat).toNat)) (s 1 + wa (s (5 + (s 3).toNat)) (s 1) pl + 1) pl + 1) (fun q2 k2 u1 u2 => by rw [y1 _ _ u1 (by omega), z1 _ _ u1 u2]) (fun c h1 h2 => ?_) (by unfold bt; rw [if_pos had]) (fun hh => ?_)
               · by_cases e : c = 1
                 · subst e
                   rw [y4, if_pos rfl]
                 · rw [y1 _ _ (by omega) (by omega), z2 c h1 h2, if_neg e, if_neg e]
               · unfold wts rds
                 rw [if_pos had, if_pos had]
                 rw [dz_wid (by omega) (by omega)] at z3
                 rw [dz_wid (by omega) (by omega)] at z4
                 rw [z3, dz_wid (by omega) (by omega)] at y2
                 rw [z4, dz_wid (by omega) (by omega)] at y3
                 omega)
            | (have had : ¬ (kd (s 3).toNat = 1 ∨ kd (s 3).toNat = 3 ∨ kd (s 3).toNat = 4) := by omega
               refine t2 M1 (s 1 + wa (s (5 + (s 3).toNat)) (s 1) pl + 1) z1 z2 (by unfold bt; rw [if_neg had]) (fun hh => ?_)
               unfold wts rds
               rw [if_neg had, if_neg had]
               rw [dz_wid (by omega) (by omega)] at z3
               rw [dz_wid (by omega) (by omega)] at z4
               omega)
  refine xr_aloadn hc rfl rfl ?_
  refine xr_getfr hc rfl rfl (by first | assumption | rfl) (by first | assumption | rfl) ?_
  refine xr_iloadn hc rfl rfl ?_
  refine xr_iconst hc rfl ?_
  refine xr_iaddz hc rfl (by first | exact dz_wid (by first | omega | (unfold dz_w; omega)) (by first | omega | (unfold dz_w; omega)) | rfl) ?_
  first | refine xr_iaload hc rfl (by first | assumption | rfl) (by first | omega | (unfold dz_w; omega)) (by first | omega | (unfold dz_w; omega)) ?_ | refine xr_ialoado hc rfl (by first | omega | (unfold dz_w; omega)) (by first | omega | (unfold dz_w; omega)) ?_
  rw [j3, r3]
  refine xr_istore2 hc rfl rfl ?_
  refine xr_aloadn hc rfl rfl ?_
  refine xr_getfr hc rfl rfl (by first | assumption | rfl) (by first | assumption | rfl) ?_
  refine xr_iloadn hc rfl rfl ?_
  first | refine xr_iaload hc rfl (by first | assumption | rfl) (by first | omega | (unfold dz_w; omega)) (by first | omega | (unfold dz_w; omega)) ?_ | refine xr_ialoado hc rfl (by first | omega | (unfold dz_w; omega)) (by first | omega | (unfold dz_w; omega)) ?_
  rw [x1]
  refine xr_istore3 hc rfl rfl ?_
  refine xr_aloadn hc rfl rfl ?_
  refine xr_getfr hc rfl rfl (by first | assumption | rfl) (by first | assumption | rfl) ?_
  refine xr_iloadn hc rfl rfl ?_
  first | refine xr_iaload hc rfl (by first | assumption | rfl) (by first | omega | (unfold dz_w; omega)) (by first | omega | (unfold dz_w; omega)) ?_ | refine xr_ialoado hc rfl (by first | omega | (unfold dz_w; omega)) (by first | omega | (unfold dz_w; omega)) ?_
  rw [x2]
  refine xr_istore4 hc rfl rfl ?_
  refine xr_aloadn hc rfl rfl ?_
  refine xr_iloadn hc rfl rfl ?_
  refine xr_iloadn hc rfl rfl ?_
  refine xr_callv2 hc rfl (by first | assumption | rfl) rfl rfl rfl (Nat.le_of_ble_eq_true rfl) (Nat.zero_le _) (Nat.zero_le _) ?_
  refine D_reads hl hb g1 ⟨p3, p4⟩ (by omega) hld (by rw [r5]; omega) (by rw [r1]; omega) (fun M1 y1 y2 y3 y4 => ?_)
  rw [r5, r1] at y2 y4
  have FF : ∀ q2 k2, q2 ≠ 115 → q2 ≠ 116 → dz_up (dz_up M1 116 (b + (17 + (s 3).toNat)) (s (17 + (s 3).toNat) + 1)) 116 (b + 4) (s 4 + 1) q2 k2 = M q2 k2 := fun q2 k2 u1 u2 => by rw [dz_up_ne u2, dz_up_ne u2, y1 _ _ (by omega) (by omega)]
  refine xk_0 ?_
  refine xr_aloadn hc rfl rfl ?_
  refine xr_getfr hc rfl rfl (by first | assumption | rfl) (by first | assumption | rfl) ?_
  refine xr_iloadn hc rfl rfl ?_
  refine xr_bipush hc rfl ?_
  refine xr_iaddz hc rfl (by first | exact dz_wid (by first | omega | (unfold dz_w; omega)) (by first | omega | (unfold dz_w; omega)) | rfl) ?_
  refine xr_iloadn hc rfl rfl ?_
  refine xr_iaddz hc rfl (by first | exact dz_wid (by first | omega | (unfold dz_w; omega)) (by first | omega | (unfold dz_w; omega)) | rfl) ?_
  refine xr_dup2i hc rfl ?_
  first | refine xr_iaload hc rfl (by first | assumption | rfl) (by first | omega | (unfold dz_w; omega)) (by first | omega | (unfold dz_w; omega)) ?_ | refine xr_ialoado hc rfl (by first | omega | (unfold dz_w; omega)) (by first | omega | (unfold dz_w; omega)) ?_
  rw [j17, y1 _ _ (by omega) (by omega), r17]
  refine xr_iconst hc rfl ?_
  refine xr_iaddz hc rfl (by first | exact dz_wid (by first | omega | (unfold dz_w; omega)) (by first | omega | (unfold dz_w; omega)) | rfl) ?_
  refine xr_iastore hc rfl (by first | assumption | rfl) (by first | omega | (unfold dz_w; omega)) (by first | omega | (unfold dz_w; omega)) ?_
  rw [j17]
  refine xr_aloadn hc rfl rfl ?_
  refine xr_getfr hc rfl rfl (by first | assumption | rfl) (by first | assumption | rfl) ?_
  refine xr_iloadn hc rfl rfl ?_
  refine xr_iconst hc rfl ?_
  refine xr_iaddz hc rfl (by first | exact dz_wid (by first | omega | (unfold dz_w; omega)) (by first | omega | (unfold dz_w; omega)) | rfl) ?_
  refine xr_dup2i hc rfl ?_
  first | refine xr_iaload hc rfl (by first | assumption | rfl) (by first | omega | (unfold dz_w; omega)) (by first | omega | (unfold dz_w; omega)) ?_ | refine xr_ialoado hc rfl (by first | omega | (unfold dz_w; omega)) (by first | omega | (unfold dz_w; omega)) ?_
  rw [j4, dz_up_k (by omega), y1 _ _ (by omega) (by omega), r4]
  refine xr_iconst hc rfl ?_
  refine xr_iaddz hc rfl (by first | exact dz_wid (by first | omega | (unfold dz_w; omega)) (by first | omega | (unfold dz_w; omega)) | rfl) ?_
  refine xr_iastore hc rfl (by first | assumption | rfl) (by first | omega | (unfold dz_w; omega)) (by first | omega | (unfold dz_w; omega)) ?_
  rw [j4]
  refine xr_aloadn hc rfl rfl ?_
  refine xr_getfr hc rfl rfl (by first | assumption | rfl) (by first | assumption | rfl) ?_
  refine xr_iloadn hc rfl rfl ?_
  refine xr_iconst hc rfl ?_
  refine xr_iaddz hc rfl (by first | exact dz_wid (by first | omega | (unfold dz_w; omega)) (by first | omega | (unfold dz_w; omega)) | rfl) ?_
  refine xr_iloadn hc rfl rfl ?_
  refine xr_if_ne hc rfl (t := 73) rfl (fun b65 => ?_) (fun b65 => ?_)
  · refine xr_iloadn hc rfl rfl ?_
    refine xr_iconst hc rfl ?_
    refine xr_icmp_ne hc rfl (t := 96) rfl (fun b75 => ?_) (fun b75 => ?_)
    · refine xr_aloadn hc rfl rfl ?_
      refine xr_getfr hc rfl rfl (by first | assumption | rfl) (by first | assumption | rfl) ?_
      refine xr_iloadn hc rfl rfl ?_
      first | refine xr_iaload hc rfl (by first | assumption | rfl) (by first | omega | (unfold dz_w; omega)) (by first | omega | (unfold dz_w; omega)) ?_ | refine xr_ialoado hc rfl (by first | omega | (unfold dz_w; omega)) (by first | omega | (unfold dz_w; omega)) ?_
      refine xr_iastore hc rfl (by first | assumption | rfl) (by first | omega | (unfold dz_w; omega)) (by first | omega | (unfold dz_w; omega)) ?_
      first
        | rw [j3]
        | skip
      refine t1 _ (fun q2 k2 u1 u2 => ?_) (fun c h1 h2 => ?_) ?_ ?_
      · by_cases e : q2 = 116
        · subst e
          rw [dz_up_k (by omega), dz_up_k (by omega), dz_up_k (by omega), y1 _ _ (by omega) (by omega)]
        · rw [dz_up_ne e, dz_up_ne e, dz_up_ne e, y1 _ _ u1 (by omega)]
      · by_cases f3 : c = 3
        · subst f3
          rw [dz_up_eq, if_neg (by omega), if_pos rfl]
          unfold du
          first
            | rw [if_pos (by omega)]
            | rw [if_neg (by omega), if_pos (by omega)]
            | (rw [if_neg (by omega), if_neg (by omega), FF _ _ (by omega) (by omega), x3])
        · rw [dz_up_k (by omega)]
          by_cases f4 : c = 4
          · subst f4
            rw [dz_up_eq, if_neg (by omega), if_neg (by omega), if_pos rfl]
          · rw [dz_up_k (by omega)]
            by_cases f17 : c = 17 + (s 3).toNat
            · subst f17
              rw [dz_up_eq, if_neg (by omega), if_neg (by omega), if_neg (by omega), if_pos rfl, r17]
            · rw [dz_up_k (by omega)]
              by_cases f1 : c = 1
              · subst f1
                rw [if_pos rfl, y4]
              · rw [y1 _ _ (by omega) (by omega), if_neg f1, if_neg f3, if_neg f4, if_neg f17]
      · rw [dz_up_ne (by omega), dz_up_ne (by omega), dz_up_ne (by omega), y2]
      · rw [dz_up_ne (by omega), dz_up_ne (by omega), dz_up_ne (by omega), y3]
    · refine xr_aloadn hc rfl rfl ?_
      refine xr_getfr hc rfl rfl (by first | assumption | rfl) (by first | assumption | rfl) ?_
      refine xr_iloadn hc rfl rfl ?_
      refine xr_iconst hc rfl ?_
      refine xr_iaddz hc rfl (by first | exact dz_wid (by first | omega | (unfold dz_w; omega)) (by first | omega | (unfold dz_w; omega)) | rfl) ?_
      first | refine xr_iaload hc rfl (by first | assumption | rfl) (by first | omega | (unfold dz_w; omega)) (by first | omega | (unfold dz_w; omega)) ?_ | refine xr_ialoado hc rfl (by first | omega | (unfold dz_w; omega)) (by first | omega | (unfold dz_w; omega)) ?_
      rw [j2, dz_up_k (by omega), dz_up_k (by omega), y1 _ _ (by omega) (by omega), r2]
      refine xr_bipush hc rfl ?_
      refine xr_icmp_le hc rfl (t := 96) rfl (fun b88 => ?_) (fun b88 => ?_)
      · refine xr_aloadn hc rfl rfl ?_
        refine xr_getfr hc rfl rfl (by first | assumption | rfl) (by first | assumption | rfl) ?_
        refine xr_iloadn hc rfl rfl ?_
        first | refine xr_iaload hc rfl (by first | assumption | rfl) (by first | omega | (unfold dz_w; omega)) (by first | omega | (unfold dz_w; omega)) ?_ | refine xr_ialoado hc rfl (by first | omega | (unfold dz_w; omega)) (by first | omega | (unfold dz_w; omega)) ?_
        refine xr_iastore hc rfl (by first | assumption | rfl) (by first | omega | (unfold dz_w; omega)) (by first | omega | (unfold dz_w; omega)) ?_
        first
          | rw [j3]
          | skip
        refine t1 _ (fun q2 k2 u1 u2 => ?_) (fun c h1 h2 => ?_) ?_ ?_
        · by_cases e : q2 = 116
          · subst e
            rw [dz_up_k (by omega), dz_up_k (by omega), dz_up_k (by omega), y1 _ _ (by omega) (by omega)]
          · rw [dz_up_ne e, dz_up_ne e, dz_up_ne e, y1 _ _ u1 (by omega)]
        · by_cases f3 : c = 3
          · subst f3
            rw [dz_up_eq, if_neg (by omega), if_pos rfl]
            unfold du
            first
              | rw [if_pos (by omega)]
              | rw [if_neg (by omega), if_pos (by omega)]
              | (rw [if_neg (by omega), if_neg (by omega), FF _ _ (by omega) (by omega), x3])
          · rw [dz_up_k (by omega)]
            by_cases f4 : c = 4
            · subst f4
              rw [dz_up_eq, if_neg (by omega), if_neg (by omega), if_pos rfl]
            · rw [dz_up_k (by omega)]
              by_cases f17 : c = 17 + (s 3).toNat
              · subst f17
                rw [dz_up_eq, if_neg (by omega), if_neg (by omega), if_neg (by omega), if_pos rfl, r17]
              · rw [dz_up_k (by omega)]
                by_cases f1 : c = 1
                · subst f1
                  rw [if_pos rfl, y4]
                · rw [y1 _ _ (by omega) (by omega), if_neg f1, if_neg f3, if_neg f4, if_neg f17]
        · rw [dz_up_ne (by omega), dz_up_ne (by omega), dz_up_ne (by omega), y2]
        · rw [dz_up_ne (by omega), dz_up_ne (by omega), dz_up_ne (by omega), y3]
      · refine xr_iload hc rfl rfl ?_
        refine xr_goto hc rfl (t := 102) rfl ?_
        refine xr_iastore hc rfl (by first | assumption | rfl) (by first | omega | (unfold dz_w; omega)) (by first | omega | (unfold dz_w; omega)) ?_
        first
          | rw [j3]
          | skip
        refine t1 _ (fun q2 k2 u1 u2 => ?_) (fun c h1 h2 => ?_) ?_ ?_
        · by_cases e : q2 = 116
          · subst e
            rw [dz_up_k (by omega), dz_up_k (by omega), dz_up_k (by omega), y1 _ _ (by omega) (by omega)]
          · rw [dz_up_ne e, dz_up_ne e, dz_up_ne e, y1 _ _ u1 (by omega)]
        · by_cases f3 : c = 3
          · subst f3
            rw [dz_up_eq, if_neg (by omega), if_pos rfl]
            unfold du
            first
              | rw [if_pos (by omega)]
              | rw [if_neg (by omega), if_pos (by omega)]
              | (rw [if_neg (by omega), if_neg (by omega), FF _ _ (by omega) (by omega), x3])
          · rw [dz_up_k (by omega)]
            by_cases f4 : c = 4
            · subst f4
              rw [dz_up_eq, if_neg (by omega), if_neg (by omega), if_pos rfl]
            · rw [dz_up_k (by omega)]
              by_cases f17 : c = 17 + (s 3).toNat
              · subst f17
                rw [dz_up_eq, if_neg (by omega), if_neg (by omega), if_neg (by omega), if_pos rfl, r17]
              · rw [dz_up_k (by omega)]
                by_cases f1 : c = 1
                · subst f1
                  rw [if_pos rfl, y4]
                · rw [y1 _ _ (by omega) (by omega), if_neg f1, if_neg f3, if_neg f4, if_neg f17]
        · rw [dz_up_ne (by omega), dz_up_ne (by omega), dz_up_ne (by omega), y2]
        · rw [dz_up_ne (by omega), dz_up_ne (by omega), dz_up_ne (by omega), y3]
  · refine xr_bipush hc rfl ?_
    refine xr_goto hc rfl (t := 102) rfl ?_
    refine xr_iastore hc rfl (by first | assumption | rfl) (by first | omega | (unfold dz_w; omega)) (by first | omega | (unfold dz_w; omega)) ?_
    first
      | rw [j3]
      | skip
    refine t1 _ (fun q2 k2 u1 u2 => ?_) (fun c h1 h2 => ?_) ?_ ?_
    · by_cases e : q2 = 116
      · subst e
        rw [dz_up_k (by omega), dz_up_k (by omega), dz_up_k (by omega), y1 _ _ (by omega) (by omega)]
      · rw [dz_up_ne e, dz_up_ne e, dz_up_ne e, y1 _ _ u1 (by omega)]
    · by_cases f3 : c = 3
      · subst f3
        rw [dz_up_eq, if_neg (by omega), if_pos rfl]
        unfold du
        first
          | rw [if_pos (by omega)]
          | rw [if_neg (by omega), if_pos (by omega)]
          | (rw [if_neg (by omega), if_neg (by omega), FF _ _ (by omega) (by omega), x3])
      · rw [dz_up_k (by omega)]
        by_cases f4 : c = 4
        · subst f4
          rw [dz_up_eq, if_neg (by omega), if_neg (by omega), if_pos rfl]
        · rw [dz_up_k (by omega)]
          by_cases f17 : c = 17 + (s 3).toNat
          · subst f17
            rw [dz_up_eq, if_neg (by omega), if_neg (by omega), if_neg (by omega), if_pos rfl, r17]
          · rw [dz_up_k (by omega)]
            by_cases f1 : c = 1
            · subst f1
              rw [if_pos rfl, y4]
            · rw [y1 _ _ (by omega) (by omega), if_neg f1, if_neg f3, if_neg f4, if_neg f17]
    · rw [dz_up_ne (by omega), dz_up_ne (by omega), dz_up_ne (by omega), y2]
    · rw [dz_up_ne (by omega), dz_up_ne (by omega), dz_up_ne (by omega), y3]
