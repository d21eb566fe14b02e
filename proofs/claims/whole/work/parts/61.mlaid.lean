/-! Steps of the other one that lay words as they come to be read. Written by l2_61.py. -/
def enc (x : Int) : Int := if x = -9 then -1 else x
theorem enc_ne {x : Int} (h : x ≠ -9) : enc x = x := if_neg h
theorem enc_lt {x : Int} (h : x = -9 ∨ 0 ≤ x) : enc x < 0 ↔ x = -9 := by
  unfold enc
  split <;> omega
theorem free_enc {f sp : Nat → Int} {w p : Int} (hw : 0 ≤ w) (hp : 0 ≤ p) (h : ∀ k : Nat, (k : Int) < w → f k = enc (sp k)) (hs : ∀ k : Nat, (k : Int) < w → sp k = -9 ∨ 0 ≤ sp k) : free f w p ↔ ly_at sp p w.toNat 0 = -9 := by
  rw [ly_free hw]
  refine ⟨fun z k hk => ?_, fun z k hk => ?_⟩
  · have z1 := z k hk
    rw [h k hk] at z1
    unfold enc at z1
    rcases hs k hk with e | e
    · omega
    · rw [if_neg (by omega)] at z1
      exact z1
  · have z1 := z k hk
    rw [h k hk]
    unfold enc
    split <;> omega
set_option maxRecDepth 100000 in
theorem D_layWord {xo : Nat → List Int} {d : Nat} {Q : dz_Q} {sh : List (Nat ⊕ (Nat × Nat))} {rf : Nat → Nat → Nat} {M : Nat → Nat → Int} {i w pl t : Int} {sp : Nat → Int} (hl : ml sh rf) (hpl : M 115 1 = pl) (hww : M 115 2 = w) (hw : 2 ≤ w ∧ w ≤ 6) (h69 : 6 ≤ pl ∧ pl ≤ 9) (hi : 0 ≤ i ∧ i < w) (hbt : M 116 (3612 + 1) = t) (ht : 0 ≤ t ∧ t ≤ 990000) (hsp : ∀ k : Nat, (k : Int) < w → M 116 (3612 + (5 + k)) = enc (sp k)) (hok : spok w pl sp) (h9 : sp i.toNat = -9) (hQ : Q none (sh, rf, dz_up M 116 (3612 + (5 + i.toNat)) (cff pl w sp t pl.toNat 0))) : dz_E dz_pp xo (d + 2) 149 [dz_r 115, dz_i 3612, dz_i i] (sh, rf, M) Q := by
  refine ⟨Nat.le_of_ble_eq_true rfl, ?_⟩
  have hc := dz_E_m dz_pp xo (d + 1)
  show dz_X (dz_E dz_pp xo (d + 1)) dz_pp xo (dz_pp 149) Q 0 [some (dz_r 115), some (dz_i 3612), some (dz_i i), none] [] 0 0 (sh, rf, M)
  obtain ⟨c0, c1, c2, c3, c4, c5, c6, c7, c8, c9, c10, c11, c12, c13, c14, c15, c16, c17, c18, c19, c20, c21, c22, c23, c24, c25, c26, c27, c28, c29⟩ := id hl
  have hs0 : ∀ k : Nat, (k : Int) < w → sp k = -9 ∨ 0 ≤ sp k := fun k hk => (hok k hk).imp id (fun z => z.1)
  have ix : ((3612 : Int) + 5 + i).toNat = 3612 + (5 + i.toNat) := by omega
  have iy : M 116 (Int.toNat (3612 + 1)) = t := hbt
  obtain ⟨dd, hd1, hd2⟩ := fr_off (t := t) (pl := pl) (w := w) (by omega) (by omega) (i := i.toNat) (by omega) h9
  obtain ⟨e, e1, e2, e3, e4, e5⟩ := cff_at pl.toNat 0 dd (by omega) (by omega) hd2
  have em0 : Int.tmod t pl = (t + ((0 : Nat) : Int)) % pl := by
    rw [Int.tmod_eq_emod_of_nonneg (by omega)]
    congr 1
    omega
  have lp : ∀ (m_ : Nat) (i0 : Nat), i0 + m_ = e → dz_X (dz_E dz_pp xo (d + 1)) dz_pp xo (dz_pp 149) Q 14 [some (dz_r 115), some (dz_i 3612), some (dz_i i), some (dz_i ((t + i0) % pl))] [] 0 0 (sh, rf, M) := by
    intro m_
    induction m_ with
    | zero =>
      intro i0 hi0
      have ei : i0 = e := by omega
      subst ei
      have hp0 : 0 ≤ (t + (i0 : Int)) % pl := Int.emod_nonneg _ (by omega)
      have hfe := free_enc (f := fun k => M 116 (3612 + (5 + k))) (p := (t + (i0 : Int)) % pl) (by omega) hp0 hsp hs0
      refine xr_aloadn hc rfl rfl ?_
      refine xr_iloadn hc rfl rfl ?_
      refine xr_iloadn hc rfl rfl ?_
      refine xr_callv2 hc rfl (by first | assumption | rfl) rfl rfl rfl (Nat.le_of_ble_eq_true rfl) (Nat.zero_le _) (Nat.zero_le _) ?_
      refine D_isFree (b := 3612) hl (by omega) hww (by omega) (fun y1 => ?_) (fun y1 => ?_)
      · refine xk_1 ?_
        refine xr_ift hc rfl (t := 35) rfl (by simp [dz_cmp]) ?_
        refine xr_aloadn hc rfl rfl ?_
        refine xr_getfr hc rfl rfl (by first | assumption | rfl) (by first | assumption | rfl) ?_
        refine xr_iloadn hc rfl rfl ?_
        refine xr_iconst hc rfl ?_
        refine xr_iaddz hc rfl (by first | exact dz_wid (by first | omega | (unfold dz_w; omega)) (by first | omega | (unfold dz_w; omega)) | rfl) ?_
        refine xr_iloadn hc rfl rfl ?_
        refine xr_iaddz hc rfl (by first | exact dz_wid (by first | omega | (unfold dz_w; omega)) (by first | omega | (unfold dz_w; omega)) | rfl) ?_
        refine xr_iloadn hc rfl rfl ?_
        refine xr_iastore hc rfl (by first | assumption | rfl) (by first | omega | (unfold dz_w; omega)) (by first | omega | (unfold dz_w; omega)) ?_
        refine xr_return hc rfl rfl (Nat.zero_le _) (Nat.zero_le _) ?_
        rw [ix, ← e3]
        exact hQ
      · refine xk_1 ?_
        refine xr_iff hc rfl (by simp [dz_cmp]) ?_
        exact absurd (hfe.mpr e4) y1
    | succ m_ ih =>
      intro i0 hi0
      have hp0 : 0 ≤ (t + (i0 : Int)) % pl := Int.emod_nonneg _ (by omega)
      have hp1 : (t + (i0 : Int)) % pl < pl := Int.emod_lt_of_pos _ (by omega)
      have hfe := free_enc (f := fun k => M 116 (3612 + (5 + k))) (p := (t + (i0 : Int)) % pl) (by omega) hp0 hsp hs0
      have em : Int.tmod ((t + (i0 : Int)) % pl + 1) pl = (t + ((i0 + 1 : Nat) : Int)) % pl := by
        rw [Int.tmod_eq_emod_of_nonneg (by omega), Int.emod_add_emod]
        congr 1
        omega
      refine xr_aloadn hc rfl rfl ?_
      refine xr_iloadn hc rfl rfl ?_
      refine xr_iloadn hc rfl rfl ?_
      refine xr_callv2 hc rfl (by first | assumption | rfl) rfl rfl rfl (Nat.le_of_ble_eq_true rfl) (Nat.zero_le _) (Nat.zero_le _) ?_
      refine D_isFree (b := 3612) hl (by omega) hww (by omega) (fun y1 => ?_) (fun y1 => ?_)
      · refine xk_1 ?_
        refine xr_ift hc rfl (t := 35) rfl (by simp [dz_cmp]) ?_
        exact absurd (hfe.mp y1) (e5 i0 (by omega) (by omega))
      · refine xk_1 ?_
        refine xr_iff hc rfl (by simp [dz_cmp]) ?_
        refine xr_iloadn hc rfl rfl ?_
        refine xr_iconst hc rfl ?_
        refine xr_iaddz hc rfl (by first | exact dz_wid (by first | omega | (unfold dz_w; omega)) (by first | omega | (unfold dz_w; omega)) | rfl) ?_
        refine xr_aloadn hc rfl rfl ?_
        refine xr_getfi hc rfl (Or.inl rfl) (by first | assumption | rfl) ?_
        rw [hpl]
        refine xr_irem hc rfl (by first | omega | (unfold dz_w; omega)) ?_
        rw [em]
        refine xr_istore3 hc rfl rfl ?_
        refine xr_goto hc rfl (t := 14) rfl ?_
        exact ih (i0 + 1) (by omega)
  refine xr_aloadn hc rfl rfl ?_
  refine xr_getfr hc rfl rfl (by first | assumption | rfl) (by first | assumption | rfl) ?_
  refine xr_iloadn hc rfl rfl ?_
  refine xr_iconst hc rfl ?_
  refine xr_iaddz hc rfl (by first | exact dz_wid (by first | omega | (unfold dz_w; omega)) (by first | omega | (unfold dz_w; omega)) | rfl) ?_
  first | refine xr_iaload hc rfl (by first | assumption | rfl) (by first | omega | (unfold dz_w; omega)) (by first | omega | (unfold dz_w; omega)) ?_ | refine xr_ialoado hc rfl (by first | omega | (unfold dz_w; omega)) (by first | omega | (unfold dz_w; omega)) ?_
  rw [iy]
  refine xr_aloadn hc rfl rfl ?_
  refine xr_getfi hc rfl (Or.inl rfl) (by first | assumption | rfl) ?_
  rw [hpl]
  refine xr_irem hc rfl (by first | omega | (unfold dz_w; omega)) ?_
  rw [em0]
  refine xr_istore3 hc rfl rfl ?_
  exact lp e 0 (by omega)
set_option maxRecDepth 100000 in
theorem D_readsL {xo : Nat → List Int} {d : Nat} {Q : dz_Q} {sh : List (Nat ⊕ (Nat × Nat))} {rf : Nat → Nat → Nat} {M : Nat → Nat → Int} {i w pl t : Int} {sp : Nat → Int} (hl : ml sh rf) (hpl : M 115 1 = pl) (hww : M 115 2 = w) (hw : 2 ≤ w ∧ w ≤ 6) (h69 : 6 ≤ pl ∧ pl ≤ 9) (hi : 0 ≤ i ∧ i < w) (hld : M 115 23 = 1) (hbt : M 116 (3612 + 1) = t) (ht : 0 ≤ t ∧ t ≤ 980000) (hsp : ∀ k : Nat, (k : Int) < w → M 116 (3612 + (5 + k)) = enc (sp k)) (hok : spok w pl sp) (hQ : ∀ M2 : Nat → Nat → Int, (∀ q2 k2, ¬ (q2 = 115 ∧ (k2 = 21 ∨ k2 = 22)) → ¬ (q2 = 116 ∧ (k2 = 3612 + 1 ∨ k2 = 3612 + (5 + i.toNat))) → M2 q2 k2 = M q2 k2) → M2 116 (3612 + (5 + i.toNat)) = (clay pl w sp i.toNat t) i.toNat → M2 116 (3612 + 1) = t + wa ((clay pl w sp i.toNat t) i.toNat) t pl + 1 → Q none (sh, rf, M2)) : dz_E dz_pp xo (d + 3) 151 [dz_r 115, dz_i 3612, dz_i i] (sh, rf, M) Q := by
  refine ⟨Nat.le_of_ble_eq_true rfl, ?_⟩
  have hc := dz_E_m dz_pp xo (d + 2)
  show dz_X (dz_E dz_pp xo (d + 2)) dz_pp xo (dz_pp 151) Q 0 [some (dz_r 115), some (dz_i 3612), some (dz_i i), none] [] 0 0 (sh, rf, M)
  obtain ⟨c0, c1, c2, c3, c4, c5, c6, c7, c8, c9, c10, c11, c12, c13, c14, c15, c16, c17, c18, c19, c20, c21, c22, c23, c24, c25, c26, c27, c28, c29⟩ := id hl
  have ix : ((3612 : Int) + 5 + i).toNat = 3612 + (5 + i.toNat) := by omega
  have iy : ((3612 : Int) + 1).toNat = 3612 + 1 := rfl
  have hcl := clay_ok (t := t) (pl := pl) (w := w) (sp := sp) (i := i.toNat) (by omega) (by omega) (by omega) hok
  have hwa := wa_in (p := (clay pl w sp i.toNat t) i.toNat) (b := t) (pl := pl) (by omega)
  have hspi := hsp i.toNat (by omega)
  have hel := enc_lt (x := sp i.toNat) ((hok i.toNat (by omega)).imp id (fun z => z.1))
  have t26 : ∀ (M1 : Nat → Nat → Int), (∀ q2 k2, ¬ (q2 = 116 ∧ k2 = 3612 + (5 + i.toNat)) → M1 q2 k2 = M q2 k2) → M1 116 (3612 + (5 + i.toNat)) = (clay pl w sp i.toNat t) i.toNat → dz_X (dz_E dz_pp xo (d + 2)) dz_pp xo (dz_pp 151) Q 26 [some (dz_r 115), some (dz_i 3612), some (dz_i i), none] [] 0 0 (sh, rf, M1) := by
    intro M1 f1 f2
    have f3 : M1 116 (3612 + 1) = t := by rw [f1 _ _ (by omega)]; exact hbt
    have f4 : M1 115 1 = pl := by rw [f1 _ _ (by omega)]; exact hpl
    refine xr_aloadn hc rfl rfl ?_
    refine xr_aloadn hc rfl rfl ?_
    refine xr_getfr hc rfl rfl (by first | assumption | rfl) (by first | assumption | rfl) ?_
    refine xr_iloadn hc rfl rfl ?_
    refine xr_iconst hc rfl ?_
    refine xr_iaddz hc rfl (by first | exact dz_wid (by first | omega | (unfold dz_w; omega)) (by first | omega | (unfold dz_w; omega)) | rfl) ?_
    refine xr_iloadn hc rfl rfl ?_
    refine xr_iaddz hc rfl (by first | exact dz_wid (by first | omega | (unfold dz_w; omega)) (by first | omega | (unfold dz_w; omega)) | rfl) ?_
    first | refine xr_iaload hc rfl (by first | assumption | rfl) (by first | omega | (unfold dz_w; omega)) (by first | omega | (unfold dz_w; omega)) ?_ | refine xr_ialoado hc rfl (by first | omega | (unfold dz_w; omega)) (by first | omega | (unfold dz_w; omega)) ?_
    rw [ix, f2]
    refine xr_aloadn hc rfl rfl ?_
    refine xr_getfr hc rfl rfl (by first | assumption | rfl) (by first | assumption | rfl) ?_
    refine xr_iloadn hc rfl rfl ?_
    refine xr_iconst hc rfl ?_
    refine xr_iaddz hc rfl (by first | exact dz_wid (by first | omega | (unfold dz_w; omega)) (by first | omega | (unfold dz_w; omega)) | rfl) ?_
    first | refine xr_iaload hc rfl (by first | assumption | rfl) (by first | omega | (unfold dz_w; omega)) (by first | omega | (unfold dz_w; omega)) ?_ | refine xr_ialoado hc rfl (by first | omega | (unfold dz_w; omega)) (by first | omega | (unfold dz_w; omega)) ?_
    rw [iy, f3]
    refine xr_callv2 hc rfl (by first | assumption | rfl) rfl rfl rfl (Nat.le_of_ble_eq_true rfl) (Nat.zero_le _) (Nat.zero_le _) ?_
    refine D_waitsFor hl f4 h69 (by omega) (by omega) ?_
    refine xk_1 ?_
    refine xr_istore3 hc rfl rfl ?_
    refine xr_aloadn hc rfl rfl ?_
    refine xr_dup hc rfl rfl ?_
    refine xr_getfi hc rfl (Or.inl rfl) (by first | assumption | rfl) ?_
    refine xr_iloadn hc rfl rfl ?_
    refine xr_iaddz hc rfl (by first | exact dz_wid (by first | omega | (unfold dz_w; omega)) (by first | omega | (unfold dz_w; omega)) | rfl) ?_
    refine xr_putfi hc rfl rfl (by first | assumption | rfl) ?_
    refine xr_aloadn hc rfl rfl ?_
    refine xr_dup hc rfl rfl ?_
    refine xr_getfi hc rfl (Or.inl rfl) (by first | assumption | rfl) ?_
    refine xr_iconst hc rfl ?_
    refine xr_iaddz hc rfl (by first | exact dz_wid (by first | omega | (unfold dz_w; omega)) (by first | omega | (unfold dz_w; omega)) | rfl) ?_
    refine xr_putfi hc rfl rfl (by first | assumption | rfl) ?_
    refine xr_aloadn hc rfl rfl ?_
    refine xr_getfr hc rfl rfl (by first | assumption | rfl) (by first | assumption | rfl) ?_
    refine xr_iloadn hc rfl rfl ?_
    refine xr_iconst hc rfl ?_
    refine xr_iaddz hc rfl (by first | exact dz_wid (by first | omega | (unfold dz_w; omega)) (by first | omega | (unfold dz_w; omega)) | rfl) ?_
    refine xr_dup2i hc rfl ?_
    first | refine xr_iaload hc rfl (by first | assumption | rfl) (by first | omega | (unfold dz_w; omega)) (by first | omega | (unfold dz_w; omega)) ?_ | refine xr_ialoado hc rfl (by first | omega | (unfold dz_w; omega)) (by first | omega | (unfold dz_w; omega)) ?_
    rw [iy, dz_up_ne (by omega), dz_up_ne (by omega), f3]
    refine xr_iloadn hc rfl rfl ?_
    refine xr_iconst hc rfl ?_
    refine xr_iaddz hc rfl (by first | exact dz_wid (by first | omega | (unfold dz_w; omega)) (by first | omega | (unfold dz_w; omega)) | rfl) ?_
    refine xr_iaddz hc rfl (by first | exact dz_wid (by first | omega | (unfold dz_w; omega)) (by first | omega | (unfold dz_w; omega)) | rfl) ?_
    refine xr_iastore hc rfl (by first | assumption | rfl) (by first | omega | (unfold dz_w; omega)) (by first | omega | (unfold dz_w; omega)) ?_
    refine xr_return hc rfl rfl (Nat.zero_le _) (Nat.zero_le _) ?_
    rw [iy]
    refine hQ _ (fun q2 k2 u1 u2 => ?_) ?_ ?_
    · by_cases e : q2 = 115
      · subst e
        rw [dz_up_ne (by omega), dz_up_k (by omega), dz_up_k (by omega), f1 _ _ (by omega)]
      · by_cases e2 : q2 = 116
        · subst e2
          rw [dz_up_k (by omega), dz_up_ne (by omega), dz_up_ne (by omega), f1 _ _ (by omega)]
        · rw [dz_up_ne (by omega), dz_up_ne (by omega), dz_up_ne (by omega), f1 _ _ (by omega)]
    · rw [dz_up_k (by omega), dz_up_ne (by omega), dz_up_ne (by omega), f2]
    · rw [dz_up_eq]
      omega
  refine xr_aloadn hc rfl rfl ?_
  refine xr_getfi hc rfl (Or.inr rfl) (by first | assumption | rfl) ?_
  rw [hld]
  refine xr_if_eq hc rfl (t := 26) rfl (fun b4 => ?_) (fun b4 => ?_)
  · first
      | (exfalso; omega)
      | (have h9 : sp i.toNat = -9 := hel.mp (by omega)
         refine t26 _ (fun q2 k2 u => ?_) (by rw [dz_up_eq]; unfold clay; rw [if_pos h9, fup_eq])
         by_cases e : q2 = 116
         · subst e
           rw [dz_up_k (by omega)]
         · rw [dz_up_ne e])
      | (have h9 : sp i.toNat ≠ -9 := fun z => by have z2 := hel.mpr z; omega
         refine t26 M (fun q2 k2 u => rfl) ?_
         rw [hspi, enc_ne h9, clay_keep h9])
  · refine xr_aloadn hc rfl rfl ?_
    refine xr_getfr hc rfl rfl (by first | assumption | rfl) (by first | assumption | rfl) ?_
    refine xr_iloadn hc rfl rfl ?_
    refine xr_iconst hc rfl ?_
    refine xr_iaddz hc rfl (by first | exact dz_wid (by first | omega | (unfold dz_w; omega)) (by first | omega | (unfold dz_w; omega)) | rfl) ?_
    refine xr_iloadn hc rfl rfl ?_
    refine xr_iaddz hc rfl (by first | exact dz_wid (by first | omega | (unfold dz_w; omega)) (by first | omega | (unfold dz_w; omega)) | rfl) ?_
    first | refine xr_iaload hc rfl (by first | assumption | rfl) (by first | omega | (unfold dz_w; omega)) (by first | omega | (unfold dz_w; omega)) ?_ | refine xr_ialoado hc rfl (by first | omega | (unfold dz_w; omega)) (by first | omega | (unfold dz_w; omega)) ?_
    rw [ix, hspi]
    refine xr_if_ge hc rfl (t := 26) rfl (fun b17 => ?_) (fun b17 => ?_)
    · first
        | (exfalso; omega)
        | (have h9 : sp i.toNat = -9 := hel.mp (by omega)
           refine t26 _ (fun q2 k2 u => ?_) (by rw [dz_up_eq]; unfold clay; rw [if_pos h9, fup_eq])
           by_cases e : q2 = 116
           · subst e
             rw [dz_up_k (by omega)]
           · rw [dz_up_ne e])
        | (have h9 : sp i.toNat ≠ -9 := fun z => by have z2 := hel.mpr z; omega
           refine t26 M (fun q2 k2 u => rfl) ?_
           rw [hspi, enc_ne h9, clay_keep h9])
    · refine xr_aloadn hc rfl rfl ?_
      refine xr_iloadn hc rfl rfl ?_
      refine xr_iloadn hc rfl rfl ?_
      refine xr_callv2 hc rfl (by first | assumption | rfl) rfl rfl rfl (Nat.le_of_ble_eq_true rfl) (Nat.zero_le _) (Nat.zero_le _) ?_
      refine D_layWord hl hpl hww hw h69 hi hbt (by omega) hsp hok (hel.mp (by omega)) ?_
      refine xk_0 ?_
      first
        | (exfalso; omega)
        | (have h9 : sp i.toNat = -9 := hel.mp (by omega)
           refine t26 _ (fun q2 k2 u => ?_) (by rw [dz_up_eq]; unfold clay; rw [if_pos h9, fup_eq])
           by_cases e : q2 = 116
           · subst e
             rw [dz_up_k (by omega)]
           · rw [dz_up_ne e])
        | (have h9 : sp i.toNat ≠ -9 := fun z => by have z2 := hel.mpr z; omega
           refine t26 M (fun q2 k2 u => rfl) ?_
           rw [hspi, enc_ne h9, clay_keep h9])
set_option maxRecDepth 100000 in
theorem D_goes125 {xo : Nat → List Int} {d : Nat} {Q : dz_Q} {sh : List (Nat ⊕ (Nat × Nat))} {rf : Nat → Nat → Nat} {M : Nat → Nat → Int} {b : Nat} {w pl : Int} {kd wt nx s : Nat → Int} (hl : ml sh rf) (hb : b ≤ 3612) (hp : pgok w pl kd wt nx) (hs : 0 ≤ s 1 ∧ s 1 ≤ 990000 ∧ 0 ≤ s 2 ∧ s 2 ≤ 99 ∧ 0 ≤ s 3 ∧ s 3 < w) (hv : 0 ≤ s (11 + (wt (s 3).toNat).toNat) ∧ s (11 + (wt (s 3).toNat).toNat) ≤ 99) (hr : prel M b w s) (hQ : ∀ M2 : Nat → Nat → Int, gfr M M2 b → prel M2 b w (stp pl kd wt nx s) → ((0 ≤ M 115 21 ∧ M 115 21 ≤ 1000000 ∧ 0 ≤ M 115 22 ∧ M 115 22 ≤ 1000000) → M2 115 21 = M 115 21 + wts pl kd wt s ∧ M2 115 22 = M 115 22 + rds kd s) → Q none (sh, rf, M2)) : ∀ (M1 : Nat → Nat → Int) (X1 : Int), (∀ q2 k2, ¬ (q2 = 115 ∧ (k2 = 21 ∨ k2 = 22)) → ¬ (q2 = 116 ∧ b + 1 ≤ k2 ∧ k2 ≤ b + 22) → M1 q2 k2 = M q2 k2) → (∀ c, 1 ≤ c → c ≤ 22 → M1 116 (b + c) = if c = 1 then X1 else if c = 3 then du kd wt nx (s 2) (s 3).toNat else if c = 4 then s 4 + 1 else if c = 17 + (s 3).toNat then M 116 (b + c) + 1 else M 116 (b + c)) → X1 + wk (kd (s 3).toNat) (s (11 + (wt (s 3).toNat).toNat)) = (bt pl (kd (s 3).toNat) (s (5 + (s 3).toNat)) (s (5 + (wt (s 3).toNat).toNat)) (s 1) (s (11 + (wt (s 3).toNat).toNat))) → ((0 ≤ M 115 21 ∧ M 115 21 ≤ 1000000 ∧ 0 ≤ M 115 22 ∧ M 115 22 ≤ 1000000) → M1 115 21 = M 115 21 + wts pl kd wt s ∧ M1 115 22 = M 115 22 + rds kd s) → dz_X (dz_E dz_pp xo (d + 2)) dz_pp xo (dz_pp 153) Q 125 [some (dz_r 115), some (dz_i (b : Int)), some (dz_i (s 3)), some (dz_i (kd (s 3).toNat)), some (dz_i (wt (s 3).toNat))] [] 0 0 (sh, rf, M1) := by
  have hc := dz_E_m dz_pp xo (d + 2)
  obtain ⟨e0, e1, e2, e3, e4, e5, e6, e7, e8, e9, e10, e11, e12, e13, e14, e15, e16, e17, e18, e19, e20, e21, e22, e23, e24, e25, e26, e27, e28, e29⟩ := id hl
  obtain ⟨p1, p2, p3, p4, p5⟩ := id hp
  obtain ⟨s1, s2, s3, s4, s5, s5b⟩ := id hs
  obtain ⟨c3, c4⟩ := id hv
  have hi : ((s 3).toNat : Int) < w := by omega
  obtain ⟨k1, k2, k3, k4, k5, k6⟩ := p5 (s 3).toNat hi
  have hoo : ((wt (s 3).toNat).toNat : Int) < w := by omega
  have t3 : ∀ (M1 : Nat → Nat → Int), (∀ q2 k2, ¬ (q2 = 115 ∧ (k2 = 21 ∨ k2 = 22)) → ¬ (q2 = 116 ∧ b + 1 ≤ k2 ∧ k2 ≤ b + 22) → M1 q2 k2 = M q2 k2) → (∀ c, 1 ≤ c → c ≤ 22 → M1 116 (b + c) = if c = 1 then (bt pl (kd (s 3).toNat) (s (5 + (s 3).toNat)) (s (5 + (wt (s 3).toNat).toNat)) (s 1) (s (11 + (wt (s 3).toNat).toNat))) else if c = 3 then du kd wt nx (s 2) (s 3).toNat else if c = 4 then s 4 + 1 else if c = 17 + (s 3).toNat then M 116 (b + c) + 1 else M 116 (b + c)) → ((0 ≤ M 115 21 ∧ M 115 21 ≤ 1000000 ∧ 0 ≤ M 115 22 ∧ M 115 22 ≤ 1000000) → M1 115 21 = M 115 21 + wts pl kd wt s ∧ M1 115 22 = M 115 22 + rds kd s) → dz_X (dz_E dz_pp xo (d + 2)) dz_pp xo (dz_pp 153) Q 153 [some (dz_r 115), some (dz_i (b : Int)), some (dz_i (s 3)), some (dz_i (kd (s 3).toNat)), some (dz_i (wt (s 3).toNat))] [] 0 0 (sh, rf, M1) := by
    intro M1 z1 z2 z3
    have ei3 : ((b : Int) + 2).toNat = b + 2 := by omega
    have ei4 : ((b : Int) + 11 + wt (s 3).toNat).toNat = b + (11 + (wt (s 3).toNat).toNat) := by omega
    have v2 : M1 116 (b + 2) = s 2 := by rw [z2 2 (by omega) (by omega), if_neg (by omega), if_neg (by omega), if_neg (by omega), if_neg (by omega), hr 2 (by unfold okc; omega)]
    have v11 : M1 116 (b + (11 + (wt (s 3).toNat).toNat)) = s (11 + (wt (s 3).toNat).toNat) := by rw [z2 _ (by omega) (by omega), if_neg (by omega), if_neg (by omega), if_neg (by omega), if_neg (by omega), hr _ (by unfold okc; omega)]
    have hmul := mul99 (a := s 2) (b := s (11 + (wt (s 3).toNat).toNat)) ⟨s3, s4⟩ ⟨c3, c4⟩
    have ht1 : Int.tmod (s 2 + s (11 + (wt (s 3).toNat).toNat)) 100 = (s 2 + s (11 + (wt (s 3).toNat).toNat)) % 100 := Int.tmod_eq_emod_of_nonneg (by omega)
    have ht2 : Int.tmod (s 2 * s (11 + (wt (s 3).toNat).toNat)) 100 = (s 2 * s (11 + (wt (s 3).toNat).toNat)) % 100 := Int.tmod_eq_emod_of_nonneg (by omega)
    have fin : ∀ M3 : Nat → Nat → Int, (∀ q2 k2, q2 ≠ 116 → M3 q2 k2 = M1 q2 k2) → (∀ k2, k2 < b + 1 ∨ b + 22 < k2 → M3 116 k2 = M1 116 k2) → (∀ c, 1 ≤ c → c ≤ 22 → M3 116 (b + c) = if c = 2 then su (kd (s 3).toNat) (s 2) (s (11 + (wt (s 3).toNat).toNat)) else if kd (s 3).toNat = 3 ∧ c = 11 + (wt (s 3).toNat).toNat then s 2 else M1 116 (b + c)) → Q none (sh, rf, M3) := by
      intro M3 y1 y2 y3
      refine hQ M3 (fun q2 k2 u1 u2 => ?_) (fun c hc => ?_) (fun hh => ?_)
      · by_cases e : q2 = 116
        · subst e
          rw [y2 k2 (by omega), z1 _ _ (by omega) (by omega)]
        · rw [y1 _ _ e, z1 _ _ u1 (by omega)]
      · have hc2 := hc
        unfold okc at hc2
        rw [y3 c (by omega) (by omega), z2 c (by omega) (by omega)]
        unfold stp
        by_cases e1 : c = 1
        · subst e1
          rw [if_neg (by omega), if_neg (by omega), if_pos rfl, if_pos rfl]
        · by_cases e2 : c = 2
          · subst e2
            rfl
          · rw [if_neg e1, if_neg e2, if_neg e1, if_neg e2]
            by_cases e3 : c = 3
            · rw [if_neg (by omega), if_pos e3, if_pos e3]
            · by_cases e4 : c = 4
              · rw [if_neg (by omega), if_neg e3, if_pos e4, if_neg e3, if_pos e4]
              · rw [if_neg e3, if_neg e4, if_neg e3, if_neg e4, hr c hc]
                by_cases e5 : c = 17 + (s 3).toNat
                · rw [if_neg (by omega), if_pos e5, if_pos e5]
                · rw [if_neg e5, if_neg e5]
      · have h9 := z3 hh
        rw [y1 _ _ (by omega), y1 _ _ (by omega)]
        exact h9
    refine xr_iloadn hc rfl rfl ?_
    refine xr_iconst hc rfl ?_
    refine xr_icmp_ne hc rfl (t := 193) rfl (fun b155 => ?_) (fun b155 => ?_)
    · refine xr_iloadn hc rfl rfl ?_
      refine xr_iconst hc rfl ?_
      refine xr_icmp_ne hc rfl (t := 233) rfl (fun b195 => ?_) (fun b195 => ?_)
      · refine xr_iloadn hc rfl rfl ?_
        refine xr_iconst hc rfl ?_
        refine xr_icmp_ne hc rfl (t := 258) rfl (fun b235 => ?_) (fun b235 => ?_)
        · try rw [ei3]
          try rw [ei4]
          refine xr_return hc rfl rfl (Nat.zero_le _) (Nat.zero_le _) ?_
          first
            | (refine fin _ (fun q2 k2 u => by rw [dz_up_ne u]) (fun k2 u => by rw [dz_up_k (by omega)]) (fun c h1 h2 => ?_)
               by_cases e : b + c = b + 2
               · rw [e, dz_up_eq]
                 first
                   | (rw [if_pos (by omega)]; unfold su; rw [if_pos (by omega)])
                   | (rw [if_pos (by omega)]; unfold su; rw [if_neg (by omega), if_pos (by omega)])
                   | rw [if_neg (by omega), if_pos (by omega)]
               · rw [dz_up_k e]
                 first
                   | rw [if_neg (by omega), if_neg (by omega)]
                   | (by_cases e2 : c = 2
                      · rw [if_pos e2, e2, v2]
                        unfold su
                        rw [if_neg (by omega), if_neg (by omega)]
                      · rw [if_neg e2, if_neg (by omega)]))
            | (refine fin _ (fun q2 k2 u => by rw [dz_up_ne u]) (fun k2 u => by rw [dz_up_k (by omega)]) (fun c h1 h2 => ?_)
               by_cases e : b + c = b + (11 + (wt (s 3).toNat).toNat)
               · rw [e, dz_up_eq]
                 first
                   | (rw [if_pos (by omega)]; unfold su; rw [if_pos (by omega)])
                   | (rw [if_pos (by omega)]; unfold su; rw [if_neg (by omega), if_pos (by omega)])
                   | rw [if_neg (by omega), if_pos (by omega)]
               · rw [dz_up_k e]
                 first
                   | rw [if_neg (by omega), if_neg (by omega)]
                   | (by_cases e2 : c = 2
                      · rw [if_pos e2, e2, v2]
                        unfold su
                        rw [if_neg (by omega), if_neg (by omega)]
                      · rw [if_neg e2, if_neg (by omega)]))
            | (refine fin _ (fun q2 k2 u => rfl) (fun k2 u => rfl) (fun c h1 h2 => ?_)
               by_cases e2 : c = 2
               · rw [if_pos e2, e2, v2]
                 unfold su
                 rw [if_neg (by omega), if_neg (by omega)]
               · rw [if_neg e2, if_neg (by omega)])
        · refine xr_aloadn hc rfl rfl ?_
          refine xr_getfr hc rfl rfl (by first | assumption | rfl) (by first | assumption | rfl) ?_
          refine xr_iloadn hc rfl rfl ?_
          refine xr_bipush hc rfl ?_
          refine xr_iaddz hc rfl (by first | exact dz_wid (by first | omega | (unfold dz_w; omega)) (by first | omega | (unfold dz_w; omega)) | rfl) ?_
          refine xr_iload hc rfl rfl ?_
          refine xr_iaddz hc rfl (by first | exact dz_wid (by first | omega | (unfold dz_w; omega)) (by first | omega | (unfold dz_w; omega)) | rfl) ?_
          refine xr_aloadn hc rfl rfl ?_
          refine xr_getfr hc rfl rfl (by first | assumption | rfl) (by first | assumption | rfl) ?_
          refine xr_iloadn hc rfl rfl ?_
          refine xr_iconst hc rfl ?_
          refine xr_iaddz hc rfl (by first | exact dz_wid (by first | omega | (unfold dz_w; omega)) (by first | omega | (unfold dz_w; omega)) | rfl) ?_
          first | refine xr_iaload hc rfl (by first | assumption | rfl) (by first | omega | (unfold dz_w; omega)) (by first | omega | (unfold dz_w; omega)) ?_ | refine xr_ialoado hc rfl (by first | omega | (unfold dz_w; omega)) (by first | omega | (unfold dz_w; omega)) ?_
          rw [ei3, v2]
          refine xr_iastore hc rfl (by first | assumption | rfl) (by first | omega | (unfold dz_w; omega)) (by first | omega | (unfold dz_w; omega)) ?_
          try rw [ei3]
          try rw [ei4]
          refine xr_return hc rfl rfl (Nat.zero_le _) (Nat.zero_le _) ?_
          first
            | (refine fin _ (fun q2 k2 u => by rw [dz_up_ne u]) (fun k2 u => by rw [dz_up_k (by omega)]) (fun c h1 h2 => ?_)
               by_cases e : b + c = b + 2
               · rw [e, dz_up_eq]
                 first
                   | (rw [if_pos (by omega)]; unfold su; rw [if_pos (by omega)])
                   | (rw [if_pos (by omega)]; unfold su; rw [if_neg (by omega), if_pos (by omega)])
                   | rw [if_neg (by omega), if_pos (by omega)]
               · rw [dz_up_k e]
                 first
                   | rw [if_neg (by omega), if_neg (by omega)]
                   | (by_cases e2 : c = 2
                      · rw [if_pos e2, e2, v2]
                        unfold su
                        rw [if_neg (by omega), if_neg (by omega)]
                      · rw [if_neg e2, if_neg (by omega)]))
            | (refine fin _ (fun q2 k2 u => by rw [dz_up_ne u]) (fun k2 u => by rw [dz_up_k (by omega)]) (fun c h1 h2 => ?_)
               by_cases e : b + c = b + (11 + (wt (s 3).toNat).toNat)
               · rw [e, dz_up_eq]
                 first
                   | (rw [if_pos (by omega)]; unfold su; rw [if_pos (by omega)])
                   | (rw [if_pos (by omega)]; unfold su; rw [if_neg (by omega), if_pos (by omega)])
                   | rw [if_neg (by omega), if_pos (by omega)]
               · rw [dz_up_k e]
                 first
                   | rw [if_neg (by omega), if_neg (by omega)]
                   | (by_cases e2 : c = 2
                      · rw [if_pos e2, e2, v2]
                        unfold su
                        rw [if_neg (by omega), if_neg (by omega)]
                      · rw [if_neg e2, if_neg (by omega)]))
            | (refine fin _ (fun q2 k2 u => rfl) (fun k2 u => rfl) (fun c h1 h2 => ?_)
               by_cases e2 : c = 2
               · rw [if_pos e2, e2, v2]
                 unfold su
                 rw [if_neg (by omega), if_neg (by omega)]
               · rw [if_neg e2, if_neg (by omega)])
      · refine xr_aloadn hc rfl rfl ?_
        refine xr_getfr hc rfl rfl (by first | assumption | rfl) (by first | assumption | rfl) ?_
        refine xr_iloadn hc rfl rfl ?_
        refine xr_iconst hc rfl ?_
        refine xr_iaddz hc rfl (by first | exact dz_wid (by first | omega | (unfold dz_w; omega)) (by first | omega | (unfold dz_w; omega)) | rfl) ?_
        refine xr_aloadn hc rfl rfl ?_
        refine xr_getfr hc rfl rfl (by first | assumption | rfl) (by first | assumption | rfl) ?_
        refine xr_iloadn hc rfl rfl ?_
        refine xr_iconst hc rfl ?_
        refine xr_iaddz hc rfl (by first | exact dz_wid (by first | omega | (unfold dz_w; omega)) (by first | omega | (unfold dz_w; omega)) | rfl) ?_
        first | refine xr_iaload hc rfl (by first | assumption | rfl) (by first | omega | (unfold dz_w; omega)) (by first | omega | (unfold dz_w; omega)) ?_ | refine xr_ialoado hc rfl (by first | omega | (unfold dz_w; omega)) (by first | omega | (unfold dz_w; omega)) ?_
        rw [ei3, v2]
        refine xr_aloadn hc rfl rfl ?_
        refine xr_getfr hc rfl rfl (by first | assumption | rfl) (by first | assumption | rfl) ?_
        refine xr_iloadn hc rfl rfl ?_
        refine xr_bipush hc rfl ?_
        refine xr_iaddz hc rfl (by first | exact dz_wid (by first | omega | (unfold dz_w; omega)) (by first | omega | (unfold dz_w; omega)) | rfl) ?_
        refine xr_iload hc rfl rfl ?_
        refine xr_iaddz hc rfl (by first | exact dz_wid (by first | omega | (unfold dz_w; omega)) (by first | omega | (unfold dz_w; omega)) | rfl) ?_
        first | refine xr_iaload hc rfl (by first | assumption | rfl) (by first | omega | (unfold dz_w; omega)) (by first | omega | (unfold dz_w; omega)) ?_ | refine xr_ialoado hc rfl (by first | omega | (unfold dz_w; omega)) (by first | omega | (unfold dz_w; omega)) ?_
        rw [ei4, v11]
        refine xr_imulz hc rfl (by first | exact dz_wid (by first | omega | (unfold dz_w; omega)) (by first | omega | (unfold dz_w; omega)) | rfl) ?_
        refine xr_bipush hc rfl ?_
        refine xr_irem hc rfl (by first | omega | (unfold dz_w; omega)) ?_
        rw [ht2]
        refine xr_iastore hc rfl (by first | assumption | rfl) (by first | omega | (unfold dz_w; omega)) (by first | omega | (unfold dz_w; omega)) ?_
        refine xr_goto hc rfl (t := 258) rfl ?_
        try rw [ei3]
        try rw [ei4]
        refine xr_return hc rfl rfl (Nat.zero_le _) (Nat.zero_le _) ?_
        first
          | (refine fin _ (fun q2 k2 u => by rw [dz_up_ne u]) (fun k2 u => by rw [dz_up_k (by omega)]) (fun c h1 h2 => ?_)
             by_cases e : b + c = b + 2
             · rw [e, dz_up_eq]
               first
                 | (rw [if_pos (by omega)]; unfold su; rw [if_pos (by omega)])
                 | (rw [if_pos (by omega)]; unfold su; rw [if_neg (by omega), if_pos (by omega)])
                 | rw [if_neg (by omega), if_pos (by omega)]
             · rw [dz_up_k e]
               first
                 | rw [if_neg (by omega), if_neg (by omega)]
                 | (by_cases e2 : c = 2
                    · rw [if_pos e2, e2, v2]
                      unfold su
                      rw [if_neg (by omega), if_neg (by omega)]
                    · rw [if_neg e2, if_neg (by omega)]))
          | (refine fin _ (fun q2 k2 u => by rw [dz_up_ne u]) (fun k2 u => by rw [dz_up_k (by omega)]) (fun c h1 h2 => ?_)
             by_cases e : b + c = b + (11 + (wt (s 3).toNat).toNat)
             · rw [e, dz_up_eq]
               first
                 | (rw [if_pos (by omega)]; unfold su; rw [if_pos (by omega)])
                 | (rw [if_pos (by omega)]; unfold su; rw [if_neg (by omega), if_pos (by omega)])
                 | rw [if_neg (by omega), if_pos (by omega)]
             · rw [dz_up_k e]
               first
                 | rw [if_neg (by omega), if_neg (by omega)]
                 | (by_cases e2 : c = 2
                    · rw [if_pos e2, e2, v2]
                      unfold su
                      rw [if_neg (by omega), if_neg (by omega)]
                    · rw [if_neg e2, if_neg (by omega)]))
          | (refine fin _ (fun q2 k2 u => rfl) (fun k2 u => rfl) (fun c h1 h2 => ?_)
             by_cases e2 : c = 2
             · rw [if_pos e2, e2, v2]
               unfold su
               rw [if_neg (by omega), if_neg (by omega)]
             · rw [if_neg e2, if_neg (by omega)])
    · refine xr_aloadn hc rfl rfl ?_
      refine xr_getfr hc rfl rfl (by first | assumption | rfl) (by first | assumption | rfl) ?_
      refine xr_iloadn hc rfl rfl ?_
      refine xr_iconst hc rfl ?_
      refine xr_iaddz hc rfl (by first | exact dz_wid (by first | omega | (unfold dz_w; omega)) (by first | omega | (unfold dz_w; omega)) | rfl) ?_
      refine xr_aloadn hc rfl rfl ?_
      refine xr_getfr hc rfl rfl (by first | assumption | rfl) (by first | assumption | rfl) ?_
      refine xr_iloadn hc rfl rfl ?_
      refine xr_iconst hc rfl ?_
      refine xr_iaddz hc rfl (by first | exact dz_wid (by first | omega | (unfold dz_w; omega)) (by first | omega | (unfold dz_w; omega)) | rfl) ?_
      first | refine xr_iaload hc rfl (by first | assumption | rfl) (by first | omega | (unfold dz_w; omega)) (by first | omega | (unfold dz_w; omega)) ?_ | refine xr_ialoado hc rfl (by first | omega | (unfold dz_w; omega)) (by first | omega | (unfold dz_w; omega)) ?_
      rw [ei3, v2]
      refine xr_aloadn hc rfl rfl ?_
      refine xr_getfr hc rfl rfl (by first | assumption | rfl) (by first | assumption | rfl) ?_
      refine xr_iloadn hc rfl rfl ?_
      refine xr_bipush hc rfl ?_
      refine xr_iaddz hc rfl (by first | exact dz_wid (by first | omega | (unfold dz_w; omega)) (by first | omega | (unfold dz_w; omega)) | rfl) ?_
      refine xr_iload hc rfl rfl ?_
      refine xr_iaddz hc rfl (by first | exact dz_wid (by first | omega | (unfold dz_w; omega)) (by first | omega | (unfold dz_w; omega)) | rfl) ?_
      first | refine xr_iaload hc rfl (by first | assumption | rfl) (by first | omega | (unfold dz_w; omega)) (by first | omega | (unfold dz_w; omega)) ?_ | refine xr_ialoado hc rfl (by first | omega | (unfold dz_w; omega)) (by first | omega | (unfold dz_w; omega)) ?_
      rw [ei4, v11]
      refine xr_iaddz hc rfl (by first | exact dz_wid (by first | omega | (unfold dz_w; omega)) (by first | omega | (unfold dz_w; omega)) | rfl) ?_
      refine xr_bipush hc rfl ?_
      refine xr_irem hc rfl (by first | omega | (unfold dz_w; omega)) ?_
      rw [ht1]
      refine xr_iastore hc rfl (by first | assumption | rfl) (by first | omega | (unfold dz_w; omega)) (by first | omega | (unfold dz_w; omega)) ?_
      refine xr_goto hc rfl (t := 258) rfl ?_
      try rw [ei3]
      try rw [ei4]
      refine xr_return hc rfl rfl (Nat.zero_le _) (Nat.zero_le _) ?_
      first
        | (refine fin _ (fun q2 k2 u => by rw [dz_up_ne u]) (fun k2 u => by rw [dz_up_k (by omega)]) (fun c h1 h2 => ?_)
           by_cases e : b + c = b + 2
           · rw [e, dz_up_eq]
             first
               | (rw [if_pos (by omega)]; unfold su; rw [if_pos (by omega)])
               | (rw [if_pos (by omega)]; unfold su; rw [if_neg (by omega), if_pos (by omega)])
               | rw [if_neg (by omega), if_pos (by omega)]
           · rw [dz_up_k e]
             first
               | rw [if_neg (by omega), if_neg (by omega)]
               | (by_cases e2 : c = 2
                  · rw [if_pos e2, e2, v2]
                    unfold su
                    rw [if_neg (by omega), if_neg (by omega)]
                  · rw [if_neg e2, if_neg (by omega)]))
        | (refine fin _ (fun q2 k2 u => by rw [dz_up_ne u]) (fun k2 u => by rw [dz_up_k (by omega)]) (fun c h1 h2 => ?_)
           by_cases e : b + c = b + (11 + (wt (s 3).toNat).toNat)
           · rw [e, dz_up_eq]
             first
               | (rw [if_pos (by omega)]; unfold su; rw [if_pos (by omega)])
               | (rw [if_pos (by omega)]; unfold su; rw [if_neg (by omega), if_pos (by omega)])
               | rw [if_neg (by omega), if_pos (by omega)]
           · rw [dz_up_k e]
             first
               | rw [if_neg (by omega), if_neg (by omega)]
               | (by_cases e2 : c = 2
                  · rw [if_pos e2, e2, v2]
                    unfold su
                    rw [if_neg (by omega), if_neg (by omega)]
                  · rw [if_neg e2, if_neg (by omega)]))
        | (refine fin _ (fun q2 k2 u => rfl) (fun k2 u => rfl) (fun c h1 h2 => ?_)
           by_cases e2 : c = 2
           · rw [if_pos e2, e2, v2]
             unfold su
             rw [if_neg (by omega), if_neg (by omega)]
           · rw [if_neg e2, if_neg (by omega)])
  have t2 : ∀ (M1 : Nat → Nat → Int) (X1 : Int), (∀ q2 k2, ¬ (q2 = 115 ∧ (k2 = 21 ∨ k2 = 22)) → ¬ (q2 = 116 ∧ b + 1 ≤ k2 ∧ k2 ≤ b + 22) → M1 q2 k2 = M q2 k2) → (∀ c, 1 ≤ c → c ≤ 22 → M1 116 (b + c) = if c = 1 then X1 else if c = 3 then du kd wt nx (s 2) (s 3).toNat else if c = 4 then s 4 + 1 else if c = 17 + (s 3).toNat then M 116 (b + c) + 1 else M 116 (b + c)) → X1 + wk (kd (s 3).toNat) (s (11 + (wt (s 3).toNat).toNat)) = (bt pl (kd (s 3).toNat) (s (5 + (s 3).toNat)) (s (5 + (wt (s 3).toNat).toNat)) (s 1) (s (11 + (wt (s 3).toNat).toNat))) → ((0 ≤ M 115 21 ∧ M 115 21 ≤ 1000000 ∧ 0 ≤ M 115 22 ∧ M 115 22 ≤ 1000000) → M1 115 21 = M 115 21 + wts pl kd wt s ∧ M1 115 22 = M 115 22 + rds kd s) → dz_X (dz_E dz_pp xo (d + 2)) dz_pp xo (dz_pp 153) Q 125 [some (dz_r 115), some (dz_i (b : Int)), some (dz_i (s 3)), some (dz_i (kd (s 3).toNat)), some (dz_i (wt (s 3).toNat))] [] 0 0 (sh, rf, M1) := by
    intro M1 X1 z1 z2 hX z3
    have iy : ((b : Int) + 1).toNat = b + 1 := by omega
    have ei4 : ((b : Int) + 11 + wt (s 3).toNat).toNat = b + (11 + (wt (s 3).toNat).toNat) := by omega
    have v1 : M1 116 (b + 1) = X1 := by rw [z2 1 (by omega) (by omega), if_pos rfl]
    have v11 : M1 116 (b + (11 + (wt (s 3).toNat).toNat)) = s (11 + (wt (s 3).toNat).toNat) := by rw [z2 _ (by omega) (by omega), if_neg (by omega), if_neg (by omega), if_neg (by omega), if_neg (by omega), hr _ (by unfold okc; omega)]
    have hbt := bt_in (pl := pl) (k := kd (s 3).toNat) (pi := s (5 + (s 3).toNat)) (po := s (5 + (wt (s 3).toNat).toNat)) (b := s 1) (vo := s (11 + (wt (s 3).toNat).toNat)) ⟨p3, p4⟩ ⟨c3, c4⟩
    have hk3 := wk_in (k := kd (s 3).toNat) (v := s (11 + (wt (s 3).toNat).toNat)) ⟨c3, c4⟩
    refine xr_aloadn hc rfl rfl ?_
    refine xr_getfr hc rfl rfl (by first | assumption | rfl) (by first | assumption | rfl) ?_
    refine xr_iloadn hc rfl rfl ?_
    refine xr_iconst hc rfl ?_
    refine xr_iaddz hc rfl (by first | exact dz_wid (by first | omega | (unfold dz_w; omega)) (by first | omega | (unfold dz_w; omega)) | rfl) ?_
    refine xr_dup2i hc rfl ?_
    first | refine xr_iaload hc rfl (by first | assumption | rfl) (by first | omega | (unfold dz_w; omega)) (by first | omega | (unfold dz_w; omega)) ?_ | refine xr_ialoado hc rfl (by first | omega | (unfold dz_w; omega)) (by first | omega | (unfold dz_w; omega)) ?_
    rw [iy, v1]
    refine xr_aloadn hc rfl rfl ?_
    refine xr_iloadn hc rfl rfl ?_
    refine xr_aloadn hc rfl rfl ?_
    refine xr_getfr hc rfl rfl (by first | assumption | rfl) (by first | assumption | rfl) ?_
    refine xr_iloadn hc rfl rfl ?_
    refine xr_bipush hc rfl ?_
    refine xr_iaddz hc rfl (by first | exact dz_wid (by first | omega | (unfold dz_w; omega)) (by first | omega | (unfold dz_w; omega)) | rfl) ?_
    refine xr_iload hc rfl rfl ?_
    refine xr_iaddz hc rfl (by first | exact dz_wid (by first | omega | (unfold dz_w; omega)) (by first | omega | (unfold dz_w; omega)) | rfl) ?_
    first | refine xr_iaload hc rfl (by first | assumption | rfl) (by first | omega | (unfold dz_w; omega)) (by first | omega | (unfold dz_w; omega)) ?_ | refine xr_ialoado hc rfl (by first | omega | (unfold dz_w; omega)) (by first | omega | (unfold dz_w; omega)) ?_
    rw [ei4, v11]
    refine xr_callv2 hc rfl (by first | assumption | rfl) rfl rfl rfl (Nat.le_of_ble_eq_true rfl) (Nat.zero_le _) (Nat.zero_le _) ?_
    refine D_worksBy (by omega) ?_
    refine xk_1 ?_
    refine xr_iaddz hc rfl (by first | exact dz_wid (by first | omega | (unfold dz_w; omega)) (by first | omega | (unfold dz_w; omega)) | rfl) ?_
    refine xr_iastore hc rfl (by first | assumption | rfl) (by first | omega | (unfold dz_w; omega)) (by first | omega | (unfold dz_w; omega)) ?_
    rw [iy]
    refine t3 _ (fun q2 k2 u1 u2 => ?_) (fun c h1 h2 => ?_) (fun hh => ?_)
    · by_cases e : q2 = 116
      · subst e
        rw [dz_up_k (by omega), z1 _ _ u1 u2]
      · rw [dz_up_ne e, z1 _ _ u1 u2]
    · by_cases e : c = 1
      · subst e
        rw [dz_up_eq, if_pos rfl, hX]
      · rw [dz_up_k (by omega), z2 c h1 h2, if_neg e, if_neg e]
    · rw [dz_up_ne (by omega)]
      exact z3 hh
  exact t2
/-- a state whose words are laid as they come -/
def lst (s sp : Nat → Int) (t : Int) : Nat → Int := fun c => if c = 1 then t else if 5 ≤ c ∧ c < 11 then enc (sp (c - 5)) else s c
theorem lst_1 {s sp : Nat → Int} {t : Int} : lst s sp t 1 = t := rfl
theorem lst_p {s sp : Nat → Int} {t : Int} {i : Nat} (h : i < 6) : lst s sp t (5 + i) = enc (sp i) := by
  unfold lst
  rw [if_neg (by omega), if_pos (by omega), show 5 + i - 5 = i by omega]
theorem lst_o {s sp : Nat → Int} {t : Int} {c : Nat} (h1 : c ≠ 1) (h : c < 5 ∨ 11 ≤ c) : lst s sp t c = s c := by
  unfold lst
  rw [if_neg h1, if_neg (by omega)]
theorem ck_app (pl w : Int) : ∀ (l m : List (Nat × Int)) (sp : Nat → Int) (t : Int), ck_l pl w (l ++ m) sp t = ck_l pl w m (ck_l pl w l sp t).1 (ck_l pl w l sp t).2
  | [], _, _, _ => rfl
  | x :: l, m, sp, t => by
    show ck_l pl w (l ++ m) _ _ = _
    rw [ck_app pl w l m]
    rfl
