/-! The class: texts, words, deeds. Written by l2_31.py. -/
theorem dz_bb2 (v : Int) : dz_b (dz_b v) = dz_b v := by
  unfold dz_b
  omega
theorem WF_w {rs : Nat → Int} {it : Nat → Nat → Int} {ts : Nat → Int} {ch : Nat → Nat → Int} {tl up lo : Int} {fn : Nat → Int} {w pl : Int} {kd wt nx : Nat → Int} {n : Nat} {hs : Nat → Nat → Int} {kp : Nat → Int} {kh : Nat → Nat → Nat → Int} (h : WF rs it ts ch tl up lo fn w pl kd wt nx n hs kp kh) : 0 ≤ w ∧ w ≤ 6 := by
  rcases h.2.2.1 with z | z
  · exact ⟨by have := z.1; omega, z.2.1⟩
  · omega
theorem WF_p {rs : Nat → Int} {it : Nat → Nat → Int} {ts : Nat → Int} {ch : Nat → Nat → Int} {tl up lo : Int} {fn : Nat → Int} {w pl : Int} {kd wt nx : Nat → Int} {n : Nat} {hs : Nat → Nat → Int} {kp : Nat → Int} {kh : Nat → Nat → Nat → Int} (h : WF rs it ts ch tl up lo fn w pl kd wt nx n hs kp kh) (hw : w ≠ 0) : pgok w pl kd wt nx := by
  rcases h.2.2.1 with z | z
  · exact z
  · exact absurd z.1 hw
theorem ly_free {f : Nat → Int} {w p : Int} (hw : 0 ≤ w) : ly_at f p w.toNat 0 = -9 ↔ free f w p := by
  constructor
  · intro h k hk
    exact ly_no _ _ h k (by omega) (by omega)
  · intro h
    rcases ly_none (f := f) (p := p) w.toNat 0 with e | ⟨k, h1, h2, h3, h4⟩
    · exact e
    · exact absurd h3 (h k (by omega))
theorem free_c {f g : Nat → Int} {w p : Int} (h : ∀ k : Nat, (k : Int) < w → f k = g k) : free f w p ↔ free g w p := by
  constructor
  · intro z k hk
    rw [← h k hk]
    exact z k hk
  · intro z k hk
    rw [h k hk]
    exact z k hk
def o_text (ts : Nat → Int) (ch : Nat → Nat → Int) (fn : Nat → Int) (t m : Int) : Int × (Nat → Int) × (Nat → Nat → Int) × (Nat → Int) := if t < 0 ∨ 3 < t ∨ 60 < m then (-1, ts, ch, fn) else if m < 0 then (-3, ts, ch, rfu fn 5) else (m, fup ts t.toNat m, rup ch t.toNat (fun _ => 32), fn)
def o_put (ts : Nat → Int) (ch : Nat → Nat → Int) (fn : Nat → Int) (t i v : Int) : Int × (Nat → Nat → Int) × (Nat → Int) := if t < 0 ∨ 3 < t then (-1, ch, fn) else if ts t.toNat = -1 then (-3, ch, rfu fn 1) else if i < 0 ∨ ts t.toNat ≤ i then (-3, ch, rfu fn 2) else (ch t.toNat i.toNat + 1000, rup ch t.toNat (fup (ch t.toNat) i.toNat (dz_b v)), fn)
set_option maxRecDepth 100000 in
theorem X_text {xo : Nat → List Int} {d : Nat} {Q : dz_Q} {sh : List (Nat ⊕ (Nat × Nat))} {rf : Nat → Nat → Nat} {M : Nat → Nat → Int} {rs : Nat → Int} {it : Nat → Nat → Int} {ts : Nat → Int} {ch : Nat → Nat → Int} {tl up lo : Int} {fn : Nat → Int} {w pl : Int} {kd wt nx : Nat → Int} {n : Nat} {hs : Nat → Nat → Int} {kp : Nat → Int} {kh : Nat → Nat → Nat → Int} {t m : Int} (hl : cl sh rf) (hR : RX M rs it ts ch tl up lo fn w pl kd wt nx n hs kp kh) (hW : WF rs it ts ch tl up lo fn w pl kd wt nx n hs kp kh) (hQ : ∀ M2 : Nat → Nat → Int, (∀ q2 k2, 115 ≤ q2 → M2 q2 k2 = M q2 k2) → RX M2 rs it (o_text ts ch fn t m).2.1 (o_text ts ch fn t m).2.2.1 tl up lo (o_text ts ch fn t m).2.2.2 w pl kd wt nx n hs kp kh → Q (some (dz_i ((o_text ts ch fn t m).1))) (sh, rf, M2)) : dz_E dz_pp xo (d + 3) 59 [dz_r 0, dz_i t, dz_i m] (sh, rf, M) Q := by
  refine ⟨Nat.le_of_ble_eq_true rfl, ?_⟩
  have hc := dz_E_m dz_pp xo (d + 2)
  show dz_X (dz_E dz_pp xo (d + 2)) dz_pp xo (dz_pp 59) Q 0 [some (dz_r 0), some (dz_i t), some (dz_i m)] [] 0 0 (sh, rf, M)
  obtain ⟨c0, c1, c2, c3, c4, c5, c6, c7, c8, c9, c10, c11, c12, c13, c14, c15, c16, c17, c18, c19, c20, c21, c22, c23, c24, c25, c26, c27, c28, c29, c30, c31, c32, c33, c34, c35, c36⟩ := id hl
  obtain ⟨hrow, htxt, htl, hup, hlo, hfn, hdr, hkp, hrb⟩ := id hR
  obtain ⟨wrow, wtxt, wdr, wst, wkp⟩ := id hW
  refine xr_iloadn hc rfl rfl ?_
  refine xr_calls1 hc rfl (by decide) rfl rfl rfl (Nat.le_of_ble_eq_true rfl) (Nat.zero_le _) (Nat.zero_le _) ?_
  refine S_isText (fun u1 v1 => ?_) (fun u1 => ?_)
  · refine xk_1 ?_
    refine xr_iff hc rfl (by simp [dz_cmp]) ?_
    refine xr_iloadn hc rfl rfl ?_
    refine xr_bipush hc rfl ?_
    refine xr_icmp_le hc rfl (t := 15) rfl (fun b10 => ?_) (fun b10 => ?_)
    · refine xr_iloadn hc rfl rfl ?_
      refine xr_if_ge hc rfl (t := 25) rfl (fun b16 => ?_) (fun b16 => ?_)
      · obtain ⟨e1, e2⟩ := htxt t.toNat (by omega)
        obtain ⟨w1, w2⟩ := wtxt t.toNat (by omega)
        have c9r := c9 t.toNat (by omega)
        have c10r := c10 t.toNat (by omega)
        refine xr_aloadn hc rfl rfl ?_
        refine xr_getfr hc rfl rfl (by first | assumption | rfl) (by first | assumption | rfl) ?_
        refine xr_iloadn hc rfl rfl ?_
        refine xr_aaload hc rfl (by first | assumption | rfl) (by decide) (by first | omega | (unfold dz_w; omega)) (by first | omega | (unfold dz_w; omega)) (by first | assumption | rfl) ?_
        refine xr_bipush hc rfl ?_
        refine xr_calls2 hc rfl (by decide) rfl rfl rfl (Nat.le_of_ble_eq_true rfl) (Nat.zero_le _) (Nat.zero_le _) ?_
        refine S_fillB c10r (by omega) (fun M2 z1 z2 => ?_)
        refine xk_0 ?_
        refine xr_aloadn hc rfl rfl ?_
        refine xr_getfr hc rfl rfl (by first | assumption | rfl) (by first | assumption | rfl) ?_
        refine xr_iloadn hc rfl rfl ?_
        refine xr_iloadn hc rfl rfl ?_
        refine xr_iastore hc rfl (by first | assumption | rfl) (by first | omega | (unfold dz_w; omega)) (by first | omega | (unfold dz_w; omega)) ?_
        refine xr_iloadn hc rfl rfl ?_
        refine xr_ireturn hc rfl rfl (Nat.zero_le _) (Nat.zero_le _) ?_
        simp only [o_text] at hQ
        repeat (first | rw [if_pos (by omega)] at hQ | rw [if_neg (by omega)] at hQ)
        try dsimp only at hQ
        refine hQ _ (fun q2 k2 u => by rw [dz_up_ne (by omega), z1 _ _ (by omega)]) ⟨rowX_fr hrow (fun q2 k2 u1 u2 => by rw [dz_up_ne (by omega), z1 _ _ (by omega)]), fun r2 hr2 => ?_, Eq.trans (by rw [dz_up_ne (by omega), z1 _ _ (by omega)]) htl, Eq.trans (by rw [dz_up_ne (by omega), z1 _ _ (by omega)]) hup, Eq.trans (by rw [dz_up_ne (by omega), z1 _ _ (by omega)]) hlo, fndX_fr hfn (by rw [dz_up_ne (by omega), z1 _ _ (by omega)]) (fun k2 => by rw [dz_up_ne (by omega), z1 _ _ (by omega)]), drX_fr hdr (fun q2 k2 u1 u2 => by rw [dz_up_ne (by omega), z1 _ _ (by omega)]), kepX_fr hkp (fun q2 k2 u1 u2 => by rw [dz_up_ne (by omega), z1 _ _ (by omega)]), rbX_fr hrb (fun q2 k2 u1 => by rw [dz_up_ne (by omega), z1 _ _ (by omega)])⟩
        rw [dz_up_ne (show 10 + r2 ≠ 14 by omega), up_fup]
        by_cases e : r2 = t.toNat
        · subst e
          rw [fup_eq, fup_eq]
          refine ⟨rfl, fun k hk => ?_⟩
          rw [z2 k (by omega), rup_eq]
          rfl
        · rw [fup_ne e, fup_ne e, rup_ne e, z1 _ _ (by omega)]
          exact ⟨(htxt r2 hr2).1, fun k hk => by rw [z1 _ _ (by omega)]; exact (htxt r2 hr2).2 k hk⟩
      · refine xr_aloadn hc rfl rfl ?_
        refine xr_iconst hc rfl ?_
        refine xr_callv1 hc rfl (by first | assumption | rfl) rfl rfl rfl (Nat.le_of_ble_eq_true rfl) (Nat.zero_le _) (Nat.zero_le _) ?_
        refine S_refuse hl hR hW (by omega) (fun M2 z1 z2 => ?_)
        refine xk_1 ?_
        refine xr_ireturn hc rfl rfl (Nat.zero_le _) (Nat.zero_le _) ?_
        simp only [o_text] at hQ
        repeat (first | rw [if_pos (by omega)] at hQ | rw [if_neg (by omega)] at hQ)
        try dsimp only at hQ
        exact hQ M2 z1 z2
    · refine xr_iconst hc rfl ?_
      refine xr_ireturn hc rfl rfl (Nat.zero_le _) (Nat.zero_le _) ?_
      simp only [o_text] at hQ
      repeat (first | rw [if_pos (by omega)] at hQ | rw [if_neg (by omega)] at hQ)
      try dsimp only at hQ
      exact hQ M (fun _ _ _ => rfl) hR
  · refine xk_1 ?_
    refine xr_ift hc rfl (t := 13) rfl (by simp [dz_cmp]) ?_
    refine xr_iconst hc rfl ?_
    refine xr_ireturn hc rfl rfl (Nat.zero_le _) (Nat.zero_le _) ?_
    simp only [o_text] at hQ
    repeat (first | rw [if_pos (by omega)] at hQ | rw [if_neg (by omega)] at hQ)
    try dsimp only at hQ
    exact hQ M (fun _ _ _ => rfl) hR
set_option maxRecDepth 100000 in
theorem X_put {xo : Nat → List Int} {d : Nat} {Q : dz_Q} {sh : List (Nat ⊕ (Nat × Nat))} {rf : Nat → Nat → Nat} {M : Nat → Nat → Int} {rs : Nat → Int} {it : Nat → Nat → Int} {ts : Nat → Int} {ch : Nat → Nat → Int} {tl up lo : Int} {fn : Nat → Int} {w pl : Int} {kd wt nx : Nat → Int} {n : Nat} {hs : Nat → Nat → Int} {kp : Nat → Int} {kh : Nat → Nat → Nat → Int} {t i v : Int} (hl : cl sh rf) (hR : RX M rs it ts ch tl up lo fn w pl kd wt nx n hs kp kh) (hW : WF rs it ts ch tl up lo fn w pl kd wt nx n hs kp kh) (hQ : ∀ M2 : Nat → Nat → Int, (∀ q2 k2, 115 ≤ q2 → M2 q2 k2 = M q2 k2) → RX M2 rs it ts (o_put ts ch fn t i v).2.1 tl up lo (o_put ts ch fn t i v).2.2 w pl kd wt nx n hs kp kh → Q (some (dz_i ((o_put ts ch fn t i v).1))) (sh, rf, M2)) : dz_E dz_pp xo (d + 3) 60 [dz_r 0, dz_i t, dz_i i, dz_i v] (sh, rf, M) Q := by
  refine ⟨Nat.le_of_ble_eq_true rfl, ?_⟩
  have hc := dz_E_m dz_pp xo (d + 2)
  show dz_X (dz_E dz_pp xo (d + 2)) dz_pp xo (dz_pp 60) Q 0 [some (dz_r 0), some (dz_i t), some (dz_i i), some (dz_i v), none] [] 0 0 (sh, rf, M)
  obtain ⟨c0, c1, c2, c3, c4, c5, c6, c7, c8, c9, c10, c11, c12, c13, c14, c15, c16, c17, c18, c19, c20, c21, c22, c23, c24, c25, c26, c27, c28, c29, c30, c31, c32, c33, c34, c35, c36⟩ := id hl
  obtain ⟨hrow, htxt, htl, hup, hlo, hfn, hdr, hkp, hrb⟩ := id hR
  obtain ⟨wrow, wtxt, wdr, wst, wkp⟩ := id hW
  refine xr_iloadn hc rfl rfl ?_
  refine xr_calls1 hc rfl (by decide) rfl rfl rfl (Nat.le_of_ble_eq_true rfl) (Nat.zero_le _) (Nat.zero_le _) ?_
  refine S_isText (fun u1 v1 => ?_) (fun u1 => ?_)
  · refine xk_1 ?_
    refine xr_ift hc rfl (t := 9) rfl (by simp [dz_cmp]) ?_
    obtain ⟨e1, e2⟩ := htxt t.toNat (by omega)
    obtain ⟨w1, w2⟩ := wtxt t.toNat (by omega)
    have c9r := c9 t.toNat (by omega)
    have c10r := c10 t.toNat (by omega)
    refine xr_aloadn hc rfl rfl ?_
    refine xr_getfr hc rfl rfl (by first | assumption | rfl) (by first | assumption | rfl) ?_
    refine xr_iloadn hc rfl rfl ?_
    first | refine xr_iaload hc rfl (by first | assumption | rfl) (by first | omega | (unfold dz_w; omega)) (by first | omega | (unfold dz_w; omega)) ?_ | refine xr_ialoado hc rfl (by first | omega | (unfold dz_w; omega)) (by first | omega | (unfold dz_w; omega)) ?_
    rw [e1]
    refine xr_iconst hc rfl ?_
    refine xr_icmp_ne hc rfl (t := 25) rfl (fun b16 => ?_) (fun b16 => ?_)
    · refine xr_iloadn hc rfl rfl ?_
      refine xr_iconst hc rfl ?_
      refine xr_aloadn hc rfl rfl ?_
      refine xr_getfr hc rfl rfl (by first | assumption | rfl) (by first | assumption | rfl) ?_
      refine xr_iloadn hc rfl rfl ?_
      first | refine xr_iaload hc rfl (by first | assumption | rfl) (by first | omega | (unfold dz_w; omega)) (by first | omega | (unfold dz_w; omega)) ?_ | refine xr_ialoado hc rfl (by first | omega | (unfold dz_w; omega)) (by first | omega | (unfold dz_w; omega)) ?_
      rw [e1]
      refine xr_iconst hc rfl ?_
      refine xr_isubz hc rfl (by first | exact dz_wid (by first | omega | (unfold dz_w; omega)) (by first | omega | (unfold dz_w; omega)) | rfl) ?_
      refine xr_calls3 hc rfl (by decide) rfl rfl rfl (Nat.le_of_ble_eq_true rfl) (Nat.zero_le _) (Nat.zero_le _) ?_
      refine S_isWithin (fun u2 v2 => ?_) (fun u2 => ?_)
      · refine xk_1 ?_
        refine xr_ift hc rfl (t := 47) rfl (by simp [dz_cmp]) ?_
        have e3 := e2 i.toNat (by omega)
        have w3 := w2 i.toNat (by omega)
        refine xr_aloadn hc rfl rfl ?_
        refine xr_getfr hc rfl rfl (by first | assumption | rfl) (by first | assumption | rfl) ?_
        refine xr_iloadn hc rfl rfl ?_
        refine xr_aaload hc rfl (by first | assumption | rfl) (by decide) (by first | omega | (unfold dz_w; omega)) (by first | omega | (unfold dz_w; omega)) (by first | assumption | rfl) ?_
        refine xr_iloadn hc rfl rfl ?_
        refine xr_baload hc rfl (by first | assumption | rfl) (by first | omega | (unfold dz_w; omega)) (by first | omega | (unfold dz_w; omega)) ?_
        rw [e3]
        refine xr_istore4 hc rfl rfl ?_
        refine xr_aloadn hc rfl rfl ?_
        refine xr_getfr hc rfl rfl (by first | assumption | rfl) (by first | assumption | rfl) ?_
        refine xr_iloadn hc rfl rfl ?_
        refine xr_aaload hc rfl (by first | assumption | rfl) (by decide) (by first | omega | (unfold dz_w; omega)) (by first | omega | (unfold dz_w; omega)) (by first | assumption | rfl) ?_
        refine xr_iloadn hc rfl rfl ?_
        refine xr_iloadn hc rfl rfl ?_
        refine xr_i2b hc rfl ?_
        refine xr_bastore hc rfl (by first | assumption | rfl) (by first | omega | (unfold dz_w; omega)) (by first | omega | (unfold dz_w; omega)) ?_
        refine xr_iload hc rfl rfl ?_
        refine xr_sipush hc rfl ?_
        refine xr_iaddz hc rfl (by first | exact dz_wid (by first | omega | (unfold dz_w; omega)) (by first | omega | (unfold dz_w; omega)) | rfl) ?_
        refine xr_ireturn hc rfl rfl (Nat.zero_le _) (Nat.zero_le _) ?_
        simp only [o_put] at hQ
        repeat (first | rw [if_pos (by omega)] at hQ | rw [if_neg (by omega)] at hQ)
        try dsimp only at hQ
        refine hQ _ (fun q2 k2 u => by rw [dz_up_ne (by omega)]) ⟨rowX_fr hrow (fun q2 k2 u1 u2 => by rw [dz_up_ne (by omega)]), fun r2 hr2 => ?_, Eq.trans (by rw [dz_up_ne (by omega)]) htl, Eq.trans (by rw [dz_up_ne (by omega)]) hup, Eq.trans (by rw [dz_up_ne (by omega)]) hlo, fndX_fr hfn (by rw [dz_up_ne (by omega)]) (fun k2 => by rw [dz_up_ne (by omega)]), drX_fr hdr (fun q2 k2 u1 u2 => by rw [dz_up_ne (by omega)]), kepX_fr hkp (fun q2 k2 u1 u2 => by rw [dz_up_ne (by omega)]), rbX_fr hrb (fun q2 k2 u1 => by rw [dz_up_ne (by omega)])⟩
        refine ⟨by rw [dz_up_ne (by omega)]; exact (htxt r2 hr2).1, fun k hk => ?_⟩
        by_cases e : r2 = t.toNat
        · subst e
          rw [up_fup, rup_eq, dz_bb2]
          unfold fup
          by_cases e3 : k = i.toNat
          · rw [if_pos e3, if_pos e3]
          · rw [if_neg e3, if_neg e3]
            exact e2 k hk
        · rw [rup_ne e, dz_up_ne (by omega)]
          exact (htxt r2 hr2).2 k hk
      · refine xk_1 ?_
        refine xr_iff hc rfl (by simp [dz_cmp]) ?_
        refine xr_aloadn hc rfl rfl ?_
        refine xr_iconst hc rfl ?_
        refine xr_callv1 hc rfl (by first | assumption | rfl) rfl rfl rfl (Nat.le_of_ble_eq_true rfl) (Nat.zero_le _) (Nat.zero_le _) ?_
        refine S_refuse hl hR hW (by omega) (fun M2 z1 z2 => ?_)
        refine xk_1 ?_
        refine xr_ireturn hc rfl rfl (Nat.zero_le _) (Nat.zero_le _) ?_
        simp only [o_put] at hQ
        repeat (first | rw [if_pos (by omega)] at hQ | rw [if_neg (by omega)] at hQ)
        try dsimp only at hQ
        exact hQ M2 z1 z2
    · refine xr_aloadn hc rfl rfl ?_
      refine xr_iconst hc rfl ?_
      refine xr_callv1 hc rfl (by first | assumption | rfl) rfl rfl rfl (Nat.le_of_ble_eq_true rfl) (Nat.zero_le _) (Nat.zero_le _) ?_
      refine S_refuse hl hR hW (by omega) (fun M2 z1 z2 => ?_)
      refine xk_1 ?_
      refine xr_ireturn hc rfl rfl (Nat.zero_le _) (Nat.zero_le _) ?_
      simp only [o_put] at hQ
      repeat (first | rw [if_pos (by omega)] at hQ | rw [if_neg (by omega)] at hQ)
      try dsimp only at hQ
      exact hQ M2 z1 z2
  · refine xk_1 ?_
    refine xr_iff hc rfl (by simp [dz_cmp]) ?_
    refine xr_iconst hc rfl ?_
    refine xr_ireturn hc rfl rfl (Nat.zero_le _) (Nat.zero_le _) ?_
    simp only [o_put] at hQ
    repeat (first | rw [if_pos (by omega)] at hQ | rw [if_neg (by omega)] at hQ)
    try dsimp only at hQ
    exact hQ M (fun _ _ _ => rfl) hR
def o_word (tl w : Int) (kd wt nx s : Nat → Int) (i what : Int) : Int × Int := if i < 0 ∨ w ≤ i ∨ what < 0 ∨ 5 < what then (-1, tl) else (1, tw kd wt nx s i.toNat what)
def o_mark (fn : Nat → Int) (w pl : Int) (kd wt nx s : Nat → Int) (i c : Int) : Int × (Nat → Int) := if i < 0 ∨ w ≤ i ∨ c < 1 ∨ 5 < c then (-1, fn) else if kd i.toNat = c ∨ (c = 1 ∧ (kd i.toNat = 3 ∨ kd i.toNat = 4)) ∨ (c = 2 ∧ kd i.toNat = 5) then (mk pl kd wt nx s i.toNat c, fn) else (-3, rfu fn 3)
def o_waits (w pl : Int) (s : Nat → Int) (i b : Int) : Int := if i < 0 ∨ w ≤ i ∨ b < 0 ∨ 999 < b then -1 else wa (s (5 + i.toNat)) b pl
set_option maxRecDepth 100000 in
theorem X_word {xo : Nat → List Int} {d : Nat} {Q : dz_Q} {sh : List (Nat ⊕ (Nat × Nat))} {rf : Nat → Nat → Nat} {M : Nat → Nat → Int} {rs : Nat → Int} {it : Nat → Nat → Int} {ts : Nat → Int} {ch : Nat → Nat → Int} {tl up lo : Int} {fn : Nat → Int} {w pl : Int} {kd wt nx : Nat → Int} {n : Nat} {hs : Nat → Nat → Int} {kp : Nat → Int} {kh : Nat → Nat → Nat → Int} {i what : Int} (hl : cl sh rf) (hR : RX M rs it ts ch tl up lo fn w pl kd wt nx n hs kp kh) (hW : WF rs it ts ch tl up lo fn w pl kd wt nx n hs kp kh) (hQ : ∀ M2 : Nat → Nat → Int, (∀ q2 k2, 115 ≤ q2 → M2 q2 k2 = M q2 k2) → RX M2 rs it ts ch (o_word tl w kd wt nx (hs n) i what).2 up lo fn w pl kd wt nx n hs kp kh → Q (some (dz_i ((o_word tl w kd wt nx (hs n) i what).1))) (sh, rf, M2)) : dz_E dz_pp xo (d + 3) 63 [dz_r 0, dz_i i, dz_i what] (sh, rf, M) Q := by
  refine ⟨Nat.le_of_ble_eq_true rfl, ?_⟩
  have hc := dz_E_m dz_pp xo (d + 2)
  show dz_X (dz_E dz_pp xo (d + 2)) dz_pp xo (dz_pp 63) Q 0 [some (dz_r 0), some (dz_i i), some (dz_i what)] [] 0 0 (sh, rf, M)
  obtain ⟨c0, c1, c2, c3, c4, c5, c6, c7, c8, c9, c10, c11, c12, c13, c14, c15, c16, c17, c18, c19, c20, c21, c22, c23, c24, c25, c26, c27, c28, c29, c30, c31, c32, c33, c34, c35, c36⟩ := id hl
  obtain ⟨hrow, htxt, htl, hup, hlo, hfn, hdr, hkp, hrb⟩ := id hR
  obtain ⟨wrow, wtxt, wdr, wst, wkp⟩ := id hW
  obtain ⟨d0, d1, d2, d3, d4, d5, d6, d7, d8, d9, d10⟩ := id c14
  have m0 := d4.1
  have m1 := d2.1
  obtain ⟨g1, g2, g3, g4, g5, g6⟩ := id hdr
  obtain ⟨r0, r1, r2, r3, r4, r5, r6⟩ := id g2
  have hw6 := WF_w hW
  refine xr_aloadn hc rfl rfl ?_
  refine xr_getfr hc rfl rfl (by first | assumption | rfl) (by first | assumption | rfl) ?_
  refine xr_getfr hc rfl rfl (by first | assumption | rfl) (by first | assumption | rfl) ?_
  refine xr_iloadn hc rfl rfl ?_
  refine xr_callv1 hc rfl (by first | assumption | rfl) rfl rfl rfl (Nat.le_of_ble_eq_true rfl) (Nat.zero_le _) (Nat.zero_le _) ?_
  refine S_has d4 (by omega) (fun u1 v1 => ?_) (fun u1 => ?_)
  · refine xk_1 ?_
    refine xr_iff hc rfl (by simp [dz_cmp]) ?_
    refine xr_iloadn hc rfl rfl ?_
    refine xr_iconst hc rfl ?_
    refine xr_iconst hc rfl ?_
    refine xr_calls3 hc rfl (by decide) rfl rfl rfl (Nat.le_of_ble_eq_true rfl) (Nat.zero_le _) (Nat.zero_le _) ?_
    refine S_isWithin (fun u2 v2 => ?_) (fun u2 => ?_)
    · refine xk_1 ?_
      refine xr_ift hc rfl (t := 25) rfl (by simp [dz_cmp]) ?_
      refine xr_aloadn hc rfl rfl ?_
      refine xr_aloadn hc rfl rfl ?_
      refine xr_getfr hc rfl rfl (by first | assumption | rfl) (by first | assumption | rfl) ?_
      refine xr_getfr hc rfl rfl (by first | assumption | rfl) (by first | assumption | rfl) ?_
      refine xr_iloadn hc rfl rfl ?_
      refine xr_iloadn hc rfl rfl ?_
      refine xr_callv2 hc rfl (by first | assumption | rfl) rfl rfl rfl (Nat.le_of_ble_eq_true rfl) (Nat.zero_le _) (Nat.zero_le _) ?_
      have hp := WF_p hW (by omega)
      have hst := wst.2 n (Nat.le_refl n)
      refine S_tellWord d4 hp hst g2 (by omega) ?_
      refine xk_1 ?_
      refine xr_putfi hc rfl rfl (by first | assumption | rfl) ?_
      refine xr_iconst hc rfl ?_
      refine xr_ireturn hc rfl rfl (Nat.zero_le _) (Nat.zero_le _) ?_
      simp only [o_word] at hQ
      repeat (first | rw [if_pos (by omega)] at hQ | rw [if_neg (by omega)] at hQ)
      try dsimp only at hQ
      refine hQ _ (fun q2 k2 u => by rw [dz_up_ne (by omega)]) ⟨rowX_fr hrow (fun q2 k2 u1 u2 => by rw [dz_up_ne (by omega)]), txtX_fr htxt (fun q2 k2 u1 u2 => by rw [dz_up_ne (by omega)]), by rw [dz_up_eq], by rw [dz_up_k (by omega)]; exact hup, by rw [dz_up_k (by omega)]; exact hlo, fndX_fr hfn (by rw [dz_up_k (by omega)]) (fun k2 => by rw [dz_up_ne (by omega)]), drX_fr hdr (fun q2 k2 u1 u2 => by rw [dz_up_ne (by omega)]), kepX_fr hkp (fun q2 k2 u1 u2 => by rw [dz_up_ne (by omega)]), rbX_fr hrb (fun q2 k2 u1 => by rw [dz_up_ne (by omega)])⟩
    · refine xk_1 ?_
      refine xr_iff hc rfl (by simp [dz_cmp]) ?_
      refine xr_iconst hc rfl ?_
      refine xr_ireturn hc rfl rfl (Nat.zero_le _) (Nat.zero_le _) ?_
      simp only [o_word] at hQ
      repeat (first | rw [if_pos (by omega)] at hQ | rw [if_neg (by omega)] at hQ)
      try dsimp only at hQ
      exact hQ M (fun _ _ _ => rfl) hR
  · refine xk_1 ?_
    refine xr_ift hc rfl (t := 23) rfl (by simp [dz_cmp]) ?_
    refine xr_iconst hc rfl ?_
    refine xr_ireturn hc rfl rfl (Nat.zero_le _) (Nat.zero_le _) ?_
    simp only [o_word] at hQ
    repeat (first | rw [if_pos (by omega)] at hQ | rw [if_neg (by omega)] at hQ)
    try dsimp only at hQ
    exact hQ M (fun _ _ _ => rfl) hR
set_option maxRecDepth 100000 in
theorem X_mark {xo : Nat → List Int} {d : Nat} {Q : dz_Q} {sh : List (Nat ⊕ (Nat × Nat))} {rf : Nat → Nat → Nat} {M : Nat → Nat → Int} {rs : Nat → Int} {it : Nat → Nat → Int} {ts : Nat → Int} {ch : Nat → Nat → Int} {tl up lo : Int} {fn : Nat → Int} {w pl : Int} {kd wt nx : Nat → Int} {n : Nat} {hs : Nat → Nat → Int} {kp : Nat → Int} {kh : Nat → Nat → Nat → Int} {i c : Int} (hx : xo 2 = dz_xs2) (hl : cl sh rf) (hR : RX M rs it ts ch tl up lo fn w pl kd wt nx n hs kp kh) (hW : WF rs it ts ch tl up lo fn w pl kd wt nx n hs kp kh) (hQ : ∀ M2 : Nat → Nat → Int, (∀ q2 k2, 115 ≤ q2 → M2 q2 k2 = M q2 k2) → RX M2 rs it ts ch tl up lo (o_mark fn w pl kd wt nx (hs n) i c).2 w pl kd wt nx n hs kp kh → Q (some (dz_i ((o_mark fn w pl kd wt nx (hs n) i c).1))) (sh, rf, M2)) : dz_E dz_pp xo (d + 4) 64 [dz_r 0, dz_i i, dz_i c] (sh, rf, M) Q := by
  refine ⟨Nat.le_of_ble_eq_true rfl, ?_⟩
  have hc := dz_E_m dz_pp xo (d + 3)
  show dz_X (dz_E dz_pp xo (d + 3)) dz_pp xo (dz_pp 64) Q 0 [some (dz_r 0), some (dz_i i), some (dz_i c)] [] 0 0 (sh, rf, M)
  obtain ⟨c0, c1, c2, c3, c4, c5, c6, c7, c8, c9, c10, c11, c12, c13, c14, c15, c16, c17, c18, c19, c20, c21, c22, c23, c24, c25, c26, c27, c28, c29, c30, c31, c32, c33, c34, c35, c36⟩ := id hl
  obtain ⟨hrow, htxt, htl, hup, hlo, hfn, hdr, hkp, hrb⟩ := id hR
  obtain ⟨wrow, wtxt, wdr, wst, wkp⟩ := id hW
  obtain ⟨d0, d1, d2, d3, d4, d5, d6, d7, d8, d9, d10⟩ := id c14
  have m0 := d4.1
  have m1 := d2.1
  obtain ⟨g1, g2, g3, g4, g5, g6⟩ := id hdr
  obtain ⟨r0, r1, r2, r3, r4, r5, r6⟩ := id g2
  have hw6 := WF_w hW
  refine xr_aloadn hc rfl rfl ?_
  refine xr_getfr hc rfl rfl (by first | assumption | rfl) (by first | assumption | rfl) ?_
  refine xr_getfr hc rfl rfl (by first | assumption | rfl) (by first | assumption | rfl) ?_
  refine xr_iloadn hc rfl rfl ?_
  refine xr_callv1 hc rfl (by first | assumption | rfl) rfl rfl rfl (Nat.le_of_ble_eq_true rfl) (Nat.zero_le _) (Nat.zero_le _) ?_
  refine S_has d4 (by omega) (fun u1 v1 => ?_) (fun u1 => ?_)
  · refine xk_1 ?_
    refine xr_iff hc rfl (by simp [dz_cmp]) ?_
    refine xr_iloadn hc rfl rfl ?_
    refine xr_iconst hc rfl ?_
    refine xr_iconst hc rfl ?_
    refine xr_calls3 hc rfl (by decide) rfl rfl rfl (Nat.le_of_ble_eq_true rfl) (Nat.zero_le _) (Nat.zero_le _) ?_
    refine S_isWithin (fun u2 v2 => ?_) (fun u2 => ?_)
    · refine xk_1 ?_
      refine xr_ift hc rfl (t := 25) rfl (by simp [dz_cmp]) ?_
      refine xr_aloadn hc rfl rfl ?_
      refine xr_getfr hc rfl rfl (by first | assumption | rfl) (by first | assumption | rfl) ?_
      refine xr_getfr hc rfl rfl (by first | assumption | rfl) (by first | assumption | rfl) ?_
      refine xr_iloadn hc rfl rfl ?_
      refine xr_iloadn hc rfl rfl ?_
      refine xr_callv2 hc rfl (by first | assumption | rfl) rfl rfl rfl (Nat.le_of_ble_eq_true rfl) (Nat.zero_le _) (Nat.zero_le _) ?_
      have hp := WF_p hW (by omega)
      have hst := wst.2 n (Nat.le_refl n)
      obtain ⟨x1, x2, x3, x4, x5, x6⟩ := r6 i.toNat (by omega)
      have hk := hp.2.2.2.2 i.toNat (by omega)
      refine S_isOf hx d4 (by omega) (by rw [x1]; omega) (by omega) (fun y1 => ?_) (fun y1 => ?_)
      all_goals (unfold isof at y1; rw [x1] at y1)
      · refine xk_1 ?_
        refine xr_ift hc rfl (t := 46) rfl (by simp [dz_cmp]) ?_
        refine xr_aloadn hc rfl rfl ?_
        refine xr_getfr hc rfl rfl (by first | assumption | rfl) (by first | assumption | rfl) ?_
        refine xr_getfr hc rfl rfl (by first | assumption | rfl) (by first | assumption | rfl) ?_
        refine xr_iloadn hc rfl rfl ?_
        refine xr_iloadn hc rfl rfl ?_
        refine xr_callv2 hc rfl (by first | assumption | rfl) rfl rfl rfl (Nat.le_of_ble_eq_true rfl) (Nat.zero_le _) (Nat.zero_le _) ?_
        refine S_markOf d4 hp hst g2 (by omega) ?_
        refine xk_1 ?_
        refine xr_ireturn hc rfl rfl (Nat.zero_le _) (Nat.zero_le _) ?_
        simp only [o_mark] at hQ
        repeat (first | rw [if_pos (by omega)] at hQ | rw [if_neg (by omega)] at hQ)
        try dsimp only at hQ
        exact hQ M (fun _ _ _ => rfl) hR
      · refine xk_1 ?_
        refine xr_iff hc rfl (by simp [dz_cmp]) ?_
        refine xr_aloadn hc rfl rfl ?_
        refine xr_iconst hc rfl ?_
        refine xr_callv1 hc rfl (by first | assumption | rfl) rfl rfl rfl (Nat.le_of_ble_eq_true rfl) (Nat.zero_le _) (Nat.zero_le _) ?_
        refine S_refuse hl hR hW (by omega) (fun M2 z1 z2 => ?_)
        refine xk_1 ?_
        refine xr_ireturn hc rfl rfl (Nat.zero_le _) (Nat.zero_le _) ?_
        simp only [o_mark] at hQ
        repeat (first | rw [if_pos (by omega)] at hQ | rw [if_neg (by omega)] at hQ)
        try dsimp only at hQ
        exact hQ M2 z1 z2
    · refine xk_1 ?_
      refine xr_iff hc rfl (by simp [dz_cmp]) ?_
      refine xr_iconst hc rfl ?_
      refine xr_ireturn hc rfl rfl (Nat.zero_le _) (Nat.zero_le _) ?_
      simp only [o_mark] at hQ
      repeat (first | rw [if_pos (by omega)] at hQ | rw [if_neg (by omega)] at hQ)
      try dsimp only at hQ
      exact hQ M (fun _ _ _ => rfl) hR
  · refine xk_1 ?_
    refine xr_ift hc rfl (t := 23) rfl (by simp [dz_cmp]) ?_
    refine xr_iconst hc rfl ?_
    refine xr_ireturn hc rfl rfl (Nat.zero_le _) (Nat.zero_le _) ?_
    simp only [o_mark] at hQ
    repeat (first | rw [if_pos (by omega)] at hQ | rw [if_neg (by omega)] at hQ)
    try dsimp only at hQ
    exact hQ M (fun _ _ _ => rfl) hR
set_option maxRecDepth 100000 in
theorem X_waits {xo : Nat → List Int} {d : Nat} {Q : dz_Q} {sh : List (Nat ⊕ (Nat × Nat))} {rf : Nat → Nat → Nat} {M : Nat → Nat → Int} {rs : Nat → Int} {it : Nat → Nat → Int} {ts : Nat → Int} {ch : Nat → Nat → Int} {tl up lo : Int} {fn : Nat → Int} {w pl : Int} {kd wt nx : Nat → Int} {n : Nat} {hs : Nat → Nat → Int} {kp : Nat → Int} {kh : Nat → Nat → Nat → Int} {i b : Int} (hl : cl sh rf) (hR : RX M rs it ts ch tl up lo fn w pl kd wt nx n hs kp kh) (hW : WF rs it ts ch tl up lo fn w pl kd wt nx n hs kp kh) (hQ : ∀ M2 : Nat → Nat → Int, (∀ q2 k2, 115 ≤ q2 → M2 q2 k2 = M q2 k2) → RX M2 rs it ts ch tl up lo fn w pl kd wt nx n hs kp kh → Q (some (dz_i ((o_waits w pl (hs n) i b)))) (sh, rf, M2)) : dz_E dz_pp xo (d + 3) 65 [dz_r 0, dz_i i, dz_i b] (sh, rf, M) Q := by
  refine ⟨Nat.le_of_ble_eq_true rfl, ?_⟩
  have hc := dz_E_m dz_pp xo (d + 2)
  show dz_X (dz_E dz_pp xo (d + 2)) dz_pp xo (dz_pp 65) Q 0 [some (dz_r 0), some (dz_i i), some (dz_i b)] [] 0 0 (sh, rf, M)
  obtain ⟨c0, c1, c2, c3, c4, c5, c6, c7, c8, c9, c10, c11, c12, c13, c14, c15, c16, c17, c18, c19, c20, c21, c22, c23, c24, c25, c26, c27, c28, c29, c30, c31, c32, c33, c34, c35, c36⟩ := id hl
  obtain ⟨hrow, htxt, htl, hup, hlo, hfn, hdr, hkp, hrb⟩ := id hR
  obtain ⟨wrow, wtxt, wdr, wst, wkp⟩ := id hW
  obtain ⟨d0, d1, d2, d3, d4, d5, d6, d7, d8, d9, d10⟩ := id c14
  have m0 := d4.1
  have m1 := d2.1
  obtain ⟨g1, g2, g3, g4, g5, g6⟩ := id hdr
  obtain ⟨r0, r1, r2, r3, r4, r5, r6⟩ := id g2
  have hw6 := WF_w hW
  refine xr_aloadn hc rfl rfl ?_
  refine xr_getfr hc rfl rfl (by first | assumption | rfl) (by first | assumption | rfl) ?_
  refine xr_getfr hc rfl rfl (by first | assumption | rfl) (by first | assumption | rfl) ?_
  refine xr_iloadn hc rfl rfl ?_
  refine xr_callv1 hc rfl (by first | assumption | rfl) rfl rfl rfl (Nat.le_of_ble_eq_true rfl) (Nat.zero_le _) (Nat.zero_le _) ?_
  refine S_has d4 (by omega) (fun u1 v1 => ?_) (fun u1 => ?_)
  · refine xk_1 ?_
    refine xr_iff hc rfl (by simp [dz_cmp]) ?_
    refine xr_iloadn hc rfl rfl ?_
    refine xr_iconst hc rfl ?_
    refine xr_sipush hc rfl ?_
    refine xr_calls3 hc rfl (by decide) rfl rfl rfl (Nat.le_of_ble_eq_true rfl) (Nat.zero_le _) (Nat.zero_le _) ?_
    refine S_isWithin (fun u2 v2 => ?_) (fun u2 => ?_)
    · refine xk_1 ?_
      refine xr_ift hc rfl (t := 27) rfl (by simp [dz_cmp]) ?_
      have m7 := d4.2.2.2.1
      have m8 := d4.2.2.2.2.1
      refine xr_aloadn hc rfl rfl ?_
      refine xr_getfr hc rfl rfl (by first | assumption | rfl) (by first | assumption | rfl) ?_
      refine xr_getfr hc rfl rfl (by first | assumption | rfl) (by first | assumption | rfl) ?_
      refine xr_getfr hc rfl rfl (by first | assumption | rfl) (by first | assumption | rfl) ?_
      refine xr_iloadn hc rfl rfl ?_
      first | refine xr_iaload hc rfl (by first | assumption | rfl) (by first | omega | (unfold dz_w; omega)) (by first | omega | (unfold dz_w; omega)) ?_ | refine xr_ialoado hc rfl (by first | omega | (unfold dz_w; omega)) (by first | omega | (unfold dz_w; omega)) ?_
      refine xr_iloadn hc rfl rfl ?_
      refine xr_aloadn hc rfl rfl ?_
      refine xr_getfr hc rfl rfl (by first | assumption | rfl) (by first | assumption | rfl) ?_
      refine xr_getfr hc rfl rfl (by first | assumption | rfl) (by first | assumption | rfl) ?_
      refine xr_getfi hc rfl (Or.inl rfl) (by first | assumption | rfl) ?_
      refine xr_calls3 hc rfl (by decide) rfl rfl rfl (Nat.le_of_ble_eq_true rfl) (Nat.zero_le _) (Nat.zero_le _) ?_
      have hp := WF_p hW (by omega)
      have hst := wst.2 n (Nat.le_refl n)
      obtain ⟨x1, x2, x3, x4, x5, x6⟩ := r6 i.toNat (by omega)
      have hk := hst.2.2.2.2.2.2.2.2 i.toNat (by omega)
      have hp2 := hp.2.2.1
      have hp3 := hp.2.2.2.1
      refine S_waitFor (by rw [x2]; omega) (by omega) (by omega) ?_
      rw [x2, r1]
      refine xk_1 ?_
      refine xr_ireturn hc rfl rfl (Nat.zero_le _) (Nat.zero_le _) ?_
      simp only [o_waits] at hQ
      repeat (first | rw [if_pos (by omega)] at hQ | rw [if_neg (by omega)] at hQ)
      try dsimp only at hQ
      exact hQ M (fun _ _ _ => rfl) hR
    · refine xk_1 ?_
      refine xr_iff hc rfl (by simp [dz_cmp]) ?_
      refine xr_iconst hc rfl ?_
      refine xr_ireturn hc rfl rfl (Nat.zero_le _) (Nat.zero_le _) ?_
      simp only [o_waits] at hQ
      repeat (first | rw [if_pos (by omega)] at hQ | rw [if_neg (by omega)] at hQ)
      try dsimp only at hQ
      exact hQ M (fun _ _ _ => rfl) hR
  · refine xk_1 ?_
    refine xr_ift hc rfl (t := 25) rfl (by simp [dz_cmp]) ?_
    refine xr_iconst hc rfl ?_
    refine xr_ireturn hc rfl rfl (Nat.zero_le _) (Nat.zero_le _) ?_
    simp only [o_waits] at hQ
    repeat (first | rw [if_pos (by omega)] at hQ | rw [if_neg (by omega)] at hQ)
    try dsimp only at hQ
    exact hQ M (fun _ _ _ => rfl) hR
set_option maxRecDepth 100000 in
theorem S_hasNoWords {xo : Nat → List Int} {d : Nat} {Q : dz_Q} {sh : List (Nat ⊕ (Nat × Nat))} {rf : Nat → Nat → Nat} {M : Nat → Nat → Int} {rs : Nat → Int} {it : Nat → Nat → Int} {ts : Nat → Int} {ch : Nat → Nat → Int} {tl up lo : Int} {fn : Nat → Int} {w pl : Int} {kd wt nx : Nat → Int} {n : Nat} {hs : Nat → Nat → Int} {kp : Nat → Int} {kh : Nat → Nat → Nat → Int} (hl : cl sh rf) (hR : RX M rs it ts ch tl up lo fn w pl kd wt nx n hs kp kh) (hW : WF rs it ts ch tl up lo fn w pl kd wt nx n hs kp kh) (h1 : w = 0 → Q (some (dz_i 1)) (sh, rf, M)) (h2 : w ≠ 0 → Q (some (dz_i 0)) (sh, rf, M)) : dz_E dz_pp xo (d + 2) 101 [dz_r 0] (sh, rf, M) Q := by
  refine ⟨Nat.le_of_ble_eq_true rfl, ?_⟩
  have hc := dz_E_m dz_pp xo (d + 1)
  show dz_X (dz_E dz_pp xo (d + 1)) dz_pp xo (dz_pp 101) Q 0 [some (dz_r 0)] [] 0 0 (sh, rf, M)
  obtain ⟨c0, c1, c2, c3, c4, c5, c6, c7, c8, c9, c10, c11, c12, c13, c14, c15, c16, c17, c18, c19, c20, c21, c22, c23, c24, c25, c26, c27, c28, c29, c30, c31, c32, c33, c34, c35, c36⟩ := id hl
  obtain ⟨hrow, htxt, htl, hup, hlo, hfn, hdr, hkp, hrb⟩ := id hR
  obtain ⟨wrow, wtxt, wdr, wst, wkp⟩ := id hW
  obtain ⟨d0, d1, d2, d3, d4, d5, d6, d7, d8, d9, d10⟩ := id c14
  have m0 := d4.1
  have m1 := d2.1
  obtain ⟨g1, g2, g3, g4, g5, g6⟩ := id hdr
  obtain ⟨r0, r1, r2, r3, r4, r5, r6⟩ := id g2
  have hw6 := WF_w hW
  refine xr_aloadn hc rfl rfl ?_
  refine xr_getfr hc rfl rfl (by first | assumption | rfl) (by first | assumption | rfl) ?_
  refine xr_callv0 hc rfl (by first | assumption | rfl) rfl rfl rfl (Nat.le_of_ble_eq_true rfl) (Nat.zero_le _) (Nat.zero_le _) ?_
  refine S_isMissing c14 (fun u1 => ?_) (fun u1 => ?_)
  · refine xk_1 ?_
    refine xr_zreturn hc rfl rfl (Nat.zero_le _) (Nat.zero_le _) (by first | exact Or.inl rfl | exact Or.inr rfl | assumption) ?_
    first
      | exact h1 (by omega)
      | exact h2 (by omega)
  · refine xk_1 ?_
    refine xr_zreturn hc rfl rfl (Nat.zero_le _) (Nat.zero_le _) (by first | exact Or.inl rfl | exact Or.inr rfl | assumption) ?_
    first
      | exact h1 (by omega)
      | exact h2 (by omega)
def o_deed (pl : Int) (kd wt nx : Nat → Int) (n : Nat) (hs : Nat → Nat → Int) (wh a b : Int) : Int × Nat × (Nat → Nat → Int) := if n = 40 then (-2, n, hs) else (dan pl kd wt nx wh a b (hs n), n + 1, hup hs n (ded pl kd wt nx wh a b (hs n)))
def o_step (w pl : Int) (kd wt nx : Nat → Int) (n : Nat) (hs : Nat → Nat → Int) : Int × Nat × (Nat → Nat → Int) := if w = 0 ∨ hs n 3 = -9 then (-4, n, hs) else o_deed pl kd wt nx n hs 0 0 0
def o_move (w pl : Int) (kd wt nx : Nat → Int) (n : Nat) (hs : Nat → Nat → Int) (i p : Int) : Int × Nat × (Nat → Nat → Int) := if i < 0 ∨ w ≤ i ∨ p < 0 ∨ pl ≤ p then (-1, n, hs) else if ly_at (fun k => hs n (5 + k)) p w.toNat 0 = -9 then o_deed pl kd wt nx n hs 1 i p else (-4, n, hs)
def o_swap (w pl : Int) (kd wt nx : Nat → Int) (n : Nat) (hs : Nat → Nat → Int) (i j : Int) : Int × Nat × (Nat → Nat → Int) := if i < 0 ∨ w ≤ i ∨ j < 0 ∨ w ≤ j ∨ i = j then (-1, n, hs) else o_deed pl kd wt nx n hs 2 i j
def o_value (w pl : Int) (kd wt nx : Nat → Int) (n : Nat) (hs : Nat → Nat → Int) (i v : Int) : Int × Nat × (Nat → Nat → Int) := if i < 0 ∨ w ≤ i ∨ v < 0 ∨ 99 < v then (-1, n, hs) else o_deed pl kd wt nx n hs 3 i v
set_option maxRecDepth 100000 in
theorem X_step {xo : Nat → List Int} {d : Nat} {Q : dz_Q} {sh : List (Nat ⊕ (Nat × Nat))} {rf : Nat → Nat → Nat} {M : Nat → Nat → Int} {rs : Nat → Int} {it : Nat → Nat → Int} {ts : Nat → Int} {ch : Nat → Nat → Int} {tl up lo : Int} {fn : Nat → Int} {w pl : Int} {kd wt nx : Nat → Int} {n : Nat} {hs : Nat → Nat → Int} {kp : Nat → Int} {kh : Nat → Nat → Nat → Int} (hx : xo 2 = dz_xs2) (hl : cl sh rf) (hR : RX M rs it ts ch tl up lo fn w pl kd wt nx n hs kp kh) (hW : WF rs it ts ch tl up lo fn w pl kd wt nx n hs kp kh) (hQ : ∀ M2 : Nat → Nat → Int, (∀ q2 k2, 115 ≤ q2 → M2 q2 k2 = M q2 k2) → RX M2 rs it ts ch tl up lo fn w pl kd wt nx (o_step w pl kd wt nx n hs).2.1 (o_step w pl kd wt nx n hs).2.2 kp kh → Q (some (dz_i ((o_step w pl kd wt nx n hs).1))) (sh, rf, M2)) : dz_E dz_pp xo (d + 7) 66 [dz_r 0] (sh, rf, M) Q := by
  refine ⟨Nat.le_of_ble_eq_true rfl, ?_⟩
  have hc := dz_E_m dz_pp xo (d + 6)
  show dz_X (dz_E dz_pp xo (d + 6)) dz_pp xo (dz_pp 66) Q 0 [some (dz_r 0)] [] 0 0 (sh, rf, M)
  obtain ⟨c0, c1, c2, c3, c4, c5, c6, c7, c8, c9, c10, c11, c12, c13, c14, c15, c16, c17, c18, c19, c20, c21, c22, c23, c24, c25, c26, c27, c28, c29, c30, c31, c32, c33, c34, c35, c36⟩ := id hl
  obtain ⟨hrow, htxt, htl, hup, hlo, hfn, hdr, hkp, hrb⟩ := id hR
  obtain ⟨wrow, wtxt, wdr, wst, wkp⟩ := id hW
  obtain ⟨d0, d1, d2, d3, d4, d5, d6, d7, d8, d9, d10⟩ := id c14
  have m0 := d4.1
  have m1 := d2.1
  obtain ⟨g1, g2, g3, g4, g5, g6⟩ := id hdr
  obtain ⟨r0, r1, r2, r3, r4, r5, r6⟩ := id g2
  have hw6 := WF_w hW
  refine xr_aloadn hc rfl rfl ?_
  refine xr_callv0 hc rfl (by first | assumption | rfl) rfl rfl rfl (Nat.le_of_ble_eq_true rfl) (Nat.zero_le _) (Nat.zero_le _) ?_
  refine S_hasNoWords hl hR hW (fun u9 => ?_) (fun u9 => ?_)
  · refine xk_1 ?_
    refine xr_ift hc rfl (t := 22) rfl (by simp [dz_cmp]) ?_
    refine xr_bipush hc rfl ?_
    refine xr_ireturn hc rfl rfl (Nat.zero_le _) (Nat.zero_le _) ?_
    unfold o_step at hQ
    rw [if_pos (by omega)] at hQ
    exact hQ M (fun _ _ _ => rfl) hR
  · refine xk_1 ?_
    refine xr_iff hc rfl (by simp [dz_cmp]) ?_
    refine xr_aloadn hc rfl rfl ?_
    refine xr_getfr hc rfl rfl (by first | assumption | rfl) (by first | assumption | rfl) ?_
    refine xr_getfr hc rfl rfl (by first | assumption | rfl) (by first | assumption | rfl) ?_
    refine xr_getfi hc rfl (Or.inl rfl) (by first | assumption | rfl) ?_
    refine xr_bipush hc rfl ?_
    refine xr_icmp_ne hc rfl (t := 25) rfl (fun b19 => ?_) (fun b19 => ?_)
    · refine xr_aloadn hc rfl rfl ?_
      refine xr_getfr hc rfl rfl (by first | assumption | rfl) (by first | assumption | rfl) ?_
      refine xr_iconst hc rfl ?_
      refine xr_iconst hc rfl ?_
      refine xr_iconst hc rfl ?_
      refine xr_callv3 hc rfl (by first | assumption | rfl) rfl rfl rfl (Nat.le_of_ble_eq_true rfl) (Nat.zero_le _) (Nat.zero_le _) ?_
      have hp := WF_p hW (by omega)
      have hst := wst.2 n (Nat.le_refl n)
      refine S_doDeed hx c14 hp hdr (Or.inl ⟨rfl, by omega⟩) (fun u7 => ?_) (fun u7 M2 z1 z2 => ?_)
      · refine xk_1 ?_
        refine xr_ireturn hc rfl rfl (Nat.zero_le _) (Nat.zero_le _) ?_
        unfold o_step o_deed at hQ
        repeat (first | rw [if_pos (by omega)] at hQ | rw [if_neg (by omega)] at hQ)
        exact hQ M (fun _ _ _ => rfl) hR
      · refine xk_1 ?_
        refine xr_ireturn hc rfl rfl (Nat.zero_le _) (Nat.zero_le _) ?_
        unfold o_step o_deed at hQ
        repeat (first | rw [if_pos (by omega)] at hQ | rw [if_neg (by omega)] at hQ)
        exact hQ M2 (fun q2 k2 u => z1 q2 k2 (by omega)) ⟨rowX_fr hrow (fun q2 k2 u1 u2 => z1 _ _ (by omega)), txtX_fr htxt (fun q2 k2 u1 u2 => z1 _ _ (by omega)), Eq.trans (z1 _ _ (by omega)) htl, Eq.trans (z1 _ _ (by omega)) hup, Eq.trans (z1 _ _ (by omega)) hlo, fndX_fr hfn (z1 _ _ (by omega)) (fun k2 => z1 _ _ (by omega)), z2, kepX_fr hkp (fun q2 k2 u1 u2 => z1 _ _ (by omega)), rbX_fr hrb (fun q2 k2 u1 => z1 _ _ (by omega))⟩
    · refine xr_bipush hc rfl ?_
      refine xr_ireturn hc rfl rfl (Nat.zero_le _) (Nat.zero_le _) ?_
      unfold o_step at hQ
      rw [if_pos (by omega)] at hQ
      exact hQ M (fun _ _ _ => rfl) hR
set_option maxRecDepth 100000 in
theorem X_move {xo : Nat → List Int} {d : Nat} {Q : dz_Q} {sh : List (Nat ⊕ (Nat × Nat))} {rf : Nat → Nat → Nat} {M : Nat → Nat → Int} {rs : Nat → Int} {it : Nat → Nat → Int} {ts : Nat → Int} {ch : Nat → Nat → Int} {tl up lo : Int} {fn : Nat → Int} {w pl : Int} {kd wt nx : Nat → Int} {n : Nat} {hs : Nat → Nat → Int} {kp : Nat → Int} {kh : Nat → Nat → Nat → Int} {i p : Int} (hx : xo 2 = dz_xs2) (hl : cl sh rf) (hR : RX M rs it ts ch tl up lo fn w pl kd wt nx n hs kp kh) (hW : WF rs it ts ch tl up lo fn w pl kd wt nx n hs kp kh) (hQ : ∀ M2 : Nat → Nat → Int, (∀ q2 k2, 115 ≤ q2 → M2 q2 k2 = M q2 k2) → RX M2 rs it ts ch tl up lo fn w pl kd wt nx (o_move w pl kd wt nx n hs i p).2.1 (o_move w pl kd wt nx n hs i p).2.2 kp kh → Q (some (dz_i ((o_move w pl kd wt nx n hs i p).1))) (sh, rf, M2)) : dz_E dz_pp xo (d + 7) 67 [dz_r 0, dz_i i, dz_i p] (sh, rf, M) Q := by
  refine ⟨Nat.le_of_ble_eq_true rfl, ?_⟩
  have hc := dz_E_m dz_pp xo (d + 6)
  show dz_X (dz_E dz_pp xo (d + 6)) dz_pp xo (dz_pp 67) Q 0 [some (dz_r 0), some (dz_i i), some (dz_i p)] [] 0 0 (sh, rf, M)
  obtain ⟨c0, c1, c2, c3, c4, c5, c6, c7, c8, c9, c10, c11, c12, c13, c14, c15, c16, c17, c18, c19, c20, c21, c22, c23, c24, c25, c26, c27, c28, c29, c30, c31, c32, c33, c34, c35, c36⟩ := id hl
  obtain ⟨hrow, htxt, htl, hup, hlo, hfn, hdr, hkp, hrb⟩ := id hR
  obtain ⟨wrow, wtxt, wdr, wst, wkp⟩ := id hW
  obtain ⟨d0, d1, d2, d3, d4, d5, d6, d7, d8, d9, d10⟩ := id c14
  have m0 := d4.1
  have m1 := d2.1
  obtain ⟨g1, g2, g3, g4, g5, g6⟩ := id hdr
  obtain ⟨r0, r1, r2, r3, r4, r5, r6⟩ := id g2
  have hw6 := WF_w hW
  refine xr_aloadn hc rfl rfl ?_
  refine xr_getfr hc rfl rfl (by first | assumption | rfl) (by first | assumption | rfl) ?_
  refine xr_getfr hc rfl rfl (by first | assumption | rfl) (by first | assumption | rfl) ?_
  refine xr_iloadn hc rfl rfl ?_
  refine xr_callv1 hc rfl (by first | assumption | rfl) rfl rfl rfl (Nat.le_of_ble_eq_true rfl) (Nat.zero_le _) (Nat.zero_le _) ?_
  refine S_has d4 (by omega) (fun u1 v1 => ?_) (fun u1 => ?_)
  · refine xk_1 ?_
    refine xr_iff hc rfl (by simp [dz_cmp]) ?_
    refine xr_iloadn hc rfl rfl ?_
    refine xr_iconst hc rfl ?_
    refine xr_aloadn hc rfl rfl ?_
    refine xr_getfr hc rfl rfl (by first | assumption | rfl) (by first | assumption | rfl) ?_
    refine xr_getfr hc rfl rfl (by first | assumption | rfl) (by first | assumption | rfl) ?_
    refine xr_getfi hc rfl (Or.inl rfl) (by first | assumption | rfl) ?_
    have hp := WF_p hW (by omega)
    have hp2 := hp.2.2.1
    have hp3 := hp.2.2.2.1
    refine xr_iconst hc rfl ?_
    refine xr_isubz hc rfl (by first | exact dz_wid (by first | omega | (unfold dz_w; omega)) (by first | omega | (unfold dz_w; omega)) | rfl) ?_
    refine xr_calls3 hc rfl (by decide) rfl rfl rfl (Nat.le_of_ble_eq_true rfl) (Nat.zero_le _) (Nat.zero_le _) ?_
    rw [r1]
    have hp := WF_p hW (by omega)
    have hp2 := hp.2.2.1
    have hp3 := hp.2.2.2.1
    refine S_isWithin (fun u2 v2 => ?_) (fun u2 => ?_)
    · refine xk_1 ?_
      refine xr_ift hc rfl (t := 36) rfl (by simp [dz_cmp]) ?_
      refine xr_aloadn hc rfl rfl ?_
      refine xr_getfr hc rfl rfl (by first | assumption | rfl) (by first | assumption | rfl) ?_
      refine xr_getfr hc rfl rfl (by first | assumption | rfl) (by first | assumption | rfl) ?_
      refine xr_iloadn hc rfl rfl ?_
      refine xr_callv1 hc rfl (by first | assumption | rfl) rfl rfl rfl (Nat.le_of_ble_eq_true rfl) (Nat.zero_le _) (Nat.zero_le _) ?_
      have hfr := ly_free (f := fun k => hs n (5 + k)) (p := p) hw6.1
      have hfc := free_c (f := M (15 + 8 + 2)) (g := fun k => hs n (5 + k)) (w := w) (p := p) (fun k hk => (r6 k hk).2.1)
      refine S_isFree d4 (by omega) (fun u3 => ?_) (fun u3 => ?_)
      all_goals rw [r0] at u3
      have hfy := hfr.mpr (hfc.mp u3)
      rotate_left
      have hfn2 : ¬ _ := fun z => u3 (hfc.mpr (hfr.mp z))
      rotate_right
      · refine xk_1 ?_
        refine xr_ift hc rfl (t := 53) rfl (by simp [dz_cmp]) ?_
        refine xr_aloadn hc rfl rfl ?_
        refine xr_getfr hc rfl rfl (by first | assumption | rfl) (by first | assumption | rfl) ?_
        refine xr_iconst hc rfl ?_
        refine xr_iloadn hc rfl rfl ?_
        refine xr_iloadn hc rfl rfl ?_
        refine xr_callv3 hc rfl (by first | assumption | rfl) rfl rfl rfl (Nat.le_of_ble_eq_true rfl) (Nat.zero_le _) (Nat.zero_le _) ?_
        have hst := wst.2 n (Nat.le_refl n)
        refine S_doDeed hx c14 hp hdr (Or.inr (Or.inl ⟨rfl, by omega, by omega⟩)) (fun u7 => ?_) (fun u7 M2 z1 z2 => ?_)
        · refine xk_1 ?_
          refine xr_ireturn hc rfl rfl (Nat.zero_le _) (Nat.zero_le _) ?_
          unfold o_move o_deed at hQ
          repeat (first | rw [if_pos (by omega)] at hQ | rw [if_neg (by omega)] at hQ)
          exact hQ M (fun _ _ _ => rfl) hR
        · refine xk_1 ?_
          refine xr_ireturn hc rfl rfl (Nat.zero_le _) (Nat.zero_le _) ?_
          unfold o_move o_deed at hQ
          repeat (first | rw [if_pos (by omega)] at hQ | rw [if_neg (by omega)] at hQ)
          exact hQ M2 (fun q2 k2 u => z1 q2 k2 (by omega)) ⟨rowX_fr hrow (fun q2 k2 u1 u2 => z1 _ _ (by omega)), txtX_fr htxt (fun q2 k2 u1 u2 => z1 _ _ (by omega)), Eq.trans (z1 _ _ (by omega)) htl, Eq.trans (z1 _ _ (by omega)) hup, Eq.trans (z1 _ _ (by omega)) hlo, fndX_fr hfn (z1 _ _ (by omega)) (fun k2 => z1 _ _ (by omega)), z2, kepX_fr hkp (fun q2 k2 u1 u2 => z1 _ _ (by omega)), rbX_fr hrb (fun q2 k2 u1 => z1 _ _ (by omega))⟩
      · refine xk_1 ?_
        refine xr_iff hc rfl (by simp [dz_cmp]) ?_
        refine xr_bipush hc rfl ?_
        refine xr_ireturn hc rfl rfl (Nat.zero_le _) (Nat.zero_le _) ?_
        unfold o_move at hQ
        rw [if_neg (by omega), if_neg hfn2] at hQ
        exact hQ M (fun _ _ _ => rfl) hR
    · refine xk_1 ?_
      refine xr_iff hc rfl (by simp [dz_cmp]) ?_
      refine xr_iconst hc rfl ?_
      refine xr_ireturn hc rfl rfl (Nat.zero_le _) (Nat.zero_le _) ?_
      unfold o_move at hQ
      rw [if_pos (by omega)] at hQ
      exact hQ M (fun _ _ _ => rfl) hR
  · refine xk_1 ?_
    refine xr_ift hc rfl (t := 34) rfl (by simp [dz_cmp]) ?_
    refine xr_iconst hc rfl ?_
    refine xr_ireturn hc rfl rfl (Nat.zero_le _) (Nat.zero_le _) ?_
    unfold o_move at hQ
    rw [if_pos (by omega)] at hQ
    exact hQ M (fun _ _ _ => rfl) hR
set_option maxRecDepth 100000 in
theorem X_swap {xo : Nat → List Int} {d : Nat} {Q : dz_Q} {sh : List (Nat ⊕ (Nat × Nat))} {rf : Nat → Nat → Nat} {M : Nat → Nat → Int} {rs : Nat → Int} {it : Nat → Nat → Int} {ts : Nat → Int} {ch : Nat → Nat → Int} {tl up lo : Int} {fn : Nat → Int} {w pl : Int} {kd wt nx : Nat → Int} {n : Nat} {hs : Nat → Nat → Int} {kp : Nat → Int} {kh : Nat → Nat → Nat → Int} {i j : Int} (hx : xo 2 = dz_xs2) (hl : cl sh rf) (hR : RX M rs it ts ch tl up lo fn w pl kd wt nx n hs kp kh) (hW : WF rs it ts ch tl up lo fn w pl kd wt nx n hs kp kh) (hQ : ∀ M2 : Nat → Nat → Int, (∀ q2 k2, 115 ≤ q2 → M2 q2 k2 = M q2 k2) → RX M2 rs it ts ch tl up lo fn w pl kd wt nx (o_swap w pl kd wt nx n hs i j).2.1 (o_swap w pl kd wt nx n hs i j).2.2 kp kh → Q (some (dz_i ((o_swap w pl kd wt nx n hs i j).1))) (sh, rf, M2)) : dz_E dz_pp xo (d + 7) 68 [dz_r 0, dz_i i, dz_i j] (sh, rf, M) Q := by
  refine ⟨Nat.le_of_ble_eq_true rfl, ?_⟩
  have hc := dz_E_m dz_pp xo (d + 6)
  show dz_X (dz_E dz_pp xo (d + 6)) dz_pp xo (dz_pp 68) Q 0 [some (dz_r 0), some (dz_i i), some (dz_i j)] [] 0 0 (sh, rf, M)
  obtain ⟨c0, c1, c2, c3, c4, c5, c6, c7, c8, c9, c10, c11, c12, c13, c14, c15, c16, c17, c18, c19, c20, c21, c22, c23, c24, c25, c26, c27, c28, c29, c30, c31, c32, c33, c34, c35, c36⟩ := id hl
  obtain ⟨hrow, htxt, htl, hup, hlo, hfn, hdr, hkp, hrb⟩ := id hR
  obtain ⟨wrow, wtxt, wdr, wst, wkp⟩ := id hW
  obtain ⟨d0, d1, d2, d3, d4, d5, d6, d7, d8, d9, d10⟩ := id c14
  have m0 := d4.1
  have m1 := d2.1
  obtain ⟨g1, g2, g3, g4, g5, g6⟩ := id hdr
  obtain ⟨r0, r1, r2, r3, r4, r5, r6⟩ := id g2
  have hw6 := WF_w hW
  refine xr_aloadn hc rfl rfl ?_
  refine xr_getfr hc rfl rfl (by first | assumption | rfl) (by first | assumption | rfl) ?_
  refine xr_getfr hc rfl rfl (by first | assumption | rfl) (by first | assumption | rfl) ?_
  refine xr_iloadn hc rfl rfl ?_
  refine xr_callv1 hc rfl (by first | assumption | rfl) rfl rfl rfl (Nat.le_of_ble_eq_true rfl) (Nat.zero_le _) (Nat.zero_le _) ?_
  refine S_has d4 (by omega) (fun u1 v1 => ?_) (fun u1 => ?_)
  · refine xk_1 ?_
    refine xr_iff hc rfl (by simp [dz_cmp]) ?_
    refine xr_aloadn hc rfl rfl ?_
    refine xr_getfr hc rfl rfl (by first | assumption | rfl) (by first | assumption | rfl) ?_
    refine xr_getfr hc rfl rfl (by first | assumption | rfl) (by first | assumption | rfl) ?_
    refine xr_iloadn hc rfl rfl ?_
    refine xr_callv1 hc rfl (by first | assumption | rfl) rfl rfl rfl (Nat.le_of_ble_eq_true rfl) (Nat.zero_le _) (Nat.zero_le _) ?_
    refine S_has d4 (by omega) (fun u2 v2 => ?_) (fun u2 => ?_)
    · refine xk_1 ?_
      refine xr_iff hc rfl (by simp [dz_cmp]) ?_
      refine xr_iloadn hc rfl rfl ?_
      refine xr_iloadn hc rfl rfl ?_
      refine xr_icmp_ne hc rfl (t := 35) rfl (fun b30 => ?_) (fun b30 => ?_)
      · refine xr_aloadn hc rfl rfl ?_
        refine xr_getfr hc rfl rfl (by first | assumption | rfl) (by first | assumption | rfl) ?_
        refine xr_iconst hc rfl ?_
        refine xr_iloadn hc rfl rfl ?_
        refine xr_iloadn hc rfl rfl ?_
        refine xr_callv3 hc rfl (by first | assumption | rfl) rfl rfl rfl (Nat.le_of_ble_eq_true rfl) (Nat.zero_le _) (Nat.zero_le _) ?_
        have hp := WF_p hW (by omega)
        have hst := wst.2 n (Nat.le_refl n)
        refine S_doDeed hx c14 hp hdr (Or.inr (Or.inr (Or.inl ⟨rfl, by omega, by omega⟩))) (fun u7 => ?_) (fun u7 M2 z1 z2 => ?_)
        · refine xk_1 ?_
          refine xr_ireturn hc rfl rfl (Nat.zero_le _) (Nat.zero_le _) ?_
          unfold o_swap o_deed at hQ
          repeat (first | rw [if_pos (by omega)] at hQ | rw [if_neg (by omega)] at hQ)
          exact hQ M (fun _ _ _ => rfl) hR
        · refine xk_1 ?_
          refine xr_ireturn hc rfl rfl (Nat.zero_le _) (Nat.zero_le _) ?_
          unfold o_swap o_deed at hQ
          repeat (first | rw [if_pos (by omega)] at hQ | rw [if_neg (by omega)] at hQ)
          exact hQ M2 (fun q2 k2 u => z1 q2 k2 (by omega)) ⟨rowX_fr hrow (fun q2 k2 u1 u2 => z1 _ _ (by omega)), txtX_fr htxt (fun q2 k2 u1 u2 => z1 _ _ (by omega)), Eq.trans (z1 _ _ (by omega)) htl, Eq.trans (z1 _ _ (by omega)) hup, Eq.trans (z1 _ _ (by omega)) hlo, fndX_fr hfn (z1 _ _ (by omega)) (fun k2 => z1 _ _ (by omega)), z2, kepX_fr hkp (fun q2 k2 u1 u2 => z1 _ _ (by omega)), rbX_fr hrb (fun q2 k2 u1 => z1 _ _ (by omega))⟩
      · refine xr_iconst hc rfl ?_
        refine xr_ireturn hc rfl rfl (Nat.zero_le _) (Nat.zero_le _) ?_
        unfold o_swap at hQ
        rw [if_pos (by omega)] at hQ
        exact hQ M (fun _ _ _ => rfl) hR
    · refine xk_1 ?_
      refine xr_ift hc rfl (t := 33) rfl (by simp [dz_cmp]) ?_
      refine xr_iconst hc rfl ?_
      refine xr_ireturn hc rfl rfl (Nat.zero_le _) (Nat.zero_le _) ?_
      unfold o_swap at hQ
      rw [if_pos (by omega)] at hQ
      exact hQ M (fun _ _ _ => rfl) hR
  · refine xk_1 ?_
    refine xr_ift hc rfl (t := 33) rfl (by simp [dz_cmp]) ?_
    refine xr_iconst hc rfl ?_
    refine xr_ireturn hc rfl rfl (Nat.zero_le _) (Nat.zero_le _) ?_
    unfold o_swap at hQ
    rw [if_pos (by omega)] at hQ
    exact hQ M (fun _ _ _ => rfl) hR
set_option maxRecDepth 100000 in
theorem X_value {xo : Nat → List Int} {d : Nat} {Q : dz_Q} {sh : List (Nat ⊕ (Nat × Nat))} {rf : Nat → Nat → Nat} {M : Nat → Nat → Int} {rs : Nat → Int} {it : Nat → Nat → Int} {ts : Nat → Int} {ch : Nat → Nat → Int} {tl up lo : Int} {fn : Nat → Int} {w pl : Int} {kd wt nx : Nat → Int} {n : Nat} {hs : Nat → Nat → Int} {kp : Nat → Int} {kh : Nat → Nat → Nat → Int} {i v : Int} (hx : xo 2 = dz_xs2) (hl : cl sh rf) (hR : RX M rs it ts ch tl up lo fn w pl kd wt nx n hs kp kh) (hW : WF rs it ts ch tl up lo fn w pl kd wt nx n hs kp kh) (hQ : ∀ M2 : Nat → Nat → Int, (∀ q2 k2, 115 ≤ q2 → M2 q2 k2 = M q2 k2) → RX M2 rs it ts ch tl up lo fn w pl kd wt nx (o_value w pl kd wt nx n hs i v).2.1 (o_value w pl kd wt nx n hs i v).2.2 kp kh → Q (some (dz_i ((o_value w pl kd wt nx n hs i v).1))) (sh, rf, M2)) : dz_E dz_pp xo (d + 7) 69 [dz_r 0, dz_i i, dz_i v] (sh, rf, M) Q := by
  refine ⟨Nat.le_of_ble_eq_true rfl, ?_⟩
  have hc := dz_E_m dz_pp xo (d + 6)
  show dz_X (dz_E dz_pp xo (d + 6)) dz_pp xo (dz_pp 69) Q 0 [some (dz_r 0), some (dz_i i), some (dz_i v)] [] 0 0 (sh, rf, M)
  obtain ⟨c0, c1, c2, c3, c4, c5, c6, c7, c8, c9, c10, c11, c12, c13, c14, c15, c16, c17, c18, c19, c20, c21, c22, c23, c24, c25, c26, c27, c28, c29, c30, c31, c32, c33, c34, c35, c36⟩ := id hl
  obtain ⟨hrow, htxt, htl, hup, hlo, hfn, hdr, hkp, hrb⟩ := id hR
  obtain ⟨wrow, wtxt, wdr, wst, wkp⟩ := id hW
  obtain ⟨d0, d1, d2, d3, d4, d5, d6, d7, d8, d9, d10⟩ := id c14
  have m0 := d4.1
  have m1 := d2.1
  obtain ⟨g1, g2, g3, g4, g5, g6⟩ := id hdr
  obtain ⟨r0, r1, r2, r3, r4, r5, r6⟩ := id g2
  have hw6 := WF_w hW
  refine xr_aloadn hc rfl rfl ?_
  refine xr_getfr hc rfl rfl (by first | assumption | rfl) (by first | assumption | rfl) ?_
  refine xr_getfr hc rfl rfl (by first | assumption | rfl) (by first | assumption | rfl) ?_
  refine xr_iloadn hc rfl rfl ?_
  refine xr_callv1 hc rfl (by first | assumption | rfl) rfl rfl rfl (Nat.le_of_ble_eq_true rfl) (Nat.zero_le _) (Nat.zero_le _) ?_
  refine S_has d4 (by omega) (fun u1 v1 => ?_) (fun u1 => ?_)
  · refine xk_1 ?_
    refine xr_iff hc rfl (by simp [dz_cmp]) ?_
    refine xr_iloadn hc rfl rfl ?_
    refine xr_iconst hc rfl ?_
    refine xr_bipush hc rfl ?_
    refine xr_calls3 hc rfl (by decide) rfl rfl rfl (Nat.le_of_ble_eq_true rfl) (Nat.zero_le _) (Nat.zero_le _) ?_
    refine S_isWithin (fun u2 v2 => ?_) (fun u2 => ?_)
    · refine xk_1 ?_
      refine xr_ift hc rfl (t := 26) rfl (by simp [dz_cmp]) ?_
      refine xr_aloadn hc rfl rfl ?_
      refine xr_getfr hc rfl rfl (by first | assumption | rfl) (by first | assumption | rfl) ?_
      refine xr_iconst hc rfl ?_
      refine xr_iloadn hc rfl rfl ?_
      refine xr_iloadn hc rfl rfl ?_
      refine xr_callv3 hc rfl (by first | assumption | rfl) rfl rfl rfl (Nat.le_of_ble_eq_true rfl) (Nat.zero_le _) (Nat.zero_le _) ?_
      have hp := WF_p hW (by omega)
      have hst := wst.2 n (Nat.le_refl n)
      refine S_doDeed hx c14 hp hdr (Or.inr (Or.inr (Or.inr ⟨rfl, by omega, by omega⟩))) (fun u7 => ?_) (fun u7 M2 z1 z2 => ?_)
      · refine xk_1 ?_
        refine xr_ireturn hc rfl rfl (Nat.zero_le _) (Nat.zero_le _) ?_
        unfold o_value o_deed at hQ
        repeat (first | rw [if_pos (by omega)] at hQ | rw [if_neg (by omega)] at hQ)
        exact hQ M (fun _ _ _ => rfl) hR
      · refine xk_1 ?_
        refine xr_ireturn hc rfl rfl (Nat.zero_le _) (Nat.zero_le _) ?_
        unfold o_value o_deed at hQ
        repeat (first | rw [if_pos (by omega)] at hQ | rw [if_neg (by omega)] at hQ)
        exact hQ M2 (fun q2 k2 u => z1 q2 k2 (by omega)) ⟨rowX_fr hrow (fun q2 k2 u1 u2 => z1 _ _ (by omega)), txtX_fr htxt (fun q2 k2 u1 u2 => z1 _ _ (by omega)), Eq.trans (z1 _ _ (by omega)) htl, Eq.trans (z1 _ _ (by omega)) hup, Eq.trans (z1 _ _ (by omega)) hlo, fndX_fr hfn (z1 _ _ (by omega)) (fun k2 => z1 _ _ (by omega)), z2, kepX_fr hkp (fun q2 k2 u1 u2 => z1 _ _ (by omega)), rbX_fr hrb (fun q2 k2 u1 => z1 _ _ (by omega))⟩
    · refine xk_1 ?_
      refine xr_iff hc rfl (by simp [dz_cmp]) ?_
      refine xr_iconst hc rfl ?_
      refine xr_ireturn hc rfl rfl (Nat.zero_le _) (Nat.zero_le _) ?_
      unfold o_value at hQ
      rw [if_pos (by omega)] at hQ
      exact hQ M (fun _ _ _ => rfl) hR
  · refine xk_1 ?_
    refine xr_ift hc rfl (t := 24) rfl (by simp [dz_cmp]) ?_
    refine xr_iconst hc rfl ?_
    refine xr_ireturn hc rfl rfl (Nat.zero_le _) (Nat.zero_le _) ?_
    unfold o_value at hQ
    rw [if_pos (by omega)] at hQ
    exact hQ M (fun _ _ _ => rfl) hR
def o_undo (n : Nat) (m : Int) : Int × Nat := if m < 0 ∨ (n : Int) < m then (-1, n) else ((n : Int) - m, m.toNat)
def o_keep (w : Int) (n : Nat) (hs : Nat → Nat → Int) (kp : Nat → Int) (kh : Nat → Nat → Nat → Int) (k : Int) : Int × (Nat → Int) × (Nat → Nat → Nat → Int) := if k < 0 ∨ 2 < k then (-1, kp, kh) else if w = 0 then (-4, kp, kh) else ((n : Int), fup kp k.toNat (n : Int), fun k2 => if k2 = k.toNat then hs else kh k2)
def o_on (fn : Nat → Int) (n : Nat) (hs : Nat → Nat → Int) (kp : Nat → Int) (kh : Nat → Nat → Nat → Int) (k : Int) : Int × (Nat → Int) × Nat × (Nat → Nat → Int) := if k < 0 ∨ 2 < k then (-1, fn, n, hs) else if kp k.toNat = -1 then (-3, rfu fn 1, n, hs) else (kp k.toNat, fn, (kp k.toNat).toNat, kh k.toNat)
set_option maxRecDepth 100000 in
theorem X_undo {xo : Nat → List Int} {d : Nat} {Q : dz_Q} {sh : List (Nat ⊕ (Nat × Nat))} {rf : Nat → Nat → Nat} {M : Nat → Nat → Int} {rs : Nat → Int} {it : Nat → Nat → Int} {ts : Nat → Int} {ch : Nat → Nat → Int} {tl up lo : Int} {fn : Nat → Int} {w pl : Int} {kd wt nx : Nat → Int} {n : Nat} {hs : Nat → Nat → Int} {kp : Nat → Int} {kh : Nat → Nat → Nat → Int} {m : Int} (hx : xo 2 = dz_xs2) (hl : cl sh rf) (hR : RX M rs it ts ch tl up lo fn w pl kd wt nx n hs kp kh) (hW : WF rs it ts ch tl up lo fn w pl kd wt nx n hs kp kh) (hQ : ∀ M2 : Nat → Nat → Int, (∀ q2 k2, 115 ≤ q2 → M2 q2 k2 = M q2 k2) → RX M2 rs it ts ch tl up lo fn w pl kd wt nx (o_undo n m).2 hs kp kh → Q (some (dz_i ((o_undo n m).1))) (sh, rf, M2)) : dz_E dz_pp xo (d + 7) 70 [dz_r 0, dz_i m] (sh, rf, M) Q := by
  refine ⟨Nat.le_of_ble_eq_true rfl, ?_⟩
  have hc := dz_E_m dz_pp xo (d + 6)
  show dz_X (dz_E dz_pp xo (d + 6)) dz_pp xo (dz_pp 70) Q 0 [some (dz_r 0), some (dz_i m), none] [] 0 0 (sh, rf, M)
  obtain ⟨c0, c1, c2, c3, c4, c5, c6, c7, c8, c9, c10, c11, c12, c13, c14, c15, c16, c17, c18, c19, c20, c21, c22, c23, c24, c25, c26, c27, c28, c29, c30, c31, c32, c33, c34, c35, c36⟩ := id hl
  obtain ⟨hrow, htxt, htl, hup, hlo, hfn, hdr, hkp, hrb⟩ := id hR
  obtain ⟨wrow, wtxt, wdr, wst, wkp⟩ := id hW
  obtain ⟨d0, d1, d2, d3, d4, d5, d6, d7, d8, d9, d10⟩ := id c14
  have m0 := d4.1
  have m1 := d2.1
  obtain ⟨g1, g2, g3, g4, g5, g6⟩ := id hdr
  obtain ⟨r0, r1, r2, r3, r4, r5, r6⟩ := id g2
  have hw6 := WF_w hW
  refine xr_iloadn hc rfl rfl ?_
  refine xr_iconst hc rfl ?_
  refine xr_aloadn hc rfl rfl ?_
  refine xr_getfr hc rfl rfl (by first | assumption | rfl) (by first | assumption | rfl) ?_
  refine xr_getfi hc rfl (Or.inl rfl) (by first | assumption | rfl) ?_
  refine xr_calls3 hc rfl (by decide) rfl rfl rfl (Nat.le_of_ble_eq_true rfl) (Nat.zero_le _) (Nat.zero_le _) ?_
  rw [g3]
  refine S_isWithin (fun u1 v1 => ?_) (fun u1 => ?_)
  · refine xk_1 ?_
    refine xr_ift hc rfl (t := 17) rfl (by simp [dz_cmp]) ?_
    refine xr_aloadn hc rfl rfl ?_
    refine xr_getfr hc rfl rfl (by first | assumption | rfl) (by first | assumption | rfl) ?_
    refine xr_getfi hc rfl (Or.inl rfl) (by first | assumption | rfl) ?_
    rw [g3]
    refine xr_iloadn hc rfl rfl ?_
    refine xr_isubz hc rfl (by first | exact dz_wid (by first | omega | (unfold dz_w; omega)) (by first | omega | (unfold dz_w; omega)) | rfl) ?_
    refine xr_istore2 hc rfl rfl ?_
    refine xr_aloadn hc rfl rfl ?_
    refine xr_getfr hc rfl rfl (by first | assumption | rfl) (by first | assumption | rfl) ?_
    refine xr_iloadn hc rfl rfl ?_
    refine xr_callv1 hc rfl (by first | assumption | rfl) rfl rfl rfl (Nat.le_of_ble_eq_true rfl) (Nat.zero_le _) (Nat.zero_le _) ?_
    have em : m = (m.toNat : Int) := by omega
    by_cases hw0 : w = 0
    · have hn0 : n = 0 := by
        rcases wdr with z | z
        · have := z.1
          omega
        · exact z.2.2.1
      subst hn0
      have hm0 : m = 0 := by omega
      subst hm0
      refine S_goBackTo0 (n := 0) c14 (by omega) hdr (fun M2 z1 z2 => ?_)
      refine xk_0 ?_
      refine xr_iloadn hc rfl rfl ?_
      refine xr_ireturn hc rfl rfl (Nat.zero_le _) (Nat.zero_le _) ?_
      simp only [o_undo] at hQ
      repeat (first | rw [if_pos (by omega)] at hQ | rw [if_neg (by omega)] at hQ)
      try dsimp only at hQ
      exact hQ M2 (fun q2 k2 u => z1 q2 k2 (by omega)) ⟨rowX_fr hrow (fun q2 k2 u1 u2 => z1 _ _ (by omega)), txtX_fr htxt (fun q2 k2 u1 u2 => z1 _ _ (by omega)), Eq.trans (z1 _ _ (by omega)) htl, Eq.trans (z1 _ _ (by omega)) hup, Eq.trans (z1 _ _ (by omega)) hlo, fndX_fr hfn (z1 _ _ (by omega)) (fun k2 => z1 _ _ (by omega)), z2, kepX_fr hkp (fun q2 k2 u1 u2 => z1 _ _ (by omega)), rbX_fr hrb (fun q2 k2 u1 => z1 _ _ (by omega))⟩
    · have hp := WF_p hW hw0
      rw [em]
      refine S_goBackTo hx c14 hp hdr (by omega) (fun M2 z1 z2 => ?_)
      refine xk_0 ?_
      refine xr_iloadn hc rfl rfl ?_
      refine xr_ireturn hc rfl rfl (Nat.zero_le _) (Nat.zero_le _) ?_
      rw [← em]
      simp only [o_undo] at hQ
      repeat (first | rw [if_pos (by omega)] at hQ | rw [if_neg (by omega)] at hQ)
      try dsimp only at hQ
      exact hQ M2 (fun q2 k2 u => z1 q2 k2 (by omega)) ⟨rowX_fr hrow (fun q2 k2 u1 u2 => z1 _ _ (by omega)), txtX_fr htxt (fun q2 k2 u1 u2 => z1 _ _ (by omega)), Eq.trans (z1 _ _ (by omega)) htl, Eq.trans (z1 _ _ (by omega)) hup, Eq.trans (z1 _ _ (by omega)) hlo, fndX_fr hfn (z1 _ _ (by omega)) (fun k2 => z1 _ _ (by omega)), z2, kepX_fr hkp (fun q2 k2 u1 u2 => z1 _ _ (by omega)), rbX_fr hrb (fun q2 k2 u1 => z1 _ _ (by omega))⟩
  · refine xk_1 ?_
    refine xr_iff hc rfl (by simp [dz_cmp]) ?_
    refine xr_iconst hc rfl ?_
    refine xr_ireturn hc rfl rfl (Nat.zero_le _) (Nat.zero_le _) ?_
    simp only [o_undo] at hQ
    repeat (first | rw [if_pos (by omega)] at hQ | rw [if_neg (by omega)] at hQ)
    try dsimp only at hQ
    exact hQ M (fun _ _ _ => rfl) hR
set_option maxRecDepth 100000 in
theorem X_keep {xo : Nat → List Int} {d : Nat} {Q : dz_Q} {sh : List (Nat ⊕ (Nat × Nat))} {rf : Nat → Nat → Nat} {M : Nat → Nat → Int} {rs : Nat → Int} {it : Nat → Nat → Int} {ts : Nat → Int} {ch : Nat → Nat → Int} {tl up lo : Int} {fn : Nat → Int} {w pl : Int} {kd wt nx : Nat → Int} {n : Nat} {hs : Nat → Nat → Int} {kp : Nat → Int} {kh : Nat → Nat → Nat → Int} {k : Int} (hl : cl sh rf) (hR : RX M rs it ts ch tl up lo fn w pl kd wt nx n hs kp kh) (hW : WF rs it ts ch tl up lo fn w pl kd wt nx n hs kp kh) (hQ : ∀ M2 : Nat → Nat → Int, (∀ q2 k2, 115 ≤ q2 → M2 q2 k2 = M q2 k2) → RX M2 rs it ts ch tl up lo fn w pl kd wt nx n hs (o_keep w n hs kp kh k).2.1 (o_keep w n hs kp kh k).2.2 → Q (some (dz_i ((o_keep w n hs kp kh k).1))) (sh, rf, M2)) : dz_E dz_pp xo (d + 3) 71 [dz_r 0, dz_i k] (sh, rf, M) Q := by
  refine ⟨Nat.le_of_ble_eq_true rfl, ?_⟩
  have hc := dz_E_m dz_pp xo (d + 2)
  show dz_X (dz_E dz_pp xo (d + 2)) dz_pp xo (dz_pp 71) Q 0 [some (dz_r 0), some (dz_i k)] [] 0 0 (sh, rf, M)
  obtain ⟨c0, c1, c2, c3, c4, c5, c6, c7, c8, c9, c10, c11, c12, c13, c14, c15, c16, c17, c18, c19, c20, c21, c22, c23, c24, c25, c26, c27, c28, c29, c30, c31, c32, c33, c34, c35, c36⟩ := id hl
  obtain ⟨hrow, htxt, htl, hup, hlo, hfn, hdr, hkp, hrb⟩ := id hR
  obtain ⟨wrow, wtxt, wdr, wst, wkp⟩ := id hW
  obtain ⟨d0, d1, d2, d3, d4, d5, d6, d7, d8, d9, d10⟩ := id c14
  have m0 := d4.1
  have m1 := d2.1
  obtain ⟨g1, g2, g3, g4, g5, g6⟩ := id hdr
  obtain ⟨r0, r1, r2, r3, r4, r5, r6⟩ := id g2
  have hw6 := WF_w hW
  refine xr_iloadn hc rfl rfl ?_
  refine xr_iconst hc rfl ?_
  refine xr_iconst hc rfl ?_
  refine xr_calls3 hc rfl (by decide) rfl rfl rfl (Nat.le_of_ble_eq_true rfl) (Nat.zero_le _) (Nat.zero_le _) ?_
  refine S_isWithin (fun u1 v1 => ?_) (fun u1 => ?_)
  · refine xk_1 ?_
    refine xr_ift hc rfl (t := 11) rfl (by simp [dz_cmp]) ?_
    refine xr_aloadn hc rfl rfl ?_
    refine xr_callv0 hc rfl (by first | assumption | rfl) rfl rfl rfl (Nat.le_of_ble_eq_true rfl) (Nat.zero_le _) (Nat.zero_le _) ?_
    refine S_hasNoWords hl hR hW (fun u9 => ?_) (fun u9 => ?_)
    · refine xk_1 ?_
      refine xr_iff hc rfl (by simp [dz_cmp]) ?_
      refine xr_bipush hc rfl ?_
      refine xr_ireturn hc rfl rfl (Nat.zero_le _) (Nat.zero_le _) ?_
      simp only [o_keep] at hQ
      repeat (first | rw [if_pos (by omega)] at hQ | rw [if_neg (by omega)] at hQ)
      try dsimp only at hQ
      exact hQ M (fun _ _ _ => rfl) hR
    · refine xk_1 ?_
      refine xr_ift hc rfl (t := 21) rfl (by simp [dz_cmp]) ?_
      have c17k := c17 k.toNat (by omega)
      have c18k := c18 k.toNat (by omega)
      have c18z := c18k.1
      refine xr_aloadn hc rfl rfl ?_
      refine xr_getfr hc rfl rfl (by first | assumption | rfl) (by first | assumption | rfl) ?_
      refine xr_iloadn hc rfl rfl ?_
      refine xr_aaload hc rfl (by first | assumption | rfl) (by decide) (by first | omega | (unfold dz_w; omega)) (by first | omega | (unfold dz_w; omega)) (by first | assumption | rfl) ?_
      refine xr_aloadn hc rfl rfl ?_
      refine xr_getfr hc rfl rfl (by first | assumption | rfl) (by first | assumption | rfl) ?_
      refine xr_callv1 hc rfl (by first | assumption | rfl) rfl rfl rfl (Nat.le_of_ble_eq_true rfl) (Nat.zero_le _) (Nat.zero_le _) ?_
      refine S_become c18k c14 (by omega) (by omega) hdr (fun M2 z1 z2 => ?_)
      refine xk_0 ?_
      refine xr_aloadn hc rfl rfl ?_
      refine xr_getfr hc rfl rfl (by first | assumption | rfl) (by first | assumption | rfl) ?_
      refine xr_getfi hc rfl (Or.inl rfl) (by first | assumption | rfl) ?_
      rw [z1 _ _ (by omega), g3]
      refine xr_ireturn hc rfl rfl (Nat.zero_le _) (Nat.zero_le _) ?_
      simp only [o_keep] at hQ
      repeat (first | rw [if_pos (by omega)] at hQ | rw [if_neg (by omega)] at hQ)
      try dsimp only at hQ
      refine hQ M2 (fun q2 k2 u => z1 q2 k2 (by omega)) ⟨rowX_fr hrow (fun q2 k2 u1 u2 => z1 _ _ (by omega)), txtX_fr htxt (fun q2 k2 u1 u2 => z1 _ _ (by omega)), Eq.trans (z1 _ _ (by omega)) htl, Eq.trans (z1 _ _ (by omega)) hup, Eq.trans (z1 _ _ (by omega)) hlo, fndX_fr hfn (z1 _ _ (by omega)) (fun k2 => z1 _ _ (by omega)), drX_fr hdr (fun q2 k2 u1 u2 => z1 _ _ (by omega)), fun k3 hk3 => ?_, rbX_fr hrb (fun q2 k2 u1 => z1 _ _ (by omega))⟩
      dsimp only
      by_cases e : k3 = k.toNat
      · subst e
        rw [fup_eq, if_pos rfl]
        exact Or.inr ⟨by omega, by rw [Int.toNat_natCast]; exact z2⟩
      · rw [fup_ne e, if_neg e]
        rcases hkp k3 hk3 with y | y
        · exact Or.inl ⟨y.1, by rw [z1 _ _ (by omega)]; exact y.2⟩
        · exact Or.inr ⟨y.1, drX_fr y.2 (fun q2 k2 u1 u2 => z1 q2 k2 (by omega))⟩
  · refine xk_1 ?_
    refine xr_iff hc rfl (by simp [dz_cmp]) ?_
    refine xr_iconst hc rfl ?_
    refine xr_ireturn hc rfl rfl (Nat.zero_le _) (Nat.zero_le _) ?_
    simp only [o_keep] at hQ
    repeat (first | rw [if_pos (by omega)] at hQ | rw [if_neg (by omega)] at hQ)
    try dsimp only at hQ
    exact hQ M (fun _ _ _ => rfl) hR
set_option maxRecDepth 100000 in
theorem X_on {xo : Nat → List Int} {d : Nat} {Q : dz_Q} {sh : List (Nat ⊕ (Nat × Nat))} {rf : Nat → Nat → Nat} {M : Nat → Nat → Int} {rs : Nat → Int} {it : Nat → Nat → Int} {ts : Nat → Int} {ch : Nat → Nat → Int} {tl up lo : Int} {fn : Nat → Int} {w pl : Int} {kd wt nx : Nat → Int} {n : Nat} {hs : Nat → Nat → Int} {kp : Nat → Int} {kh : Nat → Nat → Nat → Int} {k : Int} (hl : cl sh rf) (hR : RX M rs it ts ch tl up lo fn w pl kd wt nx n hs kp kh) (hW : WF rs it ts ch tl up lo fn w pl kd wt nx n hs kp kh) (hQ : ∀ M2 : Nat → Nat → Int, (∀ q2 k2, 115 ≤ q2 → M2 q2 k2 = M q2 k2) → RX M2 rs it ts ch tl up lo (o_on fn n hs kp kh k).2.1 w pl kd wt nx (o_on fn n hs kp kh k).2.2.1 (o_on fn n hs kp kh k).2.2.2 kp kh → Q (some (dz_i ((o_on fn n hs kp kh k).1))) (sh, rf, M2)) : dz_E dz_pp xo (d + 3) 72 [dz_r 0, dz_i k] (sh, rf, M) Q := by
  refine ⟨Nat.le_of_ble_eq_true rfl, ?_⟩
  have hc := dz_E_m dz_pp xo (d + 2)
  show dz_X (dz_E dz_pp xo (d + 2)) dz_pp xo (dz_pp 72) Q 0 [some (dz_r 0), some (dz_i k)] [] 0 0 (sh, rf, M)
  obtain ⟨c0, c1, c2, c3, c4, c5, c6, c7, c8, c9, c10, c11, c12, c13, c14, c15, c16, c17, c18, c19, c20, c21, c22, c23, c24, c25, c26, c27, c28, c29, c30, c31, c32, c33, c34, c35, c36⟩ := id hl
  obtain ⟨hrow, htxt, htl, hup, hlo, hfn, hdr, hkp, hrb⟩ := id hR
  obtain ⟨wrow, wtxt, wdr, wst, wkp⟩ := id hW
  obtain ⟨d0, d1, d2, d3, d4, d5, d6, d7, d8, d9, d10⟩ := id c14
  have m0 := d4.1
  have m1 := d2.1
  obtain ⟨g1, g2, g3, g4, g5, g6⟩ := id hdr
  obtain ⟨r0, r1, r2, r3, r4, r5, r6⟩ := id g2
  have hw6 := WF_w hW
  refine xr_iloadn hc rfl rfl ?_
  refine xr_iconst hc rfl ?_
  refine xr_iconst hc rfl ?_
  refine xr_calls3 hc rfl (by decide) rfl rfl rfl (Nat.le_of_ble_eq_true rfl) (Nat.zero_le _) (Nat.zero_le _) ?_
  refine S_isWithin (fun u1 v1 => ?_) (fun u1 => ?_)
  · refine xk_1 ?_
    refine xr_ift hc rfl (t := 11) rfl (by simp [dz_cmp]) ?_
    have c17k := c17 k.toNat (by omega)
    have c18k := c18 k.toNat (by omega)
    have c18z := c18k.1
    have hkk := hkp k.toNat (by omega)
    have wkk := wkp k.toNat (by omega)
    refine xr_aloadn hc rfl rfl ?_
    refine xr_getfr hc rfl rfl (by first | assumption | rfl) (by first | assumption | rfl) ?_
    refine xr_iloadn hc rfl rfl ?_
    refine xr_aaload hc rfl (by first | assumption | rfl) (by decide) (by first | omega | (unfold dz_w; omega)) (by first | omega | (unfold dz_w; omega)) (by first | assumption | rfl) ?_
    refine xr_callv0 hc rfl (by first | assumption | rfl) rfl rfl rfl (Nat.le_of_ble_eq_true rfl) (Nat.zero_le _) (Nat.zero_le _) ?_
    refine S_isMissing c18k (fun u2 => ?_) (fun u2 => ?_)
    · refine xk_1 ?_
      refine xr_iff hc rfl (by simp [dz_cmp]) ?_
      have hk1 : kp k.toNat = -1 := by
        rcases hkk with y | y
        · exact y.1
        · have h8 := y.2.2.1.1
          have hp0 : w = 0 := by omega
          rcases wdr with z | z
          · have := z.1
            omega
          · exact z.2.2.2 k.toNat (by omega)
      refine xr_aloadn hc rfl rfl ?_
      refine xr_iconst hc rfl ?_
      refine xr_callv1 hc rfl (by first | assumption | rfl) rfl rfl rfl (Nat.le_of_ble_eq_true rfl) (Nat.zero_le _) (Nat.zero_le _) ?_
      refine S_refuse hl hR hW (by omega) (fun M2 z1 z2 => ?_)
      refine xk_1 ?_
      refine xr_ireturn hc rfl rfl (Nat.zero_le _) (Nat.zero_le _) ?_
      simp only [o_on] at hQ
      repeat (first | rw [if_pos (by omega)] at hQ | rw [if_neg (by omega)] at hQ)
      try dsimp only at hQ
      exact hQ M2 z1 z2
    · refine xk_1 ?_
      refine xr_ift hc rfl (t := 29) rfl (by simp [dz_cmp]) ?_
      have hk0 : 0 ≤ kp k.toNat := by
        rcases hkk with y | y
        · exact absurd y.2 u2
        · exact y.1
      have hk2 : drX M (61 + 18 * k.toNat) w pl kd wt nx (kp k.toNat).toNat (kh k.toNat) := by
        rcases hkk with y | y
        · exact absurd y.2 u2
        · exact y.2
      refine xr_aloadn hc rfl rfl ?_
      refine xr_getfr hc rfl rfl (by first | assumption | rfl) (by first | assumption | rfl) ?_
      refine xr_aloadn hc rfl rfl ?_
      refine xr_getfr hc rfl rfl (by first | assumption | rfl) (by first | assumption | rfl) ?_
      refine xr_iloadn hc rfl rfl ?_
      refine xr_aaload hc rfl (by first | assumption | rfl) (by decide) (by first | omega | (unfold dz_w; omega)) (by first | omega | (unfold dz_w; omega)) (by first | assumption | rfl) ?_
      refine xr_callv1 hc rfl (by first | assumption | rfl) rfl rfl rfl (Nat.le_of_ble_eq_true rfl) (Nat.zero_le _) (Nat.zero_le _) ?_
      refine S_become c14 c18k (by omega) (by omega) hk2 (fun M2 z1 z2 => ?_)
      refine xk_0 ?_
      refine xr_aloadn hc rfl rfl ?_
      refine xr_getfr hc rfl rfl (by first | assumption | rfl) (by first | assumption | rfl) ?_
      refine xr_getfi hc rfl (Or.inl rfl) (by first | assumption | rfl) ?_
      rw [z2.2.2.1, show (((kp k.toNat).toNat : Nat) : Int) = kp k.toNat by omega]
      refine xr_ireturn hc rfl rfl (Nat.zero_le _) (Nat.zero_le _) ?_
      simp only [o_on] at hQ
      repeat (first | rw [if_pos (by omega)] at hQ | rw [if_neg (by omega)] at hQ)
      try dsimp only at hQ
      exact hQ M2 (fun q2 k2 u => z1 q2 k2 (by omega)) ⟨rowX_fr hrow (fun q2 k2 u1 u2 => z1 _ _ (by omega)), txtX_fr htxt (fun q2 k2 u1 u2 => z1 _ _ (by omega)), Eq.trans (z1 _ _ (by omega)) htl, Eq.trans (z1 _ _ (by omega)) hup, Eq.trans (z1 _ _ (by omega)) hlo, fndX_fr hfn (z1 _ _ (by omega)) (fun k2 => z1 _ _ (by omega)), z2, kepX_fr hkp (fun q2 k2 u1 u2 => z1 _ _ (by omega)), rbX_fr hrb (fun q2 k2 u1 => z1 _ _ (by omega))⟩
  · refine xk_1 ?_
    refine xr_iff hc rfl (by simp [dz_cmp]) ?_
    refine xr_iconst hc rfl ?_
    refine xr_ireturn hc rfl rfl (Nat.zero_le _) (Nat.zero_le _) ?_
    simp only [o_on] at hQ
    repeat (first | rw [if_pos (by omega)] at hQ | rw [if_neg (by omega)] at hQ)
    try dsimp only at hQ
    exact hQ M (fun _ _ _ => rfl) hR
