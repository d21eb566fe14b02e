/-! The placing by first use: the other one. Written by l2_62.py. -/
theorem clay_ne {pl w t : Int} {sp : Nat → Int} {i k : Nat} (h : k ≠ i) : clay pl w sp i t k = sp k := by
  unfold clay
  split
  · rw [fup_ne h]
  · rfl
theorem stp_lst {pl : Int} {kd wt nx s sp : Nat → Int} {t : Int} {c : Nat} (ho : (wt (s 3).toNat).toNat < 6) (h1 : c ≠ 1) (h : c < 5 ∨ 11 ≤ c) : stp pl kd wt nx (lst s sp t) c = stp pl kd wt nx s c := by
  have e2 : lst s sp t 2 = s 2 := lst_o (by omega) (by omega)
  have e3 : lst s sp t 3 = s 3 := lst_o (by omega) (by omega)
  have e4 : lst s sp t 4 = s 4 := lst_o (by omega) (by omega)
  have e11 : lst s sp t (11 + (wt (s 3).toNat).toNat) = s (11 + (wt (s 3).toNat).toNat) := lst_o (by omega) (by omega)
  have ec : lst s sp t c = s c := lst_o h1 h
  unfold stp
  rw [e3, if_neg h1, if_neg h1, e11, e2, e4, ec]
theorem stp_lsp {pl : Int} {kd wt nx s sp : Nat → Int} {t : Int} {k : Nat} (hk : k < 6) : stp pl kd wt nx (lst s sp t) (5 + k) = enc (sp k) := by
  rw [stp_p hk, lst_p hk]
set_option maxRecDepth 100000 in
theorem D_goesL {xo : Nat → List Int} {d : Nat} {Q : dz_Q} {sh : List (Nat ⊕ (Nat × Nat))} {rf : Nat → Nat → Nat} {M : Nat → Nat → Int} {w pl B t : Int} {kd wt nx s sp : Nat → Int} (hl : ml sh rf) (hpg : pgM M w pl kd wt nx) (hp : pgok w pl kd wt nx) (hs : stok w pl B s) (hB : B ≤ 970000) (ht : 0 ≤ t ∧ t ≤ 970000) (hok : spok w pl sp) (hr : prel M 3612 w (lst s sp t)) (hld : M 115 23 = 1) (hd : s 3 ≠ -9) (hQ : ∀ M2 : Nat → Nat → Int, tfr M M2 → M2 115 23 = 1 → prel M2 3612 w (lst (stp pl kd wt nx s) (ck_l pl w (t_one kd wt s) sp t).1 (ck_l pl w (t_one kd wt s) sp t).2) → Q none (sh, rf, M2)) : dz_E dz_pp xo (d + 4) 153 [dz_r 115, dz_i 3612] (sh, rf, M) Q := by
  refine ⟨Nat.le_of_ble_eq_true rfl, ?_⟩
  have hc := dz_E_m dz_pp xo (d + 3)
  show dz_X (dz_E dz_pp xo (d + 3)) dz_pp xo (dz_pp 153) Q 0 [some (dz_r 115), some (dz_i 3612), none, none, none] [] 0 0 (sh, rf, M)
  obtain ⟨e0, e1, e2, e3, e4, e5, e6, e7, e8, e9, e10, e11, e12, e13, e14, e15, e16, e17, e18, e19, e20, e21, e22, e23, e24, e25, e26, e27, e28, e29⟩ := id hl
  obtain ⟨p1, p2, p3, p4, p5⟩ := id hp
  obtain ⟨s0, s1, s2, s3, s4, s5, s6, s7, s8⟩ := id hs
  obtain ⟨g0, g1, g2⟩ := id hpg
  have hi : ((s 3).toNat : Int) < w := by omega
  obtain ⟨k1, k2, k3, k4, k5, k6⟩ := p5 (s 3).toNat hi
  have hoo : ((wt (s 3).toNat).toNat : Int) < w := by omega
  obtain ⟨a1, a2, a3, a4, a5, a6⟩ := s8 (s 3).toNat hi
  obtain ⟨c1, c2, c3, c4, c5, c6⟩ := s8 (wt (s 3).toNat).toNat hoo
  obtain ⟨x1, x2, x3⟩ := g2 (s 3).toNat hi
  have r3 : M 116 (3612 + 3) = s 3 := hr 3 (by unfold okc; omega)
  have r1 : M 116 (3612 + 1) = t := hr 1 (by unfold okc; omega)
  have r2 : M 116 (3612 + 2) = s 2 := hr 2 (by unfold okc; omega)
  have r4 : M 116 (3612 + 4) = s 4 := hr 4 (by unfold okc; omega)
  have r17 : M 116 (3612 + (17 + (s 3).toNat)) = s (17 + (s 3).toNat) := by rw [hr _ (by unfold okc; omega), lst_o (by omega) (by omega)]
  have hsp : ∀ k : Nat, (k : Int) < w → M 116 (3612 + (5 + k)) = enc (sp k) := fun k hk => by rw [hr _ (by unfold okc; omega), lst_p (by omega)]
  have j3 : ((3612 : Int) + 3).toNat = 3612 + 3 := rfl
  have j4 : ((3612 : Int) + 4).toNat = 3612 + 4 := rfl
  have j2 : ((3612 : Int) + 2).toNat = 3612 + 2 := rfl
  have j17 : ((3612 : Int) + 17 + s 3).toNat = 3612 + (17 + (s 3).toNat) := by omega
  have hcl := clay_ok (t := t) (pl := pl) (w := w) (sp := sp) (i := (s 3).toNat) (by omega) (by omega) hi hok
  have hwa := wa_in (p := (clay pl w sp (s 3).toNat t) (s 3).toNat) (b := t) (pl := pl) (by omega)
  have fin : ∀ (Mc : Nat → Nat → Int) (X1 : Int) (sp2 : Nat → Int), (∀ q2 k2, ¬ (q2 = 115 ∧ (k2 = 21 ∨ k2 = 22)) → ¬ (q2 = 116 ∧ 3612 + 1 ≤ k2 ∧ k2 ≤ 3612 + 22) → Mc q2 k2 = M q2 k2) → (∀ c, 1 ≤ c → c ≤ 22 → ¬ (5 ≤ c ∧ c < 11) → Mc 116 (3612 + c) = if c = 1 then X1 else if c = 3 then du kd wt nx (s 2) (s 3).toNat else if c = 4 then s 4 + 1 else if c = 17 + (s 3).toNat then M 116 (3612 + c) + 1 else M 116 (3612 + c)) → (∀ k : Nat, (k : Int) < w → Mc 116 (3612 + (5 + k)) = enc (sp2 k)) → sp2 = (ck_l pl w (t_one kd wt s) sp t).1 → X1 + wk (kd (s 3).toNat) (s (11 + (wt (s 3).toNat).toNat)) = (ck_l pl w (t_one kd wt s) sp t).2 → X1 + wk (kd (s 3).toNat) (s (11 + (wt (s 3).toNat).toNat)) = bt pl (kd (s 3).toNat) (enc (sp2 (s 3).toNat)) (enc (sp2 (wt (s 3).toNat).toNat)) t (s (11 + (wt (s 3).toNat).toNat)) → dz_X (dz_E dz_pp xo (d + 3)) dz_pp xo (dz_pp 153) Q 125 [some (dz_r 115), some (dz_i 3612), some (dz_i (s 3)), some (dz_i (kd (s 3).toNat)), some (dz_i (wt (s 3).toNat))] [] 0 0 (sh, rf, Mc) := by
    intro Mc X1 sp2 m1 m2 m3 m4 m5 m6
    obtain ⟨Mb, hMb⟩ : ∃ Mb : Nat → Nat → Int, Mb = fun q k => if q = 115 ∧ k = 21 then -1 else if q = 116 ∧ 3612 + 5 ≤ k ∧ k < 3612 + 11 then Mc q k else M q k := ⟨_, rfl⟩
    have b1 : ∀ q k, ¬ (q = 115 ∧ k = 21) → ¬ (q = 116 ∧ 3612 + 5 ≤ k ∧ k < 3612 + 11) → Mb q k = M q k := fun q k u1 u2 => by rw [hMb]; show (if _ then _ else if _ then _ else _) = _; rw [if_neg u1, if_neg u2]
    have b2 : ∀ k, 3612 + 5 ≤ k → k < 3612 + 11 → Mb 116 k = Mc 116 k := fun k u1 u2 => by rw [hMb]; show (if _ then _ else if _ then _ else _) = _; rw [if_neg (by omega), if_pos ⟨rfl, u1, u2⟩]
    have b3 : Mb 115 21 = -1 := by rw [hMb]; rfl
    have e2 : lst s sp2 t 2 = s 2 := lst_o (by omega) (by omega)
    have e3 : lst s sp2 t 3 = s 3 := lst_o (by omega) (by omega)
    have e4 : lst s sp2 t 4 = s 4 := lst_o (by omega) (by omega)
    have e11 : lst s sp2 t (11 + (wt (s 3).toNat).toNat) = s (11 + (wt (s 3).toNat).toNat) := lst_o (by omega) (by omega)
    have hrb : prel Mb 3612 w (lst s sp2 t) := fun c hc => by
      have hc2 := hc
      unfold okc at hc2
      by_cases e : 5 ≤ c ∧ c < 11
      · rw [b2 _ (by omega) (by omega)]
        have z := m3 (c - 5) (by omega)
        rw [show 5 + (c - 5) = c by omega] at z
        rw [z, show c = 5 + (c - 5) by omega, lst_p (by omega), show 5 + (c - 5) - 5 = c - 5 by omega]
      · rw [b1 _ _ (by omega) (by omega), hr c hc]
        by_cases e1 : c = 1
        · rw [e1]
          rfl
        · rw [lst_o e1 (by omega), lst_o e1 (by omega)]
    have hg := D_goes125 (xo := xo) (d := d + 1) (Q := Q) (b := 3612) (M := Mb) (s := lst s sp2 t) hl (by omega) hp (by rw [e2, e3, lst_1]; omega) (by rw [e3, e11]; exact ⟨c3, c4⟩) hrb (fun M2 g1 g2 g3 => ?_) Mc X1 (fun q2 k2 u1 u2 => by rw [m1 _ _ u1 u2, b1 _ _ (by omega) (by omega)]) (fun c u1 u2 => ?_) (by rw [e3, e11, lst_p (by omega), lst_p (by omega), lst_1]; exact m6) (fun z => by rw [b3] at z; omega)
    · rw [e3] at hg
      exact hg
    · refine hQ M2 (fun q2 k2 u1 u2 => ?_) ?_ (fun c hc => ?_)
      · rw [g1 _ _ (by omega) (by omega), b1 _ _ (by omega) (by omega)]
      · rw [g1 _ _ (by omega) (by omega), b1 _ _ (by omega) (by omega)]
        exact hld
      · have hc2 := hc
        unfold okc at hc2
        rw [g2 c hc]
        by_cases e1 : c = 1
        · rw [e1, lst_1, ← m5, m6]
          show bt pl (kd (lst s sp2 t 3).toNat) _ _ (lst s sp2 t 1) _ = _
          rw [e3, e11, lst_p (by omega), lst_p (by omega), lst_1]
        · by_cases e5 : 5 ≤ c ∧ c < 11
          · rw [show c = 5 + (c - 5) by omega, stp_lsp (by omega), lst_p (by omega), m4]
          · rw [stp_lst (by omega) e1 (by omega), lst_o e1 (by omega)]
    · rw [e2, e3, e4]
      by_cases e5 : 5 ≤ c ∧ c < 11
      · rw [b2 _ (by omega) (by omega), if_neg (by omega), if_neg (by omega), if_neg (by omega), if_neg (by omega)]
      · rw [m2 c u1 u2 e5, b1 _ _ (by omega) (by omega)]
  have t103 : ∀ (N : Nat → Nat → Int), (∀ q2 k2, ¬ (q2 = 115 ∧ (k2 = 21 ∨ k2 = 22)) → ¬ (q2 = 116 ∧ 3612 + 1 ≤ k2 ∧ k2 ≤ 3612 + 22) → N q2 k2 = M q2 k2) → (∀ c, 1 ≤ c → c ≤ 22 → ¬ (5 ≤ c ∧ c < 11) → N 116 (3612 + c) = if c = 1 then (t + wa ((clay pl w sp (s 3).toNat t) (s 3).toNat) t pl + 1) else if c = 3 then du kd wt nx (s 2) (s 3).toNat else if c = 4 then s 4 + 1 else if c = 17 + (s 3).toNat then M 116 (3612 + c) + 1 else M 116 (3612 + c)) → (∀ k : Nat, (k : Int) < w → N 116 (3612 + (5 + k)) = enc ((clay pl w sp (s 3).toNat t) k)) → dz_X (dz_E dz_pp xo (d + 3)) dz_pp xo (dz_pp 153) Q 103 [some (dz_r 115), some (dz_i 3612), some (dz_i (s 3)), some (dz_i (kd (s 3).toNat)), some (dz_i (wt (s 3).toNat))] [] 0 0 (sh, rf, N) := by
    intro N n1 n2 n3
    have nb : N 116 (3612 + 1) = (t + wa ((clay pl w sp (s 3).toNat t) (s 3).toNat) t pl + 1) := by rw [n2 1 (by omega) (by omega) (by omega), if_pos rfl]
    refine xr_iloadn hc rfl rfl ?_
    refine xr_iconst hc rfl ?_
    refine xr_icmp_eq hc rfl (t := 118) rfl (fun b105 => ?_) (fun b105 => ?_)
    · refine xr_aloadn hc rfl rfl ?_
      refine xr_iloadn hc rfl rfl ?_
      refine xr_iload hc rfl rfl ?_
      refine xr_callv2 hc rfl (by first | assumption | rfl) rfl rfl rfl (Nat.le_of_ble_eq_true rfl) (Nat.zero_le _) (Nat.zero_le _) ?_
      refine D_readsL (w := w) (pl := pl) (t := (t + wa ((clay pl w sp (s 3).toNat t) (s 3).toNat) t pl + 1)) (sp := (clay pl w sp (s 3).toNat t)) hl (by rw [n1 _ _ (by omega) (by omega)]; exact g1) (by rw [n1 _ _ (by omega) (by omega)]; exact g0) (by omega) (by omega) (by omega) (by rw [n1 _ _ (by omega) (by omega)]; exact hld) nb (by omega) n3 hcl.1 (fun N2 y1 y2 y3 => ?_)
      have hcl2 := clay_ok (t := (t + wa ((clay pl w sp (s 3).toNat t) (s 3).toNat) t pl + 1)) (pl := pl) (w := w) (sp := (clay pl w sp (s 3).toNat t)) (i := (wt (s 3).toNat).toNat) (by omega) (by omega) (by omega) hcl.1
      have hk2 := clay_keep (w := w) (pl := pl) (t := (t + wa ((clay pl w sp (s 3).toNat t) (s 3).toNat) t pl + 1)) (i := (wt (s 3).toNat).toNat) (sp := (clay pl w sp (s 3).toNat t)) (j := (s 3).toNat) (by omega)
      refine xk_0 ?_
      by_cases had : (kd (s 3).toNat = 1 ∨ kd (s 3).toNat = 3 ∨ kd (s 3).toNat = 4)
      · first
          | (exfalso; omega)
          | (skip
             have ec : (ck_l pl w (t_one kd wt s) sp t) = (clay pl w (clay pl w sp (s 3).toNat t) (wt (s 3).toNat).toNat (t + wa ((clay pl w sp (s 3).toNat t) (s 3).toNat) t pl + 1), (t + wa ((clay pl w sp (s 3).toNat t) (s 3).toNat) t pl + 1) + wa (clay pl w (clay pl w sp (s 3).toNat t) (wt (s 3).toNat).toNat (t + wa ((clay pl w sp (s 3).toNat t) (s 3).toNat) t pl + 1) (wt (s 3).toNat).toNat) (t + wa ((clay pl w sp (s 3).toNat t) (s 3).toNat) t pl + 1) pl + 1 + wk (kd (s 3).toNat) (s (11 + (wt (s 3).toNat).toNat))) := by
               unfold t_one
               rw [if_pos had]
               show ck_l pl w [_] (clay pl w sp (s 3).toNat t) (t + wa (clay pl w sp (s 3).toNat t (s 3).toNat) t pl + 1 + 0) = _
               rw [show t + wa (clay pl w sp (s 3).toNat t (s 3).toNat) t pl + 1 + 0 = (t + wa ((clay pl w sp (s 3).toNat t) (s 3).toNat) t pl + 1) by omega]
               rfl
             refine fin N2 ((t + wa ((clay pl w sp (s 3).toNat t) (s 3).toNat) t pl + 1) + wa (clay pl w (clay pl w sp (s 3).toNat t) (wt (s 3).toNat).toNat (t + wa ((clay pl w sp (s 3).toNat t) (s 3).toNat) t pl + 1) (wt (s 3).toNat).toNat) (t + wa ((clay pl w sp (s 3).toNat t) (s 3).toNat) t pl + 1) pl + 1) (clay pl w (clay pl w sp (s 3).toNat t) (wt (s 3).toNat).toNat (t + wa ((clay pl w sp (s 3).toNat t) (s 3).toNat) t pl + 1)) (fun q2 k2 u1 u2 => by rw [y1 _ _ u1 (by omega), n1 _ _ u1 u2]) (fun c u1 u2 u3 => ?_) (fun k hk => ?_) (by rw [ec]) (by rw [ec]) ?_
             · by_cases e : c = 1
               · rw [if_pos e, e, y3]
               · rw [y1 _ _ (by omega) (by omega), n2 c u1 u2 u3, if_neg e, if_neg e]
             · by_cases e : k = (wt (s 3).toNat).toNat
               · rw [e, y2, enc_ne (by omega)]
               · rw [y1 _ _ (by omega) (by omega), n3 k hk]
                 rw [clay_ne e]
             · unfold bt
               rw [if_pos had, enc_ne (show clay pl w (clay pl w sp (s 3).toNat t) (wt (s 3).toNat).toNat (t + wa ((clay pl w sp (s 3).toNat t) (s 3).toNat) t pl + 1) (s 3).toNat ≠ -9 by rw [hk2]; omega), enc_ne (show clay pl w (clay pl w sp (s 3).toNat t) (wt (s 3).toNat).toNat (t + wa ((clay pl w sp (s 3).toNat t) (s 3).toNat) t pl + 1) (wt (s 3).toNat).toNat ≠ -9 by omega), hk2])
      · first
          | (exfalso; omega)
          | (skip
             have ec : (ck_l pl w (t_one kd wt s) sp t) = ((clay pl w sp (s 3).toNat t), (t + wa ((clay pl w sp (s 3).toNat t) (s 3).toNat) t pl + 1) + wk (kd (s 3).toNat) (s (11 + (wt (s 3).toNat).toNat))) := by
               unfold t_one
               rw [if_neg had]
               rfl
             refine fin N (t + wa ((clay pl w sp (s 3).toNat t) (s 3).toNat) t pl + 1) (clay pl w sp (s 3).toNat t) n1 n2 n3 (by rw [ec]) (by rw [ec]) ?_
             unfold bt
             rw [if_neg had, enc_ne (show (clay pl w sp (s 3).toNat t) (s 3).toNat ≠ -9 by omega)])
    · refine xr_iloadn hc rfl rfl ?_
      refine xr_iconst hc rfl ?_
      refine xr_icmp_eq hc rfl (t := 118) rfl (fun b110 => ?_) (fun b110 => ?_)
      · refine xr_aloadn hc rfl rfl ?_
        refine xr_iloadn hc rfl rfl ?_
        refine xr_iload hc rfl rfl ?_
        refine xr_callv2 hc rfl (by first | assumption | rfl) rfl rfl rfl (Nat.le_of_ble_eq_true rfl) (Nat.zero_le _) (Nat.zero_le _) ?_
        refine D_readsL (w := w) (pl := pl) (t := (t + wa ((clay pl w sp (s 3).toNat t) (s 3).toNat) t pl + 1)) (sp := (clay pl w sp (s 3).toNat t)) hl (by rw [n1 _ _ (by omega) (by omega)]; exact g1) (by rw [n1 _ _ (by omega) (by omega)]; exact g0) (by omega) (by omega) (by omega) (by rw [n1 _ _ (by omega) (by omega)]; exact hld) nb (by omega) n3 hcl.1 (fun N2 y1 y2 y3 => ?_)
        have hcl2 := clay_ok (t := (t + wa ((clay pl w sp (s 3).toNat t) (s 3).toNat) t pl + 1)) (pl := pl) (w := w) (sp := (clay pl w sp (s 3).toNat t)) (i := (wt (s 3).toNat).toNat) (by omega) (by omega) (by omega) hcl.1
        have hk2 := clay_keep (w := w) (pl := pl) (t := (t + wa ((clay pl w sp (s 3).toNat t) (s 3).toNat) t pl + 1)) (i := (wt (s 3).toNat).toNat) (sp := (clay pl w sp (s 3).toNat t)) (j := (s 3).toNat) (by omega)
        refine xk_0 ?_
        by_cases had : (kd (s 3).toNat = 1 ∨ kd (s 3).toNat = 3 ∨ kd (s 3).toNat = 4)
        · first
            | (exfalso; omega)
            | (skip
               have ec : (ck_l pl w (t_one kd wt s) sp t) = (clay pl w (clay pl w sp (s 3).toNat t) (wt (s 3).toNat).toNat (t + wa ((clay pl w sp (s 3).toNat t) (s 3).toNat) t pl + 1), (t + wa ((clay pl w sp (s 3).toNat t) (s 3).toNat) t pl + 1) + wa (clay pl w (clay pl w sp (s 3).toNat t) (wt (s 3).toNat).toNat (t + wa ((clay pl w sp (s 3).toNat t) (s 3).toNat) t pl + 1) (wt (s 3).toNat).toNat) (t + wa ((clay pl w sp (s 3).toNat t) (s 3).toNat) t pl + 1) pl + 1 + wk (kd (s 3).toNat) (s (11 + (wt (s 3).toNat).toNat))) := by
                 unfold t_one
                 rw [if_pos had]
                 show ck_l pl w [_] (clay pl w sp (s 3).toNat t) (t + wa (clay pl w sp (s 3).toNat t (s 3).toNat) t pl + 1 + 0) = _
                 rw [show t + wa (clay pl w sp (s 3).toNat t (s 3).toNat) t pl + 1 + 0 = (t + wa ((clay pl w sp (s 3).toNat t) (s 3).toNat) t pl + 1) by omega]
                 rfl
               refine fin N2 ((t + wa ((clay pl w sp (s 3).toNat t) (s 3).toNat) t pl + 1) + wa (clay pl w (clay pl w sp (s 3).toNat t) (wt (s 3).toNat).toNat (t + wa ((clay pl w sp (s 3).toNat t) (s 3).toNat) t pl + 1) (wt (s 3).toNat).toNat) (t + wa ((clay pl w sp (s 3).toNat t) (s 3).toNat) t pl + 1) pl + 1) (clay pl w (clay pl w sp (s 3).toNat t) (wt (s 3).toNat).toNat (t + wa ((clay pl w sp (s 3).toNat t) (s 3).toNat) t pl + 1)) (fun q2 k2 u1 u2 => by rw [y1 _ _ u1 (by omega), n1 _ _ u1 u2]) (fun c u1 u2 u3 => ?_) (fun k hk => ?_) (by rw [ec]) (by rw [ec]) ?_
               · by_cases e : c = 1
                 · rw [if_pos e, e, y3]
                 · rw [y1 _ _ (by omega) (by omega), n2 c u1 u2 u3, if_neg e, if_neg e]
               · by_cases e : k = (wt (s 3).toNat).toNat
                 · rw [e, y2, enc_ne (by omega)]
                 · rw [y1 _ _ (by omega) (by omega), n3 k hk]
                   rw [clay_ne e]
               · unfold bt
                 rw [if_pos had, enc_ne (show clay pl w (clay pl w sp (s 3).toNat t) (wt (s 3).toNat).toNat (t + wa ((clay pl w sp (s 3).toNat t) (s 3).toNat) t pl + 1) (s 3).toNat ≠ -9 by rw [hk2]; omega), enc_ne (show clay pl w (clay pl w sp (s 3).toNat t) (wt (s 3).toNat).toNat (t + wa ((clay pl w sp (s 3).toNat t) (s 3).toNat) t pl + 1) (wt (s 3).toNat).toNat ≠ -9 by omega), hk2])
        · first
            | (exfalso; omega)
            | (skip
               have ec : (ck_l pl w (t_one kd wt s) sp t) = ((clay pl w sp (s 3).toNat t), (t + wa ((clay pl w sp (s 3).toNat t) (s 3).toNat) t pl + 1) + wk (kd (s 3).toNat) (s (11 + (wt (s 3).toNat).toNat))) := by
                 unfold t_one
                 rw [if_neg had]
                 rfl
               refine fin N (t + wa ((clay pl w sp (s 3).toNat t) (s 3).toNat) t pl + 1) (clay pl w sp (s 3).toNat t) n1 n2 n3 (by rw [ec]) (by rw [ec]) ?_
               unfold bt
               rw [if_neg had, enc_ne (show (clay pl w sp (s 3).toNat t) (s 3).toNat ≠ -9 by omega)])
      · refine xr_iloadn hc rfl rfl ?_
        refine xr_iconst hc rfl ?_
        refine xr_icmp_ne hc rfl (t := 125) rfl (fun b115 => ?_) (fun b115 => ?_)
        · by_cases had : (kd (s 3).toNat = 1 ∨ kd (s 3).toNat = 3 ∨ kd (s 3).toNat = 4)
          · first
              | (exfalso; omega)
              | (skip
                 have ec : (ck_l pl w (t_one kd wt s) sp t) = (clay pl w (clay pl w sp (s 3).toNat t) (wt (s 3).toNat).toNat (t + wa ((clay pl w sp (s 3).toNat t) (s 3).toNat) t pl + 1), (t + wa ((clay pl w sp (s 3).toNat t) (s 3).toNat) t pl + 1) + wa (clay pl w (clay pl w sp (s 3).toNat t) (wt (s 3).toNat).toNat (t + wa ((clay pl w sp (s 3).toNat t) (s 3).toNat) t pl + 1) (wt (s 3).toNat).toNat) (t + wa ((clay pl w sp (s 3).toNat t) (s 3).toNat) t pl + 1) pl + 1 + wk (kd (s 3).toNat) (s (11 + (wt (s 3).toNat).toNat))) := by
                   unfold t_one
                   rw [if_pos had]
                   show ck_l pl w [_] (clay pl w sp (s 3).toNat t) (t + wa (clay pl w sp (s 3).toNat t (s 3).toNat) t pl + 1 + 0) = _
                   rw [show t + wa (clay pl w sp (s 3).toNat t (s 3).toNat) t pl + 1 + 0 = (t + wa ((clay pl w sp (s 3).toNat t) (s 3).toNat) t pl + 1) by omega]
                   rfl
                 refine fin N2 ((t + wa ((clay pl w sp (s 3).toNat t) (s 3).toNat) t pl + 1) + wa (clay pl w (clay pl w sp (s 3).toNat t) (wt (s 3).toNat).toNat (t + wa ((clay pl w sp (s 3).toNat t) (s 3).toNat) t pl + 1) (wt (s 3).toNat).toNat) (t + wa ((clay pl w sp (s 3).toNat t) (s 3).toNat) t pl + 1) pl + 1) (clay pl w (clay pl w sp (s 3).toNat t) (wt (s 3).toNat).toNat (t + wa ((clay pl w sp (s 3).toNat t) (s 3).toNat) t pl + 1)) (fun q2 k2 u1 u2 => by rw [y1 _ _ u1 (by omega), n1 _ _ u1 u2]) (fun c u1 u2 u3 => ?_) (fun k hk => ?_) (by rw [ec]) (by rw [ec]) ?_
                 · by_cases e : c = 1
                   · rw [if_pos e, e, y3]
                   · rw [y1 _ _ (by omega) (by omega), n2 c u1 u2 u3, if_neg e, if_neg e]
                 · by_cases e : k = (wt (s 3).toNat).toNat
                   · rw [e, y2, enc_ne (by omega)]
                   · rw [y1 _ _ (by omega) (by omega), n3 k hk]
                     rw [clay_ne e]
                 · unfold bt
                   rw [if_pos had, enc_ne (show clay pl w (clay pl w sp (s 3).toNat t) (wt (s 3).toNat).toNat (t + wa ((clay pl w sp (s 3).toNat t) (s 3).toNat) t pl + 1) (s 3).toNat ≠ -9 by rw [hk2]; omega), enc_ne (show clay pl w (clay pl w sp (s 3).toNat t) (wt (s 3).toNat).toNat (t + wa ((clay pl w sp (s 3).toNat t) (s 3).toNat) t pl + 1) (wt (s 3).toNat).toNat ≠ -9 by omega), hk2])
          · first
              | (exfalso; omega)
              | (skip
                 have ec : (ck_l pl w (t_one kd wt s) sp t) = ((clay pl w sp (s 3).toNat t), (t + wa ((clay pl w sp (s 3).toNat t) (s 3).toNat) t pl + 1) + wk (kd (s 3).toNat) (s (11 + (wt (s 3).toNat).toNat))) := by
                   unfold t_one
                   rw [if_neg had]
                   rfl
                 refine fin N (t + wa ((clay pl w sp (s 3).toNat t) (s 3).toNat) t pl + 1) (clay pl w sp (s 3).toNat t) n1 n2 n3 (by rw [ec]) (by rw [ec]) ?_
                 unfold bt
                 rw [if_neg had, enc_ne (show (clay pl w sp (s 3).toNat t) (s 3).toNat ≠ -9 by omega)])
        · refine xr_aloadn hc rfl rfl ?_
          refine xr_iloadn hc rfl rfl ?_
          refine xr_iload hc rfl rfl ?_
          refine xr_callv2 hc rfl (by first | assumption | rfl) rfl rfl rfl (Nat.le_of_ble_eq_true rfl) (Nat.zero_le _) (Nat.zero_le _) ?_
          refine D_readsL (w := w) (pl := pl) (t := (t + wa ((clay pl w sp (s 3).toNat t) (s 3).toNat) t pl + 1)) (sp := (clay pl w sp (s 3).toNat t)) hl (by rw [n1 _ _ (by omega) (by omega)]; exact g1) (by rw [n1 _ _ (by omega) (by omega)]; exact g0) (by omega) (by omega) (by omega) (by rw [n1 _ _ (by omega) (by omega)]; exact hld) nb (by omega) n3 hcl.1 (fun N2 y1 y2 y3 => ?_)
          have hcl2 := clay_ok (t := (t + wa ((clay pl w sp (s 3).toNat t) (s 3).toNat) t pl + 1)) (pl := pl) (w := w) (sp := (clay pl w sp (s 3).toNat t)) (i := (wt (s 3).toNat).toNat) (by omega) (by omega) (by omega) hcl.1
          have hk2 := clay_keep (w := w) (pl := pl) (t := (t + wa ((clay pl w sp (s 3).toNat t) (s 3).toNat) t pl + 1)) (i := (wt (s 3).toNat).toNat) (sp := (clay pl w sp (s 3).toNat t)) (j := (s 3).toNat) (by omega)
          refine xk_0 ?_
          by_cases had : (kd (s 3).toNat = 1 ∨ kd (s 3).toNat = 3 ∨ kd (s 3).toNat = 4)
          · first
              | (exfalso; omega)
              | (skip
                 have ec : (ck_l pl w (t_one kd wt s) sp t) = (clay pl w (clay pl w sp (s 3).toNat t) (wt (s 3).toNat).toNat (t + wa ((clay pl w sp (s 3).toNat t) (s 3).toNat) t pl + 1), (t + wa ((clay pl w sp (s 3).toNat t) (s 3).toNat) t pl + 1) + wa (clay pl w (clay pl w sp (s 3).toNat t) (wt (s 3).toNat).toNat (t + wa ((clay pl w sp (s 3).toNat t) (s 3).toNat) t pl + 1) (wt (s 3).toNat).toNat) (t + wa ((clay pl w sp (s 3).toNat t) (s 3).toNat) t pl + 1) pl + 1 + wk (kd (s 3).toNat) (s (11 + (wt (s 3).toNat).toNat))) := by
                   unfold t_one
                   rw [if_pos had]
                   show ck_l pl w [_] (clay pl w sp (s 3).toNat t) (t + wa (clay pl w sp (s 3).toNat t (s 3).toNat) t pl + 1 + 0) = _
                   rw [show t + wa (clay pl w sp (s 3).toNat t (s 3).toNat) t pl + 1 + 0 = (t + wa ((clay pl w sp (s 3).toNat t) (s 3).toNat) t pl + 1) by omega]
                   rfl
                 refine fin N2 ((t + wa ((clay pl w sp (s 3).toNat t) (s 3).toNat) t pl + 1) + wa (clay pl w (clay pl w sp (s 3).toNat t) (wt (s 3).toNat).toNat (t + wa ((clay pl w sp (s 3).toNat t) (s 3).toNat) t pl + 1) (wt (s 3).toNat).toNat) (t + wa ((clay pl w sp (s 3).toNat t) (s 3).toNat) t pl + 1) pl + 1) (clay pl w (clay pl w sp (s 3).toNat t) (wt (s 3).toNat).toNat (t + wa ((clay pl w sp (s 3).toNat t) (s 3).toNat) t pl + 1)) (fun q2 k2 u1 u2 => by rw [y1 _ _ u1 (by omega), n1 _ _ u1 u2]) (fun c u1 u2 u3 => ?_) (fun k hk => ?_) (by rw [ec]) (by rw [ec]) ?_
                 · by_cases e : c = 1
                   · rw [if_pos e, e, y3]
                   · rw [y1 _ _ (by omega) (by omega), n2 c u1 u2 u3, if_neg e, if_neg e]
                 · by_cases e : k = (wt (s 3).toNat).toNat
                   · rw [e, y2, enc_ne (by omega)]
                   · rw [y1 _ _ (by omega) (by omega), n3 k hk]
                     rw [clay_ne e]
                 · unfold bt
                   rw [if_pos had, enc_ne (show clay pl w (clay pl w sp (s 3).toNat t) (wt (s 3).toNat).toNat (t + wa ((clay pl w sp (s 3).toNat t) (s 3).toNat) t pl + 1) (s 3).toNat ≠ -9 by rw [hk2]; omega), enc_ne (show clay pl w (clay pl w sp (s 3).toNat t) (wt (s 3).toNat).toNat (t + wa ((clay pl w sp (s 3).toNat t) (s 3).toNat) t pl + 1) (wt (s 3).toNat).toNat ≠ -9 by omega), hk2])
          · first
              | (exfalso; omega)
              | (skip
                 have ec : (ck_l pl w (t_one kd wt s) sp t) = ((clay pl w sp (s 3).toNat t), (t + wa ((clay pl w sp (s 3).toNat t) (s 3).toNat) t pl + 1) + wk (kd (s 3).toNat) (s (11 + (wt (s 3).toNat).toNat))) := by
                   unfold t_one
                   rw [if_neg had]
                   rfl
                 refine fin N (t + wa ((clay pl w sp (s 3).toNat t) (s 3).toNat) t pl + 1) (clay pl w sp (s 3).toNat t) n1 n2 n3 (by rw [ec]) (by rw [ec]) ?_
                 unfold bt
                 rw [if_neg had, enc_ne (show (clay pl w sp (s 3).toNat t) (s 3).toNat ≠ -9 by omega)])
  refine xr_aloadn hc rfl rfl ?_
  refine xr_getfr hc rfl rfl (by first | assumption | rfl) (by first | assumption | rfl) ?_
  refine xr_iloadn hc rfl rfl ?_
  refine xr_iconst hc rfl ?_
  refine xr_iaddz hc rfl (by first | exact dz_wid (by first | omega | (unfold dz_w; omega)) (by first | omega | (unfold dz_w; omega)) | rfl) ?_
  first | refine xr_iaload hc rfl (by first | assumption | rfl) (by first | omega | (unfold dz_w; omega)) (by first | omega | (unfold dz_w; omega)) ?_ | refine xr_ialoado hc rfl (by first | omega | (unfold dz_w; omega)) (by first | omega | (unfold dz_w; omega)) ?_
  rw [j3, r3]
  refine xr_istore2 hc rfl rfl ?_
  refine xr_aloadn hc rfl rfl ?_
  refine xr_getfr hc rfl rfl (by first | assumption | rfl) (by first | assumption | rfl) ?_
  refine xr_iloadn hc rfl rfl ?_
  first | refine xr_iaload hc rfl (by first | assumption | rfl) (by first | omega | (unfold dz_w; omega)) (by first | omega | (unfold dz_w; omega)) ?_ | refine xr_ialoado hc rfl (by first | omega | (unfold dz_w; omega)) (by first | omega | (unfold dz_w; omega)) ?_
  rw [x1]
  refine xr_istore3 hc rfl rfl ?_
  refine xr_aloadn hc rfl rfl ?_
  refine xr_getfr hc rfl rfl (by first | assumption | rfl) (by first | assumption | rfl) ?_
  refine xr_iloadn hc rfl rfl ?_
  first | refine xr_iaload hc rfl (by first | assumption | rfl) (by first | omega | (unfold dz_w; omega)) (by first | omega | (unfold dz_w; omega)) ?_ | refine xr_ialoado hc rfl (by first | omega | (unfold dz_w; omega)) (by first | omega | (unfold dz_w; omega)) ?_
  rw [x2]
  refine xr_istore4 hc rfl rfl ?_
  refine xr_aloadn hc rfl rfl ?_
  refine xr_iloadn hc rfl rfl ?_
  refine xr_iloadn hc rfl rfl ?_
  refine xr_callv2 hc rfl (by first | assumption | rfl) rfl rfl rfl (Nat.le_of_ble_eq_true rfl) (Nat.zero_le _) (Nat.zero_le _) ?_
  refine D_readsL (w := w) (pl := pl) (t := t) (sp := sp) hl g1 g0 (by omega) (by omega) (by omega) hld r1 (by omega) hsp hok (fun M1 y1 y2 y3 => ?_)
  have FF : ∀ q2 k2, q2 ≠ 115 → q2 ≠ 116 → dz_up (dz_up M1 116 (3612 + (17 + (s 3).toNat)) (s (17 + (s 3).toNat) + 1)) 116 (3612 + 4) (s 4 + 1) q2 k2 = M q2 k2 := fun q2 k2 u1 u2 => by rw [dz_up_ne u2, dz_up_ne u2, y1 _ _ (by omega) (by omega)]
  refine xk_0 ?_
  refine xr_aloadn hc rfl rfl ?_
  refine xr_getfr hc rfl rfl (by first | assumption | rfl) (by first | assumption | rfl) ?_
  refine xr_iloadn hc rfl rfl ?_
  refine xr_bipush hc rfl ?_
  refine xr_iaddz hc rfl (by first | exact dz_wid (by first | omega | (unfold dz_w; omega)) (by first | omega | (unfold dz_w; omega)) | rfl) ?_
  refine xr_iloadn hc rfl rfl ?_
  refine xr_iaddz hc rfl (by first | exact dz_wid (by first | omega | (unfold dz_w; omega)) (by first | omega | (unfold dz_w; omega)) | rfl) ?_
  refine xr_dup2i hc rfl ?_
  first | refine xr_iaload hc rfl (by first | assumption | rfl) (by first | omega | (unfold dz_w; omega)) (by first | omega | (unfold dz_w; omega)) ?_ | refine xr_ialoado hc rfl (by first | omega | (unfold dz_w; omega)) (by first | omega | (unfold dz_w; omega)) ?_
  rw [j17, y1 _ _ (by omega) (by omega), r17]
  refine xr_iconst hc rfl ?_
  refine xr_iaddz hc rfl (by first | exact dz_wid (by first | omega | (unfold dz_w; omega)) (by first | omega | (unfold dz_w; omega)) | rfl) ?_
  refine xr_iastore hc rfl (by first | assumption | rfl) (by first | omega | (unfold dz_w; omega)) (by first | omega | (unfold dz_w; omega)) ?_
  rw [j17]
  refine xr_aloadn hc rfl rfl ?_
  refine xr_getfr hc rfl rfl (by first | assumption | rfl) (by first | assumption | rfl) ?_
  refine xr_iloadn hc rfl rfl ?_
  refine xr_iconst hc rfl ?_
  refine xr_iaddz hc rfl (by first | exact dz_wid (by first | omega | (unfold dz_w; omega)) (by first | omega | (unfold dz_w; omega)) | rfl) ?_
  refine xr_dup2i hc rfl ?_
  first | refine xr_iaload hc rfl (by first | assumption | rfl) (by first | omega | (unfold dz_w; omega)) (by first | omega | (unfold dz_w; omega)) ?_ | refine xr_ialoado hc rfl (by first | omega | (unfold dz_w; omega)) (by first | omega | (unfold dz_w; omega)) ?_
  rw [j4, dz_up_k (by omega), y1 _ _ (by omega) (by omega), r4]
  refine xr_iconst hc rfl ?_
  refine xr_iaddz hc rfl (by first | exact dz_wid (by first | omega | (unfold dz_w; omega)) (by first | omega | (unfold dz_w; omega)) | rfl) ?_
  refine xr_iastore hc rfl (by first | assumption | rfl) (by first | omega | (unfold dz_w; omega)) (by first | omega | (unfold dz_w; omega)) ?_
  rw [j4]
  refine xr_aloadn hc rfl rfl ?_
  refine xr_getfr hc rfl rfl (by first | assumption | rfl) (by first | assumption | rfl) ?_
  refine xr_iloadn hc rfl rfl ?_
  refine xr_iconst hc rfl ?_
  refine xr_iaddz hc rfl (by first | exact dz_wid (by first | omega | (unfold dz_w; omega)) (by first | omega | (unfold dz_w; omega)) | rfl) ?_
  refine xr_iloadn hc rfl rfl ?_
  refine xr_if_ne hc rfl (t := 73) rfl (fun b65 => ?_) (fun b65 => ?_)
  · refine xr_iloadn hc rfl rfl ?_
    refine xr_iconst hc rfl ?_
    refine xr_icmp_ne hc rfl (t := 96) rfl (fun b75 => ?_) (fun b75 => ?_)
    · refine xr_aloadn hc rfl rfl ?_
      refine xr_getfr hc rfl rfl (by first | assumption | rfl) (by first | assumption | rfl) ?_
      refine xr_iloadn hc rfl rfl ?_
      first | refine xr_iaload hc rfl (by first | assumption | rfl) (by first | omega | (unfold dz_w; omega)) (by first | omega | (unfold dz_w; omega)) ?_ | refine xr_ialoado hc rfl (by first | omega | (unfold dz_w; omega)) (by first | omega | (unfold dz_w; omega)) ?_
      refine xr_iastore hc rfl (by first | assumption | rfl) (by first | omega | (unfold dz_w; omega)) (by first | omega | (unfold dz_w; omega)) ?_
      first
        | rw [j3]
        | skip
      refine t103 _ (fun q2 k2 u1 u2 => ?_) (fun c h1 h2 h3 => ?_) (fun k hk => ?_)
      · by_cases e : q2 = 116
        · subst e
          rw [dz_up_k (by omega), dz_up_k (by omega), dz_up_k (by omega), y1 _ _ (by omega) (by omega)]
        · rw [dz_up_ne e, dz_up_ne e, dz_up_ne e, y1 _ _ u1 (by omega)]
      · by_cases f3 : c = 3
        · subst f3
          rw [dz_up_eq, if_neg (by omega), if_pos rfl]
          unfold du
          first
            | rw [if_pos (by omega)]
            | rw [if_neg (by omega), if_pos (by omega)]
            | (rw [if_neg (by omega), if_neg (by omega), FF _ _ (by omega) (by omega), x3])
        · rw [dz_up_k (by omega)]
          by_cases f4 : c = 4
          · subst f4
            rw [dz_up_eq, if_neg (by omega), if_neg (by omega), if_pos rfl]
          · rw [dz_up_k (by omega)]
            by_cases f17 : c = 17 + (s 3).toNat
            · subst f17
              rw [dz_up_eq, if_neg (by omega), if_neg (by omega), if_neg (by omega), if_pos rfl, r17]
            · rw [dz_up_k (by omega)]
              by_cases f1 : c = 1
              · subst f1
                rw [if_pos rfl, y3]
              · rw [y1 _ _ (by omega) (by omega), if_neg f1, if_neg f3, if_neg f4, if_neg f17]
      · rw [dz_up_k (by omega), dz_up_k (by omega), dz_up_k (by omega)]
        by_cases e : k = (s 3).toNat
        · rw [e, y2, enc_ne (by omega)]
        · rw [y1 _ _ (by omega) (by omega), hsp k hk]
          rw [clay_ne e]
    · refine xr_aloadn hc rfl rfl ?_
      refine xr_getfr hc rfl rfl (by first | assumption | rfl) (by first | assumption | rfl) ?_
      refine xr_iloadn hc rfl rfl ?_
      refine xr_iconst hc rfl ?_
      refine xr_iaddz hc rfl (by first | exact dz_wid (by first | omega | (unfold dz_w; omega)) (by first | omega | (unfold dz_w; omega)) | rfl) ?_
      first | refine xr_iaload hc rfl (by first | assumption | rfl) (by first | omega | (unfold dz_w; omega)) (by first | omega | (unfold dz_w; omega)) ?_ | refine xr_ialoado hc rfl (by first | omega | (unfold dz_w; omega)) (by first | omega | (unfold dz_w; omega)) ?_
      rw [j2, dz_up_k (by omega), dz_up_k (by omega), y1 _ _ (by omega) (by omega), r2]
      refine xr_bipush hc rfl ?_
      refine xr_icmp_le hc rfl (t := 96) rfl (fun b88 => ?_) (fun b88 => ?_)
      · refine xr_aloadn hc rfl rfl ?_
        refine xr_getfr hc rfl rfl (by first | assumption | rfl) (by first | assumption | rfl) ?_
        refine xr_iloadn hc rfl rfl ?_
        first | refine xr_iaload hc rfl (by first | assumption | rfl) (by first | omega | (unfold dz_w; omega)) (by first | omega | (unfold dz_w; omega)) ?_ | refine xr_ialoado hc rfl (by first | omega | (unfold dz_w; omega)) (by first | omega | (unfold dz_w; omega)) ?_
        refine xr_iastore hc rfl (by first | assumption | rfl) (by first | omega | (unfold dz_w; omega)) (by first | omega | (unfold dz_w; omega)) ?_
        first
          | rw [j3]
          | skip
        refine t103 _ (fun q2 k2 u1 u2 => ?_) (fun c h1 h2 h3 => ?_) (fun k hk => ?_)
        · by_cases e : q2 = 116
          · subst e
            rw [dz_up_k (by omega), dz_up_k (by omega), dz_up_k (by omega), y1 _ _ (by omega) (by omega)]
          · rw [dz_up_ne e, dz_up_ne e, dz_up_ne e, y1 _ _ u1 (by omega)]
        · by_cases f3 : c = 3
          · subst f3
            rw [dz_up_eq, if_neg (by omega), if_pos rfl]
            unfold du
            first
              | rw [if_pos (by omega)]
              | rw [if_neg (by omega), if_pos (by omega)]
              | (rw [if_neg (by omega), if_neg (by omega), FF _ _ (by omega) (by omega), x3])
          · rw [dz_up_k (by omega)]
            by_cases f4 : c = 4
            · subst f4
              rw [dz_up_eq, if_neg (by omega), if_neg (by omega), if_pos rfl]
            · rw [dz_up_k (by omega)]
              by_cases f17 : c = 17 + (s 3).toNat
              · subst f17
                rw [dz_up_eq, if_neg (by omega), if_neg (by omega), if_neg (by omega), if_pos rfl, r17]
              · rw [dz_up_k (by omega)]
                by_cases f1 : c = 1
                · subst f1
                  rw [if_pos rfl, y3]
                · rw [y1 _ _ (by omega) (by omega), if_neg f1, if_neg f3, if_neg f4, if_neg f17]
        · rw [dz_up_k (by omega), dz_up_k (by omega), dz_up_k (by omega)]
          by_cases e : k = (s 3).toNat
          · rw [e, y2, enc_ne (by omega)]
          · rw [y1 _ _ (by omega) (by omega), hsp k hk]
            rw [clay_ne e]
      · refine xr_iload hc rfl rfl ?_
        refine xr_goto hc rfl (t := 102) rfl ?_
        refine xr_iastore hc rfl (by first | assumption | rfl) (by first | omega | (unfold dz_w; omega)) (by first | omega | (unfold dz_w; omega)) ?_
        first
          | rw [j3]
          | skip
        refine t103 _ (fun q2 k2 u1 u2 => ?_) (fun c h1 h2 h3 => ?_) (fun k hk => ?_)
        · by_cases e : q2 = 116
          · subst e
            rw [dz_up_k (by omega), dz_up_k (by omega), dz_up_k (by omega), y1 _ _ (by omega) (by omega)]
          · rw [dz_up_ne e, dz_up_ne e, dz_up_ne e, y1 _ _ u1 (by omega)]
        · by_cases f3 : c = 3
          · subst f3
            rw [dz_up_eq, if_neg (by omega), if_pos rfl]
            unfold du
            first
              | rw [if_pos (by omega)]
              | rw [if_neg (by omega), if_pos (by omega)]
              | (rw [if_neg (by omega), if_neg (by omega), FF _ _ (by omega) (by omega), x3])
          · rw [dz_up_k (by omega)]
            by_cases f4 : c = 4
            · subst f4
              rw [dz_up_eq, if_neg (by omega), if_neg (by omega), if_pos rfl]
            · rw [dz_up_k (by omega)]
              by_cases f17 : c = 17 + (s 3).toNat
              · subst f17
                rw [dz_up_eq, if_neg (by omega), if_neg (by omega), if_neg (by omega), if_pos rfl, r17]
              · rw [dz_up_k (by omega)]
                by_cases f1 : c = 1
                · subst f1
                  rw [if_pos rfl, y3]
                · rw [y1 _ _ (by omega) (by omega), if_neg f1, if_neg f3, if_neg f4, if_neg f17]
        · rw [dz_up_k (by omega), dz_up_k (by omega), dz_up_k (by omega)]
          by_cases e : k = (s 3).toNat
          · rw [e, y2, enc_ne (by omega)]
          · rw [y1 _ _ (by omega) (by omega), hsp k hk]
            rw [clay_ne e]
  · refine xr_bipush hc rfl ?_
    refine xr_goto hc rfl (t := 102) rfl ?_
    refine xr_iastore hc rfl (by first | assumption | rfl) (by first | omega | (unfold dz_w; omega)) (by first | omega | (unfold dz_w; omega)) ?_
    first
      | rw [j3]
      | skip
    refine t103 _ (fun q2 k2 u1 u2 => ?_) (fun c h1 h2 h3 => ?_) (fun k hk => ?_)
    · by_cases e : q2 = 116
      · subst e
        rw [dz_up_k (by omega), dz_up_k (by omega), dz_up_k (by omega), y1 _ _ (by omega) (by omega)]
      · rw [dz_up_ne e, dz_up_ne e, dz_up_ne e, y1 _ _ u1 (by omega)]
    · by_cases f3 : c = 3
      · subst f3
        rw [dz_up_eq, if_neg (by omega), if_pos rfl]
        unfold du
        first
          | rw [if_pos (by omega)]
          | rw [if_neg (by omega), if_pos (by omega)]
          | (rw [if_neg (by omega), if_neg (by omega), FF _ _ (by omega) (by omega), x3])
      · rw [dz_up_k (by omega)]
        by_cases f4 : c = 4
        · subst f4
          rw [dz_up_eq, if_neg (by omega), if_neg (by omega), if_pos rfl]
        · rw [dz_up_k (by omega)]
          by_cases f17 : c = 17 + (s 3).toNat
          · subst f17
            rw [dz_up_eq, if_neg (by omega), if_neg (by omega), if_neg (by omega), if_pos rfl, r17]
          · rw [dz_up_k (by omega)]
            by_cases f1 : c = 1
            · subst f1
              rw [if_pos rfl, y3]
            · rw [y1 _ _ (by omega) (by omega), if_neg f1, if_neg f3, if_neg f4, if_neg f17]
    · rw [dz_up_k (by omega), dz_up_k (by omega), dz_up_k (by omega)]
      by_cases e : k = (s 3).toNat
      · rw [e, y2, enc_ne (by omega)]
      · rw [y1 _ _ (by omega) (by omega), hsp k hk]
        rw [clay_ne e]
theorem ck_tl {w pl B : Int} {kd wt nx s sp0 : Nat → Int} {j : Nat} (hp : pgok w pl kd wt nx) (hs : stok w pl B s) (hB : B + 29 * j ≤ 1000000) (hok : spok w pl sp0) : spok w pl (ck_l pl w (t_l pl kd wt nx j s) sp0 (s 1)).1 ∧ s 1 ≤ (ck_l pl w (t_l pl kd wt nx j s) sp0 (s 1)).2 ∧ (ck_l pl w (t_l pl kd wt nx j s) sp0 (s 1)).2 ≤ s 1 + 40 * j := by
  obtain ⟨p1, p2, p3, p4, p5⟩ := id hp
  have h1 := t_l_in hp j B s hs hB
  have h2 := ck_ok (by omega) (by omega) (t_l pl kd wt nx j s) sp0 (s 1) (fun x hx => (h1.1 x hx).1) hok
  have h3 := ck_b (sp3 := (ck_l pl w (t_l pl kd wt nx j s) sp0 (s 1)).1) (by omega) (by omega) (t_l pl kd wt nx j s) sp0 (s 1) (fun x hx => (h1.1 x hx).1) hok (fun _ _ => rfl)
  have h4 := t_b_in (sp := (ck_l pl w (t_l pl kd wt nx j s) sp0 (s 1)).1) ⟨p3, p4⟩ (t_l pl kd wt nx j s) (s 1) (fun x hx => (h1.1 x hx).2)
  rw [h3] at h4
  exact ⟨h2, by omega, by omega⟩
set_option maxRecDepth 100000 in
theorem D_beatsTriedL {xo : Nat → List Int} {d : Nat} {Q : dz_Q} {sh : List (Nat ⊕ (Nat × Nat))} {rf : Nat → Nat → Nat} {M : Nat → Nat → Int} {w pl B m : Int} {kd wt nx s sp0 : Nat → Int} (hl : ml sh rf) (hpg : pgM M w pl kd wt nx) (hp : pgok w pl kd wt nx) (hs : stok w pl B s) (hB : B ≤ 900000) (hok : spok w pl sp0) (hr : prel M 3612 w (lst s sp0 (s 1))) (hld : M 115 23 = 1) (hm : 0 ≤ m ∧ m ≤ 41) (hQ : ∀ M2 : Nat → Nat → Int, tfr M M2 → prel M2 3612 w (lst (t_run pl kd wt nx m.toNat s) (ck_l pl w (t_l pl kd wt nx m.toNat s) sp0 (s 1)).1 (ck_l pl w (t_l pl kd wt nx m.toNat s) sp0 (s 1)).2) → Q (some (dz_i ((ck_l pl w (t_l pl kd wt nx m.toNat s) sp0 (s 1)).2 - s 1))) (sh, rf, M2)) : dz_E dz_pp xo (d + 5) 170 [dz_r 115, dz_i m] (sh, rf, M) Q := by
  refine ⟨Nat.le_of_ble_eq_true rfl, ?_⟩
  have hc := dz_E_m dz_pp xo (d + 4)
  show dz_X (dz_E dz_pp xo (d + 4)) dz_pp xo (dz_pp 170) Q 0 [some (dz_r 115), some (dz_i m), none, none] [] 0 0 (sh, rf, M)
  obtain ⟨c0, c1, c2, c3, c4, c5, c6, c7, c8, c9, c10, c11, c12, c13, c14, c15, c16, c17, c18, c19, c20, c21, c22, c23, c24, c25, c26, c27, c28, c29⟩ := id hl
  obtain ⟨p1, p2, p3, p4, p5⟩ := id hp
  have v0 : M 116 3613 = s 1 := hr 1 (by unfold okc; omega)
  obtain ⟨b0, b1, b2, b3, b4, b5, b6, b7, b8⟩ := id hs
  have lp : ∀ (m_ : Nat) (j : Nat) (M1 : Nat → Nat → Int), (j : Int) + m_ = m → tfr M M1 → prel M1 3612 w (lst (t_run pl kd wt nx j s) (ck_l pl w (t_l pl kd wt nx j s) sp0 (s 1)).1 (ck_l pl w (t_l pl kd wt nx j s) sp0 (s 1)).2) → M1 115 23 = 1 → dz_X (dz_E dz_pp xo (d + 4)) dz_pp xo (dz_pp 170) Q 11 [some (dz_r 115), some (dz_i m), some (dz_i (s 1)), some (dz_i (j : Int))] [] 0 0 (sh, rf, M1) := by
    intro m_
    induction m_ with
    | zero =>
      intro j M1 hj h1 h2 h3
      have hck := ck_tl (j := j) hp hs (by omega) hok
      have v1 : M1 116 3613 = (ck_l pl w (t_l pl kd wt nx j s) sp0 (s 1)).2 := h2 1 (by unfold okc; omega)
      have ej : j = m.toNat := by omega
      subst ej
      refine xr_iloadn hc rfl rfl ?_
      refine xr_iloadn hc rfl rfl ?_
      refine xr_icmp_ge hc rfl (t := 42) rfl (fun b13 => ?_) (fun b13 => ?_)
      · refine xr_aloadn hc rfl rfl ?_
        refine xr_getfr hc rfl rfl (by first | assumption | rfl) (by first | assumption | rfl) ?_
        refine xr_sipush hc rfl ?_
        first | refine xr_iaload hc rfl (by first | assumption | rfl) (by first | omega | (unfold dz_w; omega)) (by first | omega | (unfold dz_w; omega)) ?_ | refine xr_ialoado hc rfl (by first | omega | (unfold dz_w; omega)) (by first | omega | (unfold dz_w; omega)) ?_
        rw [show M1 116 (Int.toNat 3613) = _ from v1]
        refine xr_iloadn hc rfl rfl ?_
        refine xr_isubz hc rfl (by first | exact dz_wid (by first | omega | (unfold dz_w; omega)) (by first | omega | (unfold dz_w; omega)) | rfl) ?_
        refine xr_ireturn hc rfl rfl (Nat.zero_le _) (Nat.zero_le _) ?_
        exact hQ M1 h1 h2
      · omega
    | succ m_ ih =>
      intro j M1 hj h1 h2 h3
      have hck := ck_tl (j := j) hp hs (by omega) hok
      have hst := t_run_ok hp j B s hs (by omega)
      have v1 : M1 116 3613 = (ck_l pl w (t_l pl kd wt nx j s) sp0 (s 1)).2 := h2 1 (by unfold okc; omega)
      have v3 : M1 116 3615 = (t_run pl kd wt nx j s) 3 := h2 3 (by unfold okc; omega)
      refine xr_iloadn hc rfl rfl ?_
      refine xr_iloadn hc rfl rfl ?_
      refine xr_icmp_ge hc rfl (t := 42) rfl (fun b13 => ?_) (fun b13 => ?_)
      · refine xr_aloadn hc rfl rfl ?_
        refine xr_getfr hc rfl rfl (by first | assumption | rfl) (by first | assumption | rfl) ?_
        refine xr_sipush hc rfl ?_
        first | refine xr_iaload hc rfl (by first | assumption | rfl) (by first | omega | (unfold dz_w; omega)) (by first | omega | (unfold dz_w; omega)) ?_ | refine xr_ialoado hc rfl (by first | omega | (unfold dz_w; omega)) (by first | omega | (unfold dz_w; omega)) ?_
        rw [show M1 116 (Int.toNat 3613) = _ from v1]
        refine xr_iloadn hc rfl rfl ?_
        refine xr_isubz hc rfl (by first | exact dz_wid (by first | omega | (unfold dz_w; omega)) (by first | omega | (unfold dz_w; omega)) | rfl) ?_
        refine xr_ireturn hc rfl rfl (Nat.zero_le _) (Nat.zero_le _) ?_
        first
          | (exfalso; omega)
          | (have ey := t_stay (show (t_run pl kd wt nx j s) 3 = -9 by omega) (m.toNat - j)
             rw [show j + (m.toNat - j) = m.toNat by omega] at ey
             rw [← ey.1, ← ey.2] at h2
             rw [← ey.2]
             exact hQ M1 h1 h2)
      · refine xr_aloadn hc rfl rfl ?_
        refine xr_getfr hc rfl rfl (by first | assumption | rfl) (by first | assumption | rfl) ?_
        refine xr_sipush hc rfl ?_
        first | refine xr_iaload hc rfl (by first | assumption | rfl) (by first | omega | (unfold dz_w; omega)) (by first | omega | (unfold dz_w; omega)) ?_ | refine xr_ialoado hc rfl (by first | omega | (unfold dz_w; omega)) (by first | omega | (unfold dz_w; omega)) ?_
        rw [show M1 116 (Int.toNat 3615) = _ from v3]
        refine xr_bipush hc rfl ?_
        refine xr_icmp_eq hc rfl (t := 42) rfl (fun b26 => ?_) (fun b26 => ?_)
        · refine xr_aloadn hc rfl rfl ?_
          refine xr_getfr hc rfl rfl (by first | assumption | rfl) (by first | assumption | rfl) ?_
          refine xr_sipush hc rfl ?_
          first | refine xr_iaload hc rfl (by first | assumption | rfl) (by first | omega | (unfold dz_w; omega)) (by first | omega | (unfold dz_w; omega)) ?_ | refine xr_ialoado hc rfl (by first | omega | (unfold dz_w; omega)) (by first | omega | (unfold dz_w; omega)) ?_
          rw [show M1 116 (Int.toNat 3613) = _ from v1]
          refine xr_iloadn hc rfl rfl ?_
          refine xr_isubz hc rfl (by first | exact dz_wid (by first | omega | (unfold dz_w; omega)) (by first | omega | (unfold dz_w; omega)) | rfl) ?_
          refine xr_ireturn hc rfl rfl (Nat.zero_le _) (Nat.zero_le _) ?_
          first
            | (exfalso; omega)
            | (have ey := t_stay (show (t_run pl kd wt nx j s) 3 = -9 by omega) (m.toNat - j)
               rw [show j + (m.toNat - j) = m.toNat by omega] at ey
               rw [← ey.1, ← ey.2] at h2
               rw [← ey.2]
               exact hQ M1 h1 h2)
        · refine xr_aloadn hc rfl rfl ?_
          refine xr_sipush hc rfl ?_
          refine xr_callv1 hc rfl (by first | assumption | rfl) rfl rfl rfl (Nat.le_of_ble_eq_true rfl) (Nat.zero_le _) (Nat.zero_le _) ?_
          refine D_goesL (w := w) (pl := pl) (B := B + 29 * j) (kd := kd) (wt := wt) (nx := nx) (s := (t_run pl kd wt nx j s)) (sp := (ck_l pl w (t_l pl kd wt nx j s) sp0 (s 1)).1) (t := (ck_l pl w (t_l pl kd wt nx j s) sp0 (s 1)).2) hl (tfr_pg h1 hpg) hp hst (by omega) (by omega) hck.1 h2 h3 (by omega) (fun M2 g1 g2 g3 => ?_)
          have e1 := (t_snoc (pl := pl) (kd := kd) (wt := wt) (nx := nx) j s).1 (by omega)
          rw [← ck_app, ← e1.2, ← e1.1] at g3
          refine xk_0 ?_
          refine xr_iincz3 hc rfl rfl (by first | exact dz_wid (by first | omega | (unfold dz_w; omega)) (by first | omega | (unfold dz_w; omega)) | rfl) ?_
          refine xr_goto hc rfl (t := 11) rfl ?_
          exact ih (j + 1) M2 (by omega) (tfr_trans h1 g1) g3 g2
  refine xr_aloadn hc rfl rfl ?_
  refine xr_getfr hc rfl rfl (by first | assumption | rfl) (by first | assumption | rfl) ?_
  refine xr_sipush hc rfl ?_
  first | refine xr_iaload hc rfl (by first | assumption | rfl) (by first | omega | (unfold dz_w; omega)) (by first | omega | (unfold dz_w; omega)) ?_ | refine xr_ialoado hc rfl (by first | omega | (unfold dz_w; omega)) (by first | omega | (unfold dz_w; omega)) ?_
  rw [show M 116 (Int.toNat 3613) = _ from v0]
  refine xr_istore2 hc rfl rfl ?_
  refine xr_iconst hc rfl ?_
  refine xr_istore3 hc rfl rfl ?_
  exact lp m.toNat 0 M (by omega) (tfr_refl M) hr hld
set_option maxRecDepth 100000 in
theorem D_noPlacing {xo : Nat → List Int} {d : Nat} {Q : dz_Q} {sh : List (Nat ⊕ (Nat × Nat))} {rf : Nat → Nat → Nat} {M : Nat → Nat → Int} {rs : Nat → Int} {it : Nat → Nat → Int} {ts : Nat → Int} {ch : Nat → Nat → Int} {tl up lo : Int} {fn : Nat → Int} {w pl : Int} {kd wt nx : Nat → Int} {n : Nat} {hs : Nat → Nat → Int} {kp : Nat → Int} {kh : Nat → Nat → Nat → Int} {m r : Int} (hl : ml sh rf) (hR : RM M rs it ts ch tl up lo fn w pl kd wt nx n hs kp kh) (hW : WF rs it ts ch tl up lo fn w pl kd wt nx n hs kp kh) (h1 : (r < 0 ∨ 5 < r ∨ m < 0 ∨ 12 < m) → Q (some (dz_i (-1))) (sh, rf, M)) (h2 : 0 ≤ r → r ≤ 5 → 0 ≤ m → m ≤ 12 → w = 0 → Q (some (dz_i (-4))) (sh, rf, M)) (h3 : 0 ≤ r → r ≤ 5 → 0 ≤ m → m ≤ 12 → w ≠ 0 → Q (some (dz_i 0)) (sh, rf, M)) : dz_E dz_pp xo (d + 3) 184 [dz_r 115, dz_i m, dz_i r] (sh, rf, M) Q := by
  refine ⟨Nat.le_of_ble_eq_true rfl, ?_⟩
  have hc := dz_E_m dz_pp xo (d + 2)
  show dz_X (dz_E dz_pp xo (d + 2)) dz_pp xo (dz_pp 184) Q 0 [some (dz_r 115), some (dz_i m), some (dz_i r)] [] 0 0 (sh, rf, M)
  obtain ⟨c0, c1, c2, c3, c4, c5, c6, c7, c8, c9, c10, c11, c12, c13, c14, c15, c16, c17, c18, c19, c20, c21, c22, c23, c24, c25, c26, c27, c28, c29⟩ := id hl
  refine xr_iloadn hc rfl rfl ?_
  refine xr_calls1 hc rfl (by decide) rfl rfl rfl (Nat.le_of_ble_eq_true rfl) (Nat.zero_le _) (Nat.zero_le _) ?_
  refine D_isRow (fun u1 v1 => ?_) (fun u1 => ?_)
  · refine xk_1 ?_
    refine xr_ift hc rfl (t := 11) rfl (by simp [dz_cmp]) ?_
    refine xr_aloadn hc rfl rfl ?_
    refine xr_iloadn hc rfl rfl ?_
    refine xr_bipush hc rfl ?_
    refine xr_callv2 hc rfl (by first | assumption | rfl) rfl rfl rfl (Nat.le_of_ble_eq_true rfl) (Nat.zero_le _) (Nat.zero_le _) ?_
    refine D_noSteps hl hR hW (fun u2 => ?_) (fun u2 v2 hw0 => ?_) (fun u2 v2 hw0 => ?_)
    · refine xk_1 ?_
      refine xr_ireturn hc rfl rfl (Nat.zero_le _) (Nat.zero_le _) ?_
      first
        | exact h1 (by omega)
        | exact h2 (by omega) (by omega) (by omega) (by omega) hw0
        | exact h3 (by omega) (by omega) (by omega) (by omega) hw0
    · refine xk_1 ?_
      refine xr_ireturn hc rfl rfl (Nat.zero_le _) (Nat.zero_le _) ?_
      first
        | exact h1 (by omega)
        | exact h2 (by omega) (by omega) (by omega) (by omega) hw0
        | exact h3 (by omega) (by omega) (by omega) (by omega) hw0
    · refine xk_1 ?_
      refine xr_ireturn hc rfl rfl (Nat.zero_le _) (Nat.zero_le _) ?_
      first
        | exact h1 (by omega)
        | exact h2 (by omega) (by omega) (by omega) (by omega) hw0
        | exact h3 (by omega) (by omega) (by omega) (by omega) hw0
  · refine xk_1 ?_
    refine xr_iff hc rfl (by simp [dz_cmp]) ?_
    refine xr_iconst hc rfl ?_
    refine xr_goto hc rfl (t := 18) rfl ?_
    refine xr_ireturn hc rfl rfl (Nat.zero_le _) (Nat.zero_le _) ?_
    first
      | exact h1 (by omega)
      | exact h2 (by omega) (by omega) (by omega) (by omega) hw0
      | exact h3 (by omega) (by omega) (by omega) (by omega) hw0
