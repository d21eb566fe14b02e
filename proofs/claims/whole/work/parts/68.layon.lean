/-! The best placing: the class. Written by l2_68.py. -/
set_option maxRecDepth 100000 in
theorem S_layOn {xo : Nat → List Int} {d : Nat} {sh : List (Nat ⊕ (Nat × Nat))} {rf : Nat → Nat → Nat} {w pl : Int} (hl : cl sh rf) (hw : 0 ≤ w ∧ w ≤ 6) (hpl : 6 ≤ pl ∧ pl ≤ 9) : ∀ (U : Nat) (Q : dz_Q) (M : Nat → Nat → Int) (l : List (Nat × Int)) (k : Nat) (t u dp bw br : Int), (∀ i x, l[i]? = some x → M 51 (k + i) = (x.1 : Int) ∧ M 52 (k + i) = x.2) → (∀ x, x ∈ l → (x.1 : Int) < w ∧ 0 ≤ x.2 ∧ x.2 ≤ 11) → M 50 3 = ((k + l.length : Nat) : Int) → k + l.length ≤ 80 → 0 ≤ t → t + 20 * l.length ≤ 990000 → 0 ≤ u → u + 9 * l.length ≤ 9999 → un (M 55) w.toNat ≤ U → 0 ≤ dp → dp + U ≤ 6 → M 54 5 = w → M 54 6 = pl → spok w pl (M 55) → pinj w.toNat (M 55) → BST M w.toNat bw br → (∀ (M2 : Nat → Nat → Int) (bw2 br2 : Int), (∀ q2 k2, ¬ (q2 = 54 ∧ k2 = 4) → q2 ≠ 56 → q2 ≠ 57 → M2 q2 k2 = M q2 k2) → BST M2 w.toNat bw2 br2 → br2 ≤ br → (∀ f, vld w.toNat pl f → ext w.toNat (M 55) f → br2 ≤ rnk pl w.toNat f l t u) → ((br2 = br ∧ ∀ k, k < w.toNat → M2 57 k = M 57 k) ∨ ∃ f, vld w.toNat pl f ∧ ext w.toNat (M 55) f ∧ br2 = rnk pl w.toNat f l t u ∧ ∀ k, k < w.toNat → M2 57 k = f k) → Q none (sh, rf, M2)) → dz_E dz_pp xo (d + U + 4) 32 [dz_r 54, dz_i (k : Int), dz_i t, dz_i u, dz_i dp] (sh, rf, M) Q := by
  obtain ⟨c0, c1, c2, c3, c4, c5, c6, c7, c8, c9, c10, c11, c12, c13, c14, c15, c16, c17, c18, c19, c20, c21, c22, c23, c24, c25, c26, c27, c28, c29, c30, c31, c32, c33, c34, c35, c36⟩ := id hl
  have k0 : sh[54]? = some (.inl 2) := c28.1
  have k1 : rf 54 1 = 55 + 1 := c28.2.1
  have k2 : sh[55]? = some (.inr (0, 6)) := c28.2.2.1
  have k3 : rf 54 2 = 56 + 1 := c28.2.2.2.1
  have k4 : sh[56]? = some (.inr (0, 6)) := c28.2.2.2.2.1
  have k5 : rf 54 3 = 57 + 1 := c28.2.2.2.2.2.1
  have k6 : sh[57]? = some (.inr (0, 6)) := c28.2.2.2.2.2.2
  have k7 : rf 54 0 = 50 + 1 := c29
  have ht := c26
  have t0 : sh[50]? = some (.inl 4) := ht.1
  have t1 : rf 50 0 = 51 + 1 := ht.2.1
  have t2 : sh[51]? = some (.inr (0, 80)) := ht.2.2.1
  have t3 : rf 50 1 = 52 + 1 := ht.2.2.2.1
  have t4 : sh[52]? = some (.inr (0, 80)) := ht.2.2.2.2.1
  have t5 : rf 50 2 = 53 + 1 := ht.2.2.2.2.2.1
  have t6 : sh[53]? = some (.inr (0, 41)) := ht.2.2.2.2.2.2
  intro U
  induction U with
  | zero =>
    intro Q M l k t u dp bw br f1 f2 f3 f4 f5 f6 f7 f8 hun hdp hdu h5 h6 hsp hinj hbst hQ
    refine ⟨Nat.le_of_ble_eq_true rfl, ?_⟩
    have hc := dz_E_m dz_pp xo (d + 0 + 3)
    show dz_X (dz_E dz_pp xo (d + 0 + 3)) dz_pp xo (dz_pp 32) Q 0 [some (dz_r 54), some (dz_i (k : Int)), some (dz_i t), some (dz_i u), some (dz_i dp), none, none, none, none, none, none] [] 0 0 (sh, rf, M)
    obtain ⟨hb1, hb2⟩ := id hbst
    have hbr : ∀ y : Int, bw < y → 0 ≤ y → y ≤ 9999 → br < y * 1000000 := fun y y1 y2 y3 => by
      rcases hb2 with ⟨z1, z2⟩ | ⟨z1, z2, z3, z4⟩
      · omega
      · have z5 := key_in w.toNat (by omega) z3
        omega
    have hrk : ∀ (f : Nat → Int) (l1 : List (Nat × Int)) (t1 u1 : Int), vld w.toNat pl f → u1 * 1000000 ≤ rnk pl w.toNat f l1 t1 u1 := fun f l1 t1 u1 hf => by
      have z := t_w_in (sp := f) hpl l1 t1
      have z2 := key_in w.toNat (by omega) (vld_dig hpl.2 hf)
      unfold rnk
      omega
    have t100 : ∀ (l1 : List (Nat × Int)) (k1 : Nat) (t1 u1 : Int) (e8 : Option dz_V), (∀ i x, l1[i]? = some x → M 51 (k1 + i) = (x.1 : Int) ∧ M 52 (k1 + i) = x.2) → (∀ x, x ∈ l1 → (x.1 : Int) < w ∧ 0 ≤ x.2 ∧ x.2 ≤ 11) → M 50 3 = ((k1 + l1.length : Nat) : Int) → k1 + l1.length ≤ 80 → 0 ≤ t1 → t1 + 20 * l1.length ≤ 990000 → 0 ≤ u1 → u1 + 9 * l1.length ≤ 9999 → (∀ f, ext w.toNat (M 55) f → rnk pl w.toNat f l t u = rnk pl w.toNat f l1 t1 u1) → (∀ x l2, l1 = x :: l2 → M 55 x.1 = -9) → dz_X (dz_E dz_pp xo (d + 0 + 3)) dz_pp xo (dz_pp 32) Q 100 [some (dz_r 54), some (dz_i (k : Int)), some (dz_i t), some (dz_i u), some (dz_i dp), some (dz_i (k1 : Int)), some (dz_i t1), some (dz_i u1), e8, none, none] [] 0 0 (sh, rf, M) := by
      intro l1 k1 t1 u1 e8 g1 g2 g3 g4 g5 g6 g7 g8 hsame hop
      cases l1 with
      | nil =>
        have g3b : M 50 3 = (k1 : Int) := g3
        rw [List.length_nil] at g8
        refine xr_iload hc rfl rfl ?_
        refine xr_aloadn hc rfl rfl ?_
        refine xr_getfi hc rfl (Or.inl rfl) (by first | assumption | rfl) ?_
        rw [hb1]
        refine xr_icmp_gt hc rfl (t := 116) rfl (fun b106 => ?_) (fun b106 => ?_)
        · refine xr_return hc rfl rfl (Nat.zero_le _) (Nat.zero_le _) ?_
          first
            | (exfalso; omega)
            | (refine hQ M bw br (fun _ _ _ _ _ => rfl) hbst (Int.le_refl _) (fun f hf he => ?_) (Or.inl ⟨rfl, fun _ _ => rfl⟩)
               rw [hsame f he]
               have z := hrk f [] t1 u1 hf
               have z2 := hbr u1 (by omega) (by omega) (by omega)
               omega)
        · refine xr_iload hc rfl rfl ?_
          refine xr_bipush hc rfl ?_
          refine xr_icmp_le hc rfl (t := 117) rfl (fun b113 => ?_) (fun b113 => ?_)
          · refine xr_iload hc rfl rfl ?_
            refine xr_aloadn hc rfl rfl ?_
            refine xr_getfr hc rfl rfl (by first | assumption | rfl) (by first | assumption | rfl) ?_
            refine xr_getfi hc rfl (Or.inl rfl) (by first | assumption | rfl) ?_
            rw [g3b]
            refine xr_icmp_lt hc rfl (t := 136) rfl (fun b126 => ?_) (fun b126 => ?_)
            · exfalso
              omega
            · refine xr_aloadn hc rfl rfl ?_
              refine xr_iload hc rfl rfl ?_
              refine xr_callv1 hc rfl (by first | assumption | rfl) rfl rfl rfl (Nat.le_of_ble_eq_true rfl) (Nat.zero_le _) (Nat.zero_le _) ?_
              obtain ⟨a1, a2, a3⟩ := fillr_min hw hpl w.toNat 0 0 (M 55) (by omega) (by omega) hsp hinj (fun k hk => by omega) (fun p hp => by omega)
              refine S_settle (d := d + 0) (w := w) (pl := pl) hl h5 h6 hw hpl (vld_dig hpl.2 a1) (by omega) (by omega) hbst (fun M2 y1 y2 => ?_)
              have ern : ∀ f, rnk pl w.toNat f [] t1 u1 = u1 * 1000000 + key f w.toNat := fun f => by
                unfold rnk
                show (u1 + 0) * 1000000 + _ = _
                omega
              refine xk_0 ?_
              refine xr_return hc rfl rfl (Nat.zero_le _) (Nat.zero_le _) ?_
              rcases y2 with ⟨v1, v2, v3⟩ | ⟨v1, v2, v3⟩
              · refine hQ M2 _ _ y1 v2 (by omega) (fun f hf he => ?_) (Or.inr ⟨_, a1, a2, ?_, v3⟩)
                · rw [hsame f he, ern f]
                  have z := a3 f hf he
                  omega
                · rw [hsame _ a2, ern]
              · refine hQ M2 _ _ y1 v2 (Int.le_refl _) (fun f hf he => ?_) (Or.inl ⟨rfl, v3⟩)
                rw [hsame f he, ern f]
                have z := a3 f hf he
                omega
          · refine xr_return hc rfl rfl (Nat.zero_le _) (Nat.zero_le _) ?_
            first
              | (exfalso; omega)
              | (refine hQ M bw br (fun _ _ _ _ _ => rfl) hbst (Int.le_refl _) (fun f hf he => ?_) (Or.inl ⟨rfl, fun _ _ => rfl⟩)
                 rw [hsame f he]
                 have z := hrk f [] t1 u1 hf
                 have z2 := hbr u1 (by omega) (by omega) (by omega)
                 omega)
      | cons x l1 =>
        have hopen := hop x l1 rfl
        have g3b : M 50 3 = (k1 : Int) + (l1.length + 1) := by rw [g3, List.length_cons]; omega
        have g4b := g4
        have g6b := g6
        have g8b := g8
        rw [List.length_cons] at g4b g6b g8b
        have h9 : M 55 x.1 = -9 := hopen
        have x1 := (g1 0 x rfl).1
        rw [Nat.add_zero] at x1
        have hx2 := g2 x (List.mem_cons_self ..)
        have hrk2 : ∀ f, vld w.toNat pl f → (u1 + wa (f x.1) t1 pl) * 1000000 ≤ rnk pl w.toNat f (x :: l1) t1 u1 := fun f hf => by
          have z := t_w_in (sp := f) hpl l1 (t1 + wa (f x.1) t1 pl + 1 + x.2)
          have z2 := key_in w.toNat (by omega) (vld_dig hpl.2 hf)
          unfold rnk
          show _ ≤ (u1 + (wa (f x.1) t1 pl + t_w pl f l1 (t1 + wa (f x.1) t1 pl + 1 + x.2))) * 1000000 + _
          omega
        refine xr_iload hc rfl rfl ?_
        refine xr_aloadn hc rfl rfl ?_
        refine xr_getfi hc rfl (Or.inl rfl) (by first | assumption | rfl) ?_
        rw [hb1]
        refine xr_icmp_gt hc rfl (t := 116) rfl (fun b106 => ?_) (fun b106 => ?_)
        · refine xr_return hc rfl rfl (Nat.zero_le _) (Nat.zero_le _) ?_
          first
            | (exfalso; omega)
            | (refine hQ M bw br (fun _ _ _ _ _ => rfl) hbst (Int.le_refl _) (fun f hf he => ?_) (Or.inl ⟨rfl, fun _ _ => rfl⟩)
               rw [hsame f he]
               have z := hrk f (x :: l1) t1 u1 hf
               have z2 := hbr u1 (by omega) (by omega) (by omega)
               omega)
        · refine xr_iload hc rfl rfl ?_
          refine xr_bipush hc rfl ?_
          refine xr_icmp_le hc rfl (t := 117) rfl (fun b113 => ?_) (fun b113 => ?_)
          · refine xr_iload hc rfl rfl ?_
            refine xr_aloadn hc rfl rfl ?_
            refine xr_getfr hc rfl rfl (by first | assumption | rfl) (by first | assumption | rfl) ?_
            refine xr_getfi hc rfl (Or.inl rfl) (by first | assumption | rfl) ?_
            rw [g3b]
            refine xr_icmp_lt hc rfl (t := 136) rfl (fun b126 => ?_) (fun b126 => ?_)
            · exfalso
              have z := un_pos h9 w.toNat (by omega)
              omega
            · exfalso
              omega
          · refine xr_return hc rfl rfl (Nat.zero_le _) (Nat.zero_le _) ?_
            first
              | (exfalso; omega)
              | (refine hQ M bw br (fun _ _ _ _ _ => rfl) hbst (Int.le_refl _) (fun f hf he => ?_) (Or.inl ⟨rfl, fun _ _ => rfl⟩)
                 rw [hsame f he]
                 have z := hrk f (x :: l1) t1 u1 hf
                 have z2 := hbr u1 (by omega) (by omega) (by omega)
                 omega)
    have lpA : ∀ (l1 : List (Nat × Int)) (k1 : Nat) (t1 u1 : Int) (e8 : Option dz_V), (∀ i x, l1[i]? = some x → M 51 (k1 + i) = (x.1 : Int) ∧ M 52 (k1 + i) = x.2) → (∀ x, x ∈ l1 → (x.1 : Int) < w ∧ 0 ≤ x.2 ∧ x.2 ≤ 11) → M 50 3 = ((k1 + l1.length : Nat) : Int) → k1 + l1.length ≤ 80 → 0 ≤ t1 → t1 + 20 * l1.length ≤ 990000 → 0 ≤ u1 → u1 + 9 * l1.length ≤ 9999 → (∀ f, ext w.toNat (M 55) f → rnk pl w.toNat f l t u = rnk pl w.toNat f l1 t1 u1) → dz_X (dz_E dz_pp xo (d + 0 + 3)) dz_pp xo (dz_pp 32) Q 9 [some (dz_r 54), some (dz_i (k : Int)), some (dz_i t), some (dz_i u), some (dz_i dp), some (dz_i (k1 : Int)), some (dz_i t1), some (dz_i u1), e8, none, none] [] 0 0 (sh, rf, M) := by
      intro l1
      induction l1 with
      | nil =>
        intro k1 t1 u1 e8 g1 g2 g3 g4 g5 g6 g7 g8 hsame
        have g3b : M 50 3 = (k1 : Int) := g3
        refine xr_iload hc rfl rfl ?_
        refine xr_aloadn hc rfl rfl ?_
        refine xr_getfr hc rfl rfl (by first | assumption | rfl) (by first | assumption | rfl) ?_
        refine xr_getfi hc rfl (Or.inl rfl) (by first | assumption | rfl) ?_
        rw [g3b]
        refine xr_icmp_ge hc rfl (t := 100) rfl (fun b18 => ?_) (fun b18 => ?_)
        · exact t100 [] k1 t1 u1 e8 g1 g2 g3 g4 g5 g6 g7 g8 hsame (fun x l2 h => by simp at h)
        · exfalso
          omega
      | cons x l1 ihA =>
        intro k1 t1 u1 e8 g1 g2 g3 g4 g5 g6 g7 g8 hsame
        have g3b : M 50 3 = (k1 : Int) + (l1.length + 1) := by rw [g3, List.length_cons]; omega
        have g4b := g4
        have g6b := g6
        have g8b := g8
        rw [List.length_cons] at g4b g6b g8b
        obtain ⟨x1, x2⟩ := g1 0 x rfl
        rw [Nat.add_zero] at x1 x2
        obtain ⟨y1, y2, y3⟩ := g2 x (List.mem_cons_self ..)
        have hwa := wa_in (p := M 55 x.1) (b := t1) (pl := pl) (by omega)
        have hspx := hsp x.1 y1
        refine xr_iload hc rfl rfl ?_
        refine xr_aloadn hc rfl rfl ?_
        refine xr_getfr hc rfl rfl (by first | assumption | rfl) (by first | assumption | rfl) ?_
        refine xr_getfi hc rfl (Or.inl rfl) (by first | assumption | rfl) ?_
        rw [g3b]
        refine xr_icmp_ge hc rfl (t := 100) rfl (fun b18 => ?_) (fun b18 => ?_)
        · first
            | (exfalso; omega)
            | (refine t100 (x :: l1) k1 t1 u1 e8 g1 g2 g3 g4 g5 g6 g7 g8 hsame (fun y l2 h => ?_)
               injection h with h1 h2
               rw [← h1]
               omega)
        · refine xr_aloadn hc rfl rfl ?_
          refine xr_getfr hc rfl rfl (by first | assumption | rfl) (by first | assumption | rfl) ?_
          refine xr_aloadn hc rfl rfl ?_
          refine xr_getfr hc rfl rfl (by first | assumption | rfl) (by first | assumption | rfl) ?_
          refine xr_getfr hc rfl rfl (by first | assumption | rfl) (by first | assumption | rfl) ?_
          refine xr_iload hc rfl rfl ?_
          first | refine xr_iaload hc rfl (by first | assumption | rfl) (by first | omega | (unfold dz_w; omega)) (by first | omega | (unfold dz_w; omega)) ?_ | refine xr_ialoado hc rfl (by first | omega | (unfold dz_w; omega)) (by first | omega | (unfold dz_w; omega)) ?_
          rw [Int.toNat_natCast, x1]
          first | refine xr_iaload hc rfl (by first | assumption | rfl) (by first | omega | (unfold dz_w; omega)) (by first | omega | (unfold dz_w; omega)) ?_ | refine xr_ialoado hc rfl (by first | omega | (unfold dz_w; omega)) (by first | omega | (unfold dz_w; omega)) ?_
          rw [Int.toNat_natCast]
          refine xr_bipush hc rfl ?_
          refine xr_icmp_eq hc rfl (t := 100) rfl (fun b38 => ?_) (fun b38 => ?_)
          · first
              | (exfalso; omega)
              | (refine t100 (x :: l1) k1 t1 u1 e8 g1 g2 g3 g4 g5 g6 g7 g8 hsame (fun y l2 h => ?_)
                 injection h with h1 h2
                 rw [← h1]
                 omega)
          · refine xr_aloadn hc rfl rfl ?_
            refine xr_getfr hc rfl rfl (by first | assumption | rfl) (by first | assumption | rfl) ?_
            refine xr_aloadn hc rfl rfl ?_
            refine xr_getfr hc rfl rfl (by first | assumption | rfl) (by first | assumption | rfl) ?_
            refine xr_getfr hc rfl rfl (by first | assumption | rfl) (by first | assumption | rfl) ?_
            refine xr_iload hc rfl rfl ?_
            first | refine xr_iaload hc rfl (by first | assumption | rfl) (by first | omega | (unfold dz_w; omega)) (by first | omega | (unfold dz_w; omega)) ?_ | refine xr_ialoado hc rfl (by first | omega | (unfold dz_w; omega)) (by first | omega | (unfold dz_w; omega)) ?_
            rw [Int.toNat_natCast, x1]
            first | refine xr_iaload hc rfl (by first | assumption | rfl) (by first | omega | (unfold dz_w; omega)) (by first | omega | (unfold dz_w; omega)) ?_ | refine xr_ialoado hc rfl (by first | omega | (unfold dz_w; omega)) (by first | omega | (unfold dz_w; omega)) ?_
            rw [Int.toNat_natCast]
            refine xr_iload hc rfl rfl ?_
            refine xr_aloadn hc rfl rfl ?_
            refine xr_getfi hc rfl (Or.inl rfl) (by first | assumption | rfl) ?_
            rw [h6]
            refine xr_calls3 hc rfl (by decide) rfl rfl rfl (Nat.le_of_ble_eq_true rfl) (Nat.zero_le _) (Nat.zero_le _) ?_
            refine S_waitFor (by omega) (by omega) (by omega) ?_
            refine xk_1 ?_
            refine xr_istore8 hc rfl rfl ?_
            refine xr_iload hc rfl rfl ?_
            refine xr_iload hc rfl rfl ?_
            refine xr_iaddz hc rfl (by first | exact dz_wid (by first | omega | (unfold dz_w; omega)) (by first | omega | (unfold dz_w; omega)) | rfl) ?_
            refine xr_istore7 hc rfl rfl ?_
            refine xr_iload hc rfl rfl ?_
            refine xr_iload hc rfl rfl ?_
            refine xr_iconst hc rfl ?_
            refine xr_iaddz hc rfl (by first | exact dz_wid (by first | omega | (unfold dz_w; omega)) (by first | omega | (unfold dz_w; omega)) | rfl) ?_
            refine xr_aloadn hc rfl rfl ?_
            refine xr_getfr hc rfl rfl (by first | assumption | rfl) (by first | assumption | rfl) ?_
            refine xr_getfr hc rfl rfl (by first | assumption | rfl) (by first | assumption | rfl) ?_
            refine xr_iload hc rfl rfl ?_
            first | refine xr_iaload hc rfl (by first | assumption | rfl) (by first | omega | (unfold dz_w; omega)) (by first | omega | (unfold dz_w; omega)) ?_ | refine xr_ialoado hc rfl (by first | omega | (unfold dz_w; omega)) (by first | omega | (unfold dz_w; omega)) ?_
            rw [Int.toNat_natCast, x2]
            refine xr_iaddz hc rfl (by first | exact dz_wid (by first | omega | (unfold dz_w; omega)) (by first | omega | (unfold dz_w; omega)) | rfl) ?_
            refine xr_iaddz hc rfl (by first | exact dz_wid (by first | omega | (unfold dz_w; omega)) (by first | omega | (unfold dz_w; omega)) | rfl) ?_
            refine xr_istore6 hc rfl rfl ?_
            refine xr_iincz5 hc rfl rfl (by first | exact dz_wid (by first | omega | (unfold dz_w; omega)) (by first | omega | (unfold dz_w; omega)) | rfl) ?_
            refine xr_goto hc rfl (t := 9) rfl ?_
            rw [show t1 + (wa (M 55 x.1) t1 pl + 1 + x.2) = t1 + wa (M 55 x.1) t1 pl + 1 + x.2 by omega]
            refine ihA (k1 + 1) _ _ _ (fun i y hy => by rw [show k1 + 1 + i = k1 + (i + 1) by omega]; exact g1 (i + 1) y (by simpa using hy)) (fun y hy => g2 y (List.mem_cons_of_mem _ hy)) (by rw [g3b]; omega) (by omega) (by omega) (by omega) (by omega) (by omega) (fun f he => ?_)
            rw [hsame f he]
            have ef : f x.1 = M 55 x.1 := he x.1 (by omega) (by omega)
            unfold rnk
            show (u1 + (wa (f x.1) t1 pl + t_w pl f l1 (t1 + wa (f x.1) t1 pl + 1 + x.2))) * 1000000 + _ = _
            rw [ef, show u1 + (wa (M 55 x.1) t1 pl + t_w pl f l1 (t1 + wa (M 55 x.1) t1 pl + 1 + x.2)) = u1 + wa (M 55 x.1) t1 pl + t_w pl f l1 (t1 + wa (M 55 x.1) t1 pl + 1 + x.2) by omega]
    refine xr_iloadn hc rfl rfl ?_
    refine xr_istore5 hc rfl rfl ?_
    refine xr_iloadn hc rfl rfl ?_
    refine xr_istore6 hc rfl rfl ?_
    refine xr_iloadn hc rfl rfl ?_
    refine xr_istore7 hc rfl rfl ?_
    exact lpA l k t u none f1 f2 f3 f4 f5 f6 f7 f8 (fun _ _ => rfl)
  | succ U ihU =>
    intro Q M l k t u dp bw br f1 f2 f3 f4 f5 f6 f7 f8 hun hdp hdu h5 h6 hsp hinj hbst hQ
    refine ⟨Nat.le_of_ble_eq_true rfl, ?_⟩
    have hc := dz_E_m dz_pp xo (d + U + 4)
    show dz_X (dz_E dz_pp xo (d + U + 4)) dz_pp xo (dz_pp 32) Q 0 [some (dz_r 54), some (dz_i (k : Int)), some (dz_i t), some (dz_i u), some (dz_i dp), none, none, none, none, none, none] [] 0 0 (sh, rf, M)
    obtain ⟨hb1, hb2⟩ := id hbst
    have hbr : ∀ y : Int, bw < y → 0 ≤ y → y ≤ 9999 → br < y * 1000000 := fun y y1 y2 y3 => by
      rcases hb2 with ⟨z1, z2⟩ | ⟨z1, z2, z3, z4⟩
      · omega
      · have z5 := key_in w.toNat (by omega) z3
        omega
    have hrk : ∀ (f : Nat → Int) (l1 : List (Nat × Int)) (t1 u1 : Int), vld w.toNat pl f → u1 * 1000000 ≤ rnk pl w.toNat f l1 t1 u1 := fun f l1 t1 u1 hf => by
      have z := t_w_in (sp := f) hpl l1 t1
      have z2 := key_in w.toNat (by omega) (vld_dig hpl.2 hf)
      unfold rnk
      omega
    have t100 : ∀ (l1 : List (Nat × Int)) (k1 : Nat) (t1 u1 : Int) (e8 : Option dz_V), (∀ i x, l1[i]? = some x → M 51 (k1 + i) = (x.1 : Int) ∧ M 52 (k1 + i) = x.2) → (∀ x, x ∈ l1 → (x.1 : Int) < w ∧ 0 ≤ x.2 ∧ x.2 ≤ 11) → M 50 3 = ((k1 + l1.length : Nat) : Int) → k1 + l1.length ≤ 80 → 0 ≤ t1 → t1 + 20 * l1.length ≤ 990000 → 0 ≤ u1 → u1 + 9 * l1.length ≤ 9999 → (∀ f, ext w.toNat (M 55) f → rnk pl w.toNat f l t u = rnk pl w.toNat f l1 t1 u1) → (∀ x l2, l1 = x :: l2 → M 55 x.1 = -9) → dz_X (dz_E dz_pp xo (d + U + 4)) dz_pp xo (dz_pp 32) Q 100 [some (dz_r 54), some (dz_i (k : Int)), some (dz_i t), some (dz_i u), some (dz_i dp), some (dz_i (k1 : Int)), some (dz_i t1), some (dz_i u1), e8, none, none] [] 0 0 (sh, rf, M) := by
      intro l1 k1 t1 u1 e8 g1 g2 g3 g4 g5 g6 g7 g8 hsame hop
      cases l1 with
      | nil =>
        have g3b : M 50 3 = (k1 : Int) := g3
        rw [List.length_nil] at g8
        refine xr_iload hc rfl rfl ?_
        refine xr_aloadn hc rfl rfl ?_
        refine xr_getfi hc rfl (Or.inl rfl) (by first | assumption | rfl) ?_
        rw [hb1]
        refine xr_icmp_gt hc rfl (t := 116) rfl (fun b106 => ?_) (fun b106 => ?_)
        · refine xr_return hc rfl rfl (Nat.zero_le _) (Nat.zero_le _) ?_
          first
            | (exfalso; omega)
            | (refine hQ M bw br (fun _ _ _ _ _ => rfl) hbst (Int.le_refl _) (fun f hf he => ?_) (Or.inl ⟨rfl, fun _ _ => rfl⟩)
               rw [hsame f he]
               have z := hrk f [] t1 u1 hf
               have z2 := hbr u1 (by omega) (by omega) (by omega)
               omega)
        · refine xr_iload hc rfl rfl ?_
          refine xr_bipush hc rfl ?_
          refine xr_icmp_le hc rfl (t := 117) rfl (fun b113 => ?_) (fun b113 => ?_)
          · refine xr_iload hc rfl rfl ?_
            refine xr_aloadn hc rfl rfl ?_
            refine xr_getfr hc rfl rfl (by first | assumption | rfl) (by first | assumption | rfl) ?_
            refine xr_getfi hc rfl (Or.inl rfl) (by first | assumption | rfl) ?_
            rw [g3b]
            refine xr_icmp_lt hc rfl (t := 136) rfl (fun b126 => ?_) (fun b126 => ?_)
            · exfalso
              omega
            · refine xr_aloadn hc rfl rfl ?_
              refine xr_iload hc rfl rfl ?_
              refine xr_callv1 hc rfl (by first | assumption | rfl) rfl rfl rfl (Nat.le_of_ble_eq_true rfl) (Nat.zero_le _) (Nat.zero_le _) ?_
              obtain ⟨a1, a2, a3⟩ := fillr_min hw hpl w.toNat 0 0 (M 55) (by omega) (by omega) hsp hinj (fun k hk => by omega) (fun p hp => by omega)
              refine S_settle (d := d + (U + 1)) (w := w) (pl := pl) hl h5 h6 hw hpl (vld_dig hpl.2 a1) (by omega) (by omega) hbst (fun M2 y1 y2 => ?_)
              have ern : ∀ f, rnk pl w.toNat f [] t1 u1 = u1 * 1000000 + key f w.toNat := fun f => by
                unfold rnk
                show (u1 + 0) * 1000000 + _ = _
                omega
              refine xk_0 ?_
              refine xr_return hc rfl rfl (Nat.zero_le _) (Nat.zero_le _) ?_
              rcases y2 with ⟨v1, v2, v3⟩ | ⟨v1, v2, v3⟩
              · refine hQ M2 _ _ y1 v2 (by omega) (fun f hf he => ?_) (Or.inr ⟨_, a1, a2, ?_, v3⟩)
                · rw [hsame f he, ern f]
                  have z := a3 f hf he
                  omega
                · rw [hsame _ a2, ern]
              · refine hQ M2 _ _ y1 v2 (Int.le_refl _) (fun f hf he => ?_) (Or.inl ⟨rfl, v3⟩)
                rw [hsame f he, ern f]
                have z := a3 f hf he
                omega
          · refine xr_return hc rfl rfl (Nat.zero_le _) (Nat.zero_le _) ?_
            first
              | (exfalso; omega)
              | (refine hQ M bw br (fun _ _ _ _ _ => rfl) hbst (Int.le_refl _) (fun f hf he => ?_) (Or.inl ⟨rfl, fun _ _ => rfl⟩)
                 rw [hsame f he]
                 have z := hrk f [] t1 u1 hf
                 have z2 := hbr u1 (by omega) (by omega) (by omega)
                 omega)
      | cons x l1 =>
        have hopen := hop x l1 rfl
        have g3b : M 50 3 = (k1 : Int) + (l1.length + 1) := by rw [g3, List.length_cons]; omega
        have g4b := g4
        have g6b := g6
        have g8b := g8
        rw [List.length_cons] at g4b g6b g8b
        have h9 : M 55 x.1 = -9 := hopen
        have x1 := (g1 0 x rfl).1
        rw [Nat.add_zero] at x1
        have hx2 := g2 x (List.mem_cons_self ..)
        have hrk2 : ∀ f, vld w.toNat pl f → (u1 + wa (f x.1) t1 pl) * 1000000 ≤ rnk pl w.toNat f (x :: l1) t1 u1 := fun f hf => by
          have z := t_w_in (sp := f) hpl l1 (t1 + wa (f x.1) t1 pl + 1 + x.2)
          have z2 := key_in w.toNat (by omega) (vld_dig hpl.2 hf)
          unfold rnk
          show _ ≤ (u1 + (wa (f x.1) t1 pl + t_w pl f l1 (t1 + wa (f x.1) t1 pl + 1 + x.2))) * 1000000 + _
          omega
        refine xr_iload hc rfl rfl ?_
        refine xr_aloadn hc rfl rfl ?_
        refine xr_getfi hc rfl (Or.inl rfl) (by first | assumption | rfl) ?_
        rw [hb1]
        refine xr_icmp_gt hc rfl (t := 116) rfl (fun b106 => ?_) (fun b106 => ?_)
        · refine xr_return hc rfl rfl (Nat.zero_le _) (Nat.zero_le _) ?_
          first
            | (exfalso; omega)
            | (refine hQ M bw br (fun _ _ _ _ _ => rfl) hbst (Int.le_refl _) (fun f hf he => ?_) (Or.inl ⟨rfl, fun _ _ => rfl⟩)
               rw [hsame f he]
               have z := hrk f (x :: l1) t1 u1 hf
               have z2 := hbr u1 (by omega) (by omega) (by omega)
               omega)
        · refine xr_iload hc rfl rfl ?_
          refine xr_bipush hc rfl ?_
          refine xr_icmp_le hc rfl (t := 117) rfl (fun b113 => ?_) (fun b113 => ?_)
          · refine xr_iload hc rfl rfl ?_
            refine xr_aloadn hc rfl rfl ?_
            refine xr_getfr hc rfl rfl (by first | assumption | rfl) (by first | assumption | rfl) ?_
            refine xr_getfi hc rfl (Or.inl rfl) (by first | assumption | rfl) ?_
            rw [g3b]
            refine xr_icmp_lt hc rfl (t := 136) rfl (fun b126 => ?_) (fun b126 => ?_)
            · have lpB : ∀ (m_ dd : Nat) (N : Nat → Nat → Int) (bwc brc : Int) (e10 : Option dz_V), (dd : Int) + m_ = pl → (∀ q2 k2, ¬ (q2 = 54 ∧ k2 = 4) → q2 ≠ 56 → q2 ≠ 57 → N q2 k2 = M q2 k2) → BST N w.toNat bwc brc → brc ≤ br → (∀ f, vld w.toNat pl f → ext w.toNat (M 55) f → wa (f x.1) t1 pl < dd → brc ≤ rnk pl w.toNat f (x :: l1) t1 u1) → ((brc = br ∧ ∀ k, k < w.toNat → N 57 k = M 57 k) ∨ ∃ f, vld w.toNat pl f ∧ ext w.toNat (M 55) f ∧ brc = rnk pl w.toNat f l t u ∧ ∀ k, k < w.toNat → N 57 k = f k) → dz_X (dz_E dz_pp xo (d + U + 4)) dz_pp xo (dz_pp 32) Q 151 [some (dz_r 54), some (dz_i (k : Int)), some (dz_i t), some (dz_i u), some (dz_i dp), some (dz_i (k1 : Int)), some (dz_i t1), some (dz_i u1), some (dz_i (x.1 : Int)), some (dz_i (dd : Int)), e10] [] 0 0 (sh, rf, N) := by
                intro m_
                induction m_ with
                | zero =>
                  intro dd N bwc brc e10 hdd n1 n2 n3 n4 n5
                  have m6 : N 54 6 = pl := by rw [n1 _ _ (by omega) (by omega) (by omega)]; exact h6
                  refine xr_iload hc rfl rfl ?_
                  refine xr_aloadn hc rfl rfl ?_
                  refine xr_getfi hc rfl (Or.inl rfl) (by first | assumption | rfl) ?_
                  rw [m6]
                  refine xr_icmp_ge hc rfl (t := 240) rfl (fun b157 => ?_) (fun b157 => ?_)
                  · refine xr_return hc rfl rfl (Nat.zero_le _) (Nat.zero_le _) ?_
                    refine hQ N bwc brc n1 n2 n3 (fun f hf he => ?_) n5
                    rw [hsame f he]
                    exact n4 f hf he (by have z := wa_in (p := f x.1) (b := t1) (pl := pl) (by omega); omega)
                  · omega
                | succ m_ ih2 =>
                  intro dd N bwc brc e10 hdd n1 n2 n3 n4 n5
                  have m6 : N 54 6 = pl := by rw [n1 _ _ (by omega) (by omega) (by omega)]; exact h6
                  have m5 : N 54 5 = w := by rw [n1 _ _ (by omega) (by omega) (by omega)]; exact h5
                  have hN55 : N 55 = M 55 := funext fun q => n1 _ _ (by omega) (by omega) (by omega)
                  have e55f : dz_up N 55 x.1 ((t1 + (dd : Int)) % pl) 55 = fup (M 55) x.1 ((t1 + (dd : Int)) % pl) := funext fun q => by rw [up_fup, hN55]
                  have hp0 : 0 ≤ (t1 + (dd : Int)) % pl := Int.emod_nonneg _ (by omega)
                  have hp1 : (t1 + (dd : Int)) % pl < pl := Int.emod_lt_of_pos _ (by omega)
                  have em : Int.tmod (t1 + (dd : Int)) pl = (t1 + (dd : Int)) % pl := Int.tmod_eq_emod_of_nonneg (by omega)
                  have hfr := ly_free (f := M 55) (p := (t1 + (dd : Int)) % pl) hw.1
                  have hfr2 := ly_free (f := N 55) (p := (t1 + (dd : Int)) % pl) hw.1
                  have hbwc : bwc = 1000000 ∨ (0 ≤ bwc ∧ bwc ≤ 9999) := by
                    rcases n2.2 with z | z
                    · exact Or.inl z.1
                    · exact Or.inr ⟨z.1, z.2.1⟩
                  refine xr_iload hc rfl rfl ?_
                  refine xr_aloadn hc rfl rfl ?_
                  refine xr_getfi hc rfl (Or.inl rfl) (by first | assumption | rfl) ?_
                  rw [m6]
                  refine xr_icmp_ge hc rfl (t := 240) rfl (fun b157 => ?_) (fun b157 => ?_)
                  · first
                    | (exfalso; omega)
                    | (skip
                       refine xr_return hc rfl rfl (Nat.zero_le _) (Nat.zero_le _) ?_
                       refine hQ N bwc brc n1 n2 n3 (fun f hf he => ?_) n5
                       rw [hsame f he]
                       by_cases hwd : wa (f x.1) t1 pl < dd
                       · exact n4 f hf he hwd
                       · have z := hrk2 f hf
                         rcases n2.2 with ⟨z1, z2⟩ | ⟨z1, z2, z3, z4⟩
                         · exfalso
                           omega
                         · have z5 := key_in w.toNat (by omega) z3
                           omega)
                  · first
                    | (exfalso; omega)
                    | (skip
                       refine xr_iload hc rfl rfl ?_
                       refine xr_iload hc rfl rfl ?_
                       refine xr_iaddz hc rfl (by first | exact dz_wid (by first | omega | (unfold dz_w; omega)) (by first | omega | (unfold dz_w; omega)) | rfl) ?_
                       refine xr_aloadn hc rfl rfl ?_
                       refine xr_getfi hc rfl (Or.inl rfl) (by first | assumption | rfl) ?_
                       rw [n2.1]
                       refine xr_icmp_gt hc rfl (t := 240) rfl (fun b169 => ?_) (fun b169 => ?_)
                       · first
                         | (exfalso; omega)
                         | (skip
                            refine xr_return hc rfl rfl (Nat.zero_le _) (Nat.zero_le _) ?_
                            refine hQ N bwc brc n1 n2 n3 (fun f hf he => ?_) n5
                            rw [hsame f he]
                            by_cases hwd : wa (f x.1) t1 pl < dd
                            · exact n4 f hf he hwd
                            · have z := hrk2 f hf
                              rcases n2.2 with ⟨z1, z2⟩ | ⟨z1, z2, z3, z4⟩
                              · exfalso
                                omega
                              · have z5 := key_in w.toNat (by omega) z3
                                omega)
                       · first
                         | (exfalso; omega)
                         | (skip
                            refine xr_iload hc rfl rfl ?_
                            refine xr_iload hc rfl rfl ?_
                            refine xr_iaddz hc rfl (by first | exact dz_wid (by first | omega | (unfold dz_w; omega)) (by first | omega | (unfold dz_w; omega)) | rfl) ?_
                            refine xr_aloadn hc rfl rfl ?_
                            refine xr_getfi hc rfl (Or.inl rfl) (by first | assumption | rfl) ?_
                            rw [m6]
                            refine xr_irem hc rfl (by first | omega | (unfold dz_w; omega)) ?_
                            rw [em]
                            refine xr_istore10 hc rfl rfl ?_
                            refine xr_aloadn hc rfl rfl ?_
                            refine xr_getfr hc rfl rfl (by first | assumption | rfl) (by first | assumption | rfl) ?_
                            refine xr_aloadn hc rfl rfl ?_
                            refine xr_getfi hc rfl (Or.inl rfl) (by first | assumption | rfl) ?_
                            rw [m5]
                            refine xr_iload hc rfl rfl ?_
                            refine xr_calls3 hc rfl (by decide) rfl rfl rfl (Nat.le_of_ble_eq_true rfl) (Nat.zero_le _) (Nat.zero_le _) ?_
                            refine S_lies k2 (by omega) (by omega) (fun y1 => ?_) (fun y0 y1 y2 => ?_)
                            all_goals try rw [hN55] at y2
                            · refine xk_1 ?_
                              refine xr_bipush hc rfl ?_
                              refine xr_icmp_ne hc rfl (t := 234) rfl (fun b199 => ?_) (fun b199 => ?_)
                              · first
                                | (exfalso; omega)
                                | (skip
                                   refine xr_iincz9 hc rfl rfl (by first | exact dz_wid (by first | omega | (unfold dz_w; omega)) (by first | omega | (unfold dz_w; omega)) | rfl) ?_
                                   refine xr_goto hc rfl (t := 151) rfl ?_
                                   first
                                     | (exfalso; omega)
                                     | (rw [Int.toNat_natCast]
                                        refine ih2 (dd + 1) (dz_up N2 55 x.1 (-9)) bw2 br2 _ (by omega) (fun q2 k2 v1 v2 v3 => ?_) ⟨by rw [dz_up_ne (by omega)]; exact c2.1, by rw [dz_up_ne (by omega)]; exact c2.2⟩ (by omega) (fun f hf he hwd => ?_) ?_
                                        · by_cases e : q2 = 55
                                          · subst e
                                            by_cases e2 : k2 = x.1
                                            · rw [e2, dz_up_eq, h9]
                                            · rw [dz_up_k e2, c1 _ _ v1 v2 v3, dz_up_k e2, n1 _ _ v1 v2 v3]
                                          · rw [dz_up_ne e, c1 _ _ v1 v2 v3, dz_up_ne e, n1 _ _ v1 v2 v3]
                                        · by_cases e : wa (f x.1) t1 pl < dd
                                          · have z := n4 f hf he e
                                            omega
                                          · have z := wa_at (t := t1) (p := f x.1) (pl := pl) (by omega) (hf.1 x.1 (by omega))
                                            rw [show wa (f x.1) t1 pl = (dd : Int) by omega] at z
                                            exact c4 f hf ((ext_fup h9).mpr ⟨fun _ _ => z, he⟩)
                                        · rcases c5 with ⟨y1, y2⟩ | ⟨f, y1, y2, y3, y4⟩
                                          · rcases n5 with ⟨z1, z2⟩ | ⟨f, z1, z2, z3, z4⟩
                                            · exact Or.inl ⟨by omega, fun q hq => by rw [dz_up_ne (by omega), y2 q hq, dz_up_ne (by omega), z2 q hq]⟩
                                            · exact Or.inr ⟨f, z1, z2, by omega, fun q hq => by rw [dz_up_ne (by omega), y2 q hq, dz_up_ne (by omega), z4 q hq]⟩
                                          · have he := ((ext_fup h9).mp y2).2
                                            exact Or.inr ⟨f, y1, he, by rw [hsame f he]; exact y3, fun q hq => by rw [dz_up_ne (by omega)]; exact y4 q hq⟩)
                                     | (refine ih2 (dd + 1) N bwc brc _ (by omega) n1 n2 n3 (fun f hf he hwd => ?_) n5
                                        by_cases e : wa (f x.1) t1 pl < dd
                                        · exact n4 f hf he e
                                        · have z := wa_at (t := t1) (p := f x.1) (pl := pl) (by omega) (hf.1 x.1 (by omega))
                                          rw [show wa (f x.1) t1 pl = (dd : Int) by omega] at z
                                          have z2 := ext_free (i := x.1) (by omega) h9 hf he
                                          rw [z] at z2
                                          exact absurd y2 ((hfr.mp z2) y0 y1)))
                              · first
                                | (exfalso; omega)
                                | (skip
                                   have hfy : ly_at (M 55) ((t1 + (dd : Int)) % pl) w.toNat 0 = -9 := by rw [← hN55]; exact hfr2.mpr y1
                                   refine xr_aloadn hc rfl rfl ?_
                                   refine xr_getfr hc rfl rfl (by first | assumption | rfl) (by first | assumption | rfl) ?_
                                   refine xr_iload hc rfl rfl ?_
                                   refine xr_iload hc rfl rfl ?_
                                   refine xr_iastore hc rfl (by first | assumption | rfl) (by first | omega | (unfold dz_w; omega)) (by first | omega | (unfold dz_w; omega)) ?_
                                   rw [Int.toNat_natCast]
                                   refine xr_aloadn hc rfl rfl ?_
                                   refine xr_iload hc rfl rfl ?_
                                   refine xr_iload hc rfl rfl ?_
                                   refine xr_iload hc rfl rfl ?_
                                   refine xr_iload hc rfl rfl ?_
                                   refine xr_iconst hc rfl ?_
                                   refine xr_iaddz hc rfl (by first | exact dz_wid (by first | omega | (unfold dz_w; omega)) (by first | omega | (unfold dz_w; omega)) | rfl) ?_
                                   refine xr_calls5 hc rfl (by decide) rfl rfl rfl (Nat.le_of_ble_eq_true rfl) (Nat.zero_le _) (Nat.zero_le _) ?_
                                   refine ihU _ (dz_up N 55 x.1 ((t1 + (dd : Int)) % pl)) (x :: l1) k1 t1 u1 (dp + 1) bwc brc (fun i y hy => by rw [dz_up_ne (by omega), dz_up_ne (by omega), n1 _ _ (by omega) (by omega) (by omega), n1 _ _ (by omega) (by omega) (by omega)]; exact g1 i y hy) g2 (by rw [dz_up_ne (by omega), n1 _ _ (by omega) (by omega) (by omega)]; exact g3) g4 g5 g6 g7 g8 (by rw [e55f]; have z := (un_fup (p := (t1 + (dd : Int)) % pl) h9 (by omega) w.toNat).1 (by omega); omega) (by omega) (by omega) (by rw [dz_up_ne (by omega)]; exact m5) (by rw [dz_up_ne (by omega)]; exact m6) (by
                                     rw [e55f]
                                     intro q hq
                                     by_cases e : q = x.1
                                     · rw [e, fup_eq]
                                       exact Or.inr ⟨hp0, hp1⟩
                                     · rw [fup_ne e]
                                       exact hsp q hq) (by rw [e55f]; exact pinj_fup hinj hfy) ⟨by rw [dz_up_ne (by omega)]; exact n2.1, by rw [dz_up_ne (by omega)]; exact n2.2⟩ (fun N2 bw2 br2 c1 c2 c3 c4 c5 => ?_)
                                   rw [e55f] at c4 c5
                                   refine xk_0 ?_
                                   refine xr_aloadn hc rfl rfl ?_
                                   refine xr_getfr hc rfl rfl (by first | assumption | rfl) (by first | assumption | rfl) ?_
                                   refine xr_iload hc rfl rfl ?_
                                   refine xr_bipush hc rfl ?_
                                   refine xr_iastore hc rfl (by first | assumption | rfl) (by first | omega | (unfold dz_w; omega)) (by first | omega | (unfold dz_w; omega)) ?_
                                   refine xr_iincz9 hc rfl rfl (by first | exact dz_wid (by first | omega | (unfold dz_w; omega)) (by first | omega | (unfold dz_w; omega)) | rfl) ?_
                                   refine xr_goto hc rfl (t := 151) rfl ?_
                                   first
                                     | (exfalso; omega)
                                     | (rw [Int.toNat_natCast]
                                        refine ih2 (dd + 1) (dz_up N2 55 x.1 (-9)) bw2 br2 _ (by omega) (fun q2 k2 v1 v2 v3 => ?_) ⟨by rw [dz_up_ne (by omega)]; exact c2.1, by rw [dz_up_ne (by omega)]; exact c2.2⟩ (by omega) (fun f hf he hwd => ?_) ?_
                                        · by_cases e : q2 = 55
                                          · subst e
                                            by_cases e2 : k2 = x.1
                                            · rw [e2, dz_up_eq, h9]
                                            · rw [dz_up_k e2, c1 _ _ v1 v2 v3, dz_up_k e2, n1 _ _ v1 v2 v3]
                                          · rw [dz_up_ne e, c1 _ _ v1 v2 v3, dz_up_ne e, n1 _ _ v1 v2 v3]
                                        · by_cases e : wa (f x.1) t1 pl < dd
                                          · have z := n4 f hf he e
                                            omega
                                          · have z := wa_at (t := t1) (p := f x.1) (pl := pl) (by omega) (hf.1 x.1 (by omega))
                                            rw [show wa (f x.1) t1 pl = (dd : Int) by omega] at z
                                            exact c4 f hf ((ext_fup h9).mpr ⟨fun _ _ => z, he⟩)
                                        · rcases c5 with ⟨y1, y2⟩ | ⟨f, y1, y2, y3, y4⟩
                                          · rcases n5 with ⟨z1, z2⟩ | ⟨f, z1, z2, z3, z4⟩
                                            · exact Or.inl ⟨by omega, fun q hq => by rw [dz_up_ne (by omega), y2 q hq, dz_up_ne (by omega), z2 q hq]⟩
                                            · exact Or.inr ⟨f, z1, z2, by omega, fun q hq => by rw [dz_up_ne (by omega), y2 q hq, dz_up_ne (by omega), z4 q hq]⟩
                                          · have he := ((ext_fup h9).mp y2).2
                                            exact Or.inr ⟨f, y1, he, by rw [hsame f he]; exact y3, fun q hq => by rw [dz_up_ne (by omega)]; exact y4 q hq⟩)
                                     | (refine ih2 (dd + 1) N bwc brc _ (by omega) n1 n2 n3 (fun f hf he hwd => ?_) n5
                                        by_cases e : wa (f x.1) t1 pl < dd
                                        · exact n4 f hf he e
                                        · have z := wa_at (t := t1) (p := f x.1) (pl := pl) (by omega) (hf.1 x.1 (by omega))
                                          rw [show wa (f x.1) t1 pl = (dd : Int) by omega] at z
                                          have z2 := ext_free (i := x.1) (by omega) h9 hf he
                                          rw [z] at z2
                                          exact absurd y2 ((hfr.mp z2) y0 y1)))
                            · refine xk_1 ?_
                              refine xr_bipush hc rfl ?_
                              refine xr_icmp_ne hc rfl (t := 234) rfl (fun b199 => ?_) (fun b199 => ?_)
                              · first
                                | (exfalso; omega)
                                | (skip
                                   refine xr_iincz9 hc rfl rfl (by first | exact dz_wid (by first | omega | (unfold dz_w; omega)) (by first | omega | (unfold dz_w; omega)) | rfl) ?_
                                   refine xr_goto hc rfl (t := 151) rfl ?_
                                   first
                                     | (exfalso; omega)
                                     | (rw [Int.toNat_natCast]
                                        refine ih2 (dd + 1) (dz_up N2 55 x.1 (-9)) bw2 br2 _ (by omega) (fun q2 k2 v1 v2 v3 => ?_) ⟨by rw [dz_up_ne (by omega)]; exact c2.1, by rw [dz_up_ne (by omega)]; exact c2.2⟩ (by omega) (fun f hf he hwd => ?_) ?_
                                        · by_cases e : q2 = 55
                                          · subst e
                                            by_cases e2 : k2 = x.1
                                            · rw [e2, dz_up_eq, h9]
                                            · rw [dz_up_k e2, c1 _ _ v1 v2 v3, dz_up_k e2, n1 _ _ v1 v2 v3]
                                          · rw [dz_up_ne e, c1 _ _ v1 v2 v3, dz_up_ne e, n1 _ _ v1 v2 v3]
                                        · by_cases e : wa (f x.1) t1 pl < dd
                                          · have z := n4 f hf he e
                                            omega
                                          · have z := wa_at (t := t1) (p := f x.1) (pl := pl) (by omega) (hf.1 x.1 (by omega))
                                            rw [show wa (f x.1) t1 pl = (dd : Int) by omega] at z
                                            exact c4 f hf ((ext_fup h9).mpr ⟨fun _ _ => z, he⟩)
                                        · rcases c5 with ⟨y1, y2⟩ | ⟨f, y1, y2, y3, y4⟩
                                          · rcases n5 with ⟨z1, z2⟩ | ⟨f, z1, z2, z3, z4⟩
                                            · exact Or.inl ⟨by omega, fun q hq => by rw [dz_up_ne (by omega), y2 q hq, dz_up_ne (by omega), z2 q hq]⟩
                                            · exact Or.inr ⟨f, z1, z2, by omega, fun q hq => by rw [dz_up_ne (by omega), y2 q hq, dz_up_ne (by omega), z4 q hq]⟩
                                          · have he := ((ext_fup h9).mp y2).2
                                            exact Or.inr ⟨f, y1, he, by rw [hsame f he]; exact y3, fun q hq => by rw [dz_up_ne (by omega)]; exact y4 q hq⟩)
                                     | (refine ih2 (dd + 1) N bwc brc _ (by omega) n1 n2 n3 (fun f hf he hwd => ?_) n5
                                        by_cases e : wa (f x.1) t1 pl < dd
                                        · exact n4 f hf he e
                                        · have z := wa_at (t := t1) (p := f x.1) (pl := pl) (by omega) (hf.1 x.1 (by omega))
                                          rw [show wa (f x.1) t1 pl = (dd : Int) by omega] at z
                                          have z2 := ext_free (i := x.1) (by omega) h9 hf he
                                          rw [z] at z2
                                          exact absurd y2 ((hfr.mp z2) y0 y1)))
                              · first
                                | (exfalso; omega)
                                | (skip
                                   have hfy : ly_at (M 55) ((t1 + (dd : Int)) % pl) w.toNat 0 = -9 := by rw [← hN55]; exact hfr2.mpr y1
                                   refine xr_aloadn hc rfl rfl ?_
                                   refine xr_getfr hc rfl rfl (by first | assumption | rfl) (by first | assumption | rfl) ?_
                                   refine xr_iload hc rfl rfl ?_
                                   refine xr_iload hc rfl rfl ?_
                                   refine xr_iastore hc rfl (by first | assumption | rfl) (by first | omega | (unfold dz_w; omega)) (by first | omega | (unfold dz_w; omega)) ?_
                                   rw [Int.toNat_natCast]
                                   refine xr_aloadn hc rfl rfl ?_
                                   refine xr_iload hc rfl rfl ?_
                                   refine xr_iload hc rfl rfl ?_
                                   refine xr_iload hc rfl rfl ?_
                                   refine xr_iload hc rfl rfl ?_
                                   refine xr_iconst hc rfl ?_
                                   refine xr_iaddz hc rfl (by first | exact dz_wid (by first | omega | (unfold dz_w; omega)) (by first | omega | (unfold dz_w; omega)) | rfl) ?_
                                   refine xr_calls5 hc rfl (by decide) rfl rfl rfl (Nat.le_of_ble_eq_true rfl) (Nat.zero_le _) (Nat.zero_le _) ?_
                                   refine ihU _ (dz_up N 55 x.1 ((t1 + (dd : Int)) % pl)) (x :: l1) k1 t1 u1 (dp + 1) bwc brc (fun i y hy => by rw [dz_up_ne (by omega), dz_up_ne (by omega), n1 _ _ (by omega) (by omega) (by omega), n1 _ _ (by omega) (by omega) (by omega)]; exact g1 i y hy) g2 (by rw [dz_up_ne (by omega), n1 _ _ (by omega) (by omega) (by omega)]; exact g3) g4 g5 g6 g7 g8 (by rw [e55f]; have z := (un_fup (p := (t1 + (dd : Int)) % pl) h9 (by omega) w.toNat).1 (by omega); omega) (by omega) (by omega) (by rw [dz_up_ne (by omega)]; exact m5) (by rw [dz_up_ne (by omega)]; exact m6) (by
                                     rw [e55f]
                                     intro q hq
                                     by_cases e : q = x.1
                                     · rw [e, fup_eq]
                                       exact Or.inr ⟨hp0, hp1⟩
                                     · rw [fup_ne e]
                                       exact hsp q hq) (by rw [e55f]; exact pinj_fup hinj hfy) ⟨by rw [dz_up_ne (by omega)]; exact n2.1, by rw [dz_up_ne (by omega)]; exact n2.2⟩ (fun N2 bw2 br2 c1 c2 c3 c4 c5 => ?_)
                                   rw [e55f] at c4 c5
                                   refine xk_0 ?_
                                   refine xr_aloadn hc rfl rfl ?_
                                   refine xr_getfr hc rfl rfl (by first | assumption | rfl) (by first | assumption | rfl) ?_
                                   refine xr_iload hc rfl rfl ?_
                                   refine xr_bipush hc rfl ?_
                                   refine xr_iastore hc rfl (by first | assumption | rfl) (by first | omega | (unfold dz_w; omega)) (by first | omega | (unfold dz_w; omega)) ?_
                                   refine xr_iincz9 hc rfl rfl (by first | exact dz_wid (by first | omega | (unfold dz_w; omega)) (by first | omega | (unfold dz_w; omega)) | rfl) ?_
                                   refine xr_goto hc rfl (t := 151) rfl ?_
                                   first
                                     | (exfalso; omega)
                                     | (rw [Int.toNat_natCast]
                                        refine ih2 (dd + 1) (dz_up N2 55 x.1 (-9)) bw2 br2 _ (by omega) (fun q2 k2 v1 v2 v3 => ?_) ⟨by rw [dz_up_ne (by omega)]; exact c2.1, by rw [dz_up_ne (by omega)]; exact c2.2⟩ (by omega) (fun f hf he hwd => ?_) ?_
                                        · by_cases e : q2 = 55
                                          · subst e
                                            by_cases e2 : k2 = x.1
                                            · rw [e2, dz_up_eq, h9]
                                            · rw [dz_up_k e2, c1 _ _ v1 v2 v3, dz_up_k e2, n1 _ _ v1 v2 v3]
                                          · rw [dz_up_ne e, c1 _ _ v1 v2 v3, dz_up_ne e, n1 _ _ v1 v2 v3]
                                        · by_cases e : wa (f x.1) t1 pl < dd
                                          · have z := n4 f hf he e
                                            omega
                                          · have z := wa_at (t := t1) (p := f x.1) (pl := pl) (by omega) (hf.1 x.1 (by omega))
                                            rw [show wa (f x.1) t1 pl = (dd : Int) by omega] at z
                                            exact c4 f hf ((ext_fup h9).mpr ⟨fun _ _ => z, he⟩)
                                        · rcases c5 with ⟨y1, y2⟩ | ⟨f, y1, y2, y3, y4⟩
                                          · rcases n5 with ⟨z1, z2⟩ | ⟨f, z1, z2, z3, z4⟩
                                            · exact Or.inl ⟨by omega, fun q hq => by rw [dz_up_ne (by omega), y2 q hq, dz_up_ne (by omega), z2 q hq]⟩
                                            · exact Or.inr ⟨f, z1, z2, by omega, fun q hq => by rw [dz_up_ne (by omega), y2 q hq, dz_up_ne (by omega), z4 q hq]⟩
                                          · have he := ((ext_fup h9).mp y2).2
                                            exact Or.inr ⟨f, y1, he, by rw [hsame f he]; exact y3, fun q hq => by rw [dz_up_ne (by omega)]; exact y4 q hq⟩)
                                     | (refine ih2 (dd + 1) N bwc brc _ (by omega) n1 n2 n3 (fun f hf he hwd => ?_) n5
                                        by_cases e : wa (f x.1) t1 pl < dd
                                        · exact n4 f hf he e
                                        · have z := wa_at (t := t1) (p := f x.1) (pl := pl) (by omega) (hf.1 x.1 (by omega))
                                          rw [show wa (f x.1) t1 pl = (dd : Int) by omega] at z
                                          have z2 := ext_free (i := x.1) (by omega) h9 hf he
                                          rw [z] at z2
                                          exact absurd y2 ((hfr.mp z2) y0 y1)))))
              refine xr_aloadn hc rfl rfl ?_
              refine xr_getfr hc rfl rfl (by first | assumption | rfl) (by first | assumption | rfl) ?_
              refine xr_getfr hc rfl rfl (by first | assumption | rfl) (by first | assumption | rfl) ?_
              refine xr_iload hc rfl rfl ?_
              first | refine xr_iaload hc rfl (by first | assumption | rfl) (by first | omega | (unfold dz_w; omega)) (by first | omega | (unfold dz_w; omega)) ?_ | refine xr_ialoado hc rfl (by first | omega | (unfold dz_w; omega)) (by first | omega | (unfold dz_w; omega)) ?_
              rw [Int.toNat_natCast, x1]
              refine xr_istore8 hc rfl rfl ?_
              refine xr_iconst hc rfl ?_
              refine xr_istore9 hc rfl rfl ?_
              exact lpB pl.toNat 0 M bw br _ (by omega) (fun _ _ _ _ _ => rfl) hbst (Int.le_refl _) (fun f hf he hwd => by have z := wa_in (p := f x.1) (b := t1) (pl := pl) (by omega); omega) (Or.inl ⟨rfl, fun _ _ => rfl⟩)
            · exfalso
              omega
          · refine xr_return hc rfl rfl (Nat.zero_le _) (Nat.zero_le _) ?_
            first
              | (exfalso; omega)
              | (refine hQ M bw br (fun _ _ _ _ _ => rfl) hbst (Int.le_refl _) (fun f hf he => ?_) (Or.inl ⟨rfl, fun _ _ => rfl⟩)
                 rw [hsame f he]
                 have z := hrk f (x :: l1) t1 u1 hf
                 have z2 := hbr u1 (by omega) (by omega) (by omega)
                 omega)
    have lpA : ∀ (l1 : List (Nat × Int)) (k1 : Nat) (t1 u1 : Int) (e8 : Option dz_V), (∀ i x, l1[i]? = some x → M 51 (k1 + i) = (x.1 : Int) ∧ M 52 (k1 + i) = x.2) → (∀ x, x ∈ l1 → (x.1 : Int) < w ∧ 0 ≤ x.2 ∧ x.2 ≤ 11) → M 50 3 = ((k1 + l1.length : Nat) : Int) → k1 + l1.length ≤ 80 → 0 ≤ t1 → t1 + 20 * l1.length ≤ 990000 → 0 ≤ u1 → u1 + 9 * l1.length ≤ 9999 → (∀ f, ext w.toNat (M 55) f → rnk pl w.toNat f l t u = rnk pl w.toNat f l1 t1 u1) → dz_X (dz_E dz_pp xo (d + U + 4)) dz_pp xo (dz_pp 32) Q 9 [some (dz_r 54), some (dz_i (k : Int)), some (dz_i t), some (dz_i u), some (dz_i dp), some (dz_i (k1 : Int)), some (dz_i t1), some (dz_i u1), e8, none, none] [] 0 0 (sh, rf, M) := by
      intro l1
      induction l1 with
      | nil =>
        intro k1 t1 u1 e8 g1 g2 g3 g4 g5 g6 g7 g8 hsame
        have g3b : M 50 3 = (k1 : Int) := g3
        refine xr_iload hc rfl rfl ?_
        refine xr_aloadn hc rfl rfl ?_
        refine xr_getfr hc rfl rfl (by first | assumption | rfl) (by first | assumption | rfl) ?_
        refine xr_getfi hc rfl (Or.inl rfl) (by first | assumption | rfl) ?_
        rw [g3b]
        refine xr_icmp_ge hc rfl (t := 100) rfl (fun b18 => ?_) (fun b18 => ?_)
        · exact t100 [] k1 t1 u1 e8 g1 g2 g3 g4 g5 g6 g7 g8 hsame (fun x l2 h => by simp at h)
        · exfalso
          omega
      | cons x l1 ihA =>
        intro k1 t1 u1 e8 g1 g2 g3 g4 g5 g6 g7 g8 hsame
        have g3b : M 50 3 = (k1 : Int) + (l1.length + 1) := by rw [g3, List.length_cons]; omega
        have g4b := g4
        have g6b := g6
        have g8b := g8
        rw [List.length_cons] at g4b g6b g8b
        obtain ⟨x1, x2⟩ := g1 0 x rfl
        rw [Nat.add_zero] at x1 x2
        obtain ⟨y1, y2, y3⟩ := g2 x (List.mem_cons_self ..)
        have hwa := wa_in (p := M 55 x.1) (b := t1) (pl := pl) (by omega)
        have hspx := hsp x.1 y1
        refine xr_iload hc rfl rfl ?_
        refine xr_aloadn hc rfl rfl ?_
        refine xr_getfr hc rfl rfl (by first | assumption | rfl) (by first | assumption | rfl) ?_
        refine xr_getfi hc rfl (Or.inl rfl) (by first | assumption | rfl) ?_
        rw [g3b]
        refine xr_icmp_ge hc rfl (t := 100) rfl (fun b18 => ?_) (fun b18 => ?_)
        · first
            | (exfalso; omega)
            | (refine t100 (x :: l1) k1 t1 u1 e8 g1 g2 g3 g4 g5 g6 g7 g8 hsame (fun y l2 h => ?_)
               injection h with h1 h2
               rw [← h1]
               omega)
        · refine xr_aloadn hc rfl rfl ?_
          refine xr_getfr hc rfl rfl (by first | assumption | rfl) (by first | assumption | rfl) ?_
          refine xr_aloadn hc rfl rfl ?_
          refine xr_getfr hc rfl rfl (by first | assumption | rfl) (by first | assumption | rfl) ?_
          refine xr_getfr hc rfl rfl (by first | assumption | rfl) (by first | assumption | rfl) ?_
          refine xr_iload hc rfl rfl ?_
          first | refine xr_iaload hc rfl (by first | assumption | rfl) (by first | omega | (unfold dz_w; omega)) (by first | omega | (unfold dz_w; omega)) ?_ | refine xr_ialoado hc rfl (by first | omega | (unfold dz_w; omega)) (by first | omega | (unfold dz_w; omega)) ?_
          rw [Int.toNat_natCast, x1]
          first | refine xr_iaload hc rfl (by first | assumption | rfl) (by first | omega | (unfold dz_w; omega)) (by first | omega | (unfold dz_w; omega)) ?_ | refine xr_ialoado hc rfl (by first | omega | (unfold dz_w; omega)) (by first | omega | (unfold dz_w; omega)) ?_
          rw [Int.toNat_natCast]
          refine xr_bipush hc rfl ?_
          refine xr_icmp_eq hc rfl (t := 100) rfl (fun b38 => ?_) (fun b38 => ?_)
          · first
              | (exfalso; omega)
              | (refine t100 (x :: l1) k1 t1 u1 e8 g1 g2 g3 g4 g5 g6 g7 g8 hsame (fun y l2 h => ?_)
                 injection h with h1 h2
                 rw [← h1]
                 omega)
          · refine xr_aloadn hc rfl rfl ?_
            refine xr_getfr hc rfl rfl (by first | assumption | rfl) (by first | assumption | rfl) ?_
            refine xr_aloadn hc rfl rfl ?_
            refine xr_getfr hc rfl rfl (by first | assumption | rfl) (by first | assumption | rfl) ?_
            refine xr_getfr hc rfl rfl (by first | assumption | rfl) (by first | assumption | rfl) ?_
            refine xr_iload hc rfl rfl ?_
            first | refine xr_iaload hc rfl (by first | assumption | rfl) (by first | omega | (unfold dz_w; omega)) (by first | omega | (unfold dz_w; omega)) ?_ | refine xr_ialoado hc rfl (by first | omega | (unfold dz_w; omega)) (by first | omega | (unfold dz_w; omega)) ?_
            rw [Int.toNat_natCast, x1]
            first | refine xr_iaload hc rfl (by first | assumption | rfl) (by first | omega | (unfold dz_w; omega)) (by first | omega | (unfold dz_w; omega)) ?_ | refine xr_ialoado hc rfl (by first | omega | (unfold dz_w; omega)) (by first | omega | (unfold dz_w; omega)) ?_
            rw [Int.toNat_natCast]
            refine xr_iload hc rfl rfl ?_
            refine xr_aloadn hc rfl rfl ?_
            refine xr_getfi hc rfl (Or.inl rfl) (by first | assumption | rfl) ?_
            rw [h6]
            refine xr_calls3 hc rfl (by decide) rfl rfl rfl (Nat.le_of_ble_eq_true rfl) (Nat.zero_le _) (Nat.zero_le _) ?_
            refine S_waitFor (by omega) (by omega) (by omega) ?_
            refine xk_1 ?_
            refine xr_istore8 hc rfl rfl ?_
            refine xr_iload hc rfl rfl ?_
            refine xr_iload hc rfl rfl ?_
            refine xr_iaddz hc rfl (by first | exact dz_wid (by first | omega | (unfold dz_w; omega)) (by first | omega | (unfold dz_w; omega)) | rfl) ?_
            refine xr_istore7 hc rfl rfl ?_
            refine xr_iload hc rfl rfl ?_
            refine xr_iload hc rfl rfl ?_
            refine xr_iconst hc rfl ?_
            refine xr_iaddz hc rfl (by first | exact dz_wid (by first | omega | (unfold dz_w; omega)) (by first | omega | (unfold dz_w; omega)) | rfl) ?_
            refine xr_aloadn hc rfl rfl ?_
            refine xr_getfr hc rfl rfl (by first | assumption | rfl) (by first | assumption | rfl) ?_
            refine xr_getfr hc rfl rfl (by first | assumption | rfl) (by first | assumption | rfl) ?_
            refine xr_iload hc rfl rfl ?_
            first | refine xr_iaload hc rfl (by first | assumption | rfl) (by first | omega | (unfold dz_w; omega)) (by first | omega | (unfold dz_w; omega)) ?_ | refine xr_ialoado hc rfl (by first | omega | (unfold dz_w; omega)) (by first | omega | (unfold dz_w; omega)) ?_
            rw [Int.toNat_natCast, x2]
            refine xr_iaddz hc rfl (by first | exact dz_wid (by first | omega | (unfold dz_w; omega)) (by first | omega | (unfold dz_w; omega)) | rfl) ?_
            refine xr_iaddz hc rfl (by first | exact dz_wid (by first | omega | (unfold dz_w; omega)) (by first | omega | (unfold dz_w; omega)) | rfl) ?_
            refine xr_istore6 hc rfl rfl ?_
            refine xr_iincz5 hc rfl rfl (by first | exact dz_wid (by first | omega | (unfold dz_w; omega)) (by first | omega | (unfold dz_w; omega)) | rfl) ?_
            refine xr_goto hc rfl (t := 9) rfl ?_
            rw [show t1 + (wa (M 55 x.1) t1 pl + 1 + x.2) = t1 + wa (M 55 x.1) t1 pl + 1 + x.2 by omega]
            refine ihA (k1 + 1) _ _ _ (fun i y hy => by rw [show k1 + 1 + i = k1 + (i + 1) by omega]; exact g1 (i + 1) y (by simpa using hy)) (fun y hy => g2 y (List.mem_cons_of_mem _ hy)) (by rw [g3b]; omega) (by omega) (by omega) (by omega) (by omega) (by omega) (fun f he => ?_)
            rw [hsame f he]
            have ef : f x.1 = M 55 x.1 := he x.1 (by omega) (by omega)
            unfold rnk
            show (u1 + (wa (f x.1) t1 pl + t_w pl f l1 (t1 + wa (f x.1) t1 pl + 1 + x.2))) * 1000000 + _ = _
            rw [ef, show u1 + (wa (M 55 x.1) t1 pl + t_w pl f l1 (t1 + wa (M 55 x.1) t1 pl + 1 + x.2)) = u1 + wa (M 55 x.1) t1 pl + t_w pl f l1 (t1 + wa (M 55 x.1) t1 pl + 1 + x.2) by omega]
    refine xr_iloadn hc rfl rfl ?_
    refine xr_istore5 hc rfl rfl ?_
    refine xr_iloadn hc rfl rfl ?_
    refine xr_istore6 hc rfl rfl ?_
    refine xr_iloadn hc rfl rfl ?_
    refine xr_istore7 hc rfl rfl ?_
    exact lpA l k t u none f1 f2 f3 f4 f5 f6 f7 f8 (fun _ _ => rfl)
