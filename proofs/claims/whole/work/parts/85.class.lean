/-! The constructor of the class. Written by l2_85.py. -/
section XN
variable {cal : dz_C} {xo : Nat → List Int} {P : dz_P} {Q : dz_Q} {pc : Nat} {L : dz_L} {st : List dz_V} {c s : Nat} {sh : List (Nat ⊕ (Nat × Nat))} {rf : Nat → Nat → Nat} {M : Nat → Nat → Int} {v : Int} {a b w : Nat}
theorem xr_mnaz {n0 m0 : Nat} {x y : Int} {q l m : Nat} (hc : dz_cm cal cal) (hf : dz_fetch P.1 pc = (.multianewarray n0 m0, v, a, b, w)) (hl : x.toNat = l) (hm : y.toNat = m) (h0 : 0 ≤ x) (h6 : x ≤ 60000) (h0y : 0 ≤ y) (h6y : y ≤ 60000) (hn : sh.length = q) (h1 : ∀ q2 j, q ≤ q2 → rf q2 j = 0) (h2 : ∀ q2 j, q ≤ q2 → M q2 j = 0) (hcl : c + (1 + l) ≤ P.2.2.1) (hsl : s + (l + l * m) ≤ P.2.2.2.1) (h : ∀ rf2 : Nat → Nat → Nat, (∀ q2 k2, q2 ≠ q → rf2 q2 k2 = rf q2 k2) → (∀ k2, k2 < l → rf2 q k2 = q + 1 + k2 + 1) → dz_X cal dz_pp xo P Q (pc + 4) L (.inr (.inr (.inl q)) :: st) (c + 1 + l) (s + l + l * m) (sh ++ (.inr (a, l) :: List.replicate l (.inr (b, m))), rf2, M)) : dz_X cal dz_pp xo P Q pc L (.inl y :: .inl x :: st) c s (sh, rf, M) := dz_op_of hc hf (by
  subst hl hm hn
  refine ⟨h0, h6, h0y, h6y, hcl, hsl, ?_⟩
  have hM : (fun q2 k2 => if sh.length ≤ q2 then 0 else M q2 k2) = M := by
    funext q2 k2
    by_cases e : sh.length ≤ q2
    · rw [if_pos e, h2 _ _ e]
    · rw [if_neg e]
  have hh := h (fun q2 k2 => if sh.length ≤ q2 then (if q2 = sh.length ∧ k2 < x.toNat then sh.length + 1 + k2 + 1 else 0) else rf q2 k2) (fun q2 k2 u => by
    by_cases e : sh.length ≤ q2
    · show (if sh.length ≤ q2 then (if q2 = sh.length ∧ k2 < x.toNat then sh.length + 1 + k2 + 1 else 0) else rf q2 k2) = _
      rw [if_pos e, if_neg (fun z => u z.1), h1 _ _ e]
    · show (if sh.length ≤ q2 then (if q2 = sh.length ∧ k2 < x.toNat then sh.length + 1 + k2 + 1 else 0) else rf q2 k2) = _
      rw [if_neg e]) (fun k2 u => by
    show (if sh.length ≤ sh.length then (if sh.length = sh.length ∧ k2 < x.toNat then sh.length + 1 + k2 + 1 else 0) else rf sh.length k2) = _
    rw [if_pos (Nat.le_refl _), if_pos ⟨rfl, u⟩])
  unfold dz_mna
  rw [← hM] at hh
  exact hh)
theorem xr_aastore {i : Int} {q r n : Nat} (hc : dz_cm cal cal) (hf : dz_fetch P.1 pc = (.aastore, v, a, b, w)) (ho : sh[r]? = some (.inl 0)) (ha : sh[q]? = some (.inr (3, n))) (h0 : 0 ≤ i) (h1 : i < n) (h : dz_X cal dz_pp xo P Q (pc + 1) L st c s (sh, dz_up rf q i.toNat (r + 1), M)) : dz_X cal dz_pp xo P Q pc L (.inr (.inr (.inl r)) :: .inl i :: .inr (.inr (.inl q)) :: st) c s (sh, rf, M) := dz_op_of hc hf ⟨ho, n, ha, h0, h1, h⟩
end XN
def clk (K : Nat) (sh : List (Nat ⊕ (Nat × Nat))) (rf : Nat → Nat → Nat) : Prop := sh[0]? = some (.inl 5) ∧ rf 0 0 = 1 + 1 ∧ sh[1]? = some (.inr (4, 6)) ∧ (∀ r, r < 6 → rf 1 r = 2 + r + 1) ∧ (∀ r, r < 6 → sh[2 + r]? = some (.inr (0, 40))) ∧ rf 0 1 = 8 + 1 ∧ sh[8]? = some (.inr (0, 6)) ∧ rf 0 2 = 9 + 1 ∧ sh[9]? = some (.inr (5, 4)) ∧ (∀ t, t < 4 → rf 9 t = 10 + t + 1) ∧ (∀ t, t < 4 → sh[10 + t]? = some (.inr (2, 60))) ∧ rf 0 3 = 14 + 1 ∧ sh[14]? = some (.inr (0, 4)) ∧ rf 0 4 = 15 + 1 ∧ dr_at sh rf 15 ∧ rf 0 5 = 33 + 1 ∧ sh[33]? = some (.inr (3, 3)) ∧ (∀ j, j < K → rf 33 j = 61 + 18 * j + 1) ∧ (∀ j, j < K → dr_at sh rf (61 + 18 * j)) ∧ rf 0 6 = 34 + 1 ∧ ma_at sh rf 34 ∧ rf 0 7 = 41 + 1 ∧ sh[41]? = some (.inl 3) ∧ rf 41 0 = 42 + 1 ∧ ma_at sh rf 42 ∧ rf 0 8 = 50 + 1 ∧ tr_at sh rf 50 ∧ rf 0 9 = 54 + 1 ∧ pl_at sh rf 54 ∧ rf 54 0 = 50 + 1 ∧ rf 0 10 = 58 + 1 ∧ sh[58]? = some (.inr (0, 9)) ∧ rf 0 11 = 59 + 1 ∧ sh[59]? = some (.inr (1, 7)) ∧ rf 0 12 = 60 + 1 ∧ sh[60]? = some (.inr (0, 6)) ∧ True
def mek (K : Nat) (M : Nat → Nat → Int) : Prop := rowX M (fun _ => -1) (fun _ _ => 0) ∧ txtX M (fun _ => -1) (fun _ _ => 0) ∧ M 0 14 = 0 ∧ M 0 15 = 0 ∧ M 0 16 = 1 ∧ fndX M (fun _ => 0) ∧ drX M 15 0 0 (fun _ => 0) (fun _ => 0) (fun _ => 0) 0 (fun _ => hs0) ∧ (∀ j, j < K → M (61 + 18 * j + 8) 0 = 0) ∧ rbX M
def ivk (K : Nat) (sh : List (Nat ⊕ (Nat × Nat))) (rf : Nat → Nat → Nat) (M : Nat → Nat → Int) : Prop := sh.length = 61 + 18 * K ∧ clk K sh rf ∧ (∀ q2 k2, 61 + 18 * K ≤ q2 → rf q2 k2 = 0) ∧ (∀ q2 k2, 61 + 18 * K ≤ q2 → M q2 k2 = 0) ∧ mek K M
theorem ma_ext {sh sh2 : List (Nat ⊕ (Nat × Nat))} {rf rf2 : Nat → Nat → Nat} {q : Nat} (h : ma_at sh rf q) (hf : ∀ k2, rf2 q k2 = rf q k2) (hs : ∀ (q : Nat) (y : Nat ⊕ (Nat × Nat)), sh[q]? = some y → sh2[q]? = some y) : ma_at sh2 rf2 q := by
  obtain ⟨a1, a2, a3, a4, a5, a6, a7, a8, a9, a10, a11, a12, a13⟩ := h
  refine ⟨hs _ _ a1, ?_, hs _ _ a3, ?_, hs _ _ a5, ?_, hs _ _ a7, ?_, hs _ _ a9, ?_, hs _ _ a11, ?_, hs _ _ a13⟩ <;> rw [hf] <;> assumption
theorem dr_ext {sh sh2 : List (Nat ⊕ (Nat × Nat))} {rf rf2 : Nat → Nat → Nat} {q : Nat} (h : dr_at sh rf q) (hf : ∀ q2 k2, q ≤ q2 → q2 ≤ q + 8 → rf2 q2 k2 = rf q2 k2) (hs : ∀ (q : Nat) (y : Nat ⊕ (Nat × Nat)), sh[q]? = some y → sh2[q]? = some y) : dr_at sh2 rf2 q := by
  obtain ⟨a1, a2, a3, a4, a5, a6, a7, a8, a9, a10, a11⟩ := h
  refine ⟨hs _ _ a1, ?_, ma_ext a3 (fun k2 => hf _ _ (by omega) (by omega)) hs, ?_, ma_ext a5 (fun k2 => hf _ _ (by omega) (by omega)) hs, ?_, hs _ _ a7, ?_, hs _ _ a9, ?_, hs _ _ a11⟩ <;> rw [hf _ _ (by omega) (by omega)] <;> assumption
theorem clk_ext {K : Nat} {sh sh2 : List (Nat ⊕ (Nat × Nat))} {rf rf2 : Nat → Nat → Nat} (h : clk K sh rf) (hf : ∀ q2 k2, q2 < 61 + 18 * K → (q2 = 33 → k2 ≠ K) → rf2 q2 k2 = rf q2 k2) (h33 : rf2 33 K = 61 + 18 * K + 1) (hd : dr_at sh2 rf2 (61 + 18 * K)) (hs : ∀ (q : Nat) (y : Nat ⊕ (Nat × Nat)), sh[q]? = some y → sh2[q]? = some y) : clk (K + 1) sh2 rf2 := by
  obtain ⟨c0, c1, c2, c3, c4, c5, c6, c7, c8, c9, c10, c11, c12, c13, c14, c15, c16, c17, c18, c19, c20, c21, c22, c23, c24, c25, c26, c27, c28, c29, c30, c31, c32, c33, c34, c35, c36⟩ := h
  have f (q2 k2 : Nat) (u : q2 < 61 + 18 * K) (v : q2 ≠ 33) : rf2 q2 k2 = rf q2 k2 := hf _ _ u (fun e => absurd e v)
  refine ⟨hs _ _ c0, ?_, hs _ _ c2, fun r hr => ?_, fun r hr => hs _ _ (c4 r hr), ?_, hs _ _ c6, ?_, hs _ _ c8, fun t ht => ?_, fun t ht => hs _ _ (c10 t ht), ?_, hs _ _ c12, ?_, dr_ext c14 (fun q2 k2 u v => f _ _ (by omega) (by omega)) hs, ?_, hs _ _ c16, fun k hk => ?_, fun k hk => ?_, ?_, ma_ext c20 (fun k2 => f _ _ (by omega) (by omega)) hs, ?_, hs _ _ c22, ?_, ma_ext c24 (fun k2 => f _ _ (by omega) (by omega)) hs, ?_, ?_, ?_, ?_, ?_, ?_, hs _ _ c31, ?_, hs _ _ c33, ?_, hs _ _ c35, trivial⟩
  all_goals first
    | (rw [f _ _ (by omega) (by omega)]; assumption)
    | skip
  · rw [f _ _ (by omega) (by omega)]
    exact c3 r hr
  · rw [f _ _ (by omega) (by omega)]
    exact c9 t ht
  · by_cases e : k = K
    · rw [e]
      exact h33
    · rw [hf _ _ (by omega) (fun _ => e)]
      exact c17 k (by omega)
  · by_cases e : k = K
    · rw [e]
      exact hd
    · exact dr_ext (c18 k (by omega)) (fun q2 k2 u v => f _ _ (by omega) (by omega)) hs
  · obtain ⟨a1, a2, a3, a4, a5, a6, a7⟩ := c26
    refine ⟨hs _ _ a1, ?_, hs _ _ a3, ?_, hs _ _ a5, ?_, hs _ _ a7⟩ <;> rw [f _ _ (by omega) (by omega)] <;> assumption
  · obtain ⟨a1, a2, a3, a4, a5, a6, a7⟩ := c28
    refine ⟨hs _ _ a1, ?_, hs _ _ a3, ?_, hs _ _ a5, ?_, hs _ _ a7⟩ <;> rw [f _ _ (by omega) (by omega)] <;> assumption
theorem mek_ext {K : Nat} {M M2 : Nat → Nat → Int} (h : mek K M) (hf : ∀ q2 k2, q2 < 61 + 18 * K → M2 q2 k2 = M q2 k2) (h0 : M2 (61 + 18 * K + 8) 0 = 0) : mek (K + 1) M2 := by
  obtain ⟨hrow, htxt, htl, hup, hlo, hfn, hdr, hkp, hrb⟩ := h
  refine ⟨rowX_fr hrow (fun q2 k2 u1 u2 => hf _ _ (by omega)), txtX_fr htxt (fun q2 k2 u1 u2 => hf _ _ (by omega)), Eq.trans (hf _ _ (by omega)) htl, Eq.trans (hf _ _ (by omega)) hup, Eq.trans (hf _ _ (by omega)) hlo, fndX_fr hfn (hf _ _ (by omega)) (fun k2 => hf _ _ (by omega)), drX_fr hdr (fun q2 k2 u1 u2 => hf _ _ (by omega)), fun k hk => ?_, rbX_fr hrb (fun q2 k2 u1 => hf _ _ (by omega))⟩
  by_cases e : k = K
  · rw [e]
    exact h0
  · rw [hf _ _ (by omega)]
    exact hkp k (by omega)
set_option maxRecDepth 100000 in
set_option maxHeartbeats 4000000 in
theorem I_turn0 {xo : Nat → List Int} {d : Nat} {Q : dz_Q} {sh : List (Nat ⊕ (Nat × Nat))} {rf : Nat → Nat → Nat} {M : Nat → Nat → Int} (hI : ivk 0 sh rf M) (h : ∀ sh2 rf2 M2, ivk 1 sh2 rf2 M2 → dz_X (dz_E dz_pp xo (d + 2)) dz_pp xo (dz_pp 52) Q 171 [some (dz_r 0), some (dz_i 1)] [] 78 1302 (sh2, rf2, M2)) : dz_X (dz_E dz_pp xo (d + 2)) dz_pp xo (dz_pp 52) Q 171 [some (dz_r 0), some (dz_i 0)] [] 60 1080 (sh, rf, M) := by
  have hc := dz_E_m dz_pp xo (d + 2)
  obtain ⟨hn, hcl, hz, hZ, hme⟩ := hI
  have c0 := hcl.1
  obtain ⟨-, -, -, -, -, -, -, -, -, -, -, -, -, -, -, c15, c16, -⟩ := id hcl
  refine xr_iloadn hc rfl rfl ?_
  refine xr_iconst hc rfl ?_
  refine xr_icmp_ge hc rfl (t := 195) rfl (fun b173 => ?_) (fun b173 => ?_)
  · exact absurd b173 (by decide)
  · refine xr_aloadn hc rfl rfl ?_
    refine xr_getfr hc rfl rfl (by first | exact g_at (by first | (simp only [List.length_append, List.length_cons, List.length_nil]; omega) | assumption) | ((repeat refine g_app ?_); assumption) | assumption | rfl) (by first | exact g_at (by first | (simp only [List.length_append, List.length_cons, List.length_nil]; omega) | assumption) | ((repeat refine g_app ?_); assumption) | assumption | rfl) ?_
    refine xr_iloadn hc rfl rfl ?_
    refine xr_newz (q := 61) hc rfl (by first | (simp only [List.length_append, List.length_cons, List.length_nil]; omega) | assumption | rfl) ?_ ?_ (Nat.le_of_ble_eq_true rfl) (Nat.le_of_ble_eq_true rfl) ?_
    · intro j
      repeat (first | rw [dz_up_ne (by omega)])
      exact hz _ _ (by omega)
    · intro j
      repeat (first | rw [dz_up_ne (by omega)])
      exact hZ _ _ (by omega)
    refine xr_dup hc rfl rfl ?_
    refine xr_ctor0 hc rfl (by decide) rfl (Nat.le_of_ble_eq_true rfl) (Nat.le_of_ble_eq_true rfl) (Nat.le_of_ble_eq_true rfl) ?_
    refine I_drum (n := 62) (q := 61) (by first | (simp only [List.length_append, List.length_cons, List.length_nil]; omega) | assumption) (by omega) (fun q2 k2 u => by
      repeat (first | rw [dz_up_ne (by omega)])
      exact hz _ _ (by omega)) (fun q2 k2 u => by
      repeat (first | rw [dz_up_ne (by omega)])
      exact hZ _ _ (by omega)) (g_at (by first | (simp only [List.length_append, List.length_cons, List.length_nil]; omega) | assumption)) (fun rff Mf f1 fr0a fr1a fr2a f3 fm0a fm1a fm2a => ?_)
    have fr0 : ∀ _ : Unit, _ := fun _ => fr0a
    clear fr0a
    have fr1 : ∀ _ : Unit, _ := fun _ => fr1a
    clear fr1a
    have fr2 : ∀ _ : Unit, _ := fun _ => fr2a
    clear fr2a
    have fm0 : ∀ _ : Unit, _ := fun _ => fm0a
    clear fm0a
    have fm1 : ∀ _ : Unit, _ := fun _ => fm1a
    clear fm1a
    have fm2 : ∀ _ : Unit, _ := fun _ => fm2a
    clear fm2a
    have hz : ∀ q2 k2, 79 ≤ q2 → rff q2 k2 = 0 := fun q2 k2 u => by
      rw [f1 _ _ (by omega) (by omega) (by omega)]
      repeat (first | rw [dz_up_ne (by omega)])
      exact hz _ _ (by omega)
    have hZ : ∀ q2 k2, 79 ≤ q2 → Mf q2 k2 = 0 := fun q2 k2 u => by
      rw [f3 _ _ (by omega) (by omega) (by omega)]
      repeat (first | rw [dz_up_ne (by omega)])
      exact hZ _ _ (by omega)
    refine xk_0 ?_
    refine xr_aastore hc rfl (g_app (g_app (g_app (g_app (g_app (g_app (g_app (g_app (g_app (g_app (g_app (g_app (g_app (g_app (g_app (g_app (g_app (g_at (by first | (simp only [List.length_append, List.length_cons, List.length_nil]; omega) | assumption))))))))))))))))))) (by (repeat refine g_app ?_); exact c16) (by decide) (by decide) ?_
    rw [show Int.toNat (0 : Int) = 0 from rfl]
    refine xr_iincz1 hc rfl rfl (by first | exact dz_wid (by first | omega | (unfold dz_w; omega)) (by first | omega | (unfold dz_w; omega)) | rfl) ?_
    refine xr_goto hc rfl (t := 171) rfl ?_
    refine h _ _ _ ⟨(by first | (simp only [List.length_append, List.length_cons, List.length_nil]; omega) | assumption), clk_ext hcl (fun q2 k2 u v => ?_) ?_ ?_ (fun q y hy => by (repeat refine g_app ?_); exact hy), fun q2 k2 u => ?_, fun q2 k2 u => ?_, mek_ext hme (fun q2 k2 u => f3 _ _ (by omega) (by omega) (by omega)) ?_⟩
    · by_cases e : q2 = 33
      · rw [e, dz_up_k (v e), f1 _ _ (by omega) (by omega) (by omega)]
      · rw [dz_up_ne e, f1 _ _ (by omega) (by omega) (by omega)]
    · exact dz_up_eq _ _ _ _
    · exact ⟨g_app (g_app (g_app (g_app (g_app (g_app (g_app (g_app (g_app (g_app (g_app (g_app (g_app (g_app (g_app (g_app (g_app (g_at (by first | (simp only [List.length_append, List.length_cons, List.length_nil]; omega) | assumption)))))))))))))))))), by rw [dz_up_ne (by omega)]; exact (fr0 ()).1, ⟨g_app (g_app (g_app (g_app (g_app (g_app (g_app (g_app (g_app (g_app (g_app (g_app (g_app (g_app (g_app (g_app (g_at (by first | (simp only [List.length_append, List.length_cons, List.length_nil]; omega) | assumption))))))))))))))))), by rw [dz_up_ne (by omega)]; exact (fr1 ()).1, g_app (g_app (g_app (g_app (g_app (g_app (g_app (g_app (g_app (g_app (g_app (g_app (g_app (g_app (g_app (g_at (by first | (simp only [List.length_append, List.length_cons, List.length_nil]; omega) | assumption)))))))))))))))), by rw [dz_up_ne (by omega)]; exact (fr1 ()).2.1, g_app (g_app (g_app (g_app (g_app (g_app (g_app (g_app (g_app (g_app (g_app (g_app (g_app (g_app (g_at (by first | (simp only [List.length_append, List.length_cons, List.length_nil]; omega) | assumption))))))))))))))), by rw [dz_up_ne (by omega)]; exact (fr1 ()).2.2.1, g_app (g_app (g_app (g_app (g_app (g_app (g_app (g_app (g_app (g_app (g_app (g_app (g_app (g_at (by first | (simp only [List.length_append, List.length_cons, List.length_nil]; omega) | assumption)))))))))))))), by rw [dz_up_ne (by omega)]; exact (fr1 ()).2.2.2.1, g_app (g_app (g_app (g_app (g_app (g_app (g_app (g_app (g_app (g_app (g_app (g_app (g_at (by first | (simp only [List.length_append, List.length_cons, List.length_nil]; omega) | assumption))))))))))))), by rw [dz_up_ne (by omega)]; exact (fr1 ()).2.2.2.2.1, g_app (g_app (g_app (g_app (g_app (g_app (g_app (g_app (g_app (g_app (g_app (g_at (by first | (simp only [List.length_append, List.length_cons, List.length_nil]; omega) | assumption)))))))))))), by rw [dz_up_ne (by omega)]; exact (fr1 ()).2.2.2.2.2, g_app (g_app (g_app (g_app (g_app (g_app (g_app (g_app (g_app (g_app (g_at (by first | (simp only [List.length_append, List.length_cons, List.length_nil]; omega) | assumption)))))))))))⟩, by rw [dz_up_ne (by omega)]; exact (fr0 ()).2.1, ⟨g_app (g_app (g_app (g_app (g_app (g_app (g_app (g_app (g_app (g_at (by first | (simp only [List.length_append, List.length_cons, List.length_nil]; omega) | assumption)))))))))), by rw [dz_up_ne (by omega)]; exact (fr2 ()).1, g_app (g_app (g_app (g_app (g_app (g_app (g_app (g_app (g_at (by first | (simp only [List.length_append, List.length_cons, List.length_nil]; omega) | assumption))))))))), by rw [dz_up_ne (by omega)]; exact (fr2 ()).2.1, g_app (g_app (g_app (g_app (g_app (g_app (g_app (g_at (by first | (simp only [List.length_append, List.length_cons, List.length_nil]; omega) | assumption)))))))), by rw [dz_up_ne (by omega)]; exact (fr2 ()).2.2.1, g_app (g_app (g_app (g_app (g_app (g_app (g_at (by first | (simp only [List.length_append, List.length_cons, List.length_nil]; omega) | assumption))))))), by rw [dz_up_ne (by omega)]; exact (fr2 ()).2.2.2.1, g_app (g_app (g_app (g_app (g_app (g_at (by first | (simp only [List.length_append, List.length_cons, List.length_nil]; omega) | assumption)))))), by rw [dz_up_ne (by omega)]; exact (fr2 ()).2.2.2.2.1, g_app (g_app (g_app (g_app (g_at (by first | (simp only [List.length_append, List.length_cons, List.length_nil]; omega) | assumption))))), by rw [dz_up_ne (by omega)]; exact (fr2 ()).2.2.2.2.2, g_app (g_app (g_app (g_at (by first | (simp only [List.length_append, List.length_cons, List.length_nil]; omega) | assumption))))⟩, by rw [dz_up_ne (by omega)]; exact (fr0 ()).2.2.1, g_app (g_app (g_at (by first | (simp only [List.length_append, List.length_cons, List.length_nil]; omega) | assumption))), by rw [dz_up_ne (by omega)]; exact (fr0 ()).2.2.2.1, g_app (g_at (by first | (simp only [List.length_append, List.length_cons, List.length_nil]; omega) | assumption)), by rw [dz_up_ne (by omega)]; exact (fr0 ()).2.2.2.2, g_at (by first | (simp only [List.length_append, List.length_cons, List.length_nil]; omega) | assumption)⟩
    · rw [dz_up_ne (by omega)]
      exact hz _ _ (by omega)
    · exact hZ _ _ (by omega)
    · exact (fm2 ()).1
set_option maxRecDepth 100000 in
set_option maxHeartbeats 4000000 in
theorem I_turn1 {xo : Nat → List Int} {d : Nat} {Q : dz_Q} {sh : List (Nat ⊕ (Nat × Nat))} {rf : Nat → Nat → Nat} {M : Nat → Nat → Int} (hI : ivk 1 sh rf M) (h : ∀ sh2 rf2 M2, ivk 2 sh2 rf2 M2 → dz_X (dz_E dz_pp xo (d + 2)) dz_pp xo (dz_pp 52) Q 171 [some (dz_r 0), some (dz_i 2)] [] 96 1524 (sh2, rf2, M2)) : dz_X (dz_E dz_pp xo (d + 2)) dz_pp xo (dz_pp 52) Q 171 [some (dz_r 0), some (dz_i 1)] [] 78 1302 (sh, rf, M) := by
  have hc := dz_E_m dz_pp xo (d + 2)
  obtain ⟨hn, hcl, hz, hZ, hme⟩ := hI
  have c0 := hcl.1
  obtain ⟨-, -, -, -, -, -, -, -, -, -, -, -, -, -, -, c15, c16, -⟩ := id hcl
  refine xr_iloadn hc rfl rfl ?_
  refine xr_iconst hc rfl ?_
  refine xr_icmp_ge hc rfl (t := 195) rfl (fun b173 => ?_) (fun b173 => ?_)
  · exact absurd b173 (by decide)
  · refine xr_aloadn hc rfl rfl ?_
    refine xr_getfr hc rfl rfl (by first | exact g_at (by first | (simp only [List.length_append, List.length_cons, List.length_nil]; omega) | assumption) | ((repeat refine g_app ?_); assumption) | assumption | rfl) (by first | exact g_at (by first | (simp only [List.length_append, List.length_cons, List.length_nil]; omega) | assumption) | ((repeat refine g_app ?_); assumption) | assumption | rfl) ?_
    refine xr_iloadn hc rfl rfl ?_
    refine xr_newz (q := 79) hc rfl (by first | (simp only [List.length_append, List.length_cons, List.length_nil]; omega) | assumption | rfl) ?_ ?_ (Nat.le_of_ble_eq_true rfl) (Nat.le_of_ble_eq_true rfl) ?_
    · intro j
      repeat (first | rw [dz_up_ne (by omega)])
      exact hz _ _ (by omega)
    · intro j
      repeat (first | rw [dz_up_ne (by omega)])
      exact hZ _ _ (by omega)
    refine xr_dup hc rfl rfl ?_
    refine xr_ctor0 hc rfl (by decide) rfl (Nat.le_of_ble_eq_true rfl) (Nat.le_of_ble_eq_true rfl) (Nat.le_of_ble_eq_true rfl) ?_
    refine I_drum (n := 80) (q := 79) (by first | (simp only [List.length_append, List.length_cons, List.length_nil]; omega) | assumption) (by omega) (fun q2 k2 u => by
      repeat (first | rw [dz_up_ne (by omega)])
      exact hz _ _ (by omega)) (fun q2 k2 u => by
      repeat (first | rw [dz_up_ne (by omega)])
      exact hZ _ _ (by omega)) (g_at (by first | (simp only [List.length_append, List.length_cons, List.length_nil]; omega) | assumption)) (fun rff Mf f1 fr0a fr1a fr2a f3 fm0a fm1a fm2a => ?_)
    have fr0 : ∀ _ : Unit, _ := fun _ => fr0a
    clear fr0a
    have fr1 : ∀ _ : Unit, _ := fun _ => fr1a
    clear fr1a
    have fr2 : ∀ _ : Unit, _ := fun _ => fr2a
    clear fr2a
    have fm0 : ∀ _ : Unit, _ := fun _ => fm0a
    clear fm0a
    have fm1 : ∀ _ : Unit, _ := fun _ => fm1a
    clear fm1a
    have fm2 : ∀ _ : Unit, _ := fun _ => fm2a
    clear fm2a
    have hz : ∀ q2 k2, 97 ≤ q2 → rff q2 k2 = 0 := fun q2 k2 u => by
      rw [f1 _ _ (by omega) (by omega) (by omega)]
      repeat (first | rw [dz_up_ne (by omega)])
      exact hz _ _ (by omega)
    have hZ : ∀ q2 k2, 97 ≤ q2 → Mf q2 k2 = 0 := fun q2 k2 u => by
      rw [f3 _ _ (by omega) (by omega) (by omega)]
      repeat (first | rw [dz_up_ne (by omega)])
      exact hZ _ _ (by omega)
    refine xk_0 ?_
    refine xr_aastore hc rfl (g_app (g_app (g_app (g_app (g_app (g_app (g_app (g_app (g_app (g_app (g_app (g_app (g_app (g_app (g_app (g_app (g_app (g_at (by first | (simp only [List.length_append, List.length_cons, List.length_nil]; omega) | assumption))))))))))))))))))) (by (repeat refine g_app ?_); exact c16) (by decide) (by decide) ?_
    rw [show Int.toNat (1 : Int) = 1 from rfl]
    refine xr_iincz1 hc rfl rfl (by first | exact dz_wid (by first | omega | (unfold dz_w; omega)) (by first | omega | (unfold dz_w; omega)) | rfl) ?_
    refine xr_goto hc rfl (t := 171) rfl ?_
    refine h _ _ _ ⟨(by first | (simp only [List.length_append, List.length_cons, List.length_nil]; omega) | assumption), clk_ext hcl (fun q2 k2 u v => ?_) ?_ ?_ (fun q y hy => by (repeat refine g_app ?_); exact hy), fun q2 k2 u => ?_, fun q2 k2 u => ?_, mek_ext hme (fun q2 k2 u => f3 _ _ (by omega) (by omega) (by omega)) ?_⟩
    · by_cases e : q2 = 33
      · rw [e, dz_up_k (v e), f1 _ _ (by omega) (by omega) (by omega)]
      · rw [dz_up_ne e, f1 _ _ (by omega) (by omega) (by omega)]
    · exact dz_up_eq _ _ _ _
    · exact ⟨g_app (g_app (g_app (g_app (g_app (g_app (g_app (g_app (g_app (g_app (g_app (g_app (g_app (g_app (g_app (g_app (g_app (g_at (by first | (simp only [List.length_append, List.length_cons, List.length_nil]; omega) | assumption)))))))))))))))))), by rw [dz_up_ne (by omega)]; exact (fr0 ()).1, ⟨g_app (g_app (g_app (g_app (g_app (g_app (g_app (g_app (g_app (g_app (g_app (g_app (g_app (g_app (g_app (g_app (g_at (by first | (simp only [List.length_append, List.length_cons, List.length_nil]; omega) | assumption))))))))))))))))), by rw [dz_up_ne (by omega)]; exact (fr1 ()).1, g_app (g_app (g_app (g_app (g_app (g_app (g_app (g_app (g_app (g_app (g_app (g_app (g_app (g_app (g_app (g_at (by first | (simp only [List.length_append, List.length_cons, List.length_nil]; omega) | assumption)))))))))))))))), by rw [dz_up_ne (by omega)]; exact (fr1 ()).2.1, g_app (g_app (g_app (g_app (g_app (g_app (g_app (g_app (g_app (g_app (g_app (g_app (g_app (g_app (g_at (by first | (simp only [List.length_append, List.length_cons, List.length_nil]; omega) | assumption))))))))))))))), by rw [dz_up_ne (by omega)]; exact (fr1 ()).2.2.1, g_app (g_app (g_app (g_app (g_app (g_app (g_app (g_app (g_app (g_app (g_app (g_app (g_app (g_at (by first | (simp only [List.length_append, List.length_cons, List.length_nil]; omega) | assumption)))))))))))))), by rw [dz_up_ne (by omega)]; exact (fr1 ()).2.2.2.1, g_app (g_app (g_app (g_app (g_app (g_app (g_app (g_app (g_app (g_app (g_app (g_app (g_at (by first | (simp only [List.length_append, List.length_cons, List.length_nil]; omega) | assumption))))))))))))), by rw [dz_up_ne (by omega)]; exact (fr1 ()).2.2.2.2.1, g_app (g_app (g_app (g_app (g_app (g_app (g_app (g_app (g_app (g_app (g_app (g_at (by first | (simp only [List.length_append, List.length_cons, List.length_nil]; omega) | assumption)))))))))))), by rw [dz_up_ne (by omega)]; exact (fr1 ()).2.2.2.2.2, g_app (g_app (g_app (g_app (g_app (g_app (g_app (g_app (g_app (g_app (g_at (by first | (simp only [List.length_append, List.length_cons, List.length_nil]; omega) | assumption)))))))))))⟩, by rw [dz_up_ne (by omega)]; exact (fr0 ()).2.1, ⟨g_app (g_app (g_app (g_app (g_app (g_app (g_app (g_app (g_app (g_at (by first | (simp only [List.length_append, List.length_cons, List.length_nil]; omega) | assumption)))))))))), by rw [dz_up_ne (by omega)]; exact (fr2 ()).1, g_app (g_app (g_app (g_app (g_app (g_app (g_app (g_app (g_at (by first | (simp only [List.length_append, List.length_cons, List.length_nil]; omega) | assumption))))))))), by rw [dz_up_ne (by omega)]; exact (fr2 ()).2.1, g_app (g_app (g_app (g_app (g_app (g_app (g_app (g_at (by first | (simp only [List.length_append, List.length_cons, List.length_nil]; omega) | assumption)))))))), by rw [dz_up_ne (by omega)]; exact (fr2 ()).2.2.1, g_app (g_app (g_app (g_app (g_app (g_app (g_at (by first | (simp only [List.length_append, List.length_cons, List.length_nil]; omega) | assumption))))))), by rw [dz_up_ne (by omega)]; exact (fr2 ()).2.2.2.1, g_app (g_app (g_app (g_app (g_app (g_at (by first | (simp only [List.length_append, List.length_cons, List.length_nil]; omega) | assumption)))))), by rw [dz_up_ne (by omega)]; exact (fr2 ()).2.2.2.2.1, g_app (g_app (g_app (g_app (g_at (by first | (simp only [List.length_append, List.length_cons, List.length_nil]; omega) | assumption))))), by rw [dz_up_ne (by omega)]; exact (fr2 ()).2.2.2.2.2, g_app (g_app (g_app (g_at (by first | (simp only [List.length_append, List.length_cons, List.length_nil]; omega) | assumption))))⟩, by rw [dz_up_ne (by omega)]; exact (fr0 ()).2.2.1, g_app (g_app (g_at (by first | (simp only [List.length_append, List.length_cons, List.length_nil]; omega) | assumption))), by rw [dz_up_ne (by omega)]; exact (fr0 ()).2.2.2.1, g_app (g_at (by first | (simp only [List.length_append, List.length_cons, List.length_nil]; omega) | assumption)), by rw [dz_up_ne (by omega)]; exact (fr0 ()).2.2.2.2, g_at (by first | (simp only [List.length_append, List.length_cons, List.length_nil]; omega) | assumption)⟩
    · rw [dz_up_ne (by omega)]
      exact hz _ _ (by omega)
    · exact hZ _ _ (by omega)
    · exact (fm2 ()).1
set_option maxRecDepth 100000 in
set_option maxHeartbeats 4000000 in
theorem I_turn2 {xo : Nat → List Int} {d : Nat} {Q : dz_Q} {sh : List (Nat ⊕ (Nat × Nat))} {rf : Nat → Nat → Nat} {M : Nat → Nat → Int} (hI : ivk 2 sh rf M) (h : ∀ sh2 rf2 M2, ivk 3 sh2 rf2 M2 → dz_X (dz_E dz_pp xo (d + 2)) dz_pp xo (dz_pp 52) Q 171 [some (dz_r 0), some (dz_i 3)] [] 114 1746 (sh2, rf2, M2)) : dz_X (dz_E dz_pp xo (d + 2)) dz_pp xo (dz_pp 52) Q 171 [some (dz_r 0), some (dz_i 2)] [] 96 1524 (sh, rf, M) := by
  have hc := dz_E_m dz_pp xo (d + 2)
  obtain ⟨hn, hcl, hz, hZ, hme⟩ := hI
  have c0 := hcl.1
  obtain ⟨-, -, -, -, -, -, -, -, -, -, -, -, -, -, -, c15, c16, -⟩ := id hcl
  refine xr_iloadn hc rfl rfl ?_
  refine xr_iconst hc rfl ?_
  refine xr_icmp_ge hc rfl (t := 195) rfl (fun b173 => ?_) (fun b173 => ?_)
  · exact absurd b173 (by decide)
  · refine xr_aloadn hc rfl rfl ?_
    refine xr_getfr hc rfl rfl (by first | exact g_at (by first | (simp only [List.length_append, List.length_cons, List.length_nil]; omega) | assumption) | ((repeat refine g_app ?_); assumption) | assumption | rfl) (by first | exact g_at (by first | (simp only [List.length_append, List.length_cons, List.length_nil]; omega) | assumption) | ((repeat refine g_app ?_); assumption) | assumption | rfl) ?_
    refine xr_iloadn hc rfl rfl ?_
    refine xr_newz (q := 97) hc rfl (by first | (simp only [List.length_append, List.length_cons, List.length_nil]; omega) | assumption | rfl) ?_ ?_ (Nat.le_of_ble_eq_true rfl) (Nat.le_of_ble_eq_true rfl) ?_
    · intro j
      repeat (first | rw [dz_up_ne (by omega)])
      exact hz _ _ (by omega)
    · intro j
      repeat (first | rw [dz_up_ne (by omega)])
      exact hZ _ _ (by omega)
    refine xr_dup hc rfl rfl ?_
    refine xr_ctor0 hc rfl (by decide) rfl (Nat.le_of_ble_eq_true rfl) (Nat.le_of_ble_eq_true rfl) (Nat.le_of_ble_eq_true rfl) ?_
    refine I_drum (n := 98) (q := 97) (by first | (simp only [List.length_append, List.length_cons, List.length_nil]; omega) | assumption) (by omega) (fun q2 k2 u => by
      repeat (first | rw [dz_up_ne (by omega)])
      exact hz _ _ (by omega)) (fun q2 k2 u => by
      repeat (first | rw [dz_up_ne (by omega)])
      exact hZ _ _ (by omega)) (g_at (by first | (simp only [List.length_append, List.length_cons, List.length_nil]; omega) | assumption)) (fun rff Mf f1 fr0a fr1a fr2a f3 fm0a fm1a fm2a => ?_)
    have fr0 : ∀ _ : Unit, _ := fun _ => fr0a
    clear fr0a
    have fr1 : ∀ _ : Unit, _ := fun _ => fr1a
    clear fr1a
    have fr2 : ∀ _ : Unit, _ := fun _ => fr2a
    clear fr2a
    have fm0 : ∀ _ : Unit, _ := fun _ => fm0a
    clear fm0a
    have fm1 : ∀ _ : Unit, _ := fun _ => fm1a
    clear fm1a
    have fm2 : ∀ _ : Unit, _ := fun _ => fm2a
    clear fm2a
    have hz : ∀ q2 k2, 115 ≤ q2 → rff q2 k2 = 0 := fun q2 k2 u => by
      rw [f1 _ _ (by omega) (by omega) (by omega)]
      repeat (first | rw [dz_up_ne (by omega)])
      exact hz _ _ (by omega)
    have hZ : ∀ q2 k2, 115 ≤ q2 → Mf q2 k2 = 0 := fun q2 k2 u => by
      rw [f3 _ _ (by omega) (by omega) (by omega)]
      repeat (first | rw [dz_up_ne (by omega)])
      exact hZ _ _ (by omega)
    refine xk_0 ?_
    refine xr_aastore hc rfl (g_app (g_app (g_app (g_app (g_app (g_app (g_app (g_app (g_app (g_app (g_app (g_app (g_app (g_app (g_app (g_app (g_app (g_at (by first | (simp only [List.length_append, List.length_cons, List.length_nil]; omega) | assumption))))))))))))))))))) (by (repeat refine g_app ?_); exact c16) (by decide) (by decide) ?_
    rw [show Int.toNat (2 : Int) = 2 from rfl]
    refine xr_iincz1 hc rfl rfl (by first | exact dz_wid (by first | omega | (unfold dz_w; omega)) (by first | omega | (unfold dz_w; omega)) | rfl) ?_
    refine xr_goto hc rfl (t := 171) rfl ?_
    refine h _ _ _ ⟨(by first | (simp only [List.length_append, List.length_cons, List.length_nil]; omega) | assumption), clk_ext hcl (fun q2 k2 u v => ?_) ?_ ?_ (fun q y hy => by (repeat refine g_app ?_); exact hy), fun q2 k2 u => ?_, fun q2 k2 u => ?_, mek_ext hme (fun q2 k2 u => f3 _ _ (by omega) (by omega) (by omega)) ?_⟩
    · by_cases e : q2 = 33
      · rw [e, dz_up_k (v e), f1 _ _ (by omega) (by omega) (by omega)]
      · rw [dz_up_ne e, f1 _ _ (by omega) (by omega) (by omega)]
    · exact dz_up_eq _ _ _ _
    · exact ⟨g_app (g_app (g_app (g_app (g_app (g_app (g_app (g_app (g_app (g_app (g_app (g_app (g_app (g_app (g_app (g_app (g_app (g_at (by first | (simp only [List.length_append, List.length_cons, List.length_nil]; omega) | assumption)))))))))))))))))), by rw [dz_up_ne (by omega)]; exact (fr0 ()).1, ⟨g_app (g_app (g_app (g_app (g_app (g_app (g_app (g_app (g_app (g_app (g_app (g_app (g_app (g_app (g_app (g_app (g_at (by first | (simp only [List.length_append, List.length_cons, List.length_nil]; omega) | assumption))))))))))))))))), by rw [dz_up_ne (by omega)]; exact (fr1 ()).1, g_app (g_app (g_app (g_app (g_app (g_app (g_app (g_app (g_app (g_app (g_app (g_app (g_app (g_app (g_app (g_at (by first | (simp only [List.length_append, List.length_cons, List.length_nil]; omega) | assumption)))))))))))))))), by rw [dz_up_ne (by omega)]; exact (fr1 ()).2.1, g_app (g_app (g_app (g_app (g_app (g_app (g_app (g_app (g_app (g_app (g_app (g_app (g_app (g_app (g_at (by first | (simp only [List.length_append, List.length_cons, List.length_nil]; omega) | assumption))))))))))))))), by rw [dz_up_ne (by omega)]; exact (fr1 ()).2.2.1, g_app (g_app (g_app (g_app (g_app (g_app (g_app (g_app (g_app (g_app (g_app (g_app (g_app (g_at (by first | (simp only [List.length_append, List.length_cons, List.length_nil]; omega) | assumption)))))))))))))), by rw [dz_up_ne (by omega)]; exact (fr1 ()).2.2.2.1, g_app (g_app (g_app (g_app (g_app (g_app (g_app (g_app (g_app (g_app (g_app (g_app (g_at (by first | (simp only [List.length_append, List.length_cons, List.length_nil]; omega) | assumption))))))))))))), by rw [dz_up_ne (by omega)]; exact (fr1 ()).2.2.2.2.1, g_app (g_app (g_app (g_app (g_app (g_app (g_app (g_app (g_app (g_app (g_app (g_at (by first | (simp only [List.length_append, List.length_cons, List.length_nil]; omega) | assumption)))))))))))), by rw [dz_up_ne (by omega)]; exact (fr1 ()).2.2.2.2.2, g_app (g_app (g_app (g_app (g_app (g_app (g_app (g_app (g_app (g_app (g_at (by first | (simp only [List.length_append, List.length_cons, List.length_nil]; omega) | assumption)))))))))))⟩, by rw [dz_up_ne (by omega)]; exact (fr0 ()).2.1, ⟨g_app (g_app (g_app (g_app (g_app (g_app (g_app (g_app (g_app (g_at (by first | (simp only [List.length_append, List.length_cons, List.length_nil]; omega) | assumption)))))))))), by rw [dz_up_ne (by omega)]; exact (fr2 ()).1, g_app (g_app (g_app (g_app (g_app (g_app (g_app (g_app (g_at (by first | (simp only [List.length_append, List.length_cons, List.length_nil]; omega) | assumption))))))))), by rw [dz_up_ne (by omega)]; exact (fr2 ()).2.1, g_app (g_app (g_app (g_app (g_app (g_app (g_app (g_at (by first | (simp only [List.length_append, List.length_cons, List.length_nil]; omega) | assumption)))))))), by rw [dz_up_ne (by omega)]; exact (fr2 ()).2.2.1, g_app (g_app (g_app (g_app (g_app (g_app (g_at (by first | (simp only [List.length_append, List.length_cons, List.length_nil]; omega) | assumption))))))), by rw [dz_up_ne (by omega)]; exact (fr2 ()).2.2.2.1, g_app (g_app (g_app (g_app (g_app (g_at (by first | (simp only [List.length_append, List.length_cons, List.length_nil]; omega) | assumption)))))), by rw [dz_up_ne (by omega)]; exact (fr2 ()).2.2.2.2.1, g_app (g_app (g_app (g_app (g_at (by first | (simp only [List.length_append, List.length_cons, List.length_nil]; omega) | assumption))))), by rw [dz_up_ne (by omega)]; exact (fr2 ()).2.2.2.2.2, g_app (g_app (g_app (g_at (by first | (simp only [List.length_append, List.length_cons, List.length_nil]; omega) | assumption))))⟩, by rw [dz_up_ne (by omega)]; exact (fr0 ()).2.2.1, g_app (g_app (g_at (by first | (simp only [List.length_append, List.length_cons, List.length_nil]; omega) | assumption))), by rw [dz_up_ne (by omega)]; exact (fr0 ()).2.2.2.1, g_app (g_at (by first | (simp only [List.length_append, List.length_cons, List.length_nil]; omega) | assumption)), by rw [dz_up_ne (by omega)]; exact (fr0 ()).2.2.2.2, g_at (by first | (simp only [List.length_append, List.length_cons, List.length_nil]; omega) | assumption)⟩
    · rw [dz_up_ne (by omega)]
      exact hz _ _ (by omega)
    · exact hZ _ _ (by omega)
    · exact (fm2 ()).1
set_option maxRecDepth 100000 in
theorem I_turn3 {xo : Nat → List Int} {d : Nat} {Q : dz_Q} {sh : List (Nat ⊕ (Nat × Nat))} {rf : Nat → Nat → Nat} {M : Nat → Nat → Int} (hI : ivk 3 sh rf M) (hQ : ∀ (sh2 : List (Nat ⊕ (Nat × Nat))) (rf2 : Nat → Nat → Nat) (M2 : Nat → Nat → Int), sh2.length = 115 → cl sh2 rf2 → RX M2 (fun _ => -1) (fun _ _ => 0) (fun _ => -1) (fun _ _ => 0) 0 0 1 (fun _ => 0) 0 0 (fun _ => 0) (fun _ => 0) (fun _ => 0) 0 (fun _ => hs0) (fun _ => -1) (fun _ _ _ => 0) → (∀ q2 k2, 115 ≤ q2 → rf2 q2 k2 = 0) → (∀ q2 k2, 115 ≤ q2 → M2 q2 k2 = 0) → Q none (sh2, rf2, M2)) : dz_X (dz_E dz_pp xo (d + 2)) dz_pp xo (dz_pp 52) Q 171 [some (dz_r 0), some (dz_i 3)] [] 114 1746 (sh, rf, M) := by
  have hc := dz_E_m dz_pp xo (d + 2)
  refine xr_iloadn hc rfl rfl ?_
  refine xr_iconst hc rfl ?_
  refine xr_icmp_ge hc rfl (t := 195) rfl (fun b173 => ?_) (fun b173 => ?_)
  · refine xr_return hc rfl rfl (Nat.le_of_ble_eq_true rfl) (Nat.le_of_ble_eq_true rfl) ?_
    obtain ⟨hn, hcl, hz, hZ, hme⟩ := hI
    obtain ⟨hrow, htxt, htl, hup, hlo, hfn, hdr, hkp, hrb⟩ := hme
    exact hQ _ _ _ hn hcl ⟨hrow, htxt, htl, hup, hlo, hfn, hdr, fun k hk => Or.inl ⟨rfl, hkp k hk⟩, hrb⟩ hz hZ
  · exact absurd b173 (by decide)
set_option maxHeartbeats 40000000 in
set_option maxRecDepth 100000 in
theorem I_class {xo : Nat → List Int} {d : Nat} {Q : dz_Q} {rf : Nat → Nat → Nat} {M : Nat → Nat → Int} (hz0 : ∀ q2 k2, rf q2 k2 = 0) (hZ0 : ∀ q2 k2, M q2 k2 = 0) (hQ : ∀ (sh2 : List (Nat ⊕ (Nat × Nat))) (rf2 : Nat → Nat → Nat) (M2 : Nat → Nat → Int), sh2.length = 115 → cl sh2 rf2 → RX M2 (fun _ => -1) (fun _ _ => 0) (fun _ => -1) (fun _ _ => 0) 0 0 1 (fun _ => 0) 0 0 (fun _ => 0) (fun _ => 0) (fun _ => 0) 0 (fun _ => hs0) (fun _ => -1) (fun _ _ _ => 0) → (∀ q2 k2, 115 ≤ q2 → rf2 q2 k2 = 0) → (∀ q2 k2, 115 ≤ q2 → M2 q2 k2 = 0) → Q none (sh2, rf2, M2)) : dz_E dz_pp xo (d + 3) 52 [dz_r 0] ([.inl 5], rf, M) Q := by
  refine ⟨Nat.le_of_ble_eq_true rfl, ?_⟩
  have hc := dz_E_m dz_pp xo (d + 2)
  show dz_X (dz_E dz_pp xo (d + 2)) dz_pp xo (dz_pp 52) Q 0 [some (dz_r 0), none] [] 0 0 ([.inl 5], rf, M)
  have hz : ∀ q2 k2, 1 ≤ q2 → rf q2 k2 = 0 := fun q2 k2 u => hz0 q2 k2
  have hZ : ∀ q2 k2, 1 ≤ q2 → M q2 k2 = 0 := fun q2 k2 u => hZ0 q2 k2
  refine xr_aloadn hc rfl rfl ?_
  refine xr_obj hc rfl (Nat.le_of_ble_eq_true rfl) ?_
  refine xr_aloadn hc rfl rfl ?_
  refine xr_bipush hc rfl ?_
  refine xr_bipush hc rfl ?_
  refine xr_mnaz (l := 6) (m := 40) (q := 1) hc rfl rfl rfl (by decide) (by decide) (by decide) (by decide) (by first | rfl | (simp only [List.length_append, List.length_cons, List.length_nil]; omega) | assumption) (fun q2 k2 u => by
    repeat (first | rw [dz_up_ne (by omega)])
    exact hz _ _ (by omega)) (fun q2 k2 u => by
    repeat (first | rw [dz_up_ne (by omega)])
    exact hZ _ _ (by omega)) (Nat.le_of_ble_eq_true rfl) (Nat.le_of_ble_eq_true rfl) (fun rfa a1 a2 => ?_)
  have hz : ∀ q2 k2, 1 + 1 ≤ q2 → rfa q2 k2 = 0 := fun q2 k2 u => by
    rw [a1 _ _ (by omega)]
    repeat (first | rw [dz_up_ne (by omega)])
    exact hz _ _ (by omega)
  refine xr_putfr hc rfl rfl (by first | rfl | assumption) ?_
  refine xr_aloadn hc rfl rfl ?_
  refine xr_bipush hc rfl ?_
  refine xr_newarrayz (l := 6) (q := 8) hc rfl rfl rfl (by decide) (by decide) (by decide) (by first | (simp only [List.length_append, List.length_cons, List.length_nil]; omega) | assumption | rfl) ?_ ?_ (Nat.le_of_ble_eq_true rfl) (Nat.le_of_ble_eq_true rfl) ?_
  · intro j
    repeat (first | rw [dz_up_ne (by omega)])
    exact hz _ _ (by omega)
  · intro j
    repeat (first | rw [dz_up_ne (by omega)])
    exact hZ _ _ (by omega)
  refine xr_putfr hc rfl rfl (by first | rfl | assumption) ?_
  refine xr_aloadn hc rfl rfl ?_
  refine xr_iconst hc rfl ?_
  refine xr_bipush hc rfl ?_
  refine xr_mnaz (l := 4) (m := 60) (q := 9) hc rfl rfl rfl (by decide) (by decide) (by decide) (by decide) (by first | rfl | (simp only [List.length_append, List.length_cons, List.length_nil]; omega) | assumption) (fun q2 k2 u => by
    repeat (first | rw [dz_up_ne (by omega)])
    exact hz _ _ (by omega)) (fun q2 k2 u => by
    repeat (first | rw [dz_up_ne (by omega)])
    exact hZ _ _ (by omega)) (Nat.le_of_ble_eq_true rfl) (Nat.le_of_ble_eq_true rfl) (fun rfb b1 b2 => ?_)
  have hz : ∀ q2 k2, 9 + 1 ≤ q2 → rfb q2 k2 = 0 := fun q2 k2 u => by
    rw [b1 _ _ (by omega)]
    repeat (first | rw [dz_up_ne (by omega)])
    exact hz _ _ (by omega)
  refine xr_putfr hc rfl rfl (by first | rfl | assumption) ?_
  refine xr_aloadn hc rfl rfl ?_
  refine xr_iconst hc rfl ?_
  refine xr_newarrayz (l := 4) (q := 14) hc rfl rfl rfl (by decide) (by decide) (by decide) (by first | (simp only [List.length_append, List.length_cons, List.length_nil]; omega) | assumption | rfl) ?_ ?_ (Nat.le_of_ble_eq_true rfl) (Nat.le_of_ble_eq_true rfl) ?_
  · intro j
    repeat (first | rw [dz_up_ne (by omega)])
    exact hz _ _ (by omega)
  · intro j
    repeat (first | rw [dz_up_ne (by omega)])
    exact hZ _ _ (by omega)
  refine xr_putfr hc rfl rfl (by first | rfl | assumption) ?_
  refine xr_aloadn hc rfl rfl ?_
  refine xr_newz (q := 15) hc rfl (by first | (simp only [List.length_append, List.length_cons, List.length_nil]; omega) | assumption | rfl) ?_ ?_ (Nat.le_of_ble_eq_true rfl) (Nat.le_of_ble_eq_true rfl) ?_
  · intro j
    repeat (first | rw [dz_up_ne (by omega)])
    exact hz _ _ (by omega)
  · intro j
    repeat (first | rw [dz_up_ne (by omega)])
    exact hZ _ _ (by omega)
  refine xr_dup hc rfl rfl ?_
  refine xr_ctor0 hc rfl (by decide) rfl (Nat.le_of_ble_eq_true rfl) (Nat.le_of_ble_eq_true rfl) (Nat.le_of_ble_eq_true rfl) ?_
  refine I_drum (n := 16) (q := 15) (by first | rfl | (simp only [List.length_append, List.length_cons, List.length_nil]; omega) | assumption) (by omega) (fun q2 k2 u => by
    repeat (first | rw [dz_up_ne (by omega)])
    exact hz _ _ (by omega)) (fun q2 k2 u => by
    repeat (first | rw [dz_up_ne (by omega)])
    exact hZ _ _ (by omega)) rfl (fun rfd Md d1 dr0a dr1a dr2a d3 dm0a dm1a dm2a => ?_)
  have dr0 : ∀ _ : Unit, _ := fun _ => dr0a
  clear dr0a
  have dr1 : ∀ _ : Unit, _ := fun _ => dr1a
  clear dr1a
  have dr2 : ∀ _ : Unit, _ := fun _ => dr2a
  clear dr2a
  have dm0 : ∀ _ : Unit, _ := fun _ => dm0a
  clear dm0a
  have dm1 : ∀ _ : Unit, _ := fun _ => dm1a
  clear dm1a
  have dm2 : ∀ _ : Unit, _ := fun _ => dm2a
  clear dm2a
  have hz : ∀ q2 k2, 16 + 8 ≤ q2 → rfd q2 k2 = 0 := fun q2 k2 u => by
    rw [d1 _ _ (by omega) (by omega) (by omega)]
    repeat (first | rw [dz_up_ne (by omega)])
    exact hz _ _ (by omega)
  have hZ : ∀ q2 k2, 16 + 8 ≤ q2 → Md q2 k2 = 0 := fun q2 k2 u => by
    rw [d3 _ _ (by omega) (by omega) (by omega)]
    repeat (first | rw [dz_up_ne (by omega)])
    exact hZ _ _ (by omega)
  refine xk_0 ?_
  refine xr_putfr hc rfl rfl (by first | rfl | assumption) ?_
  refine xr_aloadn hc rfl rfl ?_
  refine xr_iconst hc rfl ?_
  refine xr_anewarrayz (l := 3) (q := 33) hc rfl rfl (by decide) (by decide) (by first | (simp only [List.length_append, List.length_cons, List.length_nil]; omega) | assumption | rfl) ?_ ?_ (Nat.le_of_ble_eq_true rfl) (Nat.le_of_ble_eq_true rfl) ?_
  · intro j
    repeat (first | rw [dz_up_ne (by omega)])
    exact hz _ _ (by omega)
  · intro j
    repeat (first | rw [dz_up_ne (by omega)])
    exact hZ _ _ (by omega)
  refine xr_putfr hc rfl rfl (by first | rfl | assumption) ?_
  refine xr_aloadn hc rfl rfl ?_
  refine xr_newz (q := 34) hc rfl (by first | (simp only [List.length_append, List.length_cons, List.length_nil]; omega) | assumption | rfl) ?_ ?_ (Nat.le_of_ble_eq_true rfl) (Nat.le_of_ble_eq_true rfl) ?_
  · intro j
    repeat (first | rw [dz_up_ne (by omega)])
    exact hz _ _ (by omega)
  · intro j
    repeat (first | rw [dz_up_ne (by omega)])
    exact hZ _ _ (by omega)
  refine xr_dup hc rfl rfl ?_
  refine xr_ctor0 hc rfl (by decide) rfl (Nat.le_of_ble_eq_true rfl) (Nat.le_of_ble_eq_true rfl) (Nat.le_of_ble_eq_true rfl) ?_
  refine I_machine (n := 35) (q := 34) (by first | rfl | (simp only [List.length_append, List.length_cons, List.length_nil]; omega) | assumption) (by omega) (fun q2 k2 u => by
    repeat (first | rw [dz_up_ne (by omega)])
    exact hz _ _ (by omega)) (fun q2 k2 u => by
    repeat (first | rw [dz_up_ne (by omega)])
    exact hZ _ _ (by omega)) rfl (fun rfm Mm m1 mr0a m3 mm0a => ?_)
  have mr0 : ∀ _ : Unit, _ := fun _ => mr0a
  clear mr0a
  have mm0 : ∀ _ : Unit, _ := fun _ => mm0a
  clear mm0a
  have hz : ∀ q2 k2, 35 + 1 ≤ q2 → rfm q2 k2 = 0 := fun q2 k2 u => by
    rw [m1 _ _ (by omega)]
    repeat (first | rw [dz_up_ne (by omega)])
    exact hz _ _ (by omega)
  have hZ : ∀ q2 k2, 35 + 1 ≤ q2 → Mm q2 k2 = 0 := fun q2 k2 u => by
    rw [m3 _ _ (by omega)]
    repeat (first | rw [dz_up_ne (by omega)])
    exact hZ _ _ (by omega)
  refine xk_0 ?_
  refine xr_putfr hc rfl rfl (by first | rfl | assumption) ?_
  refine xr_aloadn hc rfl rfl ?_
  refine xr_newz (q := 41) hc rfl (by first | (simp only [List.length_append, List.length_cons, List.length_nil]; omega) | assumption | rfl) ?_ ?_ (Nat.le_of_ble_eq_true rfl) (Nat.le_of_ble_eq_true rfl) ?_
  · intro j
    repeat (first | rw [dz_up_ne (by omega)])
    exact hz _ _ (by omega)
  · intro j
    repeat (first | rw [dz_up_ne (by omega)])
    exact hZ _ _ (by omega)
  refine xr_dup hc rfl rfl ?_
  refine xr_ctor0 hc rfl (by decide) rfl (Nat.le_of_ble_eq_true rfl) (Nat.le_of_ble_eq_true rfl) (Nat.le_of_ble_eq_true rfl) ?_
  refine I_reader (n := 42) (q := 41) (by first | rfl | (simp only [List.length_append, List.length_cons, List.length_nil]; omega) | assumption) (by omega) (fun q2 k2 u => by
    repeat (first | rw [dz_up_ne (by omega)])
    exact hz _ _ (by omega)) (fun q2 k2 u => by
    repeat (first | rw [dz_up_ne (by omega)])
    exact hZ _ _ (by omega)) rfl (fun rfe Me e1 er0a er1a e3 em0a => ?_)
  have er0 : ∀ _ : Unit, _ := fun _ => er0a
  clear er0a
  have er1 : ∀ _ : Unit, _ := fun _ => er1a
  clear er1a
  have em0 : ∀ _ : Unit, _ := fun _ => em0a
  clear em0a
  have hz : ∀ q2 k2, 42 + 1 ≤ q2 → rfe q2 k2 = 0 := fun q2 k2 u => by
    rw [e1 _ _ (by omega) (by omega)]
    repeat (first | rw [dz_up_ne (by omega)])
    exact hz _ _ (by omega)
  have hZ : ∀ q2 k2, 42 + 1 ≤ q2 → Me q2 k2 = 0 := fun q2 k2 u => by
    rw [e3 _ _ (by omega) (by omega)]
    repeat (first | rw [dz_up_ne (by omega)])
    exact hZ _ _ (by omega)
  refine xk_0 ?_
  refine xr_putfr hc rfl rfl (by first | rfl | assumption) ?_
  refine xr_aloadn hc rfl rfl ?_
  refine xr_newz (q := 50) hc rfl (by first | (simp only [List.length_append, List.length_cons, List.length_nil]; omega) | assumption | rfl) ?_ ?_ (Nat.le_of_ble_eq_true rfl) (Nat.le_of_ble_eq_true rfl) ?_
  · intro j
    repeat (first | rw [dz_up_ne (by omega)])
    exact hz _ _ (by omega)
  · intro j
    repeat (first | rw [dz_up_ne (by omega)])
    exact hZ _ _ (by omega)
  refine xr_dup hc rfl rfl ?_
  refine xr_ctor0 hc rfl (by decide) rfl (Nat.le_of_ble_eq_true rfl) (Nat.le_of_ble_eq_true rfl) (Nat.le_of_ble_eq_true rfl) ?_
  refine I_trace (n := 51) (q := 50) (by first | rfl | (simp only [List.length_append, List.length_cons, List.length_nil]; omega) | assumption) (by omega) (fun q2 k2 u => by
    repeat (first | rw [dz_up_ne (by omega)])
    exact hz _ _ (by omega)) (fun q2 k2 u => by
    repeat (first | rw [dz_up_ne (by omega)])
    exact hZ _ _ (by omega)) rfl (fun rft Mt t1 tr0a t3  => ?_)
  have tr0 : ∀ _ : Unit, _ := fun _ => tr0a
  clear tr0a
  have hz : ∀ q2 k2, 51 + 1 ≤ q2 → rft q2 k2 = 0 := fun q2 k2 u => by
    rw [t1 _ _ (by omega)]
    repeat (first | rw [dz_up_ne (by omega)])
    exact hz _ _ (by omega)
  have hZ : ∀ q2 k2, 51 + 1 ≤ q2 → Mt q2 k2 = 0 := fun q2 k2 u => by
    rw [t3 _ _ (by omega)]
    repeat (first | rw [dz_up_ne (by omega)])
    exact hZ _ _ (by omega)
  refine xk_0 ?_
  refine xr_putfr hc rfl rfl (by first | rfl | assumption) ?_
  refine xr_aloadn hc rfl rfl ?_
  refine xr_newz (q := 54) hc rfl (by first | (simp only [List.length_append, List.length_cons, List.length_nil]; omega) | assumption | rfl) ?_ ?_ (Nat.le_of_ble_eq_true rfl) (Nat.le_of_ble_eq_true rfl) ?_
  · intro j
    repeat (first | rw [dz_up_ne (by omega)])
    exact hz _ _ (by omega)
  · intro j
    repeat (first | rw [dz_up_ne (by omega)])
    exact hZ _ _ (by omega)
  refine xr_dup hc rfl rfl ?_
  refine xr_aloadn hc rfl rfl ?_
  refine xr_getfr (r := 50) hc rfl rfl rfl (by ((repeat (first | rw [dz_up_ne (by omega)] | rw [dz_up_k (by omega)] | rw [a1 _ _ (by omega)] | rw [b1 _ _ (by omega)] | rw [d1 _ _ (by omega) (by omega) (by omega)] | rw [m1 _ _ (by omega)] | rw [e1 _ _ (by omega) (by omega)] | rw [t1 _ _ (by omega)] | rw [p1 _ _ (by omega)])); rw [dz_up_eq])) ?_
  refine xr_ctor1 hc rfl (by decide) rfl (Nat.le_of_ble_eq_true rfl) (Nat.le_of_ble_eq_true rfl) (Nat.le_of_ble_eq_true rfl) ?_
  refine I_placing (n := 55) (q := 54) (r := 50) (by first | rfl | (simp only [List.length_append, List.length_cons, List.length_nil]; omega) | assumption) (by omega) (fun q2 k2 u => by
    repeat (first | rw [dz_up_ne (by omega)])
    exact hz _ _ (by omega)) (fun q2 k2 u => by
    repeat (first | rw [dz_up_ne (by omega)])
    exact hZ _ _ (by omega)) rfl (fun rfp Mp p1 pr0a p3  => ?_)
  have pr0 : ∀ _ : Unit, _ := fun _ => pr0a
  clear pr0a
  have hz : ∀ q2 k2, 55 + 1 ≤ q2 → rfp q2 k2 = 0 := fun q2 k2 u => by
    rw [p1 _ _ (by omega)]
    repeat (first | rw [dz_up_ne (by omega)])
    exact hz _ _ (by omega)
  have hZ : ∀ q2 k2, 55 + 1 ≤ q2 → Mp q2 k2 = 0 := fun q2 k2 u => by
    rw [p3 _ _ (by omega)]
    repeat (first | rw [dz_up_ne (by omega)])
    exact hZ _ _ (by omega)
  refine xk_0 ?_
  refine xr_putfr hc rfl rfl (by first | rfl | assumption) ?_
  refine xr_aloadn hc rfl rfl ?_
  refine xr_bipush hc rfl ?_
  refine xr_newarrayz (l := 9) (q := 58) hc rfl rfl rfl (by decide) (by decide) (by decide) (by first | (simp only [List.length_append, List.length_cons, List.length_nil]; omega) | assumption | rfl) ?_ ?_ (Nat.le_of_ble_eq_true rfl) (Nat.le_of_ble_eq_true rfl) ?_
  · intro j
    repeat (first | rw [dz_up_ne (by omega)])
    exact hz _ _ (by omega)
  · intro j
    repeat (first | rw [dz_up_ne (by omega)])
    exact hZ _ _ (by omega)
  refine xr_putfr hc rfl rfl (by first | rfl | assumption) ?_
  refine xr_aloadn hc rfl rfl ?_
  refine xr_bipush hc rfl ?_
  refine xr_newarrayz (l := 7) (q := 59) hc rfl rfl rfl (by decide) (by decide) (by decide) (by first | (simp only [List.length_append, List.length_cons, List.length_nil]; omega) | assumption | rfl) ?_ ?_ (Nat.le_of_ble_eq_true rfl) (Nat.le_of_ble_eq_true rfl) ?_
  · intro j
    repeat (first | rw [dz_up_ne (by omega)])
    exact hz _ _ (by omega)
  · intro j
    repeat (first | rw [dz_up_ne (by omega)])
    exact hZ _ _ (by omega)
  refine xr_putfr hc rfl rfl (by first | rfl | assumption) ?_
  refine xr_aloadn hc rfl rfl ?_
  refine xr_bipush hc rfl ?_
  refine xr_newarrayz (l := 6) (q := 60) hc rfl rfl rfl (by decide) (by decide) (by decide) (by first | (simp only [List.length_append, List.length_cons, List.length_nil]; omega) | assumption | rfl) ?_ ?_ (Nat.le_of_ble_eq_true rfl) (Nat.le_of_ble_eq_true rfl) ?_
  · intro j
    repeat (first | rw [dz_up_ne (by omega)])
    exact hz _ _ (by omega)
  · intro j
    repeat (first | rw [dz_up_ne (by omega)])
    exact hZ _ _ (by omega)
  refine xr_putfr hc rfl rfl (by first | rfl | assumption) ?_
  refine xr_aloadn hc rfl rfl ?_
  refine xr_iconst hc rfl ?_
  refine xr_putfi hc rfl rfl (by first | rfl | assumption) ?_
  refine xr_aloadn hc rfl rfl ?_
  refine xr_iconst hc rfl ?_
  refine xr_putfi hc rfl rfl (by first | rfl | assumption) ?_
  refine xr_aloadn hc rfl rfl ?_
  refine xr_lconst hc rfl ?_
  refine xr_putfl hc rfl rfl (by first | rfl | assumption) ?_
  refine xr_aloadn hc rfl rfl ?_
  refine xr_lconst hc rfl ?_
  refine xr_putfl hc rfl rfl (by first | rfl | assumption) ?_
  refine xr_aloadn hc rfl rfl ?_
  refine xr_getfr (r := 8) hc rfl rfl rfl (by ((repeat (first | rw [dz_up_ne (by omega)] | rw [dz_up_k (by omega)] | rw [a1 _ _ (by omega)] | rw [b1 _ _ (by omega)] | rw [d1 _ _ (by omega) (by omega) (by omega)] | rw [m1 _ _ (by omega)] | rw [e1 _ _ (by omega) (by omega)] | rw [t1 _ _ (by omega)] | rw [p1 _ _ (by omega)])); rw [dz_up_eq])) ?_
  refine xr_iconst hc rfl ?_
  refine xr_calls2 hc rfl (by decide) rfl rfl rfl (Nat.le_of_ble_eq_true rfl) (Nat.le_of_ble_eq_true rfl) (Nat.le_of_ble_eq_true rfl) ?_
  refine S_fillI (len := 6) rfl (by decide) (fun Mx x1 x2 => ?_)
  refine xk_0 ?_
  refine xr_aloadn hc rfl rfl ?_
  refine xr_getfr (r := 14) hc rfl rfl rfl (by ((repeat (first | rw [dz_up_ne (by omega)] | rw [dz_up_k (by omega)] | rw [a1 _ _ (by omega)] | rw [b1 _ _ (by omega)] | rw [d1 _ _ (by omega) (by omega) (by omega)] | rw [m1 _ _ (by omega)] | rw [e1 _ _ (by omega) (by omega)] | rw [t1 _ _ (by omega)] | rw [p1 _ _ (by omega)])); rw [dz_up_eq])) ?_
  refine xr_iconst hc rfl ?_
  refine xr_calls2 hc rfl (by decide) rfl rfl rfl (Nat.le_of_ble_eq_true rfl) (Nat.le_of_ble_eq_true rfl) (Nat.le_of_ble_eq_true rfl) ?_
  refine S_fillI (len := 4) rfl (by decide) (fun My y1 y2 => ?_)
  refine xk_0 ?_
  refine xr_iconst hc rfl ?_
  refine xr_istore1 hc rfl rfl ?_
  refine I_turn0 ⟨rfl, ⟨?_, ?_, ?_, ?_, ?_, ?_, ?_, ?_, ?_, ?_, ?_, ?_, ?_, ?_, ?_, ?_, ?_, ?_, ?_, ?_, ?_, ?_, ?_, ?_, ?_, ?_, ?_, ?_, ?_, ?_, ?_, ?_, ?_, ?_, ?_, ?_, ?_⟩, fun q2 k2 u => ?_, fun q2 k2 u => ?_, ⟨?_, ?_, ?_, ?_, ?_, ?_, ?_, ?_, ?_⟩⟩ (fun sh2 rf2 M2 h2 => I_turn1 h2 (fun sh3 rf3 M3 h3 => I_turn2 h3 (fun sh4 rf4 M4 h4 => I_turn3 h4 hQ)))
  · exact rfl
  · exact by ((repeat (first | rw [dz_up_ne (by omega)] | rw [dz_up_k (by omega)] | rw [a1 _ _ (by omega)] | rw [b1 _ _ (by omega)] | rw [d1 _ _ (by omega) (by omega) (by omega)] | rw [m1 _ _ (by omega)] | rw [e1 _ _ (by omega) (by omega)] | rw [t1 _ _ (by omega)] | rw [p1 _ _ (by omega)])); rw [dz_up_eq])
  · exact rfl
  · exact (fun r hr => by
      repeat (first | rw [dz_up_ne (by omega)] | rw [dz_up_k (by omega)] | rw [a1 _ _ (by omega)] | rw [b1 _ _ (by omega)] | rw [d1 _ _ (by omega) (by omega) (by omega)] | rw [m1 _ _ (by omega)] | rw [e1 _ _ (by omega) (by omega)] | rw [t1 _ _ (by omega)] | rw [p1 _ _ (by omega)])
      exact (a2 r hr).trans (by omega))
  · exact (fun r hr => by
      rcases (show r = 0 ∨ r = 1 ∨ r = 2 ∨ r = 3 ∨ r = 4 ∨ r = 5 by omega) with e | e | e | e | e | e <;> subst e <;> rfl)
  · exact by ((repeat (first | rw [dz_up_ne (by omega)] | rw [dz_up_k (by omega)] | rw [a1 _ _ (by omega)] | rw [b1 _ _ (by omega)] | rw [d1 _ _ (by omega) (by omega) (by omega)] | rw [m1 _ _ (by omega)] | rw [e1 _ _ (by omega) (by omega)] | rw [t1 _ _ (by omega)] | rw [p1 _ _ (by omega)])); rw [dz_up_eq])
  · exact rfl
  · exact by ((repeat (first | rw [dz_up_ne (by omega)] | rw [dz_up_k (by omega)] | rw [a1 _ _ (by omega)] | rw [b1 _ _ (by omega)] | rw [d1 _ _ (by omega) (by omega) (by omega)] | rw [m1 _ _ (by omega)] | rw [e1 _ _ (by omega) (by omega)] | rw [t1 _ _ (by omega)] | rw [p1 _ _ (by omega)])); rw [dz_up_eq])
  · exact rfl
  · exact (fun t ht => by
      repeat (first | rw [dz_up_ne (by omega)] | rw [dz_up_k (by omega)] | rw [a1 _ _ (by omega)] | rw [b1 _ _ (by omega)] | rw [d1 _ _ (by omega) (by omega) (by omega)] | rw [m1 _ _ (by omega)] | rw [e1 _ _ (by omega) (by omega)] | rw [t1 _ _ (by omega)] | rw [p1 _ _ (by omega)])
      exact (b2 t ht).trans (by omega))
  · exact (fun t ht => by
      rcases (show t = 0 ∨ t = 1 ∨ t = 2 ∨ t = 3 by omega) with e | e | e | e <;> subst e <;> rfl)
  · exact by ((repeat (first | rw [dz_up_ne (by omega)] | rw [dz_up_k (by omega)] | rw [a1 _ _ (by omega)] | rw [b1 _ _ (by omega)] | rw [d1 _ _ (by omega) (by omega) (by omega)] | rw [m1 _ _ (by omega)] | rw [e1 _ _ (by omega) (by omega)] | rw [t1 _ _ (by omega)] | rw [p1 _ _ (by omega)])); rw [dz_up_eq])
  · exact rfl
  · exact by ((repeat (first | rw [dz_up_ne (by omega)] | rw [dz_up_k (by omega)] | rw [a1 _ _ (by omega)] | rw [b1 _ _ (by omega)] | rw [d1 _ _ (by omega) (by omega) (by omega)] | rw [m1 _ _ (by omega)] | rw [e1 _ _ (by omega) (by omega)] | rw [t1 _ _ (by omega)] | rw [p1 _ _ (by omega)])); rw [dz_up_eq])
  · exact ⟨rfl, by ((repeat (first | rw [dz_up_ne (by omega)] | rw [dz_up_k (by omega)] | rw [a1 _ _ (by omega)] | rw [b1 _ _ (by omega)] | rw [d1 _ _ (by omega) (by omega) (by omega)] | rw [m1 _ _ (by omega)] | rw [e1 _ _ (by omega) (by omega)] | rw [t1 _ _ (by omega)] | rw [p1 _ _ (by omega)])); exact (dr0 ()).1), ⟨rfl, by ((repeat (first | rw [dz_up_ne (by omega)] | rw [dz_up_k (by omega)] | rw [a1 _ _ (by omega)] | rw [b1 _ _ (by omega)] | rw [d1 _ _ (by omega) (by omega) (by omega)] | rw [m1 _ _ (by omega)] | rw [e1 _ _ (by omega) (by omega)] | rw [t1 _ _ (by omega)] | rw [p1 _ _ (by omega)])); exact (dr1 ()).1), rfl, by ((repeat (first | rw [dz_up_ne (by omega)] | rw [dz_up_k (by omega)] | rw [a1 _ _ (by omega)] | rw [b1 _ _ (by omega)] | rw [d1 _ _ (by omega) (by omega) (by omega)] | rw [m1 _ _ (by omega)] | rw [e1 _ _ (by omega) (by omega)] | rw [t1 _ _ (by omega)] | rw [p1 _ _ (by omega)])); exact (dr1 ()).2.1), rfl, by ((repeat (first | rw [dz_up_ne (by omega)] | rw [dz_up_k (by omega)] | rw [a1 _ _ (by omega)] | rw [b1 _ _ (by omega)] | rw [d1 _ _ (by omega) (by omega) (by omega)] | rw [m1 _ _ (by omega)] | rw [e1 _ _ (by omega) (by omega)] | rw [t1 _ _ (by omega)] | rw [p1 _ _ (by omega)])); exact (dr1 ()).2.2.1), rfl, by ((repeat (first | rw [dz_up_ne (by omega)] | rw [dz_up_k (by omega)] | rw [a1 _ _ (by omega)] | rw [b1 _ _ (by omega)] | rw [d1 _ _ (by omega) (by omega) (by omega)] | rw [m1 _ _ (by omega)] | rw [e1 _ _ (by omega) (by omega)] | rw [t1 _ _ (by omega)] | rw [p1 _ _ (by omega)])); exact (dr1 ()).2.2.2.1), rfl, by ((repeat (first | rw [dz_up_ne (by omega)] | rw [dz_up_k (by omega)] | rw [a1 _ _ (by omega)] | rw [b1 _ _ (by omega)] | rw [d1 _ _ (by omega) (by omega) (by omega)] | rw [m1 _ _ (by omega)] | rw [e1 _ _ (by omega) (by omega)] | rw [t1 _ _ (by omega)] | rw [p1 _ _ (by omega)])); exact (dr1 ()).2.2.2.2.1), rfl, by ((repeat (first | rw [dz_up_ne (by omega)] | rw [dz_up_k (by omega)] | rw [a1 _ _ (by omega)] | rw [b1 _ _ (by omega)] | rw [d1 _ _ (by omega) (by omega) (by omega)] | rw [m1 _ _ (by omega)] | rw [e1 _ _ (by omega) (by omega)] | rw [t1 _ _ (by omega)] | rw [p1 _ _ (by omega)])); exact (dr1 ()).2.2.2.2.2), rfl⟩, by ((repeat (first | rw [dz_up_ne (by omega)] | rw [dz_up_k (by omega)] | rw [a1 _ _ (by omega)] | rw [b1 _ _ (by omega)] | rw [d1 _ _ (by omega) (by omega) (by omega)] | rw [m1 _ _ (by omega)] | rw [e1 _ _ (by omega) (by omega)] | rw [t1 _ _ (by omega)] | rw [p1 _ _ (by omega)])); exact (dr0 ()).2.1), ⟨rfl, by ((repeat (first | rw [dz_up_ne (by omega)] | rw [dz_up_k (by omega)] | rw [a1 _ _ (by omega)] | rw [b1 _ _ (by omega)] | rw [d1 _ _ (by omega) (by omega) (by omega)] | rw [m1 _ _ (by omega)] | rw [e1 _ _ (by omega) (by omega)] | rw [t1 _ _ (by omega)] | rw [p1 _ _ (by omega)])); exact (dr2 ()).1), rfl, by ((repeat (first | rw [dz_up_ne (by omega)] | rw [dz_up_k (by omega)] | rw [a1 _ _ (by omega)] | rw [b1 _ _ (by omega)] | rw [d1 _ _ (by omega) (by omega) (by omega)] | rw [m1 _ _ (by omega)] | rw [e1 _ _ (by omega) (by omega)] | rw [t1 _ _ (by omega)] | rw [p1 _ _ (by omega)])); exact (dr2 ()).2.1), rfl, by ((repeat (first | rw [dz_up_ne (by omega)] | rw [dz_up_k (by omega)] | rw [a1 _ _ (by omega)] | rw [b1 _ _ (by omega)] | rw [d1 _ _ (by omega) (by omega) (by omega)] | rw [m1 _ _ (by omega)] | rw [e1 _ _ (by omega) (by omega)] | rw [t1 _ _ (by omega)] | rw [p1 _ _ (by omega)])); exact (dr2 ()).2.2.1), rfl, by ((repeat (first | rw [dz_up_ne (by omega)] | rw [dz_up_k (by omega)] | rw [a1 _ _ (by omega)] | rw [b1 _ _ (by omega)] | rw [d1 _ _ (by omega) (by omega) (by omega)] | rw [m1 _ _ (by omega)] | rw [e1 _ _ (by omega) (by omega)] | rw [t1 _ _ (by omega)] | rw [p1 _ _ (by omega)])); exact (dr2 ()).2.2.2.1), rfl, by ((repeat (first | rw [dz_up_ne (by omega)] | rw [dz_up_k (by omega)] | rw [a1 _ _ (by omega)] | rw [b1 _ _ (by omega)] | rw [d1 _ _ (by omega) (by omega) (by omega)] | rw [m1 _ _ (by omega)] | rw [e1 _ _ (by omega) (by omega)] | rw [t1 _ _ (by omega)] | rw [p1 _ _ (by omega)])); exact (dr2 ()).2.2.2.2.1), rfl, by ((repeat (first | rw [dz_up_ne (by omega)] | rw [dz_up_k (by omega)] | rw [a1 _ _ (by omega)] | rw [b1 _ _ (by omega)] | rw [d1 _ _ (by omega) (by omega) (by omega)] | rw [m1 _ _ (by omega)] | rw [e1 _ _ (by omega) (by omega)] | rw [t1 _ _ (by omega)] | rw [p1 _ _ (by omega)])); exact (dr2 ()).2.2.2.2.2), rfl⟩, by ((repeat (first | rw [dz_up_ne (by omega)] | rw [dz_up_k (by omega)] | rw [a1 _ _ (by omega)] | rw [b1 _ _ (by omega)] | rw [d1 _ _ (by omega) (by omega) (by omega)] | rw [m1 _ _ (by omega)] | rw [e1 _ _ (by omega) (by omega)] | rw [t1 _ _ (by omega)] | rw [p1 _ _ (by omega)])); exact (dr0 ()).2.2.1), rfl, by ((repeat (first | rw [dz_up_ne (by omega)] | rw [dz_up_k (by omega)] | rw [a1 _ _ (by omega)] | rw [b1 _ _ (by omega)] | rw [d1 _ _ (by omega) (by omega) (by omega)] | rw [m1 _ _ (by omega)] | rw [e1 _ _ (by omega) (by omega)] | rw [t1 _ _ (by omega)] | rw [p1 _ _ (by omega)])); exact (dr0 ()).2.2.2.1), rfl, by ((repeat (first | rw [dz_up_ne (by omega)] | rw [dz_up_k (by omega)] | rw [a1 _ _ (by omega)] | rw [b1 _ _ (by omega)] | rw [d1 _ _ (by omega) (by omega) (by omega)] | rw [m1 _ _ (by omega)] | rw [e1 _ _ (by omega) (by omega)] | rw [t1 _ _ (by omega)] | rw [p1 _ _ (by omega)])); exact (dr0 ()).2.2.2.2), rfl⟩
  · exact by ((repeat (first | rw [dz_up_ne (by omega)] | rw [dz_up_k (by omega)] | rw [a1 _ _ (by omega)] | rw [b1 _ _ (by omega)] | rw [d1 _ _ (by omega) (by omega) (by omega)] | rw [m1 _ _ (by omega)] | rw [e1 _ _ (by omega) (by omega)] | rw [t1 _ _ (by omega)] | rw [p1 _ _ (by omega)])); rw [dz_up_eq])
  · exact rfl
  · exact (fun k hk => absurd hk (Nat.not_lt_zero _))
  · exact (fun k hk => absurd hk (Nat.not_lt_zero _))
  · exact by ((repeat (first | rw [dz_up_ne (by omega)] | rw [dz_up_k (by omega)] | rw [a1 _ _ (by omega)] | rw [b1 _ _ (by omega)] | rw [d1 _ _ (by omega) (by omega) (by omega)] | rw [m1 _ _ (by omega)] | rw [e1 _ _ (by omega) (by omega)] | rw [t1 _ _ (by omega)] | rw [p1 _ _ (by omega)])); rw [dz_up_eq])
  · exact ⟨rfl, by ((repeat (first | rw [dz_up_ne (by omega)] | rw [dz_up_k (by omega)] | rw [a1 _ _ (by omega)] | rw [b1 _ _ (by omega)] | rw [d1 _ _ (by omega) (by omega) (by omega)] | rw [m1 _ _ (by omega)] | rw [e1 _ _ (by omega) (by omega)] | rw [t1 _ _ (by omega)] | rw [p1 _ _ (by omega)])); exact (mr0 ()).1), rfl, by ((repeat (first | rw [dz_up_ne (by omega)] | rw [dz_up_k (by omega)] | rw [a1 _ _ (by omega)] | rw [b1 _ _ (by omega)] | rw [d1 _ _ (by omega) (by omega) (by omega)] | rw [m1 _ _ (by omega)] | rw [e1 _ _ (by omega) (by omega)] | rw [t1 _ _ (by omega)] | rw [p1 _ _ (by omega)])); exact (mr0 ()).2.1), rfl, by ((repeat (first | rw [dz_up_ne (by omega)] | rw [dz_up_k (by omega)] | rw [a1 _ _ (by omega)] | rw [b1 _ _ (by omega)] | rw [d1 _ _ (by omega) (by omega) (by omega)] | rw [m1 _ _ (by omega)] | rw [e1 _ _ (by omega) (by omega)] | rw [t1 _ _ (by omega)] | rw [p1 _ _ (by omega)])); exact (mr0 ()).2.2.1), rfl, by ((repeat (first | rw [dz_up_ne (by omega)] | rw [dz_up_k (by omega)] | rw [a1 _ _ (by omega)] | rw [b1 _ _ (by omega)] | rw [d1 _ _ (by omega) (by omega) (by omega)] | rw [m1 _ _ (by omega)] | rw [e1 _ _ (by omega) (by omega)] | rw [t1 _ _ (by omega)] | rw [p1 _ _ (by omega)])); exact (mr0 ()).2.2.2.1), rfl, by ((repeat (first | rw [dz_up_ne (by omega)] | rw [dz_up_k (by omega)] | rw [a1 _ _ (by omega)] | rw [b1 _ _ (by omega)] | rw [d1 _ _ (by omega) (by omega) (by omega)] | rw [m1 _ _ (by omega)] | rw [e1 _ _ (by omega) (by omega)] | rw [t1 _ _ (by omega)] | rw [p1 _ _ (by omega)])); exact (mr0 ()).2.2.2.2.1), rfl, by ((repeat (first | rw [dz_up_ne (by omega)] | rw [dz_up_k (by omega)] | rw [a1 _ _ (by omega)] | rw [b1 _ _ (by omega)] | rw [d1 _ _ (by omega) (by omega) (by omega)] | rw [m1 _ _ (by omega)] | rw [e1 _ _ (by omega) (by omega)] | rw [t1 _ _ (by omega)] | rw [p1 _ _ (by omega)])); exact (mr0 ()).2.2.2.2.2), rfl⟩
  · exact by ((repeat (first | rw [dz_up_ne (by omega)] | rw [dz_up_k (by omega)] | rw [a1 _ _ (by omega)] | rw [b1 _ _ (by omega)] | rw [d1 _ _ (by omega) (by omega) (by omega)] | rw [m1 _ _ (by omega)] | rw [e1 _ _ (by omega) (by omega)] | rw [t1 _ _ (by omega)] | rw [p1 _ _ (by omega)])); rw [dz_up_eq])
  · exact rfl
  · exact by ((repeat (first | rw [dz_up_ne (by omega)] | rw [dz_up_k (by omega)] | rw [a1 _ _ (by omega)] | rw [b1 _ _ (by omega)] | rw [d1 _ _ (by omega) (by omega) (by omega)] | rw [m1 _ _ (by omega)] | rw [e1 _ _ (by omega) (by omega)] | rw [t1 _ _ (by omega)] | rw [p1 _ _ (by omega)])); exact er0 ())
  · exact ⟨rfl, by ((repeat (first | rw [dz_up_ne (by omega)] | rw [dz_up_k (by omega)] | rw [a1 _ _ (by omega)] | rw [b1 _ _ (by omega)] | rw [d1 _ _ (by omega) (by omega) (by omega)] | rw [m1 _ _ (by omega)] | rw [e1 _ _ (by omega) (by omega)] | rw [t1 _ _ (by omega)] | rw [p1 _ _ (by omega)])); exact (er1 ()).1), rfl, by ((repeat (first | rw [dz_up_ne (by omega)] | rw [dz_up_k (by omega)] | rw [a1 _ _ (by omega)] | rw [b1 _ _ (by omega)] | rw [d1 _ _ (by omega) (by omega) (by omega)] | rw [m1 _ _ (by omega)] | rw [e1 _ _ (by omega) (by omega)] | rw [t1 _ _ (by omega)] | rw [p1 _ _ (by omega)])); exact (er1 ()).2.1), rfl, by ((repeat (first | rw [dz_up_ne (by omega)] | rw [dz_up_k (by omega)] | rw [a1 _ _ (by omega)] | rw [b1 _ _ (by omega)] | rw [d1 _ _ (by omega) (by omega) (by omega)] | rw [m1 _ _ (by omega)] | rw [e1 _ _ (by omega) (by omega)] | rw [t1 _ _ (by omega)] | rw [p1 _ _ (by omega)])); exact (er1 ()).2.2.1), rfl, by ((repeat (first | rw [dz_up_ne (by omega)] | rw [dz_up_k (by omega)] | rw [a1 _ _ (by omega)] | rw [b1 _ _ (by omega)] | rw [d1 _ _ (by omega) (by omega) (by omega)] | rw [m1 _ _ (by omega)] | rw [e1 _ _ (by omega) (by omega)] | rw [t1 _ _ (by omega)] | rw [p1 _ _ (by omega)])); exact (er1 ()).2.2.2.1), rfl, by ((repeat (first | rw [dz_up_ne (by omega)] | rw [dz_up_k (by omega)] | rw [a1 _ _ (by omega)] | rw [b1 _ _ (by omega)] | rw [d1 _ _ (by omega) (by omega) (by omega)] | rw [m1 _ _ (by omega)] | rw [e1 _ _ (by omega) (by omega)] | rw [t1 _ _ (by omega)] | rw [p1 _ _ (by omega)])); exact (er1 ()).2.2.2.2.1), rfl, by ((repeat (first | rw [dz_up_ne (by omega)] | rw [dz_up_k (by omega)] | rw [a1 _ _ (by omega)] | rw [b1 _ _ (by omega)] | rw [d1 _ _ (by omega) (by omega) (by omega)] | rw [m1 _ _ (by omega)] | rw [e1 _ _ (by omega) (by omega)] | rw [t1 _ _ (by omega)] | rw [p1 _ _ (by omega)])); exact (er1 ()).2.2.2.2.2), rfl⟩
  · exact by ((repeat (first | rw [dz_up_ne (by omega)] | rw [dz_up_k (by omega)] | rw [a1 _ _ (by omega)] | rw [b1 _ _ (by omega)] | rw [d1 _ _ (by omega) (by omega) (by omega)] | rw [m1 _ _ (by omega)] | rw [e1 _ _ (by omega) (by omega)] | rw [t1 _ _ (by omega)] | rw [p1 _ _ (by omega)])); rw [dz_up_eq])
  · exact ⟨rfl, by ((repeat (first | rw [dz_up_ne (by omega)] | rw [dz_up_k (by omega)] | rw [a1 _ _ (by omega)] | rw [b1 _ _ (by omega)] | rw [d1 _ _ (by omega) (by omega) (by omega)] | rw [m1 _ _ (by omega)] | rw [e1 _ _ (by omega) (by omega)] | rw [t1 _ _ (by omega)] | rw [p1 _ _ (by omega)])); exact (tr0 ()).1), rfl, by ((repeat (first | rw [dz_up_ne (by omega)] | rw [dz_up_k (by omega)] | rw [a1 _ _ (by omega)] | rw [b1 _ _ (by omega)] | rw [d1 _ _ (by omega) (by omega) (by omega)] | rw [m1 _ _ (by omega)] | rw [e1 _ _ (by omega) (by omega)] | rw [t1 _ _ (by omega)] | rw [p1 _ _ (by omega)])); exact (tr0 ()).2.1), rfl, by ((repeat (first | rw [dz_up_ne (by omega)] | rw [dz_up_k (by omega)] | rw [a1 _ _ (by omega)] | rw [b1 _ _ (by omega)] | rw [d1 _ _ (by omega) (by omega) (by omega)] | rw [m1 _ _ (by omega)] | rw [e1 _ _ (by omega) (by omega)] | rw [t1 _ _ (by omega)] | rw [p1 _ _ (by omega)])); exact (tr0 ()).2.2), rfl⟩
  · exact by ((repeat (first | rw [dz_up_ne (by omega)] | rw [dz_up_k (by omega)] | rw [a1 _ _ (by omega)] | rw [b1 _ _ (by omega)] | rw [d1 _ _ (by omega) (by omega) (by omega)] | rw [m1 _ _ (by omega)] | rw [e1 _ _ (by omega) (by omega)] | rw [t1 _ _ (by omega)] | rw [p1 _ _ (by omega)])); rw [dz_up_eq])
  · exact ⟨rfl, by ((repeat (first | rw [dz_up_ne (by omega)] | rw [dz_up_k (by omega)] | rw [a1 _ _ (by omega)] | rw [b1 _ _ (by omega)] | rw [d1 _ _ (by omega) (by omega) (by omega)] | rw [m1 _ _ (by omega)] | rw [e1 _ _ (by omega) (by omega)] | rw [t1 _ _ (by omega)] | rw [p1 _ _ (by omega)])); exact (pr0 ()).2.1), rfl, by ((repeat (first | rw [dz_up_ne (by omega)] | rw [dz_up_k (by omega)] | rw [a1 _ _ (by omega)] | rw [b1 _ _ (by omega)] | rw [d1 _ _ (by omega) (by omega) (by omega)] | rw [m1 _ _ (by omega)] | rw [e1 _ _ (by omega) (by omega)] | rw [t1 _ _ (by omega)] | rw [p1 _ _ (by omega)])); exact (pr0 ()).2.2.1), rfl, by ((repeat (first | rw [dz_up_ne (by omega)] | rw [dz_up_k (by omega)] | rw [a1 _ _ (by omega)] | rw [b1 _ _ (by omega)] | rw [d1 _ _ (by omega) (by omega) (by omega)] | rw [m1 _ _ (by omega)] | rw [e1 _ _ (by omega) (by omega)] | rw [t1 _ _ (by omega)] | rw [p1 _ _ (by omega)])); exact (pr0 ()).2.2.2), rfl⟩
  · exact by ((repeat (first | rw [dz_up_ne (by omega)] | rw [dz_up_k (by omega)] | rw [a1 _ _ (by omega)] | rw [b1 _ _ (by omega)] | rw [d1 _ _ (by omega) (by omega) (by omega)] | rw [m1 _ _ (by omega)] | rw [e1 _ _ (by omega) (by omega)] | rw [t1 _ _ (by omega)] | rw [p1 _ _ (by omega)])); exact (pr0 ()).1)
  · exact by ((repeat (first | rw [dz_up_ne (by omega)] | rw [dz_up_k (by omega)] | rw [a1 _ _ (by omega)] | rw [b1 _ _ (by omega)] | rw [d1 _ _ (by omega) (by omega) (by omega)] | rw [m1 _ _ (by omega)] | rw [e1 _ _ (by omega) (by omega)] | rw [t1 _ _ (by omega)] | rw [p1 _ _ (by omega)])); rw [dz_up_eq])
  · exact rfl
  · exact by ((repeat (first | rw [dz_up_ne (by omega)] | rw [dz_up_k (by omega)] | rw [a1 _ _ (by omega)] | rw [b1 _ _ (by omega)] | rw [d1 _ _ (by omega) (by omega) (by omega)] | rw [m1 _ _ (by omega)] | rw [e1 _ _ (by omega) (by omega)] | rw [t1 _ _ (by omega)] | rw [p1 _ _ (by omega)])); rw [dz_up_eq])
  · exact rfl
  · exact by ((repeat (first | rw [dz_up_ne (by omega)] | rw [dz_up_k (by omega)] | rw [a1 _ _ (by omega)] | rw [b1 _ _ (by omega)] | rw [d1 _ _ (by omega) (by omega) (by omega)] | rw [m1 _ _ (by omega)] | rw [e1 _ _ (by omega) (by omega)] | rw [t1 _ _ (by omega)] | rw [p1 _ _ (by omega)])); rw [dz_up_eq])
  · exact rfl
  · exact trivial
  · repeat (first | rw [dz_up_ne (by omega)])
    exact hz _ _ (by omega)
  · rw [y1 _ _ (by omega), x1 _ _ (by omega)]
    repeat (first | rw [dz_up_ne (by omega)])
    exact hZ _ _ (by omega)
  · exact fun r hr => ⟨by ((repeat (first | rw [dz_up_ne (by omega)] | rw [dz_up_k (by omega)] | rw [d3 _ _ (by omega) (by omega) (by omega)] | rw [m3 _ _ (by omega)] | rw [e3 _ _ (by omega) (by omega)] | rw [t3 _ _ (by omega)] | rw [p3 _ _ (by omega)] | rw [x1 _ _ (by omega)] | rw [y1 _ _ (by omega)])); exact x2 r hr), fun k hk => absurd (show (k : Int) < -1 from hk) (by omega)⟩
  · exact fun t ht => ⟨by ((repeat (first | rw [dz_up_ne (by omega)] | rw [dz_up_k (by omega)] | rw [d3 _ _ (by omega) (by omega) (by omega)] | rw [m3 _ _ (by omega)] | rw [e3 _ _ (by omega) (by omega)] | rw [t3 _ _ (by omega)] | rw [p3 _ _ (by omega)] | rw [x1 _ _ (by omega)] | rw [y1 _ _ (by omega)])); exact y2 t ht), fun k hk => absurd (show (k : Int) < -1 from hk) (by omega)⟩
  · exact by ((repeat (first | rw [dz_up_ne (by omega)] | rw [dz_up_k (by omega)] | rw [d3 _ _ (by omega) (by omega) (by omega)] | rw [m3 _ _ (by omega)] | rw [e3 _ _ (by omega) (by omega)] | rw [t3 _ _ (by omega)] | rw [p3 _ _ (by omega)] | rw [x1 _ _ (by omega)] | rw [y1 _ _ (by omega)])); first | (rw [dz_up_eq]; done) | (rw [dz_up_eq]; rfl))
  · exact by ((repeat (first | rw [dz_up_ne (by omega)] | rw [dz_up_k (by omega)] | rw [d3 _ _ (by omega) (by omega) (by omega)] | rw [m3 _ _ (by omega)] | rw [e3 _ _ (by omega) (by omega)] | rw [t3 _ _ (by omega)] | rw [p3 _ _ (by omega)] | rw [x1 _ _ (by omega)] | rw [y1 _ _ (by omega)])); first | (rw [dz_up_eq]; done) | (rw [dz_up_eq]; rfl))
  · exact by ((repeat (first | rw [dz_up_ne (by omega)] | rw [dz_up_k (by omega)] | rw [d3 _ _ (by omega) (by omega) (by omega)] | rw [m3 _ _ (by omega)] | rw [e3 _ _ (by omega) (by omega)] | rw [t3 _ _ (by omega)] | rw [p3 _ _ (by omega)] | rw [x1 _ _ (by omega)] | rw [y1 _ _ (by omega)])); first | (rw [dz_up_eq]; done) | (rw [dz_up_eq]; rfl))
  · exact ⟨by ((repeat (first | rw [dz_up_ne (by omega)] | rw [dz_up_k (by omega)] | rw [d3 _ _ (by omega) (by omega) (by omega)] | rw [m3 _ _ (by omega)] | rw [e3 _ _ (by omega) (by omega)] | rw [t3 _ _ (by omega)] | rw [p3 _ _ (by omega)] | rw [x1 _ _ (by omega)] | rw [y1 _ _ (by omega)])); first | (rw [dz_up_eq]; done) | (rw [dz_up_eq]; rfl)), fun k h1 h2 => by ((repeat (first | rw [dz_up_ne (by omega)] | rw [dz_up_k (by omega)] | rw [d3 _ _ (by omega) (by omega) (by omega)] | rw [m3 _ _ (by omega)] | rw [e3 _ _ (by omega) (by omega)] | rw [t3 _ _ (by omega)] | rw [p3 _ _ (by omega)] | rw [x1 _ _ (by omega)] | rw [y1 _ _ (by omega)])); exact hZ0 _ _)⟩
  · exact ⟨⟨by ((repeat (first | rw [dz_up_ne (by omega)] | rw [dz_up_k (by omega)] | rw [d3 _ _ (by omega) (by omega) (by omega)] | rw [m3 _ _ (by omega)] | rw [e3 _ _ (by omega) (by omega)] | rw [t3 _ _ (by omega)] | rw [p3 _ _ (by omega)] | rw [x1 _ _ (by omega)] | rw [y1 _ _ (by omega)])); exact (dm1 ()).1), by ((repeat (first | rw [dz_up_ne (by omega)] | rw [dz_up_k (by omega)] | rw [d3 _ _ (by omega) (by omega) (by omega)] | rw [m3 _ _ (by omega)] | rw [e3 _ _ (by omega) (by omega)] | rw [t3 _ _ (by omega)] | rw [p3 _ _ (by omega)] | rw [x1 _ _ (by omega)] | rw [y1 _ _ (by omega)])); exact (dm1 ()).2.1), by ((repeat (first | rw [dz_up_ne (by omega)] | rw [dz_up_k (by omega)] | rw [d3 _ _ (by omega) (by omega) (by omega)] | rw [m3 _ _ (by omega)] | rw [e3 _ _ (by omega) (by omega)] | rw [t3 _ _ (by omega)] | rw [p3 _ _ (by omega)] | rw [x1 _ _ (by omega)] | rw [y1 _ _ (by omega)])); exact (dm1 ()).2.2.1), by ((repeat (first | rw [dz_up_ne (by omega)] | rw [dz_up_k (by omega)] | rw [d3 _ _ (by omega) (by omega) (by omega)] | rw [m3 _ _ (by omega)] | rw [e3 _ _ (by omega) (by omega)] | rw [t3 _ _ (by omega)] | rw [p3 _ _ (by omega)] | rw [x1 _ _ (by omega)] | rw [y1 _ _ (by omega)])); exact (dm1 ()).2.2.2.1), by ((repeat (first | rw [dz_up_ne (by omega)] | rw [dz_up_k (by omega)] | rw [d3 _ _ (by omega) (by omega) (by omega)] | rw [m3 _ _ (by omega)] | rw [e3 _ _ (by omega) (by omega)] | rw [t3 _ _ (by omega)] | rw [p3 _ _ (by omega)] | rw [x1 _ _ (by omega)] | rw [y1 _ _ (by omega)])); exact (dm1 ()).2.2.2.2.1), by ((repeat (first | rw [dz_up_ne (by omega)] | rw [dz_up_k (by omega)] | rw [d3 _ _ (by omega) (by omega) (by omega)] | rw [m3 _ _ (by omega)] | rw [e3 _ _ (by omega) (by omega)] | rw [t3 _ _ (by omega)] | rw [p3 _ _ (by omega)] | rw [x1 _ _ (by omega)] | rw [y1 _ _ (by omega)])); exact (dm1 ()).2.2.2.2.2), fun i hi => absurd (show (i : Int) < 0 from hi) (by omega)⟩, ⟨by ((repeat (first | rw [dz_up_ne (by omega)] | rw [dz_up_k (by omega)] | rw [d3 _ _ (by omega) (by omega) (by omega)] | rw [m3 _ _ (by omega)] | rw [e3 _ _ (by omega) (by omega)] | rw [t3 _ _ (by omega)] | rw [p3 _ _ (by omega)] | rw [x1 _ _ (by omega)] | rw [y1 _ _ (by omega)])); exact (dm2 ()).1), by ((repeat (first | rw [dz_up_ne (by omega)] | rw [dz_up_k (by omega)] | rw [d3 _ _ (by omega) (by omega) (by omega)] | rw [m3 _ _ (by omega)] | rw [e3 _ _ (by omega) (by omega)] | rw [t3 _ _ (by omega)] | rw [p3 _ _ (by omega)] | rw [x1 _ _ (by omega)] | rw [y1 _ _ (by omega)])); exact (dm2 ()).2.1), by ((repeat (first | rw [dz_up_ne (by omega)] | rw [dz_up_k (by omega)] | rw [d3 _ _ (by omega) (by omega) (by omega)] | rw [m3 _ _ (by omega)] | rw [e3 _ _ (by omega) (by omega)] | rw [t3 _ _ (by omega)] | rw [p3 _ _ (by omega)] | rw [x1 _ _ (by omega)] | rw [y1 _ _ (by omega)])); exact (dm2 ()).2.2.1), by ((repeat (first | rw [dz_up_ne (by omega)] | rw [dz_up_k (by omega)] | rw [d3 _ _ (by omega) (by omega) (by omega)] | rw [m3 _ _ (by omega)] | rw [e3 _ _ (by omega) (by omega)] | rw [t3 _ _ (by omega)] | rw [p3 _ _ (by omega)] | rw [x1 _ _ (by omega)] | rw [y1 _ _ (by omega)])); exact (dm2 ()).2.2.2.1), by ((repeat (first | rw [dz_up_ne (by omega)] | rw [dz_up_k (by omega)] | rw [d3 _ _ (by omega) (by omega) (by omega)] | rw [m3 _ _ (by omega)] | rw [e3 _ _ (by omega) (by omega)] | rw [t3 _ _ (by omega)] | rw [p3 _ _ (by omega)] | rw [x1 _ _ (by omega)] | rw [y1 _ _ (by omega)])); exact (dm2 ()).2.2.2.2.1), by ((repeat (first | rw [dz_up_ne (by omega)] | rw [dz_up_k (by omega)] | rw [d3 _ _ (by omega) (by omega) (by omega)] | rw [m3 _ _ (by omega)] | rw [e3 _ _ (by omega) (by omega)] | rw [t3 _ _ (by omega)] | rw [p3 _ _ (by omega)] | rw [x1 _ _ (by omega)] | rw [y1 _ _ (by omega)])); exact (dm2 ()).2.2.2.2.2), fun i hi => absurd (show (i : Int) < 0 from hi) (by omega)⟩, by ((repeat (first | rw [dz_up_ne (by omega)] | rw [dz_up_k (by omega)] | rw [d3 _ _ (by omega) (by omega) (by omega)] | rw [m3 _ _ (by omega)] | rw [e3 _ _ (by omega) (by omega)] | rw [t3 _ _ (by omega)] | rw [p3 _ _ (by omega)] | rw [x1 _ _ (by omega)] | rw [y1 _ _ (by omega)])); exact dm0 ()), by omega, fun k hk => absurd hk (Nat.not_lt_zero _), fun k hk => WF_init.2.2.2.1.2 k hk⟩
  · exact fun k hk => absurd hk (Nat.not_lt_zero _)
  · exact ⟨by ((repeat (first | rw [dz_up_ne (by omega)] | rw [dz_up_k (by omega)] | rw [d3 _ _ (by omega) (by omega) (by omega)] | rw [m3 _ _ (by omega)] | rw [e3 _ _ (by omega) (by omega)] | rw [t3 _ _ (by omega)] | rw [p3 _ _ (by omega)] | rw [x1 _ _ (by omega)] | rw [y1 _ _ (by omega)])); exact hZ0 _ _), by ((repeat (first | rw [dz_up_ne (by omega)] | rw [dz_up_k (by omega)] | rw [d3 _ _ (by omega) (by omega) (by omega)] | rw [m3 _ _ (by omega)] | rw [e3 _ _ (by omega) (by omega)] | rw [t3 _ _ (by omega)] | rw [p3 _ _ (by omega)] | rw [x1 _ _ (by omega)] | rw [y1 _ _ (by omega)])); exact (em0 ()).2.2.1), by ((repeat (first | rw [dz_up_ne (by omega)] | rw [dz_up_k (by omega)] | rw [d3 _ _ (by omega) (by omega) (by omega)] | rw [m3 _ _ (by omega)] | rw [e3 _ _ (by omega) (by omega)] | rw [t3 _ _ (by omega)] | rw [p3 _ _ (by omega)] | rw [x1 _ _ (by omega)] | rw [y1 _ _ (by omega)])); exact (em0 ()).2.2.2.1), by ((repeat (first | rw [dz_up_ne (by omega)] | rw [dz_up_k (by omega)] | rw [d3 _ _ (by omega) (by omega) (by omega)] | rw [m3 _ _ (by omega)] | rw [e3 _ _ (by omega) (by omega)] | rw [t3 _ _ (by omega)] | rw [p3 _ _ (by omega)] | rw [x1 _ _ (by omega)] | rw [y1 _ _ (by omega)])); exact (em0 ()).2.2.2.2.2), fun i hi => by ((repeat (first | rw [dz_up_ne (by omega)] | rw [dz_up_k (by omega)] | rw [d3 _ _ (by omega) (by omega) (by omega)] | rw [m3 _ _ (by omega)] | rw [e3 _ _ (by omega) (by omega)] | rw [t3 _ _ (by omega)] | rw [p3 _ _ (by omega)] | rw [x1 _ _ (by omega)] | rw [y1 _ _ (by omega)])); exact hZ0 _ _)⟩
