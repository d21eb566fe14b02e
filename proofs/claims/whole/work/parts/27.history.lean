/-! Drum: its history. Written by l2_27.py. -/
/-- drum q of the class holds a history: hs 0 the start, hs n what is now; each deed leads from one to the next -/
def drX (M : Nat → Nat → Int) (q : Nat) (w pl : Int) (kd wt nx : Nat → Int) (n : Nat) (hs : Nat → Nat → Int) : Prop := mrel M (q + 1) w pl kd wt nx (hs 0) ∧ mrel M (q + 8) w pl kd wt nx (hs n) ∧ M q 2 = n ∧ n ≤ 40 ∧ (∀ k, k < n → dok w pl (M (q + 15) k) (M (q + 16) k) (M (q + 17) k) (hs k) ∧ hs (k + 1) = ded pl kd wt nx (M (q + 15) k) (M (q + 16) k) (M (q + 17) k) (hs k)) ∧ ∀ k : Nat, k ≤ n → stok w pl (29 * k) (hs k)
theorem drX_fr {M M2 : Nat → Nat → Int} {q : Nat} {w pl : Int} {kd wt nx : Nat → Int} {n : Nat} {hs : Nat → Nat → Int} (h : drX M q w pl kd wt nx n hs) (hf : ∀ q2 k, q ≤ q2 → q2 ≤ q + 17 → M2 q2 k = M q2 k) : drX M2 q w pl kd wt nx n hs := by
  obtain ⟨h1, h2, h3, h4, h5, h6⟩ := h
  refine ⟨mrel_fr h1 (fun q2 k a b => hf q2 k (by omega) (by omega)), mrel_fr h2 (fun q2 k a b => hf q2 k (by omega) (by omega)), by rw [hf _ _ (by omega) (by omega), h3], h4, fun k hk => ?_, h6⟩
  rw [hf _ _ (by omega) (by omega), hf _ _ (by omega) (by omega), hf _ _ (by omega) (by omega)]
  exact h5 k hk
/-- a history with one more -/
def hup (hs : Nat → Nat → Int) (n : Nat) (s : Nat → Int) : Nat → Nat → Int := fun k => if k = n + 1 then s else hs k
theorem hup_eq (hs : Nat → Nat → Int) (n : Nat) (s : Nat → Int) : hup hs n s (n + 1) = s := if_pos rfl
theorem hup_ne {hs : Nat → Nat → Int} {n k : Nat} {s : Nat → Int} (h : k ≠ n + 1) : hup hs n s k = hs k := if_neg h
set_option maxRecDepth 100000 in
theorem S_doDeed {xo : Nat → List Int} {d : Nat} {Q : dz_Q} {sh : List (Nat ⊕ (Nat × Nat))} {rf : Nat → Nat → Nat} {M : Nat → Nat → Int} {q n : Nat} {w pl : Int} {kd wt nx : Nat → Int} {hs : Nat → Nat → Int} {kind a b : Int} (hx : xo 2 = dz_xs2) (hq : dr_at sh rf q) (hp : pgok w pl kd wt nx) (hD : drX M q w pl kd wt nx n hs) (hd : dok w pl kind a b (hs n)) (h40 : n = 40 → Q (some (dz_i (-2))) (sh, rf, M)) (hQ : n < 40 → ∀ M2 : Nat → Nat → Int, (∀ q2 k, (q2 < q ∨ q + 17 < q2) → M2 q2 k = M q2 k) → drX M2 q w pl kd wt nx (n + 1) (hup hs n (ded pl kd wt nx kind a b (hs n))) → Q (some (dz_i (dan pl kd wt nx kind a b (hs n)))) (sh, rf, M2)) : dz_E dz_pp xo (d + 6) 5 [dz_r q, dz_i kind, dz_i a, dz_i b] (sh, rf, M) Q := by
  refine ⟨Nat.le_of_ble_eq_true rfl, ?_⟩
  have hc := dz_E_m dz_pp xo (d + 5)
  show dz_X (dz_E dz_pp xo (d + 5)) dz_pp xo (dz_pp 5) Q 0 [some (dz_r q), some (dz_i kind), some (dz_i a), some (dz_i b)] [] 0 0 (sh, rf, M)
  obtain ⟨d0, d1, d2, d3, d4, d5, d6, d7, d8, d9, d10⟩ := id hq
  have m0 := d4.1
  have m1 := d2.1
  obtain ⟨h1, h2, h3, h4, h5, h6⟩ := hD
  refine xr_aloadn hc rfl rfl ?_
  refine xr_getfi hc rfl (Or.inl rfl) (by first | assumption | rfl) ?_
  rw [h3]
  refine xr_bipush hc rfl ?_
  refine xr_icmp_lt hc rfl (t := 12) rfl (fun b6 => ?_) (fun b6 => ?_)
  · refine xr_aloadn hc rfl rfl ?_
    refine xr_getfr hc rfl rfl (by first | assumption | rfl) (by first | assumption | rfl) ?_
    refine xr_aloadn hc rfl rfl ?_
    refine xr_getfi hc rfl (Or.inl rfl) (by first | assumption | rfl) ?_
    rw [h3]
    refine xr_iloadn hc rfl rfl ?_
    refine xr_iastore hc rfl (by first | assumption | rfl) (by first | omega | (unfold dz_w; omega)) (by first | omega | (unfold dz_w; omega)) ?_
    refine xr_aloadn hc rfl rfl ?_
    refine xr_getfr hc rfl rfl (by first | assumption | rfl) (by first | assumption | rfl) ?_
    refine xr_aloadn hc rfl rfl ?_
    refine xr_getfi hc rfl (Or.inl rfl) (by first | assumption | rfl) ?_
    rw [dz_up_ne (show q ≠ q + 15 by omega), h3]
    refine xr_iloadn hc rfl rfl ?_
    refine xr_iastore hc rfl (by first | assumption | rfl) (by first | omega | (unfold dz_w; omega)) (by first | omega | (unfold dz_w; omega)) ?_
    refine xr_aloadn hc rfl rfl ?_
    refine xr_getfr hc rfl rfl (by first | assumption | rfl) (by first | assumption | rfl) ?_
    refine xr_aloadn hc rfl rfl ?_
    refine xr_getfi hc rfl (Or.inl rfl) (by first | assumption | rfl) ?_
    rw [dz_up_ne (show q ≠ q + 16 by omega), dz_up_ne (show q ≠ q + 15 by omega), h3]
    refine xr_iloadn hc rfl rfl ?_
    refine xr_iastore hc rfl (by first | assumption | rfl) (by first | omega | (unfold dz_w; omega)) (by first | omega | (unfold dz_w; omega)) ?_
    refine xr_aloadn hc rfl rfl ?_
    refine xr_dup hc rfl rfl ?_
    refine xr_getfi hc rfl (Or.inl rfl) (by first | assumption | rfl) ?_
    rw [dz_up_ne (show q ≠ q + 17 by omega), dz_up_ne (show q ≠ q + 16 by omega), dz_up_ne (show q ≠ q + 15 by omega), h3]
    refine xr_iconst hc rfl ?_
    refine xr_iaddz hc rfl (by first | exact dz_wid (by first | omega | (unfold dz_w; omega)) (by first | omega | (unfold dz_w; omega)) | rfl) ?_
    refine xr_putfi hc rfl rfl (by first | assumption | rfl) ?_
    obtain ⟨M3, hM3⟩ : ∃ M3, M3 = dz_up (dz_up (dz_up (dz_up M (q + 15) (n : Int).toNat kind) (q + 16) (n : Int).toNat a) (q + 17) (n : Int).toNat b) q 2 ((n : Int) + 1) := ⟨_, rfl⟩
    rw [← hM3]
    have en : (n : Int).toNat = n := Int.toNat_natCast n
    have g0 : M3 q 2 = (n : Int) + 1 := by rw [hM3, dz_up_eq]
    have gf : ∀ q2 k, q2 ≠ q → q2 ≠ q + 15 → q2 ≠ q + 16 → q2 ≠ q + 17 → M3 q2 k = M q2 k := fun q2 k u1 u2 u3 u4 => by rw [hM3, dz_up_ne u1, dz_up_ne u4, dz_up_ne u3, dz_up_ne u2]
    have g1 : ∀ k, M3 (q + 15) k = if k = n then kind else M (q + 15) k := fun k => by rw [hM3, dz_up_ne (by omega), dz_up_ne (by omega), dz_up_ne (by omega), en]; unfold dz_up; simp
    have g2 : ∀ k, M3 (q + 16) k = if k = n then a else M (q + 16) k := fun k => by rw [hM3, dz_up_ne (by omega), dz_up_ne (by omega), en]; unfold dz_up; simp
    have g3 : ∀ k, M3 (q + 17) k = if k = n then b else M (q + 17) k := fun k => by rw [hM3, dz_up_ne (by omega), en]; unfold dz_up; simp
    have e1 : M3 (q + 15) (n : Int).toNat = kind := by rw [en, g1, if_pos rfl]
    have e2 : M3 (q + 16) (n : Int).toNat = a := by rw [en, g2, if_pos rfl]
    have e3 : M3 (q + 17) (n : Int).toNat = b := by rw [en, g3, if_pos rfl]
    refine xr_aloadn hc rfl rfl ?_
    refine xr_aloadn hc rfl rfl ?_
    refine xr_getfi hc rfl (Or.inl rfl) (by first | assumption | rfl) ?_
    rw [g0]
    refine xr_iconst hc rfl ?_
    refine xr_isubz hc rfl (by first | exact dz_wid (by first | omega | (unfold dz_w; omega)) (by first | omega | (unfold dz_w; omega)) | rfl) ?_
    rw [show ((n : Int) + 1 - 1) = (n : Int) by omega]
    refine xr_callv1 hc rfl (by first | assumption | rfl) rfl rfl rfl (Nat.le_of_ble_eq_true rfl) (Nat.zero_le _) (Nat.zero_le _) ?_
    refine S_perform (n := (n : Int)) hx hq hp (h6 n (Nat.le_refl n)) (mrel_fr h2 (fun q2 k u1 u2 => gf q2 k (by omega) (by omega) (by omega) (by omega))) (by omega) (by omega) (by rw [e1, e2, e3]; exact hd) (fun M2 z1 z2 => ?_)
    rw [e1, e2, e3] at z2 ⊢
    refine xk_1 ?_
    refine xr_ireturn hc rfl rfl (Nat.zero_le _) (Nat.zero_le _) ?_
    refine hQ (by omega) M2 (fun q2 k u => by rw [z1 q2 k (by omega), gf q2 k (by omega) (by omega) (by omega) (by omega)]) ⟨?_, ?_, ?_, by omega, fun k hk => ?_, fun k hk => ?_⟩
    · rw [hup_ne (by omega)]
      exact mrel_fr h1 (fun q2 k u1 u2 => by rw [z1 q2 k (by omega), gf q2 k (by omega) (by omega) (by omega) (by omega)])
    · rw [hup_eq]
      exact z2
    · rw [z1 _ _ (by omega), g0]
      rfl
    · rw [z1 _ _ (by omega), z1 _ _ (by omega), z1 _ _ (by omega), g1, g2, g3]
      by_cases e : k = n
      · subst e
        rw [if_pos rfl, if_pos rfl, if_pos rfl, hup_eq, hup_ne (by omega)]
        exact ⟨hd, rfl⟩
      · rw [if_neg e, if_neg e, if_neg e, hup_ne (by omega), hup_ne (by omega)]
        exact h5 k (by omega)
    · by_cases e : k = n + 1
      · subst e
        rw [hup_eq]
        have h7 := ded_ok hp (h6 n (Nat.le_refl n)) (by omega) hd
        exact stok_up h7 (by omega) (by omega)
      · rw [hup_ne e]
        exact h6 k (by omega)
  · refine xr_bipush hc rfl ?_
    refine xr_ireturn hc rfl rfl (Nat.zero_le _) (Nat.zero_le _) ?_
    exact h40 (by omega)
set_option maxRecDepth 100000 in
theorem S_goBackTo {xo : Nat → List Int} {d : Nat} {Q : dz_Q} {sh : List (Nat ⊕ (Nat × Nat))} {rf : Nat → Nat → Nat} {M : Nat → Nat → Int} {q n : Nat} {w pl : Int} {kd wt nx : Nat → Int} {hs : Nat → Nat → Int} {m : Nat} (hx : xo 2 = dz_xs2) (hq : dr_at sh rf q) (hp : pgok w pl kd wt nx) (hD : drX M q w pl kd wt nx n hs) (hm : m ≤ n) (hQ : ∀ M2 : Nat → Nat → Int, (∀ q2 k, (q2 < q ∨ q + 17 < q2) → M2 q2 k = M q2 k) → drX M2 q w pl kd wt nx m hs → Q none (sh, rf, M2)) : dz_E dz_pp xo (d + 6) 7 [dz_r q, dz_i (m : Int)] (sh, rf, M) Q := by
  refine ⟨Nat.le_of_ble_eq_true rfl, ?_⟩
  have hc := dz_E_m dz_pp xo (d + 5)
  show dz_X (dz_E dz_pp xo (d + 5)) dz_pp xo (dz_pp 7) Q 0 [some (dz_r q), some (dz_i (m : Int)), none] [] 0 0 (sh, rf, M)
  obtain ⟨d0, d1, d2, d3, d4, d5, d6, d7, d8, d9, d10⟩ := id hq
  have m0 := d4.1
  have m1 := d2.1
  obtain ⟨h1, h2, h3, h4, h5, h6⟩ := hD
  have lp : ∀ (n1 : Nat) (i : Nat) (M1 : Nat → Nat → Int), i + n1 = m → (M1 q 2 = n ∧ (∀ q2 k, (q2 < q + 8 ∨ q + 14 < q2) → M1 q2 k = M q2 k) ∧ mrel M1 (q + 8) w pl kd wt nx (hs i)) → dz_X (dz_E dz_pp xo (d + 5)) dz_pp xo (dz_pp 7) Q 13 [some (dz_r q), some (dz_i (m : Int)), some (dz_i (i : Int))] [] 0 0 (sh, rf, M1) := by
    intro n1
    induction n1 with
    | zero =>
      intro i M1 hi hv
      obtain ⟨v0, v1, v2⟩ := hv
      refine xr_iloadn hc rfl rfl ?_
      refine xr_iloadn hc rfl rfl ?_
      refine xr_icmp_ge hc rfl (t := 38) rfl (fun b15 => ?_) (fun b15 => ?_)
      · refine xr_aloadn hc rfl rfl ?_
        refine xr_iloadn hc rfl rfl ?_
        refine xr_putfi hc rfl rfl (by first | assumption | rfl) ?_
        refine xr_return hc rfl rfl (Nat.zero_le _) (Nat.zero_le _) ?_
        have ei : i = m := by omega
        subst ei
        refine hQ _ (fun q2 k u => by rw [dz_up_ne (by omega), v1 q2 k (by omega)]) ⟨?_, ?_, ?_, by omega, fun k hk => ?_, fun k hk => h6 k (by omega)⟩
        · exact mrel_fr h1 (fun q2 k u1 u2 => by rw [dz_up_ne (by omega), v1 q2 k (by omega)])
        · exact mrel_fr v2 (fun q2 k u1 u2 => by rw [dz_up_ne (by omega)])
        · rw [dz_up_eq]
        · rw [dz_up_ne (by omega), dz_up_ne (by omega), dz_up_ne (by omega), v1 _ _ (by omega), v1 _ _ (by omega), v1 _ _ (by omega)]
          exact h5 k (by omega)
      · omega
    | succ n1 ih =>
      intro i M1 hi hv
      obtain ⟨v0, v1, v2⟩ := hv
      refine xr_iloadn hc rfl rfl ?_
      refine xr_iloadn hc rfl rfl ?_
      refine xr_icmp_ge hc rfl (t := 38) rfl (fun b15 => ?_) (fun b15 => ?_)
      · omega
      · refine xr_iloadn hc rfl rfl ?_
        refine xr_aloadn hc rfl rfl ?_
        refine xr_getfi hc rfl (Or.inl rfl) (by first | assumption | rfl) ?_
        rw [v0]
        refine xr_icmp_ge hc rfl (t := 38) rfl (fun b23 => ?_) (fun b23 => ?_)
        · omega
        · refine xr_aloadn hc rfl rfl ?_
          refine xr_iloadn hc rfl rfl ?_
          refine xr_callv1 hc rfl (by first | assumption | rfl) rfl rfl rfl (Nat.le_of_ble_eq_true rfl) (Nat.zero_le _) (Nat.zero_le _) ?_
          obtain ⟨h7, h8⟩ := h5 i (by omega)
          refine S_perform (n := (i : Int)) hx hq hp (h6 i (by omega)) v2 (by omega) (by omega) (by rw [Int.toNat_natCast, v1 _ _ (by omega), v1 _ _ (by omega), v1 _ _ (by omega)]; exact h7) (fun M2 z1 z2 => ?_)
          rw [Int.toNat_natCast, v1 _ _ (by omega), v1 _ _ (by omega), v1 _ _ (by omega), ← h8] at z2
          refine xk_1 ?_
          refine xr_pop hc rfl rfl ?_
          refine xr_iincz2 hc rfl rfl (by first | exact dz_wid (by first | omega | (unfold dz_w; omega)) (by first | omega | (unfold dz_w; omega)) | rfl) ?_
          refine xr_goto hc rfl (t := 13) rfl ?_
          exact ih (i + 1) M2 (by omega) ⟨by rw [z1 _ _ (by omega), v0], fun q2 k u => by rw [z1 q2 k u, v1 q2 k u], z2⟩
  refine xr_aloadn hc rfl rfl ?_
  refine xr_getfr hc rfl rfl (by first | assumption | rfl) (by first | assumption | rfl) ?_
  refine xr_aloadn hc rfl rfl ?_
  refine xr_getfr hc rfl rfl (by first | assumption | rfl) (by first | assumption | rfl) ?_
  refine xr_callv1 hc rfl (by first | assumption | rfl) rfl rfl rfl (Nat.le_of_ble_eq_true rfl) (Nat.zero_le _) (Nat.zero_le _) ?_
  refine S_mbecome d4 d2 (by omega) (fun M1 y1 y2 y3 => ?_)
  refine xk_0 ?_
  refine xr_iconst hc rfl ?_
  refine xr_istore2 hc rfl rfl ?_
  exact lp m 0 M1 (by omega) ⟨by rw [y1 _ _ (by omega), h3], fun q2 k u => y1 q2 k (by omega), mrel_same hp.2.1 h1 y2 y3⟩
set_option maxRecDepth 100000 in
theorem S_goBackTo0 {xo : Nat → List Int} {d : Nat} {Q : dz_Q} {sh : List (Nat ⊕ (Nat × Nat))} {rf : Nat → Nat → Nat} {M : Nat → Nat → Int} {q n : Nat} {w pl : Int} {kd wt nx : Nat → Int} {hs : Nat → Nat → Int} (hq : dr_at sh rf q) (hw : w ≤ 6) (hD : drX M q w pl kd wt nx 0 hs) (hQ : ∀ M2 : Nat → Nat → Int, (∀ q2 k, (q2 < q ∨ q + 17 < q2) → M2 q2 k = M q2 k) → drX M2 q w pl kd wt nx 0 hs → Q none (sh, rf, M2)) : dz_E dz_pp xo (d + 6) 7 [dz_r q, dz_i 0] (sh, rf, M) Q := by
  refine ⟨Nat.le_of_ble_eq_true rfl, ?_⟩
  have hc := dz_E_m dz_pp xo (d + 5)
  show dz_X (dz_E dz_pp xo (d + 5)) dz_pp xo (dz_pp 7) Q 0 [some (dz_r q), some (dz_i 0), none] [] 0 0 (sh, rf, M)
  obtain ⟨d0, d1, d2, d3, d4, d5, d6, d7, d8, d9, d10⟩ := id hq
  have m0 := d4.1
  have m1 := d2.1
  obtain ⟨h1, h2, h3, h4, h5, h6⟩ := hD
  refine xr_aloadn hc rfl rfl ?_
  refine xr_getfr hc rfl rfl (by first | assumption | rfl) (by first | assumption | rfl) ?_
  refine xr_aloadn hc rfl rfl ?_
  refine xr_getfr hc rfl rfl (by first | assumption | rfl) (by first | assumption | rfl) ?_
  refine xr_callv1 hc rfl (by first | assumption | rfl) rfl rfl rfl (Nat.le_of_ble_eq_true rfl) (Nat.zero_le _) (Nat.zero_le _) ?_
  refine S_mbecome d4 d2 (by omega) (fun M1 y1 y2 y3 => ?_)
  refine xk_0 ?_
  refine xr_iconst hc rfl ?_
  refine xr_istore2 hc rfl rfl ?_
  refine xr_iloadn hc rfl rfl ?_
  refine xr_iloadn hc rfl rfl ?_
  refine xr_icmp_ge hc rfl (t := 38) rfl (fun b15 => ?_) (fun b15 => ?_)
  · refine xr_aloadn hc rfl rfl ?_
    refine xr_iloadn hc rfl rfl ?_
    refine xr_putfi hc rfl rfl (by first | assumption | rfl) ?_
    refine xr_return hc rfl rfl (Nat.zero_le _) (Nat.zero_le _) ?_
    refine hQ _ (fun q2 k u => by rw [dz_up_ne (by omega), y1 q2 k (by omega)]) ⟨?_, ?_, ?_, by omega, fun k hk => by omega, h6⟩
    · exact mrel_fr h1 (fun q2 k u1 u2 => by rw [dz_up_ne (by omega), y1 q2 k (by omega)])
    · exact mrel_fr (mrel_same hw h1 y2 y3) (fun q2 k u1 u2 => by rw [dz_up_ne (by omega)])
    · rw [dz_up_eq]
      rfl
  · omega
set_option maxRecDepth 100000 in
theorem S_begin {xo : Nat → List Int} {d : Nat} {Q : dz_Q} {sh : List (Nat ⊕ (Nat × Nat))} {rf : Nat → Nat → Nat} {M : Nat → Nat → Int} {q q0 : Nat} {w pl : Int} {kd wt nx s : Nat → Int} (hq : dr_at sh rf q) (hm : ma_at sh rf q0) (hq0 : q0 + 6 < q ∨ q + 17 < q0) (hw : w ≤ 6) (hr : mrel M q0 w pl kd wt nx s) (hs : stok w pl 0 s) (hQ : ∀ M2 : Nat → Nat → Int, (∀ q2 k, (q2 < q ∨ q + 17 < q2) → M2 q2 k = M q2 k) → drX M2 q w pl kd wt nx 0 (fun _ => s) → Q none (sh, rf, M2)) : dz_E dz_pp xo (d + 2) 3 [dz_r q, dz_r q0] (sh, rf, M) Q := by
  refine ⟨Nat.le_of_ble_eq_true rfl, ?_⟩
  have hc := dz_E_m dz_pp xo (d + 1)
  show dz_X (dz_E dz_pp xo (d + 1)) dz_pp xo (dz_pp 3) Q 0 [some (dz_r q), some (dz_r q0)] [] 0 0 (sh, rf, M)
  obtain ⟨d0, d1, d2, d3, d4, d5, d6, d7, d8, d9, d10⟩ := id hq
  have m0 := d4.1
  have m1 := d2.1
  refine xr_aloadn hc rfl rfl ?_
  refine xr_getfr hc rfl rfl (by first | assumption | rfl) (by first | assumption | rfl) ?_
  refine xr_aloadn hc rfl rfl ?_
  refine xr_callv1 hc rfl (by first | assumption | rfl) rfl rfl rfl (Nat.le_of_ble_eq_true rfl) (Nat.zero_le _) (Nat.zero_le _) ?_
  refine S_mbecome d2 hm (by omega) (fun M1 y1 y2 y3 => ?_)
  refine xk_0 ?_
  refine xr_aloadn hc rfl rfl ?_
  refine xr_getfr hc rfl rfl (by first | assumption | rfl) (by first | assumption | rfl) ?_
  refine xr_aloadn hc rfl rfl ?_
  refine xr_callv1 hc rfl (by first | assumption | rfl) rfl rfl rfl (Nat.le_of_ble_eq_true rfl) (Nat.zero_le _) (Nat.zero_le _) ?_
  refine S_mbecome d4 hm (by omega) (fun M2 z1 z2 z3 => ?_)
  refine xk_0 ?_
  refine xr_aloadn hc rfl rfl ?_
  refine xr_iconst hc rfl ?_
  refine xr_putfi hc rfl rfl (by first | assumption | rfl) ?_
  refine xr_return hc rfl rfl (Nat.zero_le _) (Nat.zero_le _) ?_
  refine hQ _ (fun q2 k u => by rw [dz_up_ne (by omega), z1 q2 k (by omega), y1 q2 k (by omega)]) ⟨?_, ?_, ?_, by omega, fun k hk => by omega, fun k hk => by rw [show k = 0 by omega]; exact hs⟩
  · exact mrel_fr (mrel_same hw hr y2 y3) (fun q2 k u1 u2 => by rw [dz_up_ne (by omega), z1 _ _ (by omega)])
  · exact mrel_fr (mrel_same hw (mrel_fr hr (fun q2 k u1 u2 => y1 q2 k (by omega))) z2 z3) (fun q2 k u1 u2 => by rw [dz_up_ne (by omega)])
  · rw [dz_up_eq]
    rfl
set_option maxRecDepth 100000 in
theorem S_become {xo : Nat → List Int} {d : Nat} {Q : dz_Q} {sh : List (Nat ⊕ (Nat × Nat))} {rf : Nat → Nat → Nat} {M : Nat → Nat → Int} {q q0 n : Nat} {w pl : Int} {kd wt nx : Nat → Int} {hs : Nat → Nat → Int} (hq : dr_at sh rf q) (hq0 : dr_at sh rf q0) (hd : q0 + 17 < q ∨ q + 17 < q0) (hw : w ≤ 6) (hD : drX M q0 w pl kd wt nx n hs) (hQ : ∀ M2 : Nat → Nat → Int, (∀ q2 k, (q2 < q ∨ q + 17 < q2) → M2 q2 k = M q2 k) → drX M2 q w pl kd wt nx n hs → Q none (sh, rf, M2)) : dz_E dz_pp xo (d + 2) 4 [dz_r q, dz_r q0] (sh, rf, M) Q := by
  refine ⟨Nat.le_of_ble_eq_true rfl, ?_⟩
  have hc := dz_E_m dz_pp xo (d + 1)
  show dz_X (dz_E dz_pp xo (d + 1)) dz_pp xo (dz_pp 4) Q 0 [some (dz_r q), some (dz_r q0)] [] 0 0 (sh, rf, M)
  obtain ⟨d0, d1, d2, d3, d4, d5, d6, d7, d8, d9, d10⟩ := id hq
  have m0 := d4.1
  have m1 := d2.1
  obtain ⟨c0, c1, c2, c3, c4, c5, c6, c7, c8, c9, c10⟩ := id hq0
  have n0 := c4.1
  have n1 := c2.1
  obtain ⟨h1, h2, h3, h4, h5, h6⟩ := hD
  refine xr_aloadn hc rfl rfl ?_
  refine xr_getfr hc rfl rfl (by first | assumption | rfl) (by first | assumption | rfl) ?_
  refine xr_aloadn hc rfl rfl ?_
  refine xr_getfr hc rfl rfl (by first | assumption | rfl) (by first | assumption | rfl) ?_
  refine xr_callv1 hc rfl (by first | assumption | rfl) rfl rfl rfl (Nat.le_of_ble_eq_true rfl) (Nat.zero_le _) (Nat.zero_le _) ?_
  refine S_mbecome d2 c2 (by omega) (fun M1 y1 y2 y3 => ?_)
  refine xk_0 ?_
  refine xr_aloadn hc rfl rfl ?_
  refine xr_getfr hc rfl rfl (by first | assumption | rfl) (by first | assumption | rfl) ?_
  refine xr_aloadn hc rfl rfl ?_
  refine xr_getfr hc rfl rfl (by first | assumption | rfl) (by first | assumption | rfl) ?_
  refine xr_callv1 hc rfl (by first | assumption | rfl) rfl rfl rfl (Nat.le_of_ble_eq_true rfl) (Nat.zero_le _) (Nat.zero_le _) ?_
  refine S_mbecome d4 c4 (by omega) (fun M2 z1 z2 z3 => ?_)
  refine xk_0 ?_
  refine xr_aloadn hc rfl rfl ?_
  refine xr_aloadn hc rfl rfl ?_
  refine xr_getfi hc rfl (Or.inl rfl) (by first | assumption | rfl) ?_
  refine xr_putfi hc rfl rfl (by first | assumption | rfl) ?_
  refine xr_aloadn hc rfl rfl ?_
  refine xr_getfr hc rfl rfl (by first | assumption | rfl) (by first | assumption | rfl) ?_
  refine xr_iconst hc rfl ?_
  refine xr_aloadn hc rfl rfl ?_
  refine xr_getfr hc rfl rfl (by first | assumption | rfl) (by first | assumption | rfl) ?_
  refine xr_iconst hc rfl ?_
  refine xr_bipush hc rfl ?_
  refine xr_copy hc rfl rfl (by first | assumption | rfl) (by first | assumption | rfl) (by first | omega | (unfold dz_w; omega)) (by first | omega | (unfold dz_w; omega)) (by first | omega | (unfold dz_w; omega)) (by first | omega | (unfold dz_w; omega)) (by first | omega | (unfold dz_w; omega)) (by first | decide | (simp [dz_cats]; done) | exact Nat.le_of_ble_eq_true rfl) ?_
  refine xr_aloadn hc rfl rfl ?_
  refine xr_getfr hc rfl rfl (by first | assumption | rfl) (by first | assumption | rfl) ?_
  refine xr_iconst hc rfl ?_
  refine xr_aloadn hc rfl rfl ?_
  refine xr_getfr hc rfl rfl (by first | assumption | rfl) (by first | assumption | rfl) ?_
  refine xr_iconst hc rfl ?_
  refine xr_bipush hc rfl ?_
  refine xr_copy hc rfl rfl (by first | assumption | rfl) (by first | assumption | rfl) (by first | omega | (unfold dz_w; omega)) (by first | omega | (unfold dz_w; omega)) (by first | omega | (unfold dz_w; omega)) (by first | omega | (unfold dz_w; omega)) (by first | omega | (unfold dz_w; omega)) (by first | decide | (simp [dz_cats]; done) | exact Nat.le_of_ble_eq_true rfl) ?_
  refine xr_aloadn hc rfl rfl ?_
  refine xr_getfr hc rfl rfl (by first | assumption | rfl) (by first | assumption | rfl) ?_
  refine xr_iconst hc rfl ?_
  refine xr_aloadn hc rfl rfl ?_
  refine xr_getfr hc rfl rfl (by first | assumption | rfl) (by first | assumption | rfl) ?_
  refine xr_iconst hc rfl ?_
  refine xr_bipush hc rfl ?_
  refine xr_copy hc rfl rfl (by first | assumption | rfl) (by first | assumption | rfl) (by first | omega | (unfold dz_w; omega)) (by first | omega | (unfold dz_w; omega)) (by first | omega | (unfold dz_w; omega)) (by first | omega | (unfold dz_w; omega)) (by first | omega | (unfold dz_w; omega)) (by first | decide | (simp [dz_cats]; done) | exact Nat.le_of_ble_eq_true rfl) ?_
  refine xr_return hc rfl rfl (Nat.zero_le _) (Nat.zero_le _) ?_
  have e4 : Int.toNat 40 = 40 := rfl
  have e0 : Int.toNat 0 = 0 := rfl
  have yz : ∀ q2 k, (q2 < q ∨ q + 14 < q2) → M2 q2 k = M q2 k := fun q2 k u => by rw [z1 q2 k (by omega), y1 q2 k (by omega)]
  have cc : ∀ a k, 15 ≤ a → a ≤ 17 → k < n → (dz_cpy (dz_cpy (dz_cpy (dz_up M2 q 2 (M2 q0 2)) (q0 + 15) (q + 15) (Int.toNat 0) (Int.toNat 0) (Int.toNat 40)) (q0 + 16) (q + 16) (Int.toNat 0) (Int.toNat 0) (Int.toNat 40)) (q0 + 17) (q + 17) (Int.toNat 0) (Int.toNat 0) (Int.toNat 40)) (q + a) k = M (q0 + a) k := by
    intro a k u1 u2 hk
    simp only [dz_cpy, e4, e0]
    rcases (show a = 15 ∨ a = 16 ∨ a = 17 by omega) with rfl | rfl | rfl <;> repeat (first | rw [if_neg (by omega)] | rw [if_pos (by omega)] | rw [dz_up_ne (by omega), yz _ _ (by omega)] | (congr 1; omega))
  have ff : ∀ q2 k, q2 ≠ q → q2 ≠ q + 15 → q2 ≠ q + 16 → q2 ≠ q + 17 → (dz_cpy (dz_cpy (dz_cpy (dz_up M2 q 2 (M2 q0 2)) (q0 + 15) (q + 15) (Int.toNat 0) (Int.toNat 0) (Int.toNat 40)) (q0 + 16) (q + 16) (Int.toNat 0) (Int.toNat 0) (Int.toNat 40)) (q0 + 17) (q + 17) (Int.toNat 0) (Int.toNat 0) (Int.toNat 40)) q2 k = M2 q2 k := by
    intro q2 k u0 u1 u2 u3
    simp only [dz_cpy]
    rw [if_neg (by omega), if_neg (by omega), if_neg (by omega), dz_up_ne u0]
  refine hQ _ (fun q2 k u => by rw [ff q2 k (by omega) (by omega) (by omega) (by omega), yz q2 k (by omega)]) ⟨?_, ?_, ?_, h4, fun k hk => ?_, h6⟩
  · exact mrel_fr (mrel_same hw h1 y2 y3) (fun q2 k u1 u2 => by rw [ff _ _ (by omega) (by omega) (by omega) (by omega), z1 _ _ (by omega)])
  · exact mrel_fr (mrel_same hw (mrel_fr h2 (fun q2 k u1 u2 => y1 q2 k (by omega))) z2 z3) (fun q2 k u1 u2 => by rw [ff _ _ (by omega) (by omega) (by omega) (by omega)])
  · simp only [dz_cpy]
    rw [if_neg (by omega), if_neg (by omega), if_neg (by omega), dz_up_eq, yz _ _ (by omega), h3]
  · rw [cc 15 k (by omega) (by omega) hk, cc 16 k (by omega) (by omega) hk, cc 17 k (by omega) (by omega) hk]
    exact h5 k hk
set_option maxRecDepth 100000 in
theorem S_isMissing {xo : Nat → List Int} {d : Nat} {Q : dz_Q} {sh : List (Nat ⊕ (Nat × Nat))} {rf : Nat → Nat → Nat} {M : Nat → Nat → Int} {q : Nat} (hq : dr_at sh rf q) (h1 : M (q + 8) 0 = 0 → Q (some (dz_i 1)) (sh, rf, M)) (h2 : M (q + 8) 0 ≠ 0 → Q (some (dz_i 0)) (sh, rf, M)) : dz_E dz_pp xo (d + 1) 1 [dz_r q] (sh, rf, M) Q := by
  refine ⟨Nat.le_of_ble_eq_true rfl, ?_⟩
  have hc := dz_E_m dz_pp xo (d + 0)
  show dz_X (dz_E dz_pp xo (d + 0)) dz_pp xo (dz_pp 1) Q 0 [some (dz_r q)] [] 0 0 (sh, rf, M)
  obtain ⟨d0, d1, d2, d3, d4, d5, d6, d7, d8, d9, d10⟩ := id hq
  have m0 := d4.1
  have m1 := d2.1
  refine xr_aloadn hc rfl rfl ?_
  refine xr_getfr hc rfl rfl (by first | assumption | rfl) (by first | assumption | rfl) ?_
  refine xr_getfi hc rfl (Or.inl rfl) (by first | assumption | rfl) ?_
  refine xr_if_ne hc rfl (t := 14) rfl (fun b7 => ?_) (fun b7 => ?_)
  · refine xr_iconst hc rfl ?_
    refine xr_zreturn hc rfl rfl (Nat.zero_le _) (Nat.zero_le _) (by first | exact Or.inl rfl | exact Or.inr rfl | assumption) ?_
    first
      | exact h1 (by omega)
      | exact h2 (by omega)
  · refine xr_iconst hc rfl ?_
    refine xr_goto hc rfl (t := 15) rfl ?_
    refine xr_zreturn hc rfl rfl (Nat.zero_le _) (Nat.zero_le _) (by first | exact Or.inl rfl | exact Or.inr rfl | assumption) ?_
    first
      | exact h1 (by omega)
      | exact h2 (by omega)
set_option maxRecDepth 100000 in
theorem S_drop {xo : Nat → List Int} {d : Nat} {Q : dz_Q} {sh : List (Nat ⊕ (Nat × Nat))} {rf : Nat → Nat → Nat} {M : Nat → Nat → Int} {q : Nat} (hq : dr_at sh rf q) (hQ : Q none (sh, rf, dz_up M (q + 8) 0 0)) : dz_E dz_pp xo (d + 1) 2 [dz_r q] (sh, rf, M) Q := by
  refine ⟨Nat.le_of_ble_eq_true rfl, ?_⟩
  have hc := dz_E_m dz_pp xo (d + 0)
  show dz_X (dz_E dz_pp xo (d + 0)) dz_pp xo (dz_pp 2) Q 0 [some (dz_r q)] [] 0 0 (sh, rf, M)
  obtain ⟨d0, d1, d2, d3, d4, d5, d6, d7, d8, d9, d10⟩ := id hq
  have m0 := d4.1
  have m1 := d2.1
  refine xr_aloadn hc rfl rfl ?_
  refine xr_getfr hc rfl rfl (by first | assumption | rfl) (by first | assumption | rfl) ?_
  refine xr_iconst hc rfl ?_
  refine xr_putfi hc rfl rfl (by first | assumption | rfl) ?_
  refine xr_return hc rfl rfl (Nat.zero_le _) (Nat.zero_le _) ?_
  exact hQ
