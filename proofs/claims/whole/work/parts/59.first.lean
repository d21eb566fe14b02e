/-! The placing by first use: the class. Written by l2_59.py. -/
theorem lyN {f : Nat → Int} {p : Int} {n : Nat} : ly_at f p n 0 = -9 ↔ ∀ k, k < n → f k ≠ p := by
  have h := ly_free (f := f) (w := (n : Int)) (p := p) (by omega)
  rw [Int.toNat_natCast] at h
  rw [h]
  exact ⟨fun z k hk => z k (by omega), fun z k hk => z k (by omega)⟩
theorem ly_c {f g : Nat → Int} {p : Int} {n : Nat} (h : ∀ k, k < n → f k = g k) : ly_at f p n 0 = -9 ↔ ly_at g p n 0 = -9 := by
  rw [lyN, lyN]
  exact ⟨fun z k hk => by rw [← h k hk]; exact z k hk, fun z k hk => by rw [h k hk]; exact z k hk⟩
/-- how many of the first places are taken -/
def oc (f : Nat → Int) (n : Nat) : Nat → Nat
  | 0 => 0
  | P + 1 => oc f n P + if ly_at f (P : Int) n 0 = -9 then 0 else 1
theorem oc_full {f : Nat → Int} {n : Nat} : ∀ P : Nat, (∀ p : Nat, p < P → ly_at f (p : Int) n 0 ≠ -9) → oc f n P = P
  | 0, _ => rfl
  | P + 1, h => by
    unfold oc
    rw [oc_full P (fun p hp => h p (by omega)), if_neg (h P (by omega))]
theorem oc_succ {f : Nat → Int} {n : Nat} : ∀ P : Nat, oc f (n + 1) P ≤ oc f n P + if 0 ≤ f n ∧ f n < P then 1 else 0
  | 0 => by simp [oc]
  | P + 1 => by
    have ih := oc_succ (f := f) (n := n) P
    have h1 : ly_at f (P : Int) (n + 1) 0 = -9 ↔ (ly_at f (P : Int) n 0 = -9 ∧ f n ≠ P) := by
      rw [lyN, lyN]
      refine ⟨fun z => ⟨fun k hk => z k (by omega), z n (by omega)⟩, fun z k hk => ?_⟩
      by_cases e : k = n
      · rw [e]
        exact z.2
      · exact z.1 k (by omega)
    unfold oc
    by_cases a1 : ly_at f (P : Int) n 0 = -9
    · by_cases a2 : f n = P
      · rw [if_neg (fun z => (h1.mp z).2 a2), if_pos a1, if_pos (by omega)]
        rw [if_neg (by omega)] at ih
        omega
      · rw [if_pos (h1.mpr ⟨a1, a2⟩), if_pos a1]
        by_cases a3 : 0 ≤ f n ∧ f n < P
        · rw [if_pos a3] at ih
          rw [if_pos (by omega)]
          omega
        · rw [if_neg a3] at ih
          omega
    · rw [if_neg (fun z => a1 (h1.mp z).1), if_neg a1]
      by_cases a3 : 0 ≤ f n ∧ f n < P
      · rw [if_pos a3] at ih
        rw [if_pos (by omega)]
        omega
      · rw [if_neg a3] at ih
        omega
theorem oc_0 {f : Nat → Int} : ∀ P : Nat, oc f 0 P = 0
  | 0 => rfl
  | P + 1 => by
    unfold oc
    rw [oc_0 P, if_pos (lyN.mpr (fun k hk => by omega))]
theorem oc_le {f : Nat → Int} {P : Nat} : ∀ n : Nat, oc f n P ≤ n
  | 0 => by rw [oc_0]; omega
  | n + 1 => by
    have ih := oc_le (f := f) (P := P) n
    have h1 := oc_succ (f := f) (n := n) P
    split at h1 <;> omega
theorem oc_un {f : Nat → Int} {P i : Nat} (h9 : f i = -9) : ∀ n : Nat, i < n → oc f n P + 1 ≤ n
  | 0, h => by omega
  | n + 1, h => by
    have h1 := oc_succ (f := f) (n := n) P
    by_cases e : i = n
    · rw [e] at h9
      have h2 := oc_le (f := f) (P := P) n
      rw [if_neg (by omega)] at h1
      omega
    · have ih := oc_un (P := P) h9 n (by omega)
      split at h1 <;> omega
/-- there is a free place -/
theorem fr_ex {w pl : Int} {f : Nat → Int} {i : Nat} (hw : 0 ≤ w ∧ w ≤ 6) (hpl : 6 ≤ pl) (hi : (i : Int) < w) (h9 : f i = -9) : ∃ p : Nat, (p : Int) < pl ∧ ly_at f (p : Int) w.toNat 0 = -9 := by
  by_cases h : ∃ p : Nat, (p : Int) < pl ∧ ly_at f (p : Int) w.toNat 0 = -9
  · exact h
  · have h1 := oc_full (f := f) (n := w.toNat) 6 (fun p hp z => h ⟨p, by omega, z⟩)
    have h2 := oc_un (P := 6) h9 w.toNat (by omega)
    omega
/-- the first free place from a beat on -/
def cff (pl w : Int) (sp : Nat → Int) (t : Int) : Nat → Nat → Int
  | 0, _ => -9
  | f + 1, d => if ly_at sp ((t + d) % pl) w.toNat 0 = -9 then (t + d) % pl else cff pl w sp t f (d + 1)
theorem cff_c {pl w t : Int} {sp sp2 : Nat → Int} (h : ∀ k, k < w.toNat → sp k = sp2 k) : ∀ (f d : Nat), cff pl w sp t f d = cff pl w sp2 t f d
  | 0, _ => rfl
  | f + 1, d => by
    unfold cff
    have h1 := ly_c (p := (t + d) % pl) h
    by_cases e : ly_at sp ((t + d) % pl) w.toNat 0 = -9
    · rw [if_pos e, if_pos (h1.mp e)]
    · rw [if_neg e, if_neg (fun z => e (h1.mpr z)), cff_c h f (d + 1)]
theorem cff_at {pl w t : Int} {sp : Nat → Int} : ∀ (f d0 d : Nat), d0 ≤ d → d < d0 + f → ly_at sp ((t + d) % pl) w.toNat 0 = -9 → ∃ e : Nat, d0 ≤ e ∧ e ≤ d ∧ cff pl w sp t f d0 = (t + e) % pl ∧ ly_at sp ((t + e) % pl) w.toNat 0 = -9 ∧ ∀ g : Nat, d0 ≤ g → g < e → ly_at sp ((t + g) % pl) w.toNat 0 ≠ -9
  | 0, d0, d, h1, h2, _ => by omega
  | f + 1, d0, d, h1, h2, h3 => by
    unfold cff
    by_cases e : ly_at sp ((t + d0) % pl) w.toNat 0 = -9
    · rw [if_pos e]
      exact ⟨d0, by omega, h1, rfl, e, fun g h4 h5 => by omega⟩
    · rw [if_neg e]
      have hne : d0 ≠ d := fun z => e (by rw [z]; exact h3)
      obtain ⟨e2, e3, e4, e5, e6, e7⟩ := cff_at f (d0 + 1) d (by omega) (by omega) h3
      refine ⟨e2, by omega, e4, e5, e6, fun g h4 h5 => ?_⟩
      by_cases e8 : g = d0
      · rw [e8]
        exact e
      · exact e7 g (by omega) h5
/-- a free place, as an offset -/
theorem fr_off {w pl t : Int} {f : Nat → Int} {i : Nat} (hw : 0 ≤ w ∧ w ≤ 6) (hpl : 6 ≤ pl) (hi : (i : Int) < w) (h9 : f i = -9) : ∃ d : Nat, (d : Int) < pl ∧ ly_at f ((t + d) % pl) w.toNat 0 = -9 := by
  obtain ⟨p, h1, h2⟩ := fr_ex hw hpl hi h9
  have hd0 : 0 ≤ ((p : Int) - t) % pl := Int.emod_nonneg _ (by omega)
  have hd1 : ((p : Int) - t) % pl < pl := Int.emod_lt_of_pos _ (by omega)
  refine ⟨(((p : Int) - t) % pl).toNat, by omega, ?_⟩
  rw [show (((((p : Int) - t) % pl).toNat : Nat) : Int) = ((p : Int) - t) % pl by omega, Int.add_emod_emod, show t + ((p : Int) - t) = p by omega, Int.emod_eq_of_lt (by omega) h1]
  exact h2
theorem cff_ok {w pl t : Int} {f : Nat → Int} {i : Nat} (hw : 0 ≤ w ∧ w ≤ 6) (hpl : 6 ≤ pl) (hi : (i : Int) < w) (h9 : f i = -9) : 0 ≤ cff pl w f t pl.toNat 0 ∧ cff pl w f t pl.toNat 0 < pl ∧ ly_at f (cff pl w f t pl.toNat 0) w.toNat 0 = -9 := by
  obtain ⟨d, h1, h2⟩ := fr_off (t := t) hw hpl hi h9
  obtain ⟨e, e1, e2, e3, e4, e5⟩ := cff_at pl.toNat 0 d (by omega) (by omega) h2
  rw [e3]
  exact ⟨Int.emod_nonneg _ (by omega), Int.emod_lt_of_pos _ (by omega), e4⟩
def clay (pl w : Int) (sp : Nat → Int) (i : Nat) (t : Int) : Nat → Int := if sp i = -9 then fup sp i (cff pl w sp t pl.toNat 0) else sp
def ck_l (pl w : Int) : List (Nat × Int) → (Nat → Int) → Int → (Nat → Int) × Int
  | [], sp, t => (sp, t)
  | x :: l, sp, t => ck_l pl w l (clay pl w sp x.1 t) (t + wa (clay pl w sp x.1 t x.1) t pl + 1 + x.2)
def spok (w pl : Int) (sp : Nat → Int) : Prop := ∀ k : Nat, (k : Int) < w → sp k = -9 ∨ (0 ≤ sp k ∧ sp k < pl)
theorem clay_ok {w pl t : Int} {sp : Nat → Int} {i : Nat} (hw : 0 ≤ w ∧ w ≤ 6) (hpl : 6 ≤ pl) (hi : (i : Int) < w) (hs : spok w pl sp) : spok w pl (clay pl w sp i t) ∧ 0 ≤ clay pl w sp i t i ∧ clay pl w sp i t i < pl := by
  unfold clay
  by_cases h9 : sp i = -9
  · rw [if_pos h9]
    have hc := cff_ok (t := t) hw hpl hi h9
    refine ⟨fun k hk => ?_, by rw [fup_eq]; exact hc.1, by rw [fup_eq]; exact hc.2.1⟩
    by_cases e : k = i
    · rw [e, fup_eq]
      exact Or.inr ⟨hc.1, hc.2.1⟩
    · rw [fup_ne e]
      exact hs k hk
  · rw [if_neg h9]
    rcases hs i hi with z | z
    · exact absurd z h9
    · exact ⟨hs, z.1, z.2⟩
theorem clay_keep {w pl t : Int} {sp : Nat → Int} {i j : Nat} (h : sp j ≠ -9) : clay pl w sp i t j = sp j := by
  unfold clay
  split
  · rename_i h9
    rw [fup_ne (fun e => h (by rw [e]; exact h9))]
  · rfl
theorem ck_keep {w pl : Int} {j : Nat} : ∀ (l : List (Nat × Int)) (sp : Nat → Int) (t : Int), sp j ≠ -9 → (ck_l pl w l sp t).1 j = sp j
  | [], _, _, _ => rfl
  | x :: l, sp, t, h => by
    have h1 := clay_keep (w := w) (pl := pl) (t := t) (i := x.1) h
    show (ck_l pl w l (clay pl w sp x.1 t) _).1 j = sp j
    rw [ck_keep l _ _ (by rw [h1]; exact h), h1]
theorem ck_ok {w pl : Int} (hw : 0 ≤ w ∧ w ≤ 6) (hpl : 6 ≤ pl) : ∀ (l : List (Nat × Int)) (sp : Nat → Int) (t : Int), (∀ x, x ∈ l → (x.1 : Int) < w) → spok w pl sp → spok w pl (ck_l pl w l sp t).1
  | [], _, _, _, h => h
  | x :: l, sp, t, hx, h => ck_ok hw hpl l _ _ (fun y hy => hx y (List.mem_cons_of_mem _ hy)) (clay_ok hw hpl (hx x (List.mem_cons_self ..)) h).1
theorem ck_b {w pl : Int} {sp3 : Nat → Int} (hw : 0 ≤ w ∧ w ≤ 6) (hpl : 6 ≤ pl) : ∀ (l : List (Nat × Int)) (sp : Nat → Int) (t : Int), (∀ x, x ∈ l → (x.1 : Int) < w) → spok w pl sp → (∀ j, (ck_l pl w l sp t).1 j ≠ -9 → sp3 j = (ck_l pl w l sp t).1 j) → t_b pl sp3 l t = (ck_l pl w l sp t).2
  | [], _, _, _, _, _ => rfl
  | x :: l, sp, t, hx, h, h3 => by
    have h1 := clay_ok (t := t) hw hpl (hx x (List.mem_cons_self ..)) h
    have h2 : (ck_l pl w (x :: l) sp t).1 x.1 = clay pl w sp x.1 t x.1 := ck_keep l _ _ (by omega)
    have h4 : sp3 x.1 = clay pl w sp x.1 t x.1 := by rw [← h2]; exact h3 x.1 (by rw [h2]; omega)
    show t_b pl sp3 l (t + wa (sp3 x.1) t pl + 1 + x.2) = _
    rw [h4]
    exact ck_b hw hpl l _ _ (fun y hy => hx y (List.mem_cons_of_mem _ hy)) h1.1 h3
/-- the next free place from p on -/
def nf (w : Int) (sp : Nat → Int) : Nat → Nat → Nat
  | 0, p => p
  | f + 1, p => if ly_at sp (p : Int) w.toNat 0 = -9 then p else nf w sp f (p + 1)
theorem nf_in {w : Int} {sp : Nat → Int} : ∀ (f p : Nat), p ≤ nf w sp f p ∧ nf w sp f p ≤ p + f
  | 0, p => by
    show p ≤ p ∧ p ≤ p + 0
    omega
  | f + 1, p => by
    have ih := nf_in (w := w) (sp := sp) f (p + 1)
    unfold nf
    split <;> omega
def fillr (w : Int) (P : Nat) : Nat → Nat → Nat → (Nat → Int) → (Nat → Int)
  | 0, _, _, sp => sp
  | m + 1, i, q, sp => if sp i = -9 then fillr w P m (i + 1) (nf w sp (P - q) q) (fup sp i (nf w sp (P - q) q : Nat)) else fillr w P m (i + 1) q sp
theorem fillr_keep {w : Int} {P j : Nat} : ∀ (m i q : Nat) (sp : Nat → Int), sp j ≠ -9 → fillr w P m i q sp j = sp j
  | 0, _, _, _, _ => rfl
  | m + 1, i, q, sp, h => by
    unfold fillr
    split
    · rename_i h9
      have hj : j ≠ i := fun e => h (by rw [e]; exact h9)
      rw [fillr_keep m (i + 1) _ _ (by rw [fup_ne hj]; exact h), fup_ne hj]
    · exact fillr_keep m (i + 1) q sp h
theorem fillr_in {w : Int} {P W : Nat} (hP : P ≤ 9) : ∀ (m i q : Nat) (sp : Nat → Int), i + m = W → q ≤ P → (∀ k, k < W → (sp k = -9 ∧ i ≤ k) ∨ (0 ≤ sp k ∧ sp k ≤ 9)) → ∀ k, k < W → 0 ≤ fillr w P m i q sp k ∧ fillr w P m i q sp k ≤ 9
  | 0, i, q, sp, h, _, h2 => fun k hk => by
    rcases h2 k hk with z | z
    · omega
    · exact z
  | m + 1, i, q, sp, h, hq, h2 => by
    unfold fillr
    split
    · have hn := nf_in (w := w) (sp := sp) (P - q) q
      refine fillr_in hP m (i + 1) _ _ (by omega) (by omega) (fun k hk => ?_)
      by_cases e : k = i
      · rw [e, fup_eq]
        exact Or.inr (by omega)
      · rw [fup_ne e]
        rcases h2 k hk with z | z
        · exact Or.inl ⟨z.1, by omega⟩
        · exact Or.inr z
    · rename_i h9
      refine fillr_in hP m (i + 1) q sp (by omega) hq (fun k hk => ?_)
      rcases h2 k hk with z | z
      · by_cases e : k = i
        · exact absurd (by rw [← e]; exact z.1) h9
        · exact Or.inl ⟨z.1, by omega⟩
      · exact Or.inr z
def spf0 (s : Nat → Int) : Nat → Int := fun k => if k = 0 then s 5 else -9
def ck_sp (pl : Int) (kd wt nx : Nat → Int) (w : Int) (s : Nat → Int) (m : Nat) : Nat → Int := fillr w pl.toNat w.toNat 0 0 (ck_l pl w (t_l pl kd wt nx m s) (spf0 s) (s 1)).1
def o_clerk (rs : Nat → Int) (it : Nat → Nat → Int) (w pl : Int) (kd wt nx s : Nat → Int) (m r : Int) : Int × (Nat → Int) × (Nat → Nat → Int) := if r < 0 ∨ 5 < r ∨ m < 0 ∨ 12 < m then (-1, rs, it) else if w = 0 then (-4, rs, it) else ((ck_l pl w (t_l pl kd wt nx m.toNat s) (spf0 s) (s 1)).2 - s 1, fup rs r.toNat w, rup it r.toNat (ck_sp pl kd wt nx w s m.toNat))
set_option maxRecDepth 100000 in
theorem S_takeOff {xo : Nat → List Int} {d : Nat} {Q : dz_Q} {sh : List (Nat ⊕ (Nat × Nat))} {rf : Nat → Nat → Nat} {M : Nat → Nat → Int} {w : Int} (hl : cl sh rf) (h5 : M 54 5 = w) (hw : 1 ≤ w ∧ w ≤ 6) (hQ : ∀ M2 : Nat → Nat → Int, (∀ q2 k2, q2 ≠ 55 → M2 q2 k2 = M q2 k2) → M2 55 0 = M 55 0 → (∀ k : Nat, 1 ≤ k → (k : Int) < w → M2 55 k = -9) → Q none (sh, rf, M2)) : dz_E dz_pp xo (d + 1) 27 [dz_r 54] (sh, rf, M) Q := by
  refine ⟨Nat.le_of_ble_eq_true rfl, ?_⟩
  have hc := dz_E_m dz_pp xo (d + 0)
  show dz_X (dz_E dz_pp xo (d + 0)) dz_pp xo (dz_pp 27) Q 0 [some (dz_r 54), none] [] 0 0 (sh, rf, M)
  obtain ⟨c0, c1, c2, c3, c4, c5, c6, c7, c8, c9, c10, c11, c12, c13, c14, c15, c16, c17, c18, c19, c20, c21, c22, c23, c24, c25, c26, c27, c28, c29, c30, c31, c32, c33, c34, c35, c36⟩ := id hl
  have k0 : sh[54]? = some (.inl 2) := c28.1
  have k1 : rf 54 1 = 55 + 1 := c28.2.1
  have k2 : sh[55]? = some (.inr (0, 6)) := c28.2.2.1
  have k3 : rf 54 2 = 56 + 1 := c28.2.2.2.1
  have k4 : sh[56]? = some (.inr (0, 6)) := c28.2.2.2.2.1
  have k5 : rf 54 3 = 57 + 1 := c28.2.2.2.2.2.1
  have k6 : sh[57]? = some (.inr (0, 6)) := c28.2.2.2.2.2.2
  have k7 : rf 54 0 = 50 + 1 := c29
  have ht := c26
  have lp : ∀ (m_ : Nat) (i : Nat) (N : Nat → Nat → Int), (i : Int) + m_ = w → 1 ≤ i → (∀ q2 k2, q2 ≠ 55 → N q2 k2 = M q2 k2) → N 55 0 = M 55 0 → (∀ k, 1 ≤ k → k < i → N 55 k = -9) → dz_X (dz_E dz_pp xo (d + 0)) dz_pp xo (dz_pp 27) Q 2 [some (dz_r 54), some (dz_i (i : Int))] [] 0 0 (sh, rf, N) := by
    intro m_
    induction m_ with
    | zero =>
      intro i N hi hi1 h1 h2 h3
      have n5 : N 54 5 = w := by rw [h1 _ _ (by omega)]; exact h5
      refine xr_iloadn hc rfl rfl ?_
      refine xr_aloadn hc rfl rfl ?_
      refine xr_getfi hc rfl (Or.inl rfl) (by first | assumption | rfl) ?_
      rw [n5]
      refine xr_icmp_ge hc rfl (t := 24) rfl (fun b7 => ?_) (fun b7 => ?_)
      · refine xr_return hc rfl rfl (Nat.zero_le _) (Nat.zero_le _) ?_
        exact hQ N h1 h2 (fun k hk1 hk2 => h3 k hk1 (by omega))
      · omega
    | succ m_ ih =>
      intro i N hi hi1 h1 h2 h3
      have n5 : N 54 5 = w := by rw [h1 _ _ (by omega)]; exact h5
      refine xr_iloadn hc rfl rfl ?_
      refine xr_aloadn hc rfl rfl ?_
      refine xr_getfi hc rfl (Or.inl rfl) (by first | assumption | rfl) ?_
      rw [n5]
      refine xr_icmp_ge hc rfl (t := 24) rfl (fun b7 => ?_) (fun b7 => ?_)
      · omega
      · refine xr_aloadn hc rfl rfl ?_
        refine xr_getfr hc rfl rfl (by first | assumption | rfl) (by first | assumption | rfl) ?_
        refine xr_iloadn hc rfl rfl ?_
        refine xr_bipush hc rfl ?_
        refine xr_iastore hc rfl (by first | assumption | rfl) (by first | omega | (unfold dz_w; omega)) (by first | omega | (unfold dz_w; omega)) ?_
        rw [Int.toNat_natCast]
        refine xr_iincz1 hc rfl rfl (by first | exact dz_wid (by first | omega | (unfold dz_w; omega)) (by first | omega | (unfold dz_w; omega)) | rfl) ?_
        refine xr_goto hc rfl (t := 2) rfl ?_
        refine ih (i + 1) _ (by omega) (by omega) (fun q2 k2 u => by rw [dz_up_ne u, h1 _ _ u]) (by rw [dz_up_k (by omega)]; exact h2) (fun k hk1 hk2 => ?_)
        by_cases e : k = i
        · rw [e, dz_up_eq]
        · rw [dz_up_k e]
          exact h3 k hk1 (by omega)
  refine xr_iconst hc rfl ?_
  refine xr_istore1 hc rfl rfl ?_
  exact lp (w.toNat - 1) 1 M (by omega) (by omega) (fun _ _ _ => rfl) rfl (fun k h1 h2 => by omega)
set_option maxRecDepth 100000 in
theorem S_firstFreeFrom {xo : Nat → List Int} {d : Nat} {Q : dz_Q} {sh : List (Nat ⊕ (Nat × Nat))} {rf : Nat → Nat → Nat} {M : Nat → Nat → Int} {w pl t : Int} (hl : cl sh rf) (h5 : M 54 5 = w) (h6 : M 54 6 = pl) (hw : 0 ≤ w ∧ w ≤ 6) (hpl : 6 ≤ pl ∧ pl ≤ 9) (ht0 : 0 ≤ t ∧ t ≤ 990000) (hQ : Q (some (dz_i (cff pl w (M 55) t pl.toNat 0))) (sh, rf, M)) : dz_E dz_pp xo (d + 2) 30 [dz_r 54, dz_i t] (sh, rf, M) Q := by
  refine ⟨Nat.le_of_ble_eq_true rfl, ?_⟩
  have hc := dz_E_m dz_pp xo (d + 1)
  show dz_X (dz_E dz_pp xo (d + 1)) dz_pp xo (dz_pp 30) Q 0 [some (dz_r 54), some (dz_i t), none, none] [] 0 0 (sh, rf, M)
  obtain ⟨c0, c1, c2, c3, c4, c5, c6, c7, c8, c9, c10, c11, c12, c13, c14, c15, c16, c17, c18, c19, c20, c21, c22, c23, c24, c25, c26, c27, c28, c29, c30, c31, c32, c33, c34, c35, c36⟩ := id hl
  have k0 : sh[54]? = some (.inl 2) := c28.1
  have k1 : rf 54 1 = 55 + 1 := c28.2.1
  have k2 : sh[55]? = some (.inr (0, 6)) := c28.2.2.1
  have k3 : rf 54 2 = 56 + 1 := c28.2.2.2.1
  have k4 : sh[56]? = some (.inr (0, 6)) := c28.2.2.2.2.1
  have k5 : rf 54 3 = 57 + 1 := c28.2.2.2.2.2.1
  have k6 : sh[57]? = some (.inr (0, 6)) := c28.2.2.2.2.2.2
  have k7 : rf 54 0 = 50 + 1 := c29
  have ht := c26
  have lp : ∀ (m_ : Nat) (i : Nat) (e : Option dz_V), (i : Int) + m_ = pl → cff pl w (M 55) t pl.toNat 0 = cff pl w (M 55) t m_ i → dz_X (dz_E dz_pp xo (d + 1)) dz_pp xo (dz_pp 30) Q 2 [some (dz_r 54), some (dz_i t), some (dz_i (i : Int)), e] [] 0 0 (sh, rf, M) := by
    intro m_
    induction m_ with
    | zero =>
      intro i e hi hc2
      have hc3 : cff pl w (M 55) t pl.toNat 0 = -9 := hc2
      rw [hc3] at hQ
      refine xr_iloadn hc rfl rfl ?_
      refine xr_aloadn hc rfl rfl ?_
      refine xr_getfi hc rfl (Or.inl rfl) (by first | assumption | rfl) ?_
      rw [h6]
      refine xr_icmp_ge hc rfl (t := 44) rfl (fun b7 => ?_) (fun b7 => ?_)
      · refine xr_bipush hc rfl ?_
        refine xr_ireturn hc rfl rfl (Nat.zero_le _) (Nat.zero_le _) ?_
        exact hQ
      · omega
    | succ m_ ih =>
      intro i e hi hc2
      have em : Int.tmod (t + (i : Int)) pl = (t + (i : Int)) % pl := Int.tmod_eq_emod_of_nonneg (by omega)
      have ec : cff pl w (M 55) t (m_ + 1) i = if ly_at (M 55) ((t + i) % pl) w.toNat 0 = -9 then (t + i) % pl else cff pl w (M 55) t m_ (i + 1) := rfl
      rw [ec] at hc2
      have hfr := ly_free (f := M 55) (p := (t + (i : Int)) % pl) hw.1
      refine xr_iloadn hc rfl rfl ?_
      refine xr_aloadn hc rfl rfl ?_
      refine xr_getfi hc rfl (Or.inl rfl) (by first | assumption | rfl) ?_
      rw [h6]
      refine xr_icmp_ge hc rfl (t := 44) rfl (fun b7 => ?_) (fun b7 => ?_)
      · omega
      · refine xr_iloadn hc rfl rfl ?_
        refine xr_iloadn hc rfl rfl ?_
        refine xr_iaddz hc rfl (by first | exact dz_wid (by first | omega | (unfold dz_w; omega)) (by first | omega | (unfold dz_w; omega)) | rfl) ?_
        refine xr_aloadn hc rfl rfl ?_
        refine xr_getfi hc rfl (Or.inl rfl) (by first | assumption | rfl) ?_
        rw [h6]
        refine xr_irem hc rfl (by first | omega | (unfold dz_w; omega)) ?_
        rw [em]
        refine xr_istore3 hc rfl rfl ?_
        refine xr_aloadn hc rfl rfl ?_
        refine xr_getfr hc rfl rfl (by first | assumption | rfl) (by first | assumption | rfl) ?_
        refine xr_aloadn hc rfl rfl ?_
        refine xr_getfi hc rfl (Or.inl rfl) (by first | assumption | rfl) ?_
        rw [h5]
        refine xr_iloadn hc rfl rfl ?_
        refine xr_calls3 hc rfl (by decide) rfl rfl rfl (Nat.le_of_ble_eq_true rfl) (Nat.zero_le _) (Nat.zero_le _) ?_
        refine S_lies k2 (by omega) (by omega) (fun y1 => ?_) (fun y0 y1 y2 => ?_)
        · refine xk_1 ?_
          refine xr_bipush hc rfl ?_
          refine xr_icmp_ne hc rfl (t := 38) rfl (fun b33 => ?_) (fun b33 => ?_)
          · refine xr_iincz2 hc rfl rfl (by first | exact dz_wid (by first | omega | (unfold dz_w; omega)) (by first | omega | (unfold dz_w; omega)) | rfl) ?_
            refine xr_goto hc rfl (t := 2) rfl ?_
            first
              | (exfalso; omega)
              | (rw [if_neg (fun z => (hfr.mp z) y0 y1 y2)] at hc2
                 exact ih (i + 1) _ (by omega) hc2)
          · refine xr_iloadn hc rfl rfl ?_
            refine xr_ireturn hc rfl rfl (Nat.zero_le _) (Nat.zero_le _) ?_
            first
              | (rw [if_pos (hfr.mpr y1)] at hc2; rw [hc2] at hQ; exact hQ)
              | (exfalso; omega)
        · refine xk_1 ?_
          refine xr_bipush hc rfl ?_
          refine xr_icmp_ne hc rfl (t := 38) rfl (fun b33 => ?_) (fun b33 => ?_)
          · refine xr_iincz2 hc rfl rfl (by first | exact dz_wid (by first | omega | (unfold dz_w; omega)) (by first | omega | (unfold dz_w; omega)) | rfl) ?_
            refine xr_goto hc rfl (t := 2) rfl ?_
            first
              | (exfalso; omega)
              | (rw [if_neg (fun z => (hfr.mp z) y0 y1 y2)] at hc2
                 exact ih (i + 1) _ (by omega) hc2)
          · refine xr_iloadn hc rfl rfl ?_
            refine xr_ireturn hc rfl rfl (Nat.zero_le _) (Nat.zero_le _) ?_
            first
              | (rw [if_pos (hfr.mpr y1)] at hc2; rw [hc2] at hQ; exact hQ)
              | (exfalso; omega)
  refine xr_iconst hc rfl ?_
  refine xr_istore2 hc rfl rfl ?_
  exact lp pl.toNat 0 _ (by omega) rfl
