/-! The best placing, purely: a placing has a rank, what is waited first, then its places in order. -/
def key (f : Nat → Int) : Nat → Int
  | 0 => 0
  | k + 1 => key f k * 10 + f k
def dig (f : Nat → Int) (n : Nat) : Prop := ∀ k, k < n → 0 ≤ f k ∧ f k ≤ 9
theorem key_in {f : Nat → Int} : ∀ n : Nat, n ≤ 6 → dig f n → 0 ≤ key f n ∧ key f n ≤ 999999 ∧ key f n + 1 ≤ ((10 ^ n : Nat) : Int)
  | 0, _, _ => by
    show (0 : Int) ≤ 0 ∧ (0 : Int) ≤ 999999 ∧ (0 : Int) + 1 ≤ 1
    omega
  | n + 1, hn, h => by
    have ih := key_in n (by omega) (fun k hk => h k (by omega))
    have h1 := h n (by omega)
    have h2 : ((10 ^ (n + 1) : Nat) : Int) = ((10 ^ n : Nat) : Int) * 10 := by rw [Nat.pow_succ, Int.natCast_mul]; rfl
    have h3 : ((10 ^ (n + 1) : Nat) : Int) ≤ ((10 ^ 6 : Nat) : Int) := Int.ofNat_le.mpr (Nat.pow_le_pow_right (by omega) hn)
    have h4 : ((10 ^ 6 : Nat) : Int) = 1000000 := rfl
    unfold key
    omega
theorem key_c {f g : Nat → Int} : ∀ n : Nat, (∀ k, k < n → f k = g k) → key f n = key g n
  | 0, _ => rfl
  | n + 1, h => by
    unfold key
    rw [key_c n (fun k hk => h k (by omega)), h n (by omega)]
theorem key_lt {f g : Nat → Int} {i : Nat} (h1 : ∀ k, k < i → f k = g k) (h2 : f i < g i) : ∀ m : Nat, dig f (i + 1 + m) → dig g (i + 1 + m) → key f (i + 1 + m) + 1 ≤ key g (i + 1 + m)
  | 0, _, _ => by
    show key f i * 10 + f i + 1 ≤ key g i * 10 + g i
    rw [key_c i h1]
    omega
  | m + 1, d1, d2 => by
    have ih := key_lt h1 h2 m (fun k hk => d1 k (by omega)) (fun k hk => d2 k (by omega))
    have e1 := d1 (i + 1 + m) (by omega)
    have e2 := d2 (i + 1 + m) (by omega)
    show key f (i + 1 + m) * 10 + f (i + 1 + m) + 1 ≤ key g (i + 1 + m) * 10 + g (i + 1 + m)
    omega
theorem key_ltn {f g : Nat → Int} {i n : Nat} (hi : i < n) (h1 : ∀ k, k < i → f k = g k) (h2 : f i < g i) (d1 : dig f n) (d2 : dig g n) : key f n < key g n := by
  have h := key_lt h1 h2 (n - (i + 1))
  rw [show i + 1 + (n - (i + 1)) = n by omega] at h
  have h3 := h d1 d2
  omega
theorem key_eq {f g : Nat → Int} : ∀ n : Nat, dig f n → dig g n → key f n = key g n → ∀ k, k < n → f k = g k
  | 0, _, _, _ => fun k hk => by omega
  | n + 1, d1, d2, h => by
    have e1 := d1 n (by omega)
    have e2 := d2 n (by omega)
    have h2 : key f n * 10 + f n = key g n * 10 + g n := h
    have ih := key_eq n (fun k hk => d1 k (by omega)) (fun k hk => d2 k (by omega)) (by omega)
    intro k hk
    by_cases e : k = n
    · rw [e]
      omega
    · exact ih k (by omega)
/-- placings: no two words at one place; whole ones; those that go on from a part -/
def pinj (W : Nat) (sp : Nat → Int) : Prop := ∀ j k : Nat, j < W → k < W → sp j ≠ -9 → sp j = sp k → j = k
def vld (W : Nat) (pl : Int) (f : Nat → Int) : Prop := (∀ k, k < W → 0 ≤ f k ∧ f k < pl) ∧ pinj W f
def ext (W : Nat) (sp f : Nat → Int) : Prop := ∀ k, k < W → sp k ≠ -9 → f k = sp k
theorem vld_dig {W : Nat} {pl : Int} {f : Nat → Int} (hpl : pl ≤ 9) (h : vld W pl f) : dig f W := fun k hk => by
  have z := h.1 k hk
  omega
theorem ext_fup {W : Nat} {sp f : Nat → Int} {i : Nat} {p : Int} (h9 : sp i = -9) : ext W (fup sp i p) f ↔ ((i < W → p ≠ -9 → f i = p) ∧ ext W sp f) := by
  refine ⟨fun h => ⟨fun hi hp => ?_, fun k hk h1 => ?_⟩, fun h k hk h1 => ?_⟩
  · have z := h i hi (by rw [fup_eq]; exact hp)
    rw [fup_eq] at z
    exact z
  · have hki : k ≠ i := fun e => h1 (by rw [e]; exact h9)
    have z := h k hk (by rw [fup_ne hki]; exact h1)
    rw [fup_ne hki] at z
    exact z
  · by_cases e : k = i
    · rw [e, fup_eq] at h1
      rw [e, fup_eq]
      exact h.1 (by omega) h1
    · rw [fup_ne e] at h1
      rw [fup_ne e]
      exact h.2 k hk h1
/-- where a whole placing lays an open word is free -/
theorem ext_free {w pl : Int} {sp f : Nat → Int} {i : Nat} (hi : i < w.toNat) (h9 : sp i = -9) (hv : vld w.toNat pl f) (he : ext w.toNat sp f) : ly_at sp (f i) w.toNat 0 = -9 := by
  refine lyN.mpr (fun k hk e => ?_)
  have h0 := hv.1 i hi
  have hk9 : sp k ≠ -9 := by omega
  have h1 := he k hk hk9
  have h2 := hv.2 k i hk hi (by rw [h1]; exact hk9) (by rw [h1, e])
  rw [h2] at hk9
  exact hk9 h9
theorem pinj_fup {w : Int} {sp : Nat → Int} {i : Nat} {p : Int} (h : pinj w.toNat sp) (hf : ly_at sp p w.toNat 0 = -9) : pinj w.toNat (fup sp i p) := by
  have hf2 := lyN.mp hf
  intro j k hj hk h9 e
  by_cases ej : j = i
  · by_cases ek : k = i
    · rw [ej, ek]
    · rw [ej, fup_eq, fup_ne ek] at e
      exact absurd e.symm (hf2 k hk)
  · by_cases ek : k = i
    · rw [ek, fup_eq, fup_ne ej] at e
      exact absurd e (hf2 j hj)
    · rw [fup_ne ej, fup_ne ek] at e
      rw [fup_ne ej] at h9
      exact h j k hj hk h9 e
/-- the rest filled up: a whole placing, of all those the first in order -/
theorem fillr_min {w pl : Int} (hw : 0 ≤ w ∧ w ≤ 6) (hpl : 6 ≤ pl ∧ pl ≤ 9) : ∀ (m i q : Nat) (sp : Nat → Int), i + m = w.toNat → q ≤ pl.toNat → spok w pl sp → pinj w.toNat sp → (∀ k, k < i → sp k ≠ -9) → (∀ p : Nat, p < q → ly_at sp (p : Int) w.toNat 0 ≠ -9) → vld w.toNat pl (fillr w pl.toNat m i q sp) ∧ ext w.toNat sp (fillr w pl.toNat m i q sp) ∧ ∀ f, vld w.toNat pl f → ext w.toNat sp f → key (fillr w pl.toNat m i q sp) w.toNat ≤ key f w.toNat
  | 0, i, q, sp, hi, hq, hs, hj, hl, hoc => by
    have hv : vld w.toNat pl sp := ⟨fun k hk => by
      rcases hs k (by omega) with z | z
      · exact absurd z (hl k (by omega))
      · exact z, hj⟩
    refine ⟨hv, fun k hk h9 => rfl, fun f hf he => ?_⟩
    show key sp w.toNat ≤ key f w.toNat
    rw [key_c w.toNat (fun k hk => he k hk (hl k (by omega)))]
    exact Int.le_refl _
  | m + 1, i, q, sp, hi, hq, hs, hj, hl, hoc => by
    unfold fillr
    by_cases h9 : sp i = -9
    · rw [if_pos h9]
      obtain ⟨p, hp1, hp2⟩ := fr_ex (pl := pl) hw hpl.1 (i := i) (by omega) h9
      have hge : q ≤ p := by
        by_cases e : q ≤ p
        · exact e
        · exact absurd hp2 (hoc p (by omega))
      obtain ⟨r1, r2, r3⟩ := nf_at (pl.toNat - q) q p hge (by omega) hp2
      have r4 := nf_in (w := w) (sp := sp) (pl.toNat - q) q
      obtain ⟨r, hr⟩ : ∃ r, r = nf w sp (pl.toNat - q) q := ⟨_, rfl⟩
      rw [← hr] at r1 r2 r3 r4 ⊢
      have hocr : ∀ g : Nat, g < r → ly_at sp (g : Int) w.toNat 0 ≠ -9 := fun g hg => by
        by_cases e : g < q
        · exact hoc g e
        · exact r3 g (by omega) hg
      have hsk : spok w pl (fup sp i (r : Int)) := fun k hk => by
        by_cases e : k = i
        · rw [e, fup_eq]
          exact Or.inr (by omega)
        · rw [fup_ne e]
          exact hs k hk
      have hlk : ∀ k, k < i + 1 → fup sp i (r : Int) k ≠ -9 := fun k hk => by
        by_cases e : k = i
        · rw [e, fup_eq]
          omega
        · rw [fup_ne e]
          exact hl k (by omega)
      obtain ⟨a1, a2, a3⟩ := fillr_min hw hpl m (i + 1) r (fup sp i (r : Int)) (by omega) (by omega) hsk (pinj_fup hj r2) hlk (fun g hg => ly_fup h9 (by omega) (hocr g hg))
      have hx := (ext_fup (f := fillr w pl.toNat m (i + 1) r (fup sp i (r : Int))) (p := (r : Int)) h9).mp a2
      refine ⟨a1, hx.2, fun f hf he => ?_⟩
      have hfi := ext_free (i := i) (by omega) h9 hf he
      have hf0 := hf.1 i (by omega)
      by_cases e : f i = r
      · exact a3 f hf ((ext_fup h9).mpr ⟨fun _ _ => e, he⟩)
      · have hlt : (r : Int) < f i := by
          by_cases e2 : (r : Int) ≤ f i
          · omega
          · have z := hocr (f i).toNat (by omega)
            rw [show (((f i).toNat : Nat) : Int) = f i by omega] at z
            exact absurd hfi z
        have hfr : fillr w pl.toNat m (i + 1) r (fup sp i (r : Int)) i = r := hx.1 (by omega) (by omega)
        have z := key_ltn (n := w.toNat) (i := i) (f := fillr w pl.toNat m (i + 1) r (fup sp i (r : Int))) (g := f) (by omega) (fun k hk => by rw [hx.2 k (by omega) (hl k hk), he k (by omega) (hl k hk)]) (by rw [hfr]; exact hlt) (vld_dig (by omega) a1) (vld_dig (by omega) hf)
        omega
    · rw [if_neg h9]
      exact fillr_min hw hpl m (i + 1) q sp (by omega) hq hs hj (fun k hk => by
        by_cases e : k = i
        · rw [e]
          exact h9
        · exact hl k (by omega)) hoc
/-- the rank of a whole placing, if so much is waited ahead of some reads -/
def rnk (pl : Int) (W : Nat) (f : Nat → Int) (l : List (Nat × Int)) (t u : Int) : Int := (u + t_w pl f l t) * 1000000 + key f W
theorem rnk_app {pl : Int} {W : Nat} {sp f : Nat → Int} {l m : List (Nat × Int)} {t u : Int} (h : ∀ x, x ∈ l → f x.1 = sp x.1) : rnk pl W f (l ++ m) t u = rnk pl W f m (t_b pl sp l t) (u + t_w pl sp l t) := by
  unfold rnk
  rw [t_w_app, t_w_c l t h, t_b_c l t h]
  congr 2
  omega
/-- the least of all, from a part on -/
def lst1 (w pl : Int) (l : List (Nat × Int)) (sp : Nat → Int) (t : Int) (f : Nat → Int) : Prop := vld w.toNat pl f ∧ ext w.toNat sp f ∧ ∀ g, vld w.toNat pl g → ext w.toNat sp g → rnk pl w.toNat f l t 0 ≤ rnk pl w.toNat g l t 0
theorem lst1_one {w pl : Int} {l : List (Nat × Int)} {sp f g : Nat → Int} {t : Int} (hw : w ≤ 6) (hpl : 6 ≤ pl ∧ pl ≤ 9) (h1 : lst1 w pl l sp t f) (h2 : lst1 w pl l sp t g) : ∀ k, k < w.toNat → f k = g k := by
  have a := h1.2.2 g h2.1 h2.2.1
  have b := h2.2.2 f h1.1 h1.2.1
  have kf := key_in w.toNat (by omega) (vld_dig hpl.2 h1.1)
  have kg := key_in w.toNat (by omega) (vld_dig hpl.2 h2.1)
  unfold rnk at a b
  exact key_eq w.toNat (vld_dig hpl.2 h1.1) (vld_dig hpl.2 h2.1) (by omega)
noncomputable def lsp (w pl : Int) (l : List (Nat × Int)) (sp : Nat → Int) (t : Int) : Nat → Int := @Classical.epsilon (Nat → Int) ⟨fun _ => 0⟩ (fun f => lst1 w pl l sp t f)
theorem lsp_ok {w pl : Int} {l : List (Nat × Int)} {sp f : Nat → Int} {t : Int} (h : lst1 w pl l sp t f) : lst1 w pl l sp t (lsp w pl l sp t) := @Classical.epsilon_spec (Nat → Int) (fun f => lst1 w pl l sp t f) ⟨f, h⟩
noncomputable def o_least (rs : Nat → Int) (it : Nat → Nat → Int) (w pl : Int) (kd wt nx s : Nat → Int) (m r : Int) : Int × (Nat → Int) × (Nat → Nat → Int) := if r < 0 ∨ 5 < r ∨ m < 0 ∨ 12 < m then (-1, rs, it) else if w = 0 then (-4, rs, it) else (t_at pl kd wt nx (lsp w pl (t_l pl kd wt nx m.toNat s) (spf0 s) (s 1)) m.toNat s, fup rs r.toNat w, rup it r.toNat (lsp w pl (t_l pl kd wt nx m.toNat s) (spf0 s) (s 1)))
