/-! Steps to come, purely: the state behind k steps, what they read, the beats. -/
/-- at most k steps -/
def t_run (pl : Int) (kd wt nx : Nat → Int) : Nat → (Nat → Int) → (Nat → Int)
  | 0, s => s
  | k + 1, s => if s 3 = -9 then s else t_run pl kd wt nx k (stp pl kd wt nx s)
/-- what one step reads: the word, the work behind it -/
def t_one (kd wt s : Nat → Int) : List (Nat × Int) := if kd (s 3).toNat = 1 ∨ kd (s 3).toNat = 3 ∨ kd (s 3).toNat = 4 then [((s 3).toNat, 0), ((wt (s 3).toNat).toNat, wk (kd (s 3).toNat) (s (11 + (wt (s 3).toNat).toNat)))] else [((s 3).toNat, wk (kd (s 3).toNat) (s (11 + (wt (s 3).toNat).toNat)))]
def t_l (pl : Int) (kd wt nx : Nat → Int) : Nat → (Nat → Int) → List (Nat × Int)
  | 0, _ => []
  | k + 1, s => if s 3 = -9 then [] else t_one kd wt s ++ t_l pl kd wt nx k (stp pl kd wt nx s)
/-- the beat behind reads -/
def t_b (pl : Int) (sp : Nat → Int) : List (Nat × Int) → Int → Int
  | [], t => t
  | x :: l, t => t_b pl sp l (t + wa (sp x.1) t pl + 1 + x.2)
/-- how much is waited -/
def t_w (pl : Int) (sp : Nat → Int) : List (Nat × Int) → Int → Int
  | [], _ => 0
  | x :: l, t => wa (sp x.1) t pl + t_w pl sp l (t + wa (sp x.1) t pl + 1 + x.2)
def t_k : List (Nat × Int) → Int
  | [] => 0
  | x :: l => x.2 + t_k l
theorem t_b_app (pl : Int) (sp : Nat → Int) : ∀ (l m : List (Nat × Int)) (t : Int), t_b pl sp (l ++ m) t = t_b pl sp m (t_b pl sp l t)
  | [], _, _ => rfl
  | x :: l, m, t => by
    show t_b pl sp (l ++ m) _ = _
    rw [t_b_app pl sp l m]
    rfl
theorem t_w_app (pl : Int) (sp : Nat → Int) : ∀ (l m : List (Nat × Int)) (t : Int), t_w pl sp (l ++ m) t = t_w pl sp l t + t_w pl sp m (t_b pl sp l t)
  | [], m, t => by
    show t_w pl sp m t = 0 + t_w pl sp m t
    omega
  | x :: l, m, t => by
    show wa (sp x.1) t pl + t_w pl sp (l ++ m) _ = wa (sp x.1) t pl + t_w pl sp l _ + t_w pl sp m (t_b pl sp l _)
    rw [t_w_app pl sp l m]
    omega
theorem t_k_app : ∀ (l m : List (Nat × Int)), t_k (l ++ m) = t_k l + t_k m
  | [], m => by
    show t_k m = 0 + t_k m
    omega
  | x :: l, m => by
    show x.2 + t_k (l ++ m) = x.2 + t_k l + t_k m
    rw [t_k_app l m]
    omega
theorem t_b_eq (pl : Int) (sp : Nat → Int) : ∀ (l : List (Nat × Int)) (t : Int), t_b pl sp l t = t + t_w pl sp l t + l.length + t_k l
  | [], t => by
    show t = t + 0 + ((0 : Nat) : Int) + 0
    omega
  | x :: l, t => by
    show t_b pl sp l _ = t + (wa (sp x.1) t pl + t_w pl sp l _) + ((l.length + 1 : Nat) : Int) + (x.2 + t_k l)
    rw [t_b_eq pl sp l]
    omega
theorem t_b_c {pl : Int} {sp sp2 : Nat → Int} : ∀ (l : List (Nat × Int)) (t : Int), (∀ x, x ∈ l → sp x.1 = sp2 x.1) → t_b pl sp l t = t_b pl sp2 l t
  | [], _, _ => rfl
  | x :: l, t, h => by
    show t_b pl sp l _ = t_b pl sp2 l _
    rw [h x (List.mem_cons_self ..), t_b_c l _ (fun y hy => h y (List.mem_cons_of_mem _ hy))]
theorem t_w_c {pl : Int} {sp sp2 : Nat → Int} : ∀ (l : List (Nat × Int)) (t : Int), (∀ x, x ∈ l → sp x.1 = sp2 x.1) → t_w pl sp l t = t_w pl sp2 l t
  | [], _, _ => rfl
  | x :: l, t, h => by
    show wa (sp x.1) t pl + t_w pl sp l _ = wa (sp2 x.1) t pl + t_w pl sp2 l _
    rw [h x (List.mem_cons_self ..), t_w_c l _ (fun y hy => h y (List.mem_cons_of_mem _ hy))]
theorem t_b_in {pl : Int} {sp : Nat → Int} (hpl : 6 ≤ pl ∧ pl ≤ 9) : ∀ (l : List (Nat × Int)) (t : Int), (∀ x, x ∈ l → 0 ≤ x.2 ∧ x.2 ≤ 11) → t ≤ t_b pl sp l t ∧ t_b pl sp l t ≤ t + 20 * l.length
  | [], t, _ => by
    show t ≤ t ∧ t ≤ t + 20 * ((0 : Nat) : Int)
    omega
  | x :: l, t, h => by
    have h1 := h x (List.mem_cons_self ..)
    have h2 := wa_in (p := sp x.1) (b := t) (pl := pl) (by omega)
    have h3 := t_b_in (sp := sp) hpl l (t + wa (sp x.1) t pl + 1 + x.2) (fun y hy => h y (List.mem_cons_of_mem _ hy))
    show t ≤ t_b pl sp l _ ∧ t_b pl sp l _ ≤ t + 20 * ((l.length + 1 : Nat) : Int)
    omega
theorem t_w_in {pl : Int} {sp : Nat → Int} (hpl : 6 ≤ pl ∧ pl ≤ 9) : ∀ (l : List (Nat × Int)) (t : Int), 0 ≤ t_w pl sp l t ∧ t_w pl sp l t ≤ 9 * l.length
  | [], t => by
    show (0 : Int) ≤ 0 ∧ (0 : Int) ≤ 9 * ((0 : Nat) : Int)
    omega
  | x :: l, t => by
    have h2 := wa_in (p := sp x.1) (b := t) (pl := pl) (by omega)
    have h3 := t_w_in (sp := sp) hpl l (t + wa (sp x.1) t pl + 1 + x.2)
    show 0 ≤ wa (sp x.1) t pl + t_w pl sp l _ ∧ wa (sp x.1) t pl + t_w pl sp l _ ≤ 9 * ((l.length + 1 : Nat) : Int)
    omega
theorem t_k_in : ∀ (l : List (Nat × Int)), (∀ x, x ∈ l → 0 ≤ x.2 ∧ x.2 ≤ 11) → 0 ≤ t_k l ∧ t_k l ≤ 11 * l.length
  | [], _ => by
    show (0 : Int) ≤ 0 ∧ (0 : Int) ≤ 11 * ((0 : Nat) : Int)
    omega
  | x :: l, h => by
    have h1 := h x (List.mem_cons_self ..)
    have h3 := t_k_in l (fun y hy => h y (List.mem_cons_of_mem _ hy))
    show 0 ≤ x.2 + t_k l ∧ x.2 + t_k l ≤ 11 * ((l.length + 1 : Nat) : Int)
    omega
/-- two states that go the same way, wherever the words lie -/
def t_eq (w : Int) (s s2 : Nat → Int) : Prop := s 2 = s2 2 ∧ s 3 = s2 3 ∧ ∀ i : Nat, (i : Int) < w → s (11 + i) = s2 (11 + i)
theorem t_eq_refl (w : Int) (s : Nat → Int) : t_eq w s s := ⟨rfl, rfl, fun _ _ => rfl⟩
/-- the word that is due, and its other one -/
theorem t_due {w pl B : Int} {kd wt nx s : Nat → Int} (hp : pgok w pl kd wt nx) (hs : stok w pl B s) : ((s 3).toNat : Int) < w ∧ 0 ≤ kd (s 3).toNat ∧ kd (s 3).toNat ≤ 5 ∧ 0 ≤ wt (s 3).toNat ∧ ((wt (s 3).toNat).toNat : Int) < w ∧ (wt (s 3).toNat).toNat < 6 ∧ 0 ≤ s (11 + (wt (s 3).toNat).toNat) ∧ s (11 + (wt (s 3).toNat).toNat) ≤ 99 := by
  obtain ⟨p1, p2, p3, p4, p5⟩ := id hp
  obtain ⟨s0, s1, s2, s3, s4, s5, s6, s7, s8⟩ := id hs
  have hi : ((s 3).toNat : Int) < w := by omega
  obtain ⟨k1, k2, k3, k4, k5, k6⟩ := p5 (s 3).toNat hi
  have hoo : ((wt (s 3).toNat).toNat : Int) < w := by omega
  obtain ⟨c1, c2, c3, c4, c5, c6⟩ := s8 (wt (s 3).toNat).toNat hoo
  omega
theorem t_eq_stp {w pl B : Int} {kd wt nx s s2 : Nat → Int} (hp : pgok w pl kd wt nx) (hs : stok w pl B s) (h : t_eq w s s2) : t_eq w (stp pl kd wt nx s) (stp pl kd wt nx s2) := by
  obtain ⟨h1, h2, h3⟩ := h
  obtain ⟨d1, d2, d3, d4, d5, d6, d7, d8⟩ := t_due hp hs
  have hw6 := hp.2.1
  refine ⟨?_, ?_, fun i hi => ?_⟩
  · show su (kd (s 3).toNat) (s 2) (s (11 + (wt (s 3).toNat).toNat)) = su (kd (s2 3).toNat) (s2 2) (s2 (11 + (wt (s2 3).toNat).toNat))
    rw [← h2, ← h1, ← h3 _ d5]
  · show du kd wt nx (s 2) (s 3).toNat = du kd wt nx (s2 2) (s2 3).toNat
    rw [← h2, ← h1]
  · rw [stp_v (by omega), stp_v (by omega), ← h2, ← h1, h3 i hi]
theorem t_one_c {w pl B : Int} {kd wt nx s s2 : Nat → Int} (hp : pgok w pl kd wt nx) (hs : stok w pl B s) (h : t_eq w s s2) : t_one kd wt s2 = t_one kd wt s := by
  obtain ⟨h1, h2, h3⟩ := h
  obtain ⟨d1, d2, d3, d4, d5, d6, d7, d8⟩ := t_due hp hs
  unfold t_one
  rw [← h2, ← h3 _ d5]
/-- the beat behind one step -/
theorem t_one_b {pl : Int} {kd wt nx s : Nat → Int} : stp pl kd wt nx s 1 = t_b pl (fun i => s (5 + i)) (t_one kd wt s) (s 1) := by
  show bt pl (kd (s 3).toNat) (s (5 + (s 3).toNat)) (s (5 + (wt (s 3).toNat).toNat)) (s 1) (s (11 + (wt (s 3).toNat).toNat)) = _
  unfold bt t_one
  by_cases h : kd (s 3).toNat = 1 ∨ kd (s 3).toNat = 3 ∨ kd (s 3).toNat = 4
  · rw [if_pos h, if_pos h]
    show _ = s 1 + wa (s (5 + (s 3).toNat)) (s 1) pl + 1 + 0 + wa (s (5 + (wt (s 3).toNat).toNat)) (s 1 + wa (s (5 + (s 3).toNat)) (s 1) pl + 1 + 0) pl + 1 + wk _ _
    rw [show s 1 + wa (s (5 + (s 3).toNat)) (s 1) pl + 1 + 0 = s 1 + wa (s (5 + (s 3).toNat)) (s 1) pl + 1 by omega]
  · rw [if_neg h, if_neg h]
    rfl
theorem t_one_w {pl : Int} {kd wt s : Nat → Int} : wts pl kd wt s = t_w pl (fun i => s (5 + i)) (t_one kd wt s) (s 1) := by
  unfold wts t_one
  by_cases h : kd (s 3).toNat = 1 ∨ kd (s 3).toNat = 3 ∨ kd (s 3).toNat = 4
  · rw [if_pos h, if_pos h]
    show _ = wa (s (5 + (s 3).toNat)) (s 1) pl + (wa (s (5 + (wt (s 3).toNat).toNat)) (s 1 + wa (s (5 + (s 3).toNat)) (s 1) pl + 1 + 0) pl + 0)
    rw [show s 1 + wa (s (5 + (s 3).toNat)) (s 1) pl + 1 + 0 = s 1 + wa (s (5 + (s 3).toNat)) (s 1) pl + 1 by omega]
    omega
  · rw [if_neg h, if_neg h]
    rfl
theorem t_one_r {kd wt s : Nat → Int} : rds kd s = ((t_one kd wt s).length : Int) := by
  unfold rds t_one
  by_cases h : kd (s 3).toNat = 1 ∨ kd (s 3).toNat = 3 ∨ kd (s 3).toNat = 4
  · rw [if_pos h, if_pos h]
    rfl
  · rw [if_neg h, if_neg h]
    rfl
theorem t_one_in {w pl B : Int} {kd wt nx s : Nat → Int} (hp : pgok w pl kd wt nx) (hs : stok w pl B s) : (∀ x, x ∈ t_one kd wt s → (x.1 : Int) < w ∧ 0 ≤ x.2 ∧ x.2 ≤ 11) ∧ 1 ≤ (t_one kd wt s).length ∧ (t_one kd wt s).length ≤ 2 := by
  obtain ⟨d1, d2, d3, d4, d5, d6, d7, d8⟩ := t_due hp hs
  have hk := wk_in (k := kd (s 3).toNat) (v := s (11 + (wt (s 3).toNat).toNat)) ⟨d7, d8⟩
  unfold t_one
  split
  · refine ⟨fun x hx => ?_, by simp, by simp⟩
    rcases List.mem_cons.mp hx with e | e
    · subst e
      exact ⟨d1, by show (0 : Int) ≤ 0; omega, by show (0 : Int) ≤ 11; omega⟩
    · rw [List.mem_singleton] at e
      subst e
      exact ⟨d5, hk.1, hk.2⟩
  · refine ⟨fun x hx => ?_, by simp, by simp⟩
    rw [List.mem_singleton] at hx
    subst hx
    exact ⟨d1, hk.1, hk.2⟩
theorem t_run_ok {w pl : Int} {kd wt nx : Nat → Int} (hp : pgok w pl kd wt nx) : ∀ (k : Nat) (B : Int) (s : Nat → Int), stok w pl B s → B + 29 * k ≤ 1000000 → stok w pl (B + 29 * k) (t_run pl kd wt nx k s)
  | 0, B, s, hs, hB => stok_up hs (by omega) (by omega)
  | k + 1, B, s, hs, hB => by
    unfold t_run
    split
    · exact stok_up hs (by omega) (by omega)
    · rename_i h9
      have h1 := t_run_ok hp k (B + 29) (stp pl kd wt nx s) (stp_ok hp hs (by omega) h9) (by omega)
      exact stok_up h1 (by omega) (by omega)
theorem t_l_in {w pl : Int} {kd wt nx : Nat → Int} (hp : pgok w pl kd wt nx) : ∀ (k : Nat) (B : Int) (s : Nat → Int), stok w pl B s → B + 29 * k ≤ 1000000 → (∀ x, x ∈ t_l pl kd wt nx k s → (x.1 : Int) < w ∧ 0 ≤ x.2 ∧ x.2 ≤ 11) ∧ (t_l pl kd wt nx k s).length ≤ 2 * k
  | 0, B, s, hs, hB => ⟨fun x hx => by simp [t_l] at hx, by simp [t_l]⟩
  | k + 1, B, s, hs, hB => by
    unfold t_l
    split
    · exact ⟨fun x hx => by simp at hx, by simp⟩
    · rename_i h9
      have h1 := t_l_in hp k (B + 29) (stp pl kd wt nx s) (stp_ok hp hs (by omega) h9) (by omega)
      have h2 := t_one_in hp hs
      refine ⟨fun x hx => ?_, ?_⟩
      · rcases List.mem_append.mp hx with e | e
        · exact h2.1 x e
        · exact h1.1 x e
      · rw [List.length_append]
        omega
/-- the last step -/
theorem t_snoc {pl : Int} {kd wt nx : Nat → Int} : ∀ (j : Nat) (s : Nat → Int), (t_run pl kd wt nx j s 3 ≠ -9 → t_run pl kd wt nx (j + 1) s = stp pl kd wt nx (t_run pl kd wt nx j s) ∧ t_l pl kd wt nx (j + 1) s = t_l pl kd wt nx j s ++ t_one kd wt (t_run pl kd wt nx j s)) ∧ (t_run pl kd wt nx j s 3 = -9 → t_run pl kd wt nx (j + 1) s = t_run pl kd wt nx j s ∧ t_l pl kd wt nx (j + 1) s = t_l pl kd wt nx j s)
  | 0, s => by
    refine ⟨fun h => ?_, fun h => ?_⟩
    · have h2 : s 3 ≠ -9 := h
      refine ⟨?_, ?_⟩
      · show (if s 3 = -9 then s else stp pl kd wt nx s) = stp pl kd wt nx s
        rw [if_neg h2]
      · show (if s 3 = -9 then [] else t_one kd wt s ++ []) = [] ++ t_one kd wt s
        rw [if_neg h2]
        simp
    · have h2 : s 3 = -9 := h
      refine ⟨?_, ?_⟩
      · show (if s 3 = -9 then s else stp pl kd wt nx s) = s
        rw [if_pos h2]
      · show (if s 3 = -9 then [] else t_one kd wt s ++ []) = []
        rw [if_pos h2]
  | j + 1, s => by
    have ih := t_snoc (pl := pl) (kd := kd) (wt := wt) (nx := nx) j (stp pl kd wt nx s)
    have e1 : ∀ k, t_run pl kd wt nx (k + 1) s = if s 3 = -9 then s else t_run pl kd wt nx k (stp pl kd wt nx s) := fun k => rfl
    have e2 : ∀ k, t_l pl kd wt nx (k + 1) s = if s 3 = -9 then [] else t_one kd wt s ++ t_l pl kd wt nx k (stp pl kd wt nx s) := fun k => rfl
    by_cases h9 : s 3 = -9
    · rw [e1 j, e1 (j + 1), e2 j, e2 (j + 1), if_pos h9, if_pos h9, if_pos h9, if_pos h9]
      exact ⟨fun h => absurd h9 h, fun _ => ⟨rfl, rfl⟩⟩
    · rw [e1 j, e1 (j + 1), e2 j, e2 (j + 1), if_neg h9, if_neg h9, if_neg h9, if_neg h9]
      refine ⟨fun h => ?_, fun h => ?_⟩
      · rw [(ih.1 h).1, (ih.1 h).2, List.append_assoc]
        exact ⟨rfl, rfl⟩
      · rw [(ih.2 h).1, (ih.2 h).2]
        exact ⟨rfl, rfl⟩
theorem t_stay {pl : Int} {kd wt nx : Nat → Int} {j : Nat} {s : Nat → Int} (h : t_run pl kd wt nx j s 3 = -9) : ∀ m : Nat, t_run pl kd wt nx (j + m) s = t_run pl kd wt nx j s ∧ t_l pl kd wt nx (j + m) s = t_l pl kd wt nx j s
  | 0 => ⟨rfl, rfl⟩
  | m + 1 => by
    have ih := t_stay h m
    have h1 := (t_snoc (pl := pl) (kd := kd) (wt := wt) (nx := nx) (j + m) s).2 (by rw [ih.1]; exact h)
    rw [show j + (m + 1) = j + m + 1 by omega, h1.1, h1.2]
    exact ih
theorem t_pre {pl : Int} {kd wt nx : Nat → Int} {j : Nat} {s : Nat → Int} : ∀ m : Nat, ∃ r, t_l pl kd wt nx (j + m) s = t_l pl kd wt nx j s ++ r
  | 0 => ⟨[], by simp⟩
  | m + 1 => by
    obtain ⟨r, hr⟩ := t_pre (pl := pl) (kd := kd) (wt := wt) (nx := nx) (j := j) (s := s) m
    have h1 := t_snoc (pl := pl) (kd := kd) (wt := wt) (nx := nx) (j + m) s
    by_cases h9 : t_run pl kd wt nx (j + m) s 3 = -9
    · exact ⟨r, by rw [show j + (m + 1) = j + m + 1 by omega, (h1.2 h9).2, hr]⟩
    · exact ⟨r ++ t_one kd wt (t_run pl kd wt nx (j + m) s), by rw [show j + (m + 1) = j + m + 1 by omega, (h1.1 h9).2, hr, List.append_assoc]⟩
/-- a state that lies otherwise goes the same way; its beats -/
theorem t_way {w pl : Int} {kd wt nx : Nat → Int} (hp : pgok w pl kd wt nx) : ∀ (k : Nat) (B : Int) (s s2 : Nat → Int), stok w pl B s → B + 29 * k ≤ 1000000 → t_eq w s s2 → t_eq w (t_run pl kd wt nx k s) (t_run pl kd wt nx k s2) ∧ t_l pl kd wt nx k s2 = t_l pl kd wt nx k s ∧ t_run pl kd wt nx k s2 1 = t_b pl (fun i => s2 (5 + i)) (t_l pl kd wt nx k s) (s2 1) ∧ ∀ i : Nat, i < 6 → t_run pl kd wt nx k s2 (5 + i) = s2 (5 + i)
  | 0, B, s, s2, hs, hB, h => ⟨h, rfl, rfl, fun _ _ => rfl⟩
  | k + 1, B, s, s2, hs, hB, h => by
    have e1 : ∀ s, t_run pl kd wt nx (k + 1) s = if s 3 = -9 then s else t_run pl kd wt nx k (stp pl kd wt nx s) := fun s => rfl
    have e2 : ∀ s, t_l pl kd wt nx (k + 1) s = if s 3 = -9 then [] else t_one kd wt s ++ t_l pl kd wt nx k (stp pl kd wt nx s) := fun s => rfl
    have h3 := h.2.1
    by_cases h9 : s 3 = -9
    · have h92 : s2 3 = -9 := by omega
      rw [e1, e1, e2, e2, if_pos h9, if_pos h92, if_pos h9, if_pos h92]
      exact ⟨h, rfl, rfl, fun _ _ => rfl⟩
    · have h92 : ¬ s2 3 = -9 := by omega
      have ih := t_way hp k (B + 29) (stp pl kd wt nx s) (stp pl kd wt nx s2) (stp_ok hp hs (by omega) h9) (by omega) (t_eq_stp hp hs h)
      have ho := t_one_in hp hs
      have hw6 := hp.2.1
      rw [e1, e1, e2, e2, if_neg h9, if_neg h92, if_neg h9, if_neg h92]
      refine ⟨ih.1, by rw [ih.2.1, t_one_c hp hs h], ?_, fun i hi => by rw [ih.2.2.2 i hi, stp_p hi]⟩
      rw [ih.2.2.1, t_one_b, t_b_app, t_one_c hp hs h]
      refine t_b_c _ _ (fun x hx => ?_)
      have hx2 := (t_l_in hp k (B + 29) (stp pl kd wt nx s) (stp_ok hp hs (by omega) h9) (by omega)).1 x hx
      show stp pl kd wt nx s2 (5 + x.1) = s2 (5 + x.1)
      exact stp_p (by omega)
