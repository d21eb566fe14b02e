/-! What both objects hold. Written by l2_28.py. -/
/-- the trace, the placing of the class -/
def tr_at (sh : List (Nat ⊕ (Nat × Nat))) (rf : Nat → Nat → Nat) (q : Nat) : Prop := sh[q]? = some (.inl 4) ∧ rf q 0 = q + 1 + 1 ∧ sh[q + 1]? = some (.inr (0, 80)) ∧ rf q 1 = q + 2 + 1 ∧ sh[q + 2]? = some (.inr (0, 80)) ∧ rf q 2 = q + 3 + 1 ∧ sh[q + 3]? = some (.inr (0, 41))
def pl_at (sh : List (Nat ⊕ (Nat × Nat))) (rf : Nat → Nat → Nat) (q : Nat) : Prop := sh[q]? = some (.inl 2) ∧ rf q 1 = q + 1 + 1 ∧ sh[q + 1]? = some (.inr (0, 6)) ∧ rf q 2 = q + 2 + 1 ∧ sh[q + 2]? = some (.inr (0, 6)) ∧ rf q 3 = q + 3 + 1 ∧ sh[q + 3]? = some (.inr (0, 6))
/-- where all things of the class lie -/
def cl (sh : List (Nat ⊕ (Nat × Nat))) (rf : Nat → Nat → Nat) : Prop := sh[0]? = some (.inl 5) ∧ rf 0 0 = 1 + 1 ∧ sh[1]? = some (.inr (4, 6)) ∧ (∀ r, r < 6 → rf 1 r = 2 + r + 1) ∧ (∀ r, r < 6 → sh[2 + r]? = some (.inr (0, 40))) ∧ rf 0 1 = 8 + 1 ∧ sh[8]? = some (.inr (0, 6)) ∧ rf 0 2 = 9 + 1 ∧ sh[9]? = some (.inr (5, 4)) ∧ (∀ t, t < 4 → rf 9 t = 10 + t + 1) ∧ (∀ t, t < 4 → sh[10 + t]? = some (.inr (2, 60))) ∧ rf 0 3 = 14 + 1 ∧ sh[14]? = some (.inr (0, 4)) ∧ rf 0 4 = 15 + 1 ∧ dr_at sh rf 15 ∧ rf 0 5 = 33 + 1 ∧ sh[33]? = some (.inr (3, 3)) ∧ (∀ k, k < 3 → rf 33 k = 61 + 18 * k + 1) ∧ (∀ k, k < 3 → dr_at sh rf (61 + 18 * k)) ∧ rf 0 6 = 34 + 1 ∧ ma_at sh rf 34 ∧ rf 0 7 = 41 + 1 ∧ sh[41]? = some (.inl 3) ∧ rf 41 0 = 42 + 1 ∧ ma_at sh rf 42 ∧ rf 0 8 = 50 + 1 ∧ tr_at sh rf 50 ∧ rf 0 9 = 54 + 1 ∧ pl_at sh rf 54 ∧ rf 54 0 = 50 + 1 ∧ rf 0 10 = 58 + 1 ∧ sh[58]? = some (.inr (0, 9)) ∧ rf 0 11 = 59 + 1 ∧ sh[59]? = some (.inr (1, 7)) ∧ rf 0 12 = 60 + 1 ∧ sh[60]? = some (.inr (0, 6)) ∧ True
/-- where all things of the other one lie -/
def ml (sh : List (Nat ⊕ (Nat × Nat))) (rf : Nat → Nat → Nat) : Prop := sh[115]? = some (.inl 6) ∧ rf 115 0 = 116 + 1 ∧ sh[116]? = some (.inr (0, 3635)) ∧ rf 115 3 = 117 + 1 ∧ sh[117]? = some (.inr (0, 6)) ∧ rf 115 4 = 118 + 1 ∧ sh[118]? = some (.inr (0, 6)) ∧ rf 115 5 = 119 + 1 ∧ sh[119]? = some (.inr (0, 6)) ∧ rf 115 6 = 120 + 1 ∧ sh[120]? = some (.inr (0, 6)) ∧ rf 115 7 = 121 + 1 ∧ sh[121]? = some (.inr (0, 240)) ∧ rf 115 8 = 122 + 1 ∧ sh[122]? = some (.inr (0, 4)) ∧ rf 115 9 = 123 + 1 ∧ sh[123]? = some (.inr (0, 240)) ∧ rf 115 14 = 124 + 1 ∧ sh[124]? = some (.inr (0, 6)) ∧ rf 115 19 = 125 + 1 ∧ sh[125]? = some (.inr (0, 30)) ∧ rf 115 24 = 126 + 1 ∧ sh[126]? = some (.inr (0, 6)) ∧ rf 115 25 = 127 + 1 ∧ sh[127]? = some (.inr (0, 6)) ∧ rf 115 26 = 128 + 1 ∧ sh[128]? = some (.inr (0, 3)) ∧ rf 115 27 = 129 + 1 ∧ sh[129]? = some (.inr (0, 4)) ∧ True
theorem ma_up {sh : List (Nat ⊕ (Nat × Nat))} {rf : Nat → Nat → Nat} {q v : Nat} (h : ma_at sh rf q) (hq : q ≠ 41) : ma_at sh (dz_up rf 41 1 v) q := by
  unfold ma_at
  rw [dz_up_ne hq]
  exact h
theorem dr_up {sh : List (Nat ⊕ (Nat × Nat))} {rf : Nat → Nat → Nat} {q v : Nat} (h : dr_at sh rf q) (hq : q ≠ 41) (hq1 : q + 1 ≠ 41) (hq2 : q + 8 ≠ 41) : dr_at sh (dz_up rf 41 1 v) q := by
  unfold dr_at
  rw [dz_up_ne hq]
  exact ⟨h.1, h.2.1, ma_up h.2.2.1 hq1, h.2.2.2.1, ma_up h.2.2.2.2.1 hq2, h.2.2.2.2.2⟩
theorem cl_up {sh : List (Nat ⊕ (Nat × Nat))} {rf : Nat → Nat → Nat} {v : Nat} (hl : cl sh rf) : cl sh (dz_up rf 41 1 v) := by
  obtain ⟨c0, c1, c2, c3, c4, c5, c6, c7, c8, c9, c10, c11, c12, c13, c14, c15, c16, c17, c18, c19, c20, c21, c22, c23, c24, c25, c26, c27, c28, c29, c30, c31, c32, c33, c34, c35, c36⟩ := id hl
  refine ⟨c0, ?_⟩
  refine ⟨by rw [dz_up_ne (by omega)]; exact c1, c2, fun r hr => by rw [dz_up_ne (by omega)]; exact c3 r hr, c4, by rw [dz_up_ne (by omega)]; exact c5, c6, by rw [dz_up_ne (by omega)]; exact c7, c8, fun r hr => by rw [dz_up_ne (by omega)]; exact c9 r hr, c10, by rw [dz_up_ne (by omega)]; exact c11, c12, by rw [dz_up_ne (by omega)]; exact c13, dr_up c14 (by omega) (by omega) (by omega), by rw [dz_up_ne (by omega)]; exact c15, c16, fun k hk => by rw [dz_up_ne (by omega)]; exact c17 k hk, fun k hk => dr_up (c18 k hk) (by omega) (by omega) (by omega), by rw [dz_up_ne (by omega)]; exact c19, ma_up c20 (by omega), by rw [dz_up_ne (by omega)]; exact c21, c22, by rw [dz_up_k (by omega)]; exact c23, ma_up c24 (by omega), by rw [dz_up_ne (by omega)]; exact c25, ?_, by rw [dz_up_ne (by omega)]; exact c27, ?_, by rw [dz_up_ne (by omega)]; exact c29, by rw [dz_up_ne (by omega)]; exact c30, c31, by rw [dz_up_ne (by omega)]; exact c32, c33, by rw [dz_up_ne (by omega)]; exact c34, c35, trivial⟩
  · unfold tr_at
    rw [dz_up_ne (by omega)]
    exact c26
  · unfold pl_at
    rw [dz_up_ne (by omega)]
    exact c28
theorem ml_up {sh : List (Nat ⊕ (Nat × Nat))} {rf : Nat → Nat → Nat} {v : Nat} (hl : ml sh rf) : ml sh (dz_up rf 41 1 v) := by
  unfold ml
  rw [dz_up_ne (by omega)]
  exact hl
/-! rows, texts, what is told, findings -/
def rowX (M : Nat → Nat → Int) (rs : Nat → Int) (it : Nat → Nat → Int) : Prop := ∀ r, r < 6 → M 8 r = rs r ∧ ∀ k : Nat, (k : Int) < rs r → M (2 + r) k = it r k
def rowM (M : Nat → Nat → Int) (rs : Nat → Int) (it : Nat → Nat → Int) : Prop := ∀ r, r < 6 → M 120 r = rs r ∧ ∀ k : Nat, (k : Int) < rs r → M 121 (40 * r + k) = it r k
def txtX (M : Nat → Nat → Int) (ts : Nat → Int) (ch : Nat → Nat → Int) : Prop := ∀ t, t < 4 → M 14 t = ts t ∧ ∀ k : Nat, (k : Int) < ts t → M (10 + t) k = ch t k
def txtM (M : Nat → Nat → Int) (ts : Nat → Int) (ch : Nat → Nat → Int) : Prop := ∀ t, t < 4 → M 122 t = ts t ∧ ∀ k : Nat, (k : Int) < ts t → M 123 (60 * t + k) = ch t k
def fndX (M : Nat → Nat → Int) (fn : Nat → Int) : Prop := M 0 13 = fn 0 ∧ ∀ k, 1 ≤ k → k ≤ 5 → M 60 k = fn k
def fndM (M : Nat → Nat → Int) (fn : Nat → Int) : Prop := M 115 13 = fn 0 ∧ ∀ k, 1 ≤ k → k ≤ 5 → M 124 k = fn k
/-- the places of a state that tell something -/
def okc (w : Int) (c : Nat) : Prop := (1 ≤ c ∧ c ≤ 4) ∨ (5 ≤ c ∧ (c : Int) < 5 + w) ∨ (11 ≤ c ∧ (c : Int) < 11 + w) ∨ (17 ≤ c ∧ (c : Int) < 17 + w)
def prel (M : Nat → Nat → Int) (b : Nat) (w : Int) (s : Nat → Int) : Prop := ∀ c, okc w c → M 116 (b + c) = s c
/-- a drum of the other one, from b on -/
def segM (M : Nat → Nat → Int) (b : Nat) (w : Int) (n : Nat) (hs : Nat → Nat → Int) : Prop := M 116 b = n ∧ prel M b w (hs n) ∧ ∀ k, k < n → prel M (b + (22 + 22 * k)) w (hs k)
def drM (M : Nat → Nat → Int) (w pl : Int) (kd wt nx : Nat → Int) (n : Nat) (hs : Nat → Nat → Int) : Prop := M 115 2 = w ∧ M 115 1 = pl ∧ (∀ i : Nat, (i : Int) < w → M 117 i = kd i ∧ M 118 i = wt i ∧ M 119 i = nx i) ∧ segM M 0 w n hs
def kepX (M : Nat → Nat → Int) (w pl : Int) (kd wt nx : Nat → Int) (kp : Nat → Int) (kh : Nat → Nat → Nat → Int) : Prop := ∀ k, k < 3 → (kp k = -1 ∧ M (61 + 18 * k + 8) 0 = 0) ∨ (0 ≤ kp k ∧ drX M (61 + 18 * k) w pl kd wt nx (kp k).toNat (kh k))
def kepM (M : Nat → Nat → Int) (w : Int) (kp : Nat → Int) (kh : Nat → Nat → Nat → Int) : Prop := ∀ k, k < 3 → M 116 (903 * (1 + k)) = kp k ∧ (0 ≤ kp k → segM M (903 * (1 + k)) w (kp k).toNat (kh k))
/-- what stays hidden in the class: the trace's first count, the draft's beginning -/
def rbX (M : Nat → Nat → Int) : Prop := M 53 0 = 0 ∧ M 42 2 = 0 ∧ M 42 3 = 0 ∧ M 42 5 = 0 ∧ ∀ i, i < 6 → M 48 i = 0
theorem rbX_fr {M M2 : Nat → Nat → Int} (h : rbX M) (hf : ∀ q k, ((q = 53 ∧ k = 0) ∨ (q = 42 ∧ (k = 2 ∨ k = 3 ∨ k = 5)) ∨ q = 48) → M2 q k = M q k) : rbX M2 := ⟨by rw [hf _ _ (by omega)]; exact h.1, by rw [hf _ _ (by omega)]; exact h.2.1, by rw [hf _ _ (by omega)]; exact h.2.2.1, by rw [hf _ _ (by omega)]; exact h.2.2.2.1, fun i hi => by rw [hf _ _ (by omega)]; exact h.2.2.2.2 i hi⟩
/-- the class holds all that -/
def RX (M : Nat → Nat → Int) (rs : Nat → Int) (it : Nat → Nat → Int) (ts : Nat → Int) (ch : Nat → Nat → Int) (tl up lo : Int) (fn : Nat → Int) (w pl : Int) (kd wt nx : Nat → Int) (n : Nat) (hs : Nat → Nat → Int) (kp : Nat → Int) (kh : Nat → Nat → Nat → Int) : Prop := rowX M rs it ∧ txtX M ts ch ∧ M 0 14 = tl ∧ M 0 15 = up ∧ M 0 16 = lo ∧ fndX M fn ∧ drX M 15 w pl kd wt nx n hs ∧ kepX M w pl kd wt nx kp kh ∧ rbX M
/-- the other one holds it -/
def RM (M : Nat → Nat → Int) (rs : Nat → Int) (it : Nat → Nat → Int) (ts : Nat → Int) (ch : Nat → Nat → Int) (tl up lo : Int) (fn : Nat → Int) (w pl : Int) (kd wt nx : Nat → Int) (n : Nat) (hs : Nat → Nat → Int) (kp : Nat → Int) (kh : Nat → Nat → Nat → Int) : Prop := rowM M rs it ∧ txtM M ts ch ∧ M 115 10 = tl ∧ M 115 11 = up ∧ M 115 12 = lo ∧ fndM M fn ∧ drM M w pl kd wt nx n hs ∧ kepM M w kp kh
/-- and it is in good order -/
def WF (rs : Nat → Int) (it : Nat → Nat → Int) (ts : Nat → Int) (ch : Nat → Nat → Int) (tl up lo : Int) (fn : Nat → Int) (w pl : Int) (kd wt nx : Nat → Int) (n : Nat) (hs : Nat → Nat → Int) (kp : Nat → Int) (kh : Nat → Nat → Nat → Int) : Prop := (∀ r, r < 6 → rs r = -1 ∨ (0 ≤ rs r ∧ rs r ≤ 40)) ∧ (∀ t, t < 4 → (ts t = -1 ∨ (0 ≤ ts t ∧ ts t ≤ 60)) ∧ ∀ k : Nat, (k : Int) < ts t → -128 ≤ ch t k ∧ ch t k ≤ 127) ∧ (pgok w pl kd wt nx ∨ (w = 0 ∧ pl = 0 ∧ n = 0 ∧ ∀ k, k < 3 → kp k = -1)) ∧ (n ≤ 40 ∧ ∀ k : Nat, k ≤ n → stok w pl (29 * k) (hs k)) ∧ ∀ k, k < 3 → kp k = -1 ∨ (0 ≤ kp k ∧ kp k ≤ 40 ∧ ∀ j : Nat, (j : Int) ≤ kp k → stok w pl (29 * j) (kh k j))

theorem rowX_fr {M M2 : Nat → Nat → Int} {rs : Nat → Int} {it : Nat → Nat → Int} (h : rowX M rs it) (hf : ∀ q k, 2 ≤ q → q ≤ 8 → M2 q k = M q k) : rowX M2 rs it := fun r hr => ⟨by rw [hf _ _ (by omega) (by omega)]; exact (h r hr).1, fun k hk => by rw [hf _ _ (by omega) (by omega)]; exact (h r hr).2 k hk⟩
theorem rowM_fr {M M2 : Nat → Nat → Int} {rs : Nat → Int} {it : Nat → Nat → Int} (h : rowM M rs it) (hf : ∀ k, M2 120 k = M 120 k) (hf2 : ∀ k, M2 121 k = M 121 k) : rowM M2 rs it := fun r hr => ⟨by rw [hf]; exact (h r hr).1, fun k hk => by rw [hf2]; exact (h r hr).2 k hk⟩
theorem txtX_fr {M M2 : Nat → Nat → Int} {ts : Nat → Int} {ch : Nat → Nat → Int} (h : txtX M ts ch) (hf : ∀ q k, 10 ≤ q → q ≤ 14 → M2 q k = M q k) : txtX M2 ts ch := fun r hr => ⟨by rw [hf _ _ (by omega) (by omega)]; exact (h r hr).1, fun k hk => by rw [hf _ _ (by omega) (by omega)]; exact (h r hr).2 k hk⟩
theorem txtM_fr {M M2 : Nat → Nat → Int} {ts : Nat → Int} {ch : Nat → Nat → Int} (h : txtM M ts ch) (hf : ∀ k, M2 122 k = M 122 k) (hf2 : ∀ k, M2 123 k = M 123 k) : txtM M2 ts ch := fun r hr => ⟨by rw [hf]; exact (h r hr).1, fun k hk => by rw [hf2]; exact (h r hr).2 k hk⟩
theorem fndX_fr {M M2 : Nat → Nat → Int} {fn : Nat → Int} (h : fndX M fn) (h1 : M2 0 13 = M 0 13) (h2 : ∀ k, M2 60 k = M 60 k) : fndX M2 fn := ⟨by rw [h1]; exact h.1, fun k a b => by rw [h2]; exact h.2 k a b⟩
theorem fndM_fr {M M2 : Nat → Nat → Int} {fn : Nat → Int} (h : fndM M fn) (h1 : M2 115 13 = M 115 13) (h2 : ∀ k, M2 124 k = M 124 k) : fndM M2 fn := ⟨by rw [h1]; exact h.1, fun k a b => by rw [h2]; exact h.2 k a b⟩
theorem prel_fr {M M2 : Nat → Nat → Int} {b : Nat} {w : Int} {s : Nat → Int} (hw : w ≤ 6) (h : prel M b w s) (hf : ∀ k, b < k → k ≤ b + 22 → M2 116 k = M 116 k) : prel M2 b w s := fun c hc => by
  have h2 := h c hc
  unfold okc at hc
  rw [hf _ (by omega) (by omega)]
  exact h2
theorem segM_fr {M M2 : Nat → Nat → Int} {b : Nat} {w : Int} {n : Nat} {hs : Nat → Nat → Int} (hw : w ≤ 6) (hn : n ≤ 40) (h : segM M b w n hs) (hf : ∀ k, b ≤ k → k < b + 903 → M2 116 k = M 116 k) : segM M2 b w n hs := ⟨by rw [hf _ (by omega) (by omega)]; exact h.1, prel_fr hw h.2.1 (fun k a c => hf k (by omega) (by omega)), fun k hk => prel_fr hw (h.2.2 k hk) (fun j a c => hf j (by omega) (by omega))⟩
theorem drM_fr {M M2 : Nat → Nat → Int} {w pl : Int} {kd wt nx : Nat → Int} {n : Nat} {hs : Nat → Nat → Int} (h : drM M w pl kd wt nx n hs ∧ w ≤ 6 ∧ n ≤ 40) (h1 : M2 115 2 = M 115 2) (h2 : M2 115 1 = M 115 1) (h3 : ∀ k, M2 117 k = M 117 k) (h4 : ∀ k, M2 118 k = M 118 k) (h5 : ∀ k, M2 119 k = M 119 k) (h6 : ∀ k, k < 903 → M2 116 k = M 116 k) : drM M2 w pl kd wt nx n hs := by
  obtain ⟨⟨a1, a2, a3, a4⟩, hw, hn⟩ := h
  refine ⟨by rw [h1]; exact a1, by rw [h2]; exact a2, fun i hi => by rw [h3, h4, h5]; exact a3 i hi, segM_fr hw hn a4 (fun k u v => h6 k (by omega))⟩
theorem kepX_fr {M M2 : Nat → Nat → Int} {w pl : Int} {kd wt nx : Nat → Int} {kp : Nat → Int} {kh : Nat → Nat → Nat → Int} (h : kepX M w pl kd wt nx kp kh) (hf : ∀ q k, 61 ≤ q → q ≤ 114 → M2 q k = M q k) : kepX M2 w pl kd wt nx kp kh := fun k hk => (h k hk).elim (fun z => Or.inl ⟨z.1, by rw [hf _ _ (by omega) (by omega)]; exact z.2⟩) (fun z => Or.inr ⟨z.1, drX_fr z.2 (fun q2 j u v => hf q2 j (by omega) (by omega))⟩)
theorem kepM_fr {M M2 : Nat → Nat → Int} {w : Int} {kp : Nat → Int} {kh : Nat → Nat → Nat → Int} (h : kepM M w kp kh ∧ w ≤ 6 ∧ ∀ k, k < 3 → kp k ≤ 40) (hf : ∀ k, 903 ≤ k → k < 3612 → M2 116 k = M 116 k) : kepM M2 w kp kh := fun k hk => ⟨by rw [hf _ (by omega) (by omega)]; exact (h.1 k hk).1, fun z => segM_fr h.2.1 (by have := h.2.2 k hk; omega) ((h.1 k hk).2 z) (fun j u v => hf j (by omega) (by omega))⟩
/-- a refusal is found and counted -/
def rfu (fn : Nat → Int) (f : Nat) : Nat → Int := fun k => if k = 0 then (f : Int) else if k = f then dz_w (fn k + 1) else fn k
/-- one place of a list is laid anew -/
def fup (f : Nat → Int) (i : Nat) (v : Int) : Nat → Int := fun k => if k = i then v else f k
theorem fup_eq (f : Nat → Int) (i : Nat) (v : Int) : fup f i v i = v := if_pos rfl
theorem fup_ne {f : Nat → Int} {i k : Nat} {v : Int} (h : k ≠ i) : fup f i v k = f k := if_neg h
theorem up_fup (M : Nat → Nat → Int) (q i : Nat) (v : Int) (k : Nat) : dz_up M q i v q k = fup (M q) i v k := by
  unfold dz_up fup
  simp
