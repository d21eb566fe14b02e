/-! Good order: clerk, least, lots. Written by l2_86.py. -/
theorem WF_any {rs : Nat → Int} {it : Nat → Nat → Int} {ts : Nat → Int} {ch : Nat → Nat → Int} {tl up lo : Int} {fn : Nat → Int} {w pl : Int} {kd wt nx : Nat → Int} {n : Nat} {hs : Nat → Nat → Int} {kp : Nat → Int} {kh : Nat → Nat → Nat → Int} {it2 : Nat → Nat → Int} {tl2 up2 lo2 : Int} {fn2 : Nat → Int} (h : WF rs it ts ch tl up lo fn w pl kd wt nx n hs kp kh) : WF rs it2 ts ch tl2 up2 lo2 fn2 w pl kd wt nx n hs kp kh := by
  unfold WF at h ⊢
  exact h
theorem WF_lays {rs : Nat → Int} {it : Nat → Nat → Int} {ts : Nat → Int} {ch : Nat → Nat → Int} {tl up lo : Int} {fn : Nat → Int} {w pl : Int} {kd wt nx : Nat → Int} {n : Nat} {hs : Nat → Nat → Int} {kp : Nat → Int} {kh : Nat → Nat → Nat → Int} {r : Nat} (h : WF rs it ts ch tl up lo fn w pl kd wt nx n hs kp kh) (hw : 0 ≤ w ∧ w ≤ 6) : WF (fup rs r w) it ts ch tl up lo fn w pl kd wt nx n hs kp kh := by
  refine ⟨fun r2 hr2 => ?_, h.2⟩
  by_cases e : r2 = r
  · rw [e, fup_eq]
    exact Or.inr ⟨hw.1, by omega⟩
  · rw [fup_ne e]
    exact h.1 r2 hr2
theorem WF_clerk {rs : Nat → Int} {it : Nat → Nat → Int} {ts : Nat → Int} {ch : Nat → Nat → Int} {tl up lo : Int} {fn : Nat → Int} {w pl : Int} {kd wt nx : Nat → Int} {n : Nat} {hs : Nat → Nat → Int} {kp : Nat → Int} {kh : Nat → Nat → Nat → Int} {m r : Int} (h : WF rs it ts ch tl up lo fn w pl kd wt nx n hs kp kh) : WF (o_clerk rs it w pl kd wt nx (hs n) m r).2.1 (o_clerk rs it w pl kd wt nx (hs n) m r).2.2 ts ch tl up lo fn w pl kd wt nx n hs kp kh := by
  unfold o_clerk
  by_cases e1 : r < 0 ∨ 5 < r ∨ m < 0 ∨ 12 < m
  · rw [if_pos e1]
    exact h
  · rw [if_neg e1]
    by_cases e2 : w = 0
    · rw [if_pos e2]
      exact h
    · rw [if_neg e2]
      exact WF_any (WF_lays h (WF_w h))
theorem WF_least {rs : Nat → Int} {it : Nat → Nat → Int} {ts : Nat → Int} {ch : Nat → Nat → Int} {tl up lo : Int} {fn : Nat → Int} {w pl : Int} {kd wt nx : Nat → Int} {n : Nat} {hs : Nat → Nat → Int} {kp : Nat → Int} {kh : Nat → Nat → Nat → Int} {m r : Int} (h : WF rs it ts ch tl up lo fn w pl kd wt nx n hs kp kh) : WF (o_least rs it w pl kd wt nx (hs n) m r).2.1 (o_least rs it w pl kd wt nx (hs n) m r).2.2 ts ch tl up lo fn w pl kd wt nx n hs kp kh := by
  unfold o_least
  by_cases e1 : r < 0 ∨ 5 < r ∨ m < 0 ∨ 12 < m
  · rw [if_pos e1]
    exact h
  · rw [if_neg e1]
    by_cases e2 : w = 0
    · rw [if_pos e2]
      exact h
    · rw [if_neg e2]
      exact WF_any (WF_lays h (WF_w h))
theorem WF_lf {rs : Nat → Int} {it : Nat → Nat → Int} {ts : Nat → Int} {ch : Nat → Nat → Int} {tl up lo : Int} {fn : Nat → Int} {w pl : Int} {kd wt nx : Nat → Int} {kp : Nat → Int} {kh : Nat → Nat → Nat → Int} (hw0 : w ≠ 0) : ∀ (k : Nat) (x : Int) (n : Nat) (hs : Nat → Nat → Int), n + k ≤ 40 → WF rs it ts ch tl up lo fn w pl kd wt nx n hs kp kh → WF rs it ts ch tl up lo fn w pl kd wt nx (n + k) (o_lf w pl kd wt nx k x n hs) kp kh := by
  intro k
  induction k with
  | zero => exact fun x n hs hk h => h
  | succ k ih =>
    intro x n hs hk h
    have hs1 : stok w pl (29 * (n + 1 : Nat)) (o_lot w pl kd wt nx (lt_n x) (hs n)) := by
      have z := lot_ok (x := lt_n x) (WF_p h hw0) (h.2.2.2.1.2 n (Nat.le_refl _)) (by omega)
      have e : (29 * (n + 1 : Nat) : Int) = 29 * n + 29 := by omega
      rw [e]
      exact z
    have z := ih (lt_n x) (n + 1) (hup hs n (o_lot w pl kd wt nx (lt_n x) (hs n))) (by omega) (WF_deed h hw0 (by omega) hs1)
    rw [show n + 1 + k = n + (k + 1) by omega] at z
    exact z
theorem WF_lots {rs : Nat → Int} {it : Nat → Nat → Int} {ts : Nat → Int} {ch : Nat → Nat → Int} {tl up lo : Int} {fn : Nat → Int} {w pl : Int} {kd wt nx : Nat → Int} {n : Nat} {hs : Nat → Nat → Int} {kp : Nat → Int} {kh : Nat → Nat → Nat → Int} {m sd : Int} (h : WF rs it ts ch tl up lo fn w pl kd wt nx n hs kp kh) : WF rs it ts ch tl up lo fn w pl kd wt nx (o_lots w pl kd wt nx n hs m sd).2.1 (o_lots w pl kd wt nx n hs m sd).2.2 kp kh := by
  unfold o_lots
  by_cases e1 : m < 1 ∨ 20 < m ∨ sd < 1 ∨ 2147483646 < sd
  · rw [if_pos e1]
    exact h
  · rw [if_neg e1]
    by_cases e2 : w = 0
    · rw [if_pos e2]
      exact h
    · rw [if_neg e2]
      by_cases e3 : 40 < n + m
      · rw [if_pos e3]
        exact h
      · rw [if_neg e3]
        exact WF_lf e2 m.toNat sd n hs (by omega) h
