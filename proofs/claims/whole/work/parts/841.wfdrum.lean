/-! Good order is kept by drum. Written by l2_841.py. -/
theorem ist_ok {c : Nat → Int} {n : Nat} {pl : Int} {ps : Nat → Nat} {wn : Nat} (h2 : 2 ≤ wn) (h6 : wn ≤ 6) (hw : wok c n pl ps wn) : stok (wn : Int) pl 0 (ist c ps) := by
  refine ⟨by omega, ?_, ?_, ?_, ?_, ?_, ?_, ?_, fun i hi => ?_⟩
  · show (0 : Int) ≤ 0
    omega
  · show (0 : Int) ≤ 0
    omega
  · show (0 : Int) ≤ 0
    omega
  · show (0 : Int) ≤ 99
    omega
  · exact Or.inr (by show (0 : Int) ≤ 0 ∧ (0 : Int) < _; omega)
  · show (0 : Int) ≤ 0
    omega
  · show (0 : Int) ≤ 0
    omega
  · have z := wok_in hw (show i < wn by omega)
    unfold ist
    rw [if_pos (by omega), if_neg (by omega), if_pos (by omega), if_neg (by omega), if_neg (by omega), show 5 + i - 5 = i by omega, show 11 + i - 11 = i by omega]
    omega
theorem WF_drum {rs : Nat → Int} {it : Nat → Nat → Int} {ts : Nat → Int} {ch : Nat → Nat → Int} {tl up lo : Int} {fn : Nat → Int} {w pl : Int} {kd wt nx : Nat → Int} {n : Nat} {hs : Nat → Nat → Int} {kp : Nat → Int} {kh : Nat → Nat → Nat → Int} {t : Int} (h : WF rs it ts ch tl up lo fn w pl kd wt nx n hs kp kh) : WF rs it ts ch tl up lo (o_drum ts ch fn w pl kd wt nx n hs kp t).2.1 (o_drum ts ch fn w pl kd wt nx n hs kp t).2.2.1 (o_drum ts ch fn w pl kd wt nx n hs kp t).2.2.2.1 (o_drum ts ch fn w pl kd wt nx n hs kp t).2.2.2.2.1 (o_drum ts ch fn w pl kd wt nx n hs kp t).2.2.2.2.2.1 (o_drum ts ch fn w pl kd wt nx n hs kp t).2.2.2.2.2.2.1 (o_drum ts ch fn w pl kd wt nx n hs kp t).2.2.2.2.2.2.2.1 (o_drum ts ch fn w pl kd wt nx n hs kp t).2.2.2.2.2.2.2.2.1 (o_drum ts ch fn w pl kd wt nx n hs kp t).2.2.2.2.2.2.2.2.2 kh := by
  unfold o_drum
  by_cases e1 : t < 0 ∨ 3 < t
  · rw [if_pos e1]
    exact h
  · rw [if_neg e1]
    by_cases e2 : ts t.toNat = -1
    · rw [if_pos e2]
      exact h
    · rw [if_neg e2]
      by_cases e3 : rflt (ch t.toNat) (ts t.toNat).toNat = -9
      · rw [if_neg (fun z => z e3)]
        obtain ⟨a1, a2, a3, a4, a5, a6⟩ := rflt_ok e3
        clear e3
        have a7 := (rat_all _).mp a6
        refine ⟨h.1, h.2.1, Or.inl ⟨?_, ?_, a1, a2, fun i hi => ?_⟩, ⟨Nat.zero_le _, fun k hk => ?_⟩, fun k hk => Or.inl rfl⟩
        · dsimp only
          omega
        · dsimp only
          omega
        · dsimp only at hi ⊢
          have z := wok_in a3 (show i < _ by omega)
          have y := a7 i (by omega)
          omega
        · have hk0 : k = 0 := Nat.le_zero.mp hk
          subst hk0
          exact ist_ok a4 a5 a3
      · rw [if_pos e3]
        exact h
