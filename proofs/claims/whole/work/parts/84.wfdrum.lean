/-! A text without a fault tells a program in good order. -/
theorem rwd_ok {c : Nat → Int} {n : Nat} {pl : Int} {ps : Nat → Nat} {i p : Nat} (h : (rwd c n pl ps i p).1 = true) : kl (c p) ≠ -9 ∧ i ≠ 6 ∧ fig c n 0 (pl - 1) (p + 1) ∧ fig c n 0 (if kl (c p) = 0 then 9 else 5) (p + 2) ∧ fig c n 0 (if kl (c p) = 0 then 9 else 5) (p + 3) := by
  unfold rwd at h
  by_cases e1 : kl (c p) = -9 ∨ i = 6
  · rw [if_pos e1] at h
    exact absurd h Bool.false_ne_true
  · rw [if_neg e1] at h
    by_cases e2 : fig c n 0 (pl - 1) (p + 1)
    · rw [if_neg (fun z => z e2)] at h
      by_cases e3 : ly_at (fun k => c (ps k + 1) - 48) (c (p + 1) - 48) i 0 ≠ -9
      · rw [if_pos e3] at h
        exact absurd h Bool.false_ne_true
      · rw [if_neg e3] at h
        by_cases e4 : fig c n 0 (if kl (c p) = 0 then 9 else 5) (p + 2)
        · rw [if_neg (fun z => z e4)] at h
          by_cases e5 : fig c n 0 (if kl (c p) = 0 then 9 else 5) (p + 3)
          · exact ⟨fun z => e1 (Or.inl z), fun z => e1 (Or.inr z), e2, e4, e5⟩
          · rw [if_pos e5] at h
            exact absurd h Bool.false_ne_true
        · rw [if_pos e4] at h
          exact absurd h Bool.false_ne_true
    · rw [if_pos e2] at h
      exact absurd h Bool.false_ne_true
theorem rml_ok {c : Nat → Int} {n : Nat} {pl : Int} : ∀ (f i : Nat) (ps : Nat → Nat) (p : Nat), i ≤ 6 → wok c n pl ps i → (rml c n pl f i ps p).1 = true → wok c n pl (rml c n pl f i ps p).2.2.2 (rml c n pl f i ps p).2.2.1 ∧ (rml c n pl f i ps p).2.2.1 ≤ 6
  | 0, i, ps, p, hi, hw, _ => ⟨hw, hi⟩
  | f + 1, i, ps, p, hi, hw, h => by
    unfold rml at h ⊢
    by_cases e1 : p < n
    · rw [if_pos e1] at h ⊢
      by_cases e2 : (rwd c n pl ps i p).1 = true
      · rw [if_pos e2] at h ⊢
        obtain ⟨z1, z2, z3, z4, z5⟩ := rwd_ok e2
        refine rml_ok f (i + 1) (pup ps i p) _ (by omega) (fun k hk => ?_) h
        by_cases e : k = i
        · rw [e, show pup ps i p i = p from if_pos rfl]
          exact ⟨z1, z3, z4, z5⟩
        · rw [show pup ps i p k = ps k from if_neg e]
          exact hw k (by omega)
      · rw [if_neg e2] at h
        exact absurd h Bool.false_ne_true
    · rw [if_neg e1] at h ⊢
      exact ⟨hw, hi⟩
theorem rflt_ok {c : Nat → Int} {n : Nat} (h : rflt c n = -9) : 6 ≤ c (rh c n + 1) - 48 ∧ c (rh c n + 1) - 48 ≤ 9 ∧ wok c n (c (rh c n + 1) - 48) (rdt c n).2.2.2 (rdt c n).2.2.1 ∧ 2 ≤ (rdt c n).2.2.1 ∧ (rdt c n).2.2.1 ≤ 6 ∧ rat c (rdt c n).2.2.2 (rdt c n).2.2.1 (rdt c n).2.2.1 = true := by
  unfold rflt at h
  by_cases e1 : (rdt c n).1 = false
  · rw [if_pos e1] at h
    omega
  · rw [if_neg e1] at h
    by_cases e2 : 2 ≤ (rdt c n).2.2.1 ∧ rat c (rdt c n).2.2.2 (rdt c n).2.2.1 (rdt c n).2.2.1 = true
    · by_cases f1 : rh c n < n ∧ c (rh c n) = 100
      · by_cases f2 : fig c n 6 9 (rh c n + 1)
        · have er : rdt c n = rml c n (c (rh c n + 1) - 48) 8 0 (fun _ => 0) (skp c n (rh c n + 2)) := by
            unfold rdt
            rw [if_neg (fun z => z f1), if_neg (fun z => z f2)]
          have f3 := f2.2
          have ht : (rml c n (c (rh c n + 1) - 48) 8 0 (fun _ => 0) (skp c n (rh c n + 2))).1 = true := by
            rw [← er]
            cases hb : (rdt c n).1 with
            | true => rfl
            | false => exact absurd hb e1
          have z := rml_ok 8 0 (fun _ => 0) (skp c n (rh c n + 2)) (by omega) (fun k hk => by omega) ht
          rw [← er] at z
          exact ⟨by omega, by omega, z.1, e2.1, z.2, e2.2⟩
        · exact absurd (show (rdt c n).1 = false by unfold rdt; rw [if_neg (fun z => z f1), if_pos f2]) e1
      · exact absurd (show (rdt c n).1 = false by unfold rdt; rw [if_pos f1]) e1
    · rw [if_neg e2] at h
      omega
