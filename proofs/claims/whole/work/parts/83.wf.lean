/-! Good order is kept. Written by l2_83.py. -/
theorem WF_row {rs : Nat → Int} {it : Nat → Nat → Int} {ts : Nat → Int} {ch : Nat → Nat → Int} {tl up lo : Int} {fn : Nat → Int} {w pl : Int} {kd wt nx : Nat → Int} {n : Nat} {hs : Nat → Nat → Int} {kp : Nat → Int} {kh : Nat → Nat → Nat → Int} {r m : Int} (h : WF rs it ts ch tl up lo fn w pl kd wt nx n hs kp kh) : WF (o_row rs it fn r m).2.1 (o_row rs it fn r m).2.2.1 ts ch tl up lo (o_row rs it fn r m).2.2.2 w pl kd wt nx n hs kp kh := by
  unfold o_row
  by_cases e1 : r < 0 ∨ 5 < r ∨ 40 < m
  · rw [if_pos e1]
    exact h
  · rw [if_neg e1]
    by_cases e2 : m < 0
    · rw [if_pos e2]
      exact h
    · rw [if_neg e2]
      refine ⟨fun r2 hr2 => ?_, h.2⟩
      show fup rs r.toNat m r2 = -1 ∨ (0 ≤ fup rs r.toNat m r2 ∧ fup rs r.toNat m r2 ≤ 40)
      unfold fup
      by_cases e : r2 = r.toNat
      · rw [if_pos e]
        omega
      · rw [if_neg e]
        exact h.1 r2 hr2
theorem WF_tear {rs : Nat → Int} {it : Nat → Nat → Int} {ts : Nat → Int} {ch : Nat → Nat → Int} {tl up lo : Int} {fn : Nat → Int} {w pl : Int} {kd wt nx : Nat → Int} {n : Nat} {hs : Nat → Nat → Int} {kp : Nat → Int} {kh : Nat → Nat → Nat → Int} {r : Int} (h : WF rs it ts ch tl up lo fn w pl kd wt nx n hs kp kh) : WF (o_tear rs fn r).2.1 it ts ch tl up lo (o_tear rs fn r).2.2 w pl kd wt nx n hs kp kh := by
  unfold o_tear
  by_cases e1 : r < 0 ∨ 5 < r
  · rw [if_pos e1]
    exact h
  · rw [if_neg e1]
    by_cases e2 : rs r.toNat = -1
    · rw [if_pos e2]
      exact h
    · rw [if_neg e2]
      refine ⟨fun r2 hr2 => ?_, h.2⟩
      show fup rs r.toNat (-1) r2 = -1 ∨ (0 ≤ fup rs r.toNat (-1) r2 ∧ fup rs r.toNat (-1) r2 ≤ 40)
      unfold fup
      by_cases e : r2 = r.toNat
      · rw [if_pos e]
        omega
      · rw [if_neg e]
        exact h.1 r2 hr2
theorem WF_undo {rs : Nat → Int} {it : Nat → Nat → Int} {ts : Nat → Int} {ch : Nat → Nat → Int} {tl up lo : Int} {fn : Nat → Int} {w pl : Int} {kd wt nx : Nat → Int} {n : Nat} {hs : Nat → Nat → Int} {kp : Nat → Int} {kh : Nat → Nat → Nat → Int} {m : Int} (h : WF rs it ts ch tl up lo fn w pl kd wt nx n hs kp kh) : WF rs it ts ch tl up lo fn w pl kd wt nx (o_undo n m).2 hs kp kh := by
  unfold o_undo
  by_cases e1 : m < 0 ∨ (n : Int) < m
  · rw [if_pos e1]
    exact h
  · rw [if_neg e1]
    refine ⟨h.1, h.2.1, ?_, ⟨?_, fun k hk => h.2.2.2.1.2 k ?_⟩, h.2.2.2.2⟩
    · rcases h.2.2.1 with z | z
      · exact Or.inl z
      · refine Or.inr ⟨z.1, z.2.1, ?_, z.2.2.2⟩
        have z2 := z.2.2.1
        show m.toNat = 0
        omega
    · have z := h.2.2.2.1.1
      show m.toNat ≤ 40
      omega
    · have hk2 : k ≤ m.toNat := hk
      omega
theorem WF_text {rs : Nat → Int} {it : Nat → Nat → Int} {ts : Nat → Int} {ch : Nat → Nat → Int} {tl up lo : Int} {fn : Nat → Int} {w pl : Int} {kd wt nx : Nat → Int} {n : Nat} {hs : Nat → Nat → Int} {kp : Nat → Int} {kh : Nat → Nat → Nat → Int} {t m : Int} (h : WF rs it ts ch tl up lo fn w pl kd wt nx n hs kp kh) : WF rs it (o_text ts ch fn t m).2.1 (o_text ts ch fn t m).2.2.1 tl up lo (o_text ts ch fn t m).2.2.2 w pl kd wt nx n hs kp kh := by
  unfold o_text
  by_cases e1 : t < 0 ∨ 3 < t ∨ 60 < m
  · rw [if_pos e1]
    exact h
  · rw [if_neg e1]
    by_cases e2 : m < 0
    · rw [if_pos e2]
      exact h
    · rw [if_neg e2]
      refine ⟨h.1, fun t2 ht2 => ?_, h.2.2⟩
      show (fup ts t.toNat m t2 = -1 ∨ (0 ≤ fup ts t.toNat m t2 ∧ fup ts t.toNat m t2 ≤ 60)) ∧ ∀ k : Nat, (k : Int) < fup ts t.toNat m t2 → -128 ≤ rup ch t.toNat (fun _ => 32) t2 k ∧ rup ch t.toNat (fun _ => 32) t2 k ≤ 127
      unfold fup rup
      by_cases e : t2 = t.toNat
      · rw [if_pos e, if_pos e]
        exact ⟨by omega, fun k hk => by show (-128 : Int) ≤ 32 ∧ (32 : Int) ≤ 127; omega⟩
      · rw [if_neg e, if_neg e]
        exact h.2.1 t2 ht2
theorem WF_put {rs : Nat → Int} {it : Nat → Nat → Int} {ts : Nat → Int} {ch : Nat → Nat → Int} {tl up lo : Int} {fn : Nat → Int} {w pl : Int} {kd wt nx : Nat → Int} {n : Nat} {hs : Nat → Nat → Int} {kp : Nat → Int} {kh : Nat → Nat → Nat → Int} {t i v : Int} (h : WF rs it ts ch tl up lo fn w pl kd wt nx n hs kp kh) : WF rs it ts (o_put ts ch fn t i v).2.1 tl up lo (o_put ts ch fn t i v).2.2 w pl kd wt nx n hs kp kh := by
  unfold o_put
  by_cases e1 : t < 0 ∨ 3 < t
  · rw [if_pos e1]
    exact h
  · rw [if_neg e1]
    by_cases e2 : ts t.toNat = -1
    · rw [if_pos e2]
      exact h
    · rw [if_neg e2]
      by_cases e3 : i < 0 ∨ ts t.toNat ≤ i
      · rw [if_pos e3]
        exact h
      · rw [if_neg e3]
        refine ⟨h.1, fun t2 ht2 => ⟨(h.2.1 t2 ht2).1, fun k hk => ?_⟩, h.2.2⟩
        show -128 ≤ rup ch t.toNat (fup (ch t.toNat) i.toNat (dz_b v)) t2 k ∧ rup ch t.toNat (fup (ch t.toNat) i.toNat (dz_b v)) t2 k ≤ 127
        unfold rup
        by_cases e : t2 = t.toNat
        · rw [if_pos e]
          unfold fup
          by_cases e4 : k = i.toNat
          · rw [if_pos e4]
            unfold dz_b
            omega
          · rw [if_neg e4]
            rw [e] at hk ht2
            exact (h.2.1 _ ht2).2 k hk
        · rw [if_neg e]
          exact (h.2.1 t2 ht2).2 k hk
theorem WF_keep {rs : Nat → Int} {it : Nat → Nat → Int} {ts : Nat → Int} {ch : Nat → Nat → Int} {tl up lo : Int} {fn : Nat → Int} {w pl : Int} {kd wt nx : Nat → Int} {n : Nat} {hs : Nat → Nat → Int} {kp : Nat → Int} {kh : Nat → Nat → Nat → Int} {k : Int} (h : WF rs it ts ch tl up lo fn w pl kd wt nx n hs kp kh) : WF rs it ts ch tl up lo fn w pl kd wt nx n hs (o_keep w n hs kp kh k).2.1 (o_keep w n hs kp kh k).2.2 := by
  unfold o_keep
  by_cases e1 : k < 0 ∨ 2 < k
  · rw [if_pos e1]
    exact h
  · rw [if_neg e1]
    by_cases e2 : w = 0
    · rw [if_pos e2]
      exact h
    · rw [if_neg e2]
      refine ⟨h.1, h.2.1, ?_, h.2.2.2.1, fun k2 hk2 => ?_⟩
      · rcases h.2.2.1 with z | z
        · exact Or.inl z
        · exact absurd z.1 e2
      · show fup kp k.toNat (n : Int) k2 = -1 ∨ (0 ≤ fup kp k.toNat (n : Int) k2 ∧ fup kp k.toNat (n : Int) k2 ≤ 40 ∧ ∀ j : Nat, (j : Int) ≤ fup kp k.toNat (n : Int) k2 → stok w pl (29 * j) ((if k2 = k.toNat then hs else kh k2) j))
        unfold fup
        by_cases e : k2 = k.toNat
        · rw [if_pos e, if_pos e]
          have z := h.2.2.2.1.1
          exact Or.inr ⟨by omega, by omega, fun j hj => h.2.2.2.1.2 j (by omega)⟩
        · rw [if_neg e, if_neg e]
          exact h.2.2.2.2 k2 hk2
theorem WF_on {rs : Nat → Int} {it : Nat → Nat → Int} {ts : Nat → Int} {ch : Nat → Nat → Int} {tl up lo : Int} {fn : Nat → Int} {w pl : Int} {kd wt nx : Nat → Int} {n : Nat} {hs : Nat → Nat → Int} {kp : Nat → Int} {kh : Nat → Nat → Nat → Int} {k : Int} (h : WF rs it ts ch tl up lo fn w pl kd wt nx n hs kp kh) : WF rs it ts ch tl up lo (o_on fn n hs kp kh k).2.1 w pl kd wt nx (o_on fn n hs kp kh k).2.2.1 (o_on fn n hs kp kh k).2.2.2 kp kh := by
  unfold o_on
  by_cases e1 : k < 0 ∨ 2 < k
  · rw [if_pos e1]
    exact h
  · rw [if_neg e1]
    by_cases e2 : kp k.toNat = -1
    · rw [if_pos e2]
      exact h
    · rw [if_neg e2]
      rcases h.2.2.2.2 k.toNat (by omega) with z | z
      · exact absurd z e2
      · refine ⟨h.1, h.2.1, ?_, ⟨?_, fun j hj => z.2.2 j ?_⟩, h.2.2.2.2⟩
        · rcases h.2.2.1 with y | y
          · exact Or.inl y
          · exact absurd (y.2.2.2 k.toNat (by omega)) e2
        · have z1 := z.2.1
          show (kp k.toNat).toNat ≤ 40
          omega
        · have z1 := z.1
          have hj2 : j ≤ (kp k.toNat).toNat := hj
          omega
theorem WF_init : WF (fun _ => -1) (fun _ _ => 0) (fun _ => -1) (fun _ _ => 0) 0 0 1 (fun _ => 0) 0 0 (fun _ => 0) (fun _ => 0) (fun _ => 0) 0 (fun _ => hs0) (fun _ => -1) (fun _ _ _ => 0) := by
  refine ⟨fun r hr => Or.inl rfl, fun t ht => ⟨Or.inl rfl, fun k hk => by have z : (k : Int) < -1 := hk; omega⟩, Or.inr ⟨rfl, rfl, rfl, fun k hk => rfl⟩, ⟨by omega, fun k hk => ?_⟩, fun k hk => Or.inl rfl⟩
  have hk0 : k = 0 := by omega
  subst hk0
  refine ⟨by omega, by decide, by decide, by decide, by decide, Or.inl rfl, by decide, by decide, fun i hi => by omega⟩
theorem RX_lo {M M2 : Nat → Nat → Int} {rs : Nat → Int} {it : Nat → Nat → Int} {ts : Nat → Int} {ch : Nat → Nat → Int} {tl up lo : Int} {fn : Nat → Int} {w pl : Int} {kd wt nx : Nat → Int} {n : Nat} {hs : Nat → Nat → Int} {kp : Nat → Int} {kh : Nat → Nat → Nat → Int} (hR : RX M rs it ts ch tl up lo fn w pl kd wt nx n hs kp kh) (h : ∀ q2 k2, q2 < 115 → M2 q2 k2 = M q2 k2) : RX M2 rs it ts ch tl up lo fn w pl kd wt nx n hs kp kh := by
  obtain ⟨hrow, htxt, htl, hup, hlo, hfn, hdr, hkp, hrb⟩ := id hR
  exact ⟨rowX_fr hrow (fun q2 k2 u1 u2 => h _ _ (by omega)), txtX_fr htxt (fun q2 k2 u1 u2 => h _ _ (by omega)), Eq.trans (h _ _ (by omega)) htl, Eq.trans (h _ _ (by omega)) hup, Eq.trans (h _ _ (by omega)) hlo, fndX_fr hfn (h _ _ (by omega)) (fun k2 => h _ _ (by omega)), drX_fr hdr (fun q2 k2 u1 u2 => h _ _ (by omega)), kepX_fr hkp (fun q2 k2 u1 u2 => h _ _ (by omega)), rbX_fr hrb (fun q2 k2 u1 => h _ _ (by omega))⟩
theorem RM_hi {M M2 : Nat → Nat → Int} {rs : Nat → Int} {it : Nat → Nat → Int} {ts : Nat → Int} {ch : Nat → Nat → Int} {tl up lo : Int} {fn : Nat → Int} {w pl : Int} {kd wt nx : Nat → Int} {n : Nat} {hs : Nat → Nat → Int} {kp : Nat → Int} {kh : Nat → Nat → Nat → Int} (hR : RM M rs it ts ch tl up lo fn w pl kd wt nx n hs kp kh) (hW : WF rs it ts ch tl up lo fn w pl kd wt nx n hs kp kh) (h : ∀ q2 k2, 115 ≤ q2 → M2 q2 k2 = M q2 k2) : RM M2 rs it ts ch tl up lo fn w pl kd wt nx n hs kp kh := by
  obtain ⟨hrow, htxt, htl, hup, hlo, hfn, hdr, hkp⟩ := id hR
  obtain ⟨wrow, wtxt, wdr, wst, wkp⟩ := id hW
  have hw6 := WF_w hW
  have hdr3 : drM M w pl kd wt nx n hs ∧ w ≤ 6 ∧ n ≤ 40 := ⟨hdr, hw6.2, wst.1⟩
  have hkp3 : kepM M w kp kh ∧ w ≤ 6 ∧ ∀ k, k < 3 → kp k ≤ 40 := ⟨hkp, hw6.2, fun k hk => by
    rcases wkp k hk with z | z
    · omega
    · exact z.2.1⟩
  exact ⟨rowM_fr hrow (fun k2 => h _ _ (by omega)) (fun k2 => h _ _ (by omega)), txtM_fr htxt (fun k2 => h _ _ (by omega)) (fun k2 => h _ _ (by omega)), Eq.trans (h _ _ (by omega)) htl, Eq.trans (h _ _ (by omega)) hup, Eq.trans (h _ _ (by omega)) hlo, fndM_fr hfn (h _ _ (by omega)) (fun k2 => h _ _ (by omega)), drM_fr hdr3 (h _ _ (by omega)) (h _ _ (by omega)) (fun k2 => h _ _ (by omega)) (fun k2 => h _ _ (by omega)) (fun k2 => h _ _ (by omega)) (fun k2 u1 => h _ _ (by omega)), kepM_fr hkp3 (fun k2 u1 u2 => h _ _ (by omega))⟩
theorem WF_odeed {rs : Nat → Int} {it : Nat → Nat → Int} {ts : Nat → Int} {ch : Nat → Nat → Int} {tl up lo : Int} {fn : Nat → Int} {w pl : Int} {kd wt nx : Nat → Int} {n : Nat} {hs : Nat → Nat → Int} {kp : Nat → Int} {kh : Nat → Nat → Nat → Int} {wh a b : Int} (hw0 : w ≠ 0) (hd : dok w pl wh a b (hs n)) (h : WF rs it ts ch tl up lo fn w pl kd wt nx n hs kp kh) : WF rs it ts ch tl up lo fn w pl kd wt nx (o_deed pl kd wt nx n hs wh a b).2.1 (o_deed pl kd wt nx n hs wh a b).2.2 kp kh := by
  unfold o_deed
  by_cases e1 : n = 40
  · rw [if_pos e1]
    exact h
  · rw [if_neg e1]
    have hn := h.2.2.2.1.1
    exact WF_deed h hw0 (by omega) (stok_up (ded_ok (WF_p h hw0) (h.2.2.2.1.2 n (Nat.le_refl n)) (by omega) hd) (by omega) (by omega))
theorem WF_step {rs : Nat → Int} {it : Nat → Nat → Int} {ts : Nat → Int} {ch : Nat → Nat → Int} {tl up lo : Int} {fn : Nat → Int} {w pl : Int} {kd wt nx : Nat → Int} {n : Nat} {hs : Nat → Nat → Int} {kp : Nat → Int} {kh : Nat → Nat → Nat → Int}  (h : WF rs it ts ch tl up lo fn w pl kd wt nx n hs kp kh) : WF rs it ts ch tl up lo fn w pl kd wt nx (o_step w pl kd wt nx n hs).2.1 (o_step w pl kd wt nx n hs).2.2 kp kh := by
  unfold o_step
  by_cases e1 : w = 0 ∨ hs n 3 = -9
  · rw [if_pos e1]
    exact h
  · rw [if_neg e1]
    exact WF_odeed (by omega) (by unfold dok; omega) h
theorem WF_move {rs : Nat → Int} {it : Nat → Nat → Int} {ts : Nat → Int} {ch : Nat → Nat → Int} {tl up lo : Int} {fn : Nat → Int} {w pl : Int} {kd wt nx : Nat → Int} {n : Nat} {hs : Nat → Nat → Int} {kp : Nat → Int} {kh : Nat → Nat → Nat → Int} {i p : Int} (h : WF rs it ts ch tl up lo fn w pl kd wt nx n hs kp kh) : WF rs it ts ch tl up lo fn w pl kd wt nx (o_move w pl kd wt nx n hs i p).2.1 (o_move w pl kd wt nx n hs i p).2.2 kp kh := by
  unfold o_move
  by_cases e1 : i < 0 ∨ w ≤ i ∨ p < 0 ∨ pl ≤ p
  · rw [if_pos e1]
    exact h
  · rw [if_neg e1]
    by_cases e2 : ly_at (fun k => hs n (5 + k)) p w.toNat 0 = -9
    · rw [if_pos e2]
      exact WF_odeed (by omega) (by unfold dok; omega) h
    · rw [if_neg e2]
      exact h
theorem WF_swap {rs : Nat → Int} {it : Nat → Nat → Int} {ts : Nat → Int} {ch : Nat → Nat → Int} {tl up lo : Int} {fn : Nat → Int} {w pl : Int} {kd wt nx : Nat → Int} {n : Nat} {hs : Nat → Nat → Int} {kp : Nat → Int} {kh : Nat → Nat → Nat → Int} {i j : Int} (h : WF rs it ts ch tl up lo fn w pl kd wt nx n hs kp kh) : WF rs it ts ch tl up lo fn w pl kd wt nx (o_swap w pl kd wt nx n hs i j).2.1 (o_swap w pl kd wt nx n hs i j).2.2 kp kh := by
  unfold o_swap
  by_cases e1 : i < 0 ∨ w ≤ i ∨ j < 0 ∨ w ≤ j ∨ i = j
  · rw [if_pos e1]
    exact h
  · rw [if_neg e1]
    exact WF_odeed (by omega) (by unfold dok; omega) h
theorem WF_value {rs : Nat → Int} {it : Nat → Nat → Int} {ts : Nat → Int} {ch : Nat → Nat → Int} {tl up lo : Int} {fn : Nat → Int} {w pl : Int} {kd wt nx : Nat → Int} {n : Nat} {hs : Nat → Nat → Int} {kp : Nat → Int} {kh : Nat → Nat → Nat → Int} {i v : Int} (h : WF rs it ts ch tl up lo fn w pl kd wt nx n hs kp kh) : WF rs it ts ch tl up lo fn w pl kd wt nx (o_value w pl kd wt nx n hs i v).2.1 (o_value w pl kd wt nx n hs i v).2.2 kp kh := by
  unfold o_value
  by_cases e1 : i < 0 ∨ w ≤ i ∨ v < 0 ∨ 99 < v
  · rw [if_pos e1]
    exact h
  · rw [if_neg e1]
    exact WF_odeed (by omega) (by unfold dok; omega) h
