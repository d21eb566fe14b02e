/-! new T[n][m] -/
theorem dz_mna_len {g : dz_G} {t u n k : Nat} : (dz_mna g t u n k).1.length = g.1.length + 1 + n := by
  show (g.1 ++ (Sum.inr (t, n) :: List.replicate n (Sum.inr (u, k)))).length = _
  simp
  omega
theorem dz_mna_lt {g : dz_G} {t u n k q : Nat} (h : q < g.1.length) : (dz_mna g t u n k).1[q]? = g.1[q]? := by
  show (g.1 ++ (.inr (t, n) :: List.replicate n (.inr (u, k))))[q]? = _
  rw [List.getElem?_append_left h]
theorem dz_mna_o {g : dz_G} {t u n k : Nat} : (dz_mna g t u n k).1[g.1.length]? = some (.inr (t, n)) := by
  show (g.1 ++ (.inr (t, n) :: List.replicate n (.inr (u, k))))[g.1.length]? = _
  rw [List.getElem?_append_right (Nat.le_refl _), Nat.sub_self]
  rfl
theorem dz_mna_i {g : dz_G} {t u n k i : Nat} (h : i < n) : (dz_mna g t u n k).1[g.1.length + 1 + i]? = some (.inr (u, k)) := by
  show (g.1 ++ (.inr (t, n) :: List.replicate n (.inr (u, k))))[g.1.length + 1 + i]? = _
  rw [List.getElem?_append_right (by omega), show g.1.length + 1 + i - g.1.length = i + 1 by omega, List.getElem?_cons_succ, List.getElem?_replicate, if_pos h]
/-- every cell of it: an old one, the outer one, an inner one -/
theorem dz_mna_q {g : dz_G} {t u n k q : Nat} {x : Nat ⊕ (Nat × Nat)} (h : (dz_mna g t u n k).1[q]? = some x) : (q < g.1.length ∧ g.1[q]? = some x) ∨ (g.1.length ≤ q ∧ (x = .inr (t, n) ∨ x = .inr (u, k))) := by
  have hl := (List.getElem?_eq_some_iff.mp h).1
  rw [dz_mna_len] at hl
  by_cases h1 : q < g.1.length
  · rw [dz_mna_lt h1] at h
    exact Or.inl ⟨h1, h⟩
  · refine Or.inr ⟨by omega, ?_⟩
    by_cases h2 : q = g.1.length
    · subst h2
      rw [dz_mna_o] at h
      exact Or.inl (Option.some.inj h).symm
    · rw [show q = g.1.length + 1 + (q - g.1.length - 1) by omega, dz_mna_i (by omega)] at h
      exact Or.inr (Option.some.inj h).symm
theorem dz_okG_mna {g : dz_G} {t u n k : Nat} (h : dz_okG g) (ht : t < 6) (hu : u < 6) (hn : n < 2147483648) (hk : k < 2147483648) : dz_okG (dz_mna g t u n k) := by
  obtain ⟨a, b, c, d, f⟩ := h
  have hM : ∀ q j, (dz_mna g t u n k).2.2 q j = if g.1.length ≤ q then 0 else g.2.2 q j := fun _ _ => rfl
  refine ⟨fun q j => ?_, fun q j => ?_, fun q j ci hq ht => ?_, fun q t' n' hq => ⟨fun ht j => ?_, ?_⟩, fun q ci hq => ?_⟩
  · rw [dz_mna_len]
    show (if g.1.length ≤ q then (if q = g.1.length ∧ j < n then g.1.length + 1 + j + 1 else 0) else g.2.1 q j) ≤ _
    split
    · split <;> omega
    · have := a q j; omega
  · rw [hM]
    split
    · exact dz_in0.2
    · exact b q j
  · rw [hM]
    split
    · exact dz_in0.1
    · rcases dz_mna_q hq with ⟨h1, h2⟩ | ⟨h1, h2⟩
      · exact c q j ci h2 ht
      · omega
  · rw [hM]
    split
    · exact dz_in0.1
    · rcases dz_mna_q hq with ⟨h1, h2⟩ | ⟨h1, h2⟩
      · exact (d q t' n' h2).1 ht j
      · omega
  · rcases dz_mna_q hq with ⟨h1, h2⟩ | ⟨h1, h2 | h2⟩
    · exact (d q t' n' h2).2
    · cases h2; exact ⟨hn, ht⟩
    · cases h2; exact ⟨hk, hu⟩
  · rcases dz_mna_q hq with ⟨h1, h2⟩ | ⟨h1, h2 | h2⟩
    · exact f q ci h2
    · cases h2
    · cases h2
def dz_adm (ad : Nat → Nat) (n a : Nat) (r : Nat → Nat) : Nat → Nat := fun q => if q < n then ad q else if q = n then a else r (q - n - 1)
theorem dz_adm_lt {ad r : Nat → Nat} {n a q : Nat} (h : q < n) : dz_adm ad n a r q = ad q := by
  unfold dz_adm
  rw [if_pos h]
theorem dz_adm_eq (ad r : Nat → Nat) (n a : Nat) : dz_adm ad n a r n = a := by
  unfold dz_adm
  rw [if_neg (by omega), if_pos rfl]
theorem dz_adm_i (ad r : Nat → Nat) (n a i : Nat) : dz_adm ad n a r (n + 1 + i) = r i := by
  unfold dz_adm
  rw [if_neg (by omega), if_neg (by omega), show n + 1 + i - n - 1 = i by omega]
theorem dz_ws_mna {aC : Nat → ClassId} {ad r : Nat → Nat} {g : dz_G} {t u n k a : Nat} (h : dz_okG g) (ht : t = 4 ∨ t = 5) (hu : u < 3) :
    dz_ws aC (dz_adm ad g.1.length a r) (dz_mna g t u n k) = (dz_ws aC ad g ++ [(a, .inl (aC t, n, .inr (.inr (.inr (.inr (fun i => if i < n then some (r i) else none))))))]) ++ (List.range n).map (fun i => (r i, .inl (aC u, dz_av ad u k (fun _ => 0) (fun _ => 0)))) := by
  have hup : ∀ q, q < g.1.length → dz_adm ad g.1.length a r q = ad q := fun q h => dz_adm_lt h
  unfold dz_ws
  rw [dz_mna_len, show g.1.length + 1 + n = (g.1.length + 1) + n from rfl, List.range_add, List.map_append, List.range_succ, List.map_append]
  congr 1
  · congr 1
    · refine List.map_congr_left fun q hq => ?_
      have hl : q < g.1.length := List.mem_range.mp hq
      rw [hup q hl, dz_ce_ad (n := g.1.length) hup (h.1 q) (dz_mna_lt hl) (fun j => ?_) (fun j => ?_)]
      · show (if g.1.length ≤ q then _ else g.2.1 q j) = _
        rw [if_neg (by omega)]
      · show (if g.1.length ≤ q then _ else g.2.2 q j) = _
        rw [if_neg (by omega)]
    · show [(dz_adm ad g.1.length a r g.1.length, dz_ce aC _ _ g.1.length)] = [_]
      rw [dz_adm_eq, dz_ce_a dz_mna_o]
      have e1 : dz_av (dz_adm ad g.1.length a r) t n ((dz_mna g t u n k).2.1 g.1.length) ((dz_mna g t u n k).2.2 g.1.length) = (n, .inr (.inr (.inr (.inr (fun i => if i < n then some (r i) else none))))) := by
        have e2 : (fun j => dz_ro (dz_adm ad g.1.length a r) ((dz_mna g t u n k).2.1 g.1.length j)) = fun i => if i < n then some (r i) else none := by
          funext j
          show dz_ro _ (if g.1.length ≤ g.1.length then (if g.1.length = g.1.length ∧ j < n then g.1.length + 1 + j + 1 else 0) else _) = _
          rw [if_pos (Nat.le_refl _)]
          by_cases hj : j < n
          · rw [if_pos ⟨rfl, hj⟩, if_pos hj]
            show some (dz_adm ad g.1.length a r (g.1.length + 1 + j)) = _
            rw [dz_adm_i]
          · rw [if_neg (fun z => hj z.2), if_neg hj]
            rfl
        rw [← e2]
        rcases ht with rfl | rfl <;> rfl
      rw [e1]
  · rw [List.map_map]
    refine List.map_congr_left fun i hi => ?_
    have hl : i < n := List.mem_range.mp hi
    show (dz_adm ad g.1.length a r (g.1.length + 1 + i), dz_ce aC _ _ (g.1.length + 1 + i)) = _
    rw [dz_adm_i, dz_ce_a (dz_mna_i hl)]
    have e1 : (dz_mna g t u n k).2.2 (g.1.length + 1 + i) = fun _ => 0 := by
      funext j
      show (if g.1.length ≤ g.1.length + 1 + i then 0 else _) = 0
      rw [if_pos (by omega)]
    rw [e1]
    match u, hu with
    | 0, _ => rfl
    | 1, _ => rfl
    | 2, _ => rfl
section DZM
variable {p : Program} {l : Launch} {e : Env} {R : Room} {s : State} {m : MethodId} {args : Array Value} {below : List Frame} {meth : Method} {cd : Code} {cc : ByteArray} {own : String} {nL : Nat} {D : va_G} {aC : Nat → ClassId} {ob : Nat → Nat} {xo : Nat → List Int} {A : Nat → Prop} {Qm : State → Prop} {n0 : Nat} {ad0 : Nat → Nat}
variable {pc pc1 kc ks : Nat} {L : dz_L} {st st1 : List dz_V} {g : dz_G}
theorem dzs_multi (C : dz_ctx p s m args meth cd cc own nL D aC ob xo A) {idx t u : Nat} {n k : Int} {st : List dz_V} (htu : (t = 4 ∧ u = 0) ∨ (t = 5 ∧ u = 2)) (hw : (Cond.classLink own idx ("[" ++ (dz_ty t).toString)).before args s = true) (hw2 : (Cond.arrayClass (dz_ty u)).before args s = true) (hd : decode cc pc = .ok (.multianewarray idx 2, 4)) (h0 : 0 ≤ n) (h1 : n ≤ 60000) (h2 : 0 ≤ k) (h3 : k ≤ 60000) (hc : kc + (1 + n.toNat) ≤ R.cells) (hs : ks + (n.toNat + n.toNat * k.toNat) ≤ R.slots)
    (h : dz_Wp p l e R s m args below meth cd nL D aC ob A Qm n0 ad0 (pc + 4) L (.inr (.inr (.inl g.1.length)) :: st) (kc + 1 + n.toNat) (ks + n.toNat + n.toNat * k.toNat) (dz_mna g t u n.toNat k.toNat)) : dz_Wp p l e R s m args below meth cd nL D aC ob A Qm n0 ad0 pc L (.inl k :: .inl n :: st) kc ks g := by
  intro hn ls H locs ad had Z
  have hk : dz_in32 k := dz_ok1 Z.2.2.1
  have hi : dz_in32 n := dz_ok1 (dz_okt Z.2.2.1)
  have ety : dz_ty t = .array (dz_ty u) := by rcases htu with ⟨rfl, rfl⟩ | ⟨rfl, rfl⟩ <;> rfl
  have hover : va_AOA (dz_ty u) s := by
    rcases htu with ⟨rfl, rfl⟩ | ⟨rfl, rfl⟩
    · exact C.2.2.2.2.2.2.2.1.2.2.1
    · exact C.2.2.2.2.2.2.2.1.2.2.2
  have hcy : s.vm.findClass (FieldType.array (dz_ty u)).toString = some (aC u) := by
    rcases htu with ⟨rfl, rfl⟩ | ⟨rfl, rfl⟩
    · exact (C.2.2.2.2.2.1.2 0 _ (dz_tys_at (aC := aC) (by decide))).2
    · exact (C.2.2.2.2.2.1.2 2 _ (dz_tys_at (aC := aC) (by decide))).2
  have hu3 : u < 3 := by omega
  refine va_mna (X := dz_ws aC ad g) (L := []) (f := fun _ => .inr (0, [])) (z := dz_av ad u k.toNat (fun _ => 0) (fun _ => 0)) C.1 C.2.1 C.2.2.2.1 (by rw [← ety]; exact hw) hover hw2 hcy C.2.2.2.2.2.1 (by show va_P _ _ (_ ++ []) _; rw [List.append_nil]; exact Z.2.2.2.2.1) (by show va_D _ (_ ++ []); rw [List.append_nil]; exact Z.2.2.2.2.2.1) Z.2.2.2.2.2.2 C.2.2.2.2.2.2.1 (fun z => by have := (dz_ilt hi dz_in0.1).mp z; omega) (fun z => by have := (dz_ilt hk dz_in0.1).mp z; omega) (dz_clamp hi) (dz_clamp hk) (by omega) ?_ (by omega) ?_ ?_ hc hs ?_ hd (fun q r cA H1 hr1 hr2 yK y5 y6 y7 => ?_)
  · rcases htu with ⟨rfl, rfl⟩ | ⟨rfl, rfl⟩
    · show k.toNat * 4 ≤ _; omega
    · show k.toNat * 1 ≤ _; omega
  · rcases htu with ⟨rfl, rfl⟩ | ⟨rfl, rfl⟩ <;> rfl
  · rcases htu with ⟨rfl, rfl⟩ | ⟨rfl, rfl⟩ <;> rfl
  · intro c
    rw [dz_vpc hu3 ad c, ← arrV_new]
    rfl
  · rw [← ety] at yK
    obtain rfl := dz_aC_of C.2.2.2.2.2.1 (by omega) yK
    have epl : va_pl ([] ++ (List.range n.toNat).map r) (vr_up (fun _ => (.inr (0, []) : va_E)) ((List.range n.toNat).map r) (.inl (aC u, dz_av ad u k.toNat (fun _ => 0) (fun _ => 0)))) = (List.range n.toNat).map (fun i => (r i, .inl (aC u, dz_av ad u k.toNat (fun _ => 0) (fun _ => 0)))) := by
      unfold va_pl
      rw [List.nil_append, List.map_map]
      refine List.map_congr_left fun i hi => ?_
      show (r i, vr_up _ _ _ (r i)) = _
      rw [vr_up_in (List.mem_map.mpr ⟨i, hi, rfl⟩)]
    rw [epl, ← dz_ws_mna Z.2.2.2.1 (by omega) hu3] at y5 y6
    have hup : ∀ q', q' < g.1.length → dz_adm ad g.1.length q r q' = ad q' := fun q' h => dz_adm_lt h
    have hle : g.1.length ≤ (dz_mna g t u n.toNat k.toNat).1.length := by rw [dz_mna_len]; omega
    have h4 := h (by omega) ls H1 locs (dz_adm ad g.1.length q r) (fun q' hq => by rw [hup q' (by omega)]; exact had q' hq)
      ⟨dz_lr_ad hup Z.2.1 Z.1, fun j v hj => dz_okV_up hle (Z.2.1 j v hj), dz_okc (show dz_okV _ (.inr (.inr (.inl g.1.length))) from (by rw [dz_mna_len]; show _ < _; omega)) (fun v hv => dz_okV_up hle (dz_okt (dz_okt Z.2.2.1) v hv)), dz_okG_mna Z.2.2.2.1 (by omega) (by omega) (by omega) (by omega), y5, y6, y7⟩
    rw [List.map_cons, dz_st_ad hup (dz_okt (dz_okt Z.2.2.1))] at h4
    have e1 : dz_cv (dz_adm ad g.1.length q r) ob (.inr (.inr (.inl g.1.length))) = .ref q := by
      show Value.ref _ = _
      rw [dz_adm_eq]
    rw [e1] at h4
    exact h4
end DZM
