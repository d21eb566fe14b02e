/-! New cells. -/
theorem dz_ro_ad {ad ad' : Nat → Nat} {n r : Nat} (h : ∀ q, q < n → ad' q = ad q) (hr : r ≤ n) : dz_ro ad' r = dz_ro ad r := by
  cases r with
  | zero => rfl
  | succ r => show some (ad' r) = some (ad r); rw [h r (by omega)]
theorem dz_fv_ad {ad ad' : Nat → Nat} {n r t : Nat} {x : Int} (h : ∀ q, q < n → ad' q = ad q) (hr : r ≤ n) : dz_fv ad' t r x = dz_fv ad t r x := by
  unfold dz_fv
  rw [dz_ro_ad h hr]
theorem dz_av_ad {ad ad' : Nat → Nat} {n t k : Nat} {rf : Nat → Nat} {M : Nat → Int} (h : ∀ q, q < n → ad' q = ad q) (hr : ∀ k, rf k ≤ n) : dz_av ad' t k rf M = dz_av ad t k rf M := by
  unfold dz_av
  have e : (fun k => dz_ro ad' (rf k)) = fun k => dz_ro ad (rf k) := funext fun k => dz_ro_ad h (hr k)
  rw [e]
theorem dz_ce_ad {aC : Nat → ClassId} {ad ad' : Nat → Nat} {g g' : dz_G} {n q : Nat} (h : ∀ q, q < n → ad' q = ad q) (hr : ∀ k, g.2.1 q k ≤ n) (h0 : g'.1[q]? = g.1[q]?) (h1 : ∀ k, g'.2.1 q k = g.2.1 q k) (h2 : ∀ k, g'.2.2 q k = g.2.2 q k) : dz_ce aC ad' g' q = dz_ce aC ad g q := by
  have e1 : g'.2.1 q = g.2.1 q := funext h1
  have e2 : g'.2.2 q = g.2.2 q := funext h2
  unfold dz_ce
  rw [h0, e1, e2]
  split
  · congr 2
    exact List.map_congr_left fun k _ => dz_fv_ad h (hr k)
  · rw [dz_av_ad h hr]
  · rfl
theorem dz_cv_ad {ad ad' ob : Nat → Nat} {n : Nat} {v : dz_V} (h : ∀ q, q < n → ad' q = ad q) (hv : dz_okV n v) : dz_cv ad' ob v = dz_cv ad ob v := by
  rcases v with x | x | x | x
  · rfl
  · rfl
  · show Value.ref (ad' x) = Value.ref (ad x)
    rw [h x hv]
  · rfl
theorem dz_st_ad {ad ad' ob : Nat → Nat} {n : Nat} {st : List dz_V} (h : ∀ q, q < n → ad' q = ad q) (hv : ∀ v ∈ st, dz_okV n v) : st.map (dz_cv ad' ob) = st.map (dz_cv ad ob) := List.map_congr_left fun v hm => dz_cv_ad h (hv v hm)
theorem dz_lr_ad {ad ad' ob : Nat → Nat} {n nL : Nat} {ls : Array Slot} {L : dz_L} (h : ∀ q, q < n → ad' q = ad q) (hv : ∀ (k : Nat) (v : dz_V), L[k]? = some (some v) → dz_okV n v) (hl : dz_lr ad ob ls nL L) : dz_lr ad' ob ls nL L := by
  refine ⟨hl.1, hl.2.1, hl.2.2.1, fun q hq => hl.2.2.2 q ?_⟩
  obtain ⟨i, v, h1, h2⟩ := dz_ll_mem.mp hq
  exact dz_ll_mem.mpr ⟨i, v, h1, by rw [h2, dz_cv_ad h (hv i v h1)]⟩
theorem dz_okV_up {n n' : Nat} {v : dz_V} (h : n ≤ n') (hv : dz_okV n v) : dz_okV n' v := by
  rcases v with x | x | x | x
  · exact hv
  · exact hv
  · exact Nat.lt_of_lt_of_le hv h
  · exact hv
def dz_okx : Nat ⊕ (Nat × Nat) → Prop
  | .inl ci => ci < 7
  | .inr (t, n) => n < 2147483648 ∧ t < 6
theorem dz_in0 : dz_in32 0 ∧ dz_in64 0 := by unfold dz_in32 dz_in64; omega
theorem dz_new_get {g : dz_G} {x : Nat ⊕ (Nat × Nat)} {q : Nat} : (dz_new g x).1[q]? = if q = g.1.length then some x else g.1[q]? := by
  show (g.1 ++ [x])[q]? = _
  by_cases e : q = g.1.length
  · rw [if_pos e, e]
    simp
  · rw [if_neg e]
    by_cases hl : q < g.1.length
    · rw [List.getElem?_append_left hl]
    · rw [List.getElem?_eq_none (by simp; omega), List.getElem?_eq_none (by omega)]
theorem dz_new_len {g : dz_G} {x : Nat ⊕ (Nat × Nat)} : (dz_new g x).1.length = g.1.length + 1 := by
  show (g.1 ++ [x]).length = _
  simp
theorem dz_okG_new {g : dz_G} {x : Nat ⊕ (Nat × Nat)} (h : dz_okG g) (hx : dz_okx x) : dz_okG (dz_new g x) := by
  obtain ⟨a, b, c, d, f⟩ := h
  refine ⟨fun q k => ?_, fun q k => ?_, fun q k ci hq ht => ?_, fun q t n hq => ⟨fun ht k => ?_, ?_⟩, fun q ci hq => ?_⟩
  · rw [dz_new_len]
    show (if q = g.1.length then 0 else g.2.1 q k) ≤ _
    split
    · omega
    · have := a q k; omega
  · show dz_in64 (if q = g.1.length then 0 else g.2.2 q k)
    split
    · exact dz_in0.2
    · exact b q k
  · show dz_in32 (if q = g.1.length then 0 else g.2.2 q k)
    rw [dz_new_get] at hq
    split
    · exact dz_in0.1
    · rename_i e
      rw [if_neg e] at hq
      exact c q k ci hq ht
  · show dz_in32 (if q = g.1.length then 0 else g.2.2 q k)
    rw [dz_new_get] at hq
    split
    · exact dz_in0.1
    · rename_i e
      rw [if_neg e] at hq
      exact (d q t n hq).1 ht k
  · rw [dz_new_get] at hq
    split at hq
    · cases hq
      exact hx
    · exact (d q t n hq).2
  · rw [dz_new_get] at hq
    split at hq
    · cases hq
      exact hx
    · exact f q ci hq
def dz_ad1 (ad : Nat → Nat) (n a : Nat) : Nat → Nat := fun q => if q = n then a else ad q
theorem dz_ad1_lt {ad : Nat → Nat} {n a q : Nat} (h : q < n) : dz_ad1 ad n a q = ad q := by
  unfold dz_ad1
  rw [if_neg (by omega)]
theorem dz_ad1_eq (ad : Nat → Nat) (n a : Nat) : dz_ad1 ad n a n = a := by
  unfold dz_ad1
  rw [if_pos rfl]
theorem dz_ws_new {aC : Nat → ClassId} {ad : Nat → Nat} {g : dz_G} {x : Nat ⊕ (Nat × Nat)} {a : Nat} (h : dz_okG g) : dz_ws aC (dz_ad1 ad g.1.length a) (dz_new g x) = dz_ws aC ad g ++ [(a, dz_ce aC (dz_ad1 ad g.1.length a) (dz_new g x) g.1.length)] := by
  unfold dz_ws
  rw [dz_new_len, List.range_succ, List.map_append]
  congr 1
  · refine List.map_congr_left fun q hq => ?_
    have hl : q < g.1.length := List.mem_range.mp hq
    rw [dz_ad1_lt hl, dz_ce_ad (n := g.1.length) (fun q h => dz_ad1_lt h) (h.1 q) (by rw [dz_new_get, if_neg (by omega)]) (fun k => ?_) (fun k => ?_)]
    · show (if q = g.1.length then 0 else g.2.1 q k) = _
      rw [if_neg (by omega)]
    · show (if q = g.1.length then 0 else g.2.2 q k) = _
      rw [if_neg (by omega)]
  · show [(dz_ad1 ad g.1.length a g.1.length, _)] = [(a, _)]
    rw [dz_ad1_eq]
section DZN
variable {p : Program} {l : Launch} {e : Env} {R : Room} {s : State} {m : MethodId} {args : Array Value} {below : List Frame} {meth : Method} {cd : Code} {cc : ByteArray} {own : String} {nL : Nat} {D : va_G} {aC : Nat → ClassId} {ob : Nat → Nat} {xo : Nat → List Int} {A : Nat → Prop} {Qm : State → Prop} {n0 : Nat} {ad0 : Nat → Nat}
variable {pc pc1 kc ks : Nat} {L : dz_L} {st st1 : List dz_V} {g : dz_G}
/-- behind a new cell -/
theorem dz_grow {x : Nat ⊕ (Nat × Nat)} {ev : va_E} {ad : Nat → Nat} {a : Nat} {ls : Array Slot} {H H1 : Heap} {locs locs1 : List Loc} (Z : dz_Z s nL D aC ob A L st g ls H locs ad) (hn : n0 ≤ g.1.length) (had : ∀ q, q < n0 → ad q = ad0 q) (hx : dz_okx x) (hst : ∀ v ∈ st1, dz_okV g.1.length v) (hev : dz_ce aC (dz_ad1 ad g.1.length a) (dz_new g x) g.1.length = ev)
    (y5 : va_P D vwCl (dz_ws aC ad g ++ [(a, ev)]) H1) (y6 : va_D A (dz_ws aC ad g ++ [(a, ev)])) (y7 : va_S A s.heap H1 locs1) (h : dz_Wp p l e R s m args below meth cd nL D aC ob A Qm n0 ad0 pc1 L (.inr (.inr (.inl g.1.length)) :: st1) kc ks (dz_new g x)) : W p l e R s m args below meth cd H1 locs1 kc ks Qm (F0 m pc1 ls (.ref a :: st1.map (dz_cv ad ob))) := by
  subst hev
  rw [← dz_ws_new Z.2.2.2.1] at y5 y6
  have hup : ∀ q, q < g.1.length → dz_ad1 ad g.1.length a q = ad q := fun q h => dz_ad1_lt h
  have h2 := h (by rw [dz_new_len]; omega) ls H1 locs1 (dz_ad1 ad g.1.length a) (fun q hq => by rw [hup q (by omega)]; exact had q hq)
    ⟨dz_lr_ad hup Z.2.1 Z.1, fun k v hk => dz_okV_up (by rw [dz_new_len]; omega) (Z.2.1 k v hk), dz_okc (show dz_okV _ (.inr (.inr (.inl g.1.length))) from (by rw [dz_new_len]; exact Nat.lt_succ_self _)) (fun v hv => dz_okV_up (by rw [dz_new_len]; omega) (hst v hv)), dz_okG_new Z.2.2.2.1 hx, y5, y6, y7⟩
  rw [List.map_cons, dz_st_ad hup hst] at h2
  have e1 : dz_cv (dz_ad1 ad g.1.length a) ob (.inr (.inr (.inl g.1.length))) = .ref a := by
    show Value.ref _ = _
    rw [dz_ad1_eq]
  rw [e1] at h2
  exact h2
theorem dz_def {ty : FieldType} {t : Nat} (ad : Nat → Nat) (h : dz_fk ty = t) (ht : t < 4) : defaultValue ty = dz_fv ad t 0 0 := by
  subst h
  cases ty <;> first | rfl | (exact absurd ht (by decide))
theorem dz_ft4 (ci k : Nat) (h : ci < 7) : k < dz_nf ci → dz_ft ci k < 4 := by
  intro hk
  revert k
  exact dz_lt7 (P := fun ci => ∀ k, k < dz_nf ci → dz_ft ci k < 4) (by decide +kernel) (by decide +kernel) (by decide +kernel) (by decide +kernel) (by decide +kernel) (by decide +kernel) (by decide +kernel) h
theorem dzs_new (C : dz_ctx p s m args meth cd cc own nL D aC ob xo A) {idx a b : Nat} (ha : a < 7) (hb : b = dz_nf a) (hcl : (Cond.classLink own idx (dz_cC a)).before args s = true) (hinst : (Cond.instantiable (dz_cC a) (dz_nf a)).before args s = true) (hini : (Cond.initialized (dz_cC a)).before args s = true) (hd : decode cc pc = .ok (.new idx, 3)) (hc : kc + 1 ≤ R.cells) (hs : ks + b ≤ R.slots)
    (h : dz_Wp p l e R s m args below meth cd nL D aC ob A Qm n0 ad0 (pc + 3) L (.inr (.inr (.inl g.1.length)) :: st) (kc + 1) (ks + b) (dz_new g (.inl a))) : dz_Wp p l e R s m args below meth cd nL D aC ob A Qm n0 ad0 pc L st kc ks g := by
  subst hb
  intro hn ls H locs ad had Z
  refine va_new (fs := (List.range (dz_nf a)).map (fun k => dz_fv ad (dz_ft a k) 0 0)) C.1 C.2.1 C.2.2.2.2.1 (dz_c_u ha) (dz_cy a) (dz_c_ty ha) C.2.2.2.1 hcl hinst hini C.2.2.2.2.2.1 Z.2.2.2.2.1 Z.2.2.2.2.2.1 Z.2.2.2.2.2.2 C.2.2.2.2.2.2.1 (dz_c_at ha) (fun j hj => ?_) hc hs hd (fun q H1 y5 y6 y7 => dz_grow Z hn had (x := .inl a) ha Z.2.2.1 ?_ y5 y6 y7 h)
  · unfold vp_V
    rw [List.getD_eq_getElem?_getD, dz_fs_get hj]
    exact dz_def ad (dz_c_fk ha j hj) (dz_ft4 a j ha hj)
  · rw [dz_ce_o (ci := a) (by rw [dz_new_get, if_pos rfl])]
    congr 2
    refine List.map_congr_left fun k _ => ?_
    show dz_fv _ _ (if g.1.length = g.1.length then 0 else g.2.1 _ k) (if g.1.length = g.1.length then 0 else g.2.2 _ k) = _
    rw [if_pos rfl, if_pos rfl]
    exact dz_fv_ad (n := 0) (fun q h => absurd h (by omega)) (Nat.le_refl 0)
theorem dz_aC_of {t : Nat} {cA : ClassId} (hK : va_K D vwCl (dz_tys aC) s) (ht : t < 6) (hK2 : va_K D vwCl (dz_tys aC ++ [(cA, dz_ty t)]) s) : cA = aC t := by
  have h1 := (hK.2 t _ (dz_tys_at ht)).2
  have h2 := (hK2.2 6 (cA, dz_ty t) rfl).2
  match t, ht with
  | 0, _ => exact Option.some.inj (h2.symm.trans h1)
  | 1, _ => exact Option.some.inj (h2.symm.trans h1)
  | 2, _ => exact Option.some.inj (h2.symm.trans h1)
  | 3, _ =>
    obtain ⟨kA, comp, a1, a2, a3, a4⟩ := h1
    obtain ⟨kB, comq, b1, b2, b3, b4⟩ := h2
    exact Option.some.inj (b4.symm.trans a4)
  | 4, _ => exact Option.some.inj (h2.symm.trans h1)
  | 5, _ => exact Option.some.inj (h2.symm.trans h1)
theorem dz_vpc {t n : Nat} (ht : t < 3) (ad : Nat → Nat) (cA : ClassId) : vp_cell cA (dz_av ad t n (fun _ => 0) (fun _ => 0)) = arrV cA n (fun _ => defaultValue (dz_ty t)) := by
  match t, ht with
  | 0, _ => rfl
  | 1, _ => rfl
  | 2, _ => rfl
theorem dz_ce_new {t n a : Nat} {ad ad2 : Nat → Nat} : dz_ce aC (dz_ad1 ad g.1.length a) (dz_new g (.inr (t, n))) g.1.length = .inl (aC t, dz_av ad2 t n (fun _ => 0) (fun _ => 0)) := by
  rw [dz_ce_a (t := t) (n := n) (by rw [dz_new_get, if_pos rfl])]
  have e1 : (dz_new g (.inr (t, n))).2.1 g.1.length = fun _ => 0 := by
    funext k
    show (if g.1.length = g.1.length then 0 else g.2.1 _ k) = 0
    rw [if_pos rfl]
  have e2 : (dz_new g (.inr (t, n))).2.2 g.1.length = fun _ => 0 := by
    funext k
    show (if g.1.length = g.1.length then 0 else g.2.2 _ k) = 0
    rw [if_pos rfl]
  rw [e1, e2]
  rfl
theorem dzs_newarray (C : dz_ctx p s m args meth cd cc own nL D aC ob xo A) {at_ : ArrayType} {n : Int} {st : List dz_V} (hw : (Cond.arrayClass (dz_ty (dz_at at_))).before args s = true) (hd : decode cc pc = .ok (.newarray at_, 2)) (ht : dz_at at_ < 3) (h0 : 0 ≤ n) (h1 : n ≤ 60000) (hc : kc + 1 ≤ R.cells) (hs : ks + n.toNat ≤ R.slots)
    (h : dz_Wp p l e R s m args below meth cd nL D aC ob A Qm n0 ad0 (pc + 2) L (.inr (.inr (.inl g.1.length)) :: st) (kc + 1) (ks + n.toNat) (dz_new g (.inr (dz_at at_, n.toNat)))) : dz_Wp p l e R s m args below meth cd nL D aC ob A Qm n0 ad0 pc L (.inl n :: st) kc ks g := by
  intro hn ls H locs ad had Z
  have hi : dz_in32 n := dz_ok1 Z.2.2.1
  have ety : newarray.typeOf at_ = dz_ty (dz_at at_) := by
    cases at_ <;> first | rfl | exact absurd ht (by decide)
  refine va_newa (a0 := dz_av ad (dz_at at_) n.toNat (fun _ => 0) (fun _ => 0)) C.1 C.2.1 (by rw [ety]; exact hw) ety C.2.2.2.2.2.1 Z.2.2.2.2.1 Z.2.2.2.2.2.1 Z.2.2.2.2.2.2 C.2.2.2.2.2.2.1 (fun cA => dz_vpc ht ad cA) (fun z => by have := (dz_ilt hi dz_in0.1).mp z; omega) (dz_clamp hi) ?_ hc hs hd (fun q cA H1 yK y5 y6 y7 => ?_)
  · generalize dz_at at_ = t at ht
    match t, ht with
    | 0, _ => show n.toNat * 4 ≤ _; omega
    | 1, _ => show n.toNat * 8 ≤ _; omega
    | 2, _ => show n.toNat * 1 ≤ _; omega
  · obtain rfl := dz_aC_of C.2.2.2.2.2.1 (by omega) yK
    exact dz_grow Z hn had (x := .inr (dz_at at_, n.toNat)) ⟨by omega, by omega⟩ (dz_okt Z.2.2.1) dz_ce_new y5 y6 y7 h
theorem dzs_anewarray (C : dz_ctx p s m args meth cd cc own nL D aC ob xo A) {idx : Nat} {n : Int} {st : List dz_V} (hw : (Cond.classLink own idx RX0).before args s = true) (hd : decode cc pc = .ok (.anewarray idx, 3)) (h0 : 0 ≤ n) (h1 : n ≤ 60000) (hc : kc + 1 ≤ R.cells) (hs : ks + n.toNat ≤ R.slots)
    (h : dz_Wp p l e R s m args below meth cd nL D aC ob A Qm n0 ad0 (pc + 3) L (.inr (.inr (.inl g.1.length)) :: st) (kc + 1) (ks + n.toNat) (dz_new g (.inr (3, n.toNat)))) : dz_Wp p l e R s m args below meth cd nL D aC ob A Qm n0 ad0 pc L (.inl n :: st) kc ks g := by
  intro hn ls H locs ad had Z
  have hi : dz_in32 n := dz_ok1 Z.2.2.1
  refine va_newq C.1 C.2.1 C.2.2.2.1 hw C.2.2.2.2.2.2.2.1.2.1 C.2.2.2.2.2.1 Z.2.2.2.2.1 Z.2.2.2.2.2.1 Z.2.2.2.2.2.2 C.2.2.2.2.2.2.1 (fun z => by have := (dz_ilt hi dz_in0.1).mp z; omega) (dz_clamp hi) (by omega) hc hs hd (fun q cA H1 yK y5 y6 y7 => ?_)
  obtain rfl := dz_aC_of (t := 3) C.2.2.2.2.2.1 (by omega) yK
  exact dz_grow Z hn had (x := .inr (3, n.toNat)) ⟨by omega, by omega⟩ (dz_okt Z.2.2.1) (dz_ce_new (ad2 := ad)) y5 y6 y7 h
end DZN
