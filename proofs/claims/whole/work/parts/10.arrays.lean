/-! Arrays. -/
section DZA
variable {p : Program} {l : Launch} {e : Env} {R : Room} {s : State} {m : MethodId} {args : Array Value} {below : List Frame} {meth : Method} {cd : Code} {cc : ByteArray} {own : String} {nL : Nat} {D : va_G} {aC : Nat → ClassId} {ob : Nat → Nat} {xo : Nat → List Int} {A : Nat → Prop} {Qm : State → Prop} {n0 : Nat} {ad0 : Nat → Nat}
variable {pc pc1 kc ks : Nat} {L : dz_L} {st st1 : List dz_V} {g : dz_G}
/-- behind a write into one cell -/
theorem dz_wr {g' : dz_G} {q : Nat} {ev : va_E} {ad : Nat → Nat} {ls : Array Slot} {H : Heap} {locs : List Loc} (Z : dz_Z s nL D aC ob A L st g ls H locs ad) (hn : n0 ≤ g.1.length) (had : ∀ q, q < n0 → ad q = ad0 q) (hs : g'.1 = g.1) (hq : q < g.1.length) (he : dz_ce aC ad g' q = ev) (ho : ∀ q', q' ≠ q → g'.2.1 q' = g.2.1 q' ∧ g'.2.2 q' = g.2.2 q') (hok : dz_okG g') (hst : ∀ v ∈ st1, dz_okV g.1.length v)
    (h : dz_Wp p l e R s m args below meth cd nL D aC ob A Qm n0 ad0 pc1 L st1 kc ks g') : ∀ (H1 : Heap) (locs1 : List Loc), va_P D vwCl ((dz_ws aC ad g).set q (ad q, ev)) H1 → va_D A ((dz_ws aC ad g).set q (ad q, ev)) → va_S A s.heap H1 locs1 → W p l e R s m args below meth cd H1 locs1 kc ks Qm (F0 m pc1 ls (st1.map (dz_cv ad ob))) := by
  intro H1 locs1 y5 y6 y7
  have hset := dz_ws_set (aC := aC) (ad := ad) hs he (fun q' hne => dz_ce_cong (by rw [hs]) (ho q' hne).1 (ho q' hne).2) hq
  rw [hset] at y5 y6
  exact h (by rw [hs]; exact hn) ls H1 locs1 ad had ⟨Z.1, fun k v hk => by rw [hs]; exact Z.2.1 k v hk, fun v hv => by rw [hs]; exact hst v hv, hok, y5, y6, y7⟩
theorem dzs_ialoadw (C : dz_ctx p s m args meth cd cc own nL D aC ob xo A) {i : Int} {q : Nat} {st : List dz_V} (hd : decode cc pc = .ok (.iaload, 1))
    (h : dz_el g 0 q i fun k => dz_Wp p l e R s m args below meth cd nL D aC ob A Qm n0 ad0 (pc + 1) L (.inl (g.2.2 q k) :: st) kc ks g) : dz_Wp p l e R s m args below meth cd nL D aC ob A Qm n0 ad0 pc L (.inl i :: .inr (.inr (.inl q)) :: st) kc ks g := by
  obtain ⟨n, hq, h0, h1, h⟩ := h
  refine dz_pure (st1 := ((.inl (g.2.2 q i.toNat) : dz_V)) :: st) (fun z1 z2 _ => dz_okc (show dz_okV _ (.inl (g.2.2 q i.toNat)) from (z2.2.2.2.1 q 0 n hq).1 (by decide) _) (dz_okt (dz_okt z1))) (fun ls H locs ad Z w => ?_) h
  have hi : dz_in32 i := dz_ok1 Z.2.2.1
  refine va_iald C.1 C.2.1 C.2.2.2.2.2.1 Z.2.2.2.2.1 q 0 (by rw [dz_ws_get (dz_lt hq), dz_ce_a hq]; rfl) (dz_tys_at (by decide)) (dz_vin hi h0 h1) hd ?_
  rw [dz_clamp hi]
  exact w
theorem dzs_baloadw (C : dz_ctx p s m args meth cd cc own nL D aC ob xo A) {i : Int} {q : Nat} {st : List dz_V} (hd : decode cc pc = .ok (.baload, 1))
    (h : dz_el g 2 q i fun k => dz_Wp p l e R s m args below meth cd nL D aC ob A Qm n0 ad0 (pc + 1) L (.inl (g.2.2 q k) :: st) kc ks g) : dz_Wp p l e R s m args below meth cd nL D aC ob A Qm n0 ad0 pc L (.inl i :: .inr (.inr (.inl q)) :: st) kc ks g := by
  obtain ⟨n, hq, h0, h1, h⟩ := h
  refine dz_pure (st1 := ((.inl (g.2.2 q i.toNat) : dz_V)) :: st) (fun z1 z2 _ => dz_okc (show dz_okV _ (.inl (g.2.2 q i.toNat)) from (z2.2.2.2.1 q 2 n hq).1 (by decide) _) (dz_okt (dz_okt z1))) (fun ls H locs ad Z w => ?_) h
  have hi : dz_in32 i := dz_ok1 Z.2.2.1
  refine va_bald C.1 C.2.1 C.2.2.2.2.2.1 Z.2.2.2.2.1 q 2 (by rw [dz_ws_get (dz_lt hq), dz_ce_a hq]; rfl) (dz_tys_at (by decide)) (dz_vin hi h0 h1) hd ?_
  rw [dz_clamp hi]
  exact w
theorem dzs_laloadw (C : dz_ctx p s m args meth cd cc own nL D aC ob xo A) {i : Int} {q : Nat} {st : List dz_V} (hd : decode cc pc = .ok (.laload, 1))
    (h : dz_el g 1 q i fun k => dz_Wp p l e R s m args below meth cd nL D aC ob A Qm n0 ad0 (pc + 1) L (.inr (.inl (g.2.2 q k)) :: st) kc ks g) : dz_Wp p l e R s m args below meth cd nL D aC ob A Qm n0 ad0 pc L (.inl i :: .inr (.inr (.inl q)) :: st) kc ks g := by
  obtain ⟨n, hq, h0, h1, h⟩ := h
  refine dz_pure (st1 := ((.inr (.inl (g.2.2 q i.toNat)) : dz_V)) :: st) (fun z1 z2 _ => dz_okc (show dz_okV _ (.inr (.inl (g.2.2 q i.toNat))) from z2.2.1 q _) (dz_okt (dz_okt z1))) (fun ls H locs ad Z w => ?_) h
  have hi : dz_in32 i := dz_ok1 Z.2.2.1
  refine va_lald C.1 C.2.1 C.2.2.2.2.2.1 Z.2.2.2.2.1 q 1 (by rw [dz_ws_get (dz_lt hq), dz_ce_a hq]; rfl) (dz_tys_at (by decide)) (dz_vin hi h0 h1) hd ?_
  rw [dz_clamp hi]
  exact w
theorem dzs_ialoado (C : dz_ctx p s m args meth cd cc own nL D aC ob xo A) {i : Int} {o : Nat} {st : List dz_V} (hd : decode cc pc = .ok (.iaload, 1)) (h0 : 0 ≤ i) (h1 : i < (xo o).length)
    (h : dz_Wp p l e R s m args below meth cd nL D aC ob A Qm n0 ad0 (pc + 1) L (.inl ((xo o).getD i.toNat 0) :: st) kc ks g) : dz_Wp p l e R s m args below meth cd nL D aC ob A Qm n0 ad0 pc L (.inl i :: .inr (.inr (.inr o)) :: st) kc ks g := by
  intro hn ls H locs ad had Z
  have hi : dz_in32 i := dz_ok1 Z.2.2.1
  have ho : o < 3 := dz_ok1 (dz_okt Z.2.2.1)
  obtain ⟨x1, x4, x5⟩ := C.2.2.2.2.2.2.2.2.1 o ho
  refine va_ti C.1 C.2.1 x1 Z.2.2.2.2.2.2 (dz_vin hi h0 h1) (v := .int (Int32.ofInt ((xo o).getD i.toNat 0))) (by rw [dz_clamp hi]) hd ?_
  exact h hn ls H locs ad had ⟨Z.1, Z.2.1, dz_okc (show dz_okV _ (.inl _) from x5 _) (dz_okt (dz_okt Z.2.2.1)), Z.2.2.2⟩
theorem dzs_alenw (C : dz_ctx p s m args meth cd cc own nL D aC ob xo A) {q t n : Nat} {st : List dz_V} (hd : decode cc pc = .ok (.arraylength, 1)) (hq : g.1[q]? = some (.inr (t, n)))
    (h : dz_Wp p l e R s m args below meth cd nL D aC ob A Qm n0 ad0 (pc + 1) L (.inl (n : Int) :: st) kc ks g) : dz_Wp p l e R s m args below meth cd nL D aC ob A Qm n0 ad0 pc L (.inr (.inr (.inl q)) :: st) kc ks g := by
  refine dz_pure (fun z1 z2 _ => dz_okc (show dz_okV _ (.inl (n : Int)) from (by have := (z2.2.2.2.1 q t n hq).2.1; show dz_in32 _; unfold dz_in32; omega)) (dz_okt z1)) (fun ls H locs ad Z w => ?_) h
  have ht := (Z.2.2.2.1.2.2.2.1 q t n hq).2.2
  exact va_alen C.1 C.2.1 C.2.2.2.2.2.1 Z.2.2.2.2.1 q t (by rw [dz_ws_get (dz_lt hq), dz_ce_a hq]) (dz_tys_at ht) (v := Int32.ofInt (n : Int)) Int32.ofInt_eq_ofNat.symm hd w
theorem dzs_aleno (C : dz_ctx p s m args meth cd cc own nL D aC ob xo A) {o : Nat} {st : List dz_V} (hd : decode cc pc = .ok (.arraylength, 1))
    (h : dz_Wp p l e R s m args below meth cd nL D aC ob A Qm n0 ad0 (pc + 1) L (.inl ((xo o).length : Int) :: st) kc ks g) : dz_Wp p l e R s m args below meth cd nL D aC ob A Qm n0 ad0 pc L (.inr (.inr (.inr o)) :: st) kc ks g := by
  intro hn ls H locs ad had Z
  have ho : o < 3 := dz_ok1 Z.2.2.1
  obtain ⟨x1, x4, x5⟩ := C.2.2.2.2.2.2.2.2.1 o ho
  refine va_tlen C.1 C.2.1 x1 Z.2.2.2.2.2.2 rfl hd ?_
  have h2 := h hn ls H locs ad had ⟨Z.1, Z.2.1, dz_okc (show dz_okV _ (.inl ((xo o).length : Int)) from (by show dz_in32 _; unfold dz_in32; omega)) (dz_okt Z.2.2.1), Z.2.2.2⟩
  have h3 : W p l e R s m args below meth cd H locs kc ks Qm (F0 m (pc + 1) ls (.int (Int32.ofInt ((xo o).length : Int)) :: st.map (dz_cv ad ob))) := h2
  rw [Int32.ofInt_eq_ofNat] at h3
  exact h3
theorem dzs_aaload (C : dz_ctx p s m args meth cd cc own nL D aC ob xo A) {i : Int} {q t : Nat} {st : List dz_V} (hd : decode cc pc = .ok (.aaload, 1)) (ht : t = 3 ∨ t = 4 ∨ t = 5)
    (h : dz_el g t q i fun k => match g.2.1 q k with
      | 0 => False
      | r + 1 => dz_Wp p l e R s m args below meth cd nL D aC ob A Qm n0 ad0 (pc + 1) L (.inr (.inr (.inl r)) :: st) kc ks g) : dz_Wp p l e R s m args below meth cd nL D aC ob A Qm n0 ad0 pc L (.inl i :: .inr (.inr (.inl q)) :: st) kc ks g := by
  obtain ⟨n, hq, h0, h1, h⟩ := h
  split at h
  · exact h.elim
  · rename_i r hr
    refine dz_pure (fun z1 z2 _ => dz_okc (show dz_okV _ (.inr (.inr (.inl r))) from (by have := z2.1 q i.toNat; rw [hr] at this; exact this)) (dz_okt (dz_okt z1))) (fun ls H locs ad Z w => ?_) h
    have hi : dz_in32 i := dz_ok1 Z.2.2.1
    have hlt : (Int32.ofInt i).toNatClampNeg < n := by rw [dz_clamp hi]; omega
    have hin : vp_in (Int32.ofInt i) n := dz_vin hi h0 h1
    have hP := Z.2.2.2.2.1 q _ (dz_ws_get (dz_lt hq))
    rw [dz_ce_a hq] at hP
    have hcell : H[ad q]? = some (arrV (aC t) n (fun j => va_rf (dz_ro ad (g.2.1 q j)))) := by
      rcases ht with rfl | rfl | rfl <;> exact hP
    have hK := (C.2.2.2.2.2.1.2 t _ (dz_tys_at (aC := aC) (by omega))).1
    refine W.aald (v := .ref (ad r)) (ty := dz_ty t) C.1 C.2.1 hcell (hK n _) (by rcases ht with rfl | rfl | rfl <;> rfl) (fun q => by cases q) (by show ¬ (_ < 0 ∨ (arrV _ _ _).slots.size ≤ _); rw [arrV_size]; exact hin) ?_ rfl rfl hd w
    show (arrV _ _ _).slots[_]? = _
    rw [arrV_read _ _ hlt, dz_clamp hi, hr]
    rfl
theorem dzs_getstatic (C : dz_ctx p s m args meth cd cc own nL D aC ob xo A) {idx o : Nat} (hd : decode cc pc = .ok (.getstatic idx, 3)) (ho : o = 1 ∨ o = 2) (hl : (Cond.fieldLink own idx RX5 (dz_sn o) "[I").before args s = true ∨ ∃ host, (Cond.fieldLinkNest own idx RX5 (dz_sn o) "[I" host).before args s = true)
    (h : dz_Wp p l e R s m args below meth cd nL D aC ob A Qm n0 ad0 (pc + 3) L (.inr (.inr (.inr o)) :: st) kc ks g) : dz_Wp p l e R s m args below meth cd nL D aC ob A Qm n0 ad0 pc L st kc ks g := by
  refine dz_pure (fun z1 z2 _ => dz_okc (show dz_okV _ (.inr (.inr (.inr o))) from (by show o < 3; omega)) z1) (fun ls H locs ad Z w => ?_) h
  have hZ := C.2.2.2.2.2.2.2.2.2 o ho
  rcases hl with hl | ⟨host, hl⟩
  · exact va_gets C.1 C.2.1 hZ Z.2.2.2.2.2.2 C.2.2.2.1 hl (fun _ z => z) hd w
  · exact va_getsN C.1 C.2.1 hZ Z.2.2.2.2.2.2 C.2.2.2.1 hl (fun _ z => z) hd w
theorem dzs_iastore (C : dz_ctx p s m args meth cd cc own nL D aC ob xo A) {x i : Int} {q : Nat} {st : List dz_V} (hd : decode cc pc = .ok (.iastore, 1))
    (h : dz_el g 0 q i fun k => dz_Wp p l e R s m args below meth cd nL D aC ob A Qm n0 ad0 (pc + 1) L st kc ks (g.1, g.2.1, dz_up g.2.2 q k (x))) : dz_Wp p l e R s m args below meth cd nL D aC ob A Qm n0 ad0 pc L (.inl x :: .inl i :: .inr (.inr (.inl q)) :: st) kc ks g := by
  obtain ⟨n, hq, h0, h1, h⟩ := h
  intro hn ls H locs ad had Z
  have hx : dz_in32 x := dz_ok1 Z.2.2.1
  have hi : dz_in32 i := dz_ok1 (dz_okt Z.2.2.1)
  refine va_iast C.1 C.2.1 C.2.2.2.2.2.1 Z.2.2.2.2.1 Z.2.2.2.2.2.1 Z.2.2.2.2.2.2 q 0 (by rw [dz_ws_get (dz_lt hq), dz_ce_a hq]; rfl) (dz_tys_at (by decide)) (dz_vin hi h0 h1) hd
    (dz_wr (g' := (g.1, g.2.1, dz_up g.2.2 q i.toNat x)) Z hn had rfl (dz_lt hq) ?_ (fun q' hne => ⟨rfl, dz_up_ne hne⟩) ?_ (dz_okt (dz_okt (dz_okt Z.2.2.1))) h)
  · rw [dz_ce_a (g := (g.1, g.2.1, dz_up g.2.2 q i.toNat (x))) hq, dz_clamp hi]
    refine congrArg (fun f => (Sum.inl (aC 0, n, Sum.inl f) : va_E)) (funext fun j => ?_)
    show Int32.ofInt (dz_up g.2.2 q i.toNat x q j) = if j = i.toNat then Int32.ofInt x else Int32.ofInt (g.2.2 q j)
    by_cases e : j = i.toNat
    · subst e; rw [dz_up_eq, if_pos rfl]
    · rw [dz_up_k e, if_neg e]
  · exact dz_okG_M Z.2.2.2.1 (dz_in32_64 hx) (fun _ _ _ => hx) (fun _ _ _ _ => hx)
theorem dzs_bastore (C : dz_ctx p s m args meth cd cc own nL D aC ob xo A) {x i : Int} {q : Nat} {st : List dz_V} (hd : decode cc pc = .ok (.bastore, 1))
    (h : dz_el g 2 q i fun k => dz_Wp p l e R s m args below meth cd nL D aC ob A Qm n0 ad0 (pc + 1) L st kc ks (g.1, g.2.1, dz_up g.2.2 q k (dz_b x))) : dz_Wp p l e R s m args below meth cd nL D aC ob A Qm n0 ad0 pc L (.inl x :: .inl i :: .inr (.inr (.inl q)) :: st) kc ks g := by
  obtain ⟨n, hq, h0, h1, h⟩ := h
  intro hn ls H locs ad had Z
  have hx : dz_in32 x := dz_ok1 Z.2.2.1
  have hi : dz_in32 i := dz_ok1 (dz_okt Z.2.2.1)
  refine va_bast C.1 C.2.1 C.2.2.2.2.2.1 Z.2.2.2.2.1 Z.2.2.2.2.2.1 Z.2.2.2.2.2.2 q 2 (by rw [dz_ws_get (dz_lt hq), dz_ce_a hq]; rfl) (dz_tys_at (by decide)) (dz_vin hi h0 h1) hd
    (dz_wr (g' := (g.1, g.2.1, dz_up g.2.2 q i.toNat (dz_b x))) Z hn had rfl (dz_lt hq) ?_ (fun q' hne => ⟨rfl, dz_up_ne hne⟩) ?_ (dz_okt (dz_okt (dz_okt Z.2.2.1))) h)
  · rw [dz_ce_a (g := (g.1, g.2.1, dz_up g.2.2 q i.toNat (dz_b x))) hq, dz_clamp hi]
    refine congrArg (fun f => (Sum.inl (aC 2, n, Sum.inl f) : va_E)) (funext fun j => ?_)
    show Int32.ofInt (dz_up g.2.2 q i.toNat (dz_b x) q j) = if j = i.toNat then vp_nar .byte (Int32.ofInt x) else Int32.ofInt (g.2.2 q j)
    by_cases e : j = i.toNat
    · subst e; rw [dz_up_eq, if_pos rfl, vp_nar_byte, dz_i2b hx]
    · rw [dz_up_k e, if_neg e]
  · exact dz_okG_M Z.2.2.2.1 (dz_in32_64 (dz_b_in x)) (fun _ _ _ => dz_b_in x) (fun _ _ _ _ => dz_b_in x)
theorem dzs_lastore (C : dz_ctx p s m args meth cd cc own nL D aC ob xo A) {x i : Int} {q : Nat} {st : List dz_V} (hd : decode cc pc = .ok (.lastore, 1))
    (h : dz_el g 1 q i fun k => dz_Wp p l e R s m args below meth cd nL D aC ob A Qm n0 ad0 (pc + 1) L st kc ks (g.1, g.2.1, dz_up g.2.2 q k (x))) : dz_Wp p l e R s m args below meth cd nL D aC ob A Qm n0 ad0 pc L (.inr (.inl x) :: .inl i :: .inr (.inr (.inl q)) :: st) kc ks g := by
  obtain ⟨n, hq, h0, h1, h⟩ := h
  intro hn ls H locs ad had Z
  have hx : dz_in64 x := dz_ok1 Z.2.2.1
  have hi : dz_in32 i := dz_ok1 (dz_okt Z.2.2.1)
  refine va_last C.1 C.2.1 C.2.2.2.2.2.1 Z.2.2.2.2.1 Z.2.2.2.2.2.1 Z.2.2.2.2.2.2 q 1 (by rw [dz_ws_get (dz_lt hq), dz_ce_a hq]; rfl) (dz_tys_at (by decide)) (dz_vin hi h0 h1) hd
    (dz_wr (g' := (g.1, g.2.1, dz_up g.2.2 q i.toNat x)) Z hn had rfl (dz_lt hq) ?_ (fun q' hne => ⟨rfl, dz_up_ne hne⟩) ?_ (dz_okt (dz_okt (dz_okt Z.2.2.1))) h)
  · rw [dz_ce_a (g := (g.1, g.2.1, dz_up g.2.2 q i.toNat (x))) hq, dz_clamp hi]
    refine congrArg (fun f => (Sum.inl (aC 1, n, Sum.inr (Sum.inl f)) : va_E)) (funext fun j => ?_)
    show Int64.ofInt (dz_up g.2.2 q i.toNat x q j) = if j = i.toNat then Int64.ofInt x else Int64.ofInt (g.2.2 q j)
    by_cases e : j = i.toNat
    · subst e; rw [dz_up_eq, if_pos rfl]
    · rw [dz_up_k e, if_neg e]
  · exact dz_okG_M Z.2.2.2.1 hx (fun ci z _ => by rw [hq] at z; cases z) (fun t n z ht => by rw [hq] at z; cases z; exact absurd rfl ht)
theorem dzs_aastore (C : dz_ctx p s m args meth cd cc own nL D aC ob xo A) {i : Int} {q r : Nat} {st : List dz_V} (hd : decode cc pc = .ok (.aastore, 1)) (hr : g.1[r]? = some (.inl 0))
    (h : dz_el g 3 q i fun k => dz_Wp p l e R s m args below meth cd nL D aC ob A Qm n0 ad0 (pc + 1) L st kc ks (g.1, dz_up g.2.1 q k (r + 1), g.2.2)) : dz_Wp p l e R s m args below meth cd nL D aC ob A Qm n0 ad0 pc L (.inr (.inr (.inl r)) :: .inl i :: .inr (.inr (.inl q)) :: st) kc ks g := by
  obtain ⟨n, hq, h0, h1, h⟩ := h
  intro hn ls H locs ad had Z
  have hi : dz_in32 i := dz_ok1 (dz_okt Z.2.2.1)
  refine va_astq (r := (RX0, TX0, 6)) C.1 C.2.1 C.2.2.2.2.2.1 Z.2.2.2.2.1 Z.2.2.2.2.2.1 Z.2.2.2.2.2.2 q 3 r 0 (by rw [dz_ws_get (dz_lt hq), dz_ce_a hq]; rfl) (dz_tys_at (by decide)) (by rw [dz_ws_get (dz_lt hr), dz_ce_o hr]) rfl (dz_vin hi h0 h1) hd
    (dz_wr (g' := (g.1, dz_up g.2.1 q i.toNat (r + 1), g.2.2)) Z hn had rfl (dz_lt hq) ?_ (fun q' hne => ⟨dz_up_ne hne, rfl⟩) (dz_okG_r Z.2.2.2.1 (dz_lt hr)) (dz_okt (dz_okt (dz_okt Z.2.2.1))) h)
  rw [dz_ce_a (g := (g.1, dz_up g.2.1 q i.toNat (r + 1), g.2.2)) hq, dz_clamp hi]
  refine congrArg (fun f => (Sum.inl (aC 3, n, Sum.inr (Sum.inr (Sum.inr (Sum.inr f)))) : va_E)) (funext fun j => ?_)
  show dz_ro ad (dz_up g.2.1 q i.toNat (r + 1) q j) = if j = i.toNat then some (ad r) else dz_ro ad (g.2.1 q j)
  by_cases e : j = i.toNat
  · subst e; rw [dz_up_eq, if_pos rfl]; rfl
  · rw [dz_up_k e, if_neg e]
theorem dzs_copy (C : dz_ctx p s m args meth cd cc own nL D aC ob xo A) {idx : Nat} (hl : (Cond.methodLink own idx arraycopyName).before args s = true) (hnat : (Cond.native arraycopyName).before args s = true) (hstat : (Cond.static arraycopyName).before args s = true) (hini : (Cond.initialized "java/lang/System").before args s = true) (hR : 1 ≤ R.frames ∧ 64 ≤ R.locals) (hd : decode cc pc = .ok (.invokestatic idx, 3))
    (h : dz_copy g st fun g st => dz_Wp p l e R s m args below meth cd nL D aC ob A Qm n0 ad0 (pc + 3) L st kc ks g) : dz_Wp p l e R s m args below meth cd nL D aC ob A Qm n0 ad0 pc L st kc ks g := by
  unfold dz_copy at h
  split at h
  · rename_i n dp q1 sp q0 st'
    obtain ⟨m0, m1, hq0, hq1, h1, h2, h3, h4, h5, h6, h⟩ := h
    intro hn ls H locs ad had Z
    have z3 := Z.2.2.1
    have hin : dz_in32 n := dz_ok1 z3
    have hid : dz_in32 dp := dz_ok1 (dz_okt z3)
    have his : dz_in32 sp := dz_ok1 (dz_okt (dz_okt (dz_okt z3)))
    have i0 : dz_in32 0 := by unfold dz_in32; omega
    have hcat : ((st'.map (dz_cv ad ob)).map fun v => v.category).sum = dz_cats st' := by
      clear h6 h Z z3
      induction st' with
      | nil => rfl
      | cons v w ih => rw [List.map_cons, List.map_cons, List.sum_cons, ih, dz_cat_ok]; rfl
    refine va_copyi (ty := .int) C.1 C.2.1 (by rw [C.2.2.1]; exact Z.1.2.1.symm) C.2.2.2.1 hl hnat hstat hini C.2.2.2.2.2.1 Z.2.2.2.2.1 Z.2.2.2.2.2.1 Z.2.2.2.2.2.2 q0 q1 0 0 (by rw [dz_ws_get (dz_lt hq0), dz_ce_a hq0]; rfl) (by rw [dz_ws_get (dz_lt hq1), dz_ce_a hq1]; rfl) (dz_tys_at (by decide)) (dz_tys_at (by decide)) rfl
      (fun z => by have := (dz_ilt his i0).mp z; omega) (fun z => by have := (dz_ilt hid i0).mp z; omega) (fun z => by have := (dz_ilt hin i0).mp z; omega) (by rw [dz_clamp his, dz_clamp hin]; omega) (by rw [dz_clamp hid, dz_clamp hin]; omega) (fun _ _ => rfl) hR.1 ?_ hd
      (dz_wr (g' := (g.1, g.2.1, dz_cpy g.2.2 q0 q1 sp.toNat dp.toNat n.toNat)) Z hn had rfl (dz_lt hq1) ?_ (fun q' hne => ⟨rfl, funext fun k => ?_⟩) ?_ (dz_okt (dz_okt (dz_okt (dz_okt (dz_okt z3))))) h)
    · rw [hcat]
      have : nativeFrameWords "java/lang/System" "arraycopy" 5 ≤ 40 := by decide +kernel
      omega
    · rw [dz_ce_a (g := (g.1, g.2.1, dz_cpy g.2.2 q0 q1 sp.toNat dp.toNat n.toNat)) hq1, dz_clamp his, dz_clamp hid, dz_clamp hin]
      refine congrArg (fun f => (Sum.inl (aC 0, m1, Sum.inl f) : va_E)) (funext fun j => ?_)
      show Int32.ofInt (dz_cpy g.2.2 q0 q1 sp.toNat dp.toNat n.toNat q1 j) = va_cpy _ _ _ _ _ j
      unfold dz_cpy va_cpy
      by_cases c : dp.toNat ≤ j ∧ j < dp.toNat + n.toNat
      · rw [if_pos ⟨rfl, c⟩, if_pos c]
      · rw [if_neg (fun z => c z.2), if_neg c]
    · show dz_cpy g.2.2 q0 q1 sp.toNat dp.toNat n.toNat q' k = g.2.2 q' k
      unfold dz_cpy
      rw [if_neg (fun z => hne z.1)]
    · obtain ⟨a, b, c, d, f⟩ := Z.2.2.2.1
      have hall : ∀ q k, q = q1 → dz_in32 (dz_cpy g.2.2 q0 q1 sp.toNat dp.toNat n.toNat q k) := by
        intro q k hq
        unfold dz_cpy
        split
        · exact (d q0 0 m0 hq0).1 (by decide) _
        · subst hq; exact (d _ 0 m1 hq1).1 (by decide) _
      have hoth : ∀ q k, q ≠ q1 → dz_cpy g.2.2 q0 q1 sp.toNat dp.toNat n.toNat q k = g.2.2 q k := by
        intro q k hq
        unfold dz_cpy
        rw [if_neg (fun z => hq z.1)]
      refine ⟨a, fun q k => ?_, fun q k ci hq ht => ?_, fun q t n hq => ⟨fun ht k => ?_, (d q t n hq).2⟩, f⟩
      · by_cases e : q = q1
        · exact dz_in32_64 (hall q k e)
        · show dz_in64 (dz_cpy _ _ _ _ _ _ q k); rw [hoth q k e]; exact b q k
      · by_cases e : q = q1
        · exact hall q k e
        · show dz_in32 (dz_cpy _ _ _ _ _ _ q k); rw [hoth q k e]; exact c q k ci hq ht
      · by_cases e : q = q1
        · exact hall q k e
        · show dz_in32 (dz_cpy _ _ _ _ _ _ q k); rw [hoth q k e]; exact (d q t n hq).1 ht k
  · exact h.elim
end DZA
