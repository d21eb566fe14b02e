/-! The end of a method, and calls. -/
def dz_Qc (D : va_G) (aC : Nat → ClassId) (ob ad0 : Nat → Nat) (n0 : Nat) (A : Nat → Prop) (F : dz_Q) : Array Value → State → Outcome → State → Prop := fun _ st oc t =>
  (∃ (r : Option dz_V) (g : dz_G) (ad : Nat → Nat), oc = .returned (r.map (dz_cv ad ob)) ∧ F r g ∧ (∀ v, r = some v → dz_okV g.1.length v) ∧ dz_okG g ∧ n0 ≤ g.1.length ∧ (∀ q, q < n0 → ad q = ad0 q) ∧ va_P D vwCl (dz_ws aC ad g) t.heap ∧ va_D A (dz_ws aC ad g)) ∧ va_F A st t
def dz_Pc (D : va_G) (aC : Nat → ClassId) (ob : Nat → Nat) (xo : Nat → List Int) (ad : Nat → Nat) (sz : Nat) (g : dz_G) (vs : List dz_V) : Array Value → State → Prop := fun v U =>
  v = (vs.map (dz_cv ad ob)).toArray ∧ U.heap.size = sz ∧ dz_okG g ∧ (∀ v ∈ vs, dz_okV g.1.length v) ∧ va_P D vwCl (dz_ws aC ad g) U.heap ∧ va_K D vwCl (dz_tys aC) U ∧ va_D (fun _ => True) (dz_ws aC ad g) ∧ dz_NW U ∧ dz_OL ob xo (va_A (dz_ws aC ad g) sz) U U.heap
/-- what a call of a method promises -/
def dz_Met (l : Launch) (y : MethodName) (cc : ByteArray) (mL : Nat) (ret : Option FieldType) (rm : Room) (mc ms : Nat) (D : va_G) (aC : Nat → ClassId) (ob : Nat → Nat) (xo : Nat → List Int) (vs : List dz_V) (g : dz_G) (F : dz_Q) : Prop :=
  ∀ (ad : Nat → Nat) (sz : Nat), Met l y (.code y cc mL ret :: dz_T) rm (dz_Pc D aC ob xo ad sz g vs) (dz_Qc D aC ob ad g.1.length (va_A (dz_ws aC ad g) sz) F) mc ms (va_A (dz_ws aC ad g) sz)
theorem dz_NW_warm {s U : State} (hW : s.WarmedH U.vm) (h : dz_NW s) : dz_NW U := by
  obtain ⟨h1, h2, h3, h4⟩ := h
  refine ⟨fun w hw hn => ?_, va_AO.moved hW.alike h2, arrayOver_alikeB hW.alike h3, arrayOver_alikeB hW.alike h4⟩
  have hz := h1 w hw hn
  cases w <;> first | exact va_Nw.warmF hW hz | exact va_Nw.warmM hW hz | exact absurd hn (by decide) | exact absurd hn (fun z => by cases z)
theorem dz_NW_same {s U : State} (hv : s.vm = U.vm) (h : dz_NW s) : dz_NW U := by
  obtain ⟨h1, h2, h3, h4⟩ := h
  have ha : s.vm.Alike U.vm := by rw [hv]; exact Vm.Alike.refl _
  refine ⟨fun w hw hn => ?_, va_AO.moved ha h2, arrayOver_alikeB ha h3, arrayOver_alikeB ha h4⟩
  have hz := h1 w hw hn
  cases w <;> first | exact va_Nw.same rfl hv hz | exact absurd hn (by decide) | exact absurd hn (fun z => by cases z)
theorem dz_OL_moved {ob : Nat → Nat} {xo : Nat → List Int} {A : Nat → Prop} {u U : State} {H : Heap} (hv : u.vm.Alike U.vm) (h : dz_OL ob xo A u H) : dz_OL ob xo A U H :=
  ⟨fun o ho => ⟨va_T.moved hv (h.1 o ho).1, (h.1 o ho).2⟩, fun o ho => va_Z.moved hv (h.2 o ho)⟩
theorem dz_blind {D : va_G} {aC : Nat → ClassId} {ob : Nat → Nat} {xo : Nat → List Int} {ad : Nat → Nat} {sz : Nat} {g : dz_G} {vs : List dz_V} : FrameBlind (dz_Pc D aC ob xo ad sz g vs) := by
  intro a U gf mk h
  obtain ⟨h1, h2, h3, h4, h5, h6, h7, h8, h9⟩ := h
  have hv : U.vm.Alike (U.calling gf mk a).vm := Vm.Alike.refl U.vm
  exact ⟨h1, h2, h3, h4, h5, va_K.moved hv h6, h7, dz_NW_same (rfl : U.vm = (U.calling gf mk a).vm) h8, dz_OL_moved hv h9⟩
section DZC
variable {p : Program} {l : Launch} {e : Env} {R : Room} {s : State} {m : MethodId} {args : Array Value} {below : List Frame} {meth : Method} {cd : Code} {cc : ByteArray} {own : String} {nL : Nat} {D : va_G} {aC : Nat → ClassId} {ob : Nat → Nat} {xo : Nat → List Int} {A : Nat → Prop} {Qm : State → Prop} {n0 : Nat} {ad0 : Nat → Nat}
variable {pc pc1 kc ks : Nat} {L : dz_L} {st st1 : List dz_V} {g : dz_G}
theorem dzs_ret (C : dz_ctx p s m args meth cd cc own nL D aC ob xo A) {rt mc ms : Nat} {i : Instr} {F : dz_Q} (hi : i = .ireturn ∨ i = .lreturn ∨ i = .return_) (hir : (rt = 0 → i = .return_) ∧ (rt = 1 → i = .ireturn) ∧ (rt = 2 → i = .ireturn) ∧ (rt = 3 → i = .lreturn)) (hd : decode cc pc = .ok (i, 1)) (hr : meth.sig.returnType = dz_rty rt) (hlocks : meth.locks = false) (hc : kc ≤ mc) (hs : ks ≤ ms)
    (h : dz_ret rt st fun r => F r g) : dz_Wp p l e R s m args below meth cd nL D aC ob A (MQ below (dz_Qc D aC ob ad0 n0 A F) args s mc ms A) n0 ad0 pc L st kc ks g := by
  intro hn ls H locs ad had Z
  refine W.widen hc hs ?_
  obtain ⟨z1, z2, z3, z4, z5, z6, z7⟩ := Z
  have post : ∀ (r : Option dz_V), F r g → (∀ v, r = some v → dz_okV g.1.length v) → ∀ t : State, t.heap = H → s.WarmedH t.vm → dz_Qc D aC ob ad0 n0 A F args s (.returned (r.map (dz_cv ad ob))) t := by
    intro r hF hv t ht _
    exact ⟨⟨r, g, ad, rfl, hF, hv, z4, hn, had, by rw [ht]; exact z5, z6⟩, va_S.F z7 ht⟩
  unfold dz_ret at h
  split at h
  · have e0 := hir.1 rfl
    subst e0
    exact W.vret C.1 C.2.1 hr (fun t ht hw => post none h (fun v hv => by cases hv) t ht hw) z7.2.2 hd hlocks
  · rename_i x
    have e0 := hir.2.1 rfl
    subst e0
    exact W.iret C.1 C.2.1 hr (fun t ht hw => post (some (.inl x)) h (fun v hv => by cases hv; exact dz_ok1 z3) t ht hw) z7.2.2 hd hlocks
  · rename_i x
    have e0 := hir.2.2.1 rfl
    subst e0
    exact W.zret C.1 C.2.1 hr (dz_fits_3 (ty := .boolean) rfl h.1).1 (fun t ht hw => post (some (.inl x)) h.2 (fun v hv => by cases hv; exact dz_ok1 z3) t ht hw) z7.2.2 hd hlocks
  · rename_i x
    have e0 := hir.2.2.2 rfl
    subst e0
    exact W.lret C.1 C.2.1 hr (fun t ht hw => post (some (.inr (.inl x))) h (fun v hv => by cases hv; exact dz_ok1 z3) t ht hw) z7.2.2 hd hlocks
  · exact h.elim
theorem dz_cats_ok (ad ob : Nat → Nat) : ∀ st : List dz_V, ((st.map (dz_cv ad ob)).map fun v => v.category).sum = dz_cats st
  | [] => rfl
  | v :: st => by rw [List.map_cons, List.map_cons, List.sum_cons, dz_cats_ok ad ob st, dz_cat_ok]; rfl
theorem dzs_objInit (C : dz_ctx p s m args meth cd cc own nL D aC ob xo A) {idx q : Nat} {st : List dz_V} (hl : (Cond.methodLink own idx Lib.objectInit).before args s = true) (hin : (Cond.instanceMethod Lib.objectInit).before args s = true) (hcode : (Cond.code Lib.objectInit ⟨#[0xb1]⟩ 1 none).before args s = true) (hR : 1 ≤ R.frames ∧ 64 ≤ R.locals) (hd : decode cc pc = .ok (.invokespecial idx, 3)) (hc : dz_cats st ≤ 8)
    (h : dz_Wp p l e R s m args below meth cd nL D aC ob A Qm n0 ad0 (pc + 3) L st kc ks g) : dz_Wp p l e R s m args below meth cd nL D aC ob A Qm n0 ad0 pc L (.inr (.inr (.inl q)) :: st) kc ks g := by
  refine dz_pure (fun z1 _ _ => dz_okt z1) (fun ls H locs ad Z w => ?_) h
  refine W.objInit C.1 C.2.1 C.2.2.2.1 hl hin hcode rfl (by rw [C.2.2.1]; exact Z.1.2.1) rfl hd hR.1 ?_ w
  show 2 * 0 + ((st.map (dz_cv ad ob)).map fun v => v.category).sum + 12 ≤ _
  rw [dz_cats_ok]
  omega
/-- what a callee is given holds at the call -/
theorem dz_PreS (C : dz_ctx p s m args meth cd cc own nL D aC ob xo A) {ad : Nat → Nat} {ls : Array Slot} {H : Heap} {locs : List Loc} {vs : List dz_V} (Z : dz_Z s nL D aC ob A L st g ls H locs ad) (hvs : ∀ v ∈ vs, dz_okV g.1.length v) : PreS s H (dz_Pc D aC ob xo ad H.size g vs) (vs.map (dz_cv ad ob)) := by
  refine ⟨dz_blind, fun U hU hW => ?_⟩
  obtain ⟨z1, z2, z3, z4, z5, z6, z7⟩ := Z
  have hAB : ∀ q, va_A (dz_ws aC ad g) H.size q → A q := by
    intro q hq
    rcases hq with ⟨k, ev, hk⟩ | hq
    · exact z6.2 k _ hk
    · exact C.2.2.2.2.2.2.1 q (Nat.le_trans z7.1 hq)
  refine ⟨rfl, by rw [hU], z4, hvs, by rw [hU]; exact z5, va_K.moved hW.alike C.2.2.2.2.2.1, z6.weaken (fun _ _ _ _ => trivial), dz_NW_warm hW C.2.2.2.2.2.2.2.1, ?_⟩
  have h0 := C.2.2.2.2.2.2.2.2
  rw [hU]
  refine ⟨fun o ho => ?_, fun o ho => ?_⟩
  · obtain ⟨x1, x4, x5⟩ := h0.1 o ho
    exact ⟨va_T.moved hW.alike (va_T.narrow (va_T.kept x1 (fun a ha hna => z7.2.1 a ha hna)) hAB), x4, x5⟩
  · exact va_Z.moved hW.alike (va_Z.narrow (va_Z.kept (h0.2 o ho) (fun a ha hna => z7.2.1 a ha hna)) hAB)
/-- behind a call -/
theorem dz_callG (C : dz_ctx p s m args meth cd cc own nL D aC ob xo A) {mc ms : Nat} {F : dz_Q} {a : Array Value} {ad : Nat → Nat} {ls : Array Slot} {H : Heap} {locs : List Loc} {st0 : List Value} {st1 : List dz_V} (Z : dz_Z s nL D aC ob A L st g ls H locs ad) (hn : n0 ≤ g.1.length) (had : ∀ q, q < n0 → ad q = ad0 q) (hst : ∀ v ∈ st1, dz_okV g.1.length v)
    (hr : va_Run p l e R s m args below meth cd H locs kc ks mc ms (F0 m pc ls st0) (st1.map (dz_cv ad ob)) (dz_Qc D aC ob ad g.1.length (va_A (dz_ws aC ad g) H.size) F a) (va_A (dz_ws aC ad g) H.size))
    (h : ∀ r g', F r g' → dz_Wp p l e R s m args below meth cd nL D aC ob A Qm n0 ad0 (pc + 3) L (r.toList ++ st1) (kc + mc) (ks + ms) g') : W p l e R s m args below meth cd H locs kc ks Qm (F0 m pc ls st0) := by
  intro T hT X
  obtain ⟨v, st₀, t, T', L', h0, X', hL, e1, e2, hq, gs⟩ := hr T hT X
  obtain ⟨⟨r, g', ad', k1, k2, k3, k4, k5, k6, k7, k8⟩, k9⟩ := hq
  obtain ⟨z1, z2, z3, z4, z5, z6, z7⟩ := Z
  have hv : v = r.map (dz_cv ad' ob) := Outcome.returned.inj k1
  subst hv
  have hAB : ∀ q, va_A (dz_ws aC ad g) H.size q → A q := by
    intro q hq
    rcases hq with ⟨k, ev, hk⟩ | hq
    · exact z6.2 k _ hk
    · exact C.2.2.2.2.2.2.1 q (Nat.le_trans z7.1 hq)
  obtain ⟨f1, f2⟩ := k9
  rw [h0] at f1 f2
  have hS : va_S A s.heap T'.heap (locs ++ L') := by
    refine ⟨Nat.le_trans z7.1 (by rw [e1]; exact f1), fun q h1 h2 => ?_, fun q hq => ?_⟩
    · rw [e1, f2 q (Nat.lt_of_lt_of_le h1 z7.1) (fun z => h2 (hAB q z))]
      exact z7.2.1 q h1 h2
    · rcases List.mem_append.mp hq with h | h
      · exact z7.2.2 q h
      · exact hAB _ (hL q h)
  have hokr : ∀ v ∈ r.toList ++ st1, dz_okV g'.1.length v := by
    intro v hv
    rcases List.mem_append.mp hv with h | h
    · exact k3 v (Option.mem_toList.mp h)
    · exact dz_okV_up k5 (hst v h)
  obtain ⟨t2, a1, b1⟩ := h r g' k2 (by omega) ls T'.heap (locs ++ L') ad' (fun q hq => by rw [k6 q (by omega)]; exact had q hq)
    ⟨dz_lr_ad k6 z2 z1, fun k v hk => dz_okV_up k5 (z2 k v hk), hokr, k4, by rw [e1]; exact k7, k8.weaken (fun _ _ _ z => hAB _ z), hS⟩ T' rfl X'
  refine ⟨t2, gs t2 ?_, b1⟩
  have es : (r.toList ++ st1).map (dz_cv ad' ob) = (r.map (dz_cv ad' ob)).toList ++ st1.map (dz_cv ad ob) := by
    rw [List.map_append, dz_st_ad k6 hst]
    cases r <;> rfl
  rw [es] at a1
  exact a1
end DZC
