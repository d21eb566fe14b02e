/-! Each row of the small machine holds of the real one. -/
def dz_rm (d j : Nat) : Room := { frames := d, cells := (dz_pp j).2.2.1, slots := (dz_pp j).2.2.2.1, locals := 64 * d }
/-- what the callees promise, d calls deep -/
def dz_calls (l : Launch) (D : va_G) (aC : Nat → ClassId) (ob : Nat → Nat) (xo : Nat → List Int) (d : Nat) (cal : dz_C) : Prop :=
  ∀ (j : Nat) (vs : List dz_V) (g : dz_G) (F : dz_Q), cal j vs g F → dz_Met l (dz_yy j).1 (dz_yy j).2.1 (dz_pp j).2.1 (dz_yy j).2.2 (dz_rm d j) (dz_pp j).2.2.1 (dz_pp j).2.2.2.1 D aC ob xo vs g F
theorem dz_gw_ok {w : Nat} {c : Cond} (h : dz_gw w c = true) : c ∈ dz_T := by
  unfold dz_gw at h
  simp only [Bool.and_eq_true, decide_eq_true_eq] at h
  exact dz_T_in (List.mem_of_getElem? h.1) h.2
theorem dz_wd_ok {w : Nat} {c : Cond} (h : dz_wd w c = true) : c ∈ lw_tbl := by
  unfold dz_wd at h
  exact List.mem_of_getElem? (of_decide_eq_true h)
theorem dz_good {c : Cond} (h : c ∈ dz_T) : (c.onTables && c.keeps) = true ∨ ∃ ty, c = .arrayClass ty := good_of_word (List.mem_filter.mp h).2
theorem dz_gi {c : Cond} (h : c ∈ dz_T) : GoodIn dz_T (c :: dz_T) := by
  intro w hw
  rcases List.mem_cons.mp hw with rfl | hw
  · exact ⟨h, dz_good h⟩
  · exact ⟨hw, dz_good hw⟩
theorem dz_my_ok {j : Nat} (h : dz_mk j = true) : (∀ w ∈ dz_my j, w ∈ dz_T) ∧ plainFor (dz_yy j).1 = true ∧ ((dz_yy j).1.cls ≠ "java/lang/invoke/MethodHandle" ∧ (dz_yy j).1.cls ≠ "java/lang/invoke/VarHandle" ∧ (parseMethodDescriptor (dz_yy j).1.desc).map (fun d => d.parameters.length) = some (dz_nk j).2) ∧ (dz_yy j).2.2 = dz_rty (dz_pp j).2.2.2.2 ∧ (dz_pp j).2.1 ≤ 40 ∧ ((dz_nk j).1 = 2 → (dz_yy j).1.name = "<init>" ∧ (dz_yy j).2.2 = none) := by
  unfold dz_mk at h
  simp only [Bool.and_eq_true, decide_eq_true_eq] at h
  obtain ⟨⟨⟨⟨⟨⟨⟨⟨h0, h1⟩, h2⟩, h3⟩, h4⟩, h5⟩, h6⟩, h7⟩, h8⟩ := h
  have h9 : ∀ w ∈ dz_my j, w ∈ dz_T := by
    intro w hw
    have e1 : some w ∈ (dz_mi j).map (fun k => lw_tbl[k]?) := by rw [← h0]; exact List.mem_map.mpr ⟨w, hw, rfl⟩
    obtain ⟨k, -, e2⟩ := List.mem_map.mp e1
    exact dz_T_in (List.mem_of_getElem? e2) (List.all_eq_true.mp h1 w hw)
  have h10 : plainFor (dz_yy j).1 = true := by
    simp only [Bool.or_eq_true, Bool.and_eq_true, decide_eq_true_eq] at h2
    rcases h2 with h2 | ⟨h2, h2d⟩
    · exact plainFor_of_name h2
    · exact JP.mathPlain h2 (by rw [h2d]; decide +kernel)
  refine ⟨h9, h10, ⟨h3, h4, h5⟩, h6, h7, fun e => ?_⟩
  rw [if_pos e] at h8
  simp only [Bool.and_eq_true, decide_eq_true_eq] at h8
  exact h8
theorem dz_my_code (j : Nat) : Cond.code (dz_yy j).1 (dz_yy j).2.1 (dz_pp j).2.1 (dz_yy j).2.2 ∈ dz_my j := List.mem_append_left _ List.mem_cons_self
theorem dz_my_init (j : Nat) : Cond.initialized (dz_yy j).1.cls ∈ dz_my j := List.mem_append_left _ (List.mem_cons_of_mem _ List.mem_cons_self)
theorem dz_my_static {j : Nat} (h : (dz_nk j).1 = 0) : Cond.static (dz_yy j).1 ∈ dz_my j := by
  unfold dz_my
  rw [h]
  exact List.mem_append_right _ List.mem_cons_self
theorem dz_my_inst {j : Nat} (h : (dz_nk j).1 = 1) : Cond.instanceMethod (dz_yy j).1 ∈ dz_my j ∧ Cond.selects (dz_yy j).1.cls (dz_yy j).1 (dz_yy j).1 ∈ dz_my j := by
  unfold dz_my
  rw [h]
  exact ⟨List.mem_append_right _ List.mem_cons_self, List.mem_append_right _ (List.mem_cons_of_mem _ List.mem_cons_self)⟩
theorem dz_my_ctor {j : Nat} (h : (dz_nk j).1 = 2) : Cond.instanceMethod (dz_yy j).1 ∈ dz_my j := by
  unfold dz_my
  rw [h]
  exact List.mem_append_right _ List.mem_cons_self
section DZD
variable {p : Program} {l : Launch} {e : Env} {R : Room} {s : State} {m : MethodId} {args : Array Value} {below : List Frame} {meth : Method} {cd : Code} {cc : ByteArray} {own : String} {nL : Nat} {D : va_G} {aC : Nat → ClassId} {ob : Nat → Nat} {xo : Nat → List Int} {A : Nat → Prop} {Qm : State → Prop} {n0 : Nat} {ad0 : Nat → Nat}
variable {pc pc1 kc ks : Nat} {L : dz_L} {st st1 : List dz_V} {g : dz_G}
theorem dz_fl_ok (C : dz_ctx p s m args meth cd cc own nL D aC ob xo A) {idx a b w : Nat} {v : Int} (h : dz_flk own idx a b w v = true) : dz_fl own idx a b args s := by
  unfold dz_flk at h
  split at h
  · have hw := dz_wd_ok h
    exact Or.inr ⟨RX5, va_Nw.use rfl (C.2.2.2.2.2.2.2.1.1 _ hw rfl)⟩
  · exact Or.inl (C.2.2.2.2.1 _ (dz_gw_ok h))
theorem dzs_callS (C : dz_ctx p s m args meth cd cc own nL D aC ob xo A) {j d idx b w : Nat} {v : Int} {F : dz_Q} (hj : dz_mk j = true) (hM : dz_Met l (dz_yy j).1 (dz_yy j).2.1 (dz_pp j).2.1 (dz_yy j).2.2 (dz_rm d j) (dz_pp j).2.2.1 (dz_pp j).2.2.2.1 D aC ob xo (st.take b).reverse g F) (hk : dz_nk j = (0, b)) (hl : dz_mlk own idx j w v = true) (hR : d + 1 ≤ R.frames ∧ 64 * (d + 1) ≤ R.locals) (hd : decode cc pc = .ok (.invokestatic idx, 3))
    (hb : b ≤ st.length) (hcat : dz_cats (st.drop b) ≤ 8) (hc : kc + (dz_pp j).2.2.1 ≤ R.cells) (hs : ks + (dz_pp j).2.2.2.1 ≤ R.slots)
    (h : ∀ r g', F r g' → dz_Wp p l e R s m args below meth cd nL D aC ob A Qm n0 ad0 (pc + 3) L (r.toList ++ st.drop b) (kc + (dz_pp j).2.2.1) (ks + (dz_pp j).2.2.2.1) g') : dz_Wp p l e R s m args below meth cd nL D aC ob A Qm n0 ad0 pc L st kc ks g := by
  intro hn ls H locs ad had Z
  obtain ⟨m1, m2, m3, m4, m5, m6⟩ := dz_my_ok hj
  have hvs : ∀ v ∈ (st.take b).reverse, dz_okV g.1.length v := fun v hv => Z.2.2.1 v (List.mem_of_mem_take (List.mem_reverse.mp hv))
  have hrest : ∀ v ∈ st.drop b, dz_okV g.1.length v := fun v hv => Z.2.2.1 v (List.mem_of_mem_drop hv)
  have hstack : st.map (dz_cv ad ob) = ((st.take b).reverse.map (dz_cv ad ob)).reverse ++ (st.drop b).map (dz_cv ad ob) := by
    rw [← List.map_reverse, List.reverse_reverse, ← List.map_append, List.take_append_drop]
  have hnlen : ((st.take b).reverse.map (dz_cv ad ob)).length = b := by
    rw [List.length_map, List.length_reverse, List.length_take]
    omega
  have hfix : CallFix p m cd cc nL s args dz_T own := ⟨C.1, C.2.1, C.2.2.1, C.2.2.2.1, C.2.2.2.2.1⟩
  have hcode := m1 _ (dz_my_code j)
  have hini := C.2.2.2.2.1 _ (m1 _ (dz_my_init j))
  have hst := C.2.2.2.2.1 _ (m1 _ (dz_my_static (by rw [hk])))
  have hn2 : (dz_nk j).2 = b := by rw [hk]
  rw [hn2] at m3
  have hroom : (dz_rm d j).frames + 1 ≤ R.frames ∧ 8 + ((dz_pp j).2.1 + 11) + (dz_rm d j).locals ≤ R.locals := ⟨hR.1, by show 8 + ((dz_pp j).2.1 + 11) + 64 * d ≤ R.locals; omega⟩
  refine dz_callG (a := ((st.take b).reverse.map (dz_cv ad ob)).toArray) C Z hn had hrest (F := F) ?_ h
  have hW : 2 * (F0 m pc ls (st.map (dz_cv ad ob))).monitorRoom + (((st.drop b).map (dz_cv ad ob)).map fun v => v.category).sum ≤ 8 := lv_room (by rw [dz_cats_ok]; exact hcat)
  unfold dz_mlk at hl
  split at hl
  · have hlw : va_Nw (.methodLinkNest own idx (dz_yy j).1 RX5) s := C.2.2.2.2.2.2.2.1.1 _ (dz_wd_ok hl) rfl
    exact va_runSN hfix (hM ad H.size) ⟨va_cnB b C.2.2.2.2.1 (dz_gi hcode) rfl rfl rfl hlw hini m3 hroom, hst, trivial⟩ (dz_PreS C Z hvs) rfl hnlen Z.1.2.1 hstack hW hd ⟨hc, hs⟩
  · exact va_runS hfix (hM ad H.size) ⟨callB_of b C.2.2.2.2.1 (dz_gi hcode) rfl rfl rfl hini (C.2.2.2.2.1 _ (dz_gw_ok hl)) m3 hroom, hst⟩ (dz_PreS C Z hvs) rfl hnlen Z.1.2.1 hstack hW hd ⟨hc, hs⟩
theorem dz_split {b q : Nat} {ad : Nat → Nat} (hq : st[b]? = some (.inr (.inr (.inl q)))) : (st.take (b + 1)).reverse = .inr (.inr (.inl q)) :: (st.take b).reverse ∧ st.map (dz_cv ad ob) = ((st.take b).reverse.map (dz_cv ad ob)).reverse ++ .ref (ad q) :: (st.drop (b + 1)).map (dz_cv ad ob) := by
  obtain ⟨hl, he⟩ := List.getElem?_eq_some_iff.mp hq
  constructor
  · rw [List.take_succ, hq]
    simp
  · rw [← List.map_reverse, List.reverse_reverse]
    have e1 : st = st.take b ++ .inr (.inr (.inl q)) :: st.drop (b + 1) := by
      rw [← he, ← List.drop_eq_getElem_cons hl, List.take_append_drop]
    have e2 : st.map (dz_cv ad ob) = (st.take b ++ .inr (.inr (.inl q)) :: st.drop (b + 1)).map (dz_cv ad ob) := by rw [← e1]
    rw [e2, List.map_append, List.map_cons]
    rfl
theorem dzs_callV (C : dz_ctx p s m args meth cd cc own nL D aC ob xo A) {j d idx b w q ci : Nat} {v : Int} {F : dz_Q} (hj : dz_mk j = true) (hM : dz_Met l (dz_yy j).1 (dz_yy j).2.1 (dz_pp j).2.1 (dz_yy j).2.2 (dz_rm d j) (dz_pp j).2.2.1 (dz_pp j).2.2.2.1 D aC ob xo (st.take (b + 1)).reverse g F) (hk : dz_nk j = (1, b)) (hci : ci < 7) (hcc : dz_cC ci = (dz_yy j).1.cls) (hl : dz_mlk own idx j w v = true) (hR : d + 1 ≤ R.frames ∧ 64 * (d + 1) ≤ R.locals) (hd : decode cc pc = .ok (.invokevirtual idx, 3))
    (hq : st[b]? = some (.inr (.inr (.inl q)))) (hg : g.1[q]? = some (.inl ci)) (hcat : dz_cats (st.drop (b + 1)) ≤ 8) (hc : kc + (dz_pp j).2.2.1 ≤ R.cells) (hs : ks + (dz_pp j).2.2.2.1 ≤ R.slots)
    (h : ∀ r g', F r g' → dz_Wp p l e R s m args below meth cd nL D aC ob A Qm n0 ad0 (pc + 3) L (r.toList ++ st.drop (b + 1)) (kc + (dz_pp j).2.2.1) (ks + (dz_pp j).2.2.2.1) g') : dz_Wp p l e R s m args below meth cd nL D aC ob A Qm n0 ad0 pc L st kc ks g := by
  intro hn ls H locs ad had Z
  obtain ⟨m1, m2, m3, m4, m5, m6⟩ := dz_my_ok hj
  obtain ⟨e1, e2⟩ := dz_split (ob := ob) (ad := ad) hq
  have hvs : ∀ v ∈ (st.take (b + 1)).reverse, dz_okV g.1.length v := fun v hv => Z.2.2.1 v (List.mem_of_mem_take (List.mem_reverse.mp hv))
  have hrest : ∀ v ∈ st.drop (b + 1), dz_okV g.1.length v := fun v hv => Z.2.2.1 v (List.mem_of_mem_drop hv)
  have hb : b < st.length := (List.getElem?_eq_some_iff.mp hq).1
  have hnlen : ((st.take b).reverse.map (dz_cv ad ob)).length = b := by
    rw [List.length_map, List.length_reverse, List.length_take]
    omega
  have hfix : CallFix p m cd cc nL s args dz_T own := ⟨C.1, C.2.1, C.2.2.1, C.2.2.2.1, C.2.2.2.2.1⟩
  have hcode := m1 _ (dz_my_code j)
  have hini := C.2.2.2.2.1 _ (m1 _ (dz_my_init j))
  have hin := C.2.2.2.2.1 _ (m1 _ (dz_my_inst (by rw [hk])).1)
  have hse := C.2.2.2.2.1 _ (m1 _ (dz_my_inst (by rw [hk])).2)
  have hn2 : (dz_nk j).2 = b := by rw [hk]
  rw [hn2] at m3
  have hroom : (dz_rm d j).frames + 1 ≤ R.frames ∧ 8 + ((dz_pp j).2.1 + 11) + (dz_rm d j).locals ≤ R.locals := ⟨hR.1, by show 8 + ((dz_pp j).2.1 + 11) + 64 * d ≤ R.locals; omega⟩
  refine dz_callG (a := (Value.ref (ad q) :: (st.take b).reverse.map (dz_cv ad ob)).toArray) C Z hn had hrest (F := F) ?_ h
  have hW : 2 * (F0 m pc ls (st.map (dz_cv ad ob))).monitorRoom + (((st.drop (b + 1)).map (dz_cv ad ob)).map fun v => v.category).sum ≤ 8 := lv_room (by rw [dz_cats_ok]; exact hcat)
  have hpre := dz_PreS C Z hvs
  rw [e1] at hM hpre
  have hPV : PreV s H (dz_yy j).1.cls (ad q) (dz_Pc D aC ob xo ad H.size g (.inr (.inr (.inl q)) :: (st.take b).reverse)) ((st.take b).reverse.map (dz_cv ad ob)) := by
    refine ⟨hpre.1, ?_, hpre.2⟩
    rw [← hcc]
    exact va_recv C.2.2.2.2.2.1 Z.2.2.2.2.1 (dz_c_at hci) (q0 := q) (by rw [dz_ws_get (dz_lt hg), dz_ce_o hg])
  unfold dz_mlk at hl
  split at hl
  · have hlw : va_Nw (.methodLinkNest own idx (dz_yy j).1 RX5) s := C.2.2.2.2.2.2.2.1.1 _ (dz_wd_ok hl) rfl
    exact va_runVN hfix (hM ad H.size) ⟨va_cnB b C.2.2.2.2.1 (dz_gi hcode) rfl rfl rfl hlw hini m3 hroom, hin, hse⟩ hPV rfl hnlen Z.1.2.1 e2 hW hd ⟨hc, hs⟩
  · exact va_runV hfix (hM ad H.size) ⟨callB_of b C.2.2.2.2.1 (dz_gi hcode) rfl rfl rfl hini (C.2.2.2.2.1 _ (dz_gw_ok hl)) m3 hroom, hin, hse⟩ hPV rfl hnlen Z.1.2.1 e2 hW hd ⟨hc, hs⟩
theorem dzs_callI (C : dz_ctx p s m args meth cd cc own nL D aC ob xo A) {j d idx b w q : Nat} {v : Int} {F : dz_Q} (hj : dz_mk j = true) (hM : dz_Met l (dz_yy j).1 (dz_yy j).2.1 (dz_pp j).2.1 (dz_yy j).2.2 (dz_rm d j) (dz_pp j).2.2.1 (dz_pp j).2.2.2.1 D aC ob xo (st.take (b + 1)).reverse g F) (hk : dz_nk j = (2, b)) (hl : dz_mlk own idx j w v = true) (hR : d + 1 ≤ R.frames ∧ 64 * (d + 1) ≤ R.locals) (hd : decode cc pc = .ok (.invokespecial idx, 3))
    (hq : st[b]? = some (.inr (.inr (.inl q)))) (hcat : dz_cats (st.drop (b + 1)) ≤ 8) (hc : kc + (dz_pp j).2.2.1 ≤ R.cells) (hs : ks + (dz_pp j).2.2.2.1 ≤ R.slots)
    (h : ∀ r g', F r g' → dz_Wp p l e R s m args below meth cd nL D aC ob A Qm n0 ad0 (pc + 3) L (r.toList ++ st.drop (b + 1)) (kc + (dz_pp j).2.2.1) (ks + (dz_pp j).2.2.2.1) g') : dz_Wp p l e R s m args below meth cd nL D aC ob A Qm n0 ad0 pc L st kc ks g := by
  intro hn ls H locs ad had Z
  obtain ⟨m1, m2, m3, m4, m5, m6⟩ := dz_my_ok hj
  obtain ⟨e1, e2⟩ := dz_split (ob := ob) (ad := ad) hq
  have hvs : ∀ v ∈ (st.take (b + 1)).reverse, dz_okV g.1.length v := fun v hv => Z.2.2.1 v (List.mem_of_mem_take (List.mem_reverse.mp hv))
  have hrest : ∀ v ∈ st.drop (b + 1), dz_okV g.1.length v := fun v hv => Z.2.2.1 v (List.mem_of_mem_drop hv)
  have hb : b < st.length := (List.getElem?_eq_some_iff.mp hq).1
  have hnlen : ((st.take b).reverse.map (dz_cv ad ob)).length = b := by
    rw [List.length_map, List.length_reverse, List.length_take]
    omega
  have hfix : CallFix p m cd cc nL s args dz_T own := ⟨C.1, C.2.1, C.2.2.1, C.2.2.2.1, C.2.2.2.2.1⟩
  have hcode := m1 _ (dz_my_code j)
  have hini := C.2.2.2.2.1 _ (m1 _ (dz_my_init j))
  have hin := C.2.2.2.2.1 _ (m1 _ (dz_my_ctor (by rw [hk])))
  obtain ⟨hnm, hnone⟩ := m6 (by rw [hk])
  rw [hnone] at hM hcode
  have hn2 : (dz_nk j).2 = b := by rw [hk]
  rw [hn2] at m3
  have hroom : (dz_rm d j).frames + 1 ≤ R.frames ∧ 8 + ((dz_pp j).2.1 + 11) + (dz_rm d j).locals ≤ R.locals := ⟨hR.1, by show 8 + ((dz_pp j).2.1 + 11) + 64 * d ≤ R.locals; omega⟩
  refine dz_callG (a := (Value.ref (ad q) :: (st.take b).reverse.map (dz_cv ad ob)).toArray) C Z hn had hrest (F := F) ?_ h
  have hW : 2 * (F0 m pc ls (st.map (dz_cv ad ob))).monitorRoom + (((st.drop (b + 1)).map (dz_cv ad ob)).map fun v => v.category).sum ≤ 8 := lv_room (by rw [dz_cats_ok]; exact hcat)
  have hpre := dz_PreS C Z hvs
  rw [e1] at hM hpre
  unfold dz_mlk at hl
  split at hl
  · have hlw : va_Nw (.methodLinkNest own idx (dz_yy j).1 RX5) s := C.2.2.2.2.2.2.2.1.1 _ (dz_wd_ok hl) rfl
    exact va_runIN hfix (hM ad H.size) ⟨va_cnB b C.2.2.2.2.1 (dz_gi hcode) rfl rfl rfl hlw hini m3 hroom, hnm, hin⟩ hpre rfl hnlen Z.1.2.1 e2 hW hd ⟨hc, hs⟩
  · exact va_runI hfix (hM ad H.size) ⟨callB_of b C.2.2.2.2.1 (dz_gi hcode) rfl rfl rfl hini (C.2.2.2.2.1 _ (dz_gw_ok hl)) m3 hroom, hnm, hin⟩ hpre rfl hnlen Z.1.2.1 e2 hW hd ⟨hc, hs⟩
end DZD
