/-! The law: its start, out of a run of the small machine. (The rows down to lw_At are the skeleton's.) -/
def R_law : String := "DrumWordsLaw"
def lw_P (b : Addr) (xs : List Int32) (args : Array Value) (s : State) : Prop := args = #[.ref b] ∧ s.IntsAt b xs ∧ xs.length ≤ 384 ∧ (Jvm.Cond.and given_1 narrow_1).before args s = true
def lw_Q (_ : Array Value) (s : State) (o : Outcome) (t : State) : Prop := o = .returned (some (.int 1)) ∧ Framed s o t [] 600000 7302250
def lw_Z (below : List Frame) (a : Array Value) (s : State) : State → Prop := fun t => ∃ o, t.status = .running ∧ Ended t below o ∧ lw_Q a s o t
/-- the law's own end, with 1 on the stack, nothing written that was there before, its room as the claim has it -/
theorem lw_ret {p : Program} {l : Launch} {e : Env} {s : State} {m : MethodId} {below : List Frame} {meth : Method} {c : Code} {b : Nat} (hx : p.tables.exec = Jvm.exec) (hb : c.code = code) (hr : meth.sig.returnType = ret) (hlocks : meth.locks = false) {pc : Nat} {H : Heap} {ls : Array Slot} (hdg : decode code pc = .ok (.ireturn, 1)) : W p l e room_1 s m #[Value.ref b] below meth c H [] 600000 7302250 (lw_Z below #[Value.ref b] s) (F0 m pc ls [.int 1]) := by
  intro T hT X
  obtain ⟨fs, hret, hrun, hended, hW, hframe⟩ := X.leave (v := some (.int 1)) (hlocks := hlocks) (fun h => by rw [hr] at h; cases h)
  have hmeth' : T.vm.method? m = some meth := X.method'
  refine ⟨T.setFrames fs, ?_, .returned (some (.int 1)), hrun, hended, rfl, ⟨_, rfl⟩, hW, hframe⟩
  jvm_step X.here [X.here.top, hx, hb, hdg, hmeth', hr, ret, narrow_b1]
  (try refine ⟨rfl, ?_⟩); (try refine ⟨rfl, ?_⟩)
  first | (intro acts; rw [hret _ acts rfl rfl rfl]) | rw [hret _ _ rfl rfl rfl]
  exact Steps.refl _
/-- what holds at the law's entry: the machine, the code, the tables' words (any of lw_tbl by 'hts w (by decide +kernel)'), the script of L ints xs at the cell b, what the Statement gives of the start (any of its parts by flat_of_before) -/
def lw_At (p : Program) (s : State) (m : MethodId) (meth : Method) (c : Code) (b L : Nat) (xs : Nat → Int32) : Prop :=
  p.tables.exec = Jvm.exec ∧ c.code = code ∧ meth.sig.returnType = ret ∧ c.maxLocals = 4 ∧ s.vm.findClass R_law = some m.cls ∧ (∀ w ∈ lw_tbl, w.before #[Value.ref b] s = true) ∧ va_X b L xs s s.heap ∧ b < s.heap.size ∧ meth.locks = false ∧ (Jvm.Cond.and given_1 narrow_1).before #[Value.ref b] s = true
theorem dz_ck_mn {own mn mn' : String} {cc : ByteArray} {rt : Nat} {x : Nat × dz_I} (h : (match x.2.1 with
    | .putfield _ => false
    | _ => true) = true) : dz_ck own mn cc rt x = dz_ck own mn' cc rt x := by
  obtain ⟨pc, i, v, a, b, w⟩ := x
  cases i <;> first | rfl | exact absurd h (by decide) | exact absurd h (fun z => by cases z)
set_option maxRecDepth 1000000 in
theorem dz_law_np : (dz_pp 220).1.all (fun x => match x.2.1 with
    | .putfield _ => false
    | _ => true) = true := by decide +kernel
theorem dz_law_ck (mn : String) : (dz_pp 220).1.all (dz_ck R_law mn code (dz_pp 220).2.2.2.2) = true := by
  refine List.all_eq_true.mpr fun x hx => ?_
  rw [dz_ck_mn (mn' := (dz_yy 220).1.name) (List.all_eq_true.mp dz_law_np x hx)]
  exact List.all_eq_true.mp dz_mc_law x hx
def dz_A1 : List Cond := [.arrayOver (.object RX0), .arrayOver (.array .int), .arrayOver (.array .byte), .laysStatic RX5 "LETTERS" "[I", .laysStatic RX5 "KIND_ABOVE" "[I", .initialized RX5]
set_option maxRecDepth 100000 in
theorem dz_A1_in : ∀ w ∈ dz_A1, w ∈ lw_tbl := by decide +kernel
def dz_xs1 : List Int := [110, 97, 106, 115, 116, 101]
def dz_xs2 : List Int := [-9, 0, 0, 1, 1, 2]
theorem dz_lt6 {P : Nat → Prop} (h0 : P 0) (h1 : P 1) (h2 : P 2) (h3 : P 3) (h4 : P 4) (h5 : P 5) : ∀ {k : Nat}, k < 6 → P k
  | 0, _ => h0
  | 1, _ => h1
  | 2, _ => h2
  | 3, _ => h3
  | 4, _ => h4
  | 5, _ => h5
set_option maxHeartbeats 4000000 in
set_option maxRecDepth 100000 in
/-- the law's walk, out of the small machine's -/
theorem dz_start {p : Program} {e : Env} {s : State} {m : MethodId} {below : List Frame} {meth : Method} {c : Code} (l : Launch) {b L : Nat} {xs : Nat → Int32} (hL : L ≤ 384) (C0 : lw_At p s m meth c b L xs)
    (hX : ∀ xo : Nat → List Int, xo 0 = (List.range L).map (fun j => (xs j).toInt) → xo 1 = dz_xs1 → xo 2 = dz_xs2 → dz_X (dz_E dz_pp xo 60) dz_pp xo (dz_pp 220) (fun r _ => r = some (dz_i 1)) 0 (dz_ent 4 [dz_o 0]) [] 0 0 ([], (fun _ _ => 0), fun _ _ => 0)) :
    W p l e room_1 s m #[Value.ref b] below meth c s.heap [] 0 0 (lw_Z below #[Value.ref b] s) (entryFrame m ([Value.ref b] : List Value).toArray 4) := by
  obtain ⟨hx, hb, hr, hml, hown, hts, hXs, hbl, hlocks, hgv⟩ := id C0
  have hT : ∀ w ∈ dz_T, w.before #[Value.ref b] s = true := fun w hw => hts w (List.mem_filter.mp hw).1
  have hfl := flat_of_before _ hgv
  have hA : ∀ a : Nat, a < s.heap.size → ¬ (fun q : Nat => s.heap.size ≤ q) a := fun a h => Nat.not_le.mpr h
  have hc : ∀ ci : Nat, ∃ q : ClassId × (Nat → Nat), ci < 7 → u_Kn s (dz_cC ci) (dz_cT ci) (dz_nf ci) q.1 q.2 := by
    intro ci
    by_cases h : ci < 7
    · obtain ⟨cC, iS, hK⟩ := u_known (ws := dz_T) hT (dz_c_u h) (hT _ (dz_wc_in h _ List.mem_cons_self))
      exact ⟨(cC, iS), fun _ => hK⟩
    · exact ⟨(m.cls, fun _ => 0), fun z => absurd z h⟩
  obtain ⟨f, hf⟩ := Classical.axiomOfChoice hc
  have arr : ∀ {ty : FieldType}, Cond.arrayClass ty ∈ dz_w0 → (∀ cA : ClassId, s.vm.findClass ("[" ++ ty.toString) = some cA → va_RA s cA ty) → ∃ cA : ClassId, ArrOfT s cA ty ∧ va_RA s cA ty := by
    intro ty hw hra
    obtain ⟨cA, k, comp, h1, h2, h3⟩ := Cond.arrayClass_spec (hT _ (dz_w0_in _ hw))
    exact ⟨cA, fun n z => ⟨(fun k h => by cases h), k, h2, comp, h3⟩, hra cA h1⟩
  have hO0 : (Cond.arrayOver (.object RX0)).before #[Value.ref b] s = true := hts _ (dz_A1_in _ (by unfold dz_A1; simp))
  have hO1 : (Cond.arrayOver (.array .int)).before #[Value.ref b] s = true := hts _ (dz_A1_in _ (by unfold dz_A1; simp))
  have hO2 : (Cond.arrayOver (.array .byte)).before #[Value.ref b] s = true := hts _ (dz_A1_in _ (by unfold dz_A1; simp))
  have ha : ∀ t : Nat, ∃ cA : ClassId, t < 6 → ArrOfT s cA (dz_ty t) ∧ va_RA s cA (dz_ty t) := by
    intro t
    by_cases h : t < 6
    · revert h
      refine fun h => dz_lt6 (P := fun t => ∃ cA : ClassId, t < 6 → ArrOfT s cA (dz_ty t) ∧ va_RA s cA (dz_ty t)) ?_ ?_ ?_ ?_ ?_ ?_ h
      · obtain ⟨cA, h1⟩ := arr (ty := .int) (by unfold dz_w0; simp) (fun cA h => h)
        exact ⟨cA, fun _ => h1⟩
      · obtain ⟨cA, h1⟩ := arr (ty := .long) (by unfold dz_w0; simp) (fun cA h => h)
        exact ⟨cA, fun _ => h1⟩
      · obtain ⟨cA, h1⟩ := arr (ty := .byte) (by unfold dz_w0; simp) (fun cA h => h)
        exact ⟨cA, fun _ => h1⟩
      · obtain ⟨comp, cA, kA, hcomp, hidx, hkA, hkindA, hnameA⟩ := Cond.arrayOver_spec hO0
        exact ⟨cA, fun _ => ⟨fun n z => ⟨(fun k h => by cases h), kA, hkA, comp, hkindA⟩, kA, comp, hkA, hkindA, hcomp, hnameA⟩⟩
      · obtain ⟨comp, cA, kA, hcomp, hidx, hkA, hkindA, hnameA⟩ := arrayOver_specB hO1
        exact ⟨cA, fun _ => ⟨fun n z => ⟨(fun k h => by cases h), kA, hkA, comp, hkindA⟩, hnameA⟩⟩
      · obtain ⟨comp, cA, kA, hcomp, hidx, hkA, hkindA, hnameA⟩ := arrayOver_specB hO2
        exact ⟨cA, fun _ => ⟨fun n z => ⟨(fun k h => by cases h), kA, hkA, comp, hkindA⟩, hnameA⟩⟩
    · exact ⟨m.cls, fun z => absurd z h⟩
  obtain ⟨aC, haC⟩ := Classical.axiomOfChoice ha
  have hK : va_K ((fun ci => (f ci).1), fun ci => (f ci).2) vwCl (dz_tys aC) s := by
    refine ⟨fun k q hq => ?_, fun k q hq => ?_⟩
    · have hlt : k < 7 := (List.getElem?_eq_some_iff.mp hq).1
      rw [dz_c_at hlt] at hq
      cases hq
      exact hf k hlt
    · have hlt : k < 6 := (List.getElem?_eq_some_iff.mp hq).1
      rw [dz_tys_at hlt] at hq
      cases hq
      exact haC k hlt
  have stat : ∀ (nm : String) (zs : List Int), zs.length = 6 → Cond.arrayOf (.static RX5 nm "[I") .int ∈ flatC (Jvm.Cond.and given_1 narrow_1) → Cond.eq (.length (.static RX5 nm "[I")) (.int 6) ∈ flatC (Jvm.Cond.and given_1 narrow_1) → (∀ j, j < 6 → Cond.eq (.elem (.static RX5 nm "[I") (.int (Int32.ofNat j))) (.int (Int32.ofInt (zs.getD j 0))) ∈ flatC (Jvm.Cond.and given_1 narrow_1)) → Cond.laysStatic RX5 nm "[I" ∈ lw_tbl → ∃ t : Nat, va_T .int t zs.length (fun j => .int (Int32.ofInt (zs.getD j 0))) (fun q : Nat => s.heap.size ≤ q) s s.heap ∧ va_Z RX5 nm "[I" (.ref t) (fun q : Nat => s.heap.size ≤ q) s s.heap := by
    intro nm zs h6 g1 g2 g3 g4
    rw [h6]
    obtain ⟨t, ht, hTt⟩ := va_Tof (A := fun q : Nat => s.heap.size ≤ q) (N := 6) (f := fun j => .int (Int32.ofInt (zs.getD j 0))) (by decide) (hfl _ g1) (va_eqt (hfl _ g2)) (fun j hj => va_eqt (hfl _ (g3 j hj))) hA
    exact ⟨t, hTt, va_Zof (hts _ g4) (hts _ (dz_A1_in (.initialized RX5) (by unfold dz_A1; simp))) ht hA⟩
  obtain ⟨t1, hT1, hZ1⟩ := stat "LETTERS" dz_xs1 rfl (by decide +kernel) (by decide +kernel) (fun j hj => dz_lt6 (P := fun j => Cond.eq (.elem (.static RX5 "LETTERS" "[I") (.int (Int32.ofNat j))) (.int (Int32.ofInt (dz_xs1.getD j 0))) ∈ flatC (Jvm.Cond.and given_1 narrow_1)) (by decide +kernel) (by decide +kernel) (by decide +kernel) (by decide +kernel) (by decide +kernel) (by decide +kernel) hj) (dz_A1_in _ (by unfold dz_A1; simp))
  obtain ⟨t2, hT2, hZ2⟩ := stat "KIND_ABOVE" dz_xs2 rfl (by decide +kernel) (by decide +kernel) (fun j hj => dz_lt6 (P := fun j => Cond.eq (.elem (.static RX5 "KIND_ABOVE" "[I") (.int (Int32.ofNat j))) (.int (Int32.ofInt (dz_xs2.getD j 0))) ∈ flatC (Jvm.Cond.and given_1 narrow_1)) (by decide +kernel) (by decide +kernel) (by decide +kernel) (by decide +kernel) (by decide +kernel) (by decide +kernel) hj) (dz_A1_in _ (by unfold dz_A1; simp))
  obtain ⟨ob, ob0, ob1, ob2⟩ : ∃ ob : Nat → Nat, ob 0 = b ∧ ob 1 = t1 ∧ ob 2 = t2 := ⟨fun o => if o = 0 then b else if o = 1 then t1 else t2, rfl, rfl, rfl⟩
  obtain ⟨xo, xo0, xo1, xo2⟩ : ∃ xo : Nat → List Int, xo 0 = (List.range L).map (fun j => (xs j).toInt) ∧ xo 1 = dz_xs1 ∧ xo 2 = dz_xs2 := ⟨fun o => if o = 0 then (List.range L).map (fun j => (xs j).toInt) else if o = 1 then dz_xs1 else dz_xs2, rfl, rfl, rfl⟩
  have hgd : ∀ j, j < L → ((List.range L).map (fun j => (xs j).toInt)).getD j 0 = (xs j).toInt := by
    intro j hj
    rw [List.getD_eq_getElem?_getD, List.getElem?_map, List.getElem?_range hj]
    rfl
  have in6 : ∀ zs : List Int, (∀ z ∈ zs, dz_in32 z) → ∀ j, dz_in32 (zs.getD j 0) := by
    intro zs h j
    rw [List.getD_eq_getElem?_getD]
    cases hz : zs[j]? with
    | none => exact dz_in0.1
    | some z => exact h z (List.mem_of_getElem? hz)
  have hO : dz_OL ob xo (fun q : Nat => s.heap.size ≤ q) s s.heap := by
    refine ⟨fun o ho => ?_, fun o ho => ?_⟩
    · rcases (show o = 0 ∨ o = 1 ∨ o = 2 by omega) with rfl | rfl | rfl
      · rw [ob0, xo0]
        obtain ⟨scr, y1, y2, y3, y4, y5⟩ := hXs
        refine ⟨⟨scr, y1, y2, y3, by simp; omega, by simp [y4], fun j hj => ?_, Nat.not_le.mpr hbl⟩, by simp; omega, in6 _ (fun z hz => ?_)⟩
        · have hj' : j < L := by simpa using hj
          rw [y5 j hj']
          show some (Value.int (xs j)) = some (Value.int (Int32.ofInt (((List.range L).map (fun j => (xs j).toInt)).getD j 0)))
          rw [hgd j hj', Int32.ofInt_toInt]
        · obtain ⟨j, -, rfl⟩ := List.mem_map.mp hz
          exact dz_Iin _
      · rw [ob1, xo1]
        exact ⟨hT1, by decide, in6 _ (by unfold dz_in32; decide)⟩
      · rw [ob2, xo2]
        exact ⟨hT2, by decide, in6 _ (by unfold dz_in32; decide)⟩
    · rcases ho with rfl | rfl
      · rw [ob1]; exact hZ1
      · rw [ob2]; exact hZ2
  have hNW : dz_NW s := by
    refine ⟨fun w hw hn => ?_, va_AO.of hO0, hO1, hO2⟩
    have h1 := hts w hw
    cases w <;> first | exact va_Nw.of rfl h1 | exact absurd hn (by decide) | exact absurd hn (fun z => by cases z)
  have C : dz_ctx p s m #[Value.ref b] meth c code R_law 4 ((fun ci => (f ci).1), fun ci => (f ci).2) aC ob xo (fun q : Nat => s.heap.size ≤ q) := ⟨hx, hb, hml, hown, hT, hK, fun _ h => h, hNW, hO⟩
  have key := hX xo xo0 xo1 xo2 (dz_Wp p l e room_1 s m #[Value.ref b] below meth c 4 ((fun ci => (f ci).1), fun ci => (f ci).2) aC ob (fun q : Nat => s.heap.size ≤ q) (lw_Z below #[Value.ref b] s) 0 (fun _ => 0))
    (dz_sound_step (P := dz_pp 220) (d := 60) C (dz_true l _ aC ob xo 60) dz_mk_all ⟨by decide, by decide⟩ (by decide +kernel) (by decide +kernel) (mn := meth.name) rfl ?_ (dz_law_ck meth.name))
  · rw [lg_entry_eq]
    have e1 : ([dz_o 0] : List dz_V).map (dz_cv (fun _ => 0) ob) = [Value.ref b] := by
      show [Value.ref (ob 0)] = _
      rw [ob0]
    have hl := dz_entry (ad := fun _ => 0) (ob := ob) (n := 4) (vs := [dz_o 0]) (by decide)
    rw [e1] at hl
    exact key (Nat.le_refl _) _ s.heap [] (fun _ => 0) (fun _ _ => rfl) ⟨hl, dz_ent_ok (fun v hv => by rw [List.mem_singleton.mp hv]; show 0 < 3; decide), fun v hv => absurd hv List.not_mem_nil, ⟨fun _ _ => Nat.le_refl 0, fun _ _ => dz_in0.2, fun _ _ _ z => by simp at z, fun _ _ _ z => by simp at z, fun _ _ z => by simp at z⟩, fun k q z => by simp [dz_ws] at z, ⟨fun i j p q z => by simp [dz_ws] at z, fun k q z => by simp [dz_ws] at z⟩, va_S.rf⟩
  · intro pc L' st kc ks g i hi hir hd hc' hs' hq
    have hq : dz_ret 2 st (fun r => r = some (dz_i 1)) := hq
    rcases st with _ | ⟨v, st⟩
    · exact hq.elim
    · rcases v with x | v
      · rcases st with _ | ⟨v, st⟩
        · obtain ⟨-, h2⟩ := (hq : (x = 0 ∨ x = 1) ∧ some (Sum.inl x) = some (dz_i 1))
          have hx1 : x = 1 := Sum.inl.inj (Option.some.inj h2)
          subst hx1
          have hi2 : i = .ireturn := hir.2.2.1 rfl
          subst hi2
          intro hn ls H locs ad had Z
          refine va_forget (fun q hq => Z.2.2.2.2.2.2.2.2 q hq) (W.widen ?_ ?_ (lw_ret hx hb hr hlocks hd))
          · exact Nat.le_trans hc' (by decide +kernel)
          · exact Nat.le_trans hs' (by decide +kernel)
        · exact hq.elim
      · exact (show False by rcases v with y | v <;> exact hq).elim
