/-! The rows of the small machine hold of the real one: instructions that touch locals and the stack alone. -/
section DZS
variable {p : Program} {l : Launch} {e : Env} {R : Room} {s : State} {m : MethodId} {args : Array Value} {below : List Frame} {meth : Method} {cd : Code} {cc : ByteArray} {own : String} {nL : Nat} {D : va_G} {aC : Nat → ClassId} {ob : Nat → Nat} {xo : Nat → List Int} {A : Nat → Prop} {Qm : State → Prop} {n0 : Nat} {ad0 : Nat → Nat}
variable {pc pc1 kc ks : Nat} {L : dz_L} {st st1 : List dz_V} {g : dz_G}
theorem dz_ok1 {n : Nat} {v : dz_V} {st : List dz_V} (h : ∀ w ∈ v :: st, dz_okV n w) : dz_okV n v := h v List.mem_cons_self
theorem dz_okt {n : Nat} {v : dz_V} {st : List dz_V} (h : ∀ w ∈ v :: st, dz_okV n w) : ∀ w ∈ st, dz_okV n w := fun w hw => h w (List.mem_cons_of_mem _ hw)
theorem dz_okc {n : Nat} {v : dz_V} {st : List dz_V} (hv : dz_okV n v) (h : ∀ w ∈ st, dz_okV n w) : ∀ w ∈ v :: st, dz_okV n w := by
  intro w hw
  rcases List.mem_cons.mp hw with rfl | hw
  · exact hv
  · exact h w hw
/-- an instruction that changes the stack alone -/
theorem dz_pure (hk : (∀ v ∈ st, dz_okV g.1.length v) → dz_okG g → (∀ (k : Nat) (v : dz_V), L[k]? = some (some v) → dz_okV g.1.length v) → ∀ v ∈ st1, dz_okV g.1.length v)
    (hr : ∀ (ls : Array Slot) (H : Heap) (locs : List Loc) (ad : Nat → Nat), dz_Z s nL D aC ob A L st g ls H locs ad → W p l e R s m args below meth cd H locs kc ks Qm (F0 m pc1 ls (st1.map (dz_cv ad ob))) → W p l e R s m args below meth cd H locs kc ks Qm (F0 m pc ls (st.map (dz_cv ad ob))))
    (h : dz_Wp p l e R s m args below meth cd nL D aC ob A Qm n0 ad0 pc1 L st1 kc ks g) : dz_Wp p l e R s m args below meth cd nL D aC ob A Qm n0 ad0 pc L st kc ks g := by
  intro hn ls H locs ad had Z
  refine hr ls H locs ad Z (h hn ls H locs ad had ?_)
  obtain ⟨z1, z2, z3, z4, z5⟩ := Z
  exact ⟨z1, z2, hk z3 z4 z2, z4, z5⟩
theorem dzs_aload (C : dz_ctx p s m args meth cd cc own nL D aC ob xo A) {k : Nat} (hd : (∃ kf : Fin 4, kf.val = k ∧ decode cc pc = .ok (.aload_n kf, 1) ∧ pc1 = pc + 1) ∨ (decode cc pc = .ok (.aload k, 2) ∧ pc1 = pc + 2))
    (h : dz_lda L k fun x => dz_Wp p l e R s m args below meth cd nL D aC ob A Qm n0 ad0 pc1 L (.inr (.inr x) :: st) kc ks g) : dz_Wp p l e R s m args below meth cd nL D aC ob A Qm n0 ad0 pc L st kc ks g := by
  unfold dz_lda at h
  split at h
  · rename_i x hx
    refine dz_pure (fun h1 _ h3 => dz_okc (h3 _ _ hx) h1) (fun ls H locs ad Z w => ?_) h
    have hl := dz_lr_at Z.1 hx
    rcases x with q | o
    · rcases hd with ⟨kf, e1, e2, e3⟩ | ⟨e2, e3⟩
      · subst e3; exact lv_aload_n C.1 C.2.1 e2 e1 hl w
      · subst e3; exact lv_aload C.1 C.2.1 e2 hl w
    · rcases hd with ⟨kf, e1, e2, e3⟩ | ⟨e2, e3⟩
      · subst e3; exact lv_aload_n C.1 C.2.1 e2 e1 hl w
      · subst e3; exact lv_aload C.1 C.2.1 e2 hl w
  · exact h.elim
theorem dzs_iload (C : dz_ctx p s m args meth cd cc own nL D aC ob xo A) {k : Nat} (hd : (∃ kf : Fin 4, kf.val = k ∧ decode cc pc = .ok (.iload_n kf, 1) ∧ pc1 = pc + 1) ∨ (decode cc pc = .ok (.iload k, 2) ∧ pc1 = pc + 2))
    (h : dz_ldi L k fun x => dz_Wp p l e R s m args below meth cd nL D aC ob A Qm n0 ad0 pc1 L (.inl x :: st) kc ks g) : dz_Wp p l e R s m args below meth cd nL D aC ob A Qm n0 ad0 pc L st kc ks g := by
  unfold dz_ldi at h
  split at h
  · rename_i x hx
    refine dz_pure (fun h1 _ h3 => dz_okc (h3 _ _ hx) h1) (fun ls H locs ad Z w => ?_) h
    have hl := dz_lr_at Z.1 hx
    rcases hd with ⟨kf, e1, e2, e3⟩ | ⟨e2, e3⟩
    · subst e3; exact lv_iload_n C.1 C.2.1 e2 e1 hl w
    · subst e3; exact lv_iload C.1 C.2.1 e2 hl w
  · exact h.elim
theorem dzs_lload (C : dz_ctx p s m args meth cd cc own nL D aC ob xo A) {k : Nat} (hd : (∃ kf : Fin 4, kf.val = k ∧ decode cc pc = .ok (.lload_n kf, 1) ∧ pc1 = pc + 1) ∨ (decode cc pc = .ok (.lload k, 2) ∧ pc1 = pc + 2))
    (h : dz_ldl L k fun x => dz_Wp p l e R s m args below meth cd nL D aC ob A Qm n0 ad0 pc1 L (.inr (.inl x) :: st) kc ks g) : dz_Wp p l e R s m args below meth cd nL D aC ob A Qm n0 ad0 pc L st kc ks g := by
  unfold dz_ldl at h
  split at h
  · rename_i x hx
    refine dz_pure (fun h1 _ h3 => dz_okc (h3 _ _ hx) h1) (fun ls H locs ad Z w => ?_) h
    have hl := dz_lr_at Z.1 hx
    rcases hd with ⟨kf, e1, e2, e3⟩ | ⟨e2, e3⟩
    · subst e3; exact lv_lload_n C.1 C.2.1 e2 e1 hl w
    · subst e3; exact lv_lload C.1 C.2.1 e2 hl w
  · exact h.elim
/-- a store into a local of one slot, whatever the row is -/
theorem dz_store1 {v : dz_V} {k : Nat} (hv : (∀ v ∈ st, dz_okV g.1.length v) → (∀ (k : Nat) (v : dz_V), L[k]? = some (some v) → dz_okV g.1.length v) → dz_okV g.1.length v ∧ ∀ v ∈ st1, dz_okV g.1.length v)
    (hr : ∀ (ls : Array Slot) (H : Heap) (locs : List Loc) (ad : Nat → Nat), dz_Z s nL D aC ob A L st g ls H locs ad → k < nL → (∀ lw : Array Slot, lv_has lw nL ((k, dz_cv ad ob v) :: (dz_ll ad ob 0 L).filter (fun q => !(q.1 == k) && !(q.1 + 1 == k && q.2.category == 2))) → W p l e R s m args below meth cd H locs kc ks Qm (F0 m pc1 lw (st1.map (dz_cv ad ob)))) → W p l e R s m args below meth cd H locs kc ks Qm (F0 m pc ls (st.map (dz_cv ad ob))))
    (h : dz_st1 L k v fun L => dz_Wp p l e R s m args below meth cd nL D aC ob A Qm n0 ad0 pc1 L st1 kc ks g) : dz_Wp p l e R s m args below meth cd nL D aC ob A Qm n0 ad0 pc L st kc ks g := by
  unfold dz_st1 at h
  split at h
  · rename_i x hx
    intro hn ls H locs ad had Z
    have hk : k < nL := by rw [← Z.1.1]; exact (List.getElem?_eq_some_iff.mp hx).1
    refine hr ls H locs ad Z hk (fun lw hlw => h hn lw H locs ad had ?_)
    obtain ⟨z1, z2, z3, z4, z5⟩ := Z
    obtain ⟨k1, k2⟩ := hv z3 z2
    exact ⟨dz_lr_st1 hk z1 hlw, dz_okL_st1 (nL := nL) z2 k1, k2, z4, z5⟩
  · exact h.elim
theorem dz_store2 {v : dz_V} {k : Nat} (hv : (∀ v ∈ st, dz_okV g.1.length v) → dz_okV g.1.length v ∧ ∀ v ∈ st1, dz_okV g.1.length v)
    (hr : ∀ (ls : Array Slot) (H : Heap) (locs : List Loc) (ad : Nat → Nat), dz_Z s nL D aC ob A L st g ls H locs ad → k + 1 < nL → (∀ lw : Array Slot, lv_has lw nL ((k, dz_cv ad ob v) :: (dz_ll ad ob 0 L).filter (fun q => !(q.1 == k) && (!(q.1 == k + 1) && !(q.1 + 1 == k && q.2.category == 2)))) → W p l e R s m args below meth cd H locs kc ks Qm (F0 m pc1 lw (st1.map (dz_cv ad ob)))) → W p l e R s m args below meth cd H locs kc ks Qm (F0 m pc ls (st.map (dz_cv ad ob))))
    (h : dz_st2 L k v fun L => dz_Wp p l e R s m args below meth cd nL D aC ob A Qm n0 ad0 pc1 L st1 kc ks g) : dz_Wp p l e R s m args below meth cd nL D aC ob A Qm n0 ad0 pc L st kc ks g := by
  unfold dz_st2 at h
  split at h
  · rename_i x hx
    intro hn ls H locs ad had Z
    have hk : k + 1 < nL := by rw [← Z.1.1]; exact (List.getElem?_eq_some_iff.mp hx).1
    refine hr ls H locs ad Z hk (fun lw hlw => h hn lw H locs ad had ?_)
    obtain ⟨z1, z2, z3, z4, z5⟩ := Z
    obtain ⟨k1, k2⟩ := hv z3
    exact ⟨dz_lr_st2 hk z1 hlw, dz_okL_st2 z2 k1, k2, z4, z5⟩
  · exact h.elim
theorem dzs_istore (C : dz_ctx p s m args meth cd cc own nL D aC ob xo A) {k : Nat} (hd : (∃ kf : Fin 4, kf.val = k ∧ decode cc pc = .ok (.istore_n kf, 1) ∧ pc1 = pc + 1) ∨ (decode cc pc = .ok (.istore k, 2) ∧ pc1 = pc + 2))
    (h : dz_ui st fun x st => dz_st1 L k (.inl x) fun L => dz_Wp p l e R s m args below meth cd nL D aC ob A Qm n0 ad0 pc1 L st kc ks g) : dz_Wp p l e R s m args below meth cd nL D aC ob A Qm n0 ad0 pc L st kc ks g := by
  unfold dz_ui at h
  split at h
  · refine dz_store1 (fun h1 _ => ⟨dz_ok1 h1, dz_okt h1⟩) (fun ls H locs ad Z hk w => ?_) h
    rcases hd with ⟨kf, e1, e2, e3⟩ | ⟨e2, e3⟩
    · subst e3; exact lv_istore_n C.1 C.2.1 e2 e1 Z.1.2 hk rfl w
    · subst e3; exact lv_istore C.1 C.2.1 e2 Z.1.2 hk rfl w
  · exact h.elim
theorem dzs_lstore (C : dz_ctx p s m args meth cd cc own nL D aC ob xo A) {k : Nat} (hd : (∃ kf : Fin 4, kf.val = k ∧ decode cc pc = .ok (.lstore_n kf, 1) ∧ pc1 = pc + 1) ∨ (decode cc pc = .ok (.lstore k, 2) ∧ pc1 = pc + 2))
    (h : dz_ul st fun x st => dz_st2 L k (.inr (.inl x)) fun L => dz_Wp p l e R s m args below meth cd nL D aC ob A Qm n0 ad0 pc1 L st kc ks g) : dz_Wp p l e R s m args below meth cd nL D aC ob A Qm n0 ad0 pc L st kc ks g := by
  unfold dz_ul at h
  split at h
  · refine dz_store2 (fun h1 => ⟨dz_ok1 h1, dz_okt h1⟩) (fun ls H locs ad Z hk w => ?_) h
    rcases hd with ⟨kf, e1, e2, e3⟩ | ⟨e2, e3⟩
    · subst e3; exact lv_lstore_n C.1 C.2.1 e2 e1 Z.1.2 hk rfl w
    · subst e3; exact lv_lstore C.1 C.2.1 e2 Z.1.2 hk rfl w
  · exact h.elim
theorem dzs_astore (C : dz_ctx p s m args meth cd cc own nL D aC ob xo A) {kf : Fin 4} (hd : decode cc pc = .ok (.astore_n kf, 1))
    (h : dz_ua st fun x st => dz_st1 L kf.val (.inr (.inr x)) fun L => dz_Wp p l e R s m args below meth cd nL D aC ob A Qm n0 ad0 (pc + 1) L st kc ks g) : dz_Wp p l e R s m args below meth cd nL D aC ob A Qm n0 ad0 pc L st kc ks g := by
  unfold dz_ua at h
  split at h
  · rename_i x st' 
    refine dz_store1 (fun h1 _ => ⟨dz_ok1 h1, dz_okt h1⟩) (fun ls H locs ad Z hk w => ?_) h
    rcases x with q | o
    · exact lv_astore_n C.1 C.2.1 hd rfl Z.1.2 hk rfl w
    · exact lv_astore_n C.1 C.2.1 hd rfl Z.1.2 hk rfl w
  · exact h.elim
theorem dzs_iinc (C : dz_ctx p s m args meth cd cc own nL D aC ob xo A) {k : Nat} {n : Int} (hd : decode cc pc = .ok (.iinc k n, 3))
    (h : dz_ldi L k fun x => dz_st1 L k (.inl (dz_w (x + n))) fun L => dz_Wp p l e R s m args below meth cd nL D aC ob A Qm n0 ad0 (pc + 3) L st kc ks g) : dz_Wp p l e R s m args below meth cd nL D aC ob A Qm n0 ad0 pc L st kc ks g := by
  unfold dz_ldi at h
  split at h
  · rename_i x hx
    refine dz_store1 (v := .inl (dz_w (x + n))) (fun h1 _ => ⟨dz_w_in (x + n), h1⟩) (fun ls H locs ad Z hk w => ?_) h
    obtain ⟨i, hi⟩ := List.getElem?_of_mem (dz_ll_mem.mpr ⟨k, _, hx, rfl⟩ : (0 + k, dz_cv ad ob (.inl x)) ∈ dz_ll ad ob 0 L)
    rw [Nat.zero_add] at hi
    exact lv_iinc (v := Int32.ofInt (dz_w (x + n))) C.1 C.2.1 hd Z.1.2 hi (by rw [dz_iadd]) hk rfl w
  · exact h.elim
end DZS
