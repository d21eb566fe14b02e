/-! Constants, numbers, the stack, branches. -/
section DZT
variable {p : Program} {l : Launch} {e : Env} {R : Room} {s : State} {m : MethodId} {args : Array Value} {below : List Frame} {meth : Method} {cd : Code} {cc : ByteArray} {own : String} {nL : Nat} {D : va_G} {aC : Nat → ClassId} {ob : Nat → Nat} {xo : Nat → List Int} {A : Nat → Prop} {Qm : State → Prop} {n0 : Nat} {ad0 : Nat → Nat}
variable {pc pc1 kc ks : Nat} {L : dz_L} {st st1 : List dz_V} {g : dz_G}
theorem dzs_iconst (C : dz_ctx p s m args meth cd cc own nL D aC ob xo A) {n : Int} (hd : decode cc pc = .ok (.iconst n, 1)) (hn : dz_in32 n)
    (h : dz_Wp p l e R s m args below meth cd nL D aC ob A Qm n0 ad0 (pc + 1) L (.inl n :: st) kc ks g) : dz_Wp p l e R s m args below meth cd nL D aC ob A Qm n0 ad0 pc L st kc ks g :=
  dz_pure (fun h1 _ _ => dz_okc (show dz_okV _ (.inl n) from hn) h1) (fun ls H locs ad Z w => lv_iconst C.1 C.2.1 hd rfl w) h
theorem dzs_bipush (C : dz_ctx p s m args meth cd cc own nL D aC ob xo A) {n : Int} (hd : decode cc pc = .ok (.bipush n, 2)) (hn : dz_b n = n)
    (h : dz_Wp p l e R s m args below meth cd nL D aC ob A Qm n0 ad0 (pc + 2) L (.inl n :: st) kc ks g) : dz_Wp p l e R s m args below meth cd nL D aC ob A Qm n0 ad0 pc L st kc ks g := by
  have h0 : dz_in32 n := by rw [← hn]; exact dz_b_in n
  refine dz_pure (fun h1 _ _ => dz_okc (show dz_okV _ (.inl n) from h0) h1) (fun ls H locs ad Z w => lv_bipush C.1 C.2.1 hd ?_ w) h
  have h3 := dz_i2b h0
  rw [Int32.toInt8_ofInt, hn] at h3
  exact h3
theorem dzs_sipush (C : dz_ctx p s m args meth cd cc own nL D aC ob xo A) {n : Int} (hd : decode cc pc = .ok (.sipush n, 3)) (hn : (Int16.ofInt n).toInt32 = Int32.ofInt n ∧ dz_in32 n)
    (h : dz_Wp p l e R s m args below meth cd nL D aC ob A Qm n0 ad0 (pc + 3) L (.inl n :: st) kc ks g) : dz_Wp p l e R s m args below meth cd nL D aC ob A Qm n0 ad0 pc L st kc ks g :=
  dz_pure (fun h1 _ _ => dz_okc (show dz_okV _ (.inl n) from hn.2) h1) (fun ls H locs ad Z w => lv_sipush C.1 C.2.1 hd hn.1 w) h
theorem dzs_lconst (C : dz_ctx p s m args meth cd cc own nL D aC ob xo A) {n : Fin 2} (hd : decode cc pc = .ok (.lconst n, 1))
    (h : dz_Wp p l e R s m args below meth cd nL D aC ob A Qm n0 ad0 (pc + 1) L (.inr (.inl (n.val : Int)) :: st) kc ks g) : dz_Wp p l e R s m args below meth cd nL D aC ob A Qm n0 ad0 pc L st kc ks g :=
  dz_pure (fun h1 _ _ => dz_okc (show dz_okV _ (.inr (.inl (n.val : Int))) from (by have := n.isLt; show dz_in64 _; unfold dz_in64; omega)) h1) (fun ls H locs ad Z w => lv_lconst C.1 C.2.1 hd Int64.ofInt_eq_ofNat.symm w) h
theorem dzs_ldc (C : dz_ctx p s m args meth cd cc own nL D aC ob xo A) {idx : Nat} {v : Int} (hv : dz_in32 v) (hc : (Jvm.Cond.constant own idx (Int32.ofInt v)).before args s = true) (hd : (decode cc pc = .ok (.ldc idx, 2) ∧ pc1 = pc + 2) ∨ (decode cc pc = .ok (.ldc_w idx, 3) ∧ pc1 = pc + 3))
    (h : dz_Wp p l e R s m args below meth cd nL D aC ob A Qm n0 ad0 pc1 L (.inl v :: st) kc ks g) : dz_Wp p l e R s m args below meth cd nL D aC ob A Qm n0 ad0 pc L st kc ks g := by
  refine dz_pure (fun h1 _ _ => dz_okc (show dz_okV _ (.inl v) from hv) h1) (fun ls H locs ad Z w => ?_) h
  rcases hd with ⟨e2, e3⟩ | ⟨e2, e3⟩
  · subst e3; exact lv_ldc C.1 C.2.1 C.2.2.2.1 hc e2 w
  · subst e3; exact lv_ldcw C.1 C.2.1 C.2.2.2.1 hc e2 w
theorem dzs_ldc2 (C : dz_ctx p s m args meth cd cc own nL D aC ob xo A) {idx : Nat} {v : Int} (hv : dz_in64 v) (hc : (Jvm.Cond.constantLong own idx (Int64.ofInt v)).before args s = true) (hd : decode cc pc = .ok (.ldc2_w idx, 3))
    (h : dz_Wp p l e R s m args below meth cd nL D aC ob A Qm n0 ad0 (pc + 3) L (.inr (.inl v) :: st) kc ks g) : dz_Wp p l e R s m args below meth cd nL D aC ob A Qm n0 ad0 pc L st kc ks g :=
  dz_pure (fun h1 _ _ => dz_okc (show dz_okV _ (.inr (.inl v)) from hv) h1) (fun ls H locs ad Z w => lv_ldc2 C.1 C.2.1 C.2.2.2.1 hc hd w) h
theorem dzs_iadd (C : dz_ctx p s m args meth cd cc own nL D aC ob xo A) (hd : decode cc pc = .ok (.iadd, 1))
    (h : dz_bi st fun x y st => dz_Wp p l e R s m args below meth cd nL D aC ob A Qm n0 ad0 (pc + 1) L (.inl (dz_w (x + y)) :: st) kc ks g) : dz_Wp p l e R s m args below meth cd nL D aC ob A Qm n0 ad0 pc L st kc ks g := by
  unfold dz_bi at h
  split at h
  · rename_i y x st'
    refine dz_pure (st1 := .inl (dz_w (x + y)) :: st') (fun h1 _ _ => dz_okc (show dz_okV _ (.inl (dz_w (x + y))) from dz_w_in _) (dz_okt (dz_okt h1))) (fun ls H locs ad Z w => lv_iadd C.1 C.2.1 hd ?_) h
    rw [← dz_iadd x y]
    exact w
  · exact h.elim
theorem dzs_isub (C : dz_ctx p s m args meth cd cc own nL D aC ob xo A) (hd : decode cc pc = .ok (.isub, 1))
    (h : dz_bi st fun x y st => dz_Wp p l e R s m args below meth cd nL D aC ob A Qm n0 ad0 (pc + 1) L (.inl (dz_w (x - y)) :: st) kc ks g) : dz_Wp p l e R s m args below meth cd nL D aC ob A Qm n0 ad0 pc L st kc ks g := by
  unfold dz_bi at h
  split at h
  · rename_i y x st'
    refine dz_pure (st1 := .inl (dz_w (x - y)) :: st') (fun h1 _ _ => dz_okc (show dz_okV _ (.inl (dz_w (x - y))) from dz_w_in _) (dz_okt (dz_okt h1))) (fun ls H locs ad Z w => lv_isub C.1 C.2.1 hd ?_) h
    rw [← dz_isub x y]
    exact w
  · exact h.elim
theorem dzs_imul (C : dz_ctx p s m args meth cd cc own nL D aC ob xo A) (hd : decode cc pc = .ok (.imul, 1))
    (h : dz_bi st fun x y st => dz_Wp p l e R s m args below meth cd nL D aC ob A Qm n0 ad0 (pc + 1) L (.inl (dz_w (x * y)) :: st) kc ks g) : dz_Wp p l e R s m args below meth cd nL D aC ob A Qm n0 ad0 pc L st kc ks g := by
  unfold dz_bi at h
  split at h
  · rename_i y x st'
    refine dz_pure (st1 := .inl (dz_w (x * y)) :: st') (fun h1 _ _ => dz_okc (show dz_okV _ (.inl (dz_w (x * y))) from dz_w_in _) (dz_okt (dz_okt h1))) (fun ls H locs ad Z w => lv_imul C.1 C.2.1 hd ?_) h
    rw [← dz_imul x y]
    exact w
  · exact h.elim
theorem dzs_iand (C : dz_ctx p s m args meth cd cc own nL D aC ob xo A) (hd : decode cc pc = .ok (.iand, 1))
    (h : dz_bi st fun x y st => dz_Wp p l e R s m args below meth cd nL D aC ob A Qm n0 ad0 (pc + 1) L (.inl (dz_and x y) :: st) kc ks g) : dz_Wp p l e R s m args below meth cd nL D aC ob A Qm n0 ad0 pc L st kc ks g := by
  unfold dz_bi at h
  split at h
  · rename_i y x st'
    refine dz_pure (st1 := .inl (dz_and x y) :: st') (fun h1 _ _ => dz_okc (show dz_okV _ (.inl (dz_and x y)) from dz_Iin _) (dz_okt (dz_okt h1))) (fun ls H locs ad Z w => lv_iand C.1 C.2.1 hd ?_) h
    have w2 : W p l e R s m args below meth cd H locs kc ks Qm (F0 m (pc + 1) ls (.int (Int32.ofInt (dz_and x y)) :: st'.map (dz_cv ad ob))) := w
    unfold dz_and at w2
    rw [Int32.ofInt_toInt] at w2
    exact w2
  · exact h.elim
theorem dzs_ior (C : dz_ctx p s m args meth cd cc own nL D aC ob xo A) (hd : decode cc pc = .ok (.ior, 1))
    (h : dz_bi st fun x y st => dz_Wp p l e R s m args below meth cd nL D aC ob A Qm n0 ad0 (pc + 1) L (.inl (dz_or x y) :: st) kc ks g) : dz_Wp p l e R s m args below meth cd nL D aC ob A Qm n0 ad0 pc L st kc ks g := by
  unfold dz_bi at h
  split at h
  · rename_i y x st'
    refine dz_pure (st1 := .inl (dz_or x y) :: st') (fun h1 _ _ => dz_okc (show dz_okV _ (.inl (dz_or x y)) from dz_Iin _) (dz_okt (dz_okt h1))) (fun ls H locs ad Z w => lv_ior C.1 C.2.1 hd ?_) h
    have w2 : W p l e R s m args below meth cd H locs kc ks Qm (F0 m (pc + 1) ls (.int (Int32.ofInt (dz_or x y)) :: st'.map (dz_cv ad ob))) := w
    unfold dz_or at w2
    rw [Int32.ofInt_toInt] at w2
    exact w2
  · exact h.elim
theorem dzs_ixor (C : dz_ctx p s m args meth cd cc own nL D aC ob xo A) (hd : decode cc pc = .ok (.ixor, 1))
    (h : dz_bi st fun x y st => dz_Wp p l e R s m args below meth cd nL D aC ob A Qm n0 ad0 (pc + 1) L (.inl (dz_xor x y) :: st) kc ks g) : dz_Wp p l e R s m args below meth cd nL D aC ob A Qm n0 ad0 pc L st kc ks g := by
  unfold dz_bi at h
  split at h
  · rename_i y x st'
    refine dz_pure (st1 := .inl (dz_xor x y) :: st') (fun h1 _ _ => dz_okc (show dz_okV _ (.inl (dz_xor x y)) from dz_Iin _) (dz_okt (dz_okt h1))) (fun ls H locs ad Z w => lv_ixor C.1 C.2.1 hd ?_) h
    have w2 : W p l e R s m args below meth cd H locs kc ks Qm (F0 m (pc + 1) ls (.int (Int32.ofInt (dz_xor x y)) :: st'.map (dz_cv ad ob))) := w
    unfold dz_xor at w2
    rw [Int32.ofInt_toInt] at w2
    exact w2
  · exact h.elim
theorem dzs_ishl (C : dz_ctx p s m args meth cd cc own nL D aC ob xo A) (hd : decode cc pc = .ok (.ishl, 1))
    (h : dz_bi st fun x y st => dz_Wp p l e R s m args below meth cd nL D aC ob A Qm n0 ad0 (pc + 1) L (.inl (dz_shl x y) :: st) kc ks g) : dz_Wp p l e R s m args below meth cd nL D aC ob A Qm n0 ad0 pc L st kc ks g := by
  unfold dz_bi at h
  split at h
  · rename_i y x st'
    refine dz_pure (st1 := .inl (dz_shl x y) :: st') (fun h1 _ _ => dz_okc (show dz_okV _ (.inl (dz_shl x y)) from dz_Iin _) (dz_okt (dz_okt h1))) (fun ls H locs ad Z w => lv_ishl C.1 C.2.1 hd ?_) h
    have w2 : W p l e R s m args below meth cd H locs kc ks Qm (F0 m (pc + 1) ls (.int (Int32.ofInt (dz_shl x y)) :: st'.map (dz_cv ad ob))) := w
    unfold dz_shl at w2
    rw [Int32.ofInt_toInt] at w2
    exact w2
  · exact h.elim
theorem dzs_ishr (C : dz_ctx p s m args meth cd cc own nL D aC ob xo A) (hd : decode cc pc = .ok (.ishr, 1))
    (h : dz_bi st fun x y st => dz_Wp p l e R s m args below meth cd nL D aC ob A Qm n0 ad0 (pc + 1) L (.inl (dz_shr x y) :: st) kc ks g) : dz_Wp p l e R s m args below meth cd nL D aC ob A Qm n0 ad0 pc L st kc ks g := by
  unfold dz_bi at h
  split at h
  · rename_i y x st'
    refine dz_pure (st1 := .inl (dz_shr x y) :: st') (fun h1 _ _ => dz_okc (show dz_okV _ (.inl (dz_shr x y)) from dz_Iin _) (dz_okt (dz_okt h1))) (fun ls H locs ad Z w => lv_ishr C.1 C.2.1 hd ?_) h
    have w2 : W p l e R s m args below meth cd H locs kc ks Qm (F0 m (pc + 1) ls (.int (Int32.ofInt (dz_shr x y)) :: st'.map (dz_cv ad ob))) := w
    unfold dz_shr at w2
    rw [Int32.ofInt_toInt] at w2
    exact w2
  · exact h.elim
theorem dzs_idiv (C : dz_ctx p s m args meth cd cc own nL D aC ob xo A) (hd : decode cc pc = .ok (.idiv, 1))
    (h : dz_bi st fun x y st => y ≠ 0 ∧ dz_Wp p l e R s m args below meth cd nL D aC ob A Qm n0 ad0 (pc + 1) L (.inl (dz_w (Int.tdiv x y)) :: st) kc ks g) : dz_Wp p l e R s m args below meth cd nL D aC ob A Qm n0 ad0 pc L st kc ks g := by
  unfold dz_bi at h
  split at h
  · rename_i y x st'
    refine dz_pure (st1 := .inl (dz_w (Int.tdiv x y)) :: st') (fun h1 _ _ => dz_okc (show dz_okV _ (.inl (dz_w (Int.tdiv x y))) from dz_w_in _) (dz_okt (dz_okt h1))) (fun ls H locs ad Z w => ?_) h.2
    have hy : dz_in32 y := dz_ok1 Z.2.2.1
    have hx : dz_in32 x := dz_ok1 (dz_okt Z.2.2.1)
    refine lv_idiv C.1 C.2.1 hd (fun z => h.1 ((dz_ieq hy (by unfold dz_in32; omega)).mp z)) ?_
    rw [← dz_idiv hx hy]
    exact w
  · exact h.elim
theorem dzs_irem (C : dz_ctx p s m args meth cd cc own nL D aC ob xo A) (hd : decode cc pc = .ok (.irem, 1))
    (h : dz_bi st fun x y st => y ≠ 0 ∧ dz_Wp p l e R s m args below meth cd nL D aC ob A Qm n0 ad0 (pc + 1) L (.inl (Int.tmod x y) :: st) kc ks g) : dz_Wp p l e R s m args below meth cd nL D aC ob A Qm n0 ad0 pc L st kc ks g := by
  unfold dz_bi at h
  split at h
  · rename_i y x st'
    refine dz_pure (st1 := .inl (Int.tmod x y) :: st') (fun h1 _ _ => dz_okc (show dz_okV _ (.inl (Int.tmod x y)) from dz_irem_in (dz_ok1 (dz_okt h1)) (dz_ok1 h1)) (dz_okt (dz_okt h1))) (fun ls H locs ad Z w => ?_) h.2
    have hy : dz_in32 y := dz_ok1 Z.2.2.1
    have hx : dz_in32 x := dz_ok1 (dz_okt Z.2.2.1)
    refine lv_irem C.1 C.2.1 hd (fun z => h.1 ((dz_ieq hy (by unfold dz_in32; omega)).mp z)) ?_
    rw [← dz_irem hx hy]
    exact w
  · exact h.elim
theorem dzs_ladd (C : dz_ctx p s m args meth cd cc own nL D aC ob xo A) (hd : decode cc pc = .ok (.ladd, 1))
    (h : dz_bl st fun x y st => dz_Wp p l e R s m args below meth cd nL D aC ob A Qm n0 ad0 (pc + 1) L (.inr (.inl (dz_W (x + y))) :: st) kc ks g) : dz_Wp p l e R s m args below meth cd nL D aC ob A Qm n0 ad0 pc L st kc ks g := by
  unfold dz_bl at h
  split at h
  · rename_i y x st'
    refine dz_pure (st1 := .inr (.inl (dz_W (x + y))) :: st') (fun h1 _ _ => dz_okc (show dz_okV _ (.inr (.inl (dz_W (x + y)))) from dz_W_in _) (dz_okt (dz_okt h1))) (fun ls H locs ad Z w => lv_ladd C.1 C.2.1 hd ?_) h
    rw [← dz_ladd x y]
    exact w
  · exact h.elim
theorem dzs_lmul (C : dz_ctx p s m args meth cd cc own nL D aC ob xo A) (hd : decode cc pc = .ok (.lmul, 1))
    (h : dz_bl st fun x y st => dz_Wp p l e R s m args below meth cd nL D aC ob A Qm n0 ad0 (pc + 1) L (.inr (.inl (dz_W (x * y))) :: st) kc ks g) : dz_Wp p l e R s m args below meth cd nL D aC ob A Qm n0 ad0 pc L st kc ks g := by
  unfold dz_bl at h
  split at h
  · rename_i y x st'
    refine dz_pure (st1 := .inr (.inl (dz_W (x * y))) :: st') (fun h1 _ _ => dz_okc (show dz_okV _ (.inr (.inl (dz_W (x * y)))) from dz_W_in _) (dz_okt (dz_okt h1))) (fun ls H locs ad Z w => lv_lmul C.1 C.2.1 hd ?_) h
    rw [← dz_lmul x y]
    exact w
  · exact h.elim
theorem dzs_ldiv (C : dz_ctx p s m args meth cd cc own nL D aC ob xo A) (hd : decode cc pc = .ok (.ldiv, 1))
    (h : dz_bl st fun x y st => y ≠ 0 ∧ dz_Wp p l e R s m args below meth cd nL D aC ob A Qm n0 ad0 (pc + 1) L (.inr (.inl (dz_W (Int.tdiv x y))) :: st) kc ks g) : dz_Wp p l e R s m args below meth cd nL D aC ob A Qm n0 ad0 pc L st kc ks g := by
  unfold dz_bl at h
  split at h
  · rename_i y x st'
    refine dz_pure (st1 := .inr (.inl (dz_W (Int.tdiv x y))) :: st') (fun h1 _ _ => dz_okc (show dz_okV _ (.inr (.inl (dz_W (Int.tdiv x y)))) from dz_W_in _) (dz_okt (dz_okt h1))) (fun ls H locs ad Z w => ?_) h.2
    have hy : dz_in64 y := dz_ok1 Z.2.2.1
    have hx : dz_in64 x := dz_ok1 (dz_okt Z.2.2.1)
    refine lv_ldiv C.1 C.2.1 hd (fun z => h.1 ((dz_leq hy (by unfold dz_in64; omega)).mp z)) ?_
    rw [← dz_ldiv hx hy]
    exact w
  · exact h.elim
theorem dzs_lrem (C : dz_ctx p s m args meth cd cc own nL D aC ob xo A) (hd : decode cc pc = .ok (.lrem, 1))
    (h : dz_bl st fun x y st => y ≠ 0 ∧ dz_Wp p l e R s m args below meth cd nL D aC ob A Qm n0 ad0 (pc + 1) L (.inr (.inl (Int.tmod x y)) :: st) kc ks g) : dz_Wp p l e R s m args below meth cd nL D aC ob A Qm n0 ad0 pc L st kc ks g := by
  unfold dz_bl at h
  split at h
  · rename_i y x st'
    refine dz_pure (st1 := .inr (.inl (Int.tmod x y)) :: st') (fun h1 _ _ => dz_okc (show dz_okV _ (.inr (.inl (Int.tmod x y))) from dz_lrem_in (dz_ok1 (dz_okt h1)) (dz_ok1 h1)) (dz_okt (dz_okt h1))) (fun ls H locs ad Z w => ?_) h.2
    have hy : dz_in64 y := dz_ok1 Z.2.2.1
    have hx : dz_in64 x := dz_ok1 (dz_okt Z.2.2.1)
    refine lv_lrem C.1 C.2.1 hd (fun z => h.1 ((dz_leq hy (by unfold dz_in64; omega)).mp z)) ?_
    rw [← dz_lrem hx hy]
    exact w
  · exact h.elim
theorem dzs_lcmp (C : dz_ctx p s m args meth cd cc own nL D aC ob xo A) (hd : decode cc pc = .ok (.lcmp, 1))
    (h : dz_bl st fun x y st => dz_Wp p l e R s m args below meth cd nL D aC ob A Qm n0 ad0 (pc + 1) L (.inl (dz_lcmp x y) :: st) kc ks g) : dz_Wp p l e R s m args below meth cd nL D aC ob A Qm n0 ad0 pc L st kc ks g := by
  unfold dz_bl at h
  split at h
  · rename_i y x st'
    refine dz_pure (st1 := .inl (dz_lcmp x y) :: st') (fun h1 _ _ => dz_okc (show dz_okV _ (.inl (dz_lcmp x y)) from dz_lcmp_in x y) (dz_okt (dz_okt h1))) (fun ls H locs ad Z w => W.lcmp C.1 C.2.1 hd ?_) h
    rw [← dz_lcmp_ok (dz_ok1 (dz_okt Z.2.2.1)) (dz_ok1 Z.2.2.1)]
    exact w
  · exact h.elim
theorem dzs_i2l (C : dz_ctx p s m args meth cd cc own nL D aC ob xo A) (hd : decode cc pc = .ok (.i2l, 1))
    (h : dz_ui st fun x st => dz_Wp p l e R s m args below meth cd nL D aC ob A Qm n0 ad0 (pc + 1) L (.inr (.inl x) :: st) kc ks g) : dz_Wp p l e R s m args below meth cd nL D aC ob A Qm n0 ad0 pc L st kc ks g := by
  unfold dz_ui at h
  split at h
  · rename_i x st'
    exact dz_pure (fun h1 _ _ => dz_okc (show dz_okV _ (.inr (.inl x)) from dz_in32_64 (dz_ok1 h1)) (dz_okt h1)) (fun ls H locs ad Z w => lv_i2l C.1 C.2.1 hd (dz_i2l (dz_ok1 Z.2.2.1)) w) h
  · exact h.elim
theorem dzs_l2i (C : dz_ctx p s m args meth cd cc own nL D aC ob xo A) (hd : decode cc pc = .ok (.l2i, 1))
    (h : dz_ul st fun x st => dz_Wp p l e R s m args below meth cd nL D aC ob A Qm n0 ad0 (pc + 1) L (.inl (dz_w x) :: st) kc ks g) : dz_Wp p l e R s m args below meth cd nL D aC ob A Qm n0 ad0 pc L st kc ks g := by
  unfold dz_ul at h
  split at h
  · rename_i x st'
    exact dz_pure (fun h1 _ _ => dz_okc (show dz_okV _ (.inl (dz_w x)) from dz_w_in x) (dz_okt h1)) (fun ls H locs ad Z w => lv_l2i C.1 C.2.1 hd (dz_l2i x) w) h
  · exact h.elim
theorem dzs_i2b (C : dz_ctx p s m args meth cd cc own nL D aC ob xo A) (hd : decode cc pc = .ok (.i2b, 1))
    (h : dz_ui st fun x st => dz_Wp p l e R s m args below meth cd nL D aC ob A Qm n0 ad0 (pc + 1) L (.inl (dz_b x) :: st) kc ks g) : dz_Wp p l e R s m args below meth cd nL D aC ob A Qm n0 ad0 pc L st kc ks g := by
  unfold dz_ui at h
  split at h
  · rename_i x st'
    exact dz_pure (fun h1 _ _ => dz_okc (show dz_okV _ (.inl (dz_b x)) from dz_b_in x) (dz_okt h1)) (fun ls H locs ad Z w => lv_i2b C.1 C.2.1 hd (dz_i2b (dz_ok1 Z.2.2.1)) w) h
  · exact h.elim
theorem dzs_dup (C : dz_ctx p s m args meth cd cc own nL D aC ob xo A) (hd : decode cc pc = .ok (.dup, 1)) {x : dz_V} {st : List dz_V} (hx : dz_cat x = 1)
    (h : dz_Wp p l e R s m args below meth cd nL D aC ob A Qm n0 ad0 (pc + 1) L (x :: x :: st) kc ks g) : dz_Wp p l e R s m args below meth cd nL D aC ob A Qm n0 ad0 pc L (x :: st) kc ks g :=
  dz_pure (fun h1 _ _ => dz_okc (dz_ok1 h1) h1) (fun ls H locs ad Z w => lv_dup C.1 C.2.1 hd (by rw [dz_cat_ok]; exact hx) w) h
theorem dzs_pop (C : dz_ctx p s m args meth cd cc own nL D aC ob xo A) (hd : decode cc pc = .ok (.pop, 1)) {x : dz_V} {st : List dz_V} (hx : dz_cat x = 1)
    (h : dz_Wp p l e R s m args below meth cd nL D aC ob A Qm n0 ad0 (pc + 1) L st kc ks g) : dz_Wp p l e R s m args below meth cd nL D aC ob A Qm n0 ad0 pc L (x :: st) kc ks g :=
  dz_pure (fun h1 _ _ => dz_okt h1) (fun ls H locs ad Z w => lv_pop C.1 C.2.1 hd (by rw [dz_cat_ok]; exact hx) w) h
theorem dzs_dup2 (C : dz_ctx p s m args meth cd cc own nL D aC ob xo A) (hd : decode cc pc = .ok (.dup2, 1))
    (h : dz_dup2 st fun st => dz_Wp p l e R s m args below meth cd nL D aC ob A Qm n0 ad0 (pc + 1) L st kc ks g) : dz_Wp p l e R s m args below meth cd nL D aC ob A Qm n0 ad0 pc L st kc ks g := by
  unfold dz_dup2 at h
  split at h
  · exact dz_pure (fun h1 _ _ => dz_okc (dz_ok1 h1) h1) (fun ls H locs ad Z w => lv_dup2_2 C.1 C.2.1 hd rfl w) h
  · obtain ⟨a, b, h⟩ := h
    exact dz_pure (fun h1 _ _ => dz_okc (dz_ok1 h1) (dz_okc (dz_ok1 (dz_okt h1)) h1)) (fun ls H locs ad Z w => lv_dup2_11 C.1 C.2.1 hd (by rw [dz_cat_ok]; exact a) (by rw [dz_cat_ok]; exact b) w) h
  · exact h.elim
theorem dz_tgt_ok {pc : Nat} {o : Int} (h : 0 ≤ (pc : Int) + o) : (pc : Int) + o = (dz_tgt pc o : Int) := (Int.toNat_of_nonneg h).symm
theorem dzs_goto (C : dz_ctx p s m args meth cd cc own nL D aC ob xo A) {o : Int} (hd : decode cc pc = .ok (.goto o, 3)) (ho : 0 ≤ (pc : Int) + o)
    (h : dz_Wp p l e R s m args below meth cd nL D aC ob A Qm n0 ad0 (dz_tgt pc o) L st kc ks g) : dz_Wp p l e R s m args below meth cd nL D aC ob A Qm n0 ad0 pc L st kc ks g :=
  dz_pure (fun h1 _ _ => h1) (fun ls H locs ad Z w => lv_goto C.1 C.2.1 hd (dz_tgt_ok ho) w) h
theorem dzs_if_icmp (C : dz_ctx p s m args meth cd cc own nL D aC ob xo A) {cn : ClassFile.Cond} {o : Int} (hd : decode cc pc = .ok (.if_icmp cn o, 3)) (ho : 0 ≤ (pc : Int) + o)
    (h : dz_bi st fun x y st => (dz_cmp cn x y → dz_Wp p l e R s m args below meth cd nL D aC ob A Qm n0 ad0 (dz_tgt pc o) L st kc ks g) ∧ (¬ dz_cmp cn x y → dz_Wp p l e R s m args below meth cd nL D aC ob A Qm n0 ad0 (pc + 3) L st kc ks g)) : dz_Wp p l e R s m args below meth cd nL D aC ob A Qm n0 ad0 pc L st kc ks g := by
  unfold dz_bi at h
  split at h
  · rename_i y x st'
    intro hn ls H locs ad had Z
    have hy : dz_in32 y := dz_ok1 Z.2.2.1
    have hx : dz_in32 x := dz_ok1 (dz_okt Z.2.2.1)
    have Z2 : dz_Z s nL D aC ob A L st' g ls H locs ad := ⟨Z.1, Z.2.1, dz_okt (dz_okt Z.2.2.1), Z.2.2.2⟩
    have k1 : dz_cmp cn x y → W p l e R s m args below meth cd H locs kc ks Qm (F0 m (dz_tgt pc o) ls (st'.map (dz_cv ad ob))) := fun z => h.1 z hn ls H locs ad had Z2
    have k2 : ¬ dz_cmp cn x y → W p l e R s m args below meth cd H locs kc ks Qm (F0 m (pc + 3) ls (st'.map (dz_cv ad ob))) := fun z => h.2 z hn ls H locs ad had Z2
    cases cn with
    | eq => exact lv_icmp_eq C.1 C.2.1 hd (dz_tgt_ok ho) (fun z => k1 ((dz_ieq hx hy).mp z)) (fun z => k2 (fun w => z ((dz_ieq hx hy).mpr w)))
    | ne => exact lv_icmp_ne C.1 C.2.1 hd (dz_tgt_ok ho) (fun z => k1 (fun w => z ((dz_ieq hx hy).mpr w))) (fun z => k2 (fun w => w ((dz_ieq hx hy).mp z)))
    | lt => exact lv_icmp_lt C.1 C.2.1 hd (dz_tgt_ok ho) (fun z => k1 ((dz_ilt hx hy).mp z)) (fun z => k2 (fun w => z ((dz_ilt hx hy).mpr w)))
    | ge => exact lv_icmp_ge C.1 C.2.1 hd (dz_tgt_ok ho) (fun z => k1 ((dz_ile hy hx).mp z)) (fun z => k2 (fun w => z ((dz_ile hy hx).mpr w)))
    | gt => exact lv_icmp_gt C.1 C.2.1 hd (dz_tgt_ok ho) (fun z => k1 ((dz_ilt hy hx).mp z)) (fun z => k2 (fun w => z ((dz_ilt hy hx).mpr w)))
    | le => exact lv_icmp_le C.1 C.2.1 hd (dz_tgt_ok ho) (fun z => k1 ((dz_ile hx hy).mp z)) (fun z => k2 (fun w => z ((dz_ile hx hy).mpr w)))
  · exact h.elim
theorem dzs_if (C : dz_ctx p s m args meth cd cc own nL D aC ob xo A) {cn : ClassFile.Cond} {o : Int} (hd : decode cc pc = .ok (.ifCond cn o, 3)) (ho : 0 ≤ (pc : Int) + o)
    (h : dz_ui st fun x st => (dz_cmp cn x 0 → dz_Wp p l e R s m args below meth cd nL D aC ob A Qm n0 ad0 (dz_tgt pc o) L st kc ks g) ∧ (¬ dz_cmp cn x 0 → dz_Wp p l e R s m args below meth cd nL D aC ob A Qm n0 ad0 (pc + 3) L st kc ks g)) : dz_Wp p l e R s m args below meth cd nL D aC ob A Qm n0 ad0 pc L st kc ks g := by
  unfold dz_ui at h
  split at h
  · rename_i x st'
    intro hn ls H locs ad had Z
    have hx : dz_in32 x := dz_ok1 Z.2.2.1
    have hy : dz_in32 0 := by unfold dz_in32; omega
    have Z2 : dz_Z s nL D aC ob A L st' g ls H locs ad := ⟨Z.1, Z.2.1, dz_okt Z.2.2.1, Z.2.2.2⟩
    have k1 : dz_cmp cn x 0 → W p l e R s m args below meth cd H locs kc ks Qm (F0 m (dz_tgt pc o) ls (st'.map (dz_cv ad ob))) := fun z => h.1 z hn ls H locs ad had Z2
    have k2 : ¬ dz_cmp cn x 0 → W p l e R s m args below meth cd H locs kc ks Qm (F0 m (pc + 3) ls (st'.map (dz_cv ad ob))) := fun z => h.2 z hn ls H locs ad had Z2
    cases cn with
    | eq => exact lv_if_eq C.1 C.2.1 hd (dz_tgt_ok ho) (fun z => k1 ((dz_ieq hx hy).mp z)) (fun z => k2 (fun w => z ((dz_ieq hx hy).mpr w)))
    | ne => exact lv_if_ne C.1 C.2.1 hd (dz_tgt_ok ho) (fun z => k1 (fun w => z ((dz_ieq hx hy).mpr w))) (fun z => k2 (fun w => w ((dz_ieq hx hy).mp z)))
    | lt => exact lv_if_lt C.1 C.2.1 hd (dz_tgt_ok ho) (fun z => k1 ((dz_ilt hx hy).mp z)) (fun z => k2 (fun w => z ((dz_ilt hx hy).mpr w)))
    | ge => exact lv_if_ge C.1 C.2.1 hd (dz_tgt_ok ho) (fun z => k1 ((dz_ile hy hx).mp z)) (fun z => k2 (fun w => z ((dz_ile hy hx).mpr w)))
    | gt => exact lv_if_gt C.1 C.2.1 hd (dz_tgt_ok ho) (fun z => k1 ((dz_ilt hy hx).mp z)) (fun z => k2 (fun w => z ((dz_ilt hy hx).mpr w)))
    | le => exact lv_if_le C.1 C.2.1 hd (dz_tgt_ok ho) (fun z => k1 ((dz_ile hx hy).mp z)) (fun z => k2 (fun w => z ((dz_ile hx hy).mpr w)))
  · exact h.elim
theorem dzs_table (C : dz_ctx p s m args meth cd cc own nL D aC ob xo A) {d lo hi : Int} {os : Array Int} {n : Nat} (hd : decode cc pc = .ok (.tableswitch d lo hi os, n)) (ho : 0 ≤ (pc : Int) + d ∧ ∀ (k : Nat) (o : Int), os[k]? = some o → 0 ≤ (pc : Int) + o)
    (h : dz_ui st fun x st => (x < lo ∨ hi < x → dz_Wp p l e R s m args below meth cd nL D aC ob A Qm n0 ad0 (dz_tgt pc d) L st kc ks g) ∧ (lo ≤ x → x ≤ hi → ∃ o, os[(x - lo).toNat]? = some o ∧ dz_Wp p l e R s m args below meth cd nL D aC ob A Qm n0 ad0 (dz_tgt pc o) L st kc ks g)) : dz_Wp p l e R s m args below meth cd nL D aC ob A Qm n0 ad0 pc L st kc ks g := by
  unfold dz_ui at h
  split at h
  · rename_i x st'
    intro hn ls H locs ad had Z
    have hx : dz_in32 x := dz_ok1 Z.2.2.1
    have Z2 : dz_Z s nL D aC ob A L st' g ls H locs ad := ⟨Z.1, Z.2.1, dz_okt Z.2.2.1, Z.2.2.2⟩
    by_cases hc : x < lo ∨ hi < x
    · exact lv_tableOut C.1 C.2.1 hd (by rw [dz_tI hx]; exact hc) (dz_tgt_ok ho.1) (h.1 hc hn ls H locs ad had Z2)
    · obtain ⟨o, h1, h2⟩ := h.2 (by omega) (by omega)
      exact lv_tableIn C.1 C.2.1 hd (by rw [dz_tI hx]; omega) (by rw [dz_tI hx]; omega) (by rw [dz_tI hx]; exact h1) (dz_tgt_ok (ho.2 _ _ h1)) (h2 hn ls H locs ad had Z2)
  · exact h.elim
end DZT
