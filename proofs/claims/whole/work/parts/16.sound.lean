/-! All rows together: the small machine's runs are the real machine's. -/
def dz_w0 : List Cond := [.native arraycopyName, .static arraycopyName, .initialized "java/lang/System", .instanceMethod Lib.objectInit, .code Lib.objectInit ⟨#[0xb1]⟩ 1 none, .arrayClass .int, .arrayClass .long, .arrayClass .byte]
set_option maxRecDepth 100000 in
theorem dz_w0_in : ∀ w ∈ dz_w0, w ∈ dz_T := dz_T_of (by decide +kernel)
def dz_wc (ci : Nat) : List Cond := [.instantiable (dz_cC ci) (dz_nf ci), .initialized (dz_cC ci)]
set_option maxRecDepth 100000 in
theorem dz_wc_in {ci : Nat} (h : ci < 7) : ∀ w ∈ dz_wc ci, w ∈ dz_T := dz_lt7 (P := fun ci => ∀ w ∈ dz_wc ci, w ∈ dz_T) (dz_T_of (by decide +kernel)) (dz_T_of (by decide +kernel)) (dz_T_of (by decide +kernel)) (dz_T_of (by decide +kernel)) (dz_T_of (by decide +kernel)) (dz_T_of (by decide +kernel)) (dz_T_of (by decide +kernel)) h
def dz_callsK (l : Launch) (D : va_G) (aC : Nat → ClassId) (ob : Nat → Nat) (xo : Nat → List Int) (d : Nat) (cal : dz_C) : Prop :=
  ∀ (j : Nat) (vs : List dz_V) (g : dz_G) (F : dz_Q), (dz_nk j).1 < 3 → cal j vs g F → dz_Met l (dz_yy j).1 (dz_yy j).2.1 (dz_pp j).2.1 (dz_yy j).2.2 (dz_rm d j) (dz_pp j).2.2.1 (dz_pp j).2.2.2.1 D aC ob xo vs g F
section DZO
variable {p : Program} {l : Launch} {e : Env} {R : Room} {s : State} {m : MethodId} {args : Array Value} {below : List Frame} {meth : Method} {cd : Code} {cc : ByteArray} {own : String} {nL : Nat} {D : va_G} {aC : Nat → ClassId} {ob : Nat → Nat} {xo : Nat → List Int} {A : Nat → Prop} {Qm : State → Prop} {n0 : Nat} {ad0 : Nat → Nat}
theorem dz_sound_op (C : dz_ctx p s m args meth cd cc own nL D aC ob xo A) {P : dz_P} {d : Nat} {cal : dz_C} {F : dz_Q} {mn : String} (hcal : dz_callsK l D aC ob xo d cal) (hmk : ∀ j, (dz_nk j).1 < 3 → dz_mk j = true) (hR : d + 1 ≤ R.frames ∧ 64 * (d + 1) ≤ R.locals) (hRc : P.2.2.1 ≤ R.cells) (hRs : P.2.2.2.1 ≤ R.slots) (hmn : meth.name = mn)
    (hret : ∀ (pc : Nat) (L : dz_L) (st : List dz_V) (kc ks : Nat) (g : dz_G) (i : Instr), (i = .ireturn ∨ i = .lreturn ∨ i = .return_) → ((P.2.2.2.2 = 0 → i = .return_) ∧ (P.2.2.2.2 = 1 → i = .ireturn) ∧ (P.2.2.2.2 = 2 → i = .ireturn) ∧ (P.2.2.2.2 = 3 → i = .lreturn)) → decode cc pc = .ok (i, 1) → kc ≤ P.2.2.1 → ks ≤ P.2.2.2.1 → (dz_ret P.2.2.2.2 st fun r => F r g) → dz_Wp p l e R s m args below meth cd nL D aC ob A Qm n0 ad0 pc L st kc ks g)
    {pc kc ks : Nat} {L : dz_L} {st : List dz_V} {g : dz_G} {i : Instr} {v : Int} {a b w : Nat} (hck : dz_ck own mn cc P.2.2.2.2 (pc, i, v, a, b, w) = true)
    (h : dz_op cal dz_pp xo P F (dz_Wp p l e R s m args below meth cd nL D aC ob A Qm n0 ad0) pc L st kc ks g i v a b) : dz_Wp p l e R s m args below meth cd nL D aC ob A Qm n0 ad0 pc L st kc ks g := by
  unfold dz_ck at hck
  simp only [Bool.and_eq_true, decide_eq_true_eq] at hck
  obtain ⟨hd, hk⟩ := hck
  have h64 : 1 ≤ R.frames ∧ 64 ≤ R.locals := ⟨by omega, by omega⟩
  have hT := C.2.2.2.2.1
  cases i with
  | aload_n k => exact dzs_aload C (Or.inl ⟨k, rfl, hd, rfl⟩) h
  | aload k => exact dzs_aload C (Or.inr ⟨hd, rfl⟩) h
  | iload_n k => exact dzs_iload C (Or.inl ⟨k, rfl, hd, rfl⟩) h
  | iload k => exact dzs_iload C (Or.inr ⟨hd, rfl⟩) h
  | lload_n k => exact dzs_lload C (Or.inl ⟨k, rfl, hd, rfl⟩) h
  | lload k => exact dzs_lload C (Or.inr ⟨hd, rfl⟩) h
  | istore_n k => exact dzs_istore C (Or.inl ⟨k, rfl, hd, rfl⟩) h
  | istore k => exact dzs_istore C (Or.inr ⟨hd, rfl⟩) h
  | lstore_n k => exact dzs_lstore C (Or.inl ⟨k, rfl, hd, rfl⟩) h
  | lstore k => exact dzs_lstore C (Or.inr ⟨hd, rfl⟩) h
  | astore_n k => exact dzs_astore C hd h
  | iconst n =>
    have hk : -1 ≤ n ∧ n ≤ 5 := of_decide_eq_true hk
    exact dzs_iconst C hd (by unfold dz_in32; omega) h
  | bipush n => exact dzs_bipush C hd (of_decide_eq_true hk) h
  | sipush n =>
    have hk : (decide ((Int16.ofInt n).toInt32 = Int32.ofInt n) && decide (-32768 ≤ n ∧ n ≤ 32767)) = true := hk
    simp only [Bool.and_eq_true, decide_eq_true_eq] at hk
    exact dzs_sipush C hd ⟨hk.1, by unfold dz_in32; omega⟩ h
  | lconst n => exact dzs_lconst C hd h
  | ldc n =>
    have hk : (decide (-2147483648 ≤ v ∧ v < 2147483648) && dz_gw w (.constant own n (Int32.ofInt v))) = true := hk
    rw [Bool.and_eq_true, decide_eq_true_eq] at hk
    exact dzs_ldc C hk.1 (hT _ (dz_gw_ok hk.2)) (Or.inl ⟨hd, rfl⟩) h
  | ldc_w n =>
    have hk : (decide (-2147483648 ≤ v ∧ v < 2147483648) && dz_gw w (.constant own n (Int32.ofInt v))) = true := hk
    rw [Bool.and_eq_true, decide_eq_true_eq] at hk
    exact dzs_ldc C hk.1 (hT _ (dz_gw_ok hk.2)) (Or.inr ⟨hd, rfl⟩) h
  | ldc2_w n =>
    have hk : (decide (-9223372036854775808 ≤ v ∧ v < 9223372036854775808) && dz_gw w (.constantLong own n (Int64.ofInt v))) = true := hk
    rw [Bool.and_eq_true, decide_eq_true_eq] at hk
    exact dzs_ldc2 C hk.1 (hT _ (dz_gw_ok hk.2)) hd h
  | iadd => exact dzs_iadd C hd h
  | isub => exact dzs_isub C hd h
  | imul => exact dzs_imul C hd h
  | idiv => exact dzs_idiv C hd h
  | irem => exact dzs_irem C hd h
  | iand => exact dzs_iand C hd h
  | ior => exact dzs_ior C hd h
  | ixor => exact dzs_ixor C hd h
  | ishl => exact dzs_ishl C hd h
  | ishr => exact dzs_ishr C hd h
  | ladd => exact dzs_ladd C hd h
  | lmul => exact dzs_lmul C hd h
  | ldiv => exact dzs_ldiv C hd h
  | lrem => exact dzs_lrem C hd h
  | lcmp => exact dzs_lcmp C hd h
  | i2l => exact dzs_i2l C hd h
  | l2i => exact dzs_l2i C hd h
  | i2b => exact dzs_i2b C hd h
  | dup => cases st with
    | nil => exact h.elim
    | cons x st => exact dzs_dup C hd h.1 h.2
  | dup2 => exact dzs_dup2 C hd h
  | pop => cases st with
    | nil => exact h.elim
    | cons x st => exact dzs_pop C hd h.1 h.2
  | iinc k n => exact dzs_iinc C hd h
  | getfield n =>
    have hk : (decide (a < 7) && decide (b < dz_nf a) && dz_flk own n a b w v) = true := hk
    simp only [Bool.and_eq_true, decide_eq_true_eq] at hk
    exact dzs_getfield C hk.1.1 hk.1.2 (dz_fl_ok C hk.2) hd h
  | putfield n =>
    have hk : (decide (a < 7) && decide (b < dz_nf a) && (if (dz_cT a b).2.2.2 = true then decide (v = 0) && decide (mn = "<init>") && decide ((dz_cT a b).1 = own) && dz_flk own n a b w v else dz_flk own n a b w v)) = true := hk
    simp only [Bool.and_eq_true, decide_eq_true_eq] at hk
    unfold dz_op at h
    dsimp only at h
    split at h
    · rename_i x q st'
      have hp : dz_fp own n a b args s meth := by
        obtain ⟨⟨k1, k2⟩, k3⟩ := hk
        split at k3
        · rename_i hf
          simp only [Bool.and_eq_true, decide_eq_true_eq] at k3
          obtain ⟨⟨⟨j1, j2⟩, j3⟩, j4⟩ := k3
          unfold dz_flk at j4
          rw [if_neg (by rw [j1]; decide)] at j4
          exact Or.inr ⟨hf, hmn.trans j2, j3, hT _ (dz_gw_ok j4)⟩
        · rename_i hf
          exact Or.inl ⟨by simpa using hf, dz_fl_ok C k3⟩
      exact dzs_putfield C hk.1.1 hk.1.2 hp hd h.1 h.2
    · exact h.elim
  | getstatic n =>
    have hk : (decide (a = 1 ∨ a = 2) && (if v = 2 then dz_wd w (.fieldLinkNest own n RX5 (dz_sn a) "[I" RX5) else dz_gw w (.fieldLink own n RX5 (dz_sn a) "[I"))) = true := hk
    rw [Bool.and_eq_true, decide_eq_true_eq] at hk
    refine dzs_getstatic C hd hk.1 ?_ h
    obtain ⟨-, k2⟩ := hk
    split at k2
    · exact Or.inr ⟨RX5, va_Nw.use rfl (C.2.2.2.2.2.2.2.1.1 _ (dz_wd_ok k2) rfl)⟩
    · exact Or.inl (hT _ (dz_gw_ok k2))
  | iaload =>
    have h : dz_ui st fun i st => match st with
      | .inr (.inr (.inl q)) :: st => dz_el g 0 q i fun k => dz_Wp p l e R s m args below meth cd nL D aC ob A Qm n0 ad0 (pc + 1) L (.inl (g.2.2 q k) :: st) kc ks g
      | .inr (.inr (.inr o)) :: st => 0 ≤ i ∧ i < (xo o).length ∧ dz_Wp p l e R s m args below meth cd nL D aC ob A Qm n0 ad0 (pc + 1) L (.inl ((xo o).getD i.toNat 0) :: st) kc ks g
      | _ => False := h
    unfold dz_ui at h
    split at h
    · split at h
      · exact dzs_ialoadw C hd h
      · exact dzs_ialoado C hd h.1 h.2.1 h.2.2
      · exact h.elim
    · exact h.elim
  | baload =>
    have h : dz_ui st fun i st => dz_uq st fun q st => dz_el g 2 q i fun k => dz_Wp p l e R s m args below meth cd nL D aC ob A Qm n0 ad0 (pc + 1) L (.inl (g.2.2 q k) :: st) kc ks g := h
    unfold dz_ui at h
    split at h
    · unfold dz_uq at h
      split at h
      · exact dzs_baloadw C hd h
      · exact h.elim
    · exact h.elim
  | laload =>
    have h : dz_ui st fun i st => dz_uq st fun q st => dz_el g 1 q i fun k => dz_Wp p l e R s m args below meth cd nL D aC ob A Qm n0 ad0 (pc + 1) L (.inr (.inl (g.2.2 q k)) :: st) kc ks g := h
    unfold dz_ui at h
    split at h
    · unfold dz_uq at h
      split at h
      · exact dzs_laloadw C hd h
      · exact h.elim
    · exact h.elim
  | aaload =>
    have h : dz_ui st fun i st => dz_uq st fun q st => ∃ t, (t = 3 ∨ t = 4 ∨ t = 5) ∧ dz_el g t q i fun k => match g.2.1 q k with
      | 0 => False
      | r + 1 => dz_Wp p l e R s m args below meth cd nL D aC ob A Qm n0 ad0 (pc + 1) L (.inr (.inr (.inl r)) :: st) kc ks g := h
    unfold dz_ui at h
    split at h
    · unfold dz_uq at h
      split at h
      · obtain ⟨t, ht, h⟩ := h
        exact dzs_aaload C hd ht h
      · exact h.elim
    · exact h.elim
  | iastore =>
    have h : dz_ui st fun x st => dz_ui st fun i st => dz_uq st fun q st => dz_el g 0 q i fun k => dz_Wp p l e R s m args below meth cd nL D aC ob A Qm n0 ad0 (pc + 1) L st kc ks (g.1, g.2.1, dz_up g.2.2 q k x) := h
    unfold dz_ui at h
    split at h
    · split at h
      · unfold dz_uq at h
        split at h
        · exact dzs_iastore C hd h
        · exact h.elim
      · exact h.elim
    · exact h.elim
  | bastore =>
    have h : dz_ui st fun x st => dz_ui st fun i st => dz_uq st fun q st => dz_el g 2 q i fun k => dz_Wp p l e R s m args below meth cd nL D aC ob A Qm n0 ad0 (pc + 1) L st kc ks (g.1, g.2.1, dz_up g.2.2 q k (dz_b x)) := h
    unfold dz_ui at h
    split at h
    · split at h
      · unfold dz_uq at h
        split at h
        · exact dzs_bastore C hd h
        · exact h.elim
      · exact h.elim
    · exact h.elim
  | lastore =>
    have h : dz_ul st fun x st => dz_ui st fun i st => dz_uq st fun q st => dz_el g 1 q i fun k => dz_Wp p l e R s m args below meth cd nL D aC ob A Qm n0 ad0 (pc + 1) L st kc ks (g.1, g.2.1, dz_up g.2.2 q k x) := h
    unfold dz_ul at h
    split at h
    · unfold dz_ui at h
      split at h
      · unfold dz_uq at h
        split at h
        · exact dzs_lastore C hd h
        · exact h.elim
      · exact h.elim
    · exact h.elim
  | aastore =>
    have h : dz_uq st fun r st => dz_ui st fun i st => dz_uq st fun q st => g.1[r]? = some (.inl 0) ∧ dz_el g 3 q i fun k => dz_Wp p l e R s m args below meth cd nL D aC ob A Qm n0 ad0 (pc + 1) L st kc ks (g.1, dz_up g.2.1 q k (r + 1), g.2.2) := h
    unfold dz_uq at h
    split at h
    · unfold dz_ui at h
      split at h
      · split at h
        · exact dzs_aastore C hd h.1 h.2
        · exact h.elim
      · exact h.elim
    · exact h.elim
  | arraylength =>
    unfold dz_op at h
    dsimp only at h
    split at h
    · obtain ⟨t, n, h1, h2⟩ := h
      exact dzs_alenw C hd h1 h2
    · exact dzs_aleno C hd h
    · exact h.elim
  | new n =>
    have hk : (decide (a < 7) && decide (b = dz_nf a) && dz_gw w (.classLink own n (dz_cC a))) = true := hk
    simp only [Bool.and_eq_true, decide_eq_true_eq] at hk
    obtain ⟨h1, h2, h⟩ := h
    exact dzs_new C hk.1.1 hk.1.2 (hT _ (dz_gw_ok hk.2)) (hT _ (dz_wc_in hk.1.1 _ List.mem_cons_self)) (hT _ (dz_wc_in hk.1.1 _ (List.mem_cons_of_mem _ List.mem_cons_self))) hd (by omega) (by omega) h
  | newarray t =>
    have h : dz_ui st fun n st => dz_at t < 3 ∧ 0 ≤ n ∧ n ≤ 60000 ∧ kc + 1 ≤ P.2.2.1 ∧ ks + n.toNat ≤ P.2.2.2.1 ∧ dz_Wp p l e R s m args below meth cd nL D aC ob A Qm n0 ad0 (pc + 2) L (.inr (.inr (.inl g.1.length)) :: st) (kc + 1) (ks + n.toNat) (dz_new g (.inr (dz_at t, n.toNat))) := h
    unfold dz_ui at h
    split at h
    · obtain ⟨h1, h2, h3, h4, h5, h⟩ := h
      have hw : Cond.arrayClass (dz_ty (dz_at t)) ∈ dz_T := by
        generalize dz_at t = t' at h1
        match t', h1 with
        | 0, _ => exact dz_w0_in _ (by unfold dz_w0; simp [dz_ty])
        | 1, _ => exact dz_w0_in _ (by unfold dz_w0; simp [dz_ty])
        | 2, _ => exact dz_w0_in _ (by unfold dz_w0; simp [dz_ty])
      exact dzs_newarray C (hT _ hw) hd h1 h2 h3 (by omega) (by omega) h
    · exact h.elim
  | anewarray t =>
    have h : dz_ui st fun n st => 0 ≤ n ∧ n ≤ 60000 ∧ kc + 1 ≤ P.2.2.1 ∧ ks + n.toNat ≤ P.2.2.2.1 ∧ dz_Wp p l e R s m args below meth cd nL D aC ob A Qm n0 ad0 (pc + 3) L (.inr (.inr (.inl g.1.length)) :: st) (kc + 1) (ks + n.toNat) (dz_new g (.inr (3, n.toNat))) := h
    unfold dz_ui at h
    split at h
    · obtain ⟨h2, h3, h4, h5, h⟩ := h
      exact dzs_anewarray C (hT _ (dz_gw_ok hk)) hd h2 h3 (by omega) (by omega) h
    · exact h.elim
  | multianewarray t dm =>
    have hk : (decide (dm = 2) && decide ((a = 4 ∧ b = 0) ∨ (a = 5 ∧ b = 2)) && dz_gw w (.classLink own t ("[" ++ (dz_ty a).toString))) = true := hk
    simp only [Bool.and_eq_true, decide_eq_true_eq] at hk
    obtain ⟨⟨k1, k2⟩, k3⟩ := hk
    subst k1
    have h : dz_bi st fun n mm st => 0 ≤ n ∧ n ≤ 60000 ∧ 0 ≤ mm ∧ mm ≤ 60000 ∧ kc + (1 + n.toNat) ≤ P.2.2.1 ∧ ks + (n.toNat + n.toNat * mm.toNat) ≤ P.2.2.2.1 ∧ dz_Wp p l e R s m args below meth cd nL D aC ob A Qm n0 ad0 (pc + 4) L (.inr (.inr (.inl g.1.length)) :: st) (kc + 1 + n.toNat) (ks + n.toNat + n.toNat * mm.toNat) (dz_mna g a b n.toNat mm.toNat) := h
    unfold dz_bi at h
    split at h
    · obtain ⟨h1, h2, h3, h4, h5, h6, h⟩ := h
      have hw : Cond.arrayClass (dz_ty b) ∈ dz_T := by
        rcases k2 with ⟨-, rfl⟩ | ⟨-, rfl⟩
        · exact dz_w0_in _ (by unfold dz_w0; simp [dz_ty])
        · exact dz_w0_in _ (by unfold dz_w0; simp [dz_ty])
      exact dzs_multi C k2 (hT _ (dz_gw_ok k3)) (hT _ hw) hd h1 h2 h3 h4 (by omega) (Nat.le_trans h6 hRs) h
    · exact h.elim
  | goto o => exact dzs_goto C hd (of_decide_eq_true hk) h
  | if_icmp cn o => exact dzs_if_icmp C hd (of_decide_eq_true hk) h
  | ifCond cn o => exact dzs_if C hd (of_decide_eq_true hk) h
  | tableswitch dd lo hi os =>
    have hk : (decide (0 ≤ (pc : Int) + dd) && os.toList.all (fun o => decide (0 ≤ (pc : Int) + o))) = true := hk
    rw [Bool.and_eq_true, decide_eq_true_eq] at hk
    refine dzs_table C hd ⟨hk.1, fun k o ho => ?_⟩ h
    have := List.all_eq_true.mp hk.2 o (Array.mem_toList_iff.mpr (Array.mem_of_getElem? ho))
    exact of_decide_eq_true this
  | ireturn =>
    have hk : P.2.2.2.2 = 1 ∨ P.2.2.2.2 = 2 := of_decide_eq_true hk
    exact hret pc L st kc ks g _ (Or.inl rfl) ⟨fun z => by omega, fun _ => rfl, fun _ => rfl, fun z => by omega⟩ hd h.1 h.2.1 h.2.2
  | lreturn =>
    have hk : P.2.2.2.2 = 3 := of_decide_eq_true hk
    exact hret pc L st kc ks g _ (Or.inr (Or.inl rfl)) ⟨fun z => by omega, fun z => by omega, fun z => by omega, fun _ => rfl⟩ hd h.1 h.2.1 h.2.2
  | return_ =>
    have hk : P.2.2.2.2 = 0 := of_decide_eq_true hk
    exact hret pc L st kc ks g _ (Or.inr (Or.inr rfl)) ⟨fun _ => rfl, fun z => by omega, fun z => by omega, fun z => by omega⟩ hd h.1 h.2.1 h.2.2
  | invokestatic n =>
    have hk : (if v = 1 then dz_gw w (.methodLink own n arraycopyName) else decide ((dz_nk a) = (0, b)) && dz_mlk own n a w v) = true := hk
    unfold dz_op at h
    dsimp only at h
    split at h
    · rw [if_pos rfl] at hk
      exact dzs_copy C (hT _ (dz_gw_ok hk)) (hT _ (dz_w0_in _ (by unfold dz_w0; simp))) (hT _ (dz_w0_in _ (by unfold dz_w0; simp))) (hT _ (dz_w0_in _ (by unfold dz_w0; simp))) h64 hd h
    · rename_i hv
      rw [if_neg (fun z => hv z), Bool.and_eq_true, decide_eq_true_eq] at hk
      obtain ⟨h1, h2, h3, h4, h5⟩ := h
      have hj : (dz_nk a).1 < 3 := by rw [hk.1]; show _ < 3; omega
      exact dzs_callS C (hmk a hj) (hcal a _ _ _ hj h5) hk.1 hk.2 hR hd h1 h2 (by omega) (by omega) (fun r g' z => z)
  | invokevirtual n =>
    have hk : (decide ((dz_nk a) = (1, b)) && decide (0 ≤ v ∧ v < 28) && decide (dz_cC (v / 4).toNat = (dz_yy a).1.cls) && dz_mlk own n a w (v % 4)) = true := hk
    simp only [Bool.and_eq_true, decide_eq_true_eq] at hk
    obtain ⟨⟨⟨k1, k2⟩, k3⟩, k4⟩ := hk
    obtain ⟨h1, h2, h3, h4, ⟨q, h5, h6⟩, h7⟩ := h
    have hj : (dz_nk a).1 < 3 := by rw [k1]; show _ < 3; omega
    exact dzs_callV C (hmk a hj) (hcal a _ _ _ hj h7) k1 (by omega) k3 k4 hR hd h5 h6 h2 (by omega) (by omega) (fun r g' z => z)
  | invokespecial n =>
    have hk : (if v = 1 then dz_gw w (.methodLink own n Lib.objectInit) else decide ((dz_nk a) = (2, b)) && dz_mlk own n a w v) = true := hk
    unfold dz_op at h
    dsimp only at h
    split at h
    · rw [if_pos rfl] at hk
      unfold dz_uq at h
      split at h
      · exact dzs_objInit C (hT _ (dz_gw_ok hk)) (hT _ (dz_w0_in _ (by unfold dz_w0; simp))) (hT _ (dz_w0_in _ (by unfold dz_w0; simp))) h64 hd h.1 h.2
      · exact h.elim
    · rename_i hv
      rw [if_neg (fun z => hv z), Bool.and_eq_true, decide_eq_true_eq] at hk
      obtain ⟨h1, h2, h3, h4, ⟨q, h5⟩, h7⟩ := h
      have hj : (dz_nk a).1 < 3 := by rw [hk.1]; show _ < 3; omega
      exact dzs_callI C (hmk a hj) (hcal a _ _ _ hj h7) hk.1 hk.2 hR hd h5 h2 (by omega) (by omega) (fun r g' z => z)
  | _ => exact h.elim
theorem dz_fetch_ok {pc : Nat} : ∀ {K : List (Nat × dz_I)}, (∃ x ∈ K, x.1 = pc ∧ dz_fetch K pc = x.2) ∨ dz_fetch K pc = (.nop, 0, 0, 0, 0)
  | [] => Or.inr rfl
  | x :: K => by
    by_cases h : Nat.beq x.1 pc = true
    · refine Or.inl ⟨x, List.mem_cons_self, Nat.eq_of_beq_eq_true h, ?_⟩
      show (bif Nat.beq x.1 pc then x.2 else dz_fetch K pc) = x.2
      rw [h]
      rfl
    · have e : dz_fetch (x :: K) pc = dz_fetch K pc := by
        show (bif Nat.beq x.1 pc then x.2 else dz_fetch K pc) = _
        rw [Bool.not_eq_true] at h
        rw [h]
        rfl
      rw [e]
      rcases dz_fetch_ok (K := K) with ⟨y, h1, h2⟩ | h1
      · exact Or.inl ⟨y, List.mem_cons_of_mem _ h1, h2⟩
      · exact Or.inr h1
/-- a step of the small machine, of a method whose code was looked at -/
theorem dz_sound_step (C : dz_ctx p s m args meth cd cc own nL D aC ob xo A) {P : dz_P} {d : Nat} {cal : dz_C} {F : dz_Q} {mn : String} (hcal : dz_callsK l D aC ob xo d cal) (hmk : ∀ j, (dz_nk j).1 < 3 → dz_mk j = true) (hR : d + 1 ≤ R.frames ∧ 64 * (d + 1) ≤ R.locals) (hRc : P.2.2.1 ≤ R.cells) (hRs : P.2.2.2.1 ≤ R.slots) (hmn : meth.name = mn)
    (hret : ∀ (pc : Nat) (L : dz_L) (st : List dz_V) (kc ks : Nat) (g : dz_G) (i : Instr), (i = .ireturn ∨ i = .lreturn ∨ i = .return_) → ((P.2.2.2.2 = 0 → i = .return_) ∧ (P.2.2.2.2 = 1 → i = .ireturn) ∧ (P.2.2.2.2 = 2 → i = .ireturn) ∧ (P.2.2.2.2 = 3 → i = .lreturn)) → decode cc pc = .ok (i, 1) → kc ≤ P.2.2.1 → ks ≤ P.2.2.2.1 → (dz_ret P.2.2.2.2 st fun r => F r g) → dz_Wp p l e R s m args below meth cd nL D aC ob A Qm n0 ad0 pc L st kc ks g)
    (hck : P.1.all (dz_ck own mn cc P.2.2.2.2) = true) (pc : Nat) (L : dz_L) (st : List dz_V) (kc ks : Nat) (g : dz_G)
    (h : dz_step cal dz_pp xo P F (dz_Wp p l e R s m args below meth cd nL D aC ob A Qm n0 ad0) pc L st kc ks g) : dz_Wp p l e R s m args below meth cd nL D aC ob A Qm n0 ad0 pc L st kc ks g := by
  unfold dz_step at h
  rcases dz_fetch_ok (pc := pc) (K := P.1) with ⟨x, h1, h2, h3⟩ | h1
  · obtain ⟨pc', i, v, a, b, w⟩ := x
    have h2 : pc' = pc := h2
    subst h2
    rw [h3] at h
    exact dz_sound_op C hcal hmk hR hRc hRs hmn hret (List.all_eq_true.mp hck _ h1) h
  · rw [h1] at h
    exact h.elim
end DZO
theorem dz_ll_none (ad ob : Nat → Nat) (n : Nat) : ∀ k, dz_ll ad ob k (List.replicate n none) = [] := by
  induction n with
  | zero => exact fun _ => rfl
  | succ n ih => exact fun k => ih (k + 1)
theorem dz_ll_args (ad ob : Nat → Nat) (n : Nat) : ∀ (vs : List dz_V) (k : Nat), dz_ll ad ob k (dz_sl vs ++ List.replicate n none) = lv_args k (vs.map (dz_cv ad ob))
  | [], k => dz_ll_none ad ob n k
  | .inl x :: vs, k => congrArg ((k, Value.int (Int32.ofInt x)) :: ·) (dz_ll_args ad ob n vs (k + 1))
  | .inr (.inl x) :: vs, k => congrArg ((k, Value.long (Int64.ofInt x)) :: ·) (dz_ll_args ad ob n vs (k + 2))
  | .inr (.inr (.inl x)) :: vs, k => congrArg ((k, Value.ref (ad x)) :: ·) (dz_ll_args ad ob n vs (k + 1))
  | .inr (.inr (.inr x)) :: vs, k => congrArg ((k, Value.ref (ob x)) :: ·) (dz_ll_args ad ob n vs (k + 1))
theorem dz_sl_len (ad ob : Nat → Nat) : ∀ vs : List dz_V, (lg_sl (vs.map (dz_cv ad ob))).length = (dz_sl vs).length
  | [] => rfl
  | .inl x :: vs => congrArg (· + 1) (dz_sl_len ad ob vs)
  | .inr (.inl x) :: vs => congrArg (· + 2) (dz_sl_len ad ob vs)
  | .inr (.inr (.inl x)) :: vs => congrArg (· + 1) (dz_sl_len ad ob vs)
  | .inr (.inr (.inr x)) :: vs => congrArg (· + 1) (dz_sl_len ad ob vs)
theorem dz_sl_ok {n : Nat} : ∀ {vs : List dz_V}, (∀ v ∈ vs, dz_okV n v) → ∀ v, some v ∈ dz_sl vs → dz_okV n v
  | [], _, v, hv => absurd hv List.not_mem_nil
  | .inl x :: vs, h, v, hv => by
    rcases List.mem_cons.mp hv with e | e
    · cases e; exact h _ List.mem_cons_self
    · exact dz_sl_ok (fun w hw => h w (List.mem_cons_of_mem _ hw)) v e
  | .inr (.inl x) :: vs, h, v, hv => by
    rcases List.mem_cons.mp hv with e | e
    · cases e; exact h _ List.mem_cons_self
    · rcases List.mem_cons.mp e with e | e
      · cases e
      · exact dz_sl_ok (fun w hw => h w (List.mem_cons_of_mem _ hw)) v e
  | .inr (.inr (.inl x)) :: vs, h, v, hv => by
    rcases List.mem_cons.mp hv with e | e
    · cases e; exact h _ List.mem_cons_self
    · exact dz_sl_ok (fun w hw => h w (List.mem_cons_of_mem _ hw)) v e
  | .inr (.inr (.inr x)) :: vs, h, v, hv => by
    rcases List.mem_cons.mp hv with e | e
    · cases e; exact h _ List.mem_cons_self
    · exact dz_sl_ok (fun w hw => h w (List.mem_cons_of_mem _ hw)) v e
theorem dz_ent_ok {n k : Nat} {vs : List dz_V} (h : ∀ v ∈ vs, dz_okV n v) : ∀ (i : Nat) (v : dz_V), (dz_ent k vs)[i]? = some (some v) → dz_okV n v := by
  intro i v hv
  rcases List.mem_append.mp (List.mem_of_getElem? hv) with e | e
  · exact dz_sl_ok h v e
  · have := List.eq_of_mem_replicate e
    cases this
/-- the start of a method's body -/
theorem dz_entry {ad ob : Nat → Nat} {n : Nat} {vs : List dz_V} (h : (dz_sl vs).length ≤ n) : dz_lr ad ob ((lg_sl (vs.map (dz_cv ad ob)) ++ List.replicate (n - (lg_sl (vs.map (dz_cv ad ob))).length) Slot.unset).toArray) n (dz_ent n vs) := by
  refine ⟨?_, ?_⟩
  · unfold dz_ent
    rw [List.length_append, List.length_replicate]
    omega
  · unfold dz_ent
    rw [dz_ll_args]
    exact lv_entry _ (by rw [dz_sl_len]; exact h)
/-- a method's body, also of a class some of whose methods the machine runs by entries of its own -/
theorem dz_body {l : Launch} {y : MethodName} {ws ws' : List Cond} {rm : Room} {Pc : Array Value → State → Prop} {Qc : Array Value → State → Outcome → State → Prop} {mc ms : Nat} {free : Addr → Prop} {cc : ByteArray} {maxL : Nat} {ret : Option FieldType}
    (hy : plainFor y = true) (hw : ws = Cond.code y cc maxL ret :: ws')
    (body : ∀ p e s m args below meth c s₁, BodyLoose p l y (headSpec ws rm) cc maxL ret e s m args below meth c s₁ → c.maxLocals = maxL → Pc args s →
      W p l e (headSpec ws rm).room s m args below meth c s.heap [] 0 0 (MQ below Qc args s mc ms free) (entryFrame m args maxL)) : Met l y ws rm Pc Qc mc ms free := by
  refine MetFree.of_bodySF (code := cc) (maxLocals := maxL) (ret := ret) hy ?_ ?_
  · intro args s m h hn
    obtain ⟨meth, c, h1, h2, h3, h4, h5, h6, -, -⟩ := Cond.code_spec hn (atoms_spec (ws := ws) h _ (by rw [hw]; exact List.mem_cons_self))
    exact ⟨meth, c, h1, h2, h3, h4, h5, h6⟩
  · intro p e s m args below meth c s₁ B hml hP _
    have hh0 : s₁.heap = s.heap := by rw [B.state]; rfl
    obtain ⟨t, a1, o, b1, b2, b3⟩ := body p e s m args below meth c s₁ B hml hP s₁ hh0 (Stand.of_body B)
    exact ⟨t, o, a1, b1, b2, ⟨b3.1, b3.2⟩⟩
set_option maxHeartbeats 1000000 in
/-- THE SMALL MACHINE IS SOUND: what it says of a call holds of the real machine -/
theorem dz_sound (hmk : ∀ j, (dz_nk j).1 < 3 → dz_mk j = true) (hmc : ∀ j, (dz_nk j).1 < 3 → dz_mc j = true) (l : Launch) (D : va_G) (aC : Nat → ClassId) (ob : Nat → Nat) (xo : Nat → List Int) : ∀ d, dz_callsK l D aC ob xo d (dz_E dz_pp xo d)
  | 0 => fun _ _ _ _ _ h => h.elim
  | d + 1 => by
    intro j vs g F hj h ad sz
    obtain ⟨hlen, h⟩ := h
    obtain ⟨m1, m2, m3, m4, m5, m6⟩ := dz_my_ok (hmk j hj)
    refine dz_body (cc := (dz_yy j).2.1) (maxL := (dz_pp j).2.1) (ret := (dz_yy j).2.2) m2 rfl ?_
    intro p e s m args below meth c s₁ B hml hv
    obtain ⟨rfl, hsz, okg, okv, hP, hK, hD0, hN, hO⟩ := hv
    subst hsz
    have hts := atoms_spec (ws := .code (dz_yy j).1 (dz_yy j).2.1 (dz_pp j).2.1 (dz_yy j).2.2 :: dz_T) B.pre
    have hown : s.vm.findClass (dz_yy j).1.cls = some m.cls := findClass_of_methodNamed B.named
    have hnm : meth.name = (dz_yy j).1.name := (name_of_methodNamed B.named B.method).1
    have C : dz_ctx p s m (vs.map (dz_cv ad ob)).toArray meth c (dz_yy j).2.1 (dz_yy j).1.cls (dz_pp j).2.1 D aC ob xo (va_A (dz_ws aC ad g) s.heap.size) := ⟨B.exec, B.bytes, hml, hown, fun w hw => hts w (List.mem_cons_of_mem _ hw), hK, fun q hq => Or.inr hq, hN, hO⟩
    have hr : meth.sig.returnType = dz_rty (dz_pp j).2.2.2.2 := by rw [B.returns]; exact m4
    have key := h (dz_Wp p l e (dz_rm (d + 1) j) s m (vs.map (dz_cv ad ob)).toArray below meth c (dz_pp j).2.1 D aC ob (va_A (dz_ws aC ad g) s.heap.size) (MQ below (dz_Qc D aC ob ad g.1.length (va_A (dz_ws aC ad g) s.heap.size) F) (vs.map (dz_cv ad ob)).toArray s (dz_pp j).2.2.1 (dz_pp j).2.2.2.1 (va_A (dz_ws aC ad g) s.heap.size)) g.1.length ad)
      (dz_sound_step C (dz_sound hmk hmc l D aC ob xo d) hmk ⟨Nat.le_refl _, Nat.le_refl _⟩ (Nat.le_refl _) (Nat.le_refl _) hnm (fun pc L st kc ks g i hi hir hd hc hs hq => dzs_ret C hi hir hd hr B.notSynchronized hc hs hq) (hmc j hj))
    rw [lg_entry_eq]
    exact key (Nat.le_refl _) _ s.heap [] ad (fun _ _ => rfl) ⟨dz_entry hlen, dz_ent_ok okv, fun v hv => absurd hv List.not_mem_nil, okg, hP, hD0.self, va_S.rf⟩
