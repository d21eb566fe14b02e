/-! Laws of the small machine: it is monotone; a step may be taken. -/
theorem dz_ldi_m {L : dz_L} {k : Nat} {f f' : Int → Prop} (h : ∀ x, f x → f' x) : dz_ldi L k f → dz_ldi L k f' := by unfold dz_ldi; split; exact h _; exact id
theorem dz_ldl_m {L : dz_L} {k : Nat} {f f' : Int → Prop} (h : ∀ x, f x → f' x) : dz_ldl L k f → dz_ldl L k f' := by unfold dz_ldl; split; exact h _; exact id
theorem dz_lda_m {L : dz_L} {k : Nat} {f f' : Nat ⊕ Nat → Prop} (h : ∀ x, f x → f' x) : dz_lda L k f → dz_lda L k f' := by unfold dz_lda; split; exact h _; exact id
theorem dz_st1_m {L : dz_L} {k : Nat} {v : dz_V} {f f' : dz_L → Prop} (h : ∀ x, f x → f' x) : dz_st1 L k v f → dz_st1 L k v f' := by unfold dz_st1; split; exact h _; exact id
theorem dz_st2_m {L : dz_L} {k : Nat} {v : dz_V} {f f' : dz_L → Prop} (h : ∀ x, f x → f' x) : dz_st2 L k v f → dz_st2 L k v f' := by unfold dz_st2; split; exact h _; exact id
theorem dz_ui_m {st : List dz_V} {f f' : Int → List dz_V → Prop} (h : ∀ x y, f x y → f' x y) : dz_ui st f → dz_ui st f' := by unfold dz_ui; split; exact h _ _; exact id
theorem dz_ul_m {st : List dz_V} {f f' : Int → List dz_V → Prop} (h : ∀ x y, f x y → f' x y) : dz_ul st f → dz_ul st f' := by unfold dz_ul; split; exact h _ _; exact id
theorem dz_ua_m {st : List dz_V} {f f' : Nat ⊕ Nat → List dz_V → Prop} (h : ∀ x y, f x y → f' x y) : dz_ua st f → dz_ua st f' := by unfold dz_ua; split; exact h _ _; exact id
theorem dz_uq_m {st : List dz_V} {f f' : Nat → List dz_V → Prop} (h : ∀ x y, f x y → f' x y) : dz_uq st f → dz_uq st f' := by unfold dz_uq; split; exact h _ _; exact id
theorem dz_bi_m {st : List dz_V} {f f' : Int → Int → List dz_V → Prop} (h : ∀ x y z, f x y z → f' x y z) : dz_bi st f → dz_bi st f' := by unfold dz_bi; split; exact h _ _ _; exact id
theorem dz_bl_m {st : List dz_V} {f f' : Int → Int → List dz_V → Prop} (h : ∀ x y z, f x y z → f' x y z) : dz_bl st f → dz_bl st f' := by unfold dz_bl; split; exact h _ _ _; exact id
theorem dz_gf_m {g : dz_G} {t q k : Nat} {f f' : dz_V → Prop} (h : ∀ x, f x → f' x) : dz_gf g t q k f → dz_gf g t q k f' := by
  unfold dz_gf
  split
  · exact h _
  · exact h _
  · split
    · exact id
    · exact h _
  · exact h _
theorem dz_pf_m {g : dz_G} {t q k : Nat} {v : dz_V} {f f' : dz_G → Prop} (h : ∀ x, f x → f' x) : dz_pf g t q k v f → dz_pf g t q k v f' := by
  unfold dz_pf
  split
  · exact h _
  · exact h _
  · exact h _
  · exact fun z => ⟨z.1, h _ z.2⟩
  · exact id
theorem dz_el_m {g : dz_G} {t q : Nat} {i : Int} {f f' : Nat → Prop} (h : ∀ x, f x → f' x) : dz_el g t q i f → dz_el g t q i f' := fun ⟨n, a, b, c, d⟩ => ⟨n, a, b, c, h _ d⟩
theorem dz_copy_m {g : dz_G} {st : List dz_V} {f f' : dz_G → List dz_V → Prop} (h : ∀ x y, f x y → f' x y) : dz_copy g st f → dz_copy g st f' := by
  unfold dz_copy
  split
  · exact fun ⟨n0, n1, a1, a2, a3, a4, a5, a6, a7, a8, a9⟩ => ⟨n0, n1, a1, a2, a3, a4, a5, a6, a7, a8, h _ _ a9⟩
  · exact id
theorem dz_dup2_m {st : List dz_V} {f f' : List dz_V → Prop} (h : ∀ x, f x → f' x) : dz_dup2 st f → dz_dup2 st f' := by
  unfold dz_dup2
  split
  · exact h _
  · exact fun ⟨a, b, c⟩ => ⟨a, b, h _ c⟩
  · exact id
theorem dz_ret_m {rt : Nat} {st : List dz_V} {f f' : Option dz_V → Prop} (h : ∀ x, f x → f' x) : dz_ret rt st f → dz_ret rt st f' := by
  unfold dz_ret
  split
  · exact h _
  · exact h _
  · exact fun z => ⟨z.1, h _ z.2⟩
  · exact h _
  · exact id
/-- a call grows with what is asked of it -/
def dz_cm (cal cal' : dz_C) : Prop := ∀ (j : Nat) (vs : List dz_V) (g : dz_G) (F F' : dz_Q), (∀ r g, F r g → F' r g) → cal j vs g F → cal' j vs g F'
theorem dz_op_m {cal cal' : dz_C} {pp : Nat → dz_P} {xo : Nat → List Int} {P : dz_P} {Q Q' : dz_Q} {R R' : dz_R} (hc : dz_cm cal cal') (hQ : ∀ r g, Q r g → Q' r g) (hR : ∀ pc L st c s g, R pc L st c s g → R' pc L st c s g)
    {pc : Nat} {L : dz_L} {st : List dz_V} {c s : Nat} {g : dz_G} {i : Instr} {v : Int} {a b : Nat} : dz_op cal pp xo P Q R pc L st c s g i v a b → dz_op cal' pp xo P Q' R' pc L st c s g i v a b := by
  cases i with
  | aload_n k => exact dz_lda_m fun _ => hR _ _ _ _ _ _
  | aload k => exact dz_lda_m fun _ => hR _ _ _ _ _ _
  | iload_n k => exact dz_ldi_m fun _ => hR _ _ _ _ _ _
  | iload k => exact dz_ldi_m fun _ => hR _ _ _ _ _ _
  | lload_n k => exact dz_ldl_m fun _ => hR _ _ _ _ _ _
  | lload k => exact dz_ldl_m fun _ => hR _ _ _ _ _ _
  | istore_n k => exact dz_ui_m fun _ _ => dz_st1_m fun _ => hR _ _ _ _ _ _
  | istore k => exact dz_ui_m fun _ _ => dz_st1_m fun _ => hR _ _ _ _ _ _
  | lstore_n k => exact dz_ul_m fun _ _ => dz_st2_m fun _ => hR _ _ _ _ _ _
  | lstore k => exact dz_ul_m fun _ _ => dz_st2_m fun _ => hR _ _ _ _ _ _
  | astore_n k => exact dz_ua_m fun _ _ => dz_st1_m fun _ => hR _ _ _ _ _ _
  | iconst n => exact hR _ _ _ _ _ _
  | bipush n => exact hR _ _ _ _ _ _
  | sipush n => exact hR _ _ _ _ _ _
  | lconst n => exact hR _ _ _ _ _ _
  | ldc n => exact hR _ _ _ _ _ _
  | ldc_w n => exact hR _ _ _ _ _ _
  | ldc2_w n => exact hR _ _ _ _ _ _
  | iadd => exact dz_bi_m fun _ _ _ => hR _ _ _ _ _ _
  | isub => exact dz_bi_m fun _ _ _ => hR _ _ _ _ _ _
  | imul => exact dz_bi_m fun _ _ _ => hR _ _ _ _ _ _
  | idiv => exact dz_bi_m fun _ _ _ z => ⟨z.1, hR _ _ _ _ _ _ z.2⟩
  | irem => exact dz_bi_m fun _ _ _ z => ⟨z.1, hR _ _ _ _ _ _ z.2⟩
  | iand => exact dz_bi_m fun _ _ _ => hR _ _ _ _ _ _
  | ior => exact dz_bi_m fun _ _ _ => hR _ _ _ _ _ _
  | ixor => exact dz_bi_m fun _ _ _ => hR _ _ _ _ _ _
  | ishl => exact dz_bi_m fun _ _ _ => hR _ _ _ _ _ _
  | ishr => exact dz_bi_m fun _ _ _ => hR _ _ _ _ _ _
  | ladd => exact dz_bl_m fun _ _ _ => hR _ _ _ _ _ _
  | lmul => exact dz_bl_m fun _ _ _ => hR _ _ _ _ _ _
  | ldiv => exact dz_bl_m fun _ _ _ z => ⟨z.1, hR _ _ _ _ _ _ z.2⟩
  | lrem => exact dz_bl_m fun _ _ _ z => ⟨z.1, hR _ _ _ _ _ _ z.2⟩
  | lcmp => exact dz_bl_m fun _ _ _ => hR _ _ _ _ _ _
  | i2l => exact dz_ui_m fun _ _ => hR _ _ _ _ _ _
  | l2i => exact dz_ul_m fun _ _ => hR _ _ _ _ _ _
  | i2b => exact dz_ui_m fun _ _ => hR _ _ _ _ _ _
  | dup => cases st with
    | nil => exact id
    | cons x st => exact fun z => ⟨z.1, hR _ _ _ _ _ _ z.2⟩
  | dup2 =>
    show (dz_dup2 st fun st => R (pc + 1) L st c s g) → dz_dup2 st fun st => R' (pc + 1) L st c s g
    exact dz_dup2_m fun _ => hR _ _ _ _ _ _
  | pop => cases st with
    | nil => exact id
    | cons x st => exact fun z => ⟨z.1, hR _ _ _ _ _ _ z.2⟩
  | iinc k n => exact dz_ldi_m fun _ => dz_st1_m fun _ => hR _ _ _ _ _ _
  | getfield n => exact dz_uq_m fun _ _ z => ⟨z.1, dz_gf_m (fun _ => hR _ _ _ _ _ _) z.2⟩
  | putfield n =>
    unfold dz_op
    dsimp only
    split
    · exact fun z => ⟨z.1, dz_pf_m (fun _ => hR _ _ _ _ _ _) z.2⟩
    · exact id
  | getstatic n => exact hR _ _ _ _ _ _
  | iaload =>
    refine dz_ui_m fun i st => ?_
    split
    · exact dz_el_m fun _ => hR _ _ _ _ _ _
    · exact fun z => ⟨z.1, z.2.1, hR _ _ _ _ _ _ z.2.2⟩
    · exact id
  | baload => exact dz_ui_m fun _ _ => dz_uq_m fun _ _ => dz_el_m fun _ => hR _ _ _ _ _ _
  | laload => exact dz_ui_m fun _ _ => dz_uq_m fun _ _ => dz_el_m fun _ => hR _ _ _ _ _ _
  | aaload =>
    refine dz_ui_m fun _ _ => dz_uq_m fun _ _ ⟨t, ht, z⟩ => ⟨t, ht, dz_el_m (fun k => ?_) z⟩
    split
    · exact id
    · exact hR _ _ _ _ _ _
  | iastore => exact dz_ui_m fun _ _ => dz_ui_m fun _ _ => dz_uq_m fun _ _ => dz_el_m fun _ => hR _ _ _ _ _ _
  | bastore => exact dz_ui_m fun _ _ => dz_ui_m fun _ _ => dz_uq_m fun _ _ => dz_el_m fun _ => hR _ _ _ _ _ _
  | lastore => exact dz_ul_m fun _ _ => dz_ui_m fun _ _ => dz_uq_m fun _ _ => dz_el_m fun _ => hR _ _ _ _ _ _
  | aastore => exact dz_uq_m fun _ _ => dz_ui_m fun _ _ => dz_uq_m fun _ _ z => ⟨z.1, dz_el_m (fun _ => hR _ _ _ _ _ _) z.2⟩
  | arraylength =>
    unfold dz_op
    dsimp only
    split
    · exact fun ⟨t, n, a, b⟩ => ⟨t, n, a, hR _ _ _ _ _ _ b⟩
    · exact hR _ _ _ _ _ _
    · exact id
  | new n => exact fun ⟨a, b, z⟩ => ⟨a, b, hR _ _ _ _ _ _ z⟩
  | newarray t => exact dz_ui_m fun _ _ ⟨a1, a2, a3, a4, a5, z⟩ => ⟨a1, a2, a3, a4, a5, hR _ _ _ _ _ _ z⟩
  | anewarray t => exact dz_ui_m fun _ _ ⟨a2, a3, a4, a5, z⟩ => ⟨a2, a3, a4, a5, hR _ _ _ _ _ _ z⟩
  | multianewarray t d => exact dz_bi_m fun _ _ _ ⟨a1, a2, a3, a4, a5, a6, z⟩ => ⟨a1, a2, a3, a4, a5, a6, hR _ _ _ _ _ _ z⟩
  | goto o => exact hR _ _ _ _ _ _
  | if_icmp cd o => exact dz_bi_m fun _ _ _ z => ⟨fun h => hR _ _ _ _ _ _ (z.1 h), fun h => hR _ _ _ _ _ _ (z.2 h)⟩
  | ifCond cd o => exact dz_ui_m fun _ _ z => ⟨fun h => hR _ _ _ _ _ _ (z.1 h), fun h => hR _ _ _ _ _ _ (z.2 h)⟩
  | tableswitch d lo hi os => exact dz_ui_m fun _ _ z => ⟨fun h => hR _ _ _ _ _ _ (z.1 h), fun h h2 => let ⟨o, a, b⟩ := z.2 h h2; ⟨o, a, hR _ _ _ _ _ _ b⟩⟩
  | ireturn =>
    show (c ≤ P.2.2.1 ∧ s ≤ P.2.2.2.1 ∧ dz_ret P.2.2.2.2 st fun r => Q r g) → c ≤ P.2.2.1 ∧ s ≤ P.2.2.2.1 ∧ dz_ret P.2.2.2.2 st fun r => Q' r g
    exact fun z => ⟨z.1, z.2.1, dz_ret_m (fun _ => hQ _ _) z.2.2⟩
  | lreturn =>
    show (c ≤ P.2.2.1 ∧ s ≤ P.2.2.2.1 ∧ dz_ret P.2.2.2.2 st fun r => Q r g) → c ≤ P.2.2.1 ∧ s ≤ P.2.2.2.1 ∧ dz_ret P.2.2.2.2 st fun r => Q' r g
    exact fun z => ⟨z.1, z.2.1, dz_ret_m (fun _ => hQ _ _) z.2.2⟩
  | return_ =>
    show (c ≤ P.2.2.1 ∧ s ≤ P.2.2.2.1 ∧ dz_ret P.2.2.2.2 st fun r => Q r g) → c ≤ P.2.2.1 ∧ s ≤ P.2.2.2.1 ∧ dz_ret P.2.2.2.2 st fun r => Q' r g
    exact fun z => ⟨z.1, z.2.1, dz_ret_m (fun _ => hQ _ _) z.2.2⟩
  | invokestatic n =>
    unfold dz_op
    dsimp only
    split
    · exact dz_copy_m fun _ _ => hR _ _ _ _ _ _
    · exact fun ⟨a1, a2, a3, a4, z⟩ => ⟨a1, a2, a3, a4, hc _ _ _ _ _ (fun _ _ => hR _ _ _ _ _ _) z⟩
  | invokevirtual n => exact fun ⟨a1, a2, a3, a4, a5, z⟩ => ⟨a1, a2, a3, a4, a5, hc _ _ _ _ _ (fun _ _ => hR _ _ _ _ _ _) z⟩
  | invokespecial n =>
    unfold dz_op
    dsimp only
    split
    · exact dz_uq_m fun _ _ z => ⟨z.1, hR _ _ _ _ _ _ z.2⟩
    · exact fun ⟨a1, a2, a3, a4, a5, z⟩ => ⟨a1, a2, a3, a4, a5, hc _ _ _ _ _ (fun _ _ => hR _ _ _ _ _ _) z⟩
  | _ => exact id
theorem dz_step_m {cal cal' : dz_C} {pp : Nat → dz_P} {xo : Nat → List Int} {P : dz_P} {Q Q' : dz_Q} {R R' : dz_R} (hc : dz_cm cal cal') (hQ : ∀ r g, Q r g → Q' r g) (hR : ∀ pc L st c s g, R pc L st c s g → R' pc L st c s g)
    {pc : Nat} {L : dz_L} {st : List dz_V} {c s : Nat} {g : dz_G} : dz_step cal pp xo P Q R pc L st c s g → dz_step cal' pp xo P Q' R' pc L st c s g := by
  unfold dz_step
  exact dz_op_m hc hQ hR
/-- what is asked may be less; the callees may do more -/
theorem dz_X_m {cal cal' : dz_C} {pp : Nat → dz_P} {xo : Nat → List Int} {P : dz_P} {Q Q' : dz_Q} (hc : dz_cm cal cal') (hQ : ∀ r g, Q r g → Q' r g) {pc : Nat} {L : dz_L} {st : List dz_V} {c s : Nat} {g : dz_G} (h : dz_X cal pp xo P Q pc L st c s g) : dz_X cal' pp xo P Q' pc L st c s g :=
  fun R hR => h R (fun _ _ _ _ _ _ z => hR _ _ _ _ _ _ (dz_step_m hc hQ (fun _ _ _ _ _ _ => id) z))
/-- a step is taken -/
theorem dz_X_go {cal : dz_C} {pp : Nat → dz_P} {xo : Nat → List Int} {P : dz_P} {Q : dz_Q} (hc : dz_cm cal cal) {pc : Nat} {L : dz_L} {st : List dz_V} {c s : Nat} {g : dz_G} (h : dz_step cal pp xo P Q (dz_X cal pp xo P Q) pc L st c s g) : dz_X cal pp xo P Q pc L st c s g :=
  fun R hR => hR _ _ _ _ _ _ (dz_step_m hc (fun _ _ => id) (fun _ _ _ _ _ _ z => z R hR) h)
theorem dz_E_m (pp : Nat → dz_P) (xo : Nat → List Int) : ∀ d, dz_cm (dz_E pp xo d) (dz_E pp xo d)
  | 0 => fun _ _ _ _ _ _ h => h
  | d + 1 => fun _ _ _ _ _ hF h => ⟨h.1, dz_X_m (dz_E_m pp xo d) hF h.2⟩
theorem dz_E_up (pp : Nat → dz_P) (xo : Nat → List Int) : ∀ d, dz_cm (dz_E pp xo d) (dz_E pp xo (d + 1))
  | 0 => fun _ _ _ _ _ _ h => h.elim
  | d + 1 => fun _ _ _ _ _ hF h => ⟨h.1, dz_X_m (dz_E_up pp xo d) hF h.2⟩
/-- k steps at once -/
def dz_stepk (cal : dz_C) (pp : Nat → dz_P) (xo : Nat → List Int) (P : dz_P) (Q : dz_Q) (R : dz_R) : Nat → dz_R
  | 0 => R
  | k + 1 => dz_step cal pp xo P Q (dz_stepk cal pp xo P Q R k)
theorem dz_X_gok {cal : dz_C} {pp : Nat → dz_P} {xo : Nat → List Int} {P : dz_P} {Q : dz_Q} (hc : dz_cm cal cal) : ∀ (k : Nat) {pc : Nat} {L : dz_L} {st : List dz_V} {c s : Nat} {g : dz_G}, dz_stepk cal pp xo P Q (dz_X cal pp xo P Q) k pc L st c s g → dz_X cal pp xo P Q pc L st c s g
  | 0, _, _, _, _, _, _, h => h
  | k + 1, _, _, _, _, _, _, h => dz_X_go hc (dz_step_m hc (fun _ _ => id) (fun _ _ _ _ _ _ z => dz_X_gok hc k z) h)
/-! numbers -/
def dz_in32 (x : Int) : Prop := -2147483648 ≤ x ∧ x < 2147483648
def dz_in64 (x : Int) : Prop := -9223372036854775808 ≤ x ∧ x < 9223372036854775808
theorem dz_w_in (x : Int) : dz_in32 (dz_w x) := by unfold dz_in32 dz_w; omega
theorem dz_W_in (x : Int) : dz_in64 (dz_W x) := by unfold dz_in64 dz_W; omega
theorem dz_b_in (x : Int) : dz_in32 (dz_b x) := by unfold dz_in32 dz_b; omega
theorem dz_w_id {x : Int} (h : dz_in32 x) : dz_w x = x := by unfold dz_in32 at h; unfold dz_w; omega
theorem dz_W_id {x : Int} (h : dz_in64 x) : dz_W x = x := by unfold dz_in64 at h; unfold dz_W; omega
theorem dz_bm (x : Int) : Int.bmod x (2 ^ 32) = dz_w x := by
  unfold Int.bmod dz_w
  show (if x % 4294967296 < (4294967296 + 1) / 2 then x % 4294967296 else x % 4294967296 - 4294967296) = _
  split <;> omega
theorem dz_bM (x : Int) : Int.bmod x (2 ^ 64) = dz_W x := by
  unfold Int.bmod dz_W
  show (if x % 18446744073709551616 < (18446744073709551616 + 1) / 2 then x % 18446744073709551616 else x % 18446744073709551616 - 18446744073709551616) = _
  split <;> omega
theorem dz_bb (x : Int) : Int.bmod x (2 ^ 8) = dz_b x := by
  unfold Int.bmod dz_b
  show (if x % 256 < (256 + 1) / 2 then x % 256 else x % 256 - 256) = _
  split <;> omega
theorem dz_tI {x : Int} (h : dz_in32 x) : (Int32.ofInt x).toInt = x := Int32.toInt_ofInt_of_le (by have := h.1; omega) (by have := h.2; omega)
theorem dz_tL {x : Int} (h : dz_in64 x) : (Int64.ofInt x).toInt = x := Int64.toInt_ofInt_of_le (by have := h.1; omega) (by have := h.2; omega)
theorem dz_Iin (x : Int32) : dz_in32 x.toInt := by have h1 := x.le_toInt; have h2 := x.toInt_lt; unfold dz_in32; omega
theorem dz_Lin (x : Int64) : dz_in64 x.toInt := by have h1 := x.le_toInt; have h2 := x.toInt_lt; unfold dz_in64; omega
theorem dz_ofw (x : Int) : Int32.ofInt (dz_w x) = Int32.ofInt x := by
  apply Int32.toInt_inj.mp
  rw [dz_tI (dz_w_in x), Int32.toInt_ofInt]
  exact (dz_bm x).symm
theorem dz_ofW (x : Int) : Int64.ofInt (dz_W x) = Int64.ofInt x := by
  apply Int64.toInt_inj.mp
  rw [dz_tL (dz_W_in x), Int64.toInt_ofInt]
  exact (dz_bM x).symm
theorem dz_iadd (x y : Int) : Int32.ofInt (dz_w (x + y)) = Int32.ofInt x + Int32.ofInt y := by rw [dz_ofw, Int32.ofInt_add]
theorem dz_isub (x y : Int) : Int32.ofInt (dz_w (x - y)) = Int32.ofInt x - Int32.ofInt y := by rw [dz_ofw, Int32.ofInt_sub]
theorem dz_imul (x y : Int) : Int32.ofInt (dz_w (x * y)) = Int32.ofInt x * Int32.ofInt y := by rw [dz_ofw, Int32.ofInt_mul]
theorem dz_ladd (x y : Int) : Int64.ofInt (dz_W (x + y)) = Int64.ofInt x + Int64.ofInt y := by rw [dz_ofW, Int64.ofInt_add]
theorem dz_lmul (x y : Int) : Int64.ofInt (dz_W (x * y)) = Int64.ofInt x * Int64.ofInt y := by rw [dz_ofW, Int64.ofInt_mul]
theorem dz_idiv {x y : Int} (hx : dz_in32 x) (hy : dz_in32 y) : Int32.ofInt (dz_w (Int.tdiv x y)) = Int32.ofInt x / Int32.ofInt y := by
  apply Int32.toInt_inj.mp
  rw [dz_tI (dz_w_in _), Int32.toInt_div, dz_tI hx, dz_tI hy]
  exact (dz_bm _).symm
theorem dz_ldiv {x y : Int} (hx : dz_in64 x) (hy : dz_in64 y) : Int64.ofInt (dz_W (Int.tdiv x y)) = Int64.ofInt x / Int64.ofInt y := by
  apply Int64.toInt_inj.mp
  rw [dz_tL (dz_W_in _), Int64.toInt_div, dz_tL hx, dz_tL hy]
  exact (dz_bM _).symm
theorem dz_irem {x y : Int} (hx : dz_in32 x) (hy : dz_in32 y) : Int32.ofInt (Int.tmod x y) = Int32.ofInt x - Int32.ofInt x / Int32.ofInt y * Int32.ofInt y := by
  rw [← dz_idiv hx hy, dz_ofw, ← Int32.ofInt_mul, ← Int32.ofInt_sub]
  congr 1
  rw [Int.tmod_def, Int.mul_comm]
theorem dz_lrem {x y : Int} (hx : dz_in64 x) (hy : dz_in64 y) : Int64.ofInt (Int.tmod x y) = Int64.ofInt x - Int64.ofInt x / Int64.ofInt y * Int64.ofInt y := by
  rw [← dz_ldiv hx hy, dz_ofW, ← Int64.ofInt_mul, ← Int64.ofInt_sub]
  congr 1
  rw [Int.tmod_def, Int.mul_comm]
theorem dz_irem_in {x y : Int} (hx : dz_in32 x) (hy : dz_in32 y) : dz_in32 (Int.tmod x y) := by
  have h := Int32.toInt_mod (Int32.ofInt x) (Int32.ofInt y)
  rw [dz_tI hx, dz_tI hy] at h
  rw [← h]
  exact dz_Iin _
theorem dz_lrem_in {x y : Int} (hx : dz_in64 x) (hy : dz_in64 y) : dz_in64 (Int.tmod x y) := by
  have h := Int64.toInt_mod (Int64.ofInt x) (Int64.ofInt y)
  rw [dz_tL hx, dz_tL hy] at h
  rw [← h]
  exact dz_Lin _
theorem dz_ilt {x y : Int} (hx : dz_in32 x) (hy : dz_in32 y) : Int32.ofInt x < Int32.ofInt y ↔ x < y := by rw [Int32.lt_iff_toInt_lt, dz_tI hx, dz_tI hy]
theorem dz_ile {x y : Int} (hx : dz_in32 x) (hy : dz_in32 y) : Int32.ofInt x ≤ Int32.ofInt y ↔ x ≤ y := by rw [Int32.le_iff_toInt_le, dz_tI hx, dz_tI hy]
theorem dz_ieq {x y : Int} (hx : dz_in32 x) (hy : dz_in32 y) : Int32.ofInt x = Int32.ofInt y ↔ x = y := by rw [← Int32.toInt_inj, dz_tI hx, dz_tI hy]
theorem dz_llt {x y : Int} (hx : dz_in64 x) (hy : dz_in64 y) : Int64.ofInt x < Int64.ofInt y ↔ x < y := by rw [Int64.lt_iff_toInt_lt, dz_tL hx, dz_tL hy]
theorem dz_leq {x y : Int} (hx : dz_in64 x) (hy : dz_in64 y) : Int64.ofInt x = Int64.ofInt y ↔ x = y := by rw [← Int64.toInt_inj, dz_tL hx, dz_tL hy]
theorem dz_lcmp_ok {x y : Int} (hx : dz_in64 x) (hy : dz_in64 y) : Int32.ofInt (dz_lcmp x y) = lg_cmp (Int64.ofInt x) (Int64.ofInt y) := by
  unfold dz_lcmp lg_cmp
  have h1 : (Int64.ofInt x > Int64.ofInt y) ↔ y < x := dz_llt hy hx
  have h2 := dz_leq hx hy
  by_cases a : y < x
  · rw [if_pos a, if_pos (h1.mpr a)]; rfl
  · rw [if_neg a, if_neg (fun z => a (h1.mp z))]
    by_cases b : x = y
    · rw [if_pos b, if_pos (h2.mpr b)]; rfl
    · rw [if_neg b, if_neg (fun z => b (h2.mp z))]; rfl
theorem dz_lcmp_in (x y : Int) : dz_in32 (dz_lcmp x y) := by
  unfold dz_lcmp dz_in32
  split
  · omega
  · split <;> omega
theorem dz_i2l {x : Int} (hx : dz_in32 x) : (Int32.ofInt x).toInt64 = Int64.ofInt x := by
  apply Int64.toInt_inj.mp
  rw [Int32.toInt_toInt64, dz_tI hx, dz_tL]
  unfold dz_in32 at hx
  unfold dz_in64
  omega
theorem dz_l2i (x : Int) : (Int64.ofInt x).toInt32 = Int32.ofInt (dz_w x) := by rw [dz_ofw, Int64.toInt32_ofInt]
theorem dz_i2b {x : Int} (hx : dz_in32 x) : (Int32.ofInt x).toInt8.toInt32 = Int32.ofInt (dz_b x) := by
  apply Int32.toInt_inj.mp
  rw [Int8.toInt_toInt32, Int32.toInt_toInt8, dz_tI hx, dz_tI (dz_b_in x)]
  exact dz_bb x
theorem dz_in32_64 {x : Int} (h : dz_in32 x) : dz_in64 x := by unfold dz_in32 at h; unfold dz_in64; omega
theorem dz_clamp {x : Int} (h : dz_in32 x) : (Int32.ofInt x).toNatClampNeg = x.toNat := by
  show (Int32.ofInt x).toInt.toNat = x.toNat
  rw [dz_tI h]
theorem dz_vin {x : Int} {n : Nat} (h : dz_in32 x) (h0 : 0 ≤ x) (h1 : x < n) : vp_in (Int32.ofInt x) n := by
  rw [vp_in_iff, dz_tI h]
  exact ⟨h0, h1⟩
