/-! A SMALL MACHINE of whole numbers: what a method of the claim does, said over numbered cells. Its rows are tied to the real machine once (parts 05 ..); methods are then walked here. -/
/-- a value: an int, a long, a cell of the world, an array that was there before -/
abbrev dz_V : Type := Int ⊕ (Int ⊕ (Nat ⊕ Nat))
abbrev dz_i (x : Int) : dz_V := Sum.inl x
abbrev dz_l (x : Int) : dz_V := Sum.inr (Sum.inl x)
abbrev dz_r (q : Nat) : dz_V := Sum.inr (Sum.inr (Sum.inl q))
abbrev dz_o (o : Nat) : dz_V := Sum.inr (Sum.inr (Sum.inr o))
abbrev dz_L : Type := List (Option dz_V)
/-- shapes of the cells (an object of a class, an array of a kind and length), references (0 null, q + 1 cell q), numbers -/
abbrev dz_G : Type := List (Nat ⊕ (Nat × Nat)) × (Nat → Nat → Nat) × (Nat → Nat → Int)
abbrev dz_I : Type := Instr × Int × Nat × Nat × Nat
/-- a method: code, locals, new cells, new slots, kind of answer (0 none, 1 int, 2 boolean, 3 long) -/
abbrev dz_P : Type := List (Nat × dz_I) × Nat × Nat × Nat × Nat
abbrev dz_Q : Type := Option dz_V → dz_G → Prop
abbrev dz_R : Type := Nat → dz_L → List dz_V → Nat → Nat → dz_G → Prop
abbrev dz_C : Type := Nat → List dz_V → dz_G → dz_Q → Prop
def dz_w (x : Int) : Int := (x + 2147483648) % 4294967296 - 2147483648
def dz_W (x : Int) : Int := (x + 9223372036854775808) % 18446744073709551616 - 9223372036854775808
def dz_b (x : Int) : Int := (x + 128) % 256 - 128
def dz_up {α : Type} (f : Nat → Nat → α) (q k : Nat) (v : α) : Nat → Nat → α := fun q' k' => if q' = q ∧ k' = k then v else f q' k'
def dz_fetch : List (Nat × dz_I) → Nat → dz_I
  | [], _ => (.nop, 0, 0, 0, 0)
  | x :: K, pc => bif Nat.beq x.1 pc then x.2 else dz_fetch K pc
def dz_cat : dz_V → Nat
  | .inr (.inl _) => 2
  | _ => 1
def dz_cats : List dz_V → Nat
  | [] => 0
  | v :: st => dz_cat v + dz_cats st
def dz_ldi (L : dz_L) (k : Nat) (f : Int → Prop) : Prop := match L[k]? with
  | some (some (.inl x)) => f x
  | _ => False
def dz_ldl (L : dz_L) (k : Nat) (f : Int → Prop) : Prop := match L[k]? with
  | some (some (.inr (.inl x))) => f x
  | _ => False
def dz_lda (L : dz_L) (k : Nat) (f : Nat ⊕ Nat → Prop) : Prop := match L[k]? with
  | some (some (.inr (.inr x))) => f x
  | _ => False
def dz_clr (L : dz_L) : Nat → dz_L
  | 0 => L
  | k + 1 => match L[k]? with
    | some (some (.inr (.inl _))) => L.set k none
    | _ => L
def dz_st1 (L : dz_L) (k : Nat) (v : dz_V) (f : dz_L → Prop) : Prop := match L[k]? with
  | some _ => f ((dz_clr L k).set k (some v))
  | none => False
def dz_st2 (L : dz_L) (k : Nat) (v : dz_V) (f : dz_L → Prop) : Prop := match L[k + 1]? with
  | some _ => f (((dz_clr L k).set k (some v)).set (k + 1) none)
  | none => False
def dz_ui (st : List dz_V) (f : Int → List dz_V → Prop) : Prop := match st with
  | .inl x :: st => f x st
  | _ => False
def dz_ul (st : List dz_V) (f : Int → List dz_V → Prop) : Prop := match st with
  | .inr (.inl x) :: st => f x st
  | _ => False
def dz_ua (st : List dz_V) (f : Nat ⊕ Nat → List dz_V → Prop) : Prop := match st with
  | .inr (.inr x) :: st => f x st
  | _ => False
def dz_uq (st : List dz_V) (f : Nat → List dz_V → Prop) : Prop := match st with
  | .inr (.inr (.inl q)) :: st => f q st
  | _ => False
def dz_bi (st : List dz_V) (f : Int → Int → List dz_V → Prop) : Prop := match st with
  | .inl y :: .inl x :: st => f x y st
  | _ => False
def dz_bl (st : List dz_V) (f : Int → Int → List dz_V → Prop) : Prop := match st with
  | .inr (.inl y) :: .inr (.inl x) :: st => f x y st
  | _ => False
def dz_and (x y : Int) : Int := (Int32.ofInt x &&& Int32.ofInt y).toInt
def dz_or (x y : Int) : Int := (Int32.ofInt x ||| Int32.ofInt y).toInt
def dz_xor (x y : Int) : Int := (Int32.ofInt x ^^^ Int32.ofInt y).toInt
def dz_shl (x y : Int) : Int := (Int32.ofInt x <<< (Int32.ofInt y &&& 31)).toInt
def dz_shr (x y : Int) : Int := (Int32.ofInt x >>> (Int32.ofInt y &&& 31)).toInt
def dz_lcmp (x y : Int) : Int := if y < x then 1 else if x = y then 0 else -1
def dz_gf (g : dz_G) (t q k : Nat) (f : dz_V → Prop) : Prop := match t with
  | 0 => f (dz_i (g.2.2 q k))
  | 1 => f (dz_l (g.2.2 q k))
  | 2 => match g.2.1 q k with
    | 0 => False
    | r + 1 => f (dz_r r)
  | _ => f (dz_i (g.2.2 q k))
def dz_pf (g : dz_G) (t q k : Nat) (v : dz_V) (f : dz_G → Prop) : Prop := match t, v with
  | 0, .inl x => f (g.1, g.2.1, dz_up g.2.2 q k x)
  | 1, .inr (.inl x) => f (g.1, g.2.1, dz_up g.2.2 q k x)
  | 2, .inr (.inr (.inl r)) => f (g.1, dz_up g.2.1 q k (r + 1), g.2.2)
  | 3, .inl x => (x = 0 ∨ x = 1) ∧ f (g.1, g.2.1, dz_up g.2.2 q k x)
  | _, _ => False
/-- a place of an array of kind t -/
def dz_el (g : dz_G) (t q : Nat) (i : Int) (f : Nat → Prop) : Prop := ∃ n : Nat, g.1[q]? = some (.inr (t, n)) ∧ 0 ≤ i ∧ i < n ∧ f i.toNat
def dz_cmp (cd : ClassFile.Cond) (x y : Int) : Prop := match cd with
  | .eq => x = y
  | .ne => ¬ x = y
  | .lt => x < y
  | .ge => y ≤ x
  | .gt => y < x
  | .le => x ≤ y
def dz_tgt (pc : Nat) (off : Int) : Nat := ((pc : Int) + off).toNat
def dz_at : ArrayType → Nat
  | .int => 0
  | .long => 1
  | .byte => 2
  | _ => 9
/-- a new cell: its references, its numbers are 0 -/
def dz_new (g : dz_G) (x : Nat ⊕ (Nat × Nat)) : dz_G := (g.1 ++ [x], (fun q k => if q = g.1.length then 0 else g.2.1 q k), fun q k => if q = g.1.length then 0 else g.2.2 q k)
/-- new T[n][m] -/
def dz_mna (g : dz_G) (t u n m : Nat) : dz_G := (g.1 ++ (.inr (t, n) :: List.replicate n (.inr (u, m))), (fun q k => if g.1.length ≤ q then (if q = g.1.length ∧ k < n then g.1.length + 1 + k + 1 else 0) else g.2.1 q k), fun q k => if g.1.length ≤ q then 0 else g.2.2 q k)
def dz_cpy (M : Nat → Nat → Int) (q0 q1 sp dp n : Nat) : Nat → Nat → Int := fun q k => if q = q1 ∧ dp ≤ k ∧ k < dp + n then M q0 (sp + (k - dp)) else M q k
def dz_copy (g : dz_G) (st : List dz_V) (f : dz_G → List dz_V → Prop) : Prop := match st with
  | .inl n :: .inl dp :: .inr (.inr (.inl q1)) :: .inl sp :: .inr (.inr (.inl q0)) :: st => ∃ n0 n1 : Nat, g.1[q0]? = some (.inr (0, n0)) ∧ g.1[q1]? = some (.inr (0, n1)) ∧ 0 ≤ n ∧ 0 ≤ dp ∧ 0 ≤ sp ∧ sp + n ≤ n0 ∧ dp + n ≤ n1 ∧ dz_cats st ≤ 8 ∧ f (g.1, g.2.1, dz_cpy g.2.2 q0 q1 sp.toNat dp.toNat n.toNat) st
  | _ => False
def dz_dup2 (st : List dz_V) (f : List dz_V → Prop) : Prop := match st with
  | .inr (.inl x) :: st => f (.inr (.inl x) :: .inr (.inl x) :: st)
  | y :: x :: st => dz_cat y = 1 ∧ dz_cat x = 1 ∧ f (y :: x :: y :: x :: st)
  | _ => False
def dz_ret (rt : Nat) (st : List dz_V) (f : Option dz_V → Prop) : Prop := match rt, st with
  | 0, [] => f none
  | 1, [.inl x] => f (some (.inl x))
  | 2, [.inl x] => (x = 0 ∨ x = 1) ∧ f (some (.inl x))
  | 3, [.inr (.inl x)] => f (some (.inr (.inl x)))
  | _, _ => False
/-- the words of a method that a call needs: code, locals, cells, slots, kind of answer -/
def dz_op (cal : dz_C) (pp : Nat → dz_P) (xo : Nat → List Int) (P : dz_P) (Q : dz_Q) (R : dz_R) (pc : Nat) (L : dz_L) (st : List dz_V) (c s : Nat) (g : dz_G) (i : Instr) (v : Int) (a b : Nat) : Prop :=
  match i with
  | .aload_n k => dz_lda L k.val fun x => R (pc + 1) L (.inr (.inr x) :: st) c s g
  | .aload k => dz_lda L k fun x => R (pc + 2) L (.inr (.inr x) :: st) c s g
  | .iload_n k => dz_ldi L k.val fun x => R (pc + 1) L (.inl x :: st) c s g
  | .iload k => dz_ldi L k fun x => R (pc + 2) L (.inl x :: st) c s g
  | .lload_n k => dz_ldl L k.val fun x => R (pc + 1) L (.inr (.inl x) :: st) c s g
  | .lload k => dz_ldl L k fun x => R (pc + 2) L (.inr (.inl x) :: st) c s g
  | .istore_n k => dz_ui st fun x st => dz_st1 L k.val (.inl x) fun L => R (pc + 1) L st c s g
  | .istore k => dz_ui st fun x st => dz_st1 L k (.inl x) fun L => R (pc + 2) L st c s g
  | .lstore_n k => dz_ul st fun x st => dz_st2 L k.val (.inr (.inl x)) fun L => R (pc + 1) L st c s g
  | .lstore k => dz_ul st fun x st => dz_st2 L k (.inr (.inl x)) fun L => R (pc + 2) L st c s g
  | .astore_n k => dz_ua st fun x st => dz_st1 L k.val (.inr (.inr x)) fun L => R (pc + 1) L st c s g
  | .iconst n => R (pc + 1) L (.inl n :: st) c s g
  | .bipush n => R (pc + 2) L (.inl n :: st) c s g
  | .sipush n => R (pc + 3) L (.inl n :: st) c s g
  | .lconst n => R (pc + 1) L (.inr (.inl (n.val : Int)) :: st) c s g
  | .ldc _ => R (pc + 2) L (.inl v :: st) c s g
  | .ldc_w _ => R (pc + 3) L (.inl v :: st) c s g
  | .ldc2_w _ => R (pc + 3) L (.inr (.inl v) :: st) c s g
  | .iadd => dz_bi st fun x y st => R (pc + 1) L (.inl (dz_w (x + y)) :: st) c s g
  | .isub => dz_bi st fun x y st => R (pc + 1) L (.inl (dz_w (x - y)) :: st) c s g
  | .imul => dz_bi st fun x y st => R (pc + 1) L (.inl (dz_w (x * y)) :: st) c s g
  | .idiv => dz_bi st fun x y st => y ≠ 0 ∧ R (pc + 1) L (.inl (dz_w (Int.tdiv x y)) :: st) c s g
  | .irem => dz_bi st fun x y st => y ≠ 0 ∧ R (pc + 1) L (.inl (Int.tmod x y) :: st) c s g
  | .iand => dz_bi st fun x y st => R (pc + 1) L (.inl (dz_and x y) :: st) c s g
  | .ior => dz_bi st fun x y st => R (pc + 1) L (.inl (dz_or x y) :: st) c s g
  | .ixor => dz_bi st fun x y st => R (pc + 1) L (.inl (dz_xor x y) :: st) c s g
  | .ishl => dz_bi st fun x y st => R (pc + 1) L (.inl (dz_shl x y) :: st) c s g
  | .ishr => dz_bi st fun x y st => R (pc + 1) L (.inl (dz_shr x y) :: st) c s g
  | .ladd => dz_bl st fun x y st => R (pc + 1) L (.inr (.inl (dz_W (x + y))) :: st) c s g
  | .lmul => dz_bl st fun x y st => R (pc + 1) L (.inr (.inl (dz_W (x * y))) :: st) c s g
  | .ldiv => dz_bl st fun x y st => y ≠ 0 ∧ R (pc + 1) L (.inr (.inl (dz_W (Int.tdiv x y))) :: st) c s g
  | .lrem => dz_bl st fun x y st => y ≠ 0 ∧ R (pc + 1) L (.inr (.inl (Int.tmod x y)) :: st) c s g
  | .lcmp => dz_bl st fun x y st => R (pc + 1) L (.inl (dz_lcmp x y) :: st) c s g
  | .i2l => dz_ui st fun x st => R (pc + 1) L (.inr (.inl x) :: st) c s g
  | .l2i => dz_ul st fun x st => R (pc + 1) L (.inl (dz_w x) :: st) c s g
  | .i2b => dz_ui st fun x st => R (pc + 1) L (.inl (dz_b x) :: st) c s g
  | .dup => match st with
    | x :: st => dz_cat x = 1 ∧ R (pc + 1) L (x :: x :: st) c s g
    | [] => False
  | .dup2 => dz_dup2 st fun st => R (pc + 1) L st c s g
  | .pop => match st with
    | x :: st => dz_cat x = 1 ∧ R (pc + 1) L st c s g
    | [] => False
  | .iinc k n => dz_ldi L k fun x => dz_st1 L k (.inl (dz_w (x + n))) fun L => R (pc + 3) L st c s g
  | .getfield _ => dz_uq st fun q st => g.1[q]? = some (.inl a) ∧ dz_gf g (dz_ft a b) q b fun x => R (pc + 3) L (x :: st) c s g
  | .putfield _ => match st with
    | x :: .inr (.inr (.inl q)) :: st => g.1[q]? = some (.inl a) ∧ dz_pf g (dz_ft a b) q b x fun g => R (pc + 3) L st c s g
    | _ => False
  | .getstatic _ => R (pc + 3) L (.inr (.inr (.inr a)) :: st) c s g
  | .iaload => dz_ui st fun i st => match st with
    | .inr (.inr (.inl q)) :: st => dz_el g 0 q i fun k => R (pc + 1) L (.inl (g.2.2 q k) :: st) c s g
    | .inr (.inr (.inr o)) :: st => 0 ≤ i ∧ i < (xo o).length ∧ R (pc + 1) L (.inl ((xo o).getD i.toNat 0) :: st) c s g
    | _ => False
  | .baload => dz_ui st fun i st => dz_uq st fun q st => dz_el g 2 q i fun k => R (pc + 1) L (.inl (g.2.2 q k) :: st) c s g
  | .laload => dz_ui st fun i st => dz_uq st fun q st => dz_el g 1 q i fun k => R (pc + 1) L (.inr (.inl (g.2.2 q k)) :: st) c s g
  | .aaload => dz_ui st fun i st => dz_uq st fun q st => ∃ t, (t = 3 ∨ t = 4 ∨ t = 5) ∧ dz_el g t q i fun k => match g.2.1 q k with
    | 0 => False
    | r + 1 => R (pc + 1) L (.inr (.inr (.inl r)) :: st) c s g
  | .iastore => dz_ui st fun x st => dz_ui st fun i st => dz_uq st fun q st => dz_el g 0 q i fun k => R (pc + 1) L st c s (g.1, g.2.1, dz_up g.2.2 q k x)
  | .bastore => dz_ui st fun x st => dz_ui st fun i st => dz_uq st fun q st => dz_el g 2 q i fun k => R (pc + 1) L st c s (g.1, g.2.1, dz_up g.2.2 q k (dz_b x))
  | .lastore => dz_ul st fun x st => dz_ui st fun i st => dz_uq st fun q st => dz_el g 1 q i fun k => R (pc + 1) L st c s (g.1, g.2.1, dz_up g.2.2 q k x)
  | .aastore => dz_uq st fun r st => dz_ui st fun i st => dz_uq st fun q st => g.1[r]? = some (.inl 0) ∧ dz_el g 3 q i fun k => R (pc + 1) L st c s (g.1, dz_up g.2.1 q k (r + 1), g.2.2)
  | .arraylength => match st with
    | .inr (.inr (.inl q)) :: st => ∃ t n : Nat, g.1[q]? = some (.inr (t, n)) ∧ R (pc + 1) L (.inl (n : Int) :: st) c s g
    | .inr (.inr (.inr o)) :: st => R (pc + 1) L (.inl ((xo o).length : Int) :: st) c s g
    | _ => False
  | .new _ => c + 1 ≤ P.2.2.1 ∧ s + b ≤ P.2.2.2.1 ∧ R (pc + 3) L (.inr (.inr (.inl g.1.length)) :: st) (c + 1) (s + b) (dz_new g (.inl a))
  | .newarray t => dz_ui st fun n st => dz_at t < 3 ∧ 0 ≤ n ∧ n ≤ 60000 ∧ c + 1 ≤ P.2.2.1 ∧ s + n.toNat ≤ P.2.2.2.1 ∧ R (pc + 2) L (.inr (.inr (.inl g.1.length)) :: st) (c + 1) (s + n.toNat) (dz_new g (.inr (dz_at t, n.toNat)))
  | .anewarray _ => dz_ui st fun n st => 0 ≤ n ∧ n ≤ 60000 ∧ c + 1 ≤ P.2.2.1 ∧ s + n.toNat ≤ P.2.2.2.1 ∧ R (pc + 3) L (.inr (.inr (.inl g.1.length)) :: st) (c + 1) (s + n.toNat) (dz_new g (.inr (3, n.toNat)))
  | .multianewarray _ _ => dz_bi st fun n m st => 0 ≤ n ∧ n ≤ 60000 ∧ 0 ≤ m ∧ m ≤ 60000 ∧ c + (1 + n.toNat) ≤ P.2.2.1 ∧ s + (n.toNat + n.toNat * m.toNat) ≤ P.2.2.2.1 ∧ R (pc + 4) L (.inr (.inr (.inl g.1.length)) :: st) (c + 1 + n.toNat) (s + n.toNat + n.toNat * m.toNat) (dz_mna g a b n.toNat m.toNat)
  | .goto o => R (dz_tgt pc o) L st c s g
  | .if_icmp cd o => dz_bi st fun x y st => (dz_cmp cd x y → R (dz_tgt pc o) L st c s g) ∧ (¬ dz_cmp cd x y → R (pc + 3) L st c s g)
  | .ifCond cd o => dz_ui st fun x st => (dz_cmp cd x 0 → R (dz_tgt pc o) L st c s g) ∧ (¬ dz_cmp cd x 0 → R (pc + 3) L st c s g)
  | .tableswitch d lo hi os => dz_ui st fun x st => (x < lo ∨ hi < x → R (dz_tgt pc d) L st c s g) ∧ (lo ≤ x → x ≤ hi → ∃ o, os[(x - lo).toNat]? = some o ∧ R (dz_tgt pc o) L st c s g)
  | .ireturn => c ≤ P.2.2.1 ∧ s ≤ P.2.2.2.1 ∧ dz_ret P.2.2.2.2 st fun r => Q r g
  | .lreturn => c ≤ P.2.2.1 ∧ s ≤ P.2.2.2.1 ∧ dz_ret P.2.2.2.2 st fun r => Q r g
  | .return_ => c ≤ P.2.2.1 ∧ s ≤ P.2.2.2.1 ∧ dz_ret P.2.2.2.2 st fun r => Q r g
  | .invokestatic _ => match v with
    | 1 => dz_copy g st fun g st => R (pc + 3) L st c s g
    | _ => b ≤ st.length ∧ dz_cats (st.drop b) ≤ 8 ∧ c + (pp a).2.2.1 ≤ P.2.2.1 ∧ s + (pp a).2.2.2.1 ≤ P.2.2.2.1 ∧ cal a (st.take b).reverse g fun r g => R (pc + 3) L (r.toList ++ st.drop b) (c + (pp a).2.2.1) (s + (pp a).2.2.2.1) g
  | .invokevirtual _ => b < st.length ∧ dz_cats (st.drop (b + 1)) ≤ 8 ∧ c + (pp a).2.2.1 ≤ P.2.2.1 ∧ s + (pp a).2.2.2.1 ≤ P.2.2.2.1 ∧ (∃ q, st[b]? = some (.inr (.inr (.inl q))) ∧ g.1[q]? = some (.inl (v / 4).toNat)) ∧ cal a (st.take (b + 1)).reverse g fun r g => R (pc + 3) L (r.toList ++ st.drop (b + 1)) (c + (pp a).2.2.1) (s + (pp a).2.2.2.1) g
  | .invokespecial _ => match v with
    | 1 => dz_uq st fun _ st => dz_cats st ≤ 8 ∧ R (pc + 3) L st c s g
    | _ => b < st.length ∧ dz_cats (st.drop (b + 1)) ≤ 8 ∧ c + (pp a).2.2.1 ≤ P.2.2.1 ∧ s + (pp a).2.2.2.1 ≤ P.2.2.2.1 ∧ (∃ q, st[b]? = some (.inr (.inr (.inl q)))) ∧ cal a (st.take (b + 1)).reverse g fun r g => R (pc + 3) L (r.toList ++ st.drop (b + 1)) (c + (pp a).2.2.1) (s + (pp a).2.2.2.1) g
  | _ => False
def dz_step (cal : dz_C) (pp : Nat → dz_P) (xo : Nat → List Int) (P : dz_P) (Q : dz_Q) (R : dz_R) (pc : Nat) (L : dz_L) (st : List dz_V) (c s : Nat) (g : dz_G) : Prop :=
  match dz_fetch P.1 pc with
  | (i, v, a, b, _) => dz_op cal pp xo P Q R pc L st c s g i v a b
/-- the least predicate that the steps close -/
def dz_X (cal : dz_C) (pp : Nat → dz_P) (xo : Nat → List Int) (P : dz_P) (Q : dz_Q) : dz_R := fun pc L st c s g =>
  ∀ R : dz_R, (∀ pc L st c s g, dz_step cal pp xo P Q R pc L st c s g → R pc L st c s g) → R pc L st c s g
def dz_sl : List dz_V → dz_L
  | [] => []
  | .inr (.inl x) :: vs => some (.inr (.inl x)) :: none :: dz_sl vs
  | v :: vs => some v :: dz_sl vs
def dz_ent (n : Nat) (vs : List dz_V) : dz_L := dz_sl vs ++ List.replicate (n - (dz_sl vs).length) none
/-- a call of method j that goes d calls deep at most -/
def dz_E (pp : Nat → dz_P) (xo : Nat → List Int) : Nat → dz_C
  | 0 => fun _ _ _ _ => False
  | d + 1 => fun j vs g Q => (dz_sl vs).length ≤ (pp j).2.1 ∧ dz_X (dz_E pp xo d) pp xo (pp j) Q 0 (dz_ent (pp j).2.1 vs) [] 0 0 g
