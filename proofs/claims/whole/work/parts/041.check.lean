/-! What is looked at once of the code: that each row is what the real code decodes to, and that the tables have its words. -/
def dz_cC : Nat → String
  | 0 => RX0
  | 1 => RX1
  | 2 => RX2
  | 3 => RX3
  | 4 => RX4
  | 5 => RX5
  | _ => RX6
def dz_cT : Nat → u_T
  | 0 => TX0
  | 1 => TX1
  | 2 => TX2
  | 3 => TX3
  | 4 => TX4
  | 5 => TX5
  | _ => TX6
def dz_ty : Nat → FieldType
  | 0 => .int
  | 1 => .long
  | 2 => .byte
  | 3 => .object RX0
  | 4 => .array .int
  | _ => .array .byte
def dz_sn : Nat → String
  | 1 => "LETTERS"
  | _ => "KIND_ABOVE"
def dz_rty : Nat → Option FieldType
  | 0 => none
  | 1 => some .int
  | 2 => some .boolean
  | _ => some .long
def dz_pp (j : Nat) : dz_P := dz_PP.getD j ([], 0, 0, 0, 0)
def dz_yy (j : Nat) : MethodName × ByteArray × Option FieldType := dz_YY.getD j (⟨"", "", ""⟩, ⟨#[]⟩, none)
def dz_nk (j : Nat) : Nat × Nat := dz_NK.getD j (9, 9)
def dz_len (i : Instr) (v : Int) : Nat := match i with
  | .aload _ => 2
  | .iload _ => 2
  | .lload _ => 2
  | .istore _ => 2
  | .lstore _ => 2
  | .bipush _ => 2
  | .ldc _ => 2
  | .newarray _ => 2
  | .sipush _ => 3
  | .ldc_w _ => 3
  | .ldc2_w _ => 3
  | .getfield _ => 3
  | .putfield _ => 3
  | .getstatic _ => 3
  | .new _ => 3
  | .anewarray _ => 3
  | .goto _ => 3
  | .if_icmp _ _ => 3
  | .ifCond _ _ => 3
  | .invokestatic _ => 3
  | .invokevirtual _ => 3
  | .invokespecial _ => 3
  | .iinc _ _ => 3
  | .multianewarray _ _ => 4
  | .tableswitch _ _ _ _ => v.toNat
  | _ => 1
def dz_wd (w : Nat) (c : Cond) : Bool := decide (lw_tbl[w]? = some c)
def dz_gw (w : Nat) (c : Cond) : Bool := decide (lw_tbl[w]? = some c) && goodWord c
def dz_flk (own : String) (idx a b w : Nat) (v : Int) : Bool := if v = 2 then dz_wd w (.fieldLinkNest own idx (dz_cT a b).1 (dz_cT a b).2.1 (dz_cT a b).2.2.1 RX5) else dz_gw w (.fieldLink own idx (dz_cT a b).1 (dz_cT a b).2.1 (dz_cT a b).2.2.1)
def dz_mlk (own : String) (idx a w : Nat) (v : Int) : Bool := if v = 2 then dz_wd w (.methodLinkNest own idx (dz_yy a).1 RX5) else dz_gw w (.methodLink own idx (dz_yy a).1)
def dz_ck2 (own mn : String) (rt pc : Nat) (i : Instr) (v : Int) (a b w : Nat) : Bool := match i with
  | .iconst n => decide (-1 ≤ n ∧ n ≤ 5)
  | .bipush n => decide (dz_b n = n)
  | .sipush n => decide ((Int16.ofInt n).toInt32 = Int32.ofInt n) && decide (-32768 ≤ n ∧ n ≤ 32767)
  | .ldc idx => decide (-2147483648 ≤ v ∧ v < 2147483648) && dz_gw w (.constant own idx (Int32.ofInt v))
  | .ldc_w idx => decide (-2147483648 ≤ v ∧ v < 2147483648) && dz_gw w (.constant own idx (Int32.ofInt v))
  | .ldc2_w idx => decide (-9223372036854775808 ≤ v ∧ v < 9223372036854775808) && dz_gw w (.constantLong own idx (Int64.ofInt v))
  | .getfield idx => decide (a < 7) && decide (b < dz_nf a) && dz_flk own idx a b w v
  | .putfield idx => decide (a < 7) && decide (b < dz_nf a) && (if (dz_cT a b).2.2.2 = true then decide (v = 0) && decide (mn = "<init>") && decide ((dz_cT a b).1 = own) && dz_flk own idx a b w v else dz_flk own idx a b w v)
  | .getstatic idx => decide (a = 1 ∨ a = 2) && (if v = 2 then dz_wd w (.fieldLinkNest own idx RX5 (dz_sn a) "[I" RX5) else dz_gw w (.fieldLink own idx RX5 (dz_sn a) "[I"))
  | .new idx => decide (a < 7) && decide (b = dz_nf a) && dz_gw w (.classLink own idx (dz_cC a))
  | .anewarray idx => dz_gw w (.classLink own idx RX0)
  | .multianewarray idx d => decide (d = 2) && decide ((a = 4 ∧ b = 0) ∨ (a = 5 ∧ b = 2)) && dz_gw w (.classLink own idx ("[" ++ (dz_ty a).toString))
  | .goto o => decide (0 ≤ (pc : Int) + o)
  | .if_icmp _ o => decide (0 ≤ (pc : Int) + o)
  | .ifCond _ o => decide (0 ≤ (pc : Int) + o)
  | .tableswitch d _ _ os => decide (0 ≤ (pc : Int) + d) && os.toList.all (fun o => decide (0 ≤ (pc : Int) + o))
  | .ireturn => decide (rt = 1 ∨ rt = 2)
  | .lreturn => decide (rt = 3)
  | .return_ => decide (rt = 0)
  | .invokestatic idx => if v = 1 then dz_gw w (.methodLink own idx arraycopyName) else decide ((dz_nk a) = (0, b)) && dz_mlk own idx a w v
  | .invokevirtual idx => decide ((dz_nk a) = (1, b)) && decide (0 ≤ v ∧ v < 28) && decide (dz_cC (v / 4).toNat = (dz_yy a).1.cls) && dz_mlk own idx a w (v % 4)
  | .invokespecial idx => if v = 1 then dz_gw w (.methodLink own idx Lib.objectInit) else decide ((dz_nk a) = (2, b)) && dz_mlk own idx a w v
  | _ => true
def dz_ck (own mn : String) (cc : ByteArray) (rt : Nat) (x : Nat × dz_I) : Bool := decide (decode cc x.1 = .ok (x.2.1, dz_len x.2.1 x.2.2.1)) && dz_ck2 own mn rt x.1 x.2.1 x.2.2.1 x.2.2.2.1 x.2.2.2.2.1 x.2.2.2.2.2
/-- the words of a method itself -/
def dz_my (j : Nat) : List Cond := [.code (dz_yy j).1 (dz_yy j).2.1 (dz_pp j).2.1 (dz_yy j).2.2, .initialized (dz_yy j).1.cls] ++ (match (dz_nk j).1 with
  | 0 => [.static (dz_yy j).1]
  | 1 => [.instanceMethod (dz_yy j).1, .selects (dz_yy j).1.cls (dz_yy j).1 (dz_yy j).1]
  | _ => [.instanceMethod (dz_yy j).1])
def dz_mi (j : Nat) : List Nat := dz_MI.getD j []
def dz_mk (j : Nat) : Bool := decide ((dz_my j).map some = (dz_mi j).map (fun k => lw_tbl[k]?)) && (dz_my j).all goodWord && (plainName (dz_yy j).1.cls || (decide ((dz_yy j).1.cls = "java/lang/Math") && decide ((dz_yy j).1.desc = "(II)I"))) && decide ((dz_yy j).1.cls ≠ "java/lang/invoke/MethodHandle") && decide ((dz_yy j).1.cls ≠ "java/lang/invoke/VarHandle") && decide ((parseMethodDescriptor (dz_yy j).1.desc).map (fun d => d.parameters.length) = some (dz_nk j).2) && decide ((dz_yy j).2.2 = dz_rty (dz_pp j).2.2.2.2) && decide ((dz_pp j).2.1 ≤ 40) && (if (dz_nk j).1 = 2 then decide ((dz_yy j).1.name = "<init>") && decide ((dz_yy j).2.2 = none) else true)
def dz_mc (j : Nat) : Bool := (dz_pp j).1.all (dz_ck (dz_yy j).1.cls (dz_yy j).1.name (dz_yy j).2.1 (dz_pp j).2.2.2.2)
