/-! ===== what the tables must say of methods and instructions ===== -/
def ai_tb : List Cond := lw_tbl.filter goodWord
def ai_ty (ci k : Nat) : FieldType := match ci with
  | 0 => tyX0 k
  | 1 => tyX1 k
  | 2 => tyX2 k
  | 3 => tyX3 k
  | 4 => tyX4 k
  | 5 => tyX5 k
  | 6 => tyX6 k
  | 7 => tyX7 k
  | 8 => tyX8 k
  | 9 => tyX9 k
  | _ => tyX10 k
/-- an instruction's length (0: it is of no fixed one) -/
def ai_len (ins : Instr) : Nat := match ins with
  | .bipush _ => 2
  | .sipush _ => 3
  | .ldc _ => 2
  | .ldc_w _ => 3
  | .ldc2_w _ => 3
  | .iload _ => 2
  | .lload _ => 2
  | .aload _ => 2
  | .istore _ => 2
  | .astore _ => 2
  | .lstore _ => 2
  | .iinc _ _ => 3
  | .getfield _ => 3
  | .putfield _ => 3
  | .getstatic _ => 3
  | .new _ => 3
  | .newarray _ => 2
  | .anewarray _ => 3
  | .invokespecial _ => 3
  | .invokevirtual _ => 3
  | .invokestatic _ => 3
  | .goto _ => 3
  | .ifCond _ _ => 3
  | .if_icmp _ _ => 3
  | .ifnonnull _ => 3
  | .ifnull _ => 3
  | .tableswitch _ _ _ _ => 0
  | .lookupswitch _ _ => 0
  | _ => 1
/-- what the tables must say of a method of Math -/
def ai_mw (md : ai_MD) (i : Nat) (y : MethodName) (c : ByteArray) (n : Nat) (t : FieldType) : Prop := Jvm.Cond.methodLink md.1 i y ∈ ai_tb ∧ Jvm.Cond.static y ∈ ai_tb ∧ Jvm.Cond.initialized "java/lang/Math" ∈ ai_tb ∧ Jvm.Cond.code y c n (some t) ∈ ai_tb
/-- what the tables must say of an instruction -/
def ai_eok (md : ai_MD) (en : ai_E) : Prop := decode md.2.2.1 en.1 = .ok (en.2.1, en.2.2.1) ∧ (ai_len en.2.1 = 0 ∨ en.2.2.1 = ai_len en.2.1) ∧ match en.2.1 with
  | .ldc i => Jvm.Cond.constant md.1 i (Int32.ofInt en.2.2.2.2.2.2) ∈ ai_tb
  | .ldc_w i => Jvm.Cond.constant md.1 i (Int32.ofInt en.2.2.2.2.2.2) ∈ ai_tb
  | .ldc2_w i => Jvm.Cond.constantLong md.1 i (Int64.ofInt en.2.2.2.2.2.2) ∈ ai_tb
  | .getfield i => ∃ q, vwCl[en.2.2.2.1]? = some q ∧ en.2.2.2.2.1 < q.2.2 ∧ Jvm.Cond.fieldLink md.1 i (q.2.1 en.2.2.2.2.1).1 (q.2.1 en.2.2.2.2.1).2.1 (q.2.1 en.2.2.2.2.1).2.2.1 ∈ ai_tb
  | .putfield i => ∃ q, vwCl[en.2.2.2.1]? = some q ∧ en.2.2.2.2.1 < q.2.2 ∧ Jvm.Cond.fieldLink md.1 i (q.2.1 en.2.2.2.2.1).1 (q.2.1 en.2.2.2.2.1).2.1 (q.2.1 en.2.2.2.2.1).2.2.1 ∈ ai_tb ∧ ((q.2.1 en.2.2.2.2.1).2.2.2 = false ∨ ((q.2.1 en.2.2.2.2.1).2.2.2 = true ∧ md.2.1.name = "<init>" ∧ (q.2.1 en.2.2.2.2.1).1 = md.1))
  | .new i => ∃ q, vwCl[en.2.2.2.1]? = some q ∧ Jvm.Cond.classLink md.1 i q.1 ∈ ai_tb ∧ Jvm.Cond.instantiable q.1 q.2.2 ∈ ai_tb ∧ Jvm.Cond.initialized q.1 ∈ ai_tb
  | .newarray t => Jvm.Cond.arrayClass (newarray.typeOf t) ∈ ai_tb
  | .anewarray i => Jvm.Cond.classLink md.1 i "FirstPolls$Land" ∈ ai_tb
  | .invokestatic i => (en.2.2.2.1 = 997 → (Jvm.Cond.methodLink md.1 i arraycopyName ∈ ai_tb ∧ Jvm.Cond.native arraycopyName ∈ ai_tb ∧ Jvm.Cond.static arraycopyName ∈ ai_tb ∧ Jvm.Cond.initialized "java/lang/System" ∈ ai_tb)) ∧ (en.2.2.2.1 = 996 → ai_mw md i Lib.Math.min.name Lib.Math.min.code 2 .int) ∧ (en.2.2.2.1 = 995 → ai_mw md i Lib.Math.max.name Lib.Math.max.code 2 .int) ∧ (en.2.2.2.1 = 994 → ai_mw md i Lib.Math.abs.name Lib.Math.abs.code 1 .int) ∧ (en.2.2.2.1 = 993 → ai_mw md i Lib.MathLoose.min_long.x Lib.MathLoose.min_long.code 4 .long)
  | .invokespecial i => en.2.2.2.1 = 999 → (Jvm.Cond.methodLink md.1 i Lib.objectInit ∈ ai_tb ∧ Jvm.Cond.instanceMethod Lib.objectInit ∈ ai_tb ∧ Jvm.Cond.code Lib.objectInit ⟨#[0xb1]⟩ 1 none ∈ ai_tb)
  | _ => True
def ai_nest : List (String × Nat × MethodName) := [("FirstPolls", 11, ⟨"FirstPolls$Land", "<init>", "()V"⟩), ("FirstPolls$View", 106, ⟨"FirstPolls", "unset", "([Z)V"⟩), ("FirstPolls$Reader", 104, ⟨"FirstPolls", "isLetter", "(I)Z"⟩), ("FirstPolls$Reader", 108, ⟨"FirstPolls", "isDigit", "(I)Z"⟩), ("FirstPolls$Tally", 122, ⟨"FirstPolls", "unset", "([Z)V"⟩)]
def ai_link (md mK : ai_MD) (i ni : Nat) : Prop := (ni = 0 ∧ Jvm.Cond.methodLink md.1 i mK.2.1 ∈ ai_tb) ∨ (ni = 1 ∧ (md.1, i, mK.2.1) ∈ ai_nest)
def ai_jok (en : ai_E) : Prop := match en.2.1 with
  | .goto off => 0 ≤ (en.1 : Int) + off
  | .ifCond _ off => 0 ≤ (en.1 : Int) + off
  | .if_icmp _ off => 0 ≤ (en.1 : Int) + off
  | .ifnonnull off => 0 ≤ (en.1 : Int) + off
  | .tableswitch dflt _ _ offs => 0 ≤ (en.1 : Int) + dflt ∧ ∀ off ∈ offs.toList, 0 ≤ (en.1 : Int) + off
  | .lookupswitch dflt ps => 0 ≤ (en.1 : Int) + dflt ∧ ∀ q ∈ ps.toList, 0 ≤ (en.1 : Int) + q.2
  | _ => True
def ai_eok2 (T : Nat → ai_MD) (md : ai_MD) (en : ai_E) : Prop := ai_eok md en ∧ ai_jok en ∧ match en.2.1 with
  | .invokestatic i => en.2.2.2.1 < 900 → ai_link md (T en.2.2.2.1) i en.2.2.2.2.2.1
  | .invokespecial i => ¬ en.2.2.2.1 = 999 → ai_link md (T en.2.2.2.1) i en.2.2.2.2.2.1
  | .invokevirtual i => Jvm.Cond.methodLink md.1 i (T en.2.2.2.1).2.1 ∈ ai_tb ∧ ∃ q, vwCl[en.2.2.2.2.1]? = some q ∧ q.1 = (T en.2.2.2.1).2.1.cls
  | _ => True
def ai_mok (md : ai_MD) : Prop := md.1 = md.2.1.cls ∧ plainName md.2.1.cls = true ∧ Jvm.Cond.code md.2.1 md.2.2.1 md.2.2.2.1 md.2.2.2.2.1 ∈ ai_tb ∧ (md.2.1.cls ≠ "java/lang/invoke/MethodHandle" ∧ md.2.1.cls ≠ "java/lang/invoke/VarHandle" ∧ (parseMethodDescriptor md.2.1.desc).map (fun d => d.parameters.length) = some md.2.2.2.2.2.1) ∧ Jvm.Cond.initialized md.2.1.cls ∈ ai_tb ∧ (md.2.2.2.2.2.2.2 = 0 → Jvm.Cond.instanceMethod md.2.1 ∈ ai_tb ∧ Jvm.Cond.selects md.2.1.cls md.2.1 md.2.1 ∈ ai_tb) ∧ (md.2.2.2.2.2.2.2 = 1 → Jvm.Cond.static md.2.1 ∈ ai_tb) ∧ (md.2.2.2.2.2.2.2 = 2 → md.2.1.name = "<init>" ∧ Jvm.Cond.instanceMethod md.2.1 ∈ ai_tb ∧ md.2.2.2.2.1 = none)
def ai_codeok (T : Nat → ai_MD) (md : ai_MD) : List ai_E → Prop
  | [] => True
  | en :: rest => ai_eok2 T md en ∧ (∀ en2 r, rest = en2 :: r → en2.1 = en.1 + en.2.2.1) ∧ ai_codeok T md rest
def ai_clok : Prop := ∀ (ci : Nat) (q : vw_C), vwCl[ci]? = some q → (∀ w ∈ u_ws q.1 q.2.1 q.2.2, w ∈ ai_tb) ∧ (∀ k, k < q.2.2 → parseFieldDescriptor (q.2.1 k).2.2.1 = some (ai_ty ci k)) ∧ ∀ a, a < q.2.2 → ∀ b, b < q.2.2 → a ≠ b → (q.2.1 a).2.1 ≠ (q.2.1 b).2.1
