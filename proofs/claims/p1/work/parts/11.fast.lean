/-! ===== the same walk, laid so that the kernel goes through it quicker: one instruction's own lines alone are looked at ===== -/
def af_ast (G : ai_G) (als : ai_L) (st : List ai_V) (aw : ai_W) (cs ss ty : Nat) (ok : ai_V → Bool) : Option ai_S := ai_p3 st fun v i a r => ai_gd (ai_isR a && ok v) ((aw[a.2.1]?).bind fun c => match c with
  | .inr (t, n, d, ov) => ai_gd (t == ty && ai_inb G i n) (bif decide ((ai_b G i).1 = (ai_b G i).2) && ai_look d ov (ai_b G i).1.toNat == v then some (als, r, aw, cs, ss) else (ai_wr G ty d ov i v).bind fun q => some (als, r, aw.set a.2.1 (.inr (t, n, q.1, q.2)), cs, ss))
  | .inl _ => none)
theorem ai_set_self {α : Type} {l : List α} {k : Nat} {c : α} (h : l[k]? = some c) : l.set k c = l := by
  apply List.ext_getElem?
  intro i
  by_cases hi : k = i
  · subst hi
    rw [List.getElem?_set_self (List.getElem?_eq_some_iff.mp h).1, h]
  · rw [List.getElem?_set_ne hi]
theorem af_ast_eq (G : ai_G) (als : ai_L) (st : List ai_V) (aw : ai_W) (cs ss ty : Nat) (ok : ai_V → Bool) : af_ast G als st aw cs ss ty ok = ai_ast G als st aw cs ss ty ok := by
  unfold af_ast ai_ast
  congr 1
  funext v i a r
  congr 1
  cases hc : aw[a.2.1]? with
  | none => rfl
  | some c =>
    rcases c with q | ⟨t, n, d, ov⟩
    · rfl
    · dsimp only [Option.bind]
      congr 1
      cases h : (decide ((ai_b G i).1 = (ai_b G i).2) && ai_look d ov (ai_b G i).1.toNat == v) with
      | false => rfl
      | true =>
        rw [Bool.and_eq_true] at h
        have e : ai_wr G ty d ov i v = some (d, ov) := by
          unfold ai_wr
          rw [h.1, h.2]
          rfl
        rw [e]
        simp only [cond_true]
        rw [ai_set_self hc]
def ah_iconst (n : Int) (md : ai_MD) (L : Nat) (en : ai_E) (G : ai_G) (als : ai_L) (st : List ai_V) (aw : ai_W) (cs ss : Nat) : Option ai_S := some (als, ai_lI (Int32.ofInt n).toInt :: st, aw, cs, ss)
def ah_bipush (n : Int) (md : ai_MD) (L : Nat) (en : ai_E) (G : ai_G) (als : ai_L) (st : List ai_V) (aw : ai_W) (cs ss : Nat) : Option ai_S := some (als, ai_lI (Int8.ofInt n).toInt32.toInt :: st, aw, cs, ss)
def ah_sipush (n : Int) (md : ai_MD) (L : Nat) (en : ai_E) (G : ai_G) (als : ai_L) (st : List ai_V) (aw : ai_W) (cs ss : Nat) : Option ai_S := some (als, ai_lI (Int16.ofInt n).toInt32.toInt :: st, aw, cs, ss)
def ah_lconst (n : Fin 2) (md : ai_MD) (L : Nat) (en : ai_E) (G : ai_G) (als : ai_L) (st : List ai_V) (aw : ai_W) (cs ss : Nat) : Option ai_S := some (als, ai_lL (Int64.ofNat (n : Nat)).toInt :: st, aw, cs, ss)
def ah_ldc (md : ai_MD) (L : Nat) (en : ai_E) (G : ai_G) (als : ai_L) (st : List ai_V) (aw : ai_W) (cs ss : Nat) : Option ai_S := some (als, ai_lI (Int32.ofInt en.2.2.2.2.2.2).toInt :: st, aw, cs, ss)
def ah_ldc_w (md : ai_MD) (L : Nat) (en : ai_E) (G : ai_G) (als : ai_L) (st : List ai_V) (aw : ai_W) (cs ss : Nat) : Option ai_S := some (als, ai_lI (Int32.ofInt en.2.2.2.2.2.2).toInt :: st, aw, cs, ss)
def ah_ldc2_w (md : ai_MD) (L : Nat) (en : ai_E) (G : ai_G) (als : ai_L) (st : List ai_V) (aw : ai_W) (cs ss : Nat) : Option ai_S := some (als, ai_lL (Int64.ofInt en.2.2.2.2.2.2).toInt :: st, aw, cs, ss)
def ah_iload (i : Nat) (md : ai_MD) (L : Nat) (en : ai_E) (G : ai_G) (als : ai_L) (st : List ai_V) (aw : ai_W) (cs ss : Nat) : Option ai_S := ai_load als st aw cs ss i ai_isI
def ah_iload_n (k : Fin 4) (md : ai_MD) (L : Nat) (en : ai_E) (G : ai_G) (als : ai_L) (st : List ai_V) (aw : ai_W) (cs ss : Nat) : Option ai_S := ai_load als st aw cs ss (k : Nat) ai_isI
def ah_lload (i : Nat) (md : ai_MD) (L : Nat) (en : ai_E) (G : ai_G) (als : ai_L) (st : List ai_V) (aw : ai_W) (cs ss : Nat) : Option ai_S := ai_load als st aw cs ss i ai_isL
def ah_lload_n (k : Fin 4) (md : ai_MD) (L : Nat) (en : ai_E) (G : ai_G) (als : ai_L) (st : List ai_V) (aw : ai_W) (cs ss : Nat) : Option ai_S := ai_load als st aw cs ss (k : Nat) ai_isL
def ah_aload (i : Nat) (md : ai_MD) (L : Nat) (en : ai_E) (G : ai_G) (als : ai_L) (st : List ai_V) (aw : ai_W) (cs ss : Nat) : Option ai_S := ai_load als st aw cs ss i (fun v => ai_isR v || v.1 == 7)
def ah_aload_n (k : Fin 4) (md : ai_MD) (L : Nat) (en : ai_E) (G : ai_G) (als : ai_L) (st : List ai_V) (aw : ai_W) (cs ss : Nat) : Option ai_S := ai_load als st aw cs ss (k : Nat) (fun v => ai_isR v || v.1 == 7)
def ah_istore (i : Nat) (md : ai_MD) (L : Nat) (en : ai_E) (G : ai_G) (als : ai_L) (st : List ai_V) (aw : ai_W) (cs ss : Nat) : Option ai_S := ai_sto als st aw cs ss i md.2.2.2.1 ai_isI
def ah_istore_n (k : Fin 4) (md : ai_MD) (L : Nat) (en : ai_E) (G : ai_G) (als : ai_L) (st : List ai_V) (aw : ai_W) (cs ss : Nat) : Option ai_S := ai_sto als st aw cs ss (k : Nat) md.2.2.2.1 ai_isI
def ah_astore (i : Nat) (md : ai_MD) (L : Nat) (en : ai_E) (G : ai_G) (als : ai_L) (st : List ai_V) (aw : ai_W) (cs ss : Nat) : Option ai_S := ai_sto als st aw cs ss i md.2.2.2.1 ai_isR
def ah_astore_n (k : Fin 4) (md : ai_MD) (L : Nat) (en : ai_E) (G : ai_G) (als : ai_L) (st : List ai_V) (aw : ai_W) (cs ss : Nat) : Option ai_S := ai_sto als st aw cs ss (k : Nat) md.2.2.2.1 ai_isR
def ah_lstore (i : Nat) (md : ai_MD) (L : Nat) (en : ai_E) (G : ai_G) (als : ai_L) (st : List ai_V) (aw : ai_W) (cs ss : Nat) : Option ai_S := ai_sto2 als st aw cs ss i md.2.2.2.1
def ah_lstore_n (k : Fin 4) (md : ai_MD) (L : Nat) (en : ai_E) (G : ai_G) (als : ai_L) (st : List ai_V) (aw : ai_W) (cs ss : Nat) : Option ai_S := ai_sto2 als st aw cs ss (k : Nat) md.2.2.2.1
def ah_iinc (i : Nat) (n : Int) (md : ai_MD) (L : Nat) (en : ai_E) (G : ai_G) (als : ai_L) (st : List ai_V) (aw : ai_W) (cs ss : Nat) : Option ai_S := (ai_lk als i).bind fun v => ai_gd (ai_isI v && decide (i < md.2.2.2.1)) (some (ai_st1 als i (ai_mI ((ai_b G v).1 + (Int32.ofInt n).toInt) ((ai_b G v).2 + (Int32.ofInt n).toInt)), st, aw, cs, ss))
def ah_iadd (md : ai_MD) (L : Nat) (en : ai_E) (G : ai_G) (als : ai_L) (st : List ai_V) (aw : ai_W) (cs ss : Nat) : Option ai_S := ai_b2 .iadd G als st aw cs ss
def ah_isub (md : ai_MD) (L : Nat) (en : ai_E) (G : ai_G) (als : ai_L) (st : List ai_V) (aw : ai_W) (cs ss : Nat) : Option ai_S := ai_b2 .isub G als st aw cs ss
def ah_imul (md : ai_MD) (L : Nat) (en : ai_E) (G : ai_G) (als : ai_L) (st : List ai_V) (aw : ai_W) (cs ss : Nat) : Option ai_S := ai_b2 .imul G als st aw cs ss
def ah_iand (md : ai_MD) (L : Nat) (en : ai_E) (G : ai_G) (als : ai_L) (st : List ai_V) (aw : ai_W) (cs ss : Nat) : Option ai_S := ai_b2 .iand G als st aw cs ss
def ah_ior (md : ai_MD) (L : Nat) (en : ai_E) (G : ai_G) (als : ai_L) (st : List ai_V) (aw : ai_W) (cs ss : Nat) : Option ai_S := ai_b2 .ior G als st aw cs ss
def ah_ixor (md : ai_MD) (L : Nat) (en : ai_E) (G : ai_G) (als : ai_L) (st : List ai_V) (aw : ai_W) (cs ss : Nat) : Option ai_S := ai_b2 .ixor G als st aw cs ss
def ah_ishl (md : ai_MD) (L : Nat) (en : ai_E) (G : ai_G) (als : ai_L) (st : List ai_V) (aw : ai_W) (cs ss : Nat) : Option ai_S := ai_b2 .ishl G als st aw cs ss
def ah_ishr (md : ai_MD) (L : Nat) (en : ai_E) (G : ai_G) (als : ai_L) (st : List ai_V) (aw : ai_W) (cs ss : Nat) : Option ai_S := ai_b2 .ishr G als st aw cs ss
def ah_iushr (md : ai_MD) (L : Nat) (en : ai_E) (G : ai_G) (als : ai_L) (st : List ai_V) (aw : ai_W) (cs ss : Nat) : Option ai_S := ai_b2 .iushr G als st aw cs ss
def ah_idiv (md : ai_MD) (L : Nat) (en : ai_E) (G : ai_G) (als : ai_L) (st : List ai_V) (aw : ai_W) (cs ss : Nat) : Option ai_S := ai_b2 .idiv G als st aw cs ss
def ah_irem (md : ai_MD) (L : Nat) (en : ai_E) (G : ai_G) (als : ai_L) (st : List ai_V) (aw : ai_W) (cs ss : Nat) : Option ai_S := ai_b2 .irem G als st aw cs ss
def ah_ladd (md : ai_MD) (L : Nat) (en : ai_E) (G : ai_G) (als : ai_L) (st : List ai_V) (aw : ai_W) (cs ss : Nat) : Option ai_S := ai_bl .ladd G als st aw cs ss
def ah_lsub (md : ai_MD) (L : Nat) (en : ai_E) (G : ai_G) (als : ai_L) (st : List ai_V) (aw : ai_W) (cs ss : Nat) : Option ai_S := ai_bl .lsub G als st aw cs ss
def ah_lmul (md : ai_MD) (L : Nat) (en : ai_E) (G : ai_G) (als : ai_L) (st : List ai_V) (aw : ai_W) (cs ss : Nat) : Option ai_S := ai_bl .lmul G als st aw cs ss
def ah_ldiv (md : ai_MD) (L : Nat) (en : ai_E) (G : ai_G) (als : ai_L) (st : List ai_V) (aw : ai_W) (cs ss : Nat) : Option ai_S := ai_bl .ldiv G als st aw cs ss
def ah_lrem (md : ai_MD) (L : Nat) (en : ai_E) (G : ai_G) (als : ai_L) (st : List ai_V) (aw : ai_W) (cs ss : Nat) : Option ai_S := ai_bl .lrem G als st aw cs ss
def ah_i2l (md : ai_MD) (L : Nat) (en : ai_E) (G : ai_G) (als : ai_L) (st : List ai_V) (aw : ai_W) (cs ss : Nat) : Option ai_S := ai_p1 st fun a r => ai_gd (ai_isI a) (some (als, ai_i2l G a :: r, aw, cs, ss))
def ah_l2i (md : ai_MD) (L : Nat) (en : ai_E) (G : ai_G) (als : ai_L) (st : List ai_V) (aw : ai_W) (cs ss : Nat) : Option ai_S := ai_p1 st fun a r => ai_gd (ai_isL a) (some (als, ai_l2i G a :: r, aw, cs, ss))
def ah_ineg (md : ai_MD) (L : Nat) (en : ai_E) (G : ai_G) (als : ai_L) (st : List ai_V) (aw : ai_W) (cs ss : Nat) : Option ai_S := ai_p1 st fun a r => ai_gd (ai_isI a) (some (als, ai_mI (- (ai_b G a).2) (- (ai_b G a).1) :: r, aw, cs, ss))
def ah_dup (md : ai_MD) (L : Nat) (en : ai_E) (G : ai_G) (als : ai_L) (st : List ai_V) (aw : ai_W) (cs ss : Nat) : Option ai_S := ai_p1 st fun a r => ai_gd (ai_cat a == 1) (some (als, a :: a :: r, aw, cs, ss))
def ah_pop (md : ai_MD) (L : Nat) (en : ai_E) (G : ai_G) (als : ai_L) (st : List ai_V) (aw : ai_W) (cs ss : Nat) : Option ai_S := ai_p1 st fun a r => ai_gd (ai_cat a == 1) (some (als, r, aw, cs, ss))
def ah_dup2 (md : ai_MD) (L : Nat) (en : ai_E) (G : ai_G) (als : ai_L) (st : List ai_V) (aw : ai_W) (cs ss : Nat) : Option ai_S := ai_p2 st fun a b r => ai_gd (ai_cat a == 1 && ai_cat b == 1) (some (als, a :: b :: a :: b :: r, aw, cs, ss))
def ah_getfield (md : ai_MD) (L : Nat) (en : ai_E) (G : ai_G) (als : ai_L) (st : List ai_V) (aw : ai_W) (cs ss : Nat) : Option ai_S := ai_p1 st fun a r => ai_gd (ai_isR a) ((aw[a.2.1]?).bind fun c => match c with
    | .inl (ci, fs) => ai_gd (ci == en.2.2.2.1) ((fs[en.2.2.2.2.1]?).bind fun v => some (als, v :: r, aw, cs, ss))
    | .inr _ => none)
def ah_putfield (md : ai_MD) (L : Nat) (en : ai_E) (G : ai_G) (als : ai_L) (st : List ai_V) (aw : ai_W) (cs ss : Nat) : Option ai_S := ai_p2 st fun v a r => ai_gd (ai_isR a && ai_fit G (ai_ty en.2.2.2.1 en.2.2.2.2.1) v) ((aw[a.2.1]?).bind fun c => match c with
    | .inl (ci, fs) => ai_gd (ci == en.2.2.2.1 && decide (en.2.2.2.2.1 < fs.length)) (bif fs[en.2.2.2.2.1]? == some v then some (als, r, aw, cs, ss) else some (als, r, aw.set a.2.1 (.inl (ci, fs.set en.2.2.2.2.1 v)), cs, ss))
    | .inr _ => none)
def ah_iaload (md : ai_MD) (L : Nat) (en : ai_E) (G : ai_G) (als : ai_L) (st : List ai_V) (aw : ai_W) (cs ss : Nat) : Option ai_S := match ai_p2 st fun i a r => ai_gd (a.1 == 7 && (md.2.2.2.2.2.2.2 == 3 && (i.1 == 0 && (decide (i.2.2.1 = i.2.2.2) && (decide (0 ≤ i.2.2.1) && decide (i.2.2.1 < (L : Int))))))) (some (als, ((2, i.2.2.1.toNat, 0, 0) : ai_V) :: r, aw, cs, ss)) with
    | some x => some x
    | none => ai_ald G als st aw cs ss 0
def ah_laload (md : ai_MD) (L : Nat) (en : ai_E) (G : ai_G) (als : ai_L) (st : List ai_V) (aw : ai_W) (cs ss : Nat) : Option ai_S := ai_ald G als st aw cs ss 1
def ah_baload (md : ai_MD) (L : Nat) (en : ai_E) (G : ai_G) (als : ai_L) (st : List ai_V) (aw : ai_W) (cs ss : Nat) : Option ai_S := ai_ald G als st aw cs ss 2
def ah_aaload (md : ai_MD) (L : Nat) (en : ai_E) (G : ai_G) (als : ai_L) (st : List ai_V) (aw : ai_W) (cs ss : Nat) : Option ai_S := ai_ald G als st aw cs ss 3
def ah_iastore (md : ai_MD) (L : Nat) (en : ai_E) (G : ai_G) (als : ai_L) (st : List ai_V) (aw : ai_W) (cs ss : Nat) : Option ai_S := af_ast G als st aw cs ss 0 ai_isI
def ah_lastore (md : ai_MD) (L : Nat) (en : ai_E) (G : ai_G) (als : ai_L) (st : List ai_V) (aw : ai_W) (cs ss : Nat) : Option ai_S := af_ast G als st aw cs ss 1 ai_isL
def ah_bastore (md : ai_MD) (L : Nat) (en : ai_E) (G : ai_G) (als : ai_L) (st : List ai_V) (aw : ai_W) (cs ss : Nat) : Option ai_S := af_ast G als st aw cs ss 2 (ai_fit G .boolean)
def ah_aastore (md : ai_MD) (L : Nat) (en : ai_E) (G : ai_G) (als : ai_L) (st : List ai_V) (aw : ai_W) (cs ss : Nat) : Option ai_S := af_ast G als st aw cs ss 3 (fun v => ai_isR v && (match aw[v.2.1]? with
    | some (.inl (ci, _)) => ci == 2
    | _ => false))
def ah_arraylength (md : ai_MD) (L : Nat) (en : ai_E) (G : ai_G) (als : ai_L) (st : List ai_V) (aw : ai_W) (cs ss : Nat) : Option ai_S := ai_p1 st fun a r => bif a.1 == 7 && md.2.2.2.2.2.2.2 == 3 then some (als, ai_lI (Int32.ofNat L).toInt :: r, aw, cs, ss) else ai_gd (ai_isR a) ((aw[a.2.1]?).bind fun c => match c with
    | .inr (_, n, _, _) => some (als, ai_lI (Int32.ofNat n).toInt :: r, aw, cs, ss)
    | .inl _ => none)
def ah_new (md : ai_MD) (L : Nat) (en : ai_E) (G : ai_G) (als : ai_L) (st : List ai_V) (aw : ai_W) (cs ss : Nat) : Option ai_S := (vwCl[en.2.2.2.1]?).bind fun q => ai_gd ((List.range q.2.2).all (fun k => ai_okt (ai_ty en.2.2.2.1 k)) && (decide (cs + 1 ≤ md.2.2.2.2.2.2.1.cells) && decide (ss + q.2.2 ≤ md.2.2.2.2.2.2.1.slots))) (some (als, ((4, aw.length, 0, 0) : ai_V) :: st, aw ++ [.inl (en.2.2.2.1, (List.range q.2.2).map fun k => ai_dv (ai_ty en.2.2.2.1 k))], cs + 1, ss + q.2.2))
def ah_newarray (t : ArrayType) (md : ai_MD) (L : Nat) (en : ai_E) (G : ai_G) (als : ai_L) (st : List ai_V) (aw : ai_W) (cs ss : Nat) : Option ai_S := (ai_ak t).bind fun ty => ai_p1 st fun n r => ai_gd (n.1 == 0 && (decide (n.2.2.1 = n.2.2.2) && (decide (0 ≤ n.2.2.1) && (decide (n.2.2.1 ≤ 60000000) && (decide (cs + 1 ≤ md.2.2.2.2.2.2.1.cells) && decide (ss + n.2.2.1.toNat ≤ md.2.2.2.2.2.2.1.slots)))))) (some (als, ((4, aw.length, 0, 0) : ai_V) :: r, aw ++ [.inr (ty, n.2.2.1.toNat, (bif ty == 1 then ai_lL 0 else ai_lI 0), [])], cs + 1, ss + n.2.2.1.toNat))
def ah_anewarray (md : ai_MD) (L : Nat) (en : ai_E) (G : ai_G) (als : ai_L) (st : List ai_V) (aw : ai_W) (cs ss : Nat) : Option ai_S := ai_p1 st fun n r => ai_gd (n.1 == 0 && (decide (n.2.2.1 = n.2.2.2) && (decide (0 ≤ n.2.2.1) && (decide (n.2.2.1 ≤ 60000000) && (decide (cs + 1 ≤ md.2.2.2.2.2.2.1.cells) && decide (ss + n.2.2.1.toNat ≤ md.2.2.2.2.2.2.1.slots)))))) (some (als, ((4, aw.length, 0, 0) : ai_V) :: r, aw ++ [.inr (3, n.2.2.1.toNat, (5, 0, 0, 0), [])], cs + 1, ss + n.2.2.1.toNat))
def ah_invokespecial (md : ai_MD) (L : Nat) (en : ai_E) (G : ai_G) (als : ai_L) (st : List ai_V) (aw : ai_W) (cs ss : Nat) : Option ai_S := ai_gd (en.2.2.2.1 == 999) (ai_p1 st fun a r => ai_gd (ai_isR a && (decide (1 ≤ md.2.2.2.2.2.2.1.frames) && decide ((r.map ai_cat).sum + 12 ≤ md.2.2.2.2.2.2.1.locals))) (some (als, r, aw, cs, ss)))
def af_disp (ins : Instr) : ai_MD → Nat → ai_E → ai_G → ai_L → List ai_V → ai_W → Nat → Nat → Option ai_S := match ins with
  | .iconst n => ah_iconst n
  | .bipush n => ah_bipush n
  | .sipush n => ah_sipush n
  | .lconst n => ah_lconst n
  | .ldc _ => ah_ldc
  | .ldc_w _ => ah_ldc_w
  | .ldc2_w _ => ah_ldc2_w
  | .iload i => ah_iload i
  | .iload_n k => ah_iload_n k
  | .lload i => ah_lload i
  | .lload_n k => ah_lload_n k
  | .aload i => ah_aload i
  | .aload_n k => ah_aload_n k
  | .istore i => ah_istore i
  | .istore_n k => ah_istore_n k
  | .astore i => ah_astore i
  | .astore_n k => ah_astore_n k
  | .lstore i => ah_lstore i
  | .lstore_n k => ah_lstore_n k
  | .iinc i n => ah_iinc i n
  | .iadd => ah_iadd
  | .isub => ah_isub
  | .imul => ah_imul
  | .iand => ah_iand
  | .ior => ah_ior
  | .ixor => ah_ixor
  | .ishl => ah_ishl
  | .ishr => ah_ishr
  | .iushr => ah_iushr
  | .idiv => ah_idiv
  | .irem => ah_irem
  | .ladd => ah_ladd
  | .lsub => ah_lsub
  | .lmul => ah_lmul
  | .ldiv => ah_ldiv
  | .lrem => ah_lrem
  | .i2l => ah_i2l
  | .l2i => ah_l2i
  | .ineg => ah_ineg
  | .dup => ah_dup
  | .pop => ah_pop
  | .dup2 => ah_dup2
  | .getfield _ => ah_getfield
  | .putfield _ => ah_putfield
  | .iaload => ah_iaload
  | .laload => ah_laload
  | .baload => ah_baload
  | .aaload => ah_aaload
  | .iastore => ah_iastore
  | .lastore => ah_lastore
  | .bastore => ah_bastore
  | .aastore => ah_aastore
  | .arraylength => ah_arraylength
  | .new _ => ah_new
  | .newarray t => ah_newarray t
  | .anewarray _ => ah_anewarray
  | .invokespecial _ => ah_invokespecial
  | _ => fun _ _ _ _ _ _ _ _ _ => none
theorem ah_putfield_eq (i : Nat) (md : ai_MD) (L pc len na nb ni : Nat) (nz : Int) (G : ai_G) (als : ai_L) (st : List ai_V) (aw : ai_W) (cs ss : Nat) : ah_putfield md L (pc, .putfield i, len, na, nb, ni, nz) G als st aw cs ss = ai_simp md L (pc, .putfield i, len, na, nb, ni, nz) G als st aw cs ss := by
  unfold ah_putfield ai_simp
  dsimp only
  congr 1
  funext v a r
  congr 1
  cases hc : aw[a.2.1]? with
  | none => rfl
  | some c =>
    rcases c with ⟨ci, fs⟩ | q
    · dsimp only [Option.bind]
      congr 1
      cases h : (fs[nb]? == some v) with
      | false => rfl
      | true =>
        have e : fs[nb]? = some v := by simpa using h
        simp only [cond_true]
        rw [ai_set_self e, ai_set_self hc]
    · rfl
theorem af_disp_eq (md : ai_MD) (L : Nat) (en : ai_E) (G : ai_G) (als : ai_L) (st : List ai_V) (aw : ai_W) (cs ss : Nat) : af_disp en.2.1 md L en G als st aw cs ss = ai_simp md L en G als st aw cs ss := by
  obtain ⟨pc, ins, len, na, nb, ni, nz⟩ := en
  dsimp only
  cases ins with
  | iastore => exact af_ast_eq _ _ _ _ _ _ _ _
  | lastore => exact af_ast_eq _ _ _ _ _ _ _ _
  | bastore => exact af_ast_eq _ _ _ _ _ _ _ _
  | aastore => exact af_ast_eq _ _ _ _ _ _ _ _
  | putfield i => exact ah_putfield_eq i md L pc len na nb ni nz G als st aw cs ss
  | _ => rfl
def ac_goto (off : Int) (T : Nat → ai_MD) (B : Nat → Nat → List ai_E) (hk : ai_H) (run : Nat → ai_G → List ai_V → ai_W → Option (List ai_O)) (f : List ai_E → ai_G → ai_S → Option (List ai_O)) (M : Nat) (stops : List Nat) (en : ai_E) (rest : List ai_E) (G : ai_G) (x : ai_S) : Option (List ai_O) := ai_to f stops (B M ((en.1 : Int) + off).toNat) G x
def ac_ifCond (q : Jvm.ClassFile.Cond) (off : Int) (T : Nat → ai_MD) (B : Nat → Nat → List ai_E) (hk : ai_H) (run : Nat → ai_G → List ai_V → ai_W → Option (List ai_O)) (f : List ai_E → ai_G → ai_S → Option (List ai_O)) (M : Nat) (stops : List Nat) (en : ai_E) (rest : List ai_E) (G : ai_G) (x : ai_S) : Option (List ai_O) := ai_p1 x.2.1 fun a r => ai_gd (ai_isI a) (ai_br f stops (ai_op q) a (ai_lI 0) (B M ((en.1 : Int) + off).toNat) rest G (x.1, r, x.2.2))
def ac_if_icmp (q : Jvm.ClassFile.Cond) (off : Int) (T : Nat → ai_MD) (B : Nat → Nat → List ai_E) (hk : ai_H) (run : Nat → ai_G → List ai_V → ai_W → Option (List ai_O)) (f : List ai_E → ai_G → ai_S → Option (List ai_O)) (M : Nat) (stops : List Nat) (en : ai_E) (rest : List ai_E) (G : ai_G) (x : ai_S) : Option (List ai_O) := ai_p2 x.2.1 fun b a r => ai_gd (ai_isI a && ai_isI b) (ai_br f stops (ai_op q) a b (B M ((en.1 : Int) + off).toNat) rest G (x.1, r, x.2.2))
def ac_lcmp (T : Nat → ai_MD) (B : Nat → Nat → List ai_E) (hk : ai_H) (run : Nat → ai_G → List ai_V → ai_W → Option (List ai_O)) (f : List ai_E → ai_G → ai_S → Option (List ai_O)) (M : Nat) (stops : List Nat) (en : ai_E) (rest : List ai_E) (G : ai_G) (x : ai_S) : Option (List ai_O) := match rest with
    | en2 :: rest2 => match en2.2.1 with
      | .ifCond q off => ai_p2 x.2.1 fun b a r => ai_gd (ai_isL a && ai_isL b) (ai_br f stops (ai_op q) a b (B M ((en2.1 : Int) + off).toNat) rest2 G (x.1, r, x.2.2))
      | _ => none
    | [] => none
def ac_ifnonnull (off : Int) (T : Nat → ai_MD) (B : Nat → Nat → List ai_E) (hk : ai_H) (run : Nat → ai_G → List ai_V → ai_W → Option (List ai_O)) (f : List ai_E → ai_G → ai_S → Option (List ai_O)) (M : Nat) (stops : List Nat) (en : ai_E) (rest : List ai_E) (G : ai_G) (x : ai_S) : Option (List ai_O) := ai_p1 x.2.1 fun a r => bif a.1 == 5 then ai_to f stops rest G (x.1, r, x.2.2) else ai_gd (ai_isR a) (ai_to f stops (B M ((en.1 : Int) + off).toNat) G (x.1, r, x.2.2))
def ac_tableswitch (dflt : Int) (lo : Int) (hi : Int) (offs : Array Int) (T : Nat → ai_MD) (B : Nat → Nat → List ai_E) (hk : ai_H) (run : Nat → ai_G → List ai_V → ai_W → Option (List ai_O)) (f : List ai_E → ai_G → ai_S → Option (List ai_O)) (M : Nat) (stops : List Nat) (en : ai_E) (rest : List ai_E) (G : ai_G) (x : ai_S) : Option (List ai_O) := ai_p1 x.2.1 fun a r => ai_gd (ai_isI a && decide (offs.toList.length = (hi - lo + 1).toNat)) (ai_join (bif decide ((ai_b G a).1 < lo) then ai_to f stops (B M ((en.1 : Int) + dflt).toNat) (ai_ref2 G 2 a (ai_lI lo)) (x.1, r, x.2.2) else some []) (ai_join (bif decide (hi < (ai_b G a).2) then ai_to f stops (B M ((en.1 : Int) + dflt).toNat) (ai_ref2 G 4 a (ai_lI hi)) (x.1, r, x.2.2) else some []) (ai_sw (fun G' off => ai_to f stops (B M ((en.1 : Int) + off).toNat) G' (x.1, r, x.2.2)) G a lo offs.toList)))
def ac_ireturn (T : Nat → ai_MD) (B : Nat → Nat → List ai_E) (hk : ai_H) (run : Nat → ai_G → List ai_V → ai_W → Option (List ai_O)) (f : List ai_E → ai_G → ai_S → Option (List ai_O)) (M : Nat) (stops : List Nat) (en : ai_E) (rest : List ai_E) (G : ai_G) (x : ai_S) : Option (List ai_O) := ai_gd (ai_retB (T M) en.2.1 G x.2.1 && (decide (x.2.2.2.1 ≤ (T M).2.2.2.2.2.2.1.cells) && decide (x.2.2.2.2 ≤ (T M).2.2.2.2.2.2.1.slots))) (some [(en.1, G, x)])
def ac_lreturn (T : Nat → ai_MD) (B : Nat → Nat → List ai_E) (hk : ai_H) (run : Nat → ai_G → List ai_V → ai_W → Option (List ai_O)) (f : List ai_E → ai_G → ai_S → Option (List ai_O)) (M : Nat) (stops : List Nat) (en : ai_E) (rest : List ai_E) (G : ai_G) (x : ai_S) : Option (List ai_O) := ai_gd (ai_retB (T M) en.2.1 G x.2.1 && (decide (x.2.2.2.1 ≤ (T M).2.2.2.2.2.2.1.cells) && decide (x.2.2.2.2 ≤ (T M).2.2.2.2.2.2.1.slots))) (some [(en.1, G, x)])
def ac_return (T : Nat → ai_MD) (B : Nat → Nat → List ai_E) (hk : ai_H) (run : Nat → ai_G → List ai_V → ai_W → Option (List ai_O)) (f : List ai_E → ai_G → ai_S → Option (List ai_O)) (M : Nat) (stops : List Nat) (en : ai_E) (rest : List ai_E) (G : ai_G) (x : ai_S) : Option (List ai_O) := ai_gd (ai_retB (T M) en.2.1 G x.2.1 && (decide (x.2.2.2.1 ≤ (T M).2.2.2.2.2.2.1.cells) && decide (x.2.2.2.2 ≤ (T M).2.2.2.2.2.2.1.slots))) (some [(en.1, G, x)])
def ac_invokestatic (T : Nat → ai_MD) (B : Nat → Nat → List ai_E) (hk : ai_H) (run : Nat → ai_G → List ai_V → ai_W → Option (List ai_O)) (f : List ai_E → ai_G → ai_S → Option (List ai_O)) (M : Nat) (stops : List Nat) (en : ai_E) (rest : List ai_E) (G : ai_G) (x : ai_S) : Option (List ai_O) := ai_gd ((T en.2.2.2.1).2.2.2.2.2.2.2 == 1) (ai_call T hk run (ai_to f stops rest) M en.2.2.2.1 G x (T en.2.2.2.1).2.2.2.2.2.1)
def ac_invokespecial (T : Nat → ai_MD) (B : Nat → Nat → List ai_E) (hk : ai_H) (run : Nat → ai_G → List ai_V → ai_W → Option (List ai_O)) (f : List ai_E → ai_G → ai_S → Option (List ai_O)) (M : Nat) (stops : List Nat) (en : ai_E) (rest : List ai_E) (G : ai_G) (x : ai_S) : Option (List ai_O) := ai_gd (!(en.2.2.2.1 == 999) && ((T en.2.2.2.1).2.2.2.2.2.2.2 == 2 && (match x.2.1.drop (T en.2.2.2.1).2.2.2.2.2.1 with
    | a :: _ => ai_rcv x.2.2.1 a en.2.2.2.2.1
    | [] => false))) (ai_call T hk run (ai_to f stops rest) M en.2.2.2.1 G x ((T en.2.2.2.1).2.2.2.2.2.1 + 1))
def ac_invokevirtual (T : Nat → ai_MD) (B : Nat → Nat → List ai_E) (hk : ai_H) (run : Nat → ai_G → List ai_V → ai_W → Option (List ai_O)) (f : List ai_E → ai_G → ai_S → Option (List ai_O)) (M : Nat) (stops : List Nat) (en : ai_E) (rest : List ai_E) (G : ai_G) (x : ai_S) : Option (List ai_O) := ai_gd ((T en.2.2.2.1).2.2.2.2.2.2.2 == 0 && (match x.2.1.drop (T en.2.2.2.1).2.2.2.2.2.1 with
    | a :: _ => ai_rcv x.2.2.1 a en.2.2.2.2.1
    | [] => false)) (ai_call T hk run (ai_to f stops rest) M en.2.2.2.1 G x ((T en.2.2.2.1).2.2.2.2.2.1 + 1))
def af_ctl (ins : Instr) : (Nat → ai_MD) → (Nat → Nat → List ai_E) → ai_H → (Nat → ai_G → List ai_V → ai_W → Option (List ai_O)) → (List ai_E → ai_G → ai_S → Option (List ai_O)) → Nat → List Nat → ai_E → List ai_E → ai_G → ai_S → Option (List ai_O) := match ins with
  | .goto off => ac_goto off
  | .ifCond q off => ac_ifCond q off
  | .if_icmp q off => ac_if_icmp q off
  | .lcmp => ac_lcmp
  | .ifnonnull off => ac_ifnonnull off
  | .tableswitch dflt lo hi offs => ac_tableswitch dflt lo hi offs
  | .ireturn => ac_ireturn
  | .lreturn => ac_lreturn
  | .return_ => ac_return
  | .invokestatic _ => ac_invokestatic
  | .invokespecial _ => ac_invokespecial
  | .invokevirtual _ => ac_invokevirtual
  | _ => fun _ _ _ _ _ _ _ _ _ _ _ => none
theorem af_ctl_eq (T : Nat → ai_MD) (B : Nat → Nat → List ai_E) (hk : ai_H) (run : Nat → ai_G → List ai_V → ai_W → Option (List ai_O)) (f : List ai_E → ai_G → ai_S → Option (List ai_O)) (M : Nat) (stops : List Nat) (en : ai_E) (rest : List ai_E) (G : ai_G) (x : ai_S) : af_ctl en.2.1 T B hk run f M stops en rest G x = ai_ctl T B hk run f M stops en rest G x := by
  obtain ⟨pc, ins, len, na, nb, ni, nz⟩ := en
  dsimp only
  cases ins <;> rfl
theorem ai_ex_succ (T : Nat → ai_MD) (B : Nat → Nat → List ai_E) (hk : ai_H) (L n M : Nat) (stops : List Nat) (en : ai_E) (rest : List ai_E) (G : ai_G) (x : ai_S) : ai_ex T B hk L (n + 1) M stops (en :: rest) G x = (match ai_simp (T M) L en G x.1 x.2.1 x.2.2.1 x.2.2.2.1 x.2.2.2.2 with
    | some y => ai_to (ai_ex T B hk L n M stops) stops rest G y
    | none => ai_ctl T B hk (fun K G as aw => ai_ex T B hk L n K [] (B K 0) G (ai_arg 0 as, [], aw, 0, 0)) (ai_ex T B hk L n M stops) M stops en rest G x) := rfl
def af_step (T : Nat → ai_MD) (B : Nat → Nat → List ai_E) (hk : ai_H) (L : Nat) (ih : Nat → List Nat → List ai_E → ai_G → ai_S → Option (List ai_O)) (M : Nat) (stops : List Nat) (code : List ai_E) (G : ai_G) (x : ai_S) : Option (List ai_O) := match code with
  | [] => none
  | en :: rest => match af_disp en.2.1 (T M) L en G x.1 x.2.1 x.2.2.1 x.2.2.2.1 x.2.2.2.2 with
    | some y => ai_to (ih M stops) stops rest G y
    | none => af_ctl en.2.1 T B hk (fun K G as aw => ih K [] (B K 0) G (ai_arg 0 as, [], aw, 0, 0)) (ih M stops) M stops en rest G x
noncomputable def af_ex (T : Nat → ai_MD) (B : Nat → Nat → List ai_E) (hk : ai_H) (L n : Nat) : Nat → List Nat → List ai_E → ai_G → ai_S → Option (List ai_O) := Nat.rec (fun _ _ _ _ _ => none) (fun _ ih => af_step T B hk L ih) n
theorem af_ex_eq (T : Nat → ai_MD) (B : Nat → Nat → List ai_E) (hk : ai_H) (L : Nat) : ∀ n : Nat, af_ex T B hk L n = ai_ex T B hk L n
  | 0 => by
    funext M stops code G x
    rfl
  | n + 1 => by
    funext M stops code G x
    show af_step T B hk L (af_ex T B hk L n) M stops code G x = _
    rw [af_ex_eq T B hk L n]
    cases code with
    | nil => rfl
    | cons en rest =>
      rw [ai_ex_succ]
      unfold af_step
      dsimp only
      rw [af_disp_eq]
      cases ai_simp (T M) L en G x.1 x.2.1 x.2.2.1 x.2.2.2.1 x.2.2.2.2 with
      | some y => rfl
      | none => exact af_ctl_eq _ _ _ _ _ _ _ _ _ _ _
