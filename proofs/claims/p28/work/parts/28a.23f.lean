/-! ===== the class's state in whole numbers: many objects; fields of the cell k from 64 k on (by wip/gen/mkhc.py) ===== -/
def hc_obl : List (Option (Nat × List (Nat × Int))) := [some (9, [(4, 1), (4, 25), (4, 26), (4, 31), (4, 41), (4, 53), (4, 57), (4, 65), (0, 0)]), some (2, [(4, 2), (4, 4), (4, 6), (4, 8), (4, 10), (4, 12), (4, 14), (4, 16), (4, 18), (4, 20), (4, 22), (4, 24), (0, 0), (0, 0)]), some (5, [(0, 0), (0, 0), (4, 3), (0, 0)]), none, some (5, [(0, 0), (0, 0), (4, 5), (0, 0)]), none, some (5, [(0, 0), (0, 0), (4, 7), (0, 0)]), none, some (5, [(0, 0), (0, 0), (4, 9), (0, 0)]), none, some (5, [(0, 0), (0, 0), (4, 11), (0, 0)]), none, some (5, [(0, 0), (0, 0), (4, 13), (0, 0)]), none, some (5, [(0, 0), (0, 0), (4, 15), (0, 0)]), none, some (5, [(0, 0), (0, 0), (4, 17), (0, 0)]), none, some (5, [(0, 0), (0, 0), (4, 19), (0, 0)]), none, some (5, [(0, 0), (0, 0), (4, 21), (0, 0)]), none, some (5, [(0, 0), (0, 0), (4, 23), (0, 0)]), none, none, none, some (3, [(4, 1), (4, 27), (0, 0), (0, 0), (4, 28), (4, 29), (4, 30), (0, 0), (0, 0), (0, 0), (0, 0), (0, 0)]), none, none, none, none, some (7, [(4, 1), (4, 38), (0, 0), (0, 0), (2, 0), (2, 0), (0, 0), (4, 32), (4, 33), (4, 34), (0, 0), (4, 35), (4, 36), (4, 37)]), none, none, none, none, none, none, some (0, [(4, 12), (4, 39), (4, 40)]), none, none, some (6, [(4, 1), (4, 31), (0, 0), (4, 42), (4, 43), (4, 44), (4, 45), (4, 46), (4, 47), (4, 48), (4, 49), (4, 50), (4, 51), (0, 0), (4, 52)]), none, none, none, none, none, none, none, none, none, none, none, some (8, [(4, 1), (4, 54), (4, 55), (4, 56), (0, 0)]), none, none, none, some (4, [(4, 1), (4, 31), (4, 53), (4, 58), (4, 59), (4, 60), (4, 61), (0, 0), (0, 0), (4, 62), (4, 63), (4, 64)]), none, none, none, none, none, none, none, some (1, [(4, 1), (4, 53), (4, 66), (4, 67), (4, 68), (4, 69), (4, 70), (4, 71), (0, 0), (0, 0)]), none, none, none, none, none, none]
def hc_sh : List (Nat × Nat) := [(7, 0), (7, 0), (7, 0), (0, 48), (7, 0), (0, 2200), (7, 0), (0, 80), (7, 0), (0, 60), (7, 0), (0, 1200), (7, 0), (0, 4800), (7, 0), (0, 80), (7, 0), (0, 80), (7, 0), (0, 1000), (7, 0), (0, 480), (7, 0), (0, 1000), (0, 6), (9, 0), (7, 0), (0, 400), (0, 400), (0, 400), (0, 400), (7, 0), (2, 240), (2, 240), (0, 240), (0, 200), (2, 200), (0, 16), (7, 0), (0, 29), (0, 50), (7, 0), (0, 80), (0, 20), (2, 20), (2, 20), (0, 20), (0, 160), (0, 48), (2, 200), (0, 3200), (0, 20), (0, 8), (7, 0), (0, 7), (0, 7), (0, 7), (7, 0), (1, 896), (1, 8192), (1, 128), (0, 7), (0, 128), (0, 7), (1, 7), (7, 0), (0, 56), (0, 896), (0, 7), (0, 7), (0, 7), (0, 7)]
def hc_ob (k : Nat) : Option (Nat × List (Nat × Int)) := match hc_obl[k]? with
  | some o => o
  | none => none
def hc_c (k : Nat) : Option Nat := match hc_ob k with
  | some q => some q.1
  | none => none
def hc_g (k ci : Nat) (K : List (Nat × Int) → Prop) : Prop := match hc_ob k with
  | some q => hs_if (q.1 == ci) (K q.2)
  | none => False
/-- a field that isn't final -/
def hc_nf (ci nb : Nat) : Bool := match vwCl[ci]? with
  | some q => !(q.2.1 nb).2.2.2
  | none => false
def hc_ok (ex : Nat → va_E) (sh : List (Nat × Nat)) (tys : List (ClassId × FieldType)) (S : hs_S) (ws : va_W) : Prop := ws.length = 72 ∧ (∀ k q, hc_ob k = some q → ∃ a vs, ws[k]? = some (a, .inr (q.1, vs)) ∧ vs.length = q.2.length ∧ ∀ j fk, q.2[j]? = some fk → ∃ u, vs[j]? = some u ∧ hs_vm (ws.map Prod.fst) (hs_fv fk (S.1 (64 * k + j))) u ∧ (fk.1 = 2 → S.1 (64 * k + j) = 0 ∨ S.1 (64 * k + j) = 1)) ∧ (∀ k c, sh[k]? = some c → ¬ c.1 = 7 → ∃ a e, ws[k]? = some (a, e) ∧ hs_ar ex tys S k c e) ∧ ∀ k c, sh[k]? = some c → ¬ c.1 = 7 → hc_ob k = none
def hc_in (E : hs_E) (wl : List Nat) (sh : List (Nat × Nat)) (P : hs_Q) (nL : Nat) (f : List ai_E → hs_L → List hs_V → hs_S → Prop) (M : Nat) (en : ai_E) (r : List ai_E) (lv : hs_L) (st : List hs_V) (S : hs_S) : Prop := match en.2.1 with
  | .iconst z => hs_lit (-2147483648) 2147483647 z (f r lv ((0, z) :: st) S)
  | .bipush z => hs_lit (-128) 127 z (f r lv ((0, z) :: st) S)
  | .sipush z => hs_lit (-32768) 32767 z (f r lv ((0, z) :: st) S)
  | .lconst z => hs_if (Nat.ble z 1) (f r lv ((1, ((z : Nat) : Int)) :: st) S)
  | .ldc _ => hs_lit (-2147483648) 2147483647 en.2.2.2.2.2.2 (f r lv ((0, en.2.2.2.2.2.2) :: st) S)
  | .ldc2_w _ => hs_lit (-9223372036854775808) 9223372036854775807 en.2.2.2.2.2.2 (f r lv ((1, en.2.2.2.2.2.2) :: st) S)
  | .iload k => hs_oI (hs_lk lv k) fun x => f r lv ((0, x) :: st) S
  | .iload_n k => hs_oI (hs_lk lv k) fun x => f r lv ((0, x) :: st) S
  | .lload k => hs_oL (hs_lk lv k) fun x => f r lv ((1, x) :: st) S
  | .lload_n k => hs_oL (hs_lk lv k) fun x => f r lv ((1, x) :: st) S
  | .aload_n k => hs_oR (hs_lk lv k) fun x => f r lv ((4, x) :: st) S
  | .istore i => hs_sI st fun x q => hs_if (Nat.blt i nL) (f r (hs_s1 lv i (0, x)) q S)
  | .istore_n i => hs_sI st fun x q => hs_if (Nat.blt i nL) (f r (hs_s1 lv i (0, x)) q S)
  | .lstore i => hs_sL st fun x q => hs_if (Nat.blt (i + 1) nL) (f r (hs_s2 lv i (1, x)) q S)
  | .iinc i z => hs_oI (hs_lk lv i) fun x => hs_if (Nat.blt i nL) (hs_lit (-32768) 32767 z (hs_n32 (wl.contains en.1) (x + z) fun y => f r (hs_s1 lv i (0, y)) st S))
  | .iadd => hs_sI st fun y q => hs_sI q fun x q => hs_n32 (wl.contains en.1) (x + y) fun z => f r lv ((0, z) :: q) S
  | .isub => hs_sI st fun y q => hs_sI q fun x q => hs_n32 (wl.contains en.1) (x - y) fun z => f r lv ((0, z) :: q) S
  | .imul => hs_sI st fun y q => hs_sI q fun x q => hs_n32 (wl.contains en.1) (x * y) fun z => f r lv ((0, z) :: q) S
  | .ineg => hs_sI st fun x q => hs_n32 (wl.contains en.1) (-x) fun z => f r lv ((0, z) :: q) S
  | .idiv => hs_sI st fun y q => hs_sI q fun x q => ¬ y = 0 ∧ ∀ z, (0 ≤ x → 0 < y → z = x / y) → f r lv ((0, z) :: q) S
  | .iand => hs_sI st fun y q => hs_sI q fun x q => ∀ z, z = (Int32.ofInt x &&& Int32.ofInt y).toInt → (0 ≤ y → 0 ≤ z ∧ z ≤ y) → f r lv ((0, z) :: q) S
  | .ior => hs_sI st fun y q => hs_sI q fun x q => ∀ z, z = (Int32.ofInt x ||| Int32.ofInt y).toInt → f r lv ((0, z) :: q) S
  | .ixor => hs_sI st fun y q => hs_sI q fun x q => ∀ z, z = (Int32.ofInt x ^^^ Int32.ofInt y).toInt → f r lv ((0, z) :: q) S
  | .ishl => hs_sI st fun y q => hs_sI q fun x q => ∀ z, z = (Int32.ofInt x <<< (Int32.ofInt y &&& 31)).toInt → f r lv ((0, z) :: q) S
  | .ishr => hs_sI st fun _ q => hs_sI q fun _ q => ∀ z, f r lv ((0, z) :: q) S
  | .i2l => hs_sI st fun x q => f r lv ((1, x) :: q) S
  | .l2i => hs_sL st fun x q => ∀ z, (-2147483648 ≤ x → x ≤ 2147483647 → z = x) → f r lv ((0, z) :: q) S
  | .ladd => hs_sL st fun y q => hs_sL q fun x q => hs_w64 (x + y) fun z => f r lv ((1, z) :: q) S
  | .lsub => hs_sL st fun y q => hs_sL q fun x q => hs_w64 (x - y) fun z => f r lv ((1, z) :: q) S
  | .lmul => hs_sL st fun y q => hs_sL q fun x q => hs_w64 (x * y) fun z => f r lv ((1, z) :: q) S
  | .ldiv => hs_sL st fun y q => hs_sL q fun _ q => ¬ y = 0 ∧ ∀ z, f r lv ((1, z) :: q) S
  | .lcmp => hs_sL st fun y q => hs_sL q fun x q => ∀ z, (x < y → z = -1) → (x = y → z = 0) → (y < x → z = 1) → f r lv ((0, z) :: q) S
  | .dup => match st with
    | (0, z) :: q => f r lv ((0, z) :: (0, z) :: q) S
    | (4, z) :: q => f r lv ((4, z) :: (4, z) :: q) S
    | _ => False
  | .dup2 => match st with
    | (0, z) :: (4, y) :: q => f r lv ((0, z) :: (4, y) :: (0, z) :: (4, y) :: q) S
    | _ => False
  | .getfield _ => hs_sR st fun k q => hc_g k en.2.2.2.1 fun fks => hs_gf fks[en.2.2.2.2.1]? S (64 * k + en.2.2.2.2.1) fun v => f r lv (v :: q) S
  | .putfield _ => match st with
    | (t, w) :: q => hs_sR q fun k q => hc_g k en.2.2.2.1 fun fks => hs_if (hc_nf en.2.2.2.1 en.2.2.2.2.1) (hs_pf fks[en.2.2.2.2.1]? (t, w) (f r lv q (hs_up S.1 (64 * k + en.2.2.2.2.1) w, S.2)))
    | _ => False
  | .iaload => hs_sI st fun i q => hs_sR q fun k q => hs_if (Nat.blt 0 k) (hs_at sh[k]? 0 i (f r lv ((0, S.2 k i.toNat) :: q) S))
  | .baload => hs_sI st fun i q => hs_sR q fun k q => hs_if (Nat.blt 0 k) (hs_at sh[k]? 2 i (f r lv ((0, S.2 k i.toNat) :: q) S))
  | .laload => hs_sI st fun i q => hs_sR q fun k q => hs_if (Nat.blt 0 k) (hs_at sh[k]? 1 i (f r lv ((1, S.2 k i.toNat) :: q) S))
  | .iastore => hs_sI st fun v q => hs_sI q fun i q => hs_sR q fun k q => hs_if (Nat.blt 0 k) (hs_at sh[k]? 0 i (f r lv q (S.1, hs_ua S.2 k i.toNat v)))
  | .bastore => hs_sI st fun v q => hs_sI q fun i q => hs_sR q fun k q => hs_if (Nat.blt 0 k) (hs_at sh[k]? 2 i (hs_bl v (f r lv q (S.1, hs_ua S.2 k i.toNat v))))
  | .lastore => hs_sL st fun v q => hs_sI q fun i q => hs_sR q fun k q => hs_if (Nat.blt 0 k) (hs_at sh[k]? 1 i (f r lv q (S.1, hs_ua S.2 k i.toNat v)))
  | .goto off => f (ai_B1 M ((en.1 : Int) + off).toNat) lv st S
  | .ifCond c off => hs_sI st fun x q => hs_cd c x 0 (f (ai_B1 M ((en.1 : Int) + off).toNat) lv q S) (f r lv q S)
  | .if_icmp c off => hs_sI st fun y q => hs_sI q fun x q => hs_cd c x y (f (ai_B1 M ((en.1 : Int) + off).toNat) lv q S) (f r lv q S)
  | .tableswitch dflt lo hi offs => hs_sI st fun x q => hs_if (decide (offs.toList.length = (hi - lo + 1).toNat)) ((x < lo ∨ hi < x → f (ai_B1 M ((en.1 : Int) + dflt).toNat) lv q S) ∧ hs_swi (fun off => f (ai_B1 M ((en.1 : Int) + off).toNat) lv q S) x lo offs.toList)
  | .invokestatic _ => hs_if (Nat.blt en.2.2.2.1 900 && (en.2.2.2.2.2.1 == 0 && ((ai_T en.2.2.2.1).2.2.2.2.2.2.2 == 1 && hs_may (ai_T M) (ai_T en.2.2.2.1) (ai_T en.2.2.2.1).2.2.2.2.2.1 st))) (E en.2.2.2.1 (st.take (ai_T en.2.2.2.1).2.2.2.2.2.1).reverse S fun ro S' => f r lv (ro ++ st.drop (ai_T en.2.2.2.1).2.2.2.2.2.1) S')
  | .invokevirtual _ => hs_if ((ai_T en.2.2.2.1).2.2.2.2.2.2.2 == 0 && (hs_may (ai_T M) (ai_T en.2.2.2.1) ((ai_T en.2.2.2.1).2.2.2.2.2.1 + 1) st && (match st.drop (ai_T en.2.2.2.1).2.2.2.2.2.1 with
    | a :: _ => a.1 == 4 && hc_c a.2.toNat == some en.2.2.2.2.1
    | [] => false))) (E en.2.2.2.1 (st.take ((ai_T en.2.2.2.1).2.2.2.2.2.1 + 1)).reverse S fun ro S' => f r lv (ro ++ st.drop ((ai_T en.2.2.2.1).2.2.2.2.2.1 + 1)) S')
  | .ireturn => match st with
    | [(0, z)] => hs_rI (ai_T M).2.2.2.2.1 z (P [(0, z)] S)
    | _ => False
  | .lreturn => match st with
    | [(1, z)] => hs_rL (ai_T M).2.2.2.2.1 (P [(1, z)] S)
    | _ => False
  | .return_ => match st with
    | [] => hs_rV (ai_T M).2.2.2.2.1 (P [] S)
    | _ => False
  | _ => False
/-- to a place: at a cut what is said of it -/
def hc_to (f : List ai_E → hs_L → List hs_V → hs_S → Prop) (hs : List Nat) (J : Nat → hs_L → List hs_V → hs_S → Prop) (c : List ai_E) (lv : hs_L) (st : List hs_V) (S : hs_S) : Prop := match c with
  | [] => False
  | en :: _ => match hs.contains en.1 with
    | true => J en.1 lv st S
    | false => f c lv st S
def hc_wp (E : hs_E) (wl : List Nat) (sh : List (Nat × Nat)) (P : hs_Q) (nL : Nat) (hs : List Nat) (J : Nat → hs_L → List hs_V → hs_S → Prop) (M : Nat) : Nat → List ai_E → hs_L → List hs_V → hs_S → Prop
  | 0, _, _, _, _ => False
  | n + 1, code, lv, st, S => match code with
    | [] => False
    | en :: r => hc_in E wl sh P nL (hc_to (hc_wp E wl sh P nL hs J M n) hs J) M en r lv st S
