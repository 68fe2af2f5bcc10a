/-! ===== the reference's state in whole numbers, and what must hold ahead of code: for methods that are proved by hand ===== -/
abbrev hs_V : Type := Nat × Int
abbrev hs_L : Type := List (Nat × hs_V)
abbrev hs_S : Type := (Nat → Int) × (Nat → Nat → Int)
abbrev hs_Q : Type := List hs_V → hs_S → Prop
abbrev hs_T : Type := List hs_V → hs_S → hs_Q → Prop
def hs_up (f : Nat → Int) (i : Nat) (v : Int) : Nat → Int := fun j => bif j == i then v else f j
def hs_ua (A : Nat → Nat → Int) (k i : Nat) (v : Int) : Nat → Nat → Int := fun a => bif a == k then (fun j => bif j == i then v else A k j) else A a
/-- fields: 0 int, 1 long, 2 boolean, 4 a cell -/
def hs_fk : List (Nat × Int) := [(0, 0), (0, 0), (4, 1), (4, 2), (4, 3), (0, 0), (0, 0), (4, 4), (4, 5), (4, 6), (0, 0), (0, 0), (0, 0), (0, 0), (1, 0), (0, 0), (2, 0), (0, 0), (4, 7), (0, 0), (4, 8), (4, 9), (0, 0), (4, 10), (4, 11), (0, 0), (0, 0), (4, 12), (4, 13), (4, 14), (4, 15), (2, 0), (1, 0), (1, 0), (0, 0), (4, 16), (4, 17), (4, 18), (4, 19), (4, 20), (4, 21), (4, 22), (4, 23), (2, 0), (0, 0), (0, 0), (4, 24), (4, 25), (4, 26), (4, 27), (0, 0), (0, 0), (4, 28), (2, 0), (0, 0), (4, 29), (4, 30), (4, 31), (4, 32), (0, 0), (1, 0), (1, 0)]
/-- cells: kind (0 int, 1 long, 2 boolean, 9 not looked into) and length -/
def hs_sh : List (Nat × Nat) := [(7, 0), (0, 23016), (9, 0), (9, 1), (2, 200), (0, 16), (0, 400), (0, 96), (0, 400), (0, 400), (0, 400), (0, 400), (2, 20), (2, 240), (1, 17), (1, 400), (0, 7), (0, 7), (0, 7), (0, 7), (0, 7), (0, 7), (0, 7), (0, 7), (0, 7), (2, 10), (0, 8), (0, 8), (0, 20), (0, 7), (0, 7), (0, 7), (0, 7)]
def hs_sh2 : List (Nat × Nat) := [(7, 0), (0, 23016), (0, 46032), (2, 2), (2, 200), (0, 16), (0, 400), (0, 96), (0, 400), (0, 400), (0, 400), (0, 400), (2, 20), (2, 240), (1, 17), (1, 400), (0, 7), (0, 7), (0, 7), (0, 7), (0, 7), (0, 7), (0, 7), (0, 7), (0, 7), (2, 10), (0, 8), (0, 8), (0, 20), (0, 7), (0, 7), (0, 7), (0, 7)]
def hs_vm (ad : List Nat) (v : hs_V) (u : Value) : Prop := match v with
  | (0, z) => ∃ x : Int32, u = .int x ∧ x.toInt = z
  | (1, z) => ∃ x : Int64, u = .long x ∧ x.toInt = z
  | (4, z) => ∃ q, ad[z.toNat]? = some q ∧ u = .ref q
  | _ => False
def hs_fv (fk : Nat × Int) (z : Int) : hs_V := match fk with
  | (0, _) => (0, z)
  | (1, _) => (1, z)
  | (2, _) => (0, z)
  | (t, c) => (t, c)
def hs_ob (ad : List Nat) (S : hs_S) (e : va_E) : Prop := ∃ vs : List Value, e = .inr (10, vs) ∧ vs.length = 62 ∧ ∀ j fk, hs_fk[j]? = some fk → ∃ u, vs[j]? = some u ∧ hs_vm ad (hs_fv fk (S.1 j)) u ∧ (fk.1 = 2 → S.1 j = 0 ∨ S.1 j = 1)
def hs_ar (ex : Nat → va_E) (tys : List (ClassId × FieldType)) (S : hs_S) (k : Nat) (c : Nat × Nat) (e : va_E) : Prop := match c with
  | (0, n) => ∃ (cA : ClassId) (f : Nat → Int32) (t0 : Nat), e = .inl (cA, n, .inl f) ∧ tys[t0]? = some (cA, .int) ∧ ∀ j, j < n → (f j).toInt = S.2 k j
  | (1, n) => ∃ (cA : ClassId) (f : Nat → Int64) (t0 : Nat), e = .inl (cA, n, .inr (.inl f)) ∧ tys[t0]? = some (cA, .long) ∧ ∀ j, j < n → (f j).toInt = S.2 k j
  | (2, n) => ∃ (cA : ClassId) (f : Nat → Int32) (t0 : Nat), e = .inl (cA, n, .inl f) ∧ tys[t0]? = some (cA, .boolean) ∧ ∀ j, j < n → (f j).toInt = S.2 k j
  | (9, n) => e = ex n
  | _ => False
def hs_ok (ex : Nat → va_E) (sh : List (Nat × Nat)) (tys : List (ClassId × FieldType)) (S : hs_S) (ws : va_W) : Prop := ws.length = 33 ∧ (∃ a e, ws[0]? = some (a, e) ∧ hs_ob (ws.map Prod.fst) S e) ∧ ∀ k c, 0 < k → sh[k]? = some c → ∃ a e, ws[k]? = some (a, e) ∧ hs_ar ex tys S k c e
def hs_lv (ad : List Nat) (lv : hs_L) (nL : Nat) (ls : Array Slot) : Prop := ∃ l, lv_has ls nL l ∧ ai_F2 (fun (a : Nat × hs_V) (q : Nat × Value) => a.1 = q.1 ∧ hs_vm ad a.2 q.2) lv l
theorem hs_vm.cat {ad : List Nat} {v : hs_V} {u : Value} (h : hs_vm ad v u) : u.category = (bif v.1 == 1 then 2 else 1) := by
  obtain ⟨n, z⟩ := v
  match n, h with
  | 0, h => obtain ⟨x, rfl, -⟩ := h; rfl
  | 1, h => obtain ⟨x, rfl, -⟩ := h; rfl
  | 4, h => obtain ⟨q, -, rfl⟩ := h; rfl
def hs_cat (v : hs_V) : Nat := bif v.1 == 1 then 2 else 1
theorem hs_cats {ad : List Nat} : ∀ {r : List hs_V} {q : List Value}, ai_F2 (hs_vm ad) r q → (q.map fun v => v.category) = r.map hs_cat
  | [], [], _ => rfl
  | a :: r, b :: q, h => by rw [List.map_cons, List.map_cons, h.1.cat, hs_cats h.2]; rfl
  | [], _ :: _, h => h.elim
  | _ :: _, [], h => h.elim
/-! ===== what must hold ahead of an instruction ===== -/
def hs_lk : hs_L → Nat → Option hs_V
  | [], _ => none
  | (k, v) :: r, i => bif k == i then some v else hs_lk r i
def hs_s1 (lv : hs_L) (i : Nat) (v : hs_V) : hs_L := (i, v) :: lv.filter (fun q => !(q.1 == i) && !(q.1 + 1 == i && hs_cat q.2 == 2))
def hs_s2 (lv : hs_L) (i : Nat) (v : hs_V) : hs_L := (i, v) :: lv.filter (fun q => !(q.1 == i) && (!(q.1 == i + 1) && !(q.1 + 1 == i && hs_cat q.2 == 2)))
def hs_oI (o : Option hs_V) (k : Int → Prop) : Prop := match o with
  | some (0, z) => k z
  | _ => False
def hs_oL (o : Option hs_V) (k : Int → Prop) : Prop := match o with
  | some (1, z) => k z
  | _ => False
def hs_oR (o : Option hs_V) (k : Int → Prop) : Prop := match o with
  | some (4, z) => k z
  | _ => False
def hs_sI (st : List hs_V) (k : Int → List hs_V → Prop) : Prop := match st with
  | (0, z) :: r => k z r
  | _ => False
def hs_sL (st : List hs_V) (k : Int → List hs_V → Prop) : Prop := match st with
  | (1, z) :: r => k z r
  | _ => False
def hs_sR (st : List hs_V) (k : Nat → List hs_V → Prop) : Prop := match st with
  | (4, z) :: r => k z.toNat r
  | _ => False
def hs_if (b : Bool) (k : Prop) : Prop := match b with
  | true => k
  | false => False
/-- a whole number that fits, or one of which nothing is told -/
def hs_n32 (b : Bool) (x : Int) (k : Int → Prop) : Prop := match b with
  | true => ∀ z, -2147483648 ≤ z → z ≤ 2147483647 → k z
  | false => (-2147483648 ≤ x ∧ x ≤ 2147483647) ∧ k x
def hs_w64 (x : Int) (k : Int → Prop) : Prop := ∀ z, (-9223372036854775808 ≤ x → x ≤ 9223372036854775807 → z = x) → k z
def hs_lit (lo hi z : Int) (k : Prop) : Prop := hs_if (Int.ble' lo z && Int.ble' z hi) k
def hs_bl (z : Int) (k : Prop) : Prop := (z = 0 ∨ z = 1) ∧ k
/-- a jump's condition -/
def hs_cd (q : Jvm.ClassFile.Cond) (x y : Int) (a b : Prop) : Prop := match q with
  | .eq => (x = y → a) ∧ (¬ x = y → b)
  | .ne => (¬ x = y → a) ∧ (x = y → b)
  | .lt => (x < y → a) ∧ (¬ x < y → b)
  | .ge => (y ≤ x → a) ∧ (¬ y ≤ x → b)
  | .gt => (y < x → a) ∧ (¬ y < x → b)
  | .le => (x ≤ y → a) ∧ (¬ x ≤ y → b)
def hs_swi (f : Int → Prop) (x : Int) : Int → List Int → Prop
  | _, [] => True
  | j, off :: r => (x = j → f off) ∧ hs_swi f x (j + 1) r
def hs_may (mM mK : ai_MD) (tot : Nat) (st : List hs_V) : Bool := Nat.ble tot st.length && (Nat.ble ((st.drop tot).map hs_cat).sum 8 && (Nat.ble (mK.2.2.2.2.2.2.1.frames + 1) mM.2.2.2.2.2.2.1.frames && (Nat.ble (8 + (mK.2.2.2.1 + 11) + mK.2.2.2.2.2.2.1.locals) mM.2.2.2.2.2.2.1.locals && (Nat.ble ((st.take tot).map hs_cat).sum mK.2.2.2.1 && (mK.2.2.2.2.2.2.1.cells == 0 && mK.2.2.2.2.2.2.1.slots == 0)))))
def hs_gf (fk : Option (Nat × Int)) (S : hs_S) (nb : Nat) (k : hs_V → Prop) : Prop := match fk with
  | some (0, _) => k (0, S.1 nb)
  | some (1, _) => k (1, S.1 nb)
  | some (2, _) => k (0, S.1 nb)
  | some (t, c) => k (t, c)
  | none => False
def hs_pf (fk : Option (Nat × Int)) (v : hs_V) (k : Prop) : Prop := match fk with
  | some (0, _) => hs_if (v.1 == 0) k
  | some (1, _) => hs_if (v.1 == 1) k
  | some (2, _) => hs_if (v.1 == 0) (hs_bl v.2 k)
  | _ => False
def hs_at (c : Option (Nat × Nat)) (ty : Nat) (i : Int) (k : Prop) : Prop := match c with
  | some (t, n) => hs_if (t == ty) ((0 ≤ i ∧ i < (n : Int)) ∧ k)
  | none => False
def hs_rI (ret : Option FieldType) (z : Int) (k : Prop) : Prop := match ret with
  | some .int => k
  | some .boolean => hs_bl z k
  | _ => False
def hs_rL (ret : Option FieldType) (k : Prop) : Prop := match ret with
  | some .long => k
  | _ => False
def hs_rV (ret : Option FieldType) (k : Prop) : Prop := match ret with
  | none => k
  | _ => False
abbrev hs_E : Type := Nat → hs_T
def hs_in (E : hs_E) (wl : List Nat) (sh : List (Nat × Nat)) (P : hs_Q) (nL : Nat) (f : List ai_E → hs_L → List hs_V → hs_S → Prop) (M : Nat) (en : ai_E) (r : List ai_E) (lv : hs_L) (st : List hs_V) (S : hs_S) : Prop := match en.2.1 with
  | .iconst z => hs_lit (-2147483648) 2147483647 z (f r lv ((0, z) :: st) S)
  | .bipush z => hs_lit (-128) 127 z (f r lv ((0, z) :: st) S)
  | .sipush z => hs_lit (-32768) 32767 z (f r lv ((0, z) :: st) S)
  | .lconst z => hs_if (Nat.ble z 1) (f r lv ((1, ((z : Nat) : Int)) :: st) S)
  | .ldc2_w _ => hs_lit (-9223372036854775808) 9223372036854775807 en.2.2.2.2.2.2 (f r lv ((1, en.2.2.2.2.2.2) :: st) S)
  | .iload k => hs_oI (hs_lk lv k) fun x => f r lv ((0, x) :: st) S
  | .iload_n k => hs_oI (hs_lk lv k) fun x => f r lv ((0, x) :: st) S
  | .lload k => hs_oL (hs_lk lv k) fun x => f r lv ((1, x) :: st) S
  | .lload_n k => hs_oL (hs_lk lv k) fun x => f r lv ((1, x) :: st) S
  | .aload_n k => hs_oR (hs_lk lv k) fun x => f r lv ((4, x) :: st) S
  | .istore i => hs_sI st fun x q => hs_if (Nat.blt i nL) (f r (hs_s1 lv i (0, x)) q S)
  | .istore_n i => hs_sI st fun x q => hs_if (Nat.blt i nL) (f r (hs_s1 lv i (0, x)) q S)
  | .lstore i => hs_sL st fun x q => hs_if (Nat.blt (i + 1) nL) (f r (hs_s2 lv i (1, x)) q S)
  | .iinc i z => hs_oI (hs_lk lv i) fun x => hs_if (Nat.blt i nL) (hs_lit (-32768) 32767 z (hs_n32 (wl.contains en.1) (x + z) fun y => f r (hs_s1 lv i (0, y)) st S))
  | .iadd => hs_sI st fun y q => hs_sI q fun x q => hs_n32 (wl.contains en.1) (x + y) fun z => f r lv ((0, z) :: q) S
  | .isub => hs_sI st fun y q => hs_sI q fun x q => hs_n32 (wl.contains en.1) (x - y) fun z => f r lv ((0, z) :: q) S
  | .imul => hs_sI st fun y q => hs_sI q fun x q => hs_n32 (wl.contains en.1) (x * y) fun z => f r lv ((0, z) :: q) S
  | .ineg => hs_sI st fun x q => hs_n32 (wl.contains en.1) (-x) fun z => f r lv ((0, z) :: q) S
  | .idiv => hs_sI st fun y q => hs_sI q fun x q => ¬ y = 0 ∧ ∀ z, (0 ≤ x → 0 < y → z = x / y) → f r lv ((0, z) :: q) S
  | .iand => hs_sI st fun y q => hs_sI q fun _ q => ∀ z, (0 ≤ y → 0 ≤ z ∧ z ≤ y) → f r lv ((0, z) :: q) S
  | .ior => hs_sI st fun _ q => hs_sI q fun _ q => ∀ z, f r lv ((0, z) :: q) S
  | .ishl => hs_sI st fun _ q => hs_sI q fun _ q => ∀ z, f r lv ((0, z) :: q) S
  | .ishr => hs_sI st fun _ q => hs_sI q fun _ q => ∀ z, f r lv ((0, z) :: q) S
  | .i2l => hs_sI st fun x q => f r lv ((1, x) :: q) S
  | .l2i => hs_sL st fun x q => ∀ z, (-2147483648 ≤ x → x ≤ 2147483647 → z = x) → f r lv ((0, z) :: q) S
  | .ladd => hs_sL st fun y q => hs_sL q fun x q => hs_w64 (x + y) fun z => f r lv ((1, z) :: q) S
  | .lsub => hs_sL st fun y q => hs_sL q fun x q => hs_w64 (x - y) fun z => f r lv ((1, z) :: q) S
  | .lmul => hs_sL st fun y q => hs_sL q fun x q => hs_w64 (x * y) fun z => f r lv ((1, z) :: q) S
  | .ldiv => hs_sL st fun y q => hs_sL q fun _ q => ¬ y = 0 ∧ ∀ z, f r lv ((1, z) :: q) S
  | .lcmp => hs_sL st fun y q => hs_sL q fun x q => ∀ z, (x < y → z = -1) → (x = y → z = 0) → (y < x → z = 1) → f r lv ((0, z) :: q) S
  | .dup => match st with
    | (0, z) :: q => f r lv ((0, z) :: (0, z) :: q) S
    | (4, z) :: q => f r lv ((4, z) :: (4, z) :: q) S
    | _ => False
  | .dup2 => match st with
    | (0, z) :: (4, y) :: q => f r lv ((0, z) :: (4, y) :: (0, z) :: (4, y) :: q) S
    | _ => False
  | .getfield _ => hs_sR st fun k q => hs_if (k == 0 && (en.2.2.2.1 == 10)) (hs_gf hs_fk[en.2.2.2.2.1]? S en.2.2.2.2.1 fun v => f r lv (v :: q) S)
  | .putfield _ => match st with
    | (t, w) :: q => hs_sR q fun k q => hs_if (k == 0 && (en.2.2.2.1 == 10)) (hs_pf hs_fk[en.2.2.2.2.1]? (t, w) (f r lv q (hs_up S.1 en.2.2.2.2.1 w, S.2)))
    | _ => False
  | .iaload => hs_sI st fun i q => hs_sR q fun k q => hs_if (Nat.blt 0 k) (hs_at sh[k]? 0 i (f r lv ((0, S.2 k i.toNat) :: q) S))
  | .baload => hs_sI st fun i q => hs_sR q fun k q => hs_if (Nat.blt 0 k) (hs_at sh[k]? 2 i (f r lv ((0, S.2 k i.toNat) :: q) S))
  | .laload => hs_sI st fun i q => hs_sR q fun k q => hs_if (Nat.blt 0 k) (hs_at sh[k]? 1 i (f r lv ((1, S.2 k i.toNat) :: q) S))
  | .iastore => hs_sI st fun v q => hs_sI q fun i q => hs_sR q fun k q => hs_if (Nat.blt 0 k) (hs_at sh[k]? 0 i (f r lv q (S.1, hs_ua S.2 k i.toNat v)))
  | .bastore => hs_sI st fun v q => hs_sI q fun i q => hs_sR q fun k q => hs_if (Nat.blt 0 k) (hs_at sh[k]? 2 i (hs_bl v (f r lv q (S.1, hs_ua S.2 k i.toNat v))))
  | .lastore => hs_sL st fun v q => hs_sI q fun i q => hs_sR q fun k q => hs_if (Nat.blt 0 k) (hs_at sh[k]? 1 i (f r lv q (S.1, hs_ua S.2 k i.toNat v)))
  | .goto off => f (ai_B1 M ((en.1 : Int) + off).toNat) lv st S
  | .ifCond c off => hs_sI st fun x q => hs_cd c x 0 (f (ai_B1 M ((en.1 : Int) + off).toNat) lv q S) (f r lv q S)
  | .if_icmp c off => hs_sI st fun y q => hs_sI q fun x q => hs_cd c x y (f (ai_B1 M ((en.1 : Int) + off).toNat) lv q S) (f r lv q S)
  | .tableswitch dflt lo hi offs => hs_sI st fun x q => hs_if (decide (offs.toList.length = (hi - lo + 1).toNat)) ((x < lo ∨ hi < x → f (ai_B1 M ((en.1 : Int) + dflt).toNat) lv q S) ∧ hs_swi (fun off => f (ai_B1 M ((en.1 : Int) + off).toNat) lv q S) x lo offs.toList)
  | .invokestatic _ => hs_if (Nat.blt en.2.2.2.1 900 && (en.2.2.2.2.2.1 == 0 && ((ai_T en.2.2.2.1).2.2.2.2.2.2.2 == 1 && hs_may (ai_T M) (ai_T en.2.2.2.1) (ai_T en.2.2.2.1).2.2.2.2.2.1 st))) (E en.2.2.2.1 (st.take (ai_T en.2.2.2.1).2.2.2.2.2.1).reverse S fun ro S' => f r lv (ro ++ st.drop (ai_T en.2.2.2.1).2.2.2.2.2.1) S')
  | .invokevirtual _ => hs_if ((ai_T en.2.2.2.1).2.2.2.2.2.2.2 == 0 && (en.2.2.2.2.1 == 10 && (hs_may (ai_T M) (ai_T en.2.2.2.1) ((ai_T en.2.2.2.1).2.2.2.2.2.1 + 1) st && (match st.drop (ai_T en.2.2.2.1).2.2.2.2.2.1 with
    | a :: _ => a.1 == 4 && a.2.toNat == 0
    | [] => false)))) (E en.2.2.2.1 (st.take ((ai_T en.2.2.2.1).2.2.2.2.2.1 + 1)).reverse S fun ro S' => f r lv (ro ++ st.drop ((ai_T en.2.2.2.1).2.2.2.2.2.1 + 1)) S')
  | .ireturn => match st with
    | [(0, z)] => hs_rI (ai_T M).2.2.2.2.1 z (P [(0, z)] S)
    | _ => False
  | .lreturn => match st with
    | [(1, z)] => hs_rL (ai_T M).2.2.2.2.1 (P [(1, z)] S)
    | _ => False
  | .return_ => match st with
    | [] => hs_rV (ai_T M).2.2.2.2.1 (P [] S)
    | _ => False
  | _ => False
/-- to a place: at a cut what is said of it -/
def hs_to (f : List ai_E → hs_L → List hs_V → hs_S → Prop) (hs : List Nat) (J : Nat → hs_L → List hs_V → hs_S → Prop) (c : List ai_E) (lv : hs_L) (st : List hs_V) (S : hs_S) : Prop := match c with
  | [] => False
  | en :: _ => match hs.contains en.1 with
    | true => J en.1 lv st S
    | false => f c lv st S
def hs_wp (E : hs_E) (wl : List Nat) (sh : List (Nat × Nat)) (P : hs_Q) (nL : Nat) (hs : List Nat) (J : Nat → hs_L → List hs_V → hs_S → Prop) (M : Nat) : Nat → List ai_E → hs_L → List hs_V → hs_S → Prop
  | 0, _, _, _, _ => False
  | n + 1, code, lv, st, S => match code with
    | [] => False
    | en :: r => hs_in E wl sh P nL (hs_to (hs_wp E wl sh P nL hs J M n) hs J) M en r lv st S
