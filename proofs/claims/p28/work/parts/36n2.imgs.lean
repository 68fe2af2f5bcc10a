/-! ===== image and back of the class, with the tables told ===== -/
noncomputable def in_run (K : Nat) (f : Nat → Room) (sh a : Nat) : Option (List ai_O) := af_ex (ai_Tr ai_T f) ai_B1 iw_h iw_N 0 3000 K [] (ai_B1 K 0) (nv_G ++ ib_q a) (ai_arg 0 [(4, 0, 0, 0), in_v a], [], x_up 0 (iN sh), 0, 0)
def in_Zi (a : Nat) : Int := bif Nat.blt a 2 then 0 else -1
def in_Zk (sh a : Nat) : Int := bif Nat.blt a 2 then (bif ib_p sh a then 0 else -2) else -1
/-- where an image's land begins -/
def t_b (sh a : Nat) : Nat := match sh, a with
  | 3, 1 => 96
  | 4, 0 => 96
  | _, _ => 72
/-- a table's cell: which table, how long -/
def x_q (k : Nat) : Nat := bif k == 17 || (k == 88 || k == 112) then 0 else bif k == 19 || (k == 90 || k == 114) then 1 else bif k == 23 || (k == 94 || k == 118) then 2 else 3
def x_n (k : Nat) : Nat := match x_q k with
  | 0 => 80
  | 1 => 1000
  | 2 => 1000
  | _ => 6
/-- so far it is the same: below the count times the width -/
def x_l (o : Nat) (q : Nat) : Int × Int := match q with
  | 0 => ((o : Int) + 3, 2)
  | 1 => ((o : Int) + 4, 5)
  | 2 => ((o : Int) + 5, 5)
  | _ => (-1, 6)
/-- from which cell a table is behind image, behind back -/
def x_i (sh' a k : Nat) : ai_V := bif Nat.blt a 2 && (Nat.ble (t_b sh' a) k && Nat.blt k (t_b sh' a + 24)) then (10, 100 + (k + 1 - t_b sh' a), (x_l 0 (x_q k)).1, (x_l 0 (x_q k)).2) else (10, 100 + k, 0, 0)
def x_b (e : Bool) (sh a k : Nat) : ai_V := bif e && Nat.blt k 72 then (10, 100 + (k + t_b sh a - 1), (x_l (6 + 6 * a) (x_q k)).1, (x_l (6 + 6 * a) (x_q k)).2) else (10, 100 + k, 0, 0)
def x_e (f : Nat → ai_V) (aw : ai_W) : Bool := x_k.all fun k => match aw[k]? with
  | some (.inr (t, n, d, ov)) => t == 0 && (n == x_n k && (d == f k && ov.isEmpty))
  | some _ => false
  | none => true
def la_endx (Z : Int) (cvs : List ai_V) (W' : ai_W) (f : Nat → ai_V) (o : ai_O) : Bool := (match o.2.2.2.1 with
  | [(0, _, u, v)] => u == Z && v == Z
  | _ => false) && (ai_all2 (ai_sbc o.2.1 0 cvs) (o.2.2.2.2.1.map x_pc) W' && x_e f o.2.2.2.2.1)
noncomputable def in_i (sh a : Nat) : Bool := iw_all (in_run 325 (ib_rm (ib_nw sh a)) sh a) (la_endx (in_Zi a) (nv_c (nv_i a)) (iN (ib_nx sh a)) (x_i (ib_nx sh a) a))
noncomputable def in_b (sh a : Nat) : Bool := iw_all (in_run 306 (ib_rm false) sh a) (la_endx (in_Zk sh a) (nv_c (nv_k (ib_p sh a) a)) (iN sh) (x_b (ib_p sh a) sh a))
set_option maxRecDepth 100000 in
theorem in_i0 : (List.range 4).all (in_i 0) = true := by decide +kernel
set_option maxRecDepth 100000 in
theorem in_b0 : (List.range 4).all (in_b 0) = true := by decide +kernel
set_option maxRecDepth 100000 in
theorem in_i1 : (List.range 4).all (in_i 1) = true := by decide +kernel
set_option maxRecDepth 100000 in
theorem in_b1 : (List.range 4).all (in_b 1) = true := by decide +kernel
set_option maxRecDepth 100000 in
theorem in_i2 : (List.range 4).all (in_i 2) = true := by decide +kernel
set_option maxRecDepth 100000 in
theorem in_b2 : (List.range 4).all (in_b 2) = true := by decide +kernel
set_option maxRecDepth 100000 in
theorem in_i3 : (List.range 4).all (in_i 3) = true := by decide +kernel
set_option maxRecDepth 100000 in
theorem in_b3 : (List.range 4).all (in_b 3) = true := by decide +kernel
set_option maxRecDepth 100000 in
theorem in_i4 : (List.range 4).all (in_i 4) = true := by decide +kernel
set_option maxRecDepth 100000 in
theorem in_b4 : (List.range 4).all (in_b 4) = true := by decide +kernel
theorem in_ia {sh : Nat} (h : sh < 5) : (List.range 4).all (in_i sh) = true := match sh, h with
  | 0, _ => in_i0
  | 1, _ => in_i1
  | 2, _ => in_i2
  | 3, _ => in_i3
  | 4, _ => in_i4
theorem in_ba {sh : Nat} (h : sh < 5) : (List.range 4).all (in_b sh) = true := match sh, h with
  | 0, _ => in_b0
  | 1, _ => in_b1
  | 2, _ => in_b2
  | 3, _ => in_b3
  | 4, _ => in_b4
