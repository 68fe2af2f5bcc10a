/-! ===== a walk over states as they are held: straight instructions, jumps, calls ===== -/
abbrev ai_S : Type := ai_L × List ai_V × ai_W × Nat × Nat
/-- a state at a pc -/
abbrev ai_O : Type := Nat × ai_G × ai_S
def ai_p1 {α : Type} (st : List ai_V) (f : ai_V → List ai_V → Option α) : Option α := match st with
  | a :: r => f a r
  | [] => none
def ai_p2 {α : Type} (st : List ai_V) (f : ai_V → ai_V → List ai_V → Option α) : Option α := match st with
  | a :: b :: r => f a b r
  | _ => none
def ai_p3 {α : Type} (st : List ai_V) (f : ai_V → ai_V → ai_V → List ai_V → Option α) : Option α := match st with
  | a :: b :: c :: r => f a b c r
  | _ => none
def ai_gd {α : Type} (b : Bool) (x : Option α) : Option α := bif b then x else none
theorem ai_p1_ok {α : Type} {st : List ai_V} {f : ai_V → List ai_V → Option α} {x : α} (h : ai_p1 st f = some x) : ∃ a r, st = a :: r ∧ f a r = some x := by
  match st, h with
  | a :: r, h => exact ⟨a, r, rfl, h⟩
  | [], h => cases h
theorem ai_p2_ok {α : Type} {st : List ai_V} {f : ai_V → ai_V → List ai_V → Option α} {x : α} (h : ai_p2 st f = some x) : ∃ a b r, st = a :: b :: r ∧ f a b r = some x := by
  match st, h with
  | a :: b :: r, h => exact ⟨a, b, r, rfl, h⟩
  | [_], h => cases h
  | [], h => cases h
theorem ai_p3_ok {α : Type} {st : List ai_V} {f : ai_V → ai_V → ai_V → List ai_V → Option α} {x : α} (h : ai_p3 st f = some x) : ∃ a b c r, st = a :: b :: c :: r ∧ f a b c r = some x := by
  match st, h with
  | a :: b :: c :: r, h => exact ⟨a, b, c, r, rfl, h⟩
  | [_, _], h => cases h
  | [_], h => cases h
  | [], h => cases h
theorem ai_gd_ok {α : Type} {b : Bool} {x : Option α} {y : α} (h : ai_gd b x = some y) : b = true ∧ x = some y := by
  cases b with
  | true => exact ⟨rfl, h⟩
  | false => cases h
theorem ai_bd_ok {α β : Type} {o : Option α} {f : α → Option β} {y : β} (h : o.bind f = some y) : ∃ a, o = some a ∧ f a = some y := by
  cases o with
  | none => cases h
  | some a => exact ⟨a, rfl, h⟩
def ai_lk : ai_L → Nat → Option ai_V
  | [], _ => none
  | (k, v) :: r, i => bif k == i then some v else ai_lk r i
def ai_st1 (als : ai_L) (i : Nat) (v : ai_V) : ai_L := (i, v) :: als.filter (fun q => !(q.1 == i) && !(q.1 + 1 == i && ai_cat q.2 == 2))
def ai_st2 (als : ai_L) (i : Nat) (v : ai_V) : ai_L := (i, v) :: als.filter (fun q => !(q.1 == i) && (!(q.1 == i + 1) && !(q.1 + 1 == i && ai_cat q.2 == 2)))
def ai_look (d : ai_V) : List (Nat × ai_V) → Nat → ai_V
  | [], _ => d
  | (k, v) :: r, j => bif k == j then v else ai_look d r j
/-- schemas: what the places of an array may hold (a held value of the kind 10 in an array's default) -/
def ai_rg : List (Nat × Nat × Nat) := [(0, 11, 11), (11, 20, 1), (20, 68, 3), (68, 2268, 11), (2268, 2348, 1), (2348, 2368, 1), (2368, 2448, 1), (2448, 2528, 2), (2528, 3528, 1), (3528, 4008, 1), (4008, 5008, 5), (5008, 5056, 1), (5056, 23016, 898)]
def ai_gF : Int × Int := (-2147483648, 2147483647)
/-- of the region from b on the column k -/
def ai_gc (b k : Nat) : Int × Int :=
  bif b == 0 then (match k with
    | 0 => (0, 16)
    | 1 => (0, 200)
    | 2 => (0, 20)
    | 3 => (0, 20)
    | 4 => (0, 40)
    | 5 => (0, 200)
    | 6 => (0, 200)
    | 7 => (0, 120)
    | 8 => (0, 40)
    | 9 => (1, 50)
    | _ => ai_gF)
  else bif b == 68 then (bif k == 0 then (0, 15) else bif k == 8 then (-1, 15) else ai_gF)
  else bif b == 2348 then (0, 15)
  else bif b == 2448 then (bif k == 0 then (0, 19) else ai_gF)
  else bif b == 4008 then (bif k == 0 then (0, 39) else bif k == 1 then (0, 7) else bif k == 2 then (0, 9) else ai_gF)
  else bif b == 5056 then (bif k == 1 then (0, 12) else ai_gF)
  else ai_gF
/-- an array of the schema 1 holds at a place what its region's column allows -/
def ai_sp (id j : Nat) (z : Int) : Prop := id = 1 → ∀ r ∈ ai_rg, r.1 ≤ j → j < r.2.1 → (ai_gc r.1 ((j - r.1) % r.2.2)).1 ≤ z ∧ z ≤ (ai_gc r.1 ((j - r.1) % r.2.2)).2
/-- how far apart the places are that a number may name -/
def ai_al (i : ai_V) : Nat := bif i.1 == 2 && decide (0 ≤ i.2.2.2) then i.2.2.2.toNat else 1
def ai_srr (lo hi : Int) (al : Nat) : List (Nat × Nat × Nat) → Option (Int × Int)
  | [] => none
  | r :: t => bif decide (hi < (r.1 : Int)) || decide ((r.2.1 : Int) ≤ lo) then ai_srr lo hi al t else (bif decide (lo = hi) || al % r.2.2 == 0 then (match ai_srr lo hi al t with
    | none => some (ai_gc r.1 ((lo - (r.1 : Int)) % (r.2.2 : Int)).toNat)
    | some q => some (ai_mn (ai_gc r.1 ((lo - (r.1 : Int)) % (r.2.2 : Int)).toNat).1 q.1, ai_mx (ai_gc r.1 ((lo - (r.1 : Int)) % (r.2.2 : Int)).toNat).2 q.2)) else some ai_gF)
def ai_sww (lo hi : Int) (al : Nat) (q : Int × Int) : List (Nat × Nat × Nat) → Bool
  | [] => true
  | r :: t => (decide (hi < (r.1 : Int)) || (decide ((r.2.1 : Int) ≤ lo) || ((decide (lo = hi) || al % r.2.2 == 0) && (decide ((ai_gc r.1 ((lo - (r.1 : Int)) % (r.2.2 : Int)).toNat).1 ≤ q.1) && decide (q.2 ≤ (ai_gc r.1 ((lo - (r.1 : Int)) % (r.2.2 : Int)).toNat).2))))) && ai_sww lo hi al q t
def ai_sr (id : Nat) (G : ai_G) (i : ai_V) : Option (Int × Int) := bif id == 1 then ai_gd (decide ((ai_b G i).2 < 23016)) (ai_srr (ai_b G i).1 (ai_b G i).2 (ai_al i) ai_rg) else some ai_gF
def ai_sw (id : Nat) (G : ai_G) (i v : ai_V) : Bool := bif id == 1 then ai_sww (ai_b G i).1 (ai_b G i).2 (ai_al i) (ai_b G v) ai_rg else true
/-- a piece of code is well formed: a depth at each place -/
def rt_step (op ar : Nat → Int) (d : Nat → Int) (b : Int) (k : Nat) : Prop := (0 ≤ op k ∧ op k ≤ 16 ∧ d (k + 1) = d k + 1) ∨ (20 ≤ op k ∧ op k ≤ 26 ∧ 2 ≤ d k ∧ d (k + 1) = d k - 1) ∨ (op k = 27 ∧ 1 ≤ d k ∧ d (k + 1) = d k) ∨ ((op k = 28 ∨ op k = 29) ∧ 1 ≤ d k ∧ d (k + 1) = d k - 1 ∧ (k : Int) < ar k ∧ ar k ≤ b ∧ d (ar k).toNat = d k)
def rt_seg (op ar : Nat → Int) (a b : Int) : Prop := 0 ≤ a ∧ a ≤ b ∧ b ≤ 400 ∧ ∃ d : Nat → Int, d a.toNat = 0 ∧ ∀ k : Nat, a ≤ (k : Int) → (k : Int) < b → 0 ≤ d k ∧ d k ≤ (k : Int) - a ∧ rt_step op ar d b k
def rt_op (F : Nat → Int) (t k : Nat) : Int := F (898 * t + 98 + 2 * k)
def rt_ar (F : Nat → Int) (t k : Nat) : Int := F (898 * t + 98 + 2 * k + 1)
def rt_cl (F : Nat → Int) (t c : Nat) : Prop := 0 ≤ F (898 * t + 2 + 8 * c + 1) ∧ F (898 * t + 2 + 8 * c + 1) ≤ 19 ∧ 0 ≤ F (898 * t + 2 + 8 * c + 2) ∧ F (898 * t + 2 + 8 * c + 2) ≤ 11 ∧ rt_seg (rt_op F t) (rt_ar F t) (F (898 * t + 2 + 8 * c + 3)) (F (898 * t + 2 + 8 * c + 4)) ∧ rt_seg (rt_op F t) (rt_ar F t) (F (898 * t + 2 + 8 * c + 5)) (F (898 * t + 2 + 8 * c + 6))
def rt_all (F : Nat → Int) : Prop := ∀ t c : Nat, t < 20 → c < 12 → (c : Int) < F (898 * t + 1) → rt_cl F t c
/-- the texts of an array of schema 1 -/
def ai_RL (id : Nat) (f : Nat → Int32) : Prop := id = 1 → rt_all (fun k => (f (5056 + k)).toInt)
theorem ai_RL_upd {id : Nat} {f : Nat → Int32} {j : Nat} {x : Int32} (hj : j < 5056) (h : ai_RL id f) : ai_RL id (upd f j x) := by
  intro hi
  have h1 := h hi
  have e : (fun k => (upd f j x (5056 + k)).toInt) = (fun k => (f (5056 + k)).toInt) := by
    funext k
    rw [pk_un (by omega : ¬ 5056 + k = j)]
  rw [e]
  exact h1
/-- the bounds of all that an array holds -/
def ai_hull (G : ai_G) (q : Int × Int) : List (Nat × ai_V) → Int × Int
  | [] => q
  | p :: r => (ai_mn (ai_b G p.2).1 (ai_hull G q r).1, ai_mx (ai_b G p.2).2 (ai_hull G q r).2)
/-- a place of an array is in it -/
def ai_inb (G : ai_G) (i : ai_V) (n : Nat) : Bool := ai_isI i && (decide (0 ≤ (ai_b G i).1) && decide ((ai_b G i).2 < (n : Int)))
def ai_one (G : ai_G) (i : ai_V) : Bool := decide ((ai_b G i).1 = (ai_b G i).2)
def ai_itv (ty : Nat) (q : Int × Int) : ai_V := bif ty == 1 then (1, 0, q.1, q.2) else (0, 0, q.1, q.2)
def ai_n10 (ov : List (Nat × ai_V)) : Bool := ov.all (fun q => !(q.2.1 == 10))
/-- what is said of the places that a number may name -/
def ai_nr (q : Int × Int) (ov : List (Nat × ai_V)) : List (Nat × ai_V) := ov.filter (fun p => decide (q.1 ≤ (p.1 : Int)) && decide ((p.1 : Int) ≤ q.2))
/-- what is said of the other places -/
def ai_nout (q : Int × Int) (ov : List (Nat × ai_V)) : List (Nat × ai_V) := ov.filter (fun p => !(decide (q.1 ≤ (p.1 : Int)) && decide ((p.1 : Int) ≤ q.2)))
/-- what is read at a place: kinds 0 int, 1 long, 2 boolean, 3 cells -/
def ai_rd (G : ai_G) (ty : Nat) (d : ai_V) (ov : List (Nat × ai_V)) (i : ai_V) : Option ai_V :=
  bif ai_one G i then (bif (ai_look d ov (ai_b G i).1.toNat).1 == 10 then ai_gd (!(ty == 1 || ty == 3)) ((ai_sr (ai_look d ov (ai_b G i).1.toNat).2.1 G i).bind fun q => some (ai_itv ty q)) else some (ai_look d ov (ai_b G i).1.toNat))
  else bif ty == 3 then none
  else bif d.1 == 10 then ai_gd (!(ty == 1) && ai_n10 ov) ((ai_sr d.2.1 G i).bind fun q => some (ai_itv ty (ai_hull G q (ai_nr (ai_b G i) ov))))
  else ai_gd (ai_n10 ov) (some (ai_itv ty (ai_hull G (ai_b G d) (ai_nr (ai_b G i) ov))))
/-- what is put at a place -/
def ai_wr (G : ai_G) (ty : Nat) (d : ai_V) (ov : List (Nat × ai_V)) (i v : ai_V) : Option (ai_V × List (Nat × ai_V)) :=
  bif ai_one G i then (bif ai_look d ov (ai_b G i).1.toNat == v then some (d, ov) else some (d, ((ai_b G i).1.toNat, v) :: ov.filter (fun q => !(q.1 == (ai_b G i).1.toNat))))
  else bif ty == 3 then none
  else bif d.1 == 10 then ai_gd (!(ty == 1) && (ai_sw d.2.1 G i v && ov.all (fun q => ai_isI q.2 && ai_sw d.2.1 G (ai_lI q.1) q.2))) (some (d, ai_nout (ai_b G i) ov))
  else ai_gd (ai_n10 ov) (some (ai_itv ty (ai_hull G (ai_b G d) ((0, v) :: ov)), []))
/-- a value may be put where the type wants it -/
def ai_fit (G : ai_G) (ty : FieldType) (v : ai_V) : Bool := match ty with
  | .int => ai_isI v
  | .boolean => ai_isI v && (decide (0 ≤ (ai_b G v).1) && decide ((ai_b G v).2 ≤ 1))
  | .long => ai_isL v
  | .object _ => ai_isR v || v.1 == 5
  | .array _ => ai_isR v || v.1 == 5
  | _ => false
def ai_dv (ty : FieldType) : ai_V := match ty with
  | .long => ai_lL 0
  | .object _ => (5, 0, 0, 0)
  | .array _ => (5, 0, 0, 0)
  | _ => ai_lI 0
def ai_okt (ty : FieldType) : Bool := match ty with
  | .float => false
  | .double => false
  | _ => true
/-- the array kinds that are made -/
def ai_ak (t : ArrayType) : Option Nat := match t with
  | .int => some 0
  | .long => some 1
  | .boolean => some 2
  | _ => none
def ai_i2l (G : ai_G) (a : ai_V) : ai_V := bif a.1 == 2 then (3, a.2.1, a.2.2.1, a.2.2.2) else bif a.1 == 0 then (1, 0, a.2.2.1, a.2.2.2) else (1, 0, -2147483648, 2147483647)
def ai_l2i (G : ai_G) (a : ai_V) : ai_V := bif a.1 == 3 && (decide (-2147483648 ≤ (ai_b G a).1) && decide ((ai_b G a).2 ≤ 2147483647)) then (2, a.2.1, a.2.2.1, a.2.2.2) else ai_mI (ai_b G a).1 (ai_b G a).2
/-- a number that isn't known whole -/
def ai_unk (v : ai_V) : Bool := (v.1 == 0 || v.1 == 1) && decide (v.2.2.1 < v.2.2.2)
def ai_kI (v : ai_V) : Bool := ai_isI v && !(ai_unk v)
def ai_kL (v : ai_V) : Bool := ai_isL v && !(ai_unk v)
theorem ai_and1 {a b : Bool} (h : (a && b) = true) : a = true := (Bool.and_eq_true _ _ ▸ h : a = true ∧ b = true).1
def ai_load (als : ai_L) (st : List ai_V) (aw : ai_W) (cs ss i : Nat) (ok : ai_V → Bool) : Option ai_S := (ai_lk als i).bind fun v => ai_gd (ok v) (some (als, v :: st, aw, cs, ss))
def ai_sto (als : ai_L) (st : List ai_V) (aw : ai_W) (cs ss i nL : Nat) (ok : ai_V → Bool) : Option ai_S := ai_p1 st fun v r => ai_gd (ok v && decide (i < nL)) (some (ai_st1 als i v, r, aw, cs, ss))
def ai_sto2 (als : ai_L) (st : List ai_V) (aw : ai_W) (cs ss i nL : Nat) : Option ai_S := ai_p1 st fun v r => ai_gd (ai_isL v && decide (i + 1 < nL)) (some (ai_st2 als i v, r, aw, cs, ss))
def ai_ast (G : ai_G) (als : ai_L) (st : List ai_V) (aw : ai_W) (cs ss ty : Nat) (ok : ai_V → Bool) : Option ai_S := ai_p3 st fun v i a r => ai_gd (ai_isR a && ok v) ((aw[a.2.1]?).bind fun c => match c with
  | .inr (t, n, d, ov) => ai_gd (t == ty && (ai_inb G i n && (!(d.1 == 10) || decide ((ai_b G i).2 < 5056)))) ((ai_wr G ty d ov i v).bind fun q => some (als, r, aw.set a.2.1 (.inr (t, n, q.1, q.2)), cs, ss))
  | .inl _ => none)
def ai_b2 (L : Nat) (ins : Instr) (G : ai_G) (als : ai_L) (st : List ai_V) (aw : ai_W) (cs ss : Nat) : Option ai_S := ai_p2 st fun b a r => ai_gd (ai_isI a && ai_isI b) ((ai_i2 L ins G a b).bind fun v => some (als, v :: r, aw, cs, ss))
def ai_bl (ins : Instr) (G : ai_G) (als : ai_L) (st : List ai_V) (aw : ai_W) (cs ss : Nat) : Option ai_S := ai_p2 st fun b a r => ai_gd (ai_isL a && ai_isL b) ((ai_l2l ins G a b).bind fun v => some (als, v :: r, aw, cs, ss))
/-- System.arraycopy of ints -/
def ai_cpc (G : ai_G) (d0 d1 : ai_V) (o0 o1 : List (Nat × ai_V)) (n sp dp : ai_V) : Option (ai_V × List (Nat × ai_V)) :=
  bif decide ((ai_b G n).2 = 0) && !(d1.1 == 10) then some (d1, o1)
  else bif d0.1 == 10 || d1.1 == 10 then none
  else ai_gd (ai_n10 o0 && ai_n10 o1) (some (ai_itv 0 (ai_hull G (ai_hull G (ai_b G d0) o0) ((0, d1) :: o1)), []))
def ai_cpy (md : ai_MD) (G : ai_G) (als : ai_L) (st : List ai_V) (aw : ai_W) (cs ss : Nat) : Option ai_S := match st with
  | n :: dp :: dst :: sp :: src :: r => ai_gd (ai_isI n && (ai_isI dp && (ai_isI sp && (ai_isR dst && (ai_isR src && (decide (0 ≤ (ai_b G n).1) && (decide (0 ≤ (ai_b G dp).1) && (decide (0 ≤ (ai_b G sp).1) && (decide (1 ≤ md.2.2.2.2.2.2.1.frames) && decide ((r.map ai_cat).sum + (nativeFrameWords "java/lang/System" "arraycopy" 5 + 11) ≤ md.2.2.2.2.2.2.1.locals)))))))))) ((aw[src.2.1]?).bind fun c0 => (aw[dst.2.1]?).bind fun c1 => match c0, c1 with
    | .inr (0, n0, d0, o0), .inr (0, n1, d1, o1) => ai_gd (decide ((ai_b G sp).2 + (ai_b G n).2 ≤ (n0 : Int)) && decide ((ai_b G dp).2 + (ai_b G n).2 ≤ (n1 : Int))) ((ai_cpc G d0 d1 o0 o1 n sp dp).bind fun q => some (als, r, aw.set dst.2.1 (.inr (0, n1, q.1, q.2)), cs, ss))
    | _, _ => none)
  | _ => none
def ai_shl (G : ai_G) (a b : ai_V) : ai_V := bif decide ((ai_b G a).1 = (ai_b G a).2) && decide ((ai_b G b).1 = (ai_b G b).2) then ai_lL (Int64.ofInt (ai_b G a).1 <<< ((Int32.ofInt (ai_b G b).1).toInt64 &&& 63)).toInt else ai_fulll
/-- Math.min, max, abs of ints (996, 995, 994), Math.min of longs (993) -/
def ai_mn2 (G : ai_G) (ty : Nat) (a b : ai_V) : ai_V := bif decide ((ai_b G a).2 ≤ (ai_b G b).1) then a else bif decide ((ai_b G b).2 ≤ (ai_b G a).1) then b else (ty, 0, ai_mn (ai_b G a).1 (ai_b G b).1, ai_mn (ai_b G a).2 (ai_b G b).2)
def ai_mx2 (G : ai_G) (a b : ai_V) : ai_V := bif decide ((ai_b G b).2 ≤ (ai_b G a).1) then a else bif decide ((ai_b G a).2 ≤ (ai_b G b).1) then b else bif b.1 == 2 && decide (b.2.2.2 = 1) then (9, b.2.1, b.2.2.1, ai_mx (ai_b G a).2 (ai_b G b).2) else (0, 0, ai_mx (ai_b G a).1 (ai_b G b).1, ai_mx (ai_b G a).2 (ai_b G b).2)
def ai_ab2 (G : ai_G) (a : ai_V) : ai_V := bif decide (0 ≤ (ai_b G a).1) then a else bif decide (-2147483648 < (ai_b G a).1) then (0, 0, 0, ai_mx (- (ai_b G a).1) (ai_b G a).2) else ai_full
def ai_mrm (md : ai_MD) (r : List ai_V) (k cs ss : Nat) : Bool := decide (1 ≤ md.2.2.2.2.2.2.1.frames) && (decide ((r.map ai_cat).sum + k ≤ md.2.2.2.2.2.2.1.locals) && (decide (cs ≤ md.2.2.2.2.2.2.1.cells) && decide (ss ≤ md.2.2.2.2.2.2.1.slots)))
def ai_mth (md : ai_MD) (na : Nat) (G : ai_G) (als : ai_L) (st : List ai_V) (aw : ai_W) (cs ss : Nat) : Option ai_S :=
  bif na == 996 then ai_p2 st fun b a r => ai_gd (ai_isI a && (ai_isI b && ai_mrm md r 13 cs ss)) (some (als, ai_mn2 G 0 a b :: r, aw, cs, ss))
  else bif na == 995 then ai_p2 st fun b a r => ai_gd (ai_isI a && (ai_isI b && ai_mrm md r 13 cs ss)) (some (als, ai_mx2 G a b :: r, aw, cs, ss))
  else bif na == 994 then ai_p1 st fun a r => ai_gd (ai_isI a && ai_mrm md r 13 cs ss) (some (als, ai_ab2 G a :: r, aw, cs, ss))
  else bif na == 993 then ai_p2 st fun b a r => ai_gd (ai_isL a && (ai_isL b && ai_mrm md r 15 cs ss)) (some (als, ai_mn2 G 1 a b :: r, aw, cs, ss))
  else none
/-- the straight instructions -/
def ai_simp (md : ai_MD) (L : Nat) (en : ai_E) (G : ai_G) (als : ai_L) (st : List ai_V) (aw : ai_W) (cs ss : Nat) : Option ai_S := match en.2.1 with
  | .iconst n => some (als, ai_lI (Int32.ofInt n).toInt :: st, aw, cs, ss)
  | .bipush n => some (als, ai_lI (Int8.ofInt n).toInt32.toInt :: st, aw, cs, ss)
  | .sipush n => some (als, ai_lI (Int16.ofInt n).toInt32.toInt :: st, aw, cs, ss)
  | .lconst n => some (als, ai_lL (Int64.ofNat (n : Nat)).toInt :: st, aw, cs, ss)
  | .ldc _ => some (als, ai_lI (Int32.ofInt en.2.2.2.2.2.2).toInt :: st, aw, cs, ss)
  | .ldc_w _ => some (als, ai_lI (Int32.ofInt en.2.2.2.2.2.2).toInt :: st, aw, cs, ss)
  | .ldc2_w _ => some (als, ai_lL (Int64.ofInt en.2.2.2.2.2.2).toInt :: st, aw, cs, ss)
  | .iload i => ai_load als st aw cs ss i ai_kI
  | .iload_n k => ai_load als st aw cs ss (k : Nat) ai_kI
  | .lload i => ai_load als st aw cs ss i ai_kL
  | .lload_n k => ai_load als st aw cs ss (k : Nat) ai_kL
  | .aload i => ai_load als st aw cs ss i (fun v => ai_isR v || v.1 == 7)
  | .aload_n k => ai_load als st aw cs ss (k : Nat) (fun v => ai_isR v || v.1 == 7)
  | .istore i => ai_sto als st aw cs ss i md.2.2.2.1 ai_isI
  | .istore_n k => ai_sto als st aw cs ss (k : Nat) md.2.2.2.1 ai_isI
  | .astore i => ai_sto als st aw cs ss i md.2.2.2.1 ai_isR
  | .astore_n k => ai_sto als st aw cs ss (k : Nat) md.2.2.2.1 ai_isR
  | .lstore i => ai_sto2 als st aw cs ss i md.2.2.2.1
  | .lstore_n k => ai_sto2 als st aw cs ss (k : Nat) md.2.2.2.1
  | .iinc i n => (ai_lk als i).bind fun v => ai_gd (ai_isI v && decide (i < md.2.2.2.1)) (some (ai_st1 als i (ai_or (ai_adA 2 (-2147483648) 2147483647 G v (Int32.ofInt n).toInt) (ai_mI ((ai_b G v).1 + (Int32.ofInt n).toInt) ((ai_b G v).2 + (Int32.ofInt n).toInt))), st, aw, cs, ss))
  | .iadd => ai_b2 L .iadd G als st aw cs ss
  | .isub => ai_b2 L .isub G als st aw cs ss
  | .imul => ai_b2 L .imul G als st aw cs ss
  | .iand => ai_b2 L .iand G als st aw cs ss
  | .ior => ai_b2 L .ior G als st aw cs ss
  | .ixor => ai_b2 L .ixor G als st aw cs ss
  | .ishl => ai_b2 L .ishl G als st aw cs ss
  | .ishr => ai_b2 L .ishr G als st aw cs ss
  | .iushr => ai_b2 L .iushr G als st aw cs ss
  | .idiv => ai_b2 L .idiv G als st aw cs ss
  | .irem => ai_b2 L .irem G als st aw cs ss
  | .ladd => ai_bl .ladd G als st aw cs ss
  | .lsub => ai_bl .lsub G als st aw cs ss
  | .lmul => ai_bl .lmul G als st aw cs ss
  | .ldiv => ai_bl .ldiv G als st aw cs ss
  | .lrem => ai_bl .lrem G als st aw cs ss
  | .lshl => ai_p2 st fun b a r => ai_gd (ai_isL a && ai_isI b) (some (als, ai_shl G a b :: r, aw, cs, ss))
  | .i2l => ai_p1 st fun a r => ai_gd (ai_isI a) (some (als, ai_i2l G a :: r, aw, cs, ss))
  | .l2i => ai_p1 st fun a r => ai_gd (ai_isL a) (some (als, ai_l2i G a :: r, aw, cs, ss))
  | .ineg => ai_p1 st fun a r => ai_gd (ai_isI a) (some (als, ai_mI (- (ai_b G a).2) (- (ai_b G a).1) :: r, aw, cs, ss))
  | .dup => ai_p1 st fun a r => ai_gd (ai_cat a == 1) (some (als, a :: a :: r, aw, cs, ss))
  | .pop => ai_p1 st fun a r => ai_gd (ai_cat a == 1) (some (als, r, aw, cs, ss))
  | .dup2 => ai_p2 st fun a b r => ai_gd (ai_cat a == 1 && ai_cat b == 1) (some (als, a :: b :: a :: b :: r, aw, cs, ss))
  | .putfield _ => ai_p2 st fun v a r => ai_gd (ai_isR a && ai_fit G (ai_ty en.2.2.2.1 en.2.2.2.2.1) v) ((aw[a.2.1]?).bind fun c => match c with
    | .inl (ci, fs) => ai_gd (ci == en.2.2.2.1 && decide (en.2.2.2.2.1 < fs.length)) (some (als, r, aw.set a.2.1 (.inl (ci, fs.set en.2.2.2.2.1 v)), cs, ss))
    | .inr _ => none)
  | .iaload => ai_p2 st fun i a r => ai_gd (a.1 == 7 && (md.2.2.2.2.2.2.2 == 3 && (i.1 == 0 && (decide (i.2.2.1 = i.2.2.2) && (decide (0 ≤ i.2.2.1) && decide (i.2.2.1 < (L : Int))))))) (some (als, ((2, i.2.2.1.toNat, 0, 1) : ai_V) :: r, aw, cs, ss))
  | .iastore => ai_ast G als st aw cs ss 0 ai_isI
  | .lastore => ai_ast G als st aw cs ss 1 ai_isL
  | .bastore => ai_ast G als st aw cs ss 2 (ai_fit G .boolean)
  | .aastore => ai_ast G als st aw cs ss 3 (fun v => ai_isR v && (match aw[v.2.1]? with
    | some (.inl (ci, _)) => ci == 2
    | _ => false))
  | .arraylength => ai_p1 st fun a r => bif a.1 == 7 && md.2.2.2.2.2.2.2 == 3 then some (als, ai_lI (Int32.ofNat L).toInt :: r, aw, cs, ss) else ai_gd (ai_isR a) ((aw[a.2.1]?).bind fun c => match c with
    | .inr (t, n, _, _) => ai_gd (!(t == 5)) (some (als, ai_lI (Int32.ofNat n).toInt :: r, aw, cs, ss))
    | .inl _ => none)
  | .new _ => (vwCl[en.2.2.2.1]?).bind fun q => ai_gd ((List.range q.2.2).all (fun k => ai_okt (ai_ty en.2.2.2.1 k)) && (decide (cs + 1 ≤ md.2.2.2.2.2.2.1.cells) && decide (ss + q.2.2 ≤ md.2.2.2.2.2.2.1.slots))) (some (als, ((4, aw.length, 0, 0) : ai_V) :: st, aw ++ [.inl (en.2.2.2.1, (List.range q.2.2).map fun k => ai_dv (ai_ty en.2.2.2.1 k))], cs + 1, ss + q.2.2))
  | .newarray t => (ai_ak t).bind fun ty => ai_p1 st fun n r => ai_gd (n.1 == 0 && (decide (n.2.2.1 = n.2.2.2) && (decide (0 ≤ n.2.2.1) && (decide (n.2.2.1 ≤ 60000000) && (decide (cs + 1 ≤ md.2.2.2.2.2.2.1.cells) && decide (ss + n.2.2.1.toNat ≤ md.2.2.2.2.2.2.1.slots)))))) (some (als, ((4, aw.length, 0, 0) : ai_V) :: r, aw ++ [.inr (ty, n.2.2.1.toNat, (bif ty == 1 then ai_lL 0 else ai_lI 0), [])], cs + 1, ss + n.2.2.1.toNat))
  | .anewarray _ => ai_p1 st fun n r => ai_gd (n.1 == 0 && (decide (n.2.2.1 = n.2.2.2) && (decide (0 ≤ n.2.2.1) && (decide (n.2.2.1 ≤ 60000000) && (decide (cs + 1 ≤ md.2.2.2.2.2.2.1.cells) && decide (ss + n.2.2.1.toNat ≤ md.2.2.2.2.2.2.1.slots)))))) (some (als, ((4, aw.length, 0, 0) : ai_V) :: r, aw ++ [.inr (3, n.2.2.1.toNat, (5, 0, 0, 0), [])], cs + 1, ss + n.2.2.1.toNat))
  | .invokestatic _ => bif en.2.2.2.1 == 997 then ai_cpy md G als st aw cs ss else ai_mth md en.2.2.2.1 G als st aw cs ss
  | .invokespecial _ => ai_gd (en.2.2.2.1 == 999) (ai_p1 st fun a r => ai_gd (ai_isR a && (decide (1 ≤ md.2.2.2.2.2.2.1.frames) && decide ((r.map ai_cat).sum + 12 ≤ md.2.2.2.2.2.2.1.locals))) (some (als, r, aw, cs, ss)))
  | _ => none
/-- a number that isn't known whole becomes a token -/
def ai_mat (G : ai_G) (v : ai_V) : Option (ai_G × ai_V) := bif (v.1 == 0 || v.1 == 1) && decide (v.2.2.1 < v.2.2.2) then some (G ++ [(v.2.2.1, v.2.2.2, 0)], (v.1 + 2, G.length, 0, 1)) else none
def ai_ald (G : ai_G) (als : ai_L) (st : List ai_V) (aw : ai_W) (cs ss ty : Nat) : Option (ai_G × ai_S) := ai_p2 st fun i a r => ai_gd (ai_isR a) ((aw[a.2.1]?).bind fun c => match c with
  | .inr (t, n, d, ov) => ai_gd (t == ty && ai_inb G i n) ((ai_rd G ty d ov i).bind fun v => match ai_mat G v with
    | none => some (G, als, v :: r, aw, cs, ss)
    | some q => bif ai_one G i then some (q.1, als, q.2 :: r, aw.set a.2.1 (.inr (t, n, d, ((ai_b G i).1.toNat, q.2) :: ov.filter (fun p => !(p.1 == (ai_b G i).1.toNat)))), cs, ss) else some (q.1, als, q.2 :: r, aw, cs, ss))
  | .inl _ => none)
/-- a local is said otherwise -/
def ai_rl (i : Nat) (w : ai_V) : ai_L → ai_L
  | [] => []
  | (k, v) :: r => bif k == i then (k, w) :: r else (k, v) :: ai_rl i w r
/-- a local whose number isn't known whole is read: it becomes a token -/
def ai_ldm (G : ai_G) (als : ai_L) (st : List ai_V) (aw : ai_W) (cs ss i : Nat) (ok : ai_V → Bool) : Option (ai_G × ai_S) := (ai_lk als i).bind fun v => ai_gd (ok v) ((ai_mat G v).bind fun q => some (q.1, ai_rl i q.2 als, q.2 :: st, aw, cs, ss))
def ai_rdm (en : ai_E) (G : ai_G) (als : ai_L) (st : List ai_V) (aw : ai_W) (cs ss : Nat) : Option (ai_G × ai_S) := match en.2.1 with
  | .getfield _ => ai_p1 st fun a r => ai_gd (ai_isR a) ((aw[a.2.1]?).bind fun c => match c with
    | .inl (ci, fs) => ai_gd (ci == en.2.2.2.1) ((fs[en.2.2.2.2.1]?).bind fun v => match ai_mat G v with
      | none => some (G, als, v :: r, aw, cs, ss)
      | some q => some (q.1, als, q.2 :: r, aw.set a.2.1 (.inl (ci, fs.set en.2.2.2.2.1 q.2)), cs, ss))
    | .inr _ => none)
  | .iaload => ai_ald G als st aw cs ss 0
  | .laload => ai_ald G als st aw cs ss 1
  | .baload => ai_ald G als st aw cs ss 2
  | .aaload => ai_ald G als st aw cs ss 3
  | .iload i => ai_ldm G als st aw cs ss i ai_isI
  | .iload_n k => ai_ldm G als st aw cs ss (k : Nat) ai_isI
  | .lload i => ai_ldm G als st aw cs ss i ai_isL
  | .lload_n k => ai_ldm G als st aw cs ss (k : Nat) ai_isL
  | _ => none
