section ASI
variable {p : Program} {l : Launch} {e : Env} {R : Room} {s : State} {m : MethodId} {args : Array Value} {below : List Frame} {meth : Method} {c : Code} {H : Heap} {locs : List Loc} {cs ss : Nat} {Q : State → Prop} {ρ : ai_Rh} {sb : ai_SB} {L : Nat} {xs : Nat → Int32} {D : va_G} {A : Nat → Prop} {md : ai_MD}
/-- every state behind that is as it is held goes on -/
def ai_K (p : Program) (l : Launch) (e : Env) (R : Room) (s : State) (m : MethodId) (args : Array Value) (below : List Frame) (meth : Method) (c : Code) (Q : State → Prop) (ρ : ai_Rh) (sb : ai_SB) (D : va_G) (A : Nat → Prop) (nL : Nat) (ad : List Nat) (pc : Nat) (x : ai_S) : Prop :=
  ∀ (ls : Array Slot) (stk : List Value) (H : Heap) (locs : List Loc) (ws : va_W) (tys : List (ClassId × FieldType)) (y : List Nat), ws.map Prod.fst = ad ++ y → ai_lv ρ sb (ws.map Prod.fst) x.1 nL ls → ai_F2 (ai_mt ρ sb (ws.map Prod.fst)) x.2.1 stk → ai_mem ρ sb D A s H locs x.2.2.1 ws tys → W p l e R s m args below meth c H locs x.2.2.2.1 x.2.2.2.2 Q (F0 m pc ls stk)
theorem ai_cat_f {ad : List Nat} {i : Nat} (a : Nat × ai_V) (q : Nat × Value) (h : a.1 = q.1 ∧ ai_mt ρ sb ad a.2 q.2) : (!(a.1 == i) && !(a.1 + 1 == i && ai_cat a.2 == 2)) = (!(q.1 == i) && !(q.1 + 1 == i && q.2.category == 2)) := by
  rw [h.1, h.2.cat]
theorem ai_cat_f2 {ad : List Nat} {i : Nat} (a : Nat × ai_V) (q : Nat × Value) (h : a.1 = q.1 ∧ ai_mt ρ sb ad a.2 q.2) : (!(a.1 == i) && (!(a.1 == i + 1) && !(a.1 + 1 == i && ai_cat a.2 == 2))) = (!(q.1 == i) && (!(q.1 == i + 1) && !(q.1 + 1 == i && q.2.category == 2))) := by
  rw [h.1, h.2.cat]
theorem ai_nz {G : ai_G} {b : ai_V} {y : Int32} (hB : (ai_b G b).1 ≤ y.toInt ∧ y.toInt ≤ (ai_b G b).2) (h : (decide (0 < (ai_b G b).1) || decide ((ai_b G b).2 < 0)) = true) : ¬ y = 0 := by
  simp only [Bool.or_eq_true, decide_eq_true_eq] at h
  intro e
  subst e
  have : (0 : Int32).toInt = 0 := rfl
  omega
theorem ai_nzl {G : ai_G} {b : ai_V} {y : Int64} (hB : (ai_b G b).1 ≤ y.toInt ∧ y.toInt ≤ (ai_b G b).2) (h : (decide (0 < (ai_b G b).1) || decide ((ai_b G b).2 < 0)) = true) : ¬ y = 0 := by
  simp only [Bool.or_eq_true, decide_eq_true_eq] at h
  intro e
  subst e
  have : (0 : Int64).toInt = 0 := rfl
  omega
theorem ai_bif_ok {α : Type} {b : Bool} {x : Option α} {y : α} (h : (bif b then x else none) = some y) : b = true ∧ x = some y := by
  cases b with
  | true => exact ⟨rfl, h⟩
  | false => cases h
variable {ls : Array Slot} {stk : List Value} {ws : va_W} {tys : List (ClassId × FieldType)} {G : ai_G} {als : ai_L} {st : List ai_V} {aw : ai_W} {pc : Nat} {x : ai_S} {cc : ByteArray}
theorem ai_or_ok {o : Option ai_V} {d : ai_V} {ad : List Nat} {u : Value} (h1 : ∀ v, o = some v → ai_mt ρ sb ad v u) (h2 : ai_mt ρ sb ad d u) : ai_mt ρ sb ad (ai_or o d) u := by
  cases o with
  | none => exact h2
  | some v => exact h1 v rfl
theorem ai_wh_ok {G : ai_G} {b : ai_V} {z y : Int} (h : ai_wh G b = some z) (hB : (ai_b G b).1 ≤ y ∧ y ≤ (ai_b G b).2) : y = z := by
  unfold ai_wh at h
  obtain ⟨h1, h2⟩ := ai_bif_ok h
  cases h2
  simp only [decide_eq_true_eq] at h1
  omega
theorem ai_adA_ok {G : ai_G} {a v : ai_V} {z : Int} {ad : List Nat} {x u : Int32} (h : ai_adA 2 (-2147483648) 2147483647 G a z = some v) (hA : (ai_b G a).1 ≤ x.toInt ∧ x.toInt ≤ (ai_b G a).2) (hn : ai_nm ρ a x.toInt) (hu : u.toInt = (x.toInt + z).bmod 4294967296) : ai_mt ρ sb ad v (.int u) := by
  unfold ai_adA at h
  obtain ⟨h1, h2⟩ := ai_bif_ok h
  cases h2
  simp only [Bool.and_eq_true, beq_iff_eq, decide_eq_true_eq] at h1
  obtain ⟨w, g1, g2⟩ := hn (Or.inl h1.1)
  rw [ai_bm32 (by omega) (by omega)] at hu
  exact ⟨u, w, rfl, g1, by rw [hu, g2]; omega⟩
theorem ai_ad8_ok {G : ai_G} {a v : ai_V} {z : Int} {ad : List Nat} {x u : Int32} (h : ai_ad8 G a z = some v) (hm : ai_mt ρ sb ad a (.int x)) (hA : (ai_b G a).1 ≤ x.toInt ∧ x.toInt ≤ (ai_b G a).2) (hu : u.toInt = (x.toInt + z).bmod 4294967296) : ai_mt ρ sb ad v (.int u) := by
  unfold ai_ad8 at h
  obtain ⟨h1, h2⟩ := ai_bif_ok h
  cases h2
  simp only [Bool.and_eq_true, beq_iff_eq, decide_eq_true_eq] at h1
  rw [ai_bm32 (by omega) (by omega)] at hu
  obtain ⟨n, t, l, c⟩ := a
  obtain ⟨e8, -⟩ := h1
  dsimp only at e8
  subst e8
  obtain ⟨x', w, e, g1, g2, g3⟩ := hm
  cases e
  exact ⟨u, w, rfl, g1, by dsimp only; omega, by dsimp only; omega⟩
theorem ai_adL_ok {G : ai_G} {a v : ai_V} {z : Int} {ad : List Nat} {x u : Int64} (h : ai_adA 3 (-9223372036854775808) 9223372036854775807 G a z = some v) (hA : (ai_b G a).1 ≤ x.toInt ∧ x.toInt ≤ (ai_b G a).2) (hn : ai_nm ρ a x.toInt) (hu : u.toInt = (x.toInt + z).bmod 18446744073709551616) : ai_mt ρ sb ad v (.long u) := by
  unfold ai_adA at h
  obtain ⟨h1, h2⟩ := ai_bif_ok h
  cases h2
  simp only [Bool.and_eq_true, beq_iff_eq, decide_eq_true_eq] at h1
  obtain ⟨w, g1, g2⟩ := hn (Or.inr h1.1)
  rw [ai_bm64 (by omega) (by omega)] at hu
  exact ⟨u, w, rfl, g1, by rw [hu, g2]; omega⟩
theorem ai_muA_ok {G : ai_G} {a v : ai_V} {z : Int} {ad : List Nat} {x u : Int32} (h : ai_muA 2 (-2147483648) 2147483647 G a z = some v) (hA : (ai_b G a).1 ≤ x.toInt ∧ x.toInt ≤ (ai_b G a).2) (hn : ai_nm ρ a x.toInt) (hu : u.toInt = (x.toInt * z).bmod 4294967296) : ai_mt ρ sb ad v (.int u) := by
  unfold ai_muA at h
  obtain ⟨h1, h2⟩ := ai_bif_ok h
  cases h2
  simp only [Bool.and_eq_true, beq_iff_eq, decide_eq_true_eq] at h1
  obtain ⟨w, g1, g2⟩ := hn (Or.inl h1.1)
  have hb := ai_mulB_ok hA (B := (z, z)) (y := z) ⟨Int.le_refl _, Int.le_refl _⟩
  rw [ai_bm32 (by omega) (by omega)] at hu
  refine ⟨u, w, rfl, g1, ?_⟩
  rw [hu, g2, Int.add_mul, Int.mul_assoc, Int.mul_comm w z, ← Int.mul_assoc]
theorem ai_bits_ok {a b n : Nat} {A : Int} (ha : (a : Int) ≤ A) (hb : (b : Int) ≤ A) (h31 : a < 2147483648) (h32 : b < 2147483648) (hn : n = a ||| b ∨ n = a ^^^ b) : n < 2147483648 ∧ (n : Int) ≤ ai_bits A := by
  have key : ∀ k, a < 2 ^ k → b < 2 ^ k → n < 2 ^ k := by
    intro k g1 g2
    rcases hn with rfl | rfl
    · exact Nat.or_lt_two_pow g1 g2
    · exact Nat.xor_lt_two_pow g1 g2
  have k31 := key 31 h31 h32
  refine ⟨k31, ?_⟩
  unfold ai_bits
  cases h1 : decide (A ≤ 127) with
  | true =>
    simp only [decide_eq_true_eq] at h1
    have := key 7 (by omega) (by omega)
    simp only [cond_true]
    omega
  | false =>
    cases h2 : decide (A ≤ 65535) with
    | true =>
      simp only [decide_eq_true_eq] at h2
      have := key 16 (by omega) (by omega)
      simp only [cond_true, cond_false]
      omega
    | false =>
      simp only [cond_false]
      omega
theorem ai_orB_ok {ad : List Nat} {A B : Int × Int} {x y u : Int32} (hA : A.1 ≤ x.toInt ∧ x.toInt ≤ A.2) (hB : B.1 ≤ y.toInt ∧ y.toInt ≤ B.2) (hu : u.toBitVec.toNat = x.toBitVec.toNat ||| y.toBitVec.toNat ∨ u.toBitVec.toNat = x.toBitVec.toNat ^^^ y.toBitVec.toNat) : ai_mt ρ sb ad (ai_orB A B) (.int u) := by
  unfold ai_orB
  cases h : (decide (0 ≤ A.1) && decide (0 ≤ B.1)) with
  | false => exact ai_full_ok u
  | true =>
    simp only [Bool.and_eq_true, decide_eq_true_eq] at h
    have tn : ∀ w : Int32, 0 ≤ w.toInt → (w.toBitVec.toNat : Int) = w.toInt ∧ w.toBitVec.toNat < 2147483648 := by
      intro w hw
      have e2 : w.toInt = w.toBitVec.toInt := rfl
      rw [e2] at hw ⊢
      rw [BitVec.toInt_eq_toNat_cond] at hw ⊢
      have := w.toBitVec.isLt
      split at hw <;> rename_i hc
      · rw [if_pos hc]; constructor <;> omega
      · omega
    have hx := tn x (by omega)
    have hy := tn y (by omega)
    have m1 := ai_mx_le A.2 B.2
    have hb := ai_bits_ok (A := ai_mx A.2 B.2) (by omega) (by omega) hx.2 hy.2 hu
    have eu : u.toInt = (u.toBitVec.toNat : Int) := by
      have e2 : u.toInt = u.toBitVec.toInt := rfl
      rw [e2, BitVec.toInt_eq_toNat_cond, if_pos (by omega)]
    exact ⟨u, rfl, by omega, by rw [eu]; exact hb.2⟩
theorem ai_nIof {x : Int32} (h : 0 ≤ x.toInt) : ∃ a : Nat, a < 2 ^ 31 ∧ x = nI a ∧ x.toInt = (a : Int) := by
  obtain ⟨a, h1, h2⟩ := nI_of (x := x) (by rw [Int32.lt_iff_toInt_lt]; have : (0 : Int32).toInt = 0 := rfl; omega)
  exact ⟨a, h1, h2, by rw [h2, nI_toInt h1]⟩
theorem ai_div_ok {ad : List Nat} {A B : Int × Int} {x y : Int32} (hA : A.1 ≤ x.toInt ∧ x.toInt ≤ A.2) (hB : B.1 ≤ y.toInt ∧ y.toInt ≤ B.2) : ai_mt ρ sb ad (0, 0, (ai_divB A B (-2147483648, 2147483647)).1, (ai_divB A B (-2147483648, 2147483647)).2) (.int (x / y)) := by
  unfold ai_divB
  cases h : (decide (0 ≤ A.1) && decide (0 < B.1)) with
  | false => exact ai_full_ok _
  | true =>
    simp only [Bool.and_eq_true, decide_eq_true_eq] at h
    obtain ⟨a, ha, rfl, ea⟩ := ai_nIof (x := x) (by omega)
    obtain ⟨b, hb, rfl, eb⟩ := ai_nIof (x := y) (by omega)
    refine ⟨_, rfl, ?_⟩
    rw [pk_div ha (by omega) hb]
    have hlt : a / b < 2 ^ 31 := Nat.lt_of_le_of_lt (Nat.div_le_self a b) ha
    rw [nI_toInt hlt]
    simp only [cond_true]
    refine ⟨Int.natCast_nonneg _, ?_⟩
    have e1 : ((a / b : Nat) : Int) * B.1 ≤ ((a / b : Nat) : Int) * (b : Int) := Int.mul_le_mul_of_nonneg_left (by omega) (Int.natCast_nonneg _)
    have e2 : ((a / b * b : Nat) : Int) ≤ (a : Int) := Int.ofNat_le.mpr (Nat.div_mul_le_self a b)
    rw [Int.natCast_mul] at e2
    exact (Int.le_ediv_iff_mul_le h.2).mpr (Int.le_trans e1 (Int.le_trans e2 (by omega)))
theorem ai_rem_ok {ad : List Nat} {A B : Int × Int} {x y : Int32} (hA : A.1 ≤ x.toInt ∧ x.toInt ≤ A.2) (hB : B.1 ≤ y.toInt ∧ y.toInt ≤ B.2) : ai_mt ρ sb ad (0, 0, (ai_remB A B (-2147483648, 2147483647)).1, (ai_remB A B (-2147483648, 2147483647)).2) (.int (x - x / y * y)) := by
  unfold ai_remB
  cases h : (decide (0 ≤ A.1) && decide (0 < B.1)) with
  | false => exact ai_full_ok _
  | true =>
    simp only [Bool.and_eq_true, decide_eq_true_eq] at h
    obtain ⟨a, ha, rfl, ea⟩ := ai_nIof (x := x) (by omega)
    obtain ⟨b, hb, rfl, eb⟩ := ai_nIof (x := y) (by omega)
    refine ⟨_, rfl, ?_⟩
    rw [pk_rem ha (by omega) hb]
    have h1 : a % b ≤ a := Nat.mod_le a b
    have h2 : a % b < b := Nat.mod_lt a (by omega)
    rw [nI_toInt (by omega)]
    simp only [cond_true]
    exact ⟨by omega, ai_mn_ge (by omega) (by omega)⟩
/-- two ints -/
theorem ai_b2_ok {ins : Instr} (hx : p.tables.exec = Jvm.exec) (hb : c.code = cc) (hrb : ai_rb L ρ) (hG : ai_gok ρ G) (hls : ai_lv ρ sb (ws.map Prod.fst) als md.2.2.2.1 ls) (hst : ai_F2 (ai_mt ρ sb (ws.map Prod.fst)) st stk) (hm : ai_mem ρ sb D A s H locs aw ws tys) (h : ai_b2 L ins G als st aw cs ss = some x) (hd : decode cc pc = .ok (ins, 1)) (K : ai_K p l e R s m args below meth c Q ρ sb D A md.2.2.2.1 (ws.map Prod.fst) (pc + 1) x) : W p l e R s m args below meth c H locs cs ss Q (F0 m pc ls stk) := by
  unfold ai_b2 at h
  obtain ⟨vb, va, r, rfl, h⟩ := ai_p2_ok h
  obtain ⟨hi, h⟩ := ai_gd_ok h
  simp only [Bool.and_eq_true] at hi
  obtain ⟨v, hv, h⟩ := ai_bd_ok h
  cases h
  obtain ⟨ub, stk1, rfl, mb, hst1⟩ := hst.cons
  obtain ⟨ua, stk2, rfl, ma, hst2⟩ := hst1.cons
  obtain ⟨y, rfl, hB, hnB⟩ := ai_int' hG mb hi.2
  obtain ⟨z, rfl, hA, hnA⟩ := ai_int' hG ma hi.1
  have go : ∀ u : Int32, ai_mt ρ sb (ws.map Prod.fst) v (.int u) → W p l e R s m args below meth c H locs cs ss Q (F0 m (pc + 1) ls (.int u :: stk2)) := fun u hu => K ls _ H locs ws tys [] (List.append_nil _).symm hls ⟨hu, hst2⟩ hm
  have shf : ∀ {u : Nat}, (bif va.1 == 2 && (decide (va.2.2.1 = 0) && (decide (va.2.2.2 = 1) && (vb.1 == 0 && decide (vb.2.2.1 = vb.2.2.2)))) then ai_bt L va.2.1 vb.2.2.1 else none) = some u → ρ u = some ((z >>> (y &&& 31)) &&& 255).toInt ∧ ρ u = some (((z.toUInt32 >>> (y.toUInt32 &&& Int32.toUInt32 31)).toInt32) &&& 255).toInt := by
    intro u hu
    obtain ⟨h1, h2⟩ := ai_bif_ok hu
    simp only [Bool.and_eq_true, beq_iff_eq, decide_eq_true_eq] at h1
    obtain ⟨g1, g4, g5, g2, g3⟩ := h1
    obtain ⟨h3, h4⟩ := ai_bif_ok h2
    cases h4
    simp only [Bool.and_eq_true, Bool.or_eq_true, decide_eq_true_eq, beq_iff_eq] at h3
    obtain ⟨n1, t1, l1, u1⟩ := va
    obtain ⟨n2, t2, l2, u2⟩ := vb
    dsimp only at g1 g2 g3 g4 g5 h3
    subst g1; subst g2; subst g3; subst g4; subst g5
    obtain ⟨w, w1, w2⟩ := hnA (Or.inl rfl)
    dsimp only at w1 w2
    have ez : ρ t1 = some z.toInt := by rw [w1, w2]; congr 1; omega
    have ey : y.toInt = l2 := by
      have q1 : l2 ≤ y.toInt := hB.1
      have q2 : y.toInt ≤ l2 := hB.2
      omega
    obtain ⟨r1, r2, -⟩ := hrb h3.1 t1 l2.toNat _ z y h3.2.1 ez (by omega) (by omega) rfl
    exact ⟨r1, r2⟩
  unfold ai_i2 at hv
  split at hv
  · cases hv
    refine lv_iadd hx hb hd (go _ (ai_or_ok (fun v hv => ?_) (ai_or_ok (fun v hv => ?_) (ai_or_ok (fun v hv => ?_) (ai_mI_ok (z := z.toInt + y.toInt) (Int32.toInt_add z y) (by omega) (by omega))))))
    · obtain ⟨w, h1, h2⟩ := ai_bd_ok hv
      have e := ai_wh_ok h1 hB
      exact ai_adA_ok h2 hA hnA (by rw [← e]; exact Int32.toInt_add z y)
    · obtain ⟨w, h1, h2⟩ := ai_bd_ok hv
      have e := ai_wh_ok h1 hA
      exact ai_adA_ok h2 hB hnB (by rw [← e, Int.add_comm]; exact Int32.toInt_add z y)
    · obtain ⟨w, h1, h2⟩ := ai_bd_ok hv
      have e := ai_wh_ok h1 hB
      exact ai_ad8_ok h2 ma hA (by rw [← e]; exact Int32.toInt_add z y)
  · cases hv
    refine lv_isub hx hb hd (go _ (ai_or_ok (fun v hv => ?_) (ai_mI_ok (z := z.toInt - y.toInt) (Int32.toInt_sub z y) (by omega) (by omega))))
    obtain ⟨w, h1, h2⟩ := ai_bd_ok hv
    have e := ai_wh_ok h1 hB
    exact ai_adA_ok h2 hA hnA (by rw [← e]; exact Int32.toInt_sub z y)
  · cases hv
    have q := ai_mulB_ok hA hB
    refine lv_imul hx hb hd (go _ (ai_or_ok (fun v hv => ?_) (ai_or_ok (fun v hv => ?_) (ai_mI_ok (z := z.toInt * y.toInt) (Int32.toInt_mul z y) q.1 q.2))))
    · obtain ⟨w, h1, h2⟩ := ai_bd_ok hv
      have e := ai_wh_ok h1 hB
      exact ai_muA_ok h2 hA hnA (by rw [← e]; exact Int32.toInt_mul z y)
    · obtain ⟨w, h1, h2⟩ := ai_bd_ok hv
      have e := ai_wh_ok h1 hA
      exact ai_muA_ok h2 hB hnB (by rw [← e, Int.mul_comm]; exact Int32.toInt_mul z y)
  · refine lv_iand hx hb hd (go _ ?_)
    cases hc : (va.1 == 6 && (vb.1 == 0 && (decide (vb.2.2.1 = 255) && decide (vb.2.2.2 = 255)))) with
    | true =>
      rw [hc] at hv
      cases hv
      simp only [Bool.and_eq_true, beq_iff_eq, decide_eq_true_eq] at hc
      obtain ⟨n1, t1, l1, u1⟩ := va
      obtain ⟨n2, t2, l2, u2⟩ := vb
      obtain ⟨g1, g2, g3, g4⟩ := hc
      dsimp only at g1 g2 g3 g4
      subst g1; subst g2; subst g3; subst g4
      obtain ⟨z', w, e1, e2, e3⟩ := ma
      cases e1
      have ey : y = 255 := Int32.toInt_inj.mp (by
        have q1 : 255 ≤ y.toInt := hB.1
        have q2 : y.toInt ≤ 255 := hB.2
        have : (255 : Int32).toInt = 255 := rfl
        omega)
      subst ey
      exact ⟨_, w, rfl, e2, by rw [e3]; omega⟩
    | false =>
      rw [hc] at hv
      simp only [cond_false] at hv
      cases hc8 : (va.1 == 2 && (decide (va.2.2.2 = 1) && (decide (0 ≤ (ai_b G va).1) && !(decide ((ai_b G vb).1 = (ai_b G vb).2))))) with
      | true =>
        rw [hc8] at hv
        cases hv
        simp only [Bool.and_eq_true, beq_iff_eq, decide_eq_true_eq] at hc8
        obtain ⟨w, w1, w2⟩ := hnA (Or.inl hc8.1)
        have hl := ai_and_le (x := y) (y := z) (by omega)
        rw [show y &&& z = z &&& y from Int32.and_comm y z] at hl
        rw [hc8.2.1, Int.one_mul] at w2
        exact ⟨_, w, rfl, w1, hl.1, by omega⟩
      | false =>
        rw [hc8] at hv
        cases hv
        exact ai_l2_ok (f := fun x y => x &&& y) hA hB (ai_andB_ok hA hB)
  · cases hv
    exact lv_ior hx hb hd (go _ (ai_l2_ok (f := fun x y => x ||| y) hA hB (ai_orB_ok hA hB (Or.inl (BitVec.toNat_or _ _)))))
  · cases hv
    exact lv_ixor hx hb hd (go _ (ai_l2_ok (f := fun x y => x ^^^ y) hA hB (ai_orB_ok hA hB (Or.inr (BitVec.toNat_xor _ _)))))
  · cases hv
    exact lv_ishl hx hb hd (go _ (ai_l2_ok (f := fun x y => x <<< (y &&& 31)) hA hB (ai_shB_ok hA hB)))
  · refine lv_ishr hx hb hd (go _ ?_)
    split at hv
    · cases hv
      exact ⟨_, _, rfl, (shf (by assumption)).1, rfl⟩
    · cases hv
      exact ai_l2_ok (f := fun x y => x >>> (y &&& 31)) hA hB (ai_full_ok _)
  · refine lv_iushr hx hb hd rfl (go _ ?_)
    split at hv
    · cases hv
      exact ⟨_, _, rfl, (shf (by assumption)).2, rfl⟩
    · cases hv
      exact ai_l2_ok (f := fun x y => (x.toUInt32 >>> (y.toUInt32 &&& Int32.toUInt32 31)).toInt32) hA hB (ai_full_ok _)
  · obtain ⟨h1, h2⟩ := ai_bif_ok hv
    cases h2
    exact lv_idiv hx hb hd (ai_nz hB h1) (go _ (ai_l2_ok (f := fun x y => x / y) hA hB (ai_div_ok hA hB)))
  · obtain ⟨h1, h2⟩ := ai_bif_ok hv
    cases h2
    exact lv_irem hx hb hd (ai_nz hB h1) (go _ (ai_l2_ok (f := fun x y => x - x / y * y) hA hB (ai_rem_ok hA hB)))
  · cases hv
/-- two longs -/
theorem ai_bl_ok {ins : Instr} (hx : p.tables.exec = Jvm.exec) (hb : c.code = cc) (hG : ai_gok ρ G) (hls : ai_lv ρ sb (ws.map Prod.fst) als md.2.2.2.1 ls) (hst : ai_F2 (ai_mt ρ sb (ws.map Prod.fst)) st stk) (hm : ai_mem ρ sb D A s H locs aw ws tys) (h : ai_bl ins G als st aw cs ss = some x) (hd : decode cc pc = .ok (ins, 1)) (K : ai_K p l e R s m args below meth c Q ρ sb D A md.2.2.2.1 (ws.map Prod.fst) (pc + 1) x) : W p l e R s m args below meth c H locs cs ss Q (F0 m pc ls stk) := by
  unfold ai_bl at h
  obtain ⟨vb, va, r, rfl, h⟩ := ai_p2_ok h
  obtain ⟨hi, h⟩ := ai_gd_ok h
  simp only [Bool.and_eq_true] at hi
  obtain ⟨v, hv, h⟩ := ai_bd_ok h
  cases h
  obtain ⟨ub, stk1, rfl, mb, hst1⟩ := hst.cons
  obtain ⟨ua, stk2, rfl, ma, hst2⟩ := hst1.cons
  obtain ⟨y, rfl, hB, hnB⟩ := ai_lng' hG mb hi.2
  obtain ⟨z, rfl, hA, hnA⟩ := ai_lng' hG ma hi.1
  have go : ∀ u : Int64, ai_mt ρ sb (ws.map Prod.fst) v (.long u) → W p l e R s m args below meth c H locs cs ss Q (F0 m (pc + 1) ls (.long u :: stk2)) := fun u hu => K ls _ H locs ws tys [] (List.append_nil _).symm hls ⟨hu, hst2⟩ hm
  unfold ai_l2l at hv
  split at hv
  · cases hv
    refine lv_ladd hx hb hd (go _ (ai_or_ok (fun v hv => ?_) (ai_or_ok (fun v hv => ?_) (ai_mL_ok (z := z.toInt + y.toInt) (Int64.toInt_add z y) (by omega) (by omega)))))
    · obtain ⟨w, h1, h2⟩ := ai_bd_ok hv
      have e := ai_wh_ok h1 hB
      exact ai_adL_ok h2 hA hnA (by rw [← e]; exact Int64.toInt_add z y)
    · obtain ⟨w, h1, h2⟩ := ai_bd_ok hv
      have e := ai_wh_ok h1 hA
      exact ai_adL_ok h2 hB hnB (by rw [← e, Int.add_comm]; exact Int64.toInt_add z y)
  · cases hv
    refine lv_lsub hx hb hd (go _ (ai_or_ok (fun v hv => ?_) (ai_mL_ok (z := z.toInt - y.toInt) (Int64.toInt_sub z y) (by omega) (by omega))))
    obtain ⟨w, h1, h2⟩ := ai_bd_ok hv
    have e := ai_wh_ok h1 hB
    exact ai_adL_ok h2 hA hnA (by rw [← e]; exact Int64.toInt_sub z y)
  · cases hv
    have q := ai_mulB_ok hA hB
    exact lv_lmul hx hb hd (go _ (ai_mL_ok (z := z.toInt * y.toInt) (Int64.toInt_mul z y) q.1 q.2))
  · obtain ⟨h1, h2⟩ := ai_bif_ok hv
    cases h2
    exact lv_ldiv hx hb hd (ai_nzl hB h1) (go _ (ai_ll2_ok (f := fun x y => x / y) hA hB))
  · obtain ⟨h1, h2⟩ := ai_bif_ok hv
    cases h2
    exact lv_lrem hx hb hd (ai_nzl hB h1) (go _ (ai_ll2_ok (f := fun x y => x - x / y * y) hA hB))
  · cases hv
/-- a local is read -/
theorem ai_load_ok {i : Nat} {ok : ai_V → Bool} (hls : ai_lv ρ sb (ws.map Prod.fst) als md.2.2.2.1 ls) (h : ai_load als st aw cs ss i ok = some x) : ∃ v u, x = (als, v :: st, aw, cs, ss) ∧ ok v = true ∧ ls[i]? = some (.val u) ∧ ai_mt ρ sb (ws.map Prod.fst) v u := by
  unfold ai_load at h
  obtain ⟨v, hv, h⟩ := ai_bd_ok h
  obtain ⟨ho, h⟩ := ai_gd_ok h
  cases h
  obtain ⟨lv, h1, h2⟩ := hls
  obtain ⟨k, u, h3, h4⟩ := ai_lk_ok hv h2
  exact ⟨v, u, rfl, ho, lv_at h1 k h3, h4⟩
end ASI
