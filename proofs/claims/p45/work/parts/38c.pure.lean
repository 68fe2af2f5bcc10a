/-! ===== the other pure methods ===== -/
theorem pk0 : (Int32.ofInt 0).toInt = 0 := by decide +kernel
theorem pk1 : (Int32.ofInt 1).toInt = 1 := by decide +kernel
theorem pk2 : (Int32.ofInt 2).toInt = 2 := by decide +kernel
theorem pkm : (Int32.ofInt (-1)).toInt = -1 := by decide +kernel
theorem pk60 : (Int8.ofInt 60).toInt32.toInt = 60 := by decide +kernel
theorem pk12 : (Int8.ofInt 12).toInt32.toInt = 12 := by decide +kernel
theorem pl0 : (Int64.ofNat 0).toInt = 0 := by decide +kernel
theorem pl1 : (Int64.ofNat 1).toInt = 1 := by decide +kernel
theorem pl60 : (Int64.ofInt 60).toInt = 60 := by decide +kernel
theorem pl12 : (Int64.ofInt 12).toInt = 12 := by decide +kernel
theorem pe0 : Int32.ofInt 0 = 0 := by decide +kernel
theorem pe20 : Int64.ofInt 20 = 20 := by decide +kernel
theorem pm1 : (-1 : Int32).toInt = -1 := by decide +kernel
theorem pu_sub {x y : Int32} (h1 : -2147483648 ≤ x.toInt - y.toInt) (h2 : x.toInt - y.toInt ≤ 2147483647) : (x - y).toInt = x.toInt - y.toInt := (Int32.toInt_sub x y).trans (ai_bm32 h1 h2)
theorem pu_add {x y : Int32} (h1 : -2147483648 ≤ x.toInt + y.toInt) (h2 : x.toInt + y.toInt ≤ 2147483647) : (x + y).toInt = x.toInt + y.toInt := (Int32.toInt_add x y).trans (ai_bm32 h1 h2)
theorem pu_on {x : Int32} (h : 0 ≤ x.toInt) : Int32.ofNat x.toInt.toNat = x := by
  have hl := pu_lt x
  exact Int32.toInt_inj.mp ((pu_of (by omega)).trans (by omega))
theorem pu_bi (b : Int32) (i : Nat) : b + Int32.ofNat i + Int32.ofInt 1 = b + Int32.ofNat (i + 1) := (Int32.add_assoc b _ _).trans (congrArg (fun z => b + z) (pu_inc i))
theorem pu_r0 {b : Bool} (h : b = false) : Value.int (Int32.ofInt 0) = .int (pu_b b) := by subst h; rfl
theorem pu_r1 {b : Bool} (h : b = true) : Value.int (Int32.ofInt 1) = .int (pu_b b) := by subst h; rfl
theorem pu_bt {b : Bool} (h : ¬ (pu_b b).toInt = 0) : b = true := by
  cases b with
  | true => rfl
  | false => exact absurd rfl h
theorem pu_nn {p : Prop} (h : ¬ ¬ p) : p := Classical.not_not.mp h
theorem pu_rz {ty : Option FieldType} {x : Int32} (h : ty = some .boolean) (hx : x &&& 1 = x) : ([] : List Value) = [] ∧ ∃ t, ty = some t ∧ narrow t (.int x) = .int x := ⟨rfl, .boolean, h, congrArg Value.int hx⟩
theorem pu_ri {ty : Option FieldType} {x : Int32} (h : ty = some .int) : ([] : List Value) = [] ∧ ∃ t, ty = some t ∧ narrow t (.int x) = .int x := ⟨rfl, .int, h, rfl⟩
theorem pz0 : (Int32.ofInt 0 : Int32) &&& 1 = Int32.ofInt 0 := by decide +kernel
theorem pz1 : (Int32.ofInt 1 : Int32) &&& 1 = Int32.ofInt 1 := by decide +kernel
theorem pu_below (x y : Int32) : pu_C 327 [.int x, .int y] (.int (pu_b (decide (0 ≤ x.toInt) && decide (x.toInt < y.toInt)))) := by
  refine pu_met (nL := 2) (h := 100000) (N := 0) (n := 0) (n0 := 40) (bb := 0) (g := fun _ => []) (Inv := fun _ => False) rfl (by decide +kernel) (Nat.le_of_ble_eq_true rfl) rfl ?_ (fun _ _ h => h.elim)
  refine And.intro (fun h1 => And.intro (pu_rz rfl pz0) (pu_r0 ?_)) (fun h1 => And.intro (fun h2 => And.intro (pu_rz rfl pz0) (pu_r0 ?_)) (fun h2 => And.intro (pu_rz rfl pz1) (pu_r1 ?_)))
  · have h1' : x.toInt < 0 := h1
    rw [decide_eq_false (by omega), Bool.false_and]
  · have h2' : ¬ x.toInt < y.toInt := h2
    rw [decide_eq_false h2', Bool.and_false]
  · have h1' : ¬ x.toInt < 0 := h1
    have h2' : x.toInt < y.toInt := pu_nn h2
    rw [decide_eq_true (by omega : 0 ≤ x.toInt), decide_eq_true h2', Bool.and_true]
theorem pu_inn (v a b : Int64) : pu_C 70 [.long v, .long a, .long b] (.int (pu_b (decide (a.toInt ≤ v.toInt) && decide (v.toInt ≤ b.toInt)))) := by
  refine pu_met (nL := 6) (h := 100000) (N := 0) (n := 0) (n0 := 40) (bb := 0) (g := fun _ => []) (Inv := fun _ => False) rfl (by decide +kernel) (Nat.le_of_ble_eq_true rfl) rfl ?_ (fun _ _ h => h.elim)
  refine And.intro (fun h1 => And.intro (pu_rz rfl pz0) (pu_r0 ?_)) (fun h1 => And.intro (fun h2 => And.intro (pu_rz rfl pz0) (pu_r0 ?_)) (fun h2 => And.intro (pu_rz rfl pz1) (pu_r1 ?_)))
  · have h1' : v.toInt < a.toInt := (ai_lgc (q := .lt)).mp h1
    rw [decide_eq_false (by omega), Bool.false_and]
  · have h2' : b.toInt < v.toInt := (ai_lgc (q := .gt)).mp h2
    rw [decide_eq_false (by omega : ¬ v.toInt ≤ b.toInt), Bool.and_false]
  · have h1' : ¬ v.toInt < a.toInt := fun z => h1 ((ai_lgc (q := .lt)).mpr z)
    have h2' : ¬ b.toInt < v.toInt := fun z => h2 ((ai_lgc (q := .gt)).mpr z)
    rw [decide_eq_true (by omega : a.toInt ≤ v.toInt), decide_eq_true (by omega : v.toInt ≤ b.toInt), Bool.and_true]
def dr_pb : Bool := (List.range 61).all fun n => (List.range 13).all fun i => Nat.blt n i || decide (0 < (dr_v (Int32.ofNat n) i).toInt)
theorem dr_pb_ok : dr_pb = true := by decide +kernel
theorem dr_pos {n : Int32} {i : Nat} (h0 : 0 ≤ n.toInt) (h1 : n.toInt ≤ 60) (hi : i ≤ 12) (hin : (i : Int) ≤ n.toInt) : 0 < (dr_v n i).toInt := by
  have h : (Nat.blt n.toInt.toNat i || decide (0 < (dr_v (Int32.ofNat n.toInt.toNat) i).toInt)) = true := List.all_eq_true.mp (List.all_eq_true.mp dr_pb_ok n.toInt.toNat (List.mem_range.mpr (by omega))) i (List.mem_range.mpr (by omega))
  rw [pu_on h0] at h
  have hb : Nat.blt n.toInt.toNat i = false := by
    cases e : Nat.blt n.toInt.toNat i with
    | false => rfl
    | true =>
      have h3 : n.toInt.toNat + 1 ≤ i := Nat.le_of_ble_eq_true e
      omega
  rw [hb, Bool.false_or] at h
  exact of_decide_eq_true h
theorem dr_c0 {n k : Int32} (h : k.toInt < 0 ∨ n.toInt < k.toInt) : dr_c n k = 0 := by
  refine if_pos ?_
  rcases h with h | h
  · exact Or.inl (Int32.lt_iff_toInt_lt.mpr h)
  · exact Or.inr (Int32.lt_iff_toInt_lt.mpr h)
theorem dr_c1 {n k : Int32} (h : 0 ≤ k.toInt) (h' : k.toInt ≤ n.toInt) : dr_c n k = dr_v n k.toInt.toNat := by
  refine if_neg ?_
  intro z
  rcases z with z | z
  · have : k.toInt < 0 := Int32.lt_iff_toInt_lt.mp z
    omega
  · have := Int32.lt_iff_toInt_lt.mp z
    omega
theorem pu_choose (n k : Int32) (h0 : 0 ≤ n.toInt) (h1 : n.toInt ≤ 60) (h2 : k.toInt ≤ 12) : pu_C 45 [.int n, .int k] (.long (dr_c n k)) := by
  by_cases hbad : k.toInt < 0 ∨ n.toInt < k.toInt
  · rw [dr_c0 hbad]
    refine pu_met (nL := 5) (h := 100000) (N := 0) (n := 0) (n0 := 40) (bb := 0) (g := fun _ => []) (Inv := fun _ => False) rfl (by decide +kernel) (Nat.le_of_ble_eq_true rfl) rfl ?_ (fun _ _ h => h.elim)
    refine And.intro (fun _ => And.intro (fun _ => And.intro (And.intro rfl rfl) rfl) (fun _ => And.intro (fun _ => And.intro (And.intro rfl rfl) rfl) (fun h3 => ?_))) (fun h4 => And.intro (fun h5 => ?_) (fun _ => And.intro (fun _ => And.intro (And.intro rfl rfl) rfl) (fun _ => And.intro (fun _ => And.intro (And.intro rfl rfl) rfl) (fun h3 => ?_))))
    · exact absurd ((ai_lgc (q := .le)).mpr (Int.lt_irrefl _)) h3
    · have h4' : ¬ k.toInt < 0 := h4
      have h5' : ¬ n.toInt < k.toInt := h5
      omega
    · exact absurd ((ai_lgc (q := .le)).mpr (Int.lt_irrefl _)) h3
  · have hk0 : 0 ≤ k.toInt := by omega
    have hkn : k.toInt ≤ n.toInt := by omega
    rw [dr_c1 hk0 hkn]
    refine pu_met (nL := 5) (h := 18) (N := k.toInt.toNat) (n := 40) (n0 := 40) (bb := 100) (g := fun i => pu_g4 (.int (Int32.ofNat i)) (.long (dr_v n i)) (.int n) (.int k)) (Inv := fun _ => True) rfl (by decide +kernel) (Nat.le_of_ble_eq_true rfl) rfl ?_ ?_
    · refine And.intro (fun h3 => ?_) (fun _ => And.intro (fun _ => ?_) (fun h3 => ?_))
      · have h3' : k.toInt < 0 := h3
        omega
      · exact And.intro trivial (And.intro trivial (And.intro rfl rfl))
      · have h3' : ¬ ¬ n.toInt < k.toInt := h3
        omega
    · intro i hi _
      have hoi : (Int32.ofNat i).toInt = (i : Int) := pu_of (by omega)
      refine And.intro (fun h3 => ?_) (fun h3 => ?_)
      · have h3' : ¬ (Int32.ofNat i).toInt < k.toInt := h3
        have e : i = k.toInt.toNat := by omega
        refine And.intro (And.intro rfl rfl) ?_
        show Value.long (dr_v n i) = .long (dr_v n k.toInt.toNat)
        rw [← e]
      · have h3' : (Int32.ofNat i).toInt < k.toInt := pu_nn h3
        refine And.intro (fun h4 => ?_) (fun _ => ?_)
        · have h4' : ¬ (Int64.ofNat 0).toInt < (dr_v n i).toInt := (ai_lgc (q := .le)).mp h4
          rw [pl0] at h4'
          exact absurd (dr_pos h0 h1 (by omega) (by omega)) h4'
        · exact And.intro (pu_nz (by omega)) (And.intro (by omega) (And.intro trivial (And.intro (congrArg (fun z => pu_g4 (Value.int z) (.long (dr_v n (i + 1))) (.int n) (.int k)) (pu_inc i)) rfl)))
def pu_g7 (a b c d e f g : Value) : pu_L := [(7, a), (5, b), (0, c), (1, d), (2, e), (3, f), (4, g)]
theorem pu_ways (a d m b t : Int32) (hb : 0 ≤ b.toInt) (hb' : b.toInt ≤ 12) (ht : t.toInt ≤ 12) : pu_C 358 [.int a, .int d, .int m, .int b, .int t] (.long (dr_w a d m b t)) := by
  have key : ∀ i : Nat, i ≤ (t.toInt + 1 - b.toInt).toNat → (b + Int32.ofNat i).toInt = b.toInt + i := fun i hi => by
    have h1 := pu_of (i := i) (by omega)
    rw [pu_add (by rw [h1]; omega) (by rw [h1]; omega), h1]
  refine pu_met (nL := 8) (h := 6) (N := (t.toInt + 1 - b.toInt).toNat) (n := 40) (n0 := 40) (bb := 100) (g := fun i => pu_g7 (.int (b + Int32.ofNat i)) (.long (dr_s a d m b i)) (.int a) (.int d) (.int m) (.int b) (.int t)) (Inv := fun _ => True) rfl (by decide +kernel) (Nat.le_of_ble_eq_true rfl) rfl ?_ ?_
  · exact And.intro trivial (And.intro trivial (And.intro (congrArg (fun z => pu_g7 (.int z) (.long (dr_s a d m b 0)) (.int a) (.int d) (.int m) (.int b) (.int t)) (show b = b + Int32.ofNat 0 from (Int32.add_zero b).symm)) rfl))
  · intro i hi _
    have hk := key i hi
    refine And.intro (fun h1 => ?_) (fun h1 => ?_)
    · have h1' : t.toInt < (b + Int32.ofNat i).toInt := h1
      have e : i = (t.toInt + 1 - b.toInt).toNat := by omega
      refine And.intro (And.intro rfl rfl) ?_
      show Value.long (dr_s a d m b i) = .long (dr_s a d m b (t.toInt + 1 - b.toInt).toNat)
      rw [← e]
    · have h1' : ¬ t.toInt < (b + Int32.ofNat i).toInt := h1
      refine And.intro rfl (Exists.intro _ (And.intro (pu_choices m (b + Int32.ofNat i)) ?_))
      refine And.intro rfl (Exists.intro _ (And.intro (pu_choices (a - m) (d - (b + Int32.ofNat i))) ?_))
      exact And.intro (by omega) (And.intro trivial (And.intro (congrArg (fun z => pu_g7 (.int z) (.long (dr_s a d m b (i + 1))) (.int a) (.int d) (.int m) (.int b) (.int t)) (pu_bi b i)) rfl))
theorem dr_b1 {a d h m : Int32} (x : (Int64.ofInt 20 * dr_w a d m (Int32.ofInt 0) h).toInt < (dr_c a d).toInt) : dr_b a d h m = false := by
  rw [pe20, pe0] at x
  unfold dr_b
  rw [decide_eq_false (fun z => by have := Int64.le_iff_toInt_le.mp z; omega), Bool.false_and]
theorem dr_b2 {a d h m : Int32} (x : (Int64.ofInt 20 * dr_w a d m h d).toInt < (dr_c a d).toInt) : dr_b a d h m = false := by
  rw [pe20] at x
  unfold dr_b
  rw [decide_eq_false (p := dr_c a d ≤ 20 * dr_w a d m h d) (fun z => by have := Int64.le_iff_toInt_le.mp z; omega), Bool.and_false]
theorem dr_b3 {a d h m : Int32} (x : ¬ (Int64.ofInt 20 * dr_w a d m (Int32.ofInt 0) h).toInt < (dr_c a d).toInt) (y : ¬ (Int64.ofInt 20 * dr_w a d m h d).toInt < (dr_c a d).toInt) : dr_b a d h m = true := by
  rw [pe20, pe0] at x
  rw [pe20] at y
  unfold dr_b
  rw [decide_eq_true (Int64.le_iff_toInt_le.mpr (by omega)), decide_eq_true (Int64.le_iff_toInt_le.mpr (by omega)), Bool.and_true]
theorem pu_could (a d h m : Int32) (hd : d.toInt ≤ 12) (hh0 : 0 ≤ h.toInt) (hh : h.toInt ≤ d.toInt) : pu_C 314 [.int a, .int d, .int h, .int m] (.int (pu_b (dr_b a d h m))) := by
  refine pu_met (nL := 6) (h := 100000) (N := 0) (n := 0) (n0 := 60) (bb := 0) (g := fun _ => []) (Inv := fun _ => False) rfl (by decide +kernel) (Nat.le_of_ble_eq_true rfl) rfl ?_ (fun _ _ h => h.elim)
  refine And.intro rfl (Exists.intro _ (And.intro (pu_choices a d) ?_))
  refine And.intro rfl (Exists.intro _ (And.intro (pu_ways a d m (Int32.ofInt 0) h (by have := pk0; omega) (by have := pk0; omega) (by omega)) ?_))
  refine And.intro (fun h1 => And.intro (pu_rz rfl pz0) (pu_r0 (dr_b1 ((ai_lgc (q := .lt)).mp h1)))) (fun h1 => ?_)
  refine And.intro rfl (Exists.intro _ (And.intro (pu_ways a d m h d hh0 (by omega) hd) ?_))
  exact And.intro (fun h2 => And.intro (pu_rz rfl pz0) (pu_r0 (dr_b2 ((ai_lgc (q := .lt)).mp h2)))) (fun h2 => And.intro (pu_rz rfl pz1) (pu_r1 (dr_b3 (fun z => h1 ((ai_lgc (q := .lt)).mpr z)) (fun z => h2 ((ai_lgc (q := .lt)).mpr z)))))
