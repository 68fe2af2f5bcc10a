/-! ===== the walk with jumps, calls, loops ===== -/
def ai_op (q : Jvm.ClassFile.Cond) : Nat := match q with
  | .eq => 0
  | .ne => 1
  | .lt => 2
  | .ge => 3
  | .gt => 4
  | .le => 5
def ai_cb (op : Nat) (x y : Int) : Bool := match op with
  | 0 => decide (x = y)
  | 1 => !decide (x = y)
  | 2 => decide (x < y)
  | 3 => !decide (x < y)
  | 4 => decide (y < x)
  | _ => !decide (y < x)
theorem ai_cb_ok {op : Nat} {x y : Int} : ai_cP op x y ↔ ai_cb op x y = true := by
  match op with
  | 0 => simp [ai_cP, ai_cb]
  | 1 => simp [ai_cP, ai_cb]
  | 2 => simp [ai_cP, ai_cb]
  | 3 => simp [ai_cP, ai_cb]
  | 4 => simp [ai_cP, ai_cb]
  | n + 5 => simp [ai_cP, ai_cb]
theorem ai_cP_add {op : Nat} {x y z : Int} : ai_cP op (z + x) (z + y) ↔ ai_cP op x y := by
  match op with
  | 0 => simp only [ai_cP]; omega
  | 1 => simp only [ai_cP]; omega
  | 2 => simp only [ai_cP]; omega
  | 3 => simp only [ai_cP]; omega
  | 4 => simp only [ai_cP]; omega
  | n + 5 => simp only [ai_cP]; omega
/-- two tokens' numbers: how far they are apart, as far as it was seen -/
def ai_dk (a b : ai_V) : Nat := 100 + 1000 * a.2.1 + b.2.1
def ai_dqf (k1 k2 : Nat) : Int × Int → ai_G → Int × Int
  | q, [] => q
  | q, r :: t => bif r.2.2 == k1 then ai_dqf k1 k2 (ai_mx q.1 r.1, ai_mn q.2 r.2.1) t else bif r.2.2 == k2 then ai_dqf k1 k2 (ai_mx q.1 (-r.2.1), ai_mn q.2 (-r.1)) t else ai_dqf k1 k2 q t
def ai_dq (G : ai_G) (a b : ai_V) : Int × Int := ai_dqf (ai_dk a b) (ai_dk b a) ((ai_aff G[a.2.1]? 0 1).1 - (ai_aff G[b.2.1]? 0 1).2, (ai_aff G[a.2.1]? 0 1).2 - (ai_aff G[b.2.1]? 0 1).1) G
def ai_okd (a b : ai_V) : Bool := ai_tok a && (ai_tok b && (decide (a.2.1 < 1000) && (decide (b.2.1 < 1000) && !(a.2.1 == b.2.1))))
def ai_five (G : ai_G) (a : ai_V) : Bool := match G[a.2.1]? with
  | some q => q.2.2 == 5
  | none => false
def ai_dd (G : ai_G) (op : Nat) (a b : ai_V) : Option Bool := bif ai_okd a b then (bif ai_five G a && ai_five G b then some (ai_cb op a.2.2.1 b.2.2.1) else ai_dec op (ai_dq G a b) (b.2.2.1 - a.2.2.1, b.2.2.1 - a.2.2.1)) else none
theorem ai_dqf_ok {k1 k2 : Nat} {d : Int} : ∀ (l : ai_G) (q : Int × Int), (∀ r ∈ l, (r.2.2 = k1 → r.1 ≤ d ∧ d ≤ r.2.1) ∧ (r.2.2 = k2 → r.1 ≤ -d ∧ -d ≤ r.2.1)) → q.1 ≤ d ∧ d ≤ q.2 → (ai_dqf k1 k2 q l).1 ≤ d ∧ d ≤ (ai_dqf k1 k2 q l).2
  | [], q, _, hq => hq
  | r :: t, q, h, hq => by
    have hr := h r List.mem_cons_self
    have ht := fun r' (hr' : r' ∈ t) => h r' (List.mem_cons_of_mem _ hr')
    unfold ai_dqf
    cases e1 : (r.2.2 == k1) with
    | true =>
      have := hr.1 (by simpa using e1)
      rw [cond_true]
      exact ai_dqf_ok t _ ht ⟨ai_mx_ge hq.1 this.1, ai_mn_ge hq.2 this.2⟩
    | false =>
      rw [cond_false]
      cases e2 : (r.2.2 == k2) with
      | true =>
        have := hr.2 (by simpa using e2)
        rw [cond_true]
        exact ai_dqf_ok t _ ht ⟨ai_mx_ge hq.1 (by omega), ai_mn_ge hq.2 (by omega)⟩
      | false =>
        rw [cond_false]
        exact ai_dqf_ok t _ ht hq
theorem ai_okd_ok {a b : ai_V} (h : ai_okd a b = true) : ((a.1 = 2 ∨ a.1 = 3) ∧ a.2.2.2 = 1) ∧ ((b.1 = 2 ∨ b.1 = 3) ∧ b.2.2.2 = 1) ∧ a.2.1 < 1000 ∧ b.2.1 < 1000 := by
  unfold ai_okd ai_tok at h
  simp only [Bool.and_eq_true, Bool.or_eq_true, beq_iff_eq, decide_eq_true_eq] at h
  exact ⟨h.1, h.2.1, h.2.2.1, h.2.2.2.1⟩
theorem ai_dq_ok {ρ : ai_Rh} {G : ai_G} {a b : ai_V} {x y : Int} (hG : ai_gok ρ G) (ha : a.2.1 < 1000) (hb : b.2.1 < 1000) (hx : ρ a.2.1 = some x) (hy : ρ b.2.1 = some y) : (ai_dq G a b).1 ≤ x - y ∧ x - y ≤ (ai_dq G a b).2 := by
  have hA := ai_aff_ok hG (c := 0) (m := 1) hx
  have hB := ai_aff_ok hG (c := 0) (m := 1) hy
  unfold ai_dq
  refine ai_dqf_ok G _ (fun r hr => ?_) ⟨by dsimp only; omega, by dsimp only; omega⟩
  obtain ⟨t, ht⟩ := List.mem_iff_getElem?.mp hr
  obtain ⟨z, hz, h1, h2, hk⟩ := hG.at ht
  unfold ai_dk
  refine ⟨fun e => ?_, fun e => ?_⟩
  · obtain ⟨u, v, g1, g2, g3, -⟩ := hk.2 (by omega)
    rw [e, show (100 + 1000 * a.2.1 + b.2.1 - 100) / 1000 % 1000 = a.2.1 by omega, hx] at g1
    rw [e, show (100 + 1000 * a.2.1 + b.2.1 - 100) % 1000 = b.2.1 by omega, hy] at g2
    cases g1
    cases g2
    omega
  · obtain ⟨u, v, g1, g2, g3, -⟩ := hk.2 (by omega)
    rw [e, show (100 + 1000 * b.2.1 + a.2.1 - 100) / 1000 % 1000 = b.2.1 by omega, hy] at g1
    rw [e, show (100 + 1000 * b.2.1 + a.2.1 - 100) % 1000 = a.2.1 by omega, hx] at g2
    cases g1
    cases g2
    omega
theorem ai_cP_sub {op : Nat} {x y c d : Int} : ai_cP op (x + c) (y + d) ↔ ai_cP op (x - y) (d - c) := by
  match op with
  | 0 => simp only [ai_cP]; omega
  | 1 => simp only [ai_cP]; omega
  | 2 => simp only [ai_cP]; omega
  | 3 => simp only [ai_cP]; omega
  | 4 => simp only [ai_cP]; omega
  | n + 5 => simp only [ai_cP]; omega
theorem ai_dd_ok {ρ : ai_Rh} {G : ai_G} {op : Nat} {a b : ai_V} {x y : Int} {r : Bool} (hG : ai_gok ρ G) (hx : ai_nm ρ a x) (hy : ai_nm ρ b y) (h : ai_dd G op a b = some r) : ai_cP op x y ↔ r = true := by
  unfold ai_dd at h
  cases hk : ai_okd a b with
  | false => rw [hk] at h; cases h
  | true =>
    rw [hk, cond_true] at h
    obtain ⟨⟨a1, a2⟩, ⟨b1, b2⟩, a3, b3⟩ := ai_okd_ok hk
    obtain ⟨u, hu, eu⟩ := hx a1
    obtain ⟨v, hv, ev⟩ := hy b1
    rw [a2, Int.one_mul] at eu
    rw [b2, Int.one_mul] at ev
    subst eu
    subst ev
    cases h5 : (ai_five G a && ai_five G b) with
    | false =>
      rw [h5, cond_false] at h
      rw [ai_cP_sub]
      exact ai_dec_ok (ai_dq_ok hG a3 b3 hu hv) ⟨Int.le_refl _, Int.le_refl _⟩ h
    | true =>
      rw [h5, cond_true] at h
      cases h
      rw [Bool.and_eq_true] at h5
      have key : ∀ {t : Nat} {z : Int}, ρ t = some z → (match G[t]? with
          | some q => q.2.2 == 5
          | none => false) = true → ∃ a d h w : Int32, ρ 1 = some a.toInt ∧ ρ 2 = some d.toInt ∧ ρ 3 = some h.toInt ∧ ρ 4 = some w.toInt ∧ z = (dr_D a d h w).toInt := by
        intro t z hz h5
        obtain ⟨q, hq, -, -, hkp⟩ := hG.get hz
        rw [hq] at h5
        exact hkp.1 (by simpa using h5)
      obtain ⟨p1, p2, p3, p4, e1, e2, e3, e4, e5⟩ := key hu h5.1
      obtain ⟨q1, q2, q3, q4, f1, f2, f3, f4, f5⟩ := key hv h5.2
      have g1 : p1 = q1 := Int32.toInt_inj.mp (Option.some.inj (e1.symm.trans f1))
      have g2 : p2 = q2 := Int32.toInt_inj.mp (Option.some.inj (e2.symm.trans f2))
      have g3 : p3 = q3 := Int32.toInt_inj.mp (Option.some.inj (e3.symm.trans f3))
      have g4 : p4 = q4 := Int32.toInt_inj.mp (Option.some.inj (e4.symm.trans f4))
      subst g1 g2 g3 g4
      rw [e5, f5, ai_cP_add]
      exact ai_cb_ok
/-- the ways on which a comparison holds -/
def ai_wy1 (G : ai_G) (op : Nat) (a b : ai_V) : Bool := op == 1 && (ai_tok a && (decide ((ai_b G b).1 = 0) && (ai_one G b && (decide ((ai_b G a).1 < (ai_b G b).1) && decide ((ai_b G b).1 < (ai_b G a).2)))))
def ai_wy2 (G : ai_G) (a b : ai_V) : Bool := ai_okd a b && (!(ai_one G a) && !(ai_one G b))
/-- told apart: not the same -/
def ai_wyk (op : Nat) (a b : ai_V) : Nat := bif op == 1 && decide (a.2.2.1 = b.2.2.1) then 1000000 else 0
theorem ai_wyk_ok (op : Nat) (a b : ai_V) : ai_wyk op a b = 0 ∨ (ai_wyk op a b = 1000000 ∧ op = 1 ∧ a.2.2.1 = b.2.2.1) := by
  unfold ai_wyk
  cases h : (op == 1 && decide (a.2.2.1 = b.2.2.1)) with
  | false => exact Or.inl rfl
  | true =>
    rw [Bool.and_eq_true, beq_iff_eq, decide_eq_true_eq] at h
    exact Or.inr ⟨rfl, h.1, h.2⟩
def ai_wyq (G : ai_G) (op : Nat) (a b : ai_V) : Int × Int × Nat := ((ai_rf op (ai_dq G a b) (b.2.2.1 - a.2.2.1, b.2.2.1 - a.2.2.1)).1, (ai_rf op (ai_dq G a b) (b.2.2.1 - a.2.2.1, b.2.2.1 - a.2.2.1)).2, ai_dk a b + ai_wyk op a b)
def ai_wy (G : ai_G) (op : Nat) (a b : ai_V) : List ai_G := bif ai_wy1 G op a b then [ai_ref2 G 2 a b, ai_ref2 G 4 a b] else bif ai_wy2 G a b then [ai_ref2 G op a b ++ [ai_wyq G op a b]] else [ai_ref2 G op a b]
theorem ai_wy_ok {ρ : ai_Rh} {G : ai_G} {op : Nat} {a b : ai_V} {x y : Int} (hG : ai_gok ρ G) (hx : ai_nm ρ a x) (hy : ai_nm ρ b y) (hA : (ai_b G a).1 ≤ x ∧ x ≤ (ai_b G a).2) (hB : (ai_b G b).1 ≤ y ∧ y ≤ (ai_b G b).2) (h : ai_cP op x y) : ∃ G' ∈ ai_wy G op a b, ∃ σ, ai_le ρ σ ∧ ai_gok σ G' := by
  have hr := ai_ref2_ok hG hx hy hA hB h
  unfold ai_wy
  cases h1 : ai_wy1 G op a b with
  | true =>
    rw [cond_true]
    unfold ai_wy1 at h1
    simp only [Bool.and_eq_true, beq_iff_eq] at h1
    have h' : ai_cP 1 x y := h1.1 ▸ h
    by_cases hlt : x < y
    · exact ⟨_, List.mem_cons_self, ρ, ai_le.rf, ai_ref2_ok hG hx hy hA hB hlt⟩
    · have hgt : ai_cP 4 x y := by
        simp only [ai_cP] at h' ⊢
        omega
      exact ⟨_, List.mem_cons_of_mem _ List.mem_cons_self, ρ, ai_le.rf, ai_ref2_ok hG hx hy hA hB hgt⟩
  | false =>
    rw [cond_false]
    cases h2 : ai_wy2 G a b with
    | false => exact ⟨_, List.mem_cons_self, ρ, ai_le.rf, hr⟩
    | true =>
      rw [cond_true]
      unfold ai_wy2 at h2
      rw [Bool.and_eq_true] at h2
      obtain ⟨⟨a1, a2⟩, ⟨b1, b2⟩, a3, b3⟩ := ai_okd_ok h2.1
      obtain ⟨u, hu, eu⟩ := hx a1
      obtain ⟨v, hv, ev⟩ := hy b1
      rw [a2, Int.one_mul] at eu
      rw [b2, Int.one_mul] at ev
      subst eu
      subst ev
      have hq := ai_rf_ok (ai_dq_ok hG a3 b3 hu hv) (B := (b.2.2.1 - a.2.2.1, b.2.2.1 - a.2.2.1)) ⟨Int.le_refl _, Int.le_refl _⟩ (ai_cP_sub.mp h)
      refine ⟨_, List.mem_cons_self, _, ai_more_le hr (u - v), ai_more_ok hr hq.1 hq.2 ⟨fun e => ?_, fun _ => ⟨u, v, ?_, ?_, rfl, fun e => ?_⟩⟩⟩
      · unfold ai_wyq ai_dk at e
        dsimp only at e
        omega
      · unfold ai_wyq ai_dk
        dsimp only
        rcases ai_wyk_ok op a b with h0 | ⟨h0, -, -⟩
        · rw [h0, show (100 + 1000 * a.2.1 + b.2.1 + 0 - 100) / 1000 % 1000 = a.2.1 by omega]
          exact hu
        · rw [h0, show (100 + 1000 * a.2.1 + b.2.1 + 1000000 - 100) / 1000 % 1000 = a.2.1 by omega]
          exact hu
      · unfold ai_wyq ai_dk
        dsimp only
        rcases ai_wyk_ok op a b with h0 | ⟨h0, -, -⟩
        · rw [h0, show (100 + 1000 * a.2.1 + b.2.1 + 0 - 100) % 1000 = b.2.1 by omega]
          exact hv
        · rw [h0, show (100 + 1000 * a.2.1 + b.2.1 + 1000000 - 100) % 1000 = b.2.1 by omega]
          exact hv
      · unfold ai_wyq ai_dk at e
        dsimp only at e
        rcases ai_wyk_ok op a b with h0 | ⟨h0, h1, h3⟩
        · rw [h0] at e
          omega
        · subst h1
          have h' : ai_cP 1 (u + a.2.2.1) (v + b.2.2.1) := h
          simp only [ai_cP] at h'
          omega
/-- is a comparison known? (numbers of one token, too) -/
def ai_dc (G : ai_G) (op : Nat) (a b : ai_V) : Option Bool := bif (a.1 == 2 || a.1 == 3) && ((b.1 == 2 || b.1 == 3) && (a.2.1 == b.2.1 && decide (a.2.2.2 = b.2.2.2))) then some (ai_cb op a.2.2.1 b.2.2.1) else match ai_dec op (ai_b G a) (ai_b G b) with
  | some r => some r
  | none => ai_dd G op a b
theorem ai_dc_ok {ρ : ai_Rh} {G : ai_G} {op : Nat} {a b : ai_V} {x y : Int} {r : Bool} (hG : ai_gok ρ G) (hx : ai_nm ρ a x) (hy : ai_nm ρ b y) (hA : (ai_b G a).1 ≤ x ∧ x ≤ (ai_b G a).2) (hB : (ai_b G b).1 ≤ y ∧ y ≤ (ai_b G b).2) (h : ai_dc G op a b = some r) : ai_cP op x y ↔ r = true := by
  unfold ai_dc at h
  cases h1 : ((a.1 == 2 || a.1 == 3) && ((b.1 == 2 || b.1 == 3) && (a.2.1 == b.2.1 && decide (a.2.2.2 = b.2.2.2)))) with
  | false =>
    rw [h1] at h
    cases h2 : ai_dec op (ai_b G a) (ai_b G b) with
    | some r' =>
      rw [h2] at h
      cases h
      exact ai_dec_ok hA hB h2
    | none =>
      rw [h2] at h
      exact ai_dd_ok hG hx hy h
  | true =>
    rw [h1] at h
    cases h
    simp only [Bool.and_eq_true, Bool.or_eq_true, beq_iff_eq, decide_eq_true_eq] at h1
    obtain ⟨z1, e1, e2⟩ := hx h1.1
    obtain ⟨z2, e3, e4⟩ := hy h1.2.1
    rw [h1.2.2.1] at e1
    cases e1.symm.trans e3
    rw [h1.2.2.2] at e2
    rw [e2, e4, ai_cP_add]
    exact ai_cb_ok
def ai_join {α : Type} (a b : Option (List α)) : Option (List α) := match a with
  | some x => match b with
    | some y => some (x ++ y)
    | none => none
  | none => none
theorem ai_join_ok {α : Type} {a b : Option (List α)} {z : List α} (h : ai_join a b = some z) : ∃ x y, a = some x ∧ b = some y ∧ z = x ++ y := by
  match a, b, h with
  | some x, some y, h => cases h; exact ⟨x, y, rfl, rfl, rfl⟩
  | some x, none, h => cases h
  | none, _, h => cases h
def ai_all {α : Type} (f : α → Option (List ai_O)) : List α → Option (List ai_O)
  | [] => some []
  | o :: r => ai_join (f o) (ai_all f r)
theorem ai_all_ok {α : Type} {f : α → Option (List ai_O)} : ∀ {l : List α} {z : List ai_O}, ai_all f l = some z → ∀ o ∈ l, ∃ y, f o = some y ∧ ∀ q ∈ y, q ∈ z
  | [], _, _, o, ho => by cases ho
  | o :: r, z, h, o', ho => by
    obtain ⟨x, y, h1, h2, rfl⟩ := ai_join_ok h
    rcases List.mem_cons.mp ho with rfl | ho
    · exact ⟨x, h1, fun q hq => List.mem_append_left _ hq⟩
    · obtain ⟨w, g1, g2⟩ := ai_all_ok h2 o' ho
      exact ⟨w, g1, fun q hq => List.mem_append_right _ (g2 q hq)⟩
/-- a loop: 0 its first token goes up, else down; what it keeps -/
abbrev ai_An : Type := Nat × ai_Iv
abbrev ai_Fn : Type := List Nat → List ai_E → ai_G → ai_S → Option (List ai_O)
def ai_prog (dir nG : Nat) (cv : ai_V) : Bool := (cv.1 == 2 || cv.1 == 3) && (cv.2.1 == nG && (decide (cv.2.2.2 = 1) && (bif dir == 0 then decide (1 ≤ cv.2.2.1) else decide (cv.2.2.1 ≤ -1))))
def ai_prog8 (dir nG : Nat) (v : ai_V) : Bool := v.2.1 == nG && ((v.1 == 8 && (!(dir == 0) && decide (v.2.2.2 ≤ -1))) || (v.1 == 9 && (dir == 0 && decide (1 ≤ v.2.2.1))))
def ai_back (a : ai_An) (nG : Nat) (iv : ai_S) (o : ai_O) : Bool := match ai_hd a.2 nG iv o.2.1 o.2.2 with
  | some (cv :: _) => ai_prog a.1 nG cv || (match ai_raw a.2.1 o.2.2 with
    | some v => ai_prog8 a.1 nG v
    | none => false)
  | _ => false
def ai_lp (f : ai_Fn) (an : Nat → Option ai_An) (stops : List Nat) (code : List ai_E) (G : ai_G) (x : ai_S) : Option (List ai_O) := match code with
  | [] => none
  | en :: r => match an en.1 with
    | none => f stops (en :: r) G x
    | some a => (ai_inv G.length x a.2).bind fun iv => (ai_hd a.2 G.length iv G x).bind fun _ => (f (en.1 :: stops) (en :: r) (G ++ a.2.2.1) iv).bind fun outs => ai_gd ((outs.filter (fun o => o.1 == en.1)).all (ai_back a G.length iv)) (some (outs.filter (fun o => !(o.1 == en.1))))
/-- to a place: it is a stop, or the ways from it on meet again, or one goes on -/
def ai_to (f : ai_Fn) (B : Nat → List ai_E) (an : Nat → Option ai_An) (rg : Nat → Option ai_An) (stops : List Nat) (code : List ai_E) (G : ai_G) (x : ai_S) : Option (List ai_O) := match code with
  | [] => none
  | en :: r => bif stops.contains en.1 then some [(en.1, G, x)] else match rg en.1 with
    | none => ai_lp f an stops (en :: r) G x
    | some a => (ai_inv G.length x a.2).bind fun j => (ai_lp f an (a.1 :: stops) (en :: r) G x).bind fun outs => ai_gd ((outs.filter (fun o => o.1 == a.1)).all (fun o => (ai_hd a.2 G.length j o.2.1 o.2.2).isSome)) (ai_join (some (outs.filter (fun o => !(o.1 == a.1)))) (bif stops.contains a.1 then some [(a.1, G ++ a.2.2.1, j)] else ai_lp f an stops (B a.1) (G ++ a.2.2.1) j))
/-- a comparison: the way that is known, or both -/
def ai_br (f : List ai_E → ai_G → ai_S → Option (List ai_O)) (op : Nat) (a b : ai_V) (tgt fall : List ai_E) (G : ai_G) (x : ai_S) : Option (List ai_O) := match ai_dc G op a b with
  | some true => f tgt G x
  | some false => f fall G x
  | none => ai_join (ai_all (fun G' => f tgt G' x) (ai_wy G op a b)) (ai_all (fun G' => f fall G' x) (ai_wy G (ai_ng op) a b))
/-- the ways of a switch from lo on -/
def ai_swt (f : ai_G → Int → Option (List ai_O)) (G : ai_G) (a : ai_V) : Int → List Int → Option (List ai_O)
  | _, [] => some []
  | j, off :: r => bif decide ((ai_b G a).1 ≤ j) && decide (j ≤ (ai_b G a).2) then ai_join (f (ai_ref2 G 0 a (ai_lI j)) off) (ai_swt f G a (j + 1) r) else ai_swt f G a (j + 1) r
def ai_arg : Nat → List ai_V → ai_L
  | _, [] => []
  | i, v :: vs => (i, v) :: ai_arg (if ai_cat v = 2 then i + 2 else i + 1) vs
/-- the ways of a lookupswitch -/
def ai_lks (f : ai_G → Int → Option (List ai_O)) (G : ai_G) (a : ai_V) : List (Int × Int) → Option (List ai_O)
  | [] => some []
  | q :: r => bif decide ((ai_b G a).1 ≤ q.1) && decide (q.1 ≤ (ai_b G a).2) then ai_join (f (ai_ref2 G 0 a (ai_lI q.1)) q.2) (ai_lks f G a r) else ai_lks f G a r
/-- what is told of a method: the room that it wants, its ends -/
abbrev ai_H : Type := Nat → ai_G → List ai_V → ai_W → Option (Room × List ai_O)
def ai_sr' (md : ai_MD) (rm : Room) : ai_MD := (md.1, md.2.1, md.2.2.1, md.2.2.2.1, md.2.2.2.2.1, md.2.2.2.2.2.1, rm, md.2.2.2.2.2.2.2)
def ai_retB (md : ai_MD) (ins : Instr) (G : ai_G) (st : List ai_V) : Bool := match ins with
  | .ireturn => match st with
    | [v] => match md.2.2.2.2.1 with
      | some .int => ai_isI v
      | some .boolean => ai_fit G .boolean v
      | _ => false
    | _ => false
  | .lreturn => match st with
    | [v] => match md.2.2.2.2.1 with
      | some .long => ai_isL v
      | _ => false
    | _ => false
  | .return_ => match st with
    | [] => match md.2.2.2.2.1 with
      | none => true
      | _ => false
    | _ => false
  | _ => false
/-- may M call K with this stack? -/
def ai_may (mM mK : ai_MD) (tot : Nat) (st : List ai_V) (cs ss : Nat) : Bool :=
  decide (tot ≤ st.length) && (decide (((st.drop tot).map ai_cat).sum ≤ 8) && (decide (mK.2.2.2.2.2.2.1.frames + 1 ≤ mM.2.2.2.2.2.2.1.frames) && (decide (8 + (mK.2.2.2.1 + 11) + mK.2.2.2.2.2.2.1.locals ≤ mM.2.2.2.2.2.2.1.locals) && (decide (cs + mK.2.2.2.2.2.2.1.cells ≤ mM.2.2.2.2.2.2.1.cells) && (decide (ss + mK.2.2.2.2.2.2.1.slots ≤ mM.2.2.2.2.2.2.1.slots) && decide (((st.take tot).map ai_cat).sum ≤ mK.2.2.2.1))))))
/-- the receiver is a cell of that class -/
def ai_rcv (aw : ai_W) (a : ai_V) (ci : Nat) : Bool := ai_isR a && (match aw[a.2.1]? with
  | some (.inl (k, _)) => k == ci
  | _ => false)
/-- what a call gives back becomes a token, where it isn't known whole -/
def ai_got (o : ai_O) : ai_O := match o.2.2.2.1 with
  | v :: r => match ai_mat o.2.1 v with
    | some q => (o.1, q.1, o.2.2.1, q.2 :: r, o.2.2.2.2)
    | none => o
  | [] => o
/-- all ends of a method said in one -/
def ai_meet (jn : Option ai_Iv) (G : ai_G) (as : List ai_V) (aw : ai_W) (outs : List ai_O) : Option (List ai_O) := match jn with
  | none => some outs
  | some a => (ai_inv G.length (ai_arg 0 as, [], aw, 0, 0) a).bind fun j => ai_gd (outs.all (fun o => (ai_hd a G.length ([], j.2.1, j.2.2.1, o.2.2.2.2.2) o.2.1 o.2.2).isSome)) (some [(0, G ++ a.2.1, j)])
def ai_goes (go : ai_G → ai_S → Option (List ai_O)) (rm : Room) (x : ai_S) (tot : Nat) (outs : List ai_O) : Option (List ai_O) := ai_all (fun (o : ai_O) => go (ai_got o).2.1 (x.1, (ai_got o).2.2.2.1 ++ x.2.1.drop tot, o.2.2.2.2.1, x.2.2.2.1 + rm.cells, x.2.2.2.2 + rm.slots)) outs
def ai_call (T : Nat → ai_MD) (hk : ai_H) (jn : Nat → Option ai_Iv) (run : Nat → ai_G → List ai_V → ai_W → Option (List ai_O)) (go : ai_G → ai_S → Option (List ai_O)) (M K : Nat) (G : ai_G) (x : ai_S) (tot : Nat) : Option (List ai_O) :=
  match hk K G (x.2.1.take tot).reverse x.2.2.1 with
  | some q => ai_gd (ai_may (T M) (ai_sr' (T K) q.1) tot x.2.1 x.2.2.2.1 x.2.2.2.2) (ai_goes go q.1 x tot q.2)
  | none => ai_gd (ai_may (T M) (T K) tot x.2.1 x.2.2.2.1 x.2.2.2.2) ((run K G (x.2.1.take tot).reverse x.2.2.1).bind fun outs => (ai_meet (jn K) G (x.2.1.take tot).reverse x.2.2.1 outs).bind fun outs => ai_goes go (T K).2.2.2.2.2.2.1 x tot outs)
def ai_ctl (T : Nat → ai_MD) (B : Nat → Nat → List ai_E) (hk : ai_H) (jn : Nat → Option ai_Iv) (run : Nat → ai_G → List ai_V → ai_W → Option (List ai_O)) (f : List ai_E → ai_G → ai_S → Option (List ai_O)) (self : ai_G → Option (List ai_O)) (M : Nat) (en : ai_E) (rest : List ai_E) (G : ai_G) (x : ai_S) : Option (List ai_O) := match en.2.1 with
  | .goto off => f (B M ((en.1 : Int) + off).toNat) G x
  | .ifCond q off => ai_p1 x.2.1 fun a r => ai_gd (ai_isI a) (ai_br f (ai_op q) a (ai_lI 0) (B M ((en.1 : Int) + off).toNat) rest G (x.1, r, x.2.2))
  | .if_icmp q off => ai_p2 x.2.1 fun b a r => ai_gd (ai_isI a && ai_isI b) (ai_br f (ai_op q) a b (B M ((en.1 : Int) + off).toNat) rest G (x.1, r, x.2.2))
  | .lcmp => match rest with
    | en2 :: rest2 => match en2.2.1 with
      | .ifCond q off => ai_p2 x.2.1 fun b a r => ai_gd (ai_isL a && ai_isL b) (ai_br f (ai_op q) a b (B M ((en2.1 : Int) + off).toNat) rest2 G (x.1, r, x.2.2))
      | _ => none
    | [] => none
  | .ifnonnull off => ai_p1 x.2.1 fun a r => bif a.1 == 5 then f rest G (x.1, r, x.2.2) else ai_gd (ai_isR a) (f (B M ((en.1 : Int) + off).toNat) G (x.1, r, x.2.2))
  | .tableswitch dflt lo hi offs => ai_p1 x.2.1 fun a r => ai_gd (ai_isI a && decide (offs.toList.length = (hi - lo + 1).toNat)) (ai_join (bif decide ((ai_b G a).1 < lo) then f (B M ((en.1 : Int) + dflt).toNat) (ai_ref2 G 2 a (ai_lI lo)) (x.1, r, x.2.2) else some []) (ai_join (bif decide (hi < (ai_b G a).2) then f (B M ((en.1 : Int) + dflt).toNat) (ai_ref2 G 4 a (ai_lI hi)) (x.1, r, x.2.2) else some []) (ai_swt (fun G' off => f (B M ((en.1 : Int) + off).toNat) G' (x.1, r, x.2.2)) G a lo offs.toList)))
  | .lookupswitch dflt ps => ai_p1 x.2.1 fun a r => ai_gd (ai_isI a && (ps.toList.zip (ps.toList.drop 1)).all (fun (a, next) => a.1 < next.1)) (ai_join (f (B M ((en.1 : Int) + dflt).toNat) G (x.1, r, x.2.2)) (ai_lks (fun G' off => f (B M ((en.1 : Int) + off).toNat) G' (x.1, r, x.2.2)) G a ps.toList))
  | .aaload => ai_p2 x.2.1 fun i _ _ => ai_gd (ai_isI i && (!(ai_one G i) && decide ((ai_b G i).2 ≤ (ai_b G i).1 + 30))) (ai_swt (fun G' _ => self G') G i (ai_b G i).1 (List.replicate ((ai_b G i).2 - (ai_b G i).1 + 1).toNat 0))
  | .ireturn => ai_gd (ai_retB (T M) en.2.1 G x.2.1 && (decide (x.2.2.2.1 ≤ (T M).2.2.2.2.2.2.1.cells) && decide (x.2.2.2.2 ≤ (T M).2.2.2.2.2.2.1.slots))) (some [(en.1, G, x)])
  | .lreturn => ai_gd (ai_retB (T M) en.2.1 G x.2.1 && (decide (x.2.2.2.1 ≤ (T M).2.2.2.2.2.2.1.cells) && decide (x.2.2.2.2 ≤ (T M).2.2.2.2.2.2.1.slots))) (some [(en.1, G, x)])
  | .return_ => ai_gd (ai_retB (T M) en.2.1 G x.2.1 && (decide (x.2.2.2.1 ≤ (T M).2.2.2.2.2.2.1.cells) && decide (x.2.2.2.2 ≤ (T M).2.2.2.2.2.2.1.slots))) (some [(en.1, G, x)])
  | .invokestatic _ => ai_gd (Nat.blt en.2.2.2.1 900 && (T en.2.2.2.1).2.2.2.2.2.2.2 == 1) (ai_call T hk jn run (f rest) M en.2.2.2.1 G x (T en.2.2.2.1).2.2.2.2.2.1)
  | .invokespecial _ => ai_gd (!(en.2.2.2.1 == 999) && ((T en.2.2.2.1).2.2.2.2.2.2.2 == 2 && (match x.2.1.drop (T en.2.2.2.1).2.2.2.2.2.1 with
    | a :: _ => ai_rcv x.2.2.1 a en.2.2.2.2.1
    | [] => false))) (ai_call T hk jn run (f rest) M en.2.2.2.1 G x ((T en.2.2.2.1).2.2.2.2.2.1 + 1))
  | .invokevirtual _ => ai_gd ((T en.2.2.2.1).2.2.2.2.2.2.2 == 0 && (match x.2.1.drop (T en.2.2.2.1).2.2.2.2.2.1 with
    | a :: _ => ai_rcv x.2.2.1 a en.2.2.2.2.1
    | [] => false)) (ai_call T hk jn run (f rest) M en.2.2.2.1 G x ((T en.2.2.2.1).2.2.2.2.2.1 + 1))
  | _ => none
/-- what is said of loops, of ways that meet, of methods' ends -/
abbrev ai_Ns : Type := (Nat → Nat → Option ai_An) × (Nat → Nat → Option ai_An) × (Nat → Option ai_Iv)
def ai_ex (T : Nat → ai_MD) (B : Nat → Nat → List ai_E) (hk : ai_H) (N : ai_Ns) (L : Nat) : Nat → Nat → List Nat → List ai_E → ai_G → ai_S → Option (List ai_O)
  | 0, _, _, _, _, _ => none
  | n + 1, M, stops, code, G, x => match code with
    | [] => none
    | en :: rest => match ai_simp (T M) L en G x.1 x.2.1 x.2.2.1 x.2.2.2.1 x.2.2.2.2 with
      | some y => ai_to (ai_ex T B hk N L n M) (B M) (N.1 M) (N.2.1 M) stops rest G y
      | none => match ai_rdm en G x.1 x.2.1 x.2.2.1 x.2.2.2.1 x.2.2.2.2 with
        | some y => ai_to (ai_ex T B hk N L n M) (B M) (N.1 M) (N.2.1 M) stops rest y.1 y.2
        | none => ai_ctl T B hk N.2.2 (fun K G as aw => ai_ex T B hk N L n K [] (B K 0) G (ai_arg 0 as, [], aw, 0, 0)) (ai_to (ai_ex T B hk N L n M) (B M) (N.1 M) (N.2.1 M) stops) (fun G' => ai_ex T B hk N L n M stops (en :: rest) G' x) M en rest G x
