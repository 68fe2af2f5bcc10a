section ASK
variable {p : Program} {l : Launch} {e : Env} {R : Room} {s : State} {m : MethodId} {args : Array Value} {below : List Frame} {meth : Method} {c : Code} {H : Heap} {locs : List Loc} {cs ss : Nat} {Q : State → Prop} {ρ : ai_Rh} {sb : ai_SB} {L : Nat} {xs : Nat → Int32} {D : va_G} {A : Nat → Prop} {md : ai_MD}
variable {ls : Array Slot} {stk : List Value} {ws : va_W} {tys : List (ClassId × FieldType)} {G : ai_G} {als : ai_L} {st : List ai_V} {aw : ai_W} {x : ai_S}
theorem ai_cpc_ok {n0 n1 : Nat} {f g : Nat → Int32} {d0 d1 vn vsp vdp : ai_V} {o0 o1 : List (Nat × ai_V)} {q : ai_V × List (Nat × ai_V)} {nn sn dn : Nat} {ad : List Nat} (hG : ai_gok ρ G) (h0 : ∀ j, j < n0 → ai_el ρ sb ad j (ai_look d0 o0 j) (.int (f j))) (h1 : ∀ j, j < n1 → ai_el ρ sb ad j (ai_look d1 o1 j) (.int (g j))) (hn : (ai_b G vn).1 ≤ (nn : Int) ∧ (nn : Int) ≤ (ai_b G vn).2) (hs : (ai_b G vsp).1 ≤ (sn : Int) ∧ (sn : Int) ≤ (ai_b G vsp).2) (hd : (ai_b G vdp).1 ≤ (dn : Int) ∧ (dn : Int) ≤ (ai_b G vdp).2) (hz : sn + nn ≤ n0) (h : ai_cpc G d0 d1 o0 o1 vn vsp vdp = some q) : ∀ j, j < n1 → ai_el ρ sb ad j (ai_look q.1 q.2 j) (.int (va_cpy f g sn dn nn j)) := by
  intro k hk
  have cin : dn ≤ k ∧ k < dn + nn → va_cpy f g sn dn nn k = f (sn + (k - dn)) := fun hc => pk_cpy_in hc.1 hc.2
  have cout : ¬ (dn ≤ k ∧ k < dn + nn) → va_cpy f g sn dn nn k = g k := fun hc => pk_cpy_out (by omega)
  unfold ai_cpc at h
  cases e0 : (decide ((ai_b G vn).2 = 0) && !(d1.1 == 10)) with
  | true =>
    rw [e0] at h
    cases h
    simp only [Bool.and_eq_true, decide_eq_true_eq] at e0
    rw [cout (by omega)]
    exact h1 k hk
  | false =>
    rw [e0] at h
    simp only [cond_false] at h
    cases e1 : (d0.1 == 10 || d1.1 == 10) with
    | true =>
      rw [e1] at h
      cases h
    | false =>
      rw [e1] at h
      obtain ⟨h2, h3⟩ := ai_gd_ok h
      cases h3
      rw [Bool.and_eq_true] at h2
      have e10 : ¬ d0.1 = 10 ∧ ¬ d1.1 = 10 := by simpa using e1
      show ai_el ρ sb ad k (ai_itv 0 _) _
      apply ai_el.of
      have q1 := ai_hull_q (G := G) (q := ai_hull G (ai_b G d0) o0) ((0, d1) :: o1)
      have q2 : (ai_hull G (ai_hull G (ai_b G d0) o0) ((0, d1) :: o1)).1 ≤ (ai_b G d1).1 ∧ (ai_b G d1).2 ≤ (ai_hull G (ai_hull G (ai_b G d0) o0) ((0, d1) :: o1)).2 := ai_hull_o _ (0, d1) List.mem_cons_self
      by_cases hc : dn ≤ k ∧ k < dn + nn
      · rw [cin hc]
        have := ai_hullI (n := n0) hG (h0 (sn + (k - dn)) (by omega)) (fun _ => rfl) (fun hn => absurd hn e10.1) (ai_n10_ok h2.1)
        exact ai_itvI (by decide) (by omega) (by omega)
      · rw [cout hc]
        rcases ai_look_or (d := d1) o1 k with e | ⟨p, g1, g2, g3⟩
        · have := h1 k hk
          rw [e] at this
          have := ai_bI hG (this.to e10.2)
          exact ai_itvI (by decide) (by omega) (by omega)
        · have := h1 k hk
          rw [g3] at this
          have := ai_bI hG (this.to (ai_n10_ok h2.2 p g1))
          have := ai_hull_o (G := G) (q := ai_hull G (ai_b G d0) o0) ((0, d1) :: o1) p (List.mem_cons_of_mem _ g1)
          exact ai_itvI (by decide) (by omega) (by omega)
theorem ai_cpc_d {d0 d1 vn vsp vdp : ai_V} {o0 o1 : List (Nat × ai_V)} {q : ai_V × List (Nat × ai_V)} (h : ai_cpc G d0 d1 o0 o1 vn vsp vdp = some q) : ¬ q.1.1 = 10 := by
  unfold ai_cpc at h
  cases e0 : (decide ((ai_b G vn).2 = 0) && !(d1.1 == 10)) with
  | true =>
    rw [e0] at h
    cases h
    rw [Bool.and_eq_true] at e0
    have e2 := e0.2
    simpa using e2
  | false =>
    rw [e0, cond_false] at h
    cases e1 : (d0.1 == 10 || d1.1 == 10) with
    | true => rw [e1] at h; cases h
    | false =>
      rw [e1, cond_false] at h
      obtain ⟨-, h3⟩ := ai_gd_ok h
      cases h3
      intro h10
      cases h10
theorem ai_mn2_ok {a b : ai_V} {x y : Int32} (hG : ai_gok ρ G) (ha : ai_mt ρ sb (ws.map Prod.fst) a (.int x)) (hb : ai_mt ρ sb (ws.map Prod.fst) b (.int y)) (ia : ai_isI a = true) (ib : ai_isI b = true) : ai_mt ρ sb (ws.map Prod.fst) (ai_mn2 G 0 a b) (.int (if y < x then y else x)) := by
  obtain ⟨x', e1, a1, a2⟩ := ai_int hG ha ia
  cases e1
  obtain ⟨y', e2, b1, b2⟩ := ai_int hG hb ib
  cases e2
  unfold ai_mn2
  cases h1 : decide ((ai_b G a).2 ≤ (ai_b G b).1) with
  | true =>
    simp only [decide_eq_true_eq] at h1
    rw [cond_true, if_neg (by rw [Int32.lt_iff_toInt_lt]; omega)]
    exact ha
  | false =>
    rw [cond_false]
    cases h2 : decide ((ai_b G b).2 ≤ (ai_b G a).1) with
    | true =>
      simp only [decide_eq_true_eq] at h2
      rw [cond_true]
      by_cases hl : y < x
      · rw [if_pos hl]; exact hb
      · rw [if_neg hl]
        rw [Int32.lt_iff_toInt_lt] at hl
        have : x = y := Int32.toInt_inj.mp (by omega)
        rw [this]; exact hb
    | false =>
      rw [cond_false]
      refine ⟨_, rfl, ?_, ?_⟩
      · have := ai_mn_le (ai_b G a).1 (ai_b G b).1
        split <;> omega
      · split
        · rename_i hl
          rw [Int32.lt_iff_toInt_lt] at hl
          exact ai_mn_ge (by omega) (by omega)
        · rename_i hl
          rw [Int32.lt_iff_toInt_lt] at hl
          exact ai_mn_ge (by omega) (by omega)
theorem ai_mn2l_ok {a b : ai_V} {x y : Int64} (hG : ai_gok ρ G) (ha : ai_mt ρ sb (ws.map Prod.fst) a (.long x)) (hb : ai_mt ρ sb (ws.map Prod.fst) b (.long y)) (ia : ai_isL a = true) (ib : ai_isL b = true) : ai_mt ρ sb (ws.map Prod.fst) (ai_mn2 G 1 a b) (.long (if y < x then y else x)) := by
  obtain ⟨x', e1, a1, a2⟩ := ai_lng hG ha ia
  cases e1
  obtain ⟨y', e2, b1, b2⟩ := ai_lng hG hb ib
  cases e2
  unfold ai_mn2
  cases h1 : decide ((ai_b G a).2 ≤ (ai_b G b).1) with
  | true =>
    simp only [decide_eq_true_eq] at h1
    rw [cond_true, if_neg (by rw [Int64.lt_iff_toInt_lt]; omega)]
    exact ha
  | false =>
    rw [cond_false]
    cases h2 : decide ((ai_b G b).2 ≤ (ai_b G a).1) with
    | true =>
      simp only [decide_eq_true_eq] at h2
      rw [cond_true]
      by_cases hl : y < x
      · rw [if_pos hl]; exact hb
      · rw [if_neg hl]
        rw [Int64.lt_iff_toInt_lt] at hl
        have : x = y := Int64.toInt_inj.mp (by omega)
        rw [this]; exact hb
    | false =>
      rw [cond_false]
      refine ⟨_, rfl, ?_, ?_⟩
      · have := ai_mn_le (ai_b G a).1 (ai_b G b).1
        split <;> omega
      · split
        · rename_i hl
          rw [Int64.lt_iff_toInt_lt] at hl
          exact ai_mn_ge (by omega) (by omega)
        · rename_i hl
          rw [Int64.lt_iff_toInt_lt] at hl
          exact ai_mn_ge (by omega) (by omega)
theorem ai_mx2_ok {a b : ai_V} {x y : Int32} (hG : ai_gok ρ G) (ha : ai_mt ρ sb (ws.map Prod.fst) a (.int x)) (hb : ai_mt ρ sb (ws.map Prod.fst) b (.int y)) (ia : ai_isI a = true) (ib : ai_isI b = true) : ai_mt ρ sb (ws.map Prod.fst) (ai_mx2 G a b) (.int (if x < y then y else x)) := by
  obtain ⟨x', e1, a1, a2⟩ := ai_int hG ha ia
  cases e1
  obtain ⟨y', e2, b1, b2⟩ := ai_int hG hb ib
  cases e2
  unfold ai_mx2
  cases h1 : decide ((ai_b G b).2 ≤ (ai_b G a).1) with
  | true =>
    simp only [decide_eq_true_eq] at h1
    rw [cond_true, if_neg (by rw [Int32.lt_iff_toInt_lt]; omega)]
    exact ha
  | false =>
    rw [cond_false]
    cases h2 : decide ((ai_b G a).2 ≤ (ai_b G b).1) with
    | true =>
      simp only [decide_eq_true_eq] at h2
      rw [cond_true]
      by_cases hl : x < y
      · rw [if_pos hl]; exact hb
      · rw [if_neg hl]
        rw [Int32.lt_iff_toInt_lt] at hl
        have : x = y := Int32.toInt_inj.mp (by omega)
        rw [this]; exact hb
    | false =>
      rw [cond_false]
      cases h9 : (b.1 == 2 && decide (b.2.2.2 = 1)) with
      | true =>
        rw [cond_true]
        simp only [Bool.and_eq_true, beq_iff_eq, decide_eq_true_eq] at h9
        have hm9 := ai_mx_le (ai_b G a).2 (ai_b G b).2
        have hup : (if x < y then y else x).toInt ≤ ai_mx (ai_b G a).2 (ai_b G b).2 := by split <;> omega
        obtain ⟨n, t, l, u⟩ := b
        obtain ⟨g8, g9⟩ := h9
        dsimp only at g8 g9
        subst g8
        subst g9
        obtain ⟨y', z, e, g1, g2⟩ := hb
        cases e
        refine ⟨_, z, rfl, g1, ?_, hup⟩
        dsimp only
        split
        · omega
        · rename_i hl
          rw [Int32.lt_iff_toInt_lt] at hl
          omega
      | false =>
        rw [cond_false]
        refine ⟨_, rfl, ?_, ?_⟩
        · split
          · rename_i hl
            rw [Int32.lt_iff_toInt_lt] at hl
            exact ai_mx_ge (by omega) (by omega)
          · rename_i hl
            rw [Int32.lt_iff_toInt_lt] at hl
            exact ai_mx_ge (by omega) (by omega)
        · have := ai_mx_le (ai_b G a).2 (ai_b G b).2
          split <;> omega
theorem ai_ab2_ok {a : ai_V} {x : Int32} (hG : ai_gok ρ G) (ha : ai_mt ρ sb (ws.map Prod.fst) a (.int x)) (ia : ai_isI a = true) : ai_mt ρ sb (ws.map Prod.fst) (ai_ab2 G a) (.int (if 0 ≤ x then x else 0 - x)) := by
  obtain ⟨x', e1, a1, a2⟩ := ai_int hG ha ia
  cases e1
  have ez : (0 : Int32).toInt = 0 := rfl
  unfold ai_ab2
  cases h1 : decide (0 ≤ (ai_b G a).1) with
  | true =>
    simp only [decide_eq_true_eq] at h1
    rw [cond_true, if_pos (by rw [Int32.le_iff_toInt_le]; omega)]
    exact ha
  | false =>
    rw [cond_false]
    cases h2 : decide (-2147483648 < (ai_b G a).1) with
    | false => exact ai_full_ok _
    | true =>
      simp only [decide_eq_true_eq] at h2
      rw [cond_true]
      have hm := ai_mx_le (- (ai_b G a).1) (ai_b G a).2
      have h32 := ai_i32 x
      by_cases hl : 0 ≤ x
      · rw [if_pos hl]
        rw [Int32.le_iff_toInt_le] at hl
        exact ⟨_, rfl, by omega, by omega⟩
      · rw [if_neg hl]
        rw [Int32.le_iff_toInt_le] at hl
        have e : (0 - x).toInt = - x.toInt := by
          rw [Int32.toInt_sub, ez, Int.zero_sub]
          exact ai_bm32 (by omega) (by omega)
        exact ⟨_, rfl, by omega, by omega⟩
theorem ai_simp_ok {en : ai_E} (hcl : ai_clok) (he : ai_eok md en) (cx : ai_cx p s m args meth c R md A sb L xs) (hrk : ai_rk md L xs ρ) (hG : ai_gok ρ G) (hls : ai_lv ρ sb (ws.map Prod.fst) als md.2.2.2.1 ls) (hst : ai_F2 (ai_mt ρ sb (ws.map Prod.fst)) st stk) (hm : ai_mem ρ sb D A s H locs aw ws tys) (h : ai_simp md L en G als st aw cs ss = some x) (K : ai_K p l e R s m args below meth c Q ρ sb D A md.2.2.2.1 (ws.map Prod.fst) (en.1 + en.2.2.1) x) : W p l e R s m args below meth c H locs cs ss Q (F0 m en.1 ls stk) := by
  obtain ⟨pc, ins, len, na, nb, ni, nz⟩ := en
  obtain ⟨hx, hb, hml, hown, hts, hA, hini, hR, hao, hsc⟩ := cx
  obtain ⟨hrb, hsj⟩ := hrk
  obtain ⟨hd, hlen, hw⟩ := he
  dsimp only at hd hlen hw K h ⊢
  have stay : ∀ (stk' : List Value) (st' : List ai_V) (pc' : Nat), x = (als, st', aw, cs, ss) → pc + len = pc' → ai_F2 (ai_mt ρ sb (ws.map Prod.fst)) st' stk' → W p l e R s m args below meth c H locs cs ss Q (F0 m pc' ls stk') := by
    intro stk' st' pc' h1 h2 h3
    subst h1
    subst h2
    exact K ls _ H locs ws tys [] (List.append_nil _).symm hls h3 hm
  have stor : ∀ (i : Nat) (u : Value) (v : ai_V) (lv : List (Nat × Value)) (ls' : Array Slot) (r : List ai_V) (stk1 : List Value) (pc' : Nat), x = (ai_st1 als i v, r, aw, cs, ss) → pc + len = pc' → ai_F2 (fun (a : Nat × ai_V) (q : Nat × Value) => a.1 = q.1 ∧ ai_mt ρ sb (ws.map Prod.fst) a.2 q.2) als lv → ai_mt ρ sb (ws.map Prod.fst) v u → ai_F2 (ai_mt ρ sb (ws.map Prod.fst)) r stk1 → lv_has ls' md.2.2.2.1 ((i, u) :: lv.filter (fun q => !(q.1 == i) && !(q.1 + 1 == i && q.2.category == 2))) → W p l e R s m args below meth c H locs cs ss Q (F0 m pc' ls' stk1) := by
    intro i u v lv ls' r stk1 pc' h1 h2 h3 h4 h5 h6
    subst h1
    subst h2
    exact K ls' _ H locs ws tys [] (List.append_nil _).symm ⟨_, h6, ⟨rfl, h4⟩, h3.filt ai_cat_f⟩ h5 hm
  have stor2 : ∀ (i : Nat) (u : Value) (v : ai_V) (lv : List (Nat × Value)) (ls' : Array Slot) (r : List ai_V) (stk1 : List Value) (pc' : Nat), x = (ai_st2 als i v, r, aw, cs, ss) → pc + len = pc' → ai_F2 (fun (a : Nat × ai_V) (q : Nat × Value) => a.1 = q.1 ∧ ai_mt ρ sb (ws.map Prod.fst) a.2 q.2) als lv → ai_mt ρ sb (ws.map Prod.fst) v u → ai_F2 (ai_mt ρ sb (ws.map Prod.fst)) r stk1 → lv_has ls' md.2.2.2.1 ((i, u) :: lv.filter (fun q => !(q.1 == i) && (!(q.1 == i + 1) && !(q.1 + 1 == i && q.2.category == 2)))) → W p l e R s m args below meth c H locs cs ss Q (F0 m pc' ls' stk1) := by
    intro i u v lv ls' r stk1 pc' h1 h2 h3 h4 h5 h6
    subst h1
    subst h2
    exact K ls' _ H locs ws tys [] (List.append_nil _).symm ⟨_, h6, ⟨rfl, h4⟩, h3.filt ai_cat_f2⟩ h5 hm
  have l1 : ai_len ins = 1 → len = 1 := fun q => by rcases hlen with h | h <;> omega
  have l2 : ai_len ins = 2 → len = 2 := fun q => by rcases hlen with h | h <;> omega
  have l3 : ai_len ins = 3 → len = 3 := fun q => by rcases hlen with h | h <;> omega
  have fe : ∀ {i : Nat} {u : Value}, (∃ q, (ws.map Prod.fst)[i]? = some q ∧ u = .ref q) ∨ u = .ref sb.1 → True := fun _ => trivial
  obtain ⟨hP, hD, hKk, hS, hW⟩ := id hm
  unfold ai_simp at h
  dsimp only at h
  split at h
  -- constants
  · cases h; cases l1 rfl
    exact lv_iconst hx hb hd rfl (stay _ _ _ rfl rfl ⟨ai_lI_ok _, hst⟩)
  · cases h; cases l2 rfl
    exact lv_bipush hx hb hd rfl (stay _ _ _ rfl rfl ⟨ai_lI_ok _, hst⟩)
  · cases h; cases l3 rfl
    exact lv_sipush hx hb hd rfl (stay _ _ _ rfl rfl ⟨ai_lI_ok _, hst⟩)
  · cases h; cases l1 rfl
    exact lv_lconst hx hb hd rfl (stay _ _ _ rfl rfl ⟨ai_lL_ok _, hst⟩)
  · cases h; cases l2 rfl
    exact lv_ldc hx hb hown (hts _ hw) hd (stay _ _ _ rfl rfl ⟨ai_lI_ok _, hst⟩)
  · cases h; cases l3 rfl
    exact lv_ldcw hx hb hown (hts _ hw) hd (stay _ _ _ rfl rfl ⟨ai_lI_ok _, hst⟩)
  · cases h; cases l3 rfl
    exact lv_ldc2 hx hb hown (hts _ hw) hd (stay _ _ _ rfl rfl ⟨ai_lL_ok _, hst⟩)
  -- loads
  · cases l2 rfl
    obtain ⟨v, u, rfl, ho, h1, h2⟩ := ai_load_ok hls h
    obtain ⟨y, rfl, -⟩ := ai_int hG h2 (ai_and1 ho)
    exact lv_iload hx hb hd h1 (stay _ _ _ rfl rfl ⟨h2, hst⟩)
  · cases l1 rfl
    obtain ⟨v, u, rfl, ho, h1, h2⟩ := ai_load_ok hls h
    obtain ⟨y, rfl, -⟩ := ai_int hG h2 (ai_and1 ho)
    exact lv_iload_n hx hb hd rfl h1 (stay _ _ _ rfl rfl ⟨h2, hst⟩)
  · cases l2 rfl
    obtain ⟨v, u, rfl, ho, h1, h2⟩ := ai_load_ok hls h
    obtain ⟨y, rfl, -⟩ := ai_lng hG h2 (ai_and1 ho)
    exact lv_lload hx hb hd h1 (stay _ _ _ rfl rfl ⟨h2, hst⟩)
  · cases l1 rfl
    obtain ⟨v, u, rfl, ho, h1, h2⟩ := ai_load_ok hls h
    obtain ⟨y, rfl, -⟩ := ai_lng hG h2 (ai_and1 ho)
    exact lv_lload_n hx hb hd rfl h1 (stay _ _ _ rfl rfl ⟨h2, hst⟩)
  · cases l2 rfl
    obtain ⟨v, u, rfl, ho, h1, h2⟩ := ai_load_ok hls h
    obtain ⟨y, rfl⟩ : ∃ y, u = .ref y := by
      rw [Bool.or_eq_true] at ho
      rcases ho with ho | ho
      · obtain ⟨q, -, rfl⟩ := ai_ref h2 ho; exact ⟨q, rfl⟩
      · obtain ⟨n, t, lo, hi⟩ := v
        have e7 : n = 7 := by simpa using ho
        subst e7
        exact ⟨sb.1, h2⟩
    exact lv_aload hx hb hd h1 (stay _ _ _ rfl rfl ⟨h2, hst⟩)
  · cases l1 rfl
    obtain ⟨v, u, rfl, ho, h1, h2⟩ := ai_load_ok hls h
    obtain ⟨y, rfl⟩ : ∃ y, u = .ref y := by
      rw [Bool.or_eq_true] at ho
      rcases ho with ho | ho
      · obtain ⟨q, -, rfl⟩ := ai_ref h2 ho; exact ⟨q, rfl⟩
      · obtain ⟨n, t, lo, hi⟩ := v
        have e7 : n = 7 := by simpa using ho
        subst e7
        exact ⟨sb.1, h2⟩
    exact lv_aload_n hx hb hd rfl h1 (stay _ _ _ rfl rfl ⟨h2, hst⟩)
  -- stores
  · cases l2 rfl
    unfold ai_sto at h
    obtain ⟨v, r, rfl, hh⟩ := ai_p1_ok h
    obtain ⟨ho, hh⟩ := ai_gd_ok hh
    simp only [Bool.and_eq_true, decide_eq_true_eq] at ho
    cases hh
    obtain ⟨u, stk1, rfl, mv, hst1⟩ := hst.cons
    obtain ⟨y, rfl, -⟩ := ai_int hG mv ho.1
    obtain ⟨lv, h1, h2⟩ := hls
    exact lv_istore hx hb hd h1 ho.2 rfl (fun ls' h3 => stor _ _ _ lv ls' r stk1 _ rfl rfl h2 mv hst1 h3)
  · cases l1 rfl
    unfold ai_sto at h
    obtain ⟨v, r, rfl, hh⟩ := ai_p1_ok h
    obtain ⟨ho, hh⟩ := ai_gd_ok hh
    simp only [Bool.and_eq_true, decide_eq_true_eq] at ho
    cases hh
    obtain ⟨u, stk1, rfl, mv, hst1⟩ := hst.cons
    obtain ⟨y, rfl, -⟩ := ai_int hG mv ho.1
    obtain ⟨lv, h1, h2⟩ := hls
    exact lv_istore_n hx hb hd rfl h1 ho.2 rfl (fun ls' h3 => stor _ _ _ lv ls' r stk1 _ rfl rfl h2 mv hst1 h3)
  · cases l2 rfl
    unfold ai_sto at h
    obtain ⟨v, r, rfl, hh⟩ := ai_p1_ok h
    obtain ⟨ho, hh⟩ := ai_gd_ok hh
    simp only [Bool.and_eq_true, decide_eq_true_eq] at ho
    cases hh
    obtain ⟨u, stk1, rfl, mv, hst1⟩ := hst.cons
    obtain ⟨q, -, rfl⟩ := ai_ref mv ho.1
    obtain ⟨lv, h1, h2⟩ := hls
    exact lv_astore hx hb hd h1 ho.2 rfl (fun ls' h3 => stor _ _ _ lv ls' r stk1 _ rfl rfl h2 mv hst1 h3)
  · cases l1 rfl
    unfold ai_sto at h
    obtain ⟨v, r, rfl, hh⟩ := ai_p1_ok h
    obtain ⟨ho, hh⟩ := ai_gd_ok hh
    simp only [Bool.and_eq_true, decide_eq_true_eq] at ho
    cases hh
    obtain ⟨u, stk1, rfl, mv, hst1⟩ := hst.cons
    obtain ⟨q, -, rfl⟩ := ai_ref mv ho.1
    obtain ⟨lv, h1, h2⟩ := hls
    exact lv_astore_n hx hb hd rfl h1 ho.2 rfl (fun ls' h3 => stor _ _ _ lv ls' r stk1 _ rfl rfl h2 mv hst1 h3)
  · cases l2 rfl
    unfold ai_sto2 at h
    obtain ⟨v, r, rfl, hh⟩ := ai_p1_ok h
    obtain ⟨ho, hh⟩ := ai_gd_ok hh
    simp only [Bool.and_eq_true, decide_eq_true_eq] at ho
    cases hh
    obtain ⟨u, stk1, rfl, mv, hst1⟩ := hst.cons
    obtain ⟨y, rfl, -⟩ := ai_lng hG mv ho.1
    obtain ⟨lv, h1, h2⟩ := hls
    exact lv_lstore hx hb hd h1 ho.2 rfl (fun ls' h3 => stor2 _ _ _ lv ls' r stk1 _ rfl rfl h2 mv hst1 h3)
  · cases l1 rfl
    unfold ai_sto2 at h
    obtain ⟨v, r, rfl, hh⟩ := ai_p1_ok h
    obtain ⟨ho, hh⟩ := ai_gd_ok hh
    simp only [Bool.and_eq_true, decide_eq_true_eq] at ho
    cases hh
    obtain ⟨u, stk1, rfl, mv, hst1⟩ := hst.cons
    obtain ⟨y, rfl, -⟩ := ai_lng hG mv ho.1
    obtain ⟨lv, h1, h2⟩ := hls
    exact lv_lstore_n hx hb hd rfl h1 ho.2 rfl (fun ls' h3 => stor2 _ _ _ lv ls' r stk1 _ rfl rfl h2 mv hst1 h3)
  -- iinc
  · cases l3 rfl
    obtain ⟨v, hv, h⟩ := ai_bd_ok h
    obtain ⟨ho, h⟩ := ai_gd_ok h
    simp only [Bool.and_eq_true, decide_eq_true_eq] at ho
    cases h
    obtain ⟨lv, h1, h2⟩ := hls
    obtain ⟨k, u, h3, h4⟩ := ai_lk_ok hv h2
    obtain ⟨y, rfl, hb1, hnm⟩ := ai_int' hG h4 ho.1
    exact lv_iinc hx hb hd h1 h3 rfl ho.2 rfl (fun ls' h5 => stor _ _ _ lv ls' st stk _ rfl rfl h2 (ai_or_ok (fun v hv => ai_adA_ok hv hb1 hnm (Int32.toInt_add y _)) (ai_mI_ok (z := y.toInt + (Int32.ofInt _).toInt) (Int32.toInt_add y _) (by omega) (by omega))) hst h5)
  -- two numbers
  · cases l1 rfl; exact ai_b2_ok hx hb hrb hG hls hst hm h hd K
  · cases l1 rfl; exact ai_b2_ok hx hb hrb hG hls hst hm h hd K
  · cases l1 rfl; exact ai_b2_ok hx hb hrb hG hls hst hm h hd K
  · cases l1 rfl; exact ai_b2_ok hx hb hrb hG hls hst hm h hd K
  · cases l1 rfl; exact ai_b2_ok hx hb hrb hG hls hst hm h hd K
  · cases l1 rfl; exact ai_b2_ok hx hb hrb hG hls hst hm h hd K
  · cases l1 rfl; exact ai_b2_ok hx hb hrb hG hls hst hm h hd K
  · cases l1 rfl; exact ai_b2_ok hx hb hrb hG hls hst hm h hd K
  · cases l1 rfl; exact ai_b2_ok hx hb hrb hG hls hst hm h hd K
  · cases l1 rfl; exact ai_b2_ok hx hb hrb hG hls hst hm h hd K
  · cases l1 rfl; exact ai_b2_ok hx hb hrb hG hls hst hm h hd K
  · cases l1 rfl; exact ai_bl_ok hx hb hG hls hst hm h hd K
  · cases l1 rfl; exact ai_bl_ok hx hb hG hls hst hm h hd K
  · cases l1 rfl; exact ai_bl_ok hx hb hG hls hst hm h hd K
  · cases l1 rfl; exact ai_bl_ok hx hb hG hls hst hm h hd K
  · cases l1 rfl; exact ai_bl_ok hx hb hG hls hst hm h hd K
  · cases l1 rfl
    obtain ⟨b, a, r, rfl, hh⟩ := ai_p2_ok h
    obtain ⟨ho, hh2⟩ := ai_gd_ok hh
    cases hh2
    rw [Bool.and_eq_true] at ho
    obtain ⟨u, stk0, rfl, mb, hst0⟩ := hst.cons
    obtain ⟨u2, stk1, rfl, ma, hst1⟩ := hst0.cons
    obtain ⟨y, rfl, b1, b2⟩ := ai_int hG mb ho.2
    obtain ⟨z, rfl, b3, b4⟩ := ai_lng hG ma ho.1
    refine lv_lshl hx hb hd rfl (stay _ _ _ rfl rfl ⟨?_, hst1⟩)
    unfold ai_shl
    cases hc : (decide ((ai_b G a).1 = (ai_b G a).2) && decide ((ai_b G b).1 = (ai_b G b).2)) with
    | false => exact ai_fulll_ok _
    | true =>
      simp only [Bool.and_eq_true, decide_eq_true_eq] at hc
      have e1 : Int64.ofInt (ai_b G a).1 = z := by rw [show (ai_b G a).1 = z.toInt by omega]; exact Int64.ofInt_toInt z
      have e2 : Int32.ofInt (ai_b G b).1 = y := by rw [show (ai_b G b).1 = y.toInt by omega]; exact Int32.ofInt_toInt y
      rw [e1, e2]
      exact ai_lL_ok _
  -- i2l, l2i, ineg
  · cases l1 rfl
    obtain ⟨v, r, rfl, hh⟩ := ai_p1_ok h
    obtain ⟨ho, hh⟩ := ai_gd_ok hh
    cases hh
    obtain ⟨u, stk1, rfl, mv, hst1⟩ := hst.cons
    obtain ⟨y, rfl, hb1, hn⟩ := ai_int' hG mv ho
    have e1 : y.toInt64.toInt = y.toInt := Int32.toInt_toInt64 y
    refine lv_i2l hx hb hd rfl (stay _ _ _ rfl rfl ⟨?_, hst1⟩)
    unfold ai_i2l
    obtain ⟨n, t, lo, hi⟩ := v
    cases h2 : (n == 2) with
    | true =>
      have e2 : n = 2 := by simpa using h2
      subst e2
      obtain ⟨w, w1, w2⟩ := hn (Or.inl rfl)
      exact ⟨_, w, rfl, w1, e1.trans w2⟩
    | false =>
      cases h0 : (n == 0) with
      | true =>
        have e2 : n = 0 := by simpa using h0
        subst e2
        have q1 : lo ≤ y.toInt := hb1.1
        have q2 : y.toInt ≤ hi := hb1.2
        exact ⟨_, rfl, by rw [e1]; exact q1, by rw [e1]; exact q2⟩
      | false => exact ⟨_, rfl, by rw [e1]; exact (ai_i32 y).1, by rw [e1]; exact (ai_i32 y).2⟩
  · cases l1 rfl
    obtain ⟨v, r, rfl, hh⟩ := ai_p1_ok h
    obtain ⟨ho, hh⟩ := ai_gd_ok hh
    cases hh
    obtain ⟨u, stk1, rfl, mv, hst1⟩ := hst.cons
    obtain ⟨y, rfl, hb1, hn⟩ := ai_lng' hG mv ho
    have e1 : y.toInt32.toInt = y.toInt.bmod 4294967296 := Int64.toInt_toInt32 y
    refine lv_l2i hx hb hd rfl (stay _ _ _ rfl rfl ⟨?_, hst1⟩)
    unfold ai_l2i
    cases h2 : (v.1 == 3 && (decide (-2147483648 ≤ (ai_b G v).1) && decide ((ai_b G v).2 ≤ 2147483647))) with
    | true =>
      simp only [Bool.and_eq_true, decide_eq_true_eq, beq_iff_eq] at h2
      obtain ⟨w, w1, w2⟩ := hn (Or.inr h2.1)
      refine ⟨_, w, rfl, w1, ?_⟩
      rw [e1, ai_bm32 (by omega) (by omega)]
      exact w2
    | false => exact ai_mI_ok e1 hb1.1 hb1.2
  · cases l1 rfl
    obtain ⟨v, r, rfl, hh⟩ := ai_p1_ok h
    obtain ⟨ho, hh⟩ := ai_gd_ok hh
    cases hh
    obtain ⟨u, stk1, rfl, mv, hst1⟩ := hst.cons
    obtain ⟨y, rfl, hb1, hn⟩ := ai_int' hG mv ho
    exact lv_ineg hx hb hd (stay _ _ _ rfl rfl ⟨ai_mI_ok (z := - y.toInt) (Int32.toInt_neg y) (by omega) (by omega), hst1⟩)
  -- the stack
  · cases l1 rfl
    obtain ⟨v, r, rfl, hh⟩ := ai_p1_ok h
    obtain ⟨ho, hh⟩ := ai_gd_ok hh
    cases hh
    obtain ⟨u, stk1, rfl, mv, hst1⟩ := hst.cons
    exact lv_dup hx hb hd (by rw [mv.cat]; simpa using ho) (stay _ _ _ rfl rfl ⟨mv, mv, hst1⟩)
  · cases l1 rfl
    obtain ⟨v, r, rfl, hh⟩ := ai_p1_ok h
    obtain ⟨ho, hh⟩ := ai_gd_ok hh
    cases hh
    obtain ⟨u, stk1, rfl, mv, hst1⟩ := hst.cons
    exact lv_pop hx hb hd (by rw [mv.cat]; simpa using ho) (stay _ _ _ rfl rfl hst1)
  · cases l1 rfl
    obtain ⟨v, w, r, rfl, hh⟩ := ai_p2_ok h
    obtain ⟨ho, hh⟩ := ai_gd_ok hh
    simp only [Bool.and_eq_true, beq_iff_eq] at ho
    cases hh
    obtain ⟨u, stk1, rfl, mv, hst1⟩ := hst.cons
    obtain ⟨u2, stk2, rfl, mw, hst2⟩ := hst1.cons
    exact lv_dup2_11 hx hb hd (by rw [mv.cat]; exact ho.1) (by rw [mw.cat]; exact ho.2) (stay _ _ _ rfl rfl ⟨mv, mw, mv, mw, hst2⟩)
  -- putfield
  · cases l3 rfl
    obtain ⟨w, v, r, rfl, hh⟩ := ai_p2_ok h
    obtain ⟨ho, hh⟩ := ai_gd_ok hh
    rw [Bool.and_eq_true] at ho
    obtain ⟨cell, hc, hh⟩ := ai_bd_ok hh
    rcases cell with ⟨ci, fs⟩ | q
    · dsimp only at hh
      obtain ⟨hi, h5⟩ := ai_gd_ok hh
      simp only [Bool.and_eq_true, beq_iff_eq, decide_eq_true_eq] at hi
      obtain ⟨eci, hlt⟩ := hi
      subst eci
      cases h5
      obtain ⟨uw, stk0, rfl, mw, hst0⟩ := hst.cons
      obtain ⟨u, stk1, rfl, mv, hst1⟩ := hst0.cons
      obtain ⟨a, ha, rfl⟩ := ai_ref mv ho.1
      obtain ⟨e9, h9, vs, rfl, hfs⟩ := ai_cell hW hc ha
      obtain ⟨hn, hf⟩ := ai_fit_ok hG mw ho.2
      obtain ⟨q, hq, hk, hl, hfin⟩ := hw
      obtain ⟨c1, c2, c3⟩ := hcl ci q hq
      have go : ∀ (H1 : Heap) (locs1 : List Loc), va_P D vwCl (ws.set v.2.1 (a, .inr (ci, vs.set nb uw))) H1 → va_D A (ws.set v.2.1 (a, .inr (ci, vs.set nb uw))) → va_S A s.heap H1 locs1 → W p l e R s m args below meth c H1 locs1 cs ss Q (F0 m (pc + 3) ls stk1) := by
        intro H1 locs1 g1 g2 g3
        have ef := ai_fst_set (e1 := .inr (ci, vs.set nb uw)) h9
        exact K ls _ H1 locs1 _ tys [] (by rw [ef, List.append_nil]) (by rw [ef]; exact hls) (by rw [ef]; exact hst1) ⟨g1, g2, hKk, g3, hW.set h9 ⟨_, rfl, hfs.set mw⟩⟩
      have hvl : nb < vs.length := by rw [← hfs.len]; exact hlt
      rcases hfin with hfin | ⟨hfin, hi1, hi2⟩
      · exact va_put (C := q.1) (T := q.2.1) (N := q.2.2) hx hb hts c1 (ai_ty ci) c2 c3 hown hKk hP hD hS v.2.1 h9 hq nb hk (hts _ hl) (fun _ h => h) hfin (c2 nb hk) hn hf hvl hd go
      · exact va_putF (C := q.1) (T := q.2.1) (N := q.2.2) hx hb hts c1 (ai_ty ci) c2 c3 hown hKk hP hD hS v.2.1 h9 hq nb hk (hts _ hl) (fun _ h => h) hfin (hini hi1) hi2 (c2 nb hk) hn hf hvl hd go
    · cases hh
  -- the script
  · cases l1 rfl
    obtain ⟨i, a, r, rfl, hz⟩ := ai_p2_ok h
    obtain ⟨ho, hz⟩ := ai_gd_ok hz
    simp only [Bool.and_eq_true, beq_iff_eq, decide_eq_true_eq] at ho
    obtain ⟨o1, o2, o3, o4, o5, o6⟩ := ho
    cases hz
    obtain ⟨u, stk0, rfl, mi, hst0⟩ := hst.cons
    obtain ⟨ua, stk1, rfl, ma, hst1⟩ := hst0.cons
    obtain ⟨ni', ti, li, ui⟩ := i
    obtain ⟨nA, tA, lA, uA⟩ := a
    dsimp only at o1 o3 o4 o5 o6
    subst o1; subst o3; subst o4
    obtain ⟨iv, rfl, i1, i2⟩ := mi
    cases ma
    obtain ⟨hX, hbl, hbA⟩ := hsc o2
    have ei : iv.toInt = li := by omega
    have hvp : vp_in iv L := vp_in_iff.mpr ⟨by omega, by omega⟩
    have ec : iv.toNatClampNeg = li.toNat := by rw [← ei]; rfl
    refine va_sld hx hb hX hbl hbA hS hvp hd (stay _ _ _ rfl rfl ⟨⟨_, (xs li.toNat).toInt, rfl, hsj o2 li.toNat (by omega), ?_⟩, hst1⟩)
    rw [ec]
    omega
  · cases l1 rfl; exact ai_ast_ok hx hb hG hls hst hm h hd (Or.inl ⟨rfl, rfl, rfl⟩) K
  · cases l1 rfl; exact ai_ast_ok hx hb hG hls hst hm h hd (Or.inr (Or.inl ⟨rfl, rfl, rfl⟩)) K
  · cases l1 rfl; exact ai_ast_ok hx hb hG hls hst hm h hd (Or.inr (Or.inr (Or.inl ⟨rfl, rfl, rfl⟩))) K
  · cases l1 rfl; exact ai_ast_ok hx hb hG hls hst hm h hd (Or.inr (Or.inr (Or.inr ⟨rfl, rfl, rfl⟩))) K
  -- arraylength
  · cases l1 rfl
    obtain ⟨v, r, rfl, hh⟩ := ai_p1_ok h
    obtain ⟨u, stk1, rfl, mv, hst1⟩ := hst.cons
    cases h7 : (v.1 == 7 && md.2.2.2.2.2.2.2 == 3) with
    | true =>
      rw [h7] at hh
      cases hh
      simp only [Bool.and_eq_true, beq_iff_eq] at h7
      obtain ⟨n, t, lo, hi⟩ := v
      obtain ⟨o1, o2⟩ := h7
      dsimp only at o1
      subst o1
      cases mv
      obtain ⟨hX, hbl, hbA⟩ := hsc o2
      exact va_slen hx hb hX hbl hbA hS hd (stay _ _ _ rfl rfl ⟨ai_lI_ok _, hst1⟩)
    | false =>
      rw [h7] at hh
      simp only [cond_false] at hh
      obtain ⟨ho, hh⟩ := ai_gd_ok hh
      obtain ⟨cell, hc, hh⟩ := ai_bd_ok hh
      rcases cell with q | ⟨t, n, d, ov⟩
      · cases hh
      dsimp only at hh
      obtain ⟨h5n, hh⟩ := ai_gd_ok hh
      cases hh
      obtain ⟨a, ha, rfl⟩ := ai_ref mv ho
      obtain ⟨e9, h9, hmc⟩ := ai_cell hW hc ha
      have go := stay (.int (Int32.ofNat n) :: stk1) _ (pc + 1) rfl rfl ⟨ai_lI_ok _, hst1⟩
      match t, hmc with
      | 0, hmc => obtain ⟨cA, f, t0, rfl, ht, -⟩ := hmc; exact va_alen hx hb hKk hP v.2.1 t0 h9 ht rfl hd go
      | 1, hmc => obtain ⟨cA, f, t0, rfl, ht, -⟩ := hmc; exact va_alen hx hb hKk hP v.2.1 t0 h9 ht rfl hd go
      | 2, hmc => obtain ⟨cA, f, t0, rfl, ht, -⟩ := hmc; exact va_alen hx hb hKk hP v.2.1 t0 h9 ht rfl hd go
      | 3, hmc => obtain ⟨cA, f, t0, rfl, ht, -⟩ := hmc; exact va_alen hx hb hKk hP v.2.1 t0 h9 ht rfl hd go
      | 4, hmc => obtain ⟨cA, f, t0, rfl, ht⟩ := hmc; exact va_alen hx hb hKk hP v.2.1 t0 h9 ht rfl hd go
      | 5, _ => cases h5n
      | n + 6, hmc => exact hmc.elim
  -- new
  · cases l3 rfl
    obtain ⟨q, hq, h⟩ := ai_bd_ok h
    obtain ⟨ho, h⟩ := ai_gd_ok h
    simp only [Bool.and_eq_true, decide_eq_true_eq] at ho
    cases h
    obtain ⟨q', hq', w1, w2, w3⟩ := hw
    cases hq.symm.trans hq'
    obtain ⟨c1, c2, c3⟩ := hcl na q hq
    subst hR
    refine va_new (C := q.1) (T := q.2.1) (N := q.2.2) (fs := (List.range q.2.2).map fun k => defaultValue (ai_ty na k)) hx hb hts c1 (ai_ty na) c2 hown (hts _ w1) (hts _ w2) (hts _ w3) hKk hP hD hS hA hq (fun j hj => ?_) ho.2.1 ho.2.2 hd (fun q1 H1 g1 g2 g3 => ?_)
    · simp [vp_V, hj]
    · have ef : (ws ++ [(q1, (.inr (na, (List.range q.2.2).map fun k => defaultValue (ai_ty na k)) : va_E))]).map Prod.fst = ws.map Prod.fst ++ [q1] := by simp
      refine K ls _ H1 locs _ tys [q1] ef (by rw [ef]; exact hls.more ai_le.rf _) (by rw [ef]; exact ⟨⟨q1, by simp [hW.1], rfl⟩, hst.mono (fun _ _ h => h.more ai_le.rf _)⟩) ⟨g1, g2, hKk, g3, ?_⟩
      have := hW.push (y := []) (q := q1) (e1 := .inr (na, (List.range q.2.2).map fun k => defaultValue (ai_ty na k))) (c1 := .inl (na, (List.range q.2.2).map fun k => ai_dv (ai_ty na k))) ⟨_, rfl, ?_⟩
      · rw [List.append_nil] at this
        exact this
      · have dv : ∀ ty : FieldType, ai_okt ty = true → ai_mt ρ sb (ws.map Prod.fst ++ [q1]) (ai_dv ty) (defaultValue ty) := by
          intro ty ht
          cases ty with
          | byte => exact ⟨0, rfl, by decide, by decide⟩
          | char => exact ⟨0, rfl, by decide, by decide⟩
          | short => exact ⟨0, rfl, by decide, by decide⟩
          | int => exact ⟨0, rfl, by decide, by decide⟩
          | boolean => exact ⟨0, rfl, by decide, by decide⟩
          | long => exact ⟨0, rfl, by decide, by decide⟩
          | object n => exact (rfl : defaultValue (FieldType.object n) = .null)
          | array n => exact (rfl : defaultValue (FieldType.array n) = .null)
          | float => cases ht
          | double => cases ht
        have hall := ho.1
        generalize List.range q.2.2 = lr at hall ⊢
        induction lr with
        | nil => trivial
        | cons a r ih =>
          rw [List.all_cons, Bool.and_eq_true] at hall
          exact ⟨dv _ hall.1, ih hall.2⟩
  -- newarray
  · cases l2 rfl
    obtain ⟨ty, hty, h1⟩ := ai_bd_ok h
    obtain ⟨n, r, rfl, h2⟩ := ai_p1_ok h1
    obtain ⟨ho, h3⟩ := ai_gd_ok h2
    simp only [Bool.and_eq_true, beq_iff_eq, decide_eq_true_eq] at ho
    cases h3
    obtain ⟨u, stk1, rfl, mv, hst1⟩ := hst.cons
    obtain ⟨nn, tn, ln, un⟩ := n
    obtain ⟨o1, o2, o3, o4, o5, o6⟩ := ho
    dsimp only at o1 o2 o3 o4 o5 o6 K
    subst o1; subst o2
    obtain ⟨iv, rfl, i1, i2⟩ := mv
    have ei : iv.toInt = ln := by omega
    have hn : ¬ iv < 0 := by
      rw [Int32.lt_iff_toInt_lt]
      have : (0 : Int32).toInt = 0 := rfl
      omega
    have hN : iv.toNatClampNeg = ln.toNat := by rw [← ei]; rfl
    subst hR
    have ef : ∀ (q1 : Nat) (e9 : va_E), (ws ++ [(q1, e9)]).map Prod.fst = ws.map Prod.fst ++ [q1] := fun q1 e9 => by simp
    unfold ai_ak at hty
    split at hty
    · cases hty
      refine va_newa (ty := .int) (a0 := (ln.toNat, .inl (fun _ => 0))) (N' := ln.toNat) hx hb (hts _ hw) rfl hKk hP hD hS hA (fun cA => rfl) hn hN (show ln.toNat * 4 ≤ 536870912 by omega) o5 o6 hd (fun q1 cA H1 k1 g1 g2 g3 => ?_)
      refine K ls _ H1 locs _ _ [q1] (ef q1 _) (by rw [ef]; exact hls.more ai_le.rf _) (by rw [ef]; exact ⟨⟨q1, by simp [hW.1], rfl⟩, hst1.mono (fun _ _ h => h.more ai_le.rf _)⟩) ⟨g1, g2, k1, g3, hW.push ⟨cA, _, tys.length, rfl, by simp, fun j _ => ai_el.of ⟨0, rfl, by decide, by decide⟩, fun h => absurd h (by decide)⟩⟩
    · cases hty
      refine va_newa (ty := .long) (a0 := (ln.toNat, .inr (.inl (fun _ => 0)))) (N' := ln.toNat) hx hb (hts _ hw) rfl hKk hP hD hS hA (fun cA => rfl) hn hN (show ln.toNat * 8 ≤ 536870912 by omega) o5 o6 hd (fun q1 cA H1 k1 g1 g2 g3 => ?_)
      refine K ls _ H1 locs _ _ [q1] (ef q1 _) (by rw [ef]; exact hls.more ai_le.rf _) (by rw [ef]; exact ⟨⟨q1, by simp [hW.1], rfl⟩, hst1.mono (fun _ _ h => h.more ai_le.rf _)⟩) ⟨g1, g2, k1, g3, hW.push ⟨cA, _, tys.length, rfl, by simp, fun j _ => ai_el.of ⟨0, rfl, by decide, by decide⟩⟩⟩
    · cases hty
      refine va_newa (ty := .boolean) (a0 := (ln.toNat, .inl (fun _ => 0))) (N' := ln.toNat) hx hb (hts _ hw) rfl hKk hP hD hS hA (fun cA => rfl) hn hN (show ln.toNat * 1 ≤ 536870912 by omega) o5 o6 hd (fun q1 cA H1 k1 g1 g2 g3 => ?_)
      refine K ls _ H1 locs _ _ [q1] (ef q1 _) (by rw [ef]; exact hls.more ai_le.rf _) (by rw [ef]; exact ⟨⟨q1, by simp [hW.1], rfl⟩, hst1.mono (fun _ _ h => h.more ai_le.rf _)⟩) ⟨g1, g2, k1, g3, hW.push ⟨cA, _, tys.length, rfl, by simp, fun j _ => ai_el.of ⟨0, rfl, by decide, by decide⟩⟩⟩
    · cases hty
  -- anewarray
  · cases l3 rfl
    obtain ⟨n, r, rfl, h2⟩ := ai_p1_ok h
    obtain ⟨ho, h3⟩ := ai_gd_ok h2
    simp only [Bool.and_eq_true, beq_iff_eq, decide_eq_true_eq] at ho
    cases h3
    obtain ⟨u, stk1, rfl, mv, hst1⟩ := hst.cons
    obtain ⟨nn, tn, ln, un⟩ := n
    obtain ⟨o1, o2, o3, o4, o5, o6⟩ := ho
    dsimp only at o1 o2 o3 o4 o5 o6 K
    subst o1; subst o2
    obtain ⟨iv, rfl, i1, i2⟩ := mv
    have ei : iv.toInt = ln := by omega
    have hn : ¬ iv < 0 := by
      rw [Int32.lt_iff_toInt_lt]
      have : (0 : Int32).toInt = 0 := rfl
      omega
    have hN : iv.toNatClampNeg = ln.toNat := by rw [← ei]; rfl
    subst hR
    have ef : ∀ (q1 : Nat) (e9 : va_E), (ws ++ [(q1, e9)]).map Prod.fst = ws.map Prod.fst ++ [q1] := fun q1 e9 => by simp
    refine va_newq (N' := ln.toNat) hx hb hown (hts _ hw) hao hKk hP hD hS hA hn hN (by omega) o5 o6 hd (fun q1 cA H1 k1 g1 g2 g3 => ?_)
    refine K ls _ H1 locs _ _ [q1] (ef q1 _) (by rw [ef]; exact hls.more ai_le.rf _) (by rw [ef]; exact ⟨⟨q1, by simp [hW.1], rfl⟩, hst1.mono (fun _ _ h => h.more ai_le.rf _)⟩) ⟨g1, g2, k1, g3, hW.push ⟨cA, _, tys.length, rfl, by simp, fun j _ => ai_el.of rfl⟩⟩
  -- System.arraycopy, Math
  · cases l3 rfl
    obtain ⟨hw7, hw6, hw5, hw4, hw3⟩ := hw
    rcases Bool.eq_false_or_eq_true (na == 997) with h9 | h9
    rotate_left
    · rw [h9, cond_false] at h
      obtain ⟨lv, hlv, -⟩ := id hls
      have hml' : c.maxLocals = ls.size := by rw [hml]; exact hlv.1.symm
      unfold ai_mth at h
      cases h6 : (na == 996) with
      | true =>
        rw [h6, cond_true] at h
        obtain ⟨b, a, r, rfl, h1⟩ := ai_p2_ok h
        obtain ⟨ho, h2⟩ := ai_gd_ok h1
        cases h2
        unfold ai_mrm at ho
        simp only [Bool.and_eq_true, decide_eq_true_eq] at ho
        obtain ⟨o1, o2, o3, o4, o5, o6⟩ := ho
        obtain ⟨ub, stk1, rfl, mb, hst1⟩ := hst.cons
        obtain ⟨ua, stk2, rfl, ma, hst2⟩ := hst1.cons
        obtain ⟨xb, rfl, -, -⟩ := ai_int' hG mb o2
        obtain ⟨xa, rfl, -, -⟩ := ai_int' hG ma o1
        obtain ⟨w1, w2, w3, w4⟩ := hw6 (by simpa using h6)
        subst hR
        exact va_mmin hx hb hml' hown (hts _ w1) (hts _ w2) (hts _ w3) (hts _ w4) o3 (by rw [ai_cats hst2]; exact o4) o5 o6 hd (stay _ _ _ rfl rfl ⟨ai_mn2_ok hG ma mb o1 o2, hst2⟩)
      | false =>
      rw [h6, cond_false] at h
      cases h5 : (na == 995) with
      | true =>
        rw [h5, cond_true] at h
        obtain ⟨b, a, r, rfl, h1⟩ := ai_p2_ok h
        obtain ⟨ho, h2⟩ := ai_gd_ok h1
        cases h2
        unfold ai_mrm at ho
        simp only [Bool.and_eq_true, decide_eq_true_eq] at ho
        obtain ⟨o1, o2, o3, o4, o5, o6⟩ := ho
        obtain ⟨ub, stk1, rfl, mb, hst1⟩ := hst.cons
        obtain ⟨ua, stk2, rfl, ma, hst2⟩ := hst1.cons
        obtain ⟨xb, rfl, -, -⟩ := ai_int' hG mb o2
        obtain ⟨xa, rfl, -, -⟩ := ai_int' hG ma o1
        obtain ⟨w1, w2, w3, w4⟩ := hw5 (by simpa using h5)
        subst hR
        exact va_mmax hx hb hml' hown (hts _ w1) (hts _ w2) (hts _ w3) (hts _ w4) o3 (by rw [ai_cats hst2]; exact o4) o5 o6 hd (stay _ _ _ rfl rfl ⟨ai_mx2_ok hG ma mb o1 o2, hst2⟩)
      | false =>
      rw [h5, cond_false] at h
      cases h4 : (na == 994) with
      | true =>
        rw [h4, cond_true] at h
        obtain ⟨a, r, rfl, h1⟩ := ai_p1_ok h
        obtain ⟨ho, h2⟩ := ai_gd_ok h1
        cases h2
        unfold ai_mrm at ho
        simp only [Bool.and_eq_true, decide_eq_true_eq] at ho
        obtain ⟨o1, o3, o4, o5, o6⟩ := ho
        obtain ⟨ua, stk2, rfl, ma, hst2⟩ := hst.cons
        obtain ⟨xa, rfl, -, -⟩ := ai_int' hG ma o1
        obtain ⟨w1, w2, w3, w4⟩ := hw4 (by simpa using h4)
        subst hR
        exact va_mabs hx hb hml' hown (hts _ w1) (hts _ w2) (hts _ w3) (hts _ w4) o3 (by rw [ai_cats hst2]; exact o4) o5 o6 hd (stay _ _ _ rfl rfl ⟨ai_ab2_ok hG ma o1, hst2⟩)
      | false =>
      rw [h4, cond_false] at h
      cases h3 : (na == 993) with
      | true =>
        rw [h3, cond_true] at h
        obtain ⟨b, a, r, rfl, h1⟩ := ai_p2_ok h
        obtain ⟨ho, h2⟩ := ai_gd_ok h1
        cases h2
        unfold ai_mrm at ho
        simp only [Bool.and_eq_true, decide_eq_true_eq] at ho
        obtain ⟨o1, o2, o3, o4, o5, o6⟩ := ho
        obtain ⟨ub, stk1, rfl, mb, hst1⟩ := hst.cons
        obtain ⟨ua, stk2, rfl, ma, hst2⟩ := hst1.cons
        obtain ⟨xb, rfl, -, -⟩ := ai_lng' hG mb o2
        obtain ⟨xa, rfl, -, -⟩ := ai_lng' hG ma o1
        obtain ⟨w1, w2, w3, w4⟩ := hw3 (by simpa using h3)
        subst hR
        exact va_mmin_long hx hb hml' hown (hts _ w1) (hts _ w2) (hts _ w3) (hts _ w4) o3 (by rw [ai_cats hst2]; exact o4) o5 o6 hd (stay _ _ _ rfl rfl ⟨ai_mn2l_ok hG ma mb o1 o2, hst2⟩)
      | false => rw [h3] at h; cases h
    rw [h9, cond_true] at h
    have h1 := h
    obtain ⟨w1, w2, w3, w4⟩ := hw7 (by simpa using h9)
    unfold ai_cpy at h1
    split at h1
    · rename_i vn vdp vdst vsp vsrc r
      obtain ⟨ho, h2⟩ := ai_gd_ok h1
      simp only [Bool.and_eq_true, decide_eq_true_eq] at ho
      obtain ⟨o1, o2, o3, o4, o5, o6, o7, o8, o9, o10⟩ := ho
      obtain ⟨c0, hc0, h3⟩ := ai_bd_ok h2
      obtain ⟨c1, hc1, h4⟩ := ai_bd_ok h3
      obtain ⟨un, stk1, rfl, mn, hst1⟩ := hst.cons
      obtain ⟨udp, stk2, rfl, mdp, hst2⟩ := hst1.cons
      obtain ⟨udst, stk3, rfl, mdst, hst3⟩ := hst2.cons
      obtain ⟨usp, stk4, rfl, msp, hst4⟩ := hst3.cons
      obtain ⟨usrc, stk5, rfl, msrc, hst5⟩ := hst4.cons
      obtain ⟨xn, rfl, bn, nn⟩ := ai_int' hG mn o1
      obtain ⟨xdp, rfl, bdp, ndp⟩ := ai_int' hG mdp o2
      obtain ⟨xsp, rfl, bsp, nsp⟩ := ai_int' hG msp o3
      obtain ⟨qd, hqd, rfl⟩ := ai_ref mdst o4
      obtain ⟨qs, hqs, rfl⟩ := ai_ref msrc o5
      split at h4
      · rename_i n0 d0 ov0 n1 d1 ov1
        obtain ⟨hb2, h5⟩ := ai_gd_ok h4
        simp only [Bool.and_eq_true, decide_eq_true_eq] at hb2
        obtain ⟨q, h6, h7⟩ := ai_bd_ok h5
        cases h7
        obtain ⟨e0, he0, cA0, f0, t0, rfl, ht0, hel0, -⟩ := ai_cell hW hc0 hqs
        obtain ⟨e1, he1, cA1, f1, t1, rfl, ht1, hel1, -⟩ := ai_cell hW hc1 hqd
        have nz : ∀ z : Int32, 0 ≤ z.toInt → ¬ z < 0 ∧ ((z.toNatClampNeg : Nat) : Int) = z.toInt := by
          intro z hz
          refine ⟨by rw [Int32.lt_iff_toInt_lt]; have : (0 : Int32).toInt = 0 := rfl; omega, ?_⟩
          show ((z.toInt.toNat : Nat) : Int) = z.toInt
          omega
        have zn := nz xn (by omega)
        have zd := nz xdp (by omega)
        have zs := nz xsp (by omega)
        obtain ⟨lv, hlv, -⟩ := id hls
        subst hR
        refine va_copyi (ty := .int) hx hb (by rw [hml]; exact hlv.1.symm) hown (hts _ w1) (hts _ w2) (hts _ w3) (hts _ w4) hKk hP hD hS vsrc.2.1 vdst.2.1 t0 t1 he0 he1 ht0 ht1 rfl zs.1 zd.1 zn.1 (by omega) (by omega) (fun _ _ => rfl) o9 (by rw [ai_cats hst5]; exact o10) hd (fun H1 locs1 g1 g2 g3 => ?_)
        have ef := ai_fst_set (e1 := .inl (cA1, n1, .inl (va_cpy f0 f1 xsp.toNatClampNeg xdp.toNatClampNeg xn.toNatClampNeg))) he1
        refine K ls _ H1 locs1 _ tys [] (by rw [ef, List.append_nil]) (by rw [ef]; exact hls) (by rw [ef]; exact hst5) ⟨g1, g2, hKk, g3, hW.set he1 ⟨cA1, _, t1, rfl, ht1, ?_, fun h10 => absurd h10 (ai_cpc_d h6)⟩⟩
        exact ai_cpc_ok hG hel0 hel1 (by rw [zn.2]; exact bn) (by rw [zs.2]; exact bsp) (by rw [zd.2]; exact bdp) (by omega) h6
      · cases h4
    · cases h1
  -- the constructor of Object
  · cases l3 rfl
    obtain ⟨h9, h1⟩ := ai_gd_ok h
    obtain ⟨v, r, rfl, h2⟩ := ai_p1_ok h1
    obtain ⟨ho, h3⟩ := ai_gd_ok h2
    simp only [Bool.and_eq_true, decide_eq_true_eq] at ho
    cases h3
    obtain ⟨u, stk1, rfl, mv, hst1⟩ := hst.cons
    obtain ⟨a, ha, rfl⟩ := ai_ref mv ho.1
    obtain ⟨w1, w2, w3⟩ := hw (by simpa using h9)
    obtain ⟨lv, hlv, -⟩ := id hls
    subst hR
    refine W.objInit hx hb hown (hts _ w1) (hts _ w2) (hts _ w3) (g := F0 m pc ls (.ref a :: stk1)) rfl (by rw [hml]; exact hlv.1) rfl hd ho.2.1 ?_ (stay _ _ _ rfl rfl hst1)
    rw [ai_cats hst1]
    have := ho.2.2
    show 2 * 0 + _ + 12 ≤ _
    omega
  · cases h
end ASK
