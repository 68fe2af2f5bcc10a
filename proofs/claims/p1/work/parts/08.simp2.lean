section ASJ
variable {p : Program} {l : Launch} {e : Env} {R : Room} {s : State} {m : MethodId} {args : Array Value} {below : List Frame} {meth : Method} {c : Code} {H : Heap} {locs : List Loc} {cs ss : Nat} {Q : State → Prop} {ρ : Nat → Int} {sb L : Nat} {xs : Nat → Int32} {D : va_G} {A : Nat → Prop} {md : ai_MD}
variable {ls : Array Slot} {stk : List Value} {ws : va_W} {tys : List (ClassId × FieldType)} {G : ai_G} {als : ai_L} {st : List ai_V} {aw : ai_W} {pc : Nat} {x : ai_S} {cc : ByteArray} {ad : List Nat}
theorem ai_bI {a : ai_V} {y : Int32} (hG : ai_gok ρ G) (h : ai_mt ρ sb ad a (.int y)) : (ai_b G a).1 ≤ y.toInt ∧ y.toInt ≤ (ai_b G a).2 := by
  have hi : ai_isI a = true := by
    obtain ⟨n, t, lo, hi⟩ := a
    match n, h with
    | 0, _ => rfl
    | 1, h => obtain ⟨z, h, -⟩ := h; cases h
    | 2, _ => rfl
    | 3, h => obtain ⟨z, h, -⟩ := h; cases h
    | 4, h => obtain ⟨z, -, h⟩ := h; cases h
    | 5, h => cases h
    | 6, _ => rfl
    | 7, h => cases h
    | n + 8, h => exact h.elim
  obtain ⟨z, e1, e2⟩ := ai_int hG h hi
  cases e1
  exact e2
theorem ai_bLg {a : ai_V} {y : Int64} (hG : ai_gok ρ G) (h : ai_mt ρ sb ad a (.long y)) : (ai_b G a).1 ≤ y.toInt ∧ y.toInt ≤ (ai_b G a).2 := by
  have hi : ai_isL a = true := by
    obtain ⟨n, t, lo, hi⟩ := a
    match n, h with
    | 0, h => obtain ⟨z, h, -⟩ := h; cases h
    | 1, _ => rfl
    | 2, h => obtain ⟨z, h, -⟩ := h; cases h
    | 3, _ => rfl
    | 4, h => obtain ⟨z, -, h⟩ := h; cases h
    | 5, h => cases h
    | 6, h => obtain ⟨z, h, -⟩ := h; cases h
    | 7, h => cases h
    | n + 8, h => exact h.elim
  obtain ⟨z, e1, e2⟩ := ai_lng hG h hi
  cases e1
  exact e2
/-- reading a place of an array -/
theorem ai_rd_ok {ty n j : Nat} {d i v : ai_V} {ov : List (Nat × ai_V)} {g : Nat → Value} (hG : ai_gok ρ G) (hel : ∀ j, j < n → ai_mt ρ sb ad (ai_look d ov j) (g j)) (hj : j < n) (hij : (ai_b G i).1 ≤ (j : Int) ∧ (j : Int) ≤ (ai_b G i).2) (hty : (∃ y : Int32, g j = .int y ∧ ¬ ty = 1) ∨ (∃ y : Int64, g j = .long y ∧ ty = 1) ∨ ty = 3) (h : ai_rd G ty d ov i = some v) : ai_mt ρ sb ad v (g j) := by
  unfold ai_rd at h
  cases h1 : decide ((ai_b G i).1 = (ai_b G i).2) with
  | true =>
    rw [h1] at h
    simp only [decide_eq_true_eq] at h1
    cases h
    rw [show (ai_b G i).1.toNat = j by omega]
    exact hel j hj
  | false =>
    rw [h1] at h
    cases h2 : ov.isEmpty with
    | true =>
      rw [h2] at h
      cases h
      have := hel j hj
      rw [List.isEmpty_iff.mp h2] at this
      exact this
    | false =>
      rw [h2] at h
      have hh := ai_hull_ok (G := G) (d := d) ov j
      cases h3 : (ty == 1) with
      | true =>
        rw [h3] at h
        cases h
        have e3 : ty = 1 := by simpa using h3
        rcases hty with ⟨y, e1, e2⟩ | ⟨y, e1, -⟩ | e1
        · exact absurd e3 e2
        · have := ai_bLg hG (e1 ▸ hel j hj)
          exact ⟨y, e1, by omega, by omega⟩
        · omega
      | false =>
        rw [h3] at h
        have e3 : ¬ ty = 1 := by simpa using h3
        cases h4 : (ty == 3) with
        | true => rw [h4] at h; cases h
        | false =>
          rw [h4] at h
          cases h
          have e4 : ¬ ty = 3 := by simpa using h4
          rcases hty with ⟨y, e1, e2⟩ | ⟨y, e1, e2⟩ | e1
          · have := ai_bI hG (e1 ▸ hel j hj)
            exact ⟨y, e1, by omega, by omega⟩
          · exact absurd e2 e3
          · exact absurd e1 e4
/-- putting at a place of an array -/
theorem ai_wr_ok {ty n j : Nat} {d i v : ai_V} {ov : List (Nat × ai_V)} {g g' : Nat → Value} {q : ai_V × List (Nat × ai_V)} (hG : ai_gok ρ G) (hel : ∀ j, j < n → ai_mt ρ sb ad (ai_look d ov j) (g j)) (hj : j < n) (hij : (ai_b G i).1 ≤ (j : Int) ∧ (j : Int) ≤ (ai_b G i).2) (hv : ai_mt ρ sb ad v (g' j)) (hg : ∀ k, ¬ k = j → g' k = g k) (hty : ((∀ k, ∃ y : Int32, g' k = .int y) ∧ ¬ ty = 1) ∨ ((∀ k, ∃ y : Int64, g' k = .long y) ∧ ty = 1) ∨ ty = 3) (h : ai_wr G ty d ov i v = some q) : ∀ k, k < n → ai_mt ρ sb ad (ai_look q.1 q.2 k) (g' k) := by
  intro k hk
  unfold ai_wr at h
  cases h1 : decide ((ai_b G i).1 = (ai_b G i).2) with
  | true =>
    rw [h1] at h
    simp only [decide_eq_true_eq] at h1
    have ej : (ai_b G i).1.toNat = j := by omega
    rw [ej] at h
    cases h2 : (ai_look d ov j == v) with
    | true =>
      rw [h2] at h
      cases h
      have e2 : ai_look d ov j = v := by simpa using h2
      by_cases ek : k = j
      · subst ek; rw [e2]; exact hv
      · rw [hg k ek]; exact hel k hk
    | false =>
      rw [h2] at h
      cases h
      by_cases ek : k = j
      · subst ek
        unfold ai_look
        rw [beq_self_eq_true]
        exact hv
      · unfold ai_look
        have e : (j == k) = false := by simpa using fun e => ek e.symm
        rw [e, hg k ek]
        simp only [cond_false]
        rw [ai_look_filter ek]
        exact hel k hk
  | false =>
    rw [h1] at h
    have hh := ai_hull_ok (G := G) (d := d) ((0, v) :: ov)
    have h0 : (ai_hull G d ((0, v) :: ov)).1 ≤ (ai_b G v).1 ∧ (ai_b G v).2 ≤ (ai_hull G d ((0, v) :: ov)).2 := ⟨(ai_mn_le _ _).1, (ai_mx_le _ _).1⟩
    have h9 : ∀ k, (ai_hull G d ((0, v) :: ov)).1 ≤ (ai_b G (ai_look d ov k)).1 ∧ (ai_b G (ai_look d ov k)).2 ≤ (ai_hull G d ((0, v) :: ov)).2 := fun k => ⟨Int.le_trans (ai_mn_le _ _).2 (ai_hull_ok ov k).1, Int.le_trans (ai_hull_ok ov k).2 (ai_mx_le _ _).2⟩
    cases h3 : (ty == 1) with
    | true =>
      rw [h3] at h
      cases h
      have e3 : ty = 1 := by simpa using h3
      rcases hty with ⟨-, e2⟩ | ⟨f, -⟩ | e1
      · exact absurd e3 e2
      · obtain ⟨y, hy⟩ := f k
        refine ⟨y, hy, ?_⟩
        by_cases ek : k = j
        · subst ek
          have := ai_bLg hG (hy ▸ hv)
          constructor <;> omega
        · have g1 := hel k hk
          rw [← hg k ek, hy] at g1
          have := ai_bLg hG g1
          have := h9 k
          constructor <;> omega
      · omega
    | false =>
      rw [h3] at h
      have e3 : ¬ ty = 1 := by simpa using h3
      cases h4 : (ty == 3) with
      | true => rw [h4] at h; cases h
      | false =>
        rw [h4] at h
        cases h
        have e4 : ¬ ty = 3 := by simpa using h4
        rcases hty with ⟨f, -⟩ | ⟨-, e2⟩ | e1
        · obtain ⟨y, hy⟩ := f k
          refine ⟨y, hy, ?_⟩
          by_cases ek : k = j
          · subst ek
            have := ai_bI hG (hy ▸ hv)
            constructor <;> omega
          · have g1 := hel k hk
            rw [← hg k ek, hy] at g1
            have := ai_bI hG g1
            have := h9 k
            constructor <;> omega
        · exact absurd e2 e3
        · exact absurd e1 e4
theorem ai_ald_ok {ins : Instr} {ty : Nat} (hx : p.tables.exec = Jvm.exec) (hb : c.code = cc) (hG : ai_gok ρ G) (hls : ai_lv ρ sb (ws.map Prod.fst) als md.2.2.2.1 ls) (hst : ai_F2 (ai_mt ρ sb (ws.map Prod.fst)) st stk) (hm : ai_mem ρ sb D A s H locs aw ws tys) (h : ai_ald G als st aw cs ss ty = some x) (hd : decode cc pc = .ok (ins, 1)) (hins : (ty = 0 ∧ ins = .iaload) ∨ (ty = 1 ∧ ins = .laload) ∨ (ty = 2 ∧ ins = .baload) ∨ (ty = 3 ∧ ins = .aaload)) (K : ai_K p l e R s m args below meth c Q ρ sb D A md.2.2.2.1 (ws.map Prod.fst) (pc + 1) x) : W p l e R s m args below meth c H locs cs ss Q (F0 m pc ls stk) := by
  unfold ai_ald at h
  obtain ⟨i, a, r, rfl, h⟩ := ai_p2_ok h
  obtain ⟨hr, h⟩ := ai_gd_ok h
  obtain ⟨cell, hc, h⟩ := ai_bd_ok h
  rcases cell with q | ⟨t, n, d, ov⟩
  · cases h
  dsimp only at h
  obtain ⟨hi, h⟩ := ai_gd_ok h
  obtain ⟨v, hv, h⟩ := ai_bd_ok h
  cases h
  simp only [Bool.and_eq_true, beq_iff_eq] at hi
  obtain ⟨et, hin⟩ := hi
  subst et
  obtain ⟨ui, stk1, rfl, mi, hst1⟩ := hst.cons
  obtain ⟨ua, stk2, rfl, ma, hst2⟩ := hst1.cons
  obtain ⟨q, hq, rfl⟩ := ai_ref ma hr
  obtain ⟨iv, rfl, hb1, hb0, hvp, hlt, hcl⟩ := ai_inb_ok hG mi hin
  have hij : (ai_b G i).1 ≤ ((iv.toNatClampNeg : Nat) : Int) ∧ ((iv.toNatClampNeg : Nat) : Int) ≤ (ai_b G i).2 := by rw [hcl]; omega
  obtain ⟨hP, hD, hKk, hS, hW⟩ := id hm
  obtain ⟨e9, he, hmc⟩ := ai_cell hW hc hq
  have go : ∀ u : Value, ai_mt ρ sb (ws.map Prod.fst) v u → W p l e R s m args below meth c H locs cs ss Q (F0 m (pc + 1) ls (u :: stk2)) := fun u hu => K ls _ H locs ws tys [] (List.append_nil _).symm hls ⟨hu, hst2⟩ hm
  rcases hins with ⟨rfl, rfl⟩ | ⟨rfl, rfl⟩ | ⟨rfl, rfl⟩ | ⟨rfl, rfl⟩
  · obtain ⟨cA, f, t0, rfl, ht, hel⟩ := hmc
    exact va_iald hx hb hKk hP a.2.1 t0 he ht hvp hd (go _ (ai_rd_ok (g := fun j => .int (f j)) hG hel hlt hij (Or.inl ⟨_, rfl, by decide⟩) hv))
  · obtain ⟨cA, f, t0, rfl, ht, hel⟩ := hmc
    exact va_lald hx hb hKk hP a.2.1 t0 he ht hvp hd (go _ (ai_rd_ok (g := fun j => .long (f j)) hG hel hlt hij (Or.inr (Or.inl ⟨_, rfl, rfl⟩)) hv))
  · obtain ⟨cA, f, t0, rfl, ht, hel⟩ := hmc
    exact va_zald hx hb hKk hP a.2.1 t0 he ht hvp hd (go _ (ai_rd_ok (g := fun j => .int (f j)) hG hel hlt hij (Or.inl ⟨_, rfl, by decide⟩) hv))
  · obtain ⟨cA, f, t0, rfl, ht, hel⟩ := hmc
    exact va_aldq hx hb hKk hP a.2.1 t0 he ht hvp hd (go _ (ai_rd_ok (g := fun j => va_rf (f j)) hG hel hlt hij (Or.inr (Or.inr rfl)) hv))
theorem ai_bool {y : Int32} (h : 0 ≤ y.toInt ∧ y.toInt ≤ 1) : y = 0 ∨ y = 1 := by
  rcases (show y.toInt = 0 ∨ y.toInt = 1 by omega) with h | h
  · exact Or.inl (Int32.toInt_inj.mp (h.trans (show (0 : Int) = (0 : Int32).toInt from rfl)))
  · exact Or.inr (Int32.toInt_inj.mp (h.trans (show (1 : Int) = (1 : Int32).toInt from rfl)))
theorem ai_fit_ok {ty : FieldType} {v : ai_V} {u : Value} (hG : ai_gok ρ G) (hm : ai_mt ρ sb ad v u) (h : ai_fit G ty v = true) : narrow ty u = u ∧ fits ty u = true := by
  have rf : (ai_isR v || v.1 == 5) = true → u = .null ∨ ∃ q, u = .ref q := by
    intro h
    rw [Bool.or_eq_true] at h
    rcases h with h | h
    · obtain ⟨q, -, rfl⟩ := ai_ref hm h
      exact Or.inr ⟨q, rfl⟩
    · obtain ⟨n, t, lo, hi⟩ := v
      have e : n = 5 := by simpa using h
      subst e
      exact Or.inl hm
  unfold ai_fit at h
  split at h
  · obtain ⟨y, rfl, -⟩ := ai_int hG hm h
    exact ⟨rfl, rfl⟩
  · simp only [Bool.and_eq_true, decide_eq_true_eq] at h
    obtain ⟨y, rfl, hb⟩ := ai_int hG hm h.1
    rcases ai_bool (y := y) (by omega) with rfl | rfl
    · exact ⟨by decide +kernel, by decide +kernel⟩
    · exact ⟨by decide +kernel, by decide +kernel⟩
  · obtain ⟨y, rfl, -⟩ := ai_lng hG hm h
    exact ⟨rfl, rfl⟩
  · rcases rf h with rfl | ⟨q, rfl⟩
    · exact ⟨rfl, rfl⟩
    · exact ⟨rfl, rfl⟩
  · rcases rf h with rfl | ⟨q, rfl⟩
    · exact ⟨rfl, rfl⟩
    · exact ⟨rfl, rfl⟩
  · cases h
theorem ai_ast_ok {ins : Instr} {ty : Nat} {ok : ai_V → Bool} (hx : p.tables.exec = Jvm.exec) (hb : c.code = cc) (hG : ai_gok ρ G) (hls : ai_lv ρ sb (ws.map Prod.fst) als md.2.2.2.1 ls) (hst : ai_F2 (ai_mt ρ sb (ws.map Prod.fst)) st stk) (hm : ai_mem ρ sb D A s H locs aw ws tys) (h : ai_ast G als st aw cs ss ty ok = some x) (hd : decode cc pc = .ok (ins, 1)) (hins : (ty = 0 ∧ ins = .iastore ∧ ok = ai_isI) ∨ (ty = 1 ∧ ins = .lastore ∧ ok = ai_isL) ∨ (ty = 2 ∧ ins = .bastore ∧ ok = ai_fit G .boolean) ∨ (ty = 3 ∧ ins = .aastore ∧ ok = fun v => ai_isR v && (match aw[v.2.1]? with
    | some (.inl (ci, _)) => ci == 2
    | _ => false))) (K : ai_K p l e R s m args below meth c Q ρ sb D A md.2.2.2.1 (ws.map Prod.fst) (pc + 1) x) : W p l e R s m args below meth c H locs cs ss Q (F0 m pc ls stk) := by
  unfold ai_ast at h
  obtain ⟨v, i, a, r, rfl, h⟩ := ai_p3_ok h
  obtain ⟨hr, h⟩ := ai_gd_ok h
  rw [Bool.and_eq_true] at hr
  obtain ⟨hr, hok⟩ := hr
  obtain ⟨cell, hc, h⟩ := ai_bd_ok h
  rcases cell with q | ⟨t, n, d, ov⟩
  · cases h
  dsimp only at h
  obtain ⟨hi, h⟩ := ai_gd_ok h
  obtain ⟨qw, hv, h⟩ := ai_bd_ok h
  cases h
  simp only [Bool.and_eq_true, beq_iff_eq] at hi
  obtain ⟨et, hin⟩ := hi
  subst et
  obtain ⟨uv, stk0, rfl, mv, hst0⟩ := hst.cons
  obtain ⟨ui, stk1, rfl, mi, hst1⟩ := hst0.cons
  obtain ⟨ua, stk2, rfl, ma, hst2⟩ := hst1.cons
  obtain ⟨q, hq, rfl⟩ := ai_ref ma hr
  obtain ⟨iv, rfl, hb1, hb0, hvp, hlt, hcl⟩ := ai_inb_ok hG mi hin
  have hij : (ai_b G i).1 ≤ ((iv.toNatClampNeg : Nat) : Int) ∧ ((iv.toNatClampNeg : Nat) : Int) ≤ (ai_b G i).2 := by rw [hcl]; omega
  obtain ⟨hP, hD, hKk, hS, hW⟩ := id hm
  obtain ⟨e0, he, hmc⟩ := ai_cell hW hc hq
  have go : ∀ (e1 : va_E) (H1 : Heap) (locs1 : List Loc), va_P D vwCl (ws.set a.2.1 (q, e1)) H1 → va_D A (ws.set a.2.1 (q, e1)) → va_S A s.heap H1 locs1 → ai_mc ρ sb (ws.map Prod.fst) tys (.inr (t, n, qw.1, qw.2)) e1 → W p l e R s m args below meth c H1 locs1 cs ss Q (F0 m (pc + 1) ls stk2) := by
    intro e1 H1 locs1 g1 g2 g3 g4
    have ef := ai_fst_set (e1 := e1) he
    refine K ls _ H1 locs1 (ws.set a.2.1 (q, e1)) tys [] (by rw [ef, List.append_nil]) (by rw [ef]; exact hls) (by rw [ef]; exact hst2) ⟨g1, g2, hKk, g3, hW.set he g4⟩
  rcases hins with ⟨rfl, rfl, rfl⟩ | ⟨rfl, rfl, rfl⟩ | ⟨rfl, rfl, rfl⟩ | ⟨rfl, rfl, rfl⟩
  · obtain ⟨cA, f, t0, rfl, ht, hel⟩ := hmc
    obtain ⟨y, rfl, -⟩ := ai_int hG mv hok
    refine va_iast hx hb hKk hP hD hS a.2.1 t0 he ht hvp hd (fun H1 locs1 g1 g2 g3 => go _ H1 locs1 g1 g2 g3 ⟨cA, _, t0, rfl, ht, ?_⟩)
    exact ai_wr_ok (g := fun j => .int (f j)) (g' := fun j => .int (upd f iv.toNatClampNeg y j)) hG hel hlt hij (by simp only [pk_us]; exact mv) (fun k hk => by simp only [pk_un hk]) (Or.inl ⟨fun k => ⟨_, rfl⟩, by decide⟩) hv
  · obtain ⟨cA, f, t0, rfl, ht, hel⟩ := hmc
    obtain ⟨y, rfl, -⟩ := ai_lng hG mv hok
    refine va_last hx hb hKk hP hD hS a.2.1 t0 he ht hvp hd (fun H1 locs1 g1 g2 g3 => go _ H1 locs1 g1 g2 g3 ⟨cA, _, t0, rfl, ht, ?_⟩)
    exact ai_wr_ok (g := fun j => .long (f j)) (g' := fun j => .long (vp_updL f iv.toNatClampNeg y j)) hG hel hlt hij (by simp only [pk_uLs]; exact mv) (fun k hk => by simp only [pk_uLn hk]) (Or.inr (Or.inl ⟨fun k => ⟨_, rfl⟩, rfl⟩)) hv
  · obtain ⟨cA, f, t0, rfl, ht, hel⟩ := hmc
    have hok2 := hok
    unfold ai_fit at hok2
    simp only [Bool.and_eq_true, decide_eq_true_eq] at hok2
    obtain ⟨y, rfl, hby⟩ := ai_int hG mv hok2.1
    have hn : vp_nar .boolean y = y := by
      rcases ai_bool (y := y) (by omega) with rfl | rfl <;> decide +kernel
    refine va_zast hx hb hKk hP hD hS a.2.1 t0 he ht hvp hd (fun H1 locs1 g1 g2 g3 => go _ H1 locs1 g1 g2 g3 ⟨cA, _, t0, rfl, ht, ?_⟩)
    exact ai_wr_ok (g := fun j => .int (f j)) (g' := fun j => .int (upd f iv.toNatClampNeg (vp_nar .boolean y) j)) hG hel hlt hij (by simp only [pk_us, hn]; exact mv) (fun k hk => by simp only [pk_un hk]) (Or.inl ⟨fun k => ⟨_, rfl⟩, by decide⟩) hv
  · obtain ⟨cA, f, t0, rfl, ht, hel⟩ := hmc
    rw [Bool.and_eq_true] at hok
    obtain ⟨qv, hqv, rfl⟩ := ai_ref mv hok.1
    have hok2 := hok.2
    split at hok2
    · rename_i ci fs hcv
      have eci : ci = 2 := by simpa using hok2
      subst eci
      obtain ⟨ev, hev, vs, rfl, -⟩ := ai_cell hW hcv hqv
      refine va_astq hx hb hKk hP hD hS a.2.1 t0 v.2.1 2 (r := (RX2, TX2, 14)) he ht hev rfl hvp hd (fun H1 locs1 g1 g2 g3 => go _ H1 locs1 g1 g2 g3 ⟨cA, _, t0, rfl, ht, ?_⟩)
      exact ai_wr_ok (g := fun j => va_rf (f j)) (g' := fun j => va_rf (va_up f iv.toNatClampNeg (some qv) j)) hG hel hlt hij (by simp only [va_up, if_true]; exact mv) (fun k hk => by simp only [va_up, if_neg hk]) (Or.inr (Or.inr rfl)) hv
    · cases hok2
theorem ai_cats {r : List ai_V} {q : List Value} (h : ai_F2 (ai_mt ρ sb ad) r q) : (q.map fun v => v.category) = r.map ai_cat := by
  induction r generalizing q with
  | nil => rw [h.nil]; rfl
  | cons a r ih =>
    obtain ⟨b, bs, rfl, h1, h2⟩ := h.cons
    rw [List.map_cons, List.map_cons, h1.cat, ih h2]
end ASJ
