section ASD
variable {p : Program} {l : Launch} {e : Env} {R : Room} {s : State} {m : MethodId} {args : Array Value} {below : List Frame} {meth : Method} {c : Code} {H : Heap} {locs : List Loc} {cs ss : Nat} {Q : State → Prop} {ρ σ : ai_Rh} {sb : ai_SB} {L : Nat} {xs : Nat → Int32} {D : va_G} {A : Nat → Prop} {md : ai_MD}
variable {ls : Array Slot} {stk : List Value} {ws : va_W} {tys : List (ClassId × FieldType)} {G G' : ai_G} {als : ai_L} {st : List ai_V} {aw : ai_W} {x : ai_S} {pc : Nat} {cc : ByteArray} {ad : List Nat}
/-! ===== reads: what isn't known whole becomes a token ===== -/
theorem ai_mc.up {cl : ai_C} {e9 : va_E} (hr : ai_le ρ σ) (h : ai_mc ρ sb ad tys cl e9) : ai_mc σ sb ad tys cl e9 := by
  have := ai_mc.more hr [] [] h
  rw [List.append_nil, List.append_nil] at this
  exact this
theorem ai_el.up {j : Nat} {a : ai_V} {v : Value} (hr : ai_le ρ σ) (h : ai_el ρ sb ad j a v) : ai_el σ sb ad j a v := by
  have := ai_el.more hr [] h
  rw [List.append_nil] at this
  exact this
theorem ai_lv.up {nL : Nat} (hr : ai_le ρ σ) (h : ai_lv ρ sb ad als nL ls) : ai_lv σ sb ad als nL ls := by
  have := ai_lv.more hr [] h
  rw [List.append_nil] at this
  exact this
theorem ai_ws.up (hr : ai_le ρ σ) (h : ai_ws ρ sb tys aw ws) : ai_ws σ sb tys aw ws := ⟨h.1, fun k cl hk => by
  obtain ⟨q, h1, h2⟩ := h.2 k cl hk
  exact ⟨q, h1, h2.up hr⟩⟩
theorem ai_mem.up (hr : ai_le ρ σ) (h : ai_mem ρ sb D A s H locs aw ws tys) : ai_mem σ sb D A s H locs aw ws tys := ⟨h.1, h.2.1, h.2.2.1, h.2.2.2.1, h.2.2.2.2.up hr⟩
theorem ai_stk.up {vs : List Value} (hr : ai_le ρ σ) (h : ai_F2 (ai_mt ρ sb ad) st vs) : ai_F2 (ai_mt σ sb ad) st vs := h.mono (fun _ _ h => h.up hr)
theorem ai_ws.repl {k q : Nat} {e0 : va_E} {c1 : ai_C} (h : ai_ws ρ sb tys aw ws) (hk : ws[k]? = some (q, e0)) (hc : ai_mc ρ sb (ws.map Prod.fst) tys c1 e0) : ai_ws ρ sb tys (aw.set k c1) ws := by
  refine ⟨by rw [List.length_set]; exact h.1, fun i cl hi => ?_⟩
  by_cases ei : k = i
  · subst ei
    rw [List.getElem?_set_self (by rw [h.1]; exact (List.getElem?_eq_some_iff.mp hk).1)] at hi
    cases hi
    exact ⟨(q, e0), hk, hc⟩
  · rw [List.getElem?_set_ne ei] at hi
    exact h.2 i cl hi
theorem ai_mat_ok {v : ai_V} {q : ai_G × ai_V} {u : Value} (hG : ai_gok ρ G) (hm : ai_mt ρ sb ad v u) (h : ai_mat G v = some q) : ∃ σ, ai_le ρ σ ∧ ai_gok σ q.1 ∧ ai_mt σ sb ad q.2 u := by
  unfold ai_mat at h
  obtain ⟨h1, h2⟩ := ai_bif_ok h
  cases h2
  simp only [Bool.and_eq_true, Bool.or_eq_true, beq_iff_eq, decide_eq_true_eq] at h1
  obtain ⟨n, t, lo, hi⟩ := v
  dsimp only at h1 ⊢
  rcases h1.1 with rfl | rfl
  · obtain ⟨y, rfl, g1, g2⟩ := hm
    exact ⟨ai_more ρ G.length y.toInt, ai_more_le hG _, ai_more_ok (q := (lo, hi, 0)) hG g1 g2 (ai_kp0 rfl), ⟨y, y.toInt, rfl, ai_more_at, by omega⟩⟩
  · obtain ⟨y, rfl, g1, g2⟩ := hm
    exact ⟨ai_more ρ G.length y.toInt, ai_more_le hG _, ai_more_ok (q := (lo, hi, 0)) hG g1 g2 (ai_kp0 rfl), ⟨y, y.toInt, rfl, ai_more_at, by omega⟩⟩
theorem ai_el_put {n j0 : Nat} {d w : ai_V} {ov : List (Nat × ai_V)} {g : Nat → Value} (hel : ∀ j, j < n → ai_el ρ sb ad j (ai_look d ov j) (g j)) (hv : ai_mt ρ sb ad w (g j0)) : ∀ j, j < n → ai_el ρ sb ad j (ai_look d ((j0, w) :: ov.filter (fun p => !(p.1 == j0))) j) (g j) := by
  intro j hj
  have e0 : ai_look d ((j0, w) :: ov.filter (fun p => !(p.1 == j0))) j = (bif j0 == j then w else ai_look d (ov.filter (fun p => !(p.1 == j0))) j) := rfl
  rw [e0]
  by_cases ej : j0 = j
  · subst ej
    rw [beq_self_eq_true, cond_true]
    exact ai_el.of hv
  · rw [beq_false_of_ne ej, cond_false, ai_look_filter (fun h => ej h.symm)]
    exact hel j hj
theorem ai_ald_ok {ins : Instr} {ty : Nat} (hx : p.tables.exec = Jvm.exec) (hb : c.code = cc) (hG : ai_gok ρ G) (hls : ai_lv ρ sb (ws.map Prod.fst) als md.2.2.2.1 ls) (hst : ai_F2 (ai_mt ρ sb (ws.map Prod.fst)) st stk) (hm : ai_mem ρ sb D A s H locs aw ws tys) (h : ai_ald G als st aw cs ss ty = some (G', x)) (hd : decode cc pc = .ok (ins, 1)) (hins : (ty = 0 ∧ ins = .iaload) ∨ (ty = 1 ∧ ins = .laload) ∨ (ty = 2 ∧ ins = .baload) ∨ (ty = 3 ∧ ins = .aaload)) (K : ∀ σ, ai_le ρ σ → ai_gok σ G' → ai_K p l e R s m args below meth c Q σ sb D A md.2.2.2.1 (ws.map Prod.fst) (pc + 1) x) : W p l e R s m args below meth c H locs cs ss Q (F0 m pc ls stk) := by
  unfold ai_ald at h
  obtain ⟨i, a, r, rfl, h1⟩ := ai_p2_ok h
  obtain ⟨hr, h2⟩ := ai_gd_ok h1
  obtain ⟨cell, hc, h3⟩ := ai_bd_ok h2
  rcases cell with q | ⟨t, n, d, ov⟩
  · cases h3
  dsimp only at h3
  obtain ⟨hi, h4⟩ := ai_gd_ok h3
  obtain ⟨v, hv, h5⟩ := ai_bd_ok h4
  simp only [Bool.and_eq_true, beq_iff_eq] at hi
  obtain ⟨et, hin⟩ := hi
  subst et
  obtain ⟨ui, stk1, rfl, mi, hst1⟩ := hst.cons
  obtain ⟨ua, stk2, rfl, ma, hst2⟩ := hst1.cons
  obtain ⟨q, hq, rfl⟩ := ai_ref ma hr
  obtain ⟨iv, rfl, hb1, hb0, hvp, hlt, hcl, hnm⟩ := ai_inb_ok hG mi hin
  have hij : (ai_b G i).1 ≤ ((iv.toNatClampNeg : Nat) : Int) ∧ ((iv.toNatClampNeg : Nat) : Int) ≤ (ai_b G i).2 := by rw [hcl]; omega
  have hnj : ai_nm ρ i ((iv.toNatClampNeg : Nat) : Int) := by
    have e1 : ((iv.toNatClampNeg : Nat) : Int) = iv.toInt := by rw [hcl]; omega
    rw [e1]; exact hnm
  obtain ⟨hP, hD, hKk, hS, hW⟩ := id hm
  obtain ⟨e9, he, hmc⟩ := ai_cell hW hc hq
  -- what is read goes on
  have go : ∀ (u : Value), ai_mt ρ sb (ws.map Prod.fst) v u → (∀ (σ : ai_Rh) (w : ai_V), ai_le ρ σ → ai_mt σ sb (ws.map Prod.fst) w u → ai_one G i = true → ai_mc σ sb (ws.map Prod.fst) tys (.inr (t, n, d, (((ai_b G i).1.toNat, w) :: ov.filter (fun p => !(p.1 == (ai_b G i).1.toNat))))) e9) → W p l e R s m args below meth c H locs cs ss Q (F0 m (pc + 1) ls (u :: stk2)) := by
    intro u hu hcell
    cases hmq : ai_mat G v with
    | none =>
      rw [hmq] at h5
      cases h5
      exact K ρ ai_le.rf hG ls _ H locs ws tys [] (List.append_nil _).symm hls ⟨hu, hst2⟩ hm
    | some q9 =>
      rw [hmq] at h5
      dsimp only at h5
      obtain ⟨σ, s1, s2, s3⟩ := ai_mat_ok hG hu hmq
      cases ho : ai_one G i with
      | false =>
        rw [ho] at h5
        cases h5
        exact K σ s1 s2 ls _ H locs ws tys [] (List.append_nil _).symm (hls.up s1) ⟨s3, ai_stk.up s1 hst2⟩ (hm.up s1)
      | true =>
        rw [ho] at h5
        cases h5
        exact K σ s1 s2 ls _ H locs ws tys [] (List.append_nil _).symm (hls.up s1) ⟨s3, ai_stk.up s1 hst2⟩ ⟨hP, hD, hKk, hS, (hW.up s1).repl he (hcell σ q9.2 s1 s3 ho)⟩
  have one : ai_one G i = true → (ai_b G i).1.toNat = iv.toNatClampNeg := by
    intro h1
    unfold ai_one at h1
    simp only [Bool.and_eq_true, decide_eq_true_eq] at h1
    omega
  rcases hins with ⟨rfl, rfl⟩ | ⟨rfl, rfl⟩ | ⟨rfl, rfl⟩ | ⟨rfl, rfl⟩
  · obtain ⟨cA, f, t0, rfl, ht, hel, hRL⟩ := hmc
    exact va_iald hx hb hKk hP a.2.1 t0 he ht hvp hd (go _ (ai_rd_ok (g := fun j => .int (f j)) hG hel hlt hij hnj (Or.inl ⟨_, rfl, by decide, by decide⟩) hv) (fun σ w s1 s3 ho => ⟨cA, f, t0, rfl, ht, ai_el_put (g := fun j => .int (f j)) (fun j hj => ai_el.up s1 (hel j hj)) (by rw [one ho]; exact s3), hRL⟩))
  · obtain ⟨cA, f, t0, rfl, ht, hel⟩ := hmc
    exact va_lald hx hb hKk hP a.2.1 t0 he ht hvp hd (go _ (ai_rd_ok (g := fun j => .long (f j)) hG hel hlt hij hnj (Or.inr (Or.inl ⟨_, rfl, rfl⟩)) hv) (fun σ w s1 s3 ho => ⟨cA, f, t0, rfl, ht, ai_el_put (g := fun j => .long (f j)) (fun j hj => ai_el.up s1 (hel j hj)) (by rw [one ho]; exact s3)⟩))
  · obtain ⟨cA, f, t0, rfl, ht, hel⟩ := hmc
    exact va_zald hx hb hKk hP a.2.1 t0 he ht hvp hd (go _ (ai_rd_ok (g := fun j => .int (f j)) hG hel hlt hij hnj (Or.inl ⟨_, rfl, by decide, by decide⟩) hv) (fun σ w s1 s3 ho => ⟨cA, f, t0, rfl, ht, ai_el_put (g := fun j => .int (f j)) (fun j hj => ai_el.up s1 (hel j hj)) (by rw [one ho]; exact s3)⟩))
  · obtain ⟨cA, f, t0, rfl, ht, hel⟩ := hmc
    exact va_aldq hx hb hKk hP a.2.1 t0 he ht hvp hd (go _ (ai_rd_ok (g := fun j => va_rf (f j)) hG hel hlt hij hnj (Or.inr (Or.inr rfl)) hv) (fun σ w s1 s3 ho => ⟨cA, f, t0, rfl, ht, ai_el_put (g := fun j => va_rf (f j)) (fun j hj => ai_el.up s1 (hel j hj)) (by rw [one ho]; exact s3)⟩))
theorem ai_rl_ok {i : Nat} : ∀ {als : ai_L} {lv : List (Nat × Value)} {v : ai_V}, ai_lk als i = some v → ai_F2 (fun (a : Nat × ai_V) (q : Nat × Value) => a.1 = q.1 ∧ ai_mt ρ sb ad a.2 q.2) als lv → ∃ u, (i, u) ∈ lv ∧ ai_mt ρ sb ad v u ∧ ∀ (σ : ai_Rh) (w : ai_V), ai_le ρ σ → ai_mt σ sb ad w u → ai_F2 (fun (a : Nat × ai_V) (q : Nat × Value) => a.1 = q.1 ∧ ai_mt σ sb ad a.2 q.2) (ai_rl i w als) lv
  | [], _, _, h, _ => by cases h
  | (k, v0) :: r, lv, v, h, hF => by
    obtain ⟨q, lv', rfl, h1, h2⟩ := hF.cons
    unfold ai_lk at h
    cases hk : (k == i) with
    | true =>
      rw [hk] at h
      cases h
      have ei : k = i := by simpa using hk
      have eq9 : (i, q.2) = q := by rw [← ei]; exact Prod.ext h1.1 rfl
      refine ⟨q.2, by rw [eq9]; exact List.mem_cons_self, h1.2, fun σ w hr hw => ?_⟩
      unfold ai_rl
      rw [hk]
      exact ⟨⟨h1.1, hw⟩, h2.mono (fun _ _ g => ⟨g.1, g.2.up hr⟩)⟩
    | false =>
      rw [hk] at h
      obtain ⟨u, g0, g1, g2⟩ := ai_rl_ok h h2
      refine ⟨u, List.mem_cons_of_mem _ g0, g1, fun σ w hr hw => ?_⟩
      unfold ai_rl
      rw [hk]
      exact ⟨⟨h1.1, h1.2.up hr⟩, g2 σ w hr hw⟩
theorem ai_ldm_ok {i : Nat} {ok : ai_V → Bool} (hG : ai_gok ρ G) (hls : ai_lv ρ sb (ws.map Prod.fst) als md.2.2.2.1 ls) (h : ai_ldm G als st aw cs ss i ok = some (G', x)) : ∃ v u w als', ok v = true ∧ ls[i]? = some (.val u) ∧ ai_mt ρ sb (ws.map Prod.fst) v u ∧ x = (als', w :: st, aw, cs, ss) ∧ ∃ σ, ai_le ρ σ ∧ ai_gok σ G' ∧ ai_mt σ sb (ws.map Prod.fst) w u ∧ ai_lv σ sb (ws.map Prod.fst) als' md.2.2.2.1 ls := by
  unfold ai_ldm at h
  obtain ⟨v, hv, h1⟩ := ai_bd_ok h
  obtain ⟨ho, h2⟩ := ai_gd_ok h1
  obtain ⟨q, hq, h3⟩ := ai_bd_ok h2
  cases h3
  obtain ⟨lv, l1, l2⟩ := hls
  obtain ⟨u, g0, g3, g4⟩ := ai_rl_ok hv l2
  obtain ⟨σ, s1, s2, s3⟩ := ai_mat_ok hG g3 hq
  exact ⟨v, u, q.2, ai_rl i q.2 als, ho, l1.2.2 (i, u) g0, g3, rfl, σ, s1, s2, s3, lv, l1, g4 σ q.2 s1 s3⟩
theorem ai_rdm_ok {en : ai_E} (hcl : ai_clok) (he : ai_eok md en) (cx : ai_cx p s m args meth c R md A sb L xs) (hG : ai_gok ρ G) (hls : ai_lv ρ sb (ws.map Prod.fst) als md.2.2.2.1 ls) (hst : ai_F2 (ai_mt ρ sb (ws.map Prod.fst)) st stk) (hm : ai_mem ρ sb D A s H locs aw ws tys) (h : ai_rdm en G als st aw cs ss = some (G', x)) (K : ∀ σ, ai_le ρ σ → ai_gok σ G' → ai_K p l e R s m args below meth c Q σ sb D A md.2.2.2.1 (ws.map Prod.fst) (en.1 + en.2.2.1) x) : W p l e R s m args below meth c H locs cs ss Q (F0 m en.1 ls stk) := by
  obtain ⟨hx, hb, hml, hown, hts, hA, hin, hR, hao, hsc⟩ := cx
  obtain ⟨hd, hlen, hw⟩ := he
  obtain ⟨pc0, ins, len, na, nb, ni, nz⟩ := en
  dsimp only at *
  unfold ai_rdm at h
  dsimp only at h
  obtain ⟨hP, hD, hKk, hS, hW⟩ := id hm
  have l1 : ai_len ins = 1 → len = 1 := fun h => by rcases hlen with g | g <;> omega
  have l2 : ai_len ins = 2 → len = 2 := fun h => by rcases hlen with g | g <;> omega
  have l3 : ai_len ins = 3 → len = 3 := fun h => by rcases hlen with g | g <;> omega
  split at h
  · cases l3 rfl
    obtain ⟨v, r, rfl, hh⟩ := ai_p1_ok h
    obtain ⟨ho, hh⟩ := ai_gd_ok hh
    obtain ⟨cell, hc, hh⟩ := ai_bd_ok hh
    rcases cell with ⟨ci, fs⟩ | q
    · dsimp only at hh
      obtain ⟨hi, h5⟩ := ai_gd_ok hh
      have eci : ci = na := by simpa using hi
      subst eci
      obtain ⟨fv, hf, h6⟩ := ai_bd_ok h5
      obtain ⟨u, stk1, rfl, mv, hst1⟩ := hst.cons
      obtain ⟨a, ha, rfl⟩ := ai_ref mv ho
      obtain ⟨e9, h9, vs, rfl, hfs⟩ := ai_cell hW hc ha
      obtain ⟨fu, hfu, hfm⟩ := hfs.get hf
      obtain ⟨q, hq, hk, hl⟩ := hw
      refine va_get (C := q.1) (T := q.2.1) (N := q.2.2) hx hb hts (hcl ci q hq).1 hown hKk hP v.2.1 h9 hq nb hk (hts _ hl) (fun _ h => h) hfu hd ?_
      cases hmq : ai_mat G fv with
      | none =>
        rw [hmq] at h6
        cases h6
        exact K ρ ai_le.rf hG ls _ H locs ws tys [] (List.append_nil _).symm hls ⟨hfm, hst1⟩ hm
      | some q9 =>
        rw [hmq] at h6
        cases h6
        obtain ⟨σ, s1, s2, s3⟩ := ai_mat_ok hG hfm hmq
        have hset : ai_F2 (ai_mt σ sb (ws.map Prod.fst)) (fs.set nb q9.2) vs := by
          have := ai_F2.set (k := nb) s3 (hfs.mono (fun _ _ h => h.up s1))
          rw [show vs.set nb fu = vs from by
            apply List.ext_getElem?
            intro i
            by_cases ei : nb = i
            · subst ei; rw [List.getElem?_set_self (List.getElem?_eq_some_iff.mp hfu).1, hfu]
            · rw [List.getElem?_set_ne ei]] at this
          exact this
        exact K σ s1 s2 ls _ H locs ws tys [] (List.append_nil _).symm (hls.up s1) ⟨s3, ai_stk.up s1 hst1⟩ ⟨hP, hD, hKk, hS, (hW.up s1).repl h9 ⟨vs, rfl, hset⟩⟩
    · cases hh
  · cases l1 rfl; exact ai_ald_ok hx hb hG hls hst hm h hd (Or.inl ⟨rfl, rfl⟩) K
  · cases l1 rfl; exact ai_ald_ok hx hb hG hls hst hm h hd (Or.inr (Or.inl ⟨rfl, rfl⟩)) K
  · cases l1 rfl; exact ai_ald_ok hx hb hG hls hst hm h hd (Or.inr (Or.inr (Or.inl ⟨rfl, rfl⟩))) K
  · cases l1 rfl; exact ai_ald_ok hx hb hG hls hst hm h hd (Or.inr (Or.inr (Or.inr ⟨rfl, rfl⟩))) K
  · cases l2 rfl
    obtain ⟨v, u, w, als', ho, hu, mv, rfl, σ, s1, s2, s3, s4⟩ := ai_ldm_ok hG hls h
    obtain ⟨y, rfl, -⟩ := ai_int hG mv ho
    exact lv_iload hx hb hd hu (K σ s1 s2 ls _ H locs ws tys [] (List.append_nil _).symm s4 ⟨s3, ai_stk.up s1 hst⟩ (hm.up s1))
  · cases l1 rfl
    obtain ⟨v, u, w, als', ho, hu, mv, rfl, σ, s1, s2, s3, s4⟩ := ai_ldm_ok hG hls h
    obtain ⟨y, rfl, -⟩ := ai_int hG mv ho
    exact lv_iload_n hx hb hd rfl hu (K σ s1 s2 ls _ H locs ws tys [] (List.append_nil _).symm s4 ⟨s3, ai_stk.up s1 hst⟩ (hm.up s1))
  · cases l2 rfl
    obtain ⟨v, u, w, als', ho, hu, mv, rfl, σ, s1, s2, s3, s4⟩ := ai_ldm_ok hG hls h
    obtain ⟨y, rfl, -⟩ := ai_lng hG mv ho
    exact lv_lload hx hb hd hu (K σ s1 s2 ls _ H locs ws tys [] (List.append_nil _).symm s4 ⟨s3, ai_stk.up s1 hst⟩ (hm.up s1))
  · cases l1 rfl
    obtain ⟨v, u, w, als', ho, hu, mv, rfl, σ, s1, s2, s3, s4⟩ := ai_ldm_ok hG hls h
    obtain ⟨y, rfl, -⟩ := ai_lng hG mv ho
    exact lv_lload_n hx hb hd rfl hu (K σ s1 s2 ls _ H locs ws tys [] (List.append_nil _).symm s4 ⟨s3, ai_stk.up s1 hst⟩ (hm.up s1))
  · cases h
end ASD
