section ASG
variable {p : Program} {l : Launch} {e : Env} {R : Room} {s : State} {m : MethodId} {args : Array Value} {below : List Frame} {meth : Method} {c : Code} {H : Heap} {locs : List Loc} {Q : State → Prop} {ρ σ τ : ai_Rh} {sb : ai_SB} {D : va_G} {A : Nat → Prop}
variable {ls : Array Slot} {stk : List Value} {ws : va_W} {tys : List (ClassId × FieldType)} {G G' : ai_G} {nL nG : Nat} {cvs : List ai_V} {us : List Value} {pc : Nat} {ad : List Nat} {x x' y w : ai_S}
/-! ===== states that say less ===== -/
theorem ai_all2_ok {α β : Type} {f : α → α → Bool} {P S : α → β → Prop} (hf : ∀ a b v, f a b = true → P a v → S b v) : ∀ {as bs : List α} {vs : List β}, ai_all2 f as bs = true → ai_F2 P as vs → ai_F2 S bs vs
  | [], [], [], _, _ => trivial
  | a :: as, b :: bs, v :: vs, h, g => by
    unfold ai_all2 at h
    rw [Bool.and_eq_true] at h
    exact ⟨hf _ _ _ h.1 g.1, ai_all2_ok hf h.2 g.2⟩
  | [], [], _ :: _, _, g => g.elim
  | _ :: _, _ :: _, [], _, g => g.elim
  | [], _ :: _, _, h, _ => by cases h
  | _ :: _, [], _, h, _ => by cases h
theorem ai_all2_len {α : Type} {f : α → α → Bool} : ∀ {as bs : List α}, ai_all2 f as bs = true → as.length = bs.length
  | [], [], _ => rfl
  | a :: as, b :: bs, h => by
    unfold ai_all2 at h
    rw [Bool.and_eq_true] at h
    rw [List.length_cons, List.length_cons, ai_all2_len h.2]
  | [], _ :: _, h => by cases h
  | _ :: _, [], h => by cases h
theorem ai_all2_get {α : Type} {f : α → α → Bool} : ∀ {as bs : List α} {k : Nat} {b : α}, ai_all2 f as bs = true → bs[k]? = some b → ∃ a, as[k]? = some a ∧ f a b = true
  | [], [], _, _, _, hk => by simp at hk
  | a :: as, b :: bs, 0, b', h, hk => by
    unfold ai_all2 at h
    rw [Bool.and_eq_true] at h
    have e : b = b' := by simpa using hk
    exact ⟨a, rfl, e ▸ h.1⟩
  | a :: as, b :: bs, k + 1, b', h, hk => by
    unfold ai_all2 at h
    rw [Bool.and_eq_true] at h
    obtain ⟨a', h1, h2⟩ := ai_all2_get (k := k) h.2 (by simpa using hk)
    exact ⟨a', by simpa using h1, h2⟩
  | [], _ :: _, _, _, h, _ => by cases h
  | _ :: _, [], _, _, h, _ => by cases h
theorem ai_sbe_ok {j : Nat} {y w : ai_V} {v : Value} (hG : ai_gok σ G) (hag : ∀ t z, t < nG → σ t = some z → τ t = some z) (hcv : ai_F2 (ai_mt σ sb ad) cvs us) (hnw : ∀ (j : Nat) (u : Value), us[j]? = some u → τ (nG + j) = some (ai_vz u)) (h : ai_sbe G nG cvs y w = true) (hm : ai_el σ sb ad j y v) : ai_el τ sb ad j w v := by
  unfold ai_sbe at h
  cases h1 : (y.1 == 10 || w.1 == 10) with
  | true =>
    rw [h1, cond_true] at h
    have e := eq_of_beq h
    subst e
    have e10 : y.1 = 10 := by simpa using h1
    unfold ai_el at hm ⊢
    rw [if_pos e10] at hm ⊢
    exact hm
  | false =>
    rw [h1, cond_false] at h
    rw [Bool.or_eq_false_iff] at h1
    exact ai_el.of (ai_sb_ok hG hag hcv hnw h (hm.to (by simpa using h1.1)))
theorem ai_sbp_ok {j : Nat} {y w : ai_V} {v : Value} (hG : ai_gok σ G) (hag : ∀ t z, t < nG → σ t = some z → τ t = some z) (hcv : ai_F2 (ai_mt σ sb ad) cvs us) (hnw : ∀ (j : Nat) (u : Value), us[j]? = some u → τ (nG + j) = some (ai_vz u)) (h : ai_sbp G nG cvs j y w = true) (hm : ai_el σ sb ad j y v) : ai_el τ sb ad j w v := by
  unfold ai_sbp at h
  cases h1 : (w.1 == 10 && !(y.1 == 10)) with
  | false => rw [h1, cond_false] at h; exact ai_sbe_ok hG hag hcv hnw h hm
  | true =>
    rw [h1, cond_true, Bool.and_eq_true] at h
    simp only [Bool.and_eq_true, beq_iff_eq, Bool.not_eq_true', beq_eq_false_iff_ne] at h1
    obtain ⟨x, rfl, b1, n1⟩ := ai_int' hG (hm.to h1.2) h.1
    unfold ai_el
    rw [if_pos h1.1]
    exact ⟨x, rfl, ai_sw_ok (i := ai_lI j) hG ⟨Int.le_refl _, Int.le_refl _⟩ ai_nmL b1 n1 h.2⟩
theorem ai_look_at {d : ai_V} : ∀ (ov : List (Nat × ai_V)) (j : Nat), (∀ q ∈ ov, ¬ q.1 = j) → ai_look d ov j = d
  | [], _, _ => rfl
  | (k, v) :: r, j, h => by
    have e : ai_look d ((k, v) :: r) j = (bif k == j then v else ai_look d r j) := rfl
    rw [e, beq_false_of_ne (h _ List.mem_cons_self), cond_false]
    exact ai_look_at r j (fun q hq => h q (List.mem_cons_of_mem _ hq))
theorem ai_sbo {t : Nat} {d d' : ai_V} {ov ov' : List (Nat × ai_V)} {j : Nat} {v : Value} (hG : ai_gok σ G) (hag : ∀ t z, t < nG → σ t = some z → τ t = some z) (hcv : ai_F2 (ai_mt σ sb ad) cvs us) (hnw : ∀ (j : Nat) (u : Value), us[j]? = some u → τ (nG + j) = some (ai_vz u)) (h1 : ai_sbe G nG cvs d d' = true) (h2 : ov.all (fun q => ai_sbp G nG cvs q.1 q.2 (ai_look d' ov' q.1)) = true) (h3 : ov'.all (fun q => ai_sbp G nG cvs q.1 (ai_look d ov q.1) q.2) = true) (hm : ai_el σ sb ad j (ai_look d ov j) v) : ai_el τ sb ad j (ai_look d' ov' j) v := by
  rw [List.all_eq_true] at h2 h3
  rcases ai_look_or (d := d) ov j with e | ⟨q, hq, e1, e2⟩
  · rcases ai_look_or (d := d') ov' j with e' | ⟨q', hq', e1', e2'⟩
    · rw [e']
      rw [e] at hm
      exact ai_sbe_ok hG hag hcv hnw h1 hm
    · have := h3 q' hq'
      rw [e1'] at this
      rw [e2']
      exact ai_sbp_ok hG hag hcv hnw this hm
  · have := h2 q hq
    rw [e1] at this
    rw [e2] at hm
    exact ai_sbp_ok hG hag hcv hnw this hm
theorem ai_sbc_ok {y w : ai_C} {e9 : va_E} (hG : ai_gok σ G) (hag : ∀ t z, t < nG → σ t = some z → τ t = some z) (hcv : ai_F2 (ai_mt σ sb ad) cvs us) (hnw : ∀ (j : Nat) (u : Value), us[j]? = some u → τ (nG + j) = some (ai_vz u)) (h : ai_sbc G nG cvs y w = true) (hm : ai_mc σ sb ad tys y e9) : ai_mc τ sb ad tys w e9 := by
  rcases y with ⟨ci, fs⟩ | ⟨t, n, d, ov⟩
  · rcases w with ⟨ci', fs'⟩ | ⟨t', n', d', ov'⟩
    · unfold ai_sbc at h
      dsimp only at h
      rw [Bool.and_eq_true] at h
      have e1 : ci = ci' := by simpa using h.1
      subst e1
      obtain ⟨vs, g1, g2⟩ := hm
      exact ⟨vs, g1, ai_all2_ok (P := ai_mt σ sb ad) (S := ai_mt τ sb ad) (fun _ _ _ h g => ai_sb_ok hG hag hcv hnw h g) h.2 g2⟩
    · cases h
  · rcases w with ⟨ci', fs'⟩ | ⟨t', n', d', ov'⟩
    · cases h
    · unfold ai_sbc at h
      dsimp only at h
      simp only [Bool.and_eq_true, beq_iff_eq] at h
      obtain ⟨h1, h2, h3, h4, h5⟩ := h
      subst h1; subst h2
      match t, hm with
      | 0, hm =>
        obtain ⟨cA, f, t0, g1, g2, g3, g4⟩ := hm
        refine ⟨cA, f, t0, g1, g2, fun j hj => ai_sbo (t := 0) hG hag hcv hnw h3 h4 h5 (g3 j hj), fun h10 => ?_⟩
        unfold ai_sbe at h3
        rw [show (d.1 == 10 || d'.1 == 10) = true by simp [h10], cond_true] at h3
        have e := eq_of_beq h3
        subst e
        exact g4 h10
      | 1, hm => obtain ⟨cA, f, t0, g1, g2, g3⟩ := hm; exact ⟨cA, f, t0, g1, g2, fun j hj => ai_sbo (t := 0) hG hag hcv hnw h3 h4 h5 (g3 j hj)⟩
      | 2, hm => obtain ⟨cA, f, t0, g1, g2, g3⟩ := hm; exact ⟨cA, f, t0, g1, g2, fun j hj => ai_sbo (t := 0) hG hag hcv hnw h3 h4 h5 (g3 j hj)⟩
      | 3, hm => obtain ⟨cA, f, t0, g1, g2, g3⟩ := hm; exact ⟨cA, f, t0, g1, g2, fun j hj => ai_sbo (t := 0) hG hag hcv hnw h3 h4 h5 (g3 j hj)⟩
      | 4, hm => exact hm
      | 5, hm => exact hm
      | n + 6, hm => exact hm.elim
theorem ai_sbw_ok {aw aw' : ai_W} (hG : ai_gok σ G) (hag : ∀ t z, t < nG → σ t = some z → τ t = some z) (hcv : ai_F2 (ai_mt σ sb (ws.map Prod.fst)) cvs us) (hnw : ∀ (j : Nat) (u : Value), us[j]? = some u → τ (nG + j) = some (ai_vz u)) (h : ai_all2 (ai_sbc G nG cvs) aw aw' = true) (hm : ai_ws σ sb tys aw ws) : ai_ws τ sb tys aw' ws := by
  refine ⟨by rw [← ai_all2_len h]; exact hm.1, fun k cl hk => ?_⟩
  obtain ⟨a, h1, h2⟩ := ai_all2_get h hk
  obtain ⟨q, g1, g2⟩ := hm.2 k a h1
  exact ⟨q, g1, ai_sbc_ok hG hag hcv hnw h2 g2⟩
theorem ai_sbl_ok {als als' : ai_L} (hG : ai_gok σ G) (hag : ∀ t z, t < nG → σ t = some z → τ t = some z) (hcv : ai_F2 (ai_mt σ sb ad) cvs us) (hnw : ∀ (j : Nat) (u : Value), us[j]? = some u → τ (nG + j) = some (ai_vz u)) (h : als'.all (fun q => match ai_lk als q.1 with
    | some v => ai_sb G nG cvs v q.2
    | none => false) = true) (hm : ai_lv σ sb ad als nL ls) : ai_lv τ sb ad als' nL ls := by
  obtain ⟨lv, h1, h2⟩ := hm
  have key : ∀ (l' : ai_L), (∀ q ∈ l', (match ai_lk als q.1 with
    | some v => ai_sb G nG cvs v q.2
    | none => false) = true) → ∃ lv', (∀ q ∈ lv', q ∈ lv) ∧ ai_F2 (fun (a : Nat × ai_V) (q : Nat × Value) => a.1 = q.1 ∧ ai_mt τ sb ad a.2 q.2) l' lv' := by
    intro l'
    induction l' with
    | nil => intro _; exact ⟨[], (fun _ h => absurd h List.not_mem_nil), trivial⟩
    | cons q r ih =>
      intro hq
      obtain ⟨lv', g1, g2⟩ := ih (fun q' h' => hq q' (List.mem_cons_of_mem _ h'))
      have hq0 := hq q List.mem_cons_self
      cases hk : ai_lk als q.1 with
      | none => rw [hk] at hq0; cases hq0
      | some v =>
        rw [hk] at hq0
        obtain ⟨k, u, g3, g4⟩ := ai_lk_ok hk h2
        refine ⟨(q.1, u) :: lv', fun q' h' => ?_, ⟨rfl, ai_sb_ok hG hag hcv hnw hq0 g4⟩, g2⟩
        rcases List.mem_cons.mp h' with rfl | h'
        · exact List.mem_of_getElem? g3
        · exact g1 _ h'
  rw [List.all_eq_true] at h
  obtain ⟨lv', g1, g2⟩ := key als' h
  exact ⟨lv', ⟨h1.1, h1.2.1, fun q hq => h1.2.2 q (g1 q hq)⟩, g2⟩
/-- what goes on from the state that says less goes on from the one that says more -/
theorem ai_sbs_ok {yy : List Nat} (hG : ai_gok σ G) (hag : ∀ t z, t < nG → σ t = some z → τ t = some z) (hcv : ai_F2 (ai_mt σ sb (ws.map Prod.fst)) cvs us) (hnw : ∀ (j : Nat) (u : Value), us[j]? = some u → τ (nG + j) = some (ai_vz u)) (h : ai_sbs G nG cvs y w = true) (hy : ws.map Prod.fst = ad ++ yy) (hls : ai_lv σ sb (ws.map Prod.fst) y.1 nL ls) (hst : ai_F2 (ai_mt σ sb (ws.map Prod.fst)) y.2.1 stk) (hm : ai_mem σ sb D A s H locs y.2.2.1 ws tys) (K : ai_K p l e R s m args below meth c Q τ sb D A nL ad pc w) : W p l e R s m args below meth c H locs y.2.2.2.1 y.2.2.2.2 Q (F0 m pc ls stk) := by
  unfold ai_sbs at h
  simp only [Bool.and_eq_true, decide_eq_true_eq] at h
  obtain ⟨h1, h2, h3, h4, h5⟩ := h
  refine W.widen h4 h5 (K ls stk H locs ws tys yy hy (ai_sbl_ok hG hag hcv hnw h1 hls) (ai_all2_ok (P := ai_mt σ sb (ws.map Prod.fst)) (S := ai_mt τ sb (ws.map Prod.fst)) (fun _ _ _ h g => ai_sb_ok hG hag hcv hnw h g) h2 hst) ⟨hm.1, hm.2.1, hm.2.2.1, hm.2.2.2.1, ai_sbw_ok hG hag hcv hnw h3 hm.2.2.2.2⟩)
theorem ai_matp_ok {v : ai_V} {q : ai_G × ai_V} {u : Value} (hG : ai_gok ρ G) (hm : ai_mt ρ sb ad v u) (h : ai_matp G v = some q) : ∃ σ, ai_le ρ σ ∧ ai_gok σ q.1 ∧ ai_mt σ sb ad q.2 u := by
  unfold ai_matp at h
  split at h
  · rename_i q' hq
    cases h
    exact ai_mat_ok hG hm hq
  · obtain ⟨h1, h2⟩ := ai_bif_ok h
    cases h2
    have hi : ai_isI v = true := by
      unfold ai_isI
      rw [Bool.or_eq_true] at h1
      rcases h1 with h1 | h1 <;> rw [h1] <;> simp
    obtain ⟨y, rfl, g1, g2⟩ := ai_int hG hm hi
    exact ⟨ai_more ρ G.length y.toInt, ai_more_le hG _, ai_more_ok (q := ((ai_b G v).1, (ai_b G v).2, 0)) hG g1 g2 (ai_kp0 rfl), ⟨y, y.toInt, rfl, ai_more_at, by omega⟩⟩
/-- what stood at the first place -/
def ai_raw (pls : List ai_Pl) (x : ai_S) : Option ai_V := match pls with
  | ([], i) :: _ => ai_lk x.1 i
  | _ => none
theorem ai_mp1_ok {pl : ai_Pl} {v : ai_V} (hG : ai_gok ρ G) (hls : ai_lv ρ sb (ws.map Prod.fst) x.1 nL ls) (hst : ai_F2 (ai_mt ρ sb (ws.map Prod.fst)) x.2.1 stk) (hm : ai_mem ρ sb D A s H locs x.2.2.1 ws tys) (h : ai_mp1 G x pl = some (G', x', v)) : x'.2.2.2 = x.2.2.2 ∧ ∃ σ, ai_le ρ σ ∧ ai_gok σ G' ∧ ai_lv σ sb (ws.map Prod.fst) x'.1 nL ls ∧ ai_F2 (ai_mt σ sb (ws.map Prod.fst)) x'.2.1 stk ∧ ai_mem σ sb D A s H locs x'.2.2.1 ws tys ∧ ∃ u, ai_mt σ sb (ws.map Prod.fst) v u ∧ ∀ w, pl.1 = [] → ai_lk x.1 pl.2 = some w → ai_mt ρ sb (ws.map Prod.fst) w u := by
  unfold ai_mp1 at h
  split at h
  · obtain ⟨v0, hv, h1⟩ := ai_bd_ok h
    obtain ⟨lv, l1, l2⟩ := hls
    obtain ⟨u, -, g1, g2⟩ := ai_rl_ok hv l2
    cases hmq : ai_matp G v0 with
    | none =>
      rw [hmq] at h1
      cases h1
      exact ⟨rfl, ρ, ai_le.rf, hG, ⟨lv, l1, l2⟩, hst, hm, u, g1, fun w _ hw => by rw [hv] at hw; cases hw; exact g1⟩
    | some q =>
      rw [hmq] at h1
      cases h1
      obtain ⟨σ, s1, s2, s3⟩ := ai_matp_ok hG g1 hmq
      exact ⟨rfl, σ, s1, s2, ⟨lv, l1, g2 σ q.2 s1 s3⟩, ai_stk.up s1 hst, hm.up s1, u, s3, fun w _ hw => by rw [hv] at hw; cases hw; exact g1⟩
  · rename_i hne
    obtain ⟨k, hk, h1⟩ := ai_bd_ok h
    obtain ⟨cl, hc, h2⟩ := ai_bd_ok h1
    rcases cl with ⟨ci, fs⟩ | q
    · dsimp only at h2
      obtain ⟨v0, hv, h3⟩ := ai_bd_ok h2
      obtain ⟨hP, hD, hKk, hS, hW⟩ := id hm
      obtain ⟨⟨q0, e9⟩, g1, vs, rfl, g2⟩ := hW.2 k _ hc
      obtain ⟨u, hu, mu⟩ := g2.get hv
      cases hmq : ai_mat G v0 with
      | none =>
        rw [hmq] at h3
        cases h3
        exact ⟨rfl, ρ, ai_le.rf, hG, hls, hst, hm, u, mu, fun w e0 _ => absurd e0 hne⟩
      | some q =>
        rw [hmq] at h3
        cases h3
        obtain ⟨σ, s1, s2, s3⟩ := ai_mat_ok hG mu hmq
        have hset : ai_F2 (ai_mt σ sb (ws.map Prod.fst)) (fs.set pl.2 q.2) vs := by
          have := ai_F2.set (k := pl.2) s3 (g2.mono (fun _ _ h => h.up s1))
          rw [show vs.set pl.2 u = vs from by
            apply List.ext_getElem?
            intro i
            by_cases ei : pl.2 = i
            · rw [← ei, List.getElem?_set_self (List.getElem?_eq_some_iff.mp hu).1, hu]
            · rw [List.getElem?_set_ne ei]] at this
          exact this
        exact ⟨rfl, σ, s1, s2, hls.up s1, ai_stk.up s1 hst, ⟨hP, hD, hKk, hS, (hW.up s1).repl g1 ⟨vs, rfl, hset⟩⟩, u, s3, fun w e0 _ => absurd e0 hne⟩
    · cases h2
theorem ai_mps_ok : ∀ {pls : List ai_Pl} {ρ : ai_Rh} {G : ai_G} {x : ai_S} {G' : ai_G} {x' : ai_S} {cvs : List ai_V}, ai_gok ρ G → ai_lv ρ sb (ws.map Prod.fst) x.1 nL ls → ai_F2 (ai_mt ρ sb (ws.map Prod.fst)) x.2.1 stk → ai_mem ρ sb D A s H locs x.2.2.1 ws tys → ai_mps pls G x = some (G', x', cvs) → x'.2.2.2 = x.2.2.2 ∧ ∃ σ, ai_le ρ σ ∧ ai_gok σ G' ∧ ai_lv σ sb (ws.map Prod.fst) x'.1 nL ls ∧ ai_F2 (ai_mt σ sb (ws.map Prod.fst)) x'.2.1 stk ∧ ai_mem σ sb D A s H locs x'.2.2.1 ws tys ∧ ∃ us, ai_F2 (ai_mt σ sb (ws.map Prod.fst)) cvs us ∧ ∀ w, ai_raw pls x = some w → ∃ u r, us = u :: r ∧ ai_mt ρ sb (ws.map Prod.fst) w u
  | [], ρ, G, x, G', x', cvs, hG, hls, hst, hm, h => by
    cases h
    exact ⟨rfl, ρ, ai_le.rf, hG, hls, hst, hm, [], trivial, fun w hw => by cases hw⟩
  | pl :: r, ρ, G, x, G', x', cvs, hG, hls, hst, hm, h => by
    unfold ai_mps at h
    obtain ⟨⟨G1, x1, v⟩, h1, h2⟩ := ai_bd_ok h
    obtain ⟨⟨G2, x2, vs⟩, h3, h4⟩ := ai_bd_ok h2
    cases h4
    obtain ⟨c1, σ, s1, s2, s3, s4, s5, u, s6, s7⟩ := ai_mp1_ok hG hls hst hm h1
    obtain ⟨c2, τ, t1, t2, t3, t4, t5, us, t6, -⟩ := ai_mps_ok s2 s3 s4 s5 h3
    refine ⟨c2.trans c1, τ, s1.tr t1, t2, t3, t4, t5, u :: us, ⟨s6.up t1, t6⟩, fun w hw => ⟨u, us, rfl, ?_⟩⟩
    obtain ⟨pp, pi⟩ := pl
    unfold ai_raw at hw
    cases pp with
    | nil => exact s7 w rfl hw
    | cons _ _ => cases hw
theorem ai_nchk_ok : ∀ {cvs : List ai_V} {qs : List (Int × Int × Nat)} {us : List Value}, ai_gok σ G → ai_F2 (ai_mt σ sb ad) cvs us → ai_nchk G cvs qs = true → ai_F2 (fun (q : Int × Int × Nat) (z : Int) => q.1 ≤ z ∧ z ≤ q.2.1 ∧ q.2.2 = 0) qs (us.map ai_vz)
  | [], [], us, _, h, _ => by rw [h.nil]; trivial
  | v :: vs, q :: qs, us, hG, h, hc => by
    obtain ⟨u, us', rfl, h1, h2⟩ := h.cons
    unfold ai_nchk at hc
    simp only [Bool.and_eq_true, decide_eq_true_eq, beq_iff_eq] at hc
    obtain ⟨c1, c2, c3, c4, c5⟩ := hc
    obtain ⟨b1, -⟩ := ai_num hG h1 c1
    exact ⟨⟨by omega, by omega, c4⟩, ai_nchk_ok hG h2 c5⟩
  | [], _ :: _, _, _, _, hc => by cases hc
  | _ :: _, [], _, _, _, hc => by cases hc
def ai_n8 (ρ : ai_Rh) (a : ai_V) (x : Int) : Prop := (a.1 = 8 → ∃ z, ρ a.2.1 = some z ∧ x ≤ z + a.2.2.2) ∧ (a.1 = 9 → ∃ z, ρ a.2.1 = some z ∧ z + a.2.2.1 ≤ x)
theorem ai_mt8 {ρ : ai_Rh} {sb : ai_SB} {ad : List Nat} {a : ai_V} {v : Value} (h : ai_mt ρ sb ad a v) : ai_n8 ρ a (ai_vz v) := by
  obtain ⟨n, t, l, u⟩ := a
  refine ⟨fun e => ?_, fun e => ?_⟩
  · dsimp only at e
    subst e
    obtain ⟨x, z, rfl, h1, -, h2⟩ := h
    exact ⟨z, h1, h2⟩
  · dsimp only at e
    subst e
    obtain ⟨x, z, rfl, h1, h2, -⟩ := h
    exact ⟨z, h1, h2⟩
theorem ai_hd_ok {a : ai_Iv} {iv : ai_S} {G0 G1 : ai_G} (hG0 : ai_gok ρ G0) (hr : ai_le ρ σ) (hG1 : ai_gok σ G1) (h : ai_hd a G0.length iv G1 y = some cvs) (K : ∀ (zs : List Int), ai_F2 (fun (q : Int × Int × Nat) (z : Int) => q.1 ≤ z ∧ z ≤ q.2.1 ∧ q.2.2 = 0) a.2.1 zs → (∀ cv r, cvs = cv :: r → ∃ (z : Int) (zr : List Int) (τ : ai_Rh), zs = z :: zr ∧ ai_le σ τ ∧ ai_nm τ cv z ∧ ∀ w, ai_raw a.1 y = some w → ai_n8 τ w z) → ai_K p l e R s m args below meth c Q (ai_mores ρ G0.length zs) sb D A nL ad pc iv) : ai_K p l e R s m args below meth c Q σ sb D A nL ad pc y := by
  intro ls stk H locs ws tys yy hy hls hst hm
  unfold ai_hd at h
  obtain ⟨⟨G2, x2, cv2⟩, h1, h2⟩ := ai_bd_ok h
  obtain ⟨h3, h4⟩ := ai_gd_ok h2
  cases h4
  rw [Bool.and_eq_true] at h3
  obtain ⟨c1, τ, t1, t2, t3, t4, t5, us, t6, t7⟩ := ai_mps_ok hG1 hls hst hm h1
  have hb := ai_nchk_ok t2 t6 h3.1
  obtain ⟨g1, g2, g3⟩ := ai_mores_le hG0 hb
  have hK := K (us.map ai_vz) hb (by
    intro cv r hc
    dsimp only at hc
    rw [hc] at t6
    obtain ⟨u, us', rfl, m1, m2⟩ := t6.cons
    refine ⟨ai_vz u, us'.map ai_vz, τ, rfl, t1, ?_, fun w hw => by
      obtain ⟨u9, r9, e9, m9⟩ := t7 w hw
      cases e9
      exact ai_mt8 (m9.up t1)⟩
    have h31 := h3.1
    dsimp only at h31
    rw [hc] at h31
    match hq : a.2.1, h31 with
    | [], h31 => cases h31
    | q :: qs, h31 =>
      unfold ai_nchk at h31
      simp only [Bool.and_eq_true] at h31
      exact (ai_num t2 m1 h31.1).2)
  have := ai_sbs_ok (nG := G0.length) (τ := ai_mores ρ G0.length (us.map ai_vz)) t2 (fun t z ht hz => by
    obtain ⟨z0, e0, -⟩ := hG0.at (List.getElem?_eq_getElem ht)
    have e1 := t1 _ _ (hr _ _ e0)
    rw [hz] at e1
    cases e1
    exact g2 _ _ e0) t6 (fun j u hj => g3 j (ai_vz u) (by rw [List.getElem?_map, hj]; rfl)) h3.2 hy t3 t4 t5 hK
  dsimp only at c1 this
  rw [c1] at this
  exact this
end ASG
