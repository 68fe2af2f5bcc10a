/-! ===== the law with counts: worlds that tell tokens, side by side ===== -/
def la_wv (lo hi m : Nat) (v : ai_V) : Bool := v.1 == 0 || (v.1 == 1 || (v.1 == 5 || ((v.1 == 4 && Nat.blt v.2.1 m) || (v.1 == 2 && (Nat.ble lo v.2.1 && Nat.blt v.2.1 hi)))))
def la_wc (lo hi m : Nat) (c : ai_C) : Bool := match c with
  | .inl (_, fs) => fs.all (la_wv lo hi m)
  | .inr (t, _, d, ov) => Nat.blt t 4 && (la_wv lo hi m d && ov.all (fun q => la_wv lo hi m q.2))
theorem la_wvm {ρ ρ' : ai_Rh} {sb sb' : ai_SB} {ad ad' : List Nat} {lo hi m : Nat} (had : ∀ k, k < m → ad'[k]? = ad[k]?) (hρ : ∀ t, lo ≤ t → t < hi → ρ' t = ρ t) {v : ai_V} {u : Value} (h : la_wv lo hi m v = true) (hm : ai_mt ρ sb ad v u) : ai_mt ρ' sb' ad' v u := by
  obtain ⟨n, t, a, b⟩ := v
  unfold la_wv at h
  simp only [Bool.or_eq_true, Bool.and_eq_true, beq_iff_eq] at h
  rcases h with rfl | rfl | rfl | ⟨rfl, h⟩ | ⟨rfl, h, h'⟩
  · exact hm
  · exact hm
  · exact hm
  · obtain ⟨q, h1, h2⟩ := hm
    exact ⟨q, by rw [had _ (Nat.le_of_ble_eq_true h)]; exact h1, h2⟩
  · obtain ⟨x, z, h1, h2, h3⟩ := hm
    exact ⟨x, z, h1, by rw [hρ _ (Nat.le_of_ble_eq_true h) (Nat.le_of_ble_eq_true h')]; exact h2, h3⟩
theorem la_wv10 {lo hi m : Nat} {v : ai_V} (h : la_wv lo hi m v = true) : ¬ v.1 = 10 := by
  intro e
  unfold la_wv at h
  rw [e] at h
  simp at h
theorem la_wcm {ρ ρ' : ai_Rh} {sb sb' : ai_SB} {ad ad' : List Nat} {tys : List (ClassId × FieldType)} {lo hi m : Nat} (had : ∀ k, k < m → ad'[k]? = ad[k]?) (hρ : ∀ t, lo ≤ t → t < hi → ρ' t = ρ t) {c : ai_C} {e : va_E} (h : la_wc lo hi m c = true) (hm : ai_mc ρ sb ad tys c e) : ai_mc ρ' sb' ad' tys c e := by
  have el : ∀ {d : ai_V} {ov : List (Nat × ai_V)} {j : Nat} {v : Value}, la_wv lo hi m d = true → ov.all (fun q => la_wv lo hi m q.2) = true → ai_el ρ sb ad j (ai_look d ov j) v → ai_el ρ' sb' ad' j (ai_look d ov j) v := by
    intro d ov j v hd ho hm
    have hl : la_wv lo hi m (ai_look d ov j) = true := by
      rcases bh_lk (d := d) ov j with ⟨q, hq, -, e⟩ | e
      · rw [e]
        exact List.all_eq_true.mp ho q hq
      · rw [e]
        exact hd
    exact ai_el.of (la_wvm had hρ hl (hm.to (la_wv10 hl)))
  rcases c with ⟨ci, fs⟩ | ⟨t, n, d, ov⟩
  · obtain ⟨vs, h1, h2⟩ := hm
    refine ⟨vs, h1, ?_⟩
    have key : ∀ {fs : List ai_V} {vs : List Value}, fs.all (la_wv lo hi m) = true → ai_F2 (ai_mt ρ sb ad) fs vs → ai_F2 (ai_mt ρ' sb' ad') fs vs := by
      intro fs
      induction fs with
      | nil =>
        intro vs _ h
        rw [h.nil]
        trivial
      | cons f r ih =>
        intro vs ha h
        obtain ⟨u, us, rfl, g1, g2⟩ := h.cons
        rw [List.all_cons, Bool.and_eq_true] at ha
        exact ⟨la_wvm had hρ ha.1 g1, ih ha.2 g2⟩
    exact key h h2
  · have h' : (Nat.blt t 4 && (la_wv lo hi m d && ov.all (fun q => la_wv lo hi m q.2))) = true := h
    rw [Bool.and_eq_true, Bool.and_eq_true] at h'
    obtain ⟨h4, hd, ho⟩ := h'
    match t, h4, hm with
    | 0, _, hm =>
      obtain ⟨cA, f, t0, h1, h2, h3, h5⟩ := hm
      exact ⟨cA, f, t0, h1, h2, fun j hj => el hd ho (h3 j hj), h5⟩
    | 1, _, hm =>
      obtain ⟨cA, f, t0, h1, h2, h3⟩ := hm
      exact ⟨cA, f, t0, h1, h2, fun j hj => el hd ho (h3 j hj)⟩
    | 2, _, hm =>
      obtain ⟨cA, f, t0, h1, h2, h3⟩ := hm
      exact ⟨cA, f, t0, h1, h2, fun j hj => el hd ho (h3 j hj)⟩
    | 3, _, hm =>
      obtain ⟨cA, f, t0, h1, h2, h3⟩ := hm
      exact ⟨cA, f, t0, h1, h2, fun j hj => el hd ho (h3 j hj)⟩
    | t + 4, h4, _ => exact absurd (Nat.le_of_ble_eq_true h4) (by omega)
/-- the class's own cells apart from its images -/
def la_sn (sh k : Nat) : Bool := k == 25 || (match (iN sh)[k]?, zz_WN[k]? with
  | some (.inl (i, fs)), some (.inl (i', fs')) => i == i' && (fs == fs' && la_wc 0 1000 72 (.inl (i, fs)))
  | some (.inr q), some (.inr q') => q == q' && la_wc 0 1000 72 (.inr q)
  | _, _ => false)
theorem la_sna : (List.range 5).all (fun sh => (List.range 72).all (la_sn sh)) = true := by decide +kernel
theorem la_snk {sh k : Nat} (hs : sh < 5) (hk : k < 72) (h25 : ¬ k = 25) : ∃ c, (iN sh)[k]? = some c ∧ zz_WN[k]? = some c ∧ la_wc 0 1000 72 c = true := by
  have h := List.all_eq_true.mp (List.all_eq_true.mp la_sna sh (List.mem_range.mpr hs)) k (List.mem_range.mpr hk)
  unfold la_sn at h
  rw [beq_eq_false_iff_ne.mpr h25, Bool.false_or] at h
  split at h
  · rename_i i fs i' fs' h1 h2
    simp only [Bool.and_eq_true, beq_iff_eq] at h
    obtain ⟨rfl, rfl, h3⟩ := h
    exact ⟨_, h1, h2, h3⟩
  · rename_i q q' h1 h2
    simp only [Bool.and_eq_true, beq_iff_eq] at h
    obtain ⟨rfl, h3⟩ := h
    exact ⟨_, h1, h2, h3⟩
  · cases h
/-- the images' cells tell no live count -/
def la_s6 (sh k : Nat) : Bool := match (iN sh)[k]? with
  | some c => la_wc 6 18 1000 c
  | none => true
theorem la_s6a : (List.range 5).all (fun sh => la_s6 sh 25 && (List.range 200).all (fun k => Nat.blt k 72 || la_s6 sh k)) = true := by decide +kernel
theorem la_s6k {sh k : Nat} {c : ai_C} (hs : sh < 5) (hk : k = 25 ∨ 72 ≤ k) (hc : (iN sh)[k]? = some c) : la_wc 6 18 1000 c = true := by
  have h := List.all_eq_true.mp la_s6a sh (List.mem_range.mpr hs)
  rw [Bool.and_eq_true] at h
  have g : la_s6 sh k = true := by
    rcases hk with rfl | hk
    · exact h.1
    · have hl : (iN sh).length ≤ 200 := by
        unfold iN
        split <;> decide +kernel
      have hk2 := (List.getElem?_eq_some_iff.mp hc).1
      have := List.all_eq_true.mp h.2 k (List.mem_range.mpr (by omega))
      rw [Bool.or_eq_true] at this
      rcases this with h | h
      · have : k < 72 := Nat.le_of_ble_eq_true h
        omega
      · exact h
  unfold la_s6 at g
  rw [hc] at g
  exact g
theorem la_lnN {sh : Nat} : zz_WN.length = 72 ∧ 72 ≤ (iN sh).length := by
  refine ⟨by decide +kernel, ?_⟩
  unfold iN
  split <;> decide +kernel
theorem la_tkN {ρ : ai_Rh} {sb : ai_SB} {tys : List (ClassId × FieldType)} {sh : Nat} {wC : va_W} (hs : sh < 5) (h : ai_ws ρ sb tys (iN sh) wC) : ∃ e25 : va_E, (∀ sb' : ai_SB, sb'.2 0 = e25 → ai_ws ρ sb' tys zz_WN (wC.take 72)) ∧ (∃ a, wC[25]? = some (a, e25)) := by
  have hl : 72 ≤ wC.length := by rw [← h.1]; exact la_lnN.2
  obtain ⟨⟨a, e25⟩, h25⟩ : ∃ q, wC[25]? = some q := ⟨_, List.getElem?_eq_getElem (by omega)⟩
  refine ⟨e25, fun sb' hsb => ⟨?_, fun k c hk => ?_⟩, a, h25⟩
  · rw [List.length_take, (la_lnN (sh := sh)).1]
    omega
  · have hk72 : k < 72 := by
      have := (List.getElem?_eq_some_iff.mp hk).1
      rw [(la_lnN (sh := sh)).1] at this
      exact this
    have tk : (wC.take 72)[k]? = wC[k]? := List.getElem?_take_of_lt hk72
    by_cases e : k = 25
    · subst e
      refine ⟨(a, e25), by rw [tk]; exact h25, ?_⟩
      have : zz_WN[25]? = some (.inr (5, 0, (5, 0, 0, 0), [])) := rfl
      rw [this] at hk
      cases hk
      exact hsb.symm
    · obtain ⟨c', g1, g2, g3⟩ := la_snk hs hk72 e
      rw [hk] at g2
      cases g2
      obtain ⟨q, h1, h2⟩ := h.2 k c g1
      refine ⟨q, by rw [tk]; exact h1, la_wcm (fun i hi => ?_) (fun _ _ _ => rfl) g3 h2⟩
      rw [List.map_take, List.getElem?_take_of_lt hi]
/-- the images' cells are as they were, and so is what they tell -/
theorem la_bkN {ρ ρ' : ai_Rh} {sb sb1 : ai_SB} {tys tys1 : List (ClassId × FieldType)} {sh : Nat} {wC X1 : va_W} {e25 : va_E} (hρ : ∀ t, 6 ≤ t → t < 18 → ρ' t = ρ t) (hs : sh < 5) (h : ai_ws ρ sb tys (iN sh) wC) (h25 : ∃ a, wC[25]? = some (a, e25)) (hsb : sb1.2 0 = e25) (h1 : ai_ws ρ' sb1 tys1 zz_WN X1) (e : X1.map Prod.fst = (wC.take 72).map Prod.fst) : ai_ws ρ' sb (tys ++ tys1) (iN sh) (X1 ++ wC.drop 72) ∧ (X1 ++ wC.drop 72).map Prod.fst = wC.map Prod.fst := by
  have hl : 72 ≤ wC.length := by rw [← h.1]; exact la_lnN.2
  have hX : X1.length = 72 := by rw [← h1.1]; exact (la_lnN (sh := sh)).1
  have em : (X1 ++ wC.drop 72).map Prod.fst = wC.map Prod.fst := by
    rw [List.map_append, e, ← List.map_append, List.take_append_drop]
  refine ⟨⟨?_, fun k c hk => ?_⟩, em⟩
  · rw [List.length_append, hX, List.length_drop, h.1]
    omega
  · rw [em]
    by_cases hk72 : k < 72
    · have ap : (X1 ++ wC.drop 72)[k]? = X1[k]? := List.getElem?_append_left (by omega)
      rw [ap]
      by_cases e9 : k = 25
      · subst e9
        obtain ⟨a, ha⟩ := h25
        obtain ⟨q, q1, q2⟩ := h1.2 25 (.inr (5, 0, (5, 0, 0, 0), [])) rfl
        obtain ⟨r, r1, r2⟩ := h.2 25 c hk
        rw [ha] at r1
        cases r1
        have q2' : q.2 = e25 := (show q.2 = sb1.2 0 from q2).trans hsb
        exact ⟨q, q1, by rw [q2']; exact la_mct la_tl (la_wcm (fun _ _ => rfl) hρ (la_s6k hs (Or.inl rfl) hk) r2)⟩
      · obtain ⟨c', g1, g2, g3⟩ := la_snk hs hk72 e9
        rw [hk] at g1
        cases g1
        obtain ⟨q, q1, q2⟩ := h1.2 k c g2
        refine ⟨q, q1, la_mct la_tr (la_wcm (fun i hi => ?_) (fun _ _ _ => rfl) g3 q2)⟩
        rw [e, List.map_take, List.getElem?_take_of_lt hi]
    · obtain ⟨q, q1, q2⟩ := h.2 k c hk
      refine ⟨q, ?_, la_mct la_tl (la_wcm (fun _ _ => rfl) hρ (la_s6k hs (Or.inr (by omega)) hk) q2)⟩
      rw [List.getElem?_append_right (by omega), hX, List.getElem?_drop, show 72 + (k - 72) = k by omega]
      exact q1
/-! what the law's loop keeps -/
def pl (t : Nat) : Nat := match t with
  | 0 => 0
  | 1 => 3
  | 2 => 4
  | 3 => 5
  | 4 => 6
  | _ => 7
/-! the tables, live and of the images -/
def t_M (w : va_W) (b : Nat) : Nat → Nat → Int := fun c => (bg_S w).2 (b + c - 1)
def tC (w : va_W) (sh : Nat) (n : Nat → Int) (T : Nat → Nat → Int) : Prop := tx_cl (t_M w 1) (n 2) (n 3) (n 4) (T 0) ∧ ∀ a, a < 2 → ib_p sh a = true → tx_cl (t_M w (t_b sh a)) (n (8 + 6 * a)) (n (9 + 6 * a)) (n (10 + 6 * a)) (T (1 + a))
def tvA (sh : Nat) (n : Nat → Int) (T : Nat → Nat → Int) : Prop := tvx n (T 0) ∧ ∀ a, a < 2 → ib_p sh a = true → tvx (fun t => n (t + 6 + 6 * a)) (T (1 + a))
def tup (T : Nat → Nat → Int) (R : Nat → Int) : Nat → Nat → Int := fun i => if i = 0 then R else T i
theorem tup_s {T : Nat → Nat → Int} : tup T (T 0) = T := by
  funext i
  unfold tup
  by_cases e : i = 0
  · rw [if_pos e, e]
  · rw [if_neg e]
theorem tx_3cg {Q Q' R : Nat → Int} {nb nh nc : Int} (h1 : ∀ k : Nat, (k : Int) < 2 * nb → Q' (2448 + k) = Q (2448 + k)) (h2 : ∀ k : Nat, (k : Int) < 5 * nh → Q' (2528 + k) = Q (2528 + k)) (h3 : ∀ k : Nat, (k : Int) < 5 * nc → Q' (4008 + k) = Q (4008 + k)) (h : tx_3 Q nb nh nc R) : tx_3 Q' nb nh nc R := ⟨fun k hk => (h1 k hk).trans (h.1 k hk), fun k hk => (h2 k hk).trans (h.2.1 k hk), fun k hk => (h3 k hk).trans (h.2.2 k hk)⟩
theorem tx_ccg {M M' : Nat → Nat → Int} {R : Nat → Int} {nb nh nc : Int} (hb : nb ≤ 40) (hh : nh ≤ 200) (h1 : ∀ k : Nat, (k : Int) < 2 * nb → M' 17 k = M 17 k) (h2 : ∀ k : Nat, (k : Int) < 5 * nh → M' 19 k = M 19 k) (h3 : ∀ k : Nat, (k : Int) < 5 * nc → M' 23 k = M 23 k) (h4 : ∀ k, k < 6 → M' 24 k = M 24 k) (h : tx_cl M nb nh nc R) : tx_cl M' nb nh nc R := by
  refine ⟨tx_3cg (fun k hk => ?_) (fun k hk => ?_) (fun k hk => ?_) h.1, fun s hs => ?_⟩
  · rw [cQ_b (by omega), cQ_b (by omega)]
    exact h1 k hk
  · rw [cQ_h (by omega), cQ_h (by omega)]
    exact h2 k hk
  · rw [cQ_c, cQ_c]
    exact h3 k hk
  · rw [h4 s hs]
    exact h.2 s hs
theorem tx_qcg {Q Q' R : Nat → Int} {nb nh nc : Int} (h1 : ∀ k : Nat, (k : Int) < 2 * nb → Q' (2448 + k) = Q (2448 + k)) (h2 : ∀ k : Nat, (k : Int) < 5 * nh → Q' (2528 + k) = Q (2528 + k)) (h3 : ∀ k : Nat, (k : Int) < 5 * nc → Q' (4008 + k) = Q (4008 + k)) (h4 : ∀ j, 5008 ≤ j → j < 5056 → Q' j = Q j) (h : tx_q Q nb nh nc R) : tx_q Q' nb nh nc R := ⟨tx_3cg h1 h2 h3 h.1, fun s y hs hy => by
  rw [h4 _ (by omega) (by omega)]
  exact h.2 s y hs hy⟩
/-- what the row's exact places are -/
theorem tx_qcx {Q Q' R : Nat → Int} {nb nh nc : Int} (hb : nb ≤ 40) (hh : nh ≤ 200) (hc : nc ≤ 200) (hx : ∀ j, ai_xa 2 j = true → Q' j = Q j) (h : tx_q Q nb nh nc R) : tx_q Q' nb nh nc R := by
  have key : ∀ j, (2448 ≤ j ∧ j < 3528) ∨ (4008 ≤ j ∧ j < 5056) → Q' j = Q j := fun j hj => hx j (by
    unfold ai_xa
    rw [Bool.or_eq_true]
    refine Or.inr ?_
    rw [Bool.and_eq_true]
    refine ⟨rfl, ?_⟩
    rcases hj with hj | hj
    · exact List.any_eq_true.mpr ⟨(2448, 3528), by decide, by rw [Bool.and_eq_true, Nat.ble_eq]; exact ⟨hj.1, Nat.ble_eq.mpr hj.2⟩⟩
    · exact List.any_eq_true.mpr ⟨(4008, 5056), by decide, by rw [Bool.and_eq_true, Nat.ble_eq]; exact ⟨hj.1, Nat.ble_eq.mpr hj.2⟩⟩)
  exact tx_qcg (fun k hk => key _ (by omega)) (fun k hk => key _ (by omega)) (fun k hk => key _ (by omega)) (fun j a b => key j (by omega)) h
theorem bg_eqk {w w' : va_W} {k : Nat} (h : w'[k]? = w[k]?) : (bg_S w').2 k = (bg_S w).2 k := by
  funext j
  show (match w'[k]? with
  | some q => bg_A q.2 j
  | none => 0) = (match w[k]? with
  | some q => bg_A q.2 j
  | none => 0)
  rw [h]
theorem t_b72 (sh a : Nat) : 72 ≤ t_b sh a := by
  unfold t_b
  split <;> decide
/-- the live tables are another's, the images' as they were -/
theorem tC_bk {wC X1 : va_W} {sh : Nat} {n n' : Nat → Int} {T : Nat → Nat → Int} {R : Nat → Int} (hX : X1.length = 72) (h72 : 72 ≤ wC.length) (hk : ∀ t, 6 ≤ t → t < 18 → n' t = n t) (h : tC wC sh n T) (h1 : tx_cl (t_M X1 1) (n' 2) (n' 3) (n' 4) R) : tC (X1 ++ wC.drop 72) sh n' (tup T R) := by
  refine ⟨?_, fun a ha hp => ?_⟩
  · have e : ∀ c, c < 72 → t_M (X1 ++ wC.drop 72) 1 c = t_M X1 1 c := fun c hc => bg_eqk (List.getElem?_append_left (by omega))
    refine ⟨?_, ?_⟩
    · have e2 : cQ (t_M (X1 ++ wC.drop 72) 1) = cQ (t_M X1 1) := by
        funext j
        unfold cQ
        rw [e 17 (by decide), e 19 (by decide), e 23 (by decide)]
      show tx_3 (cQ (t_M (X1 ++ wC.drop 72) 1)) (n' 2) (n' 3) (n' 4) R
      rw [e2]
      exact h1.1
    · show tb_k (t_M (X1 ++ wC.drop 72) 1 24) R
      rw [e 24 (by decide)]
      exact h1.2
  · have g := h.2 a ha hp
    have hb := t_b72 sh a
    have e : ∀ c, 1 ≤ c → t_M (X1 ++ wC.drop 72) (t_b sh a) c = t_M wC (t_b sh a) c := fun c hc => bg_eqk (by
      rw [List.getElem?_append_right (by omega), hX, List.getElem?_drop]
      congr 1
      omega)
    rw [hk (8 + 6 * a) (by omega) (by omega), hk (9 + 6 * a) (by omega) (by omega), hk (10 + 6 * a) (by omega) (by omega)]
    have eT : tup T R (1 + a) = T (1 + a) := if_neg (by omega)
    rw [eT]
    refine ⟨?_, ?_⟩
    · have e2 : cQ (t_M (X1 ++ wC.drop 72) (t_b sh a)) = cQ (t_M wC (t_b sh a)) := by
        funext j
        unfold cQ
        rw [e 17 (by decide), e 19 (by decide), e 23 (by decide)]
      rw [e2]
      exact g.1
    · rw [e 24 (by decide)]
      exact g.2
theorem tvA_up {sh : Nat} {n n' : Nat → Int} {T : Nat → Nat → Int} {R : Nat → Int} (hk : ∀ t, 6 ≤ t → t < 18 → n' t = n t) (h : tvA sh n T) (h1 : tvx n' R) : tvA sh n' (tup T R) := by
  refine ⟨h1, fun a ha hp => ?_⟩
  have g := h.2 a ha hp
  have eT : tup T R (1 + a) = T (1 + a) := if_neg (by omega)
  rw [eT]
  have e : ∀ t, t < 6 → (fun t => n' (t + 6 + 6 * a)) t = (fun t => n (t + 6 + 6 * a)) t := fun t ht => hk (t + 6 + 6 * a) (by omega) (by omega)
  unfold tvx at g ⊢
  rw [e 2 (by decide), e 3 (by decide), e 4 (by decide)]
  exact g
/-- the reference's row, and its images: there as the shape says, rows as they must be, their counts and tables -/
def lr_J (sb : ai_SB) (tys : List (ClassId × FieldType)) (sh : Nat) (n : Nat → Int) (T : Nat → Nat → Int) : Prop := tx_q (ai_xn (sb.2 2)) (n 2) (n 3) (n 4) (T 0) ∧ ∃ (cA : ClassId) (f2 : Nat → Int32) (t0 : Nat) (cB : ClassId) (f3 : Nat → Int32) (t1 : Nat), sb.2 0 = .inl (cA, 46032, .inl f2) ∧ tys[t0]? = some (cA, .int) ∧ sb.2 1 = .inl (cB, 2, .inl f3) ∧ tys[t1]? = some (cB, .boolean) ∧ ∀ i, i < 2 → (ib_p sh i = true ↔ ¬ (f3 i).toInt = 0) ∧ (ib_p sh i = true → ro (fun j => (f2 (23016 * i + j)).toInt) ∧ (∀ t, t < 6 → (f2 (23016 * i + pl t)).toInt = n (6 + 6 * i + t)) ∧ tx_q (fun j => (f2 (23016 * i + j)).toInt) (n (8 + 6 * i)) (n (9 + 6 * i)) (n (10 + 6 * i)) (T (1 + i)))
theorem lr_Jt {sb : ai_SB} {tys tys' : List (ClassId × FieldType)} {sh : Nat} {n : Nat → Int} {T : Nat → Nat → Int} (ht : ∀ (k : Nat) (q : ClassId × FieldType), tys[k]? = some q → ∃ k' : Nat, tys'[k']? = some q) (h : lr_J sb tys sh n T) : lr_J sb tys' sh n T := by
  obtain ⟨h0, cA, f2, t0, cB, f3, t1, h1, h2, h3, h4, h5⟩ := h
  obtain ⟨a, ha⟩ := ht _ _ h2
  obtain ⟨b, hb⟩ := ht _ _ h4
  exact ⟨h0, cA, f2, a, cB, f3, b, h1, ha, h3, hb, h5⟩
theorem lr_Jn {sb : ai_SB} {tys : List (ClassId × FieldType)} {sh : Nat} {n n' : Nat → Int} {T : Nat → Nat → Int} (hn : ∀ t, kt t → n' t = n t) (h : lr_J sb tys sh n T) : lr_J sb tys sh n' T := by
  obtain ⟨h0, cA, f2, t0, cB, f3, t1, h1, h2, h3, h4, h5⟩ := h
  have e : ∀ t, 6 ≤ t → t < 18 → n' t = n t := fun t a b => hn t (Or.inr (Or.inr (Or.inr ⟨a, b⟩)))
  refine ⟨?_, cA, f2, t0, cB, f3, t1, h1, h2, h3, h4, fun i hi => ⟨(h5 i hi).1, fun hp => ⟨((h5 i hi).2 hp).1, fun t ht => ?_, ?_⟩⟩⟩
  · rw [hn 2 (Or.inl rfl), hn 3 (Or.inr (Or.inl rfl)), hn 4 (Or.inr (Or.inr (Or.inl rfl)))]
    exact h0
  · rw [((h5 i hi).2 hp).2.1 t ht, e _ (by omega) (by omega)]
  · rw [e (8 + 6 * i) (by omega) (by omega), e (9 + 6 * i) (by omega) (by omega), e (10 + 6 * i) (by omega) (by omega)]
    exact ((h5 i hi).2 hp).2.2
def la_J (D : va_G) (s : State) (bC bR sh : Nat) (n : Nat → Int) (T : Nat → Nat → Int) (shR : Nat) (nR : Nat → Int) (TR : Nat → Nat → Int) (H : Heap) (locs : List Loc) : Prop := (sh < 5 ∧ shR < 5 ∧ ai_gok (nv n) nv_G ∧ ai_gok (nv nR) nv_G ∧ tvA sh n T ∧ tvA shR nR TR) ∧ ∃ (wC wR : va_W) (tys : List (ClassId × FieldType)) (sbC sbR : ai_SB), va_P D vwCl (wC ++ wR) H ∧ va_D (lw_A s) (wC ++ wR) ∧ va_K D vwCl tys s ∧ va_S (lw_A s) s.heap H locs ∧ ai_ws (nv n) sbC tys (iN sh) wC ∧ ai_ws (nv nR) sbR tys ny_WN wR ∧ lr_J sbR tys shR nR TR ∧ (wC.map Prod.fst)[0]? = some bC ∧ (wR.map Prod.fst)[0]? = some bR ∧ tC wC sh n T
theorem la_yN {ρ ρ1 : ai_Rh} {sb : ai_SB} {tys : List (ClassId × FieldType)} {W W1 : ai_W} {X X1 : va_W} {y : List Nat} {tys1 : List (ClassId × FieldType)} {sb1 : ai_SB} (hW : W.length = W1.length) (h : ai_ws ρ sb tys W X) (h1 : ai_ws ρ1 sb1 tys1 W1 X1) (e : X1.map Prod.fst = X.map Prod.fst ++ y) : y = [] ∧ X1.map Prod.fst = X.map Prod.fst := by
  have hl := congrArg List.length e
  rw [List.length_append, List.length_map, List.length_map, ← h.1, ← h1.1] at hl
  have : y = [] := List.length_eq_zero_iff.mp (by omega)
  subst this
  exact ⟨rfl, by rw [e, List.append_nil]⟩
theorem la_hdN {ρ : ai_Rh} {sb : ai_SB} {tys : List (ClassId × FieldType)} {W : ai_W} {X : va_W} {b ci : Nat} {fs : List ai_V} (h : ai_ws ρ sb tys W X) (hW : W[0]? = some (.inl (ci, fs))) (hb : (X.map Prod.fst)[0]? = some b) : ∃ vs, X[0]? = some (b, .inr (ci, vs)) := by
  obtain ⟨q, h1, vs, h2, -⟩ := h.2 0 _ hW
  rw [List.getElem?_map, h1] at hb
  cases hb
  exact ⟨vs, by rw [h1, ← h2]⟩
abbrev la_Mt (md : ai_MD) (l : Launch) (D : va_G) (ws : va_W) (tys : List (ClassId × FieldType)) (vs : List Value) (sz : Nat) (Φ : Int32 → va_W → List (ClassId × FieldType) → Prop) : Prop := Met l md.2.1 (Jvm.Cond.code md.2.1 md.2.2.1 md.2.2.2.1 md.2.2.2.2.1 :: ai_tb) md.2.2.2.2.2.2.1 (ai_Pc D ws tys vs sz) (la_G D ws Φ (va_A ws sz)) md.2.2.2.2.2.2.1.cells md.2.2.2.2.2.2.1.slots (va_A ws sz)
/-- what the law asks of a method's face -/
def pf_ok (md : ai_MD) (k : Nat) : Prop := ai_mok md ∧ md.2.2.2.2.2.2.2 = 0 ∧ (md.2.2.2.2.2.2.1.frames ≤ 2000 ∧ md.2.2.2.2.2.2.1.locals ≤ 30000 ∧ md.2.2.2.1 ≤ 100) ∧ md.2.2.2.2.2.1 = k
section LAN
variable {p : Program} {l : Launch} {e : Env} {R : Room} {s : State} {m : MethodId} {args : Array Value} {below : List Frame} {meth : Method} {c : Code} {H : Heap} {locs : List Loc} {cs ss : Nat} {Q : State → Prop} {D : va_G} {own : String} {cc : ByteArray} {ls : Array Slot} {pc : Nat}
/-- a call of the reference: its world under its counts before and behind -/
theorem la_rfN {md : ai_MD} {bC bR sh shR idx : Nat} {n nR : Nat → Int} {xs : List Int32} {rest : List Value} {T TR : Nat → Nat → Int} {Ψ : Int32 → Nat → (Nat → Int) → (Nat → Nat → Int) → Prop} (cx : la_cx p s m args c R own cc) (hI : la_J D s bC bR sh n T shR nR TR H locs) (hf : pf_ok md xs.length) (h0 : md.2.2.2.2.2.2.1.cells = 0 ∧ md.2.2.2.2.2.2.1.slots = 0) (hcl : RX10 = md.2.1.cls) (hlk : Jvm.Cond.methodLink own idx md.2.1 ∈ ai_tb) (hls : ls.size = 4) (hcs : cs ≤ R.cells ∧ ss ≤ R.slots) (hcat : (rest.map fun v => v.category).sum ≤ 8) (hdg : decode cc pc = .ok (.invokevirtual idx, 3))
    (hM : ∀ (sb : ai_SB) (ws : va_W) (tys : List (ClassId × FieldType)), (ws.map Prod.fst)[0]? = some bR → ai_ws (nv nR) sb tys ny_WN ws → lr_J sb tys shR nR TR → la_Mt md l D ws tys (.ref bR :: xs.map .int) H.size (fun z ws1 tys1 => ∃ (sh' : Nat) (n' : Nat → Int) (T' : Nat → Nat → Int) (sb1 : ai_SB), Ψ z sh' n' T' ∧ sh' < 5 ∧ ai_gok (nv n') nv_G ∧ tvA sh' n' T' ∧ ai_ws (nv n') sb1 tys1 ny_WN ws1 ∧ lr_J sb1 (tys ++ tys1) sh' n' T'))
    (kk : ∀ (z : Int32) (sh' : Nat) (n' : Nat → Int) (T' : Nat → Nat → Int) (H1 : Heap) (Lc : List Loc), Ψ z sh' n' T' → la_J D s bC bR sh n T sh' n' T' H1 (locs ++ Lc) → W p l e R s m args below meth c H1 (locs ++ Lc) cs ss Q (F0 m (pc + 3) ls (.int z :: rest))) : W p l e R s m args below meth c H locs cs ss Q (F0 m pc ls ((xs.map Value.int).reverse ++ .ref bR :: rest)) := by
  obtain ⟨⟨hsh, hshR, hn, hnR, hv, hvR⟩, wC, wR, tys, sbC, sbR, hP, hD, hK, hS, hC1, hR1, hr, hbC, hbR, hT⟩ := hI
  obtain ⟨f1, f2, f3, f4⟩ := hf
  obtain ⟨vs, hev⟩ := la_hdN hR1 (ci := 10) rfl hbR
  refine la_call (md := md) (X := wR) (Y := wC) (ci := 10) (q9 := (RX10, TX10, 62)) cx f1 f2 f3 f4 hlk hls (la_Psw hP) (la_Dsw hD) hK hS hev rfl hcl (hM sbR wR tys hbR hR1 hr) (by rw [h0.1, h0.2]; exact hcs) hcat hdg ?_
  intro z X1 tys1 y H1 Lc e2 g1 g2 g3 g4 g5
  obtain ⟨sh', n', T', sb1, k1, k2, k3, k3', k4, k5⟩ := g5
  obtain ⟨-, e3⟩ := la_yN rfl hR1 k4 e2
  have := kk z sh' n' T' H1 Lc k1 ⟨⟨hsh, k2, hn, k3, hv, k3'⟩, wC, X1, tys ++ tys1, sbC, sb1, la_Psw g1, la_Dsw g2, la_Kapp hK g3, g4, la_wst la_tl hC1, la_wst la_tr k4, k5, hbC, by rw [e3]; exact hbR, hT⟩
  rw [h0.1, h0.2]
  exact this
/-- a call of the class that makes no cells -/
theorem la_clN {md : ai_MD} {bC bR sh shR idx : Nat} {n nR : Nat → Int} {xs : List Int32} {rest : List Value} {T TR : Nat → Nat → Int} {Ψ : Int32 → (Nat → Int) → (Nat → Int) → Prop} (cx : la_cx p s m args c R own cc) (hI : la_J D s bC bR sh n T shR nR TR H locs) (hf : pf_ok md xs.length) (h0 : md.2.2.2.2.2.2.1.cells = 0 ∧ md.2.2.2.2.2.2.1.slots = 0) (hcl : RX9 = md.2.1.cls) (hlk : Jvm.Cond.methodLink own idx md.2.1 ∈ ai_tb) (hls : ls.size = 4) (hcs : cs ≤ R.cells ∧ ss ≤ R.slots) (hcat : (rest.map fun v => v.category).sum ≤ 8) (hdg : decode cc pc = .ok (.invokevirtual idx, 3))
    (hM : ∀ (sb : ai_SB) (ws : va_W) (tys : List (ClassId × FieldType)), (ws.map Prod.fst)[0]? = some bC → ai_ws (nv n) sb tys zz_WN ws → tx_cl (t_M ws 1) (n 2) (n 3) (n 4) (T 0) → la_Mt md l D ws tys (.ref bC :: xs.map .int) H.size (fun z ws1 tys1 => ∃ (n' : Nat → Int) (R' : Nat → Int) (sb1 : ai_SB), Ψ z n' R' ∧ (∀ t, 6 ≤ t → t < 18 → n' t = n t) ∧ ai_gok (nv n') nv_G ∧ tvx n' R' ∧ sb1.2 0 = sb.2 0 ∧ ai_ws (nv n') sb1 tys1 zz_WN ws1 ∧ tx_cl (t_M ws1 1) (n' 2) (n' 3) (n' 4) R'))
    (kk : ∀ (z : Int32) (n' : Nat → Int) (R' : Nat → Int) (H1 : Heap) (Lc : List Loc), Ψ z n' R' → la_J D s bC bR sh n' (tup T R') shR nR TR H1 (locs ++ Lc) → W p l e R s m args below meth c H1 (locs ++ Lc) cs ss Q (F0 m (pc + 3) ls (.int z :: rest))) : W p l e R s m args below meth c H locs cs ss Q (F0 m pc ls ((xs.map Value.int).reverse ++ .ref bC :: rest)) := by
  obtain ⟨⟨hsh, hshR, hn, hnR, hv, hvR⟩, wC, wR, tys, sbC, sbR, hP, hD, hK, hS, hC1, hR1, hr, hbC, hbR, hT⟩ := hI
  obtain ⟨f1, f2, f3, f4⟩ := hf
  obtain ⟨e25, ht, h25⟩ := la_tkN hsh hC1
  have hb0 : ((wC.take 72).map Prod.fst)[0]? = some bC := by
    rw [List.map_take, List.getElem?_take_of_lt (by decide)]
    exact hbC
  have ht0 := ht (0, fun _ => e25) rfl
  have hT0 : tx_cl (t_M (wC.take 72) 1) (n 2) (n 3) (n 4) (T 0) := by
    have e : ∀ c, c < 72 → t_M (wC.take 72) 1 c = t_M wC 1 c := fun c hc => bg_eqk (List.getElem?_take_of_lt (by omega))
    refine ⟨?_, ?_⟩
    · have e2 : cQ (t_M (wC.take 72) 1) = cQ (t_M wC 1) := by
        funext j
        unfold cQ
        rw [e 17 (by decide), e 19 (by decide), e 23 (by decide)]
      rw [e2]
      exact hT.1.1
    · rw [e 24 (by decide)]
      exact hT.1.2
  obtain ⟨vs, hev⟩ := la_hdN ht0 (ci := 9) rfl hb0
  have esp : wC ++ wR = wC.take 72 ++ (wC.drop 72 ++ wR) := by rw [← List.append_assoc, List.take_append_drop]
  rw [esp] at hP hD
  refine la_call (md := md) (X := wC.take 72) (Y := wC.drop 72 ++ wR) (ci := 9) (q9 := (RX9, TX9, 9)) cx f1 f2 f3 f4 hlk hls hP hD hK hS hev rfl hcl (hM (0, fun _ => e25) (wC.take 72) tys hb0 ht0 hT0) (by rw [h0.1, h0.2]; exact hcs) hcat hdg ?_
  intro z X1 tys1 y H1 Lc e2 g1 g2 g3 g4 g5
  obtain ⟨n', R', sb1, k1, k2, k3, k3', ks, k4, kT⟩ := g5
  obtain ⟨-, e3⟩ := la_yN rfl ht0 k4 e2
  have hρ : ∀ t, 6 ≤ t → t < 18 → nv n' t = nv n t := fun t h6 h18 => by rw [nv_lt (by omega), nv_lt (by omega), k2 t h6 h18]
  obtain ⟨g6, g7⟩ := la_bkN hρ hsh hC1 h25 ks k4 e3
  rw [← List.append_assoc] at g1 g2
  have hX : X1.length = 72 := by rw [← k4.1]; exact (la_lnN (sh := sh)).1
  have h72 : 72 ≤ wC.length := by rw [← hC1.1]; exact la_lnN.2
  have := kk z n' R' H1 Lc k1 ⟨⟨hsh, hshR, k3, hnR, tvA_up k2 hv k3', hvR⟩, X1 ++ wC.drop 72, wR, tys ++ tys1, sbC, sbR, g1, g2, la_Kapp hK g3, g4, g6, la_wst la_tl hR1, lr_Jt la_tl hr, by rw [g7]; exact hbC, hbR, tC_bk hX h72 k2 hT kT⟩
  rw [h0.1, h0.2]
  exact this
/-- image, back of the class -/
theorem la_imN {md : ai_MD} {bC bR sh shR sh' idx : Nat} {n nR n' : Nat → Int} {T TR T' : Nat → Nat → Int} {Z : Int} {x : Int32} {rest : List Value} (cx : la_cx p s m args c R own cc) (hI : la_J D s bC bR sh n T shR nR TR H locs) (hf : pf_ok md 1) (hcl : RX9 = md.2.1.cls) (hlk : Jvm.Cond.methodLink own idx md.2.1 ∈ ai_tb) (hls : ls.size = 4) (hcs : cs + md.2.2.2.2.2.2.1.cells ≤ R.cells ∧ ss + md.2.2.2.2.2.2.1.slots ≤ R.slots) (hcat : (rest.map fun v => v.category).sum ≤ 8) (hdg : decode cc pc = .ok (.invokevirtual idx, 3)) (hs' : sh' < 5) (hn' : ai_gok (nv n') nv_G) (hv' : tvA sh' n' T')
    (hM : ∀ (sb : ai_SB) (ws : va_W) (tys : List (ClassId × FieldType)), (ws.map Prod.fst)[0]? = some bC → ai_ws (nv n) sb tys (iN sh) ws → tC ws sh n T → la_Mt md l D ws tys (.ref bC :: [x].map .int) H.size (fun z ws1 tys1 => z.toInt = Z ∧ (∃ sb1 : ai_SB, ai_ws (nv n') sb1 tys1 (iN sh') ws1) ∧ tC ws1 sh' n' T'))
    (kk : ∀ (z : Int32) (H1 : Heap) (Lc : List Loc), z.toInt = Z → la_J D s bC bR sh' n' T' shR nR TR H1 (locs ++ Lc) → W p l e R s m args below meth c H1 (locs ++ Lc) (cs + md.2.2.2.2.2.2.1.cells) (ss + md.2.2.2.2.2.2.1.slots) Q (F0 m (pc + 3) ls (.int z :: rest))) : W p l e R s m args below meth c H locs cs ss Q (F0 m pc ls ([.int x] ++ .ref bC :: rest)) := by
  obtain ⟨⟨hsh, hshR, hn, hnR, hv, hvR⟩, wC, wR, tys, sbC, sbR, hP, hD, hK, hS, hC1, hR1, hr, hbC, hbR, hT⟩ := hI
  obtain ⟨f1, f2, f3, f4⟩ := hf
  have hW0 : ∃ fs, (iN sh)[0]? = some (.inl (9, fs)) := by
    unfold iN
    split <;> exact ⟨_, rfl⟩
  obtain ⟨fs0, hW0⟩ := hW0
  obtain ⟨vs, hev⟩ := la_hdN hC1 hW0 hbC
  refine la_call (md := md) (xs := [x]) (X := wC) (Y := wR) (ci := 9) (q9 := (RX9, TX9, 9)) cx f1 f2 f3 f4 hlk hls hP hD hK hS hev rfl hcl (hM sbC wC tys hbC hC1 hT) hcs hcat hdg ?_
  intro z X1 tys1 y H1 Lc e2 g1 g2 g3 g4 g5
  obtain ⟨k1, ⟨sb1, k2⟩, k3⟩ := g5
  refine kk z H1 Lc k1 ⟨⟨hs', hshR, hn', hnR, hv', hvR⟩, X1, wR, tys ++ tys1, sb1, sbR, g1, g2, la_Kapp hK g3, g4, la_wst la_tr k2, la_wst la_tl hR1, lr_Jt la_tl hr, ?_, hbR, k3⟩
  rw [e2, List.getElem?_append_left (List.getElem?_eq_some_iff.mp hbC).1]
  exact hbC
end LAN
