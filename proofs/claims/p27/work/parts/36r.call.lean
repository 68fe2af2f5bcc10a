/-! ===== the law with counts: worlds that tell tokens, side by side ===== -/
def la_wv (lo hi m : Nat) (v : ai_V) : Bool := v.1 == 0 || (v.1 == 1 || (v.1 == 5 || ((v.1 == 4 && Nat.blt v.2.1 m) || (v.1 == 2 && (Nat.ble lo v.2.1 && Nat.blt v.2.1 hi)))))
def la_wc (lo hi m : Nat) (c : ai_C) : Bool := match c with
  | .inl (_, fs) => fs.all (la_wv lo hi m)
  | .inr (t, _, d, ov) => Nat.blt t 4 && (la_wv lo hi m d && ov.all (fun q => la_wv lo hi m q.2))
theorem la_wvm {ρ ρ' : ai_Rh} {sb sb' : ai_SB} {ad ad' : List Nat} {lo hi m : Nat} (had : ∀ k, k < m → ad'[k]? = ad[k]?) (hρ : ∀ t, lo ≤ t → t < hi → ρ' t = ρ t) {v : ai_V} {u : Value} (h : la_wv lo hi m v = true) (hm : ai_mt ρ sb ad v u) : ai_mt ρ' sb' ad' v u := by
  obtain ⟨n, t, a, b⟩ := v
  unfold la_wv at h
  simp only [Bool.or_eq_true, Bool.and_eq_true, beq_iff_eq] at h
  rcases h with rfl | rfl | rfl | ⟨rfl, h⟩ | ⟨rfl, h, h'⟩
  · exact hm
  · exact hm
  · exact hm
  · obtain ⟨q, h1, h2⟩ := hm
    exact ⟨q, by rw [had _ (Nat.le_of_ble_eq_true h)]; exact h1, h2⟩
  · obtain ⟨x, z, h1, h2, h3⟩ := hm
    exact ⟨x, z, h1, by rw [hρ _ (Nat.le_of_ble_eq_true h) (Nat.le_of_ble_eq_true h')]; exact h2, h3⟩
theorem la_wv10 {lo hi m : Nat} {v : ai_V} (h : la_wv lo hi m v = true) : ¬ v.1 = 10 := by
  intro e
  unfold la_wv at h
  rw [e] at h
  simp at h
theorem la_wcm {ρ ρ' : ai_Rh} {sb sb' : ai_SB} {ad ad' : List Nat} {tys : List (ClassId × FieldType)} {lo hi m : Nat} (had : ∀ k, k < m → ad'[k]? = ad[k]?) (hρ : ∀ t, lo ≤ t → t < hi → ρ' t = ρ t) {c : ai_C} {e : va_E} (h : la_wc lo hi m c = true) (hm : ai_mc ρ sb ad tys c e) : ai_mc ρ' sb' ad' tys c e := by
  have el : ∀ {d : ai_V} {ov : List (Nat × ai_V)} {j : Nat} {v : Value}, la_wv lo hi m d = true → ov.all (fun q => la_wv lo hi m q.2) = true → ai_el ρ sb ad j (ai_look d ov j) v → ai_el ρ' sb' ad' j (ai_look d ov j) v := by
    intro d ov j v hd ho hm
    have hl : la_wv lo hi m (ai_look d ov j) = true := by
      rcases bh_lk (d := d) ov j with ⟨q, hq, -, e⟩ | e
      · rw [e]
        exact List.all_eq_true.mp ho q hq
      · rw [e]
        exact hd
    exact ai_el.of (la_wvm had hρ hl (hm.to (la_wv10 hl)))
  rcases c with ⟨ci, fs⟩ | ⟨t, n, d, ov⟩
  · obtain ⟨vs, h1, h2⟩ := hm
    refine ⟨vs, h1, ?_⟩
    have key : ∀ {fs : List ai_V} {vs : List Value}, fs.all (la_wv lo hi m) = true → ai_F2 (ai_mt ρ sb ad) fs vs → ai_F2 (ai_mt ρ' sb' ad') fs vs := by
      intro fs
      induction fs with
      | nil =>
        intro vs _ h
        rw [h.nil]
        trivial
      | cons f r ih =>
        intro vs ha h
        obtain ⟨u, us, rfl, g1, g2⟩ := h.cons
        rw [List.all_cons, Bool.and_eq_true] at ha
        exact ⟨la_wvm had hρ ha.1 g1, ih ha.2 g2⟩
    exact key h h2
  · have h' : (Nat.blt t 4 && (la_wv lo hi m d && ov.all (fun q => la_wv lo hi m q.2))) = true := h
    rw [Bool.and_eq_true, Bool.and_eq_true] at h'
    obtain ⟨h4, hd, ho⟩ := h'
    match t, h4, hm with
    | 0, _, hm =>
      obtain ⟨cA, f, t0, h1, h2, h3, h5⟩ := hm
      exact ⟨cA, f, t0, h1, h2, fun j hj => el hd ho (h3 j hj), h5⟩
    | 1, _, hm =>
      obtain ⟨cA, f, t0, h1, h2, h3⟩ := hm
      exact ⟨cA, f, t0, h1, h2, fun j hj => el hd ho (h3 j hj)⟩
    | 2, _, hm =>
      obtain ⟨cA, f, t0, h1, h2, h3⟩ := hm
      exact ⟨cA, f, t0, h1, h2, fun j hj => el hd ho (h3 j hj)⟩
    | 3, _, hm =>
      obtain ⟨cA, f, t0, h1, h2, h3⟩ := hm
      exact ⟨cA, f, t0, h1, h2, fun j hj => el hd ho (h3 j hj)⟩
    | t + 4, h4, _ => exact absurd (Nat.le_of_ble_eq_true h4) (by omega)
/-- the class's own cells apart from its images -/
def la_sn (sh k : Nat) : Bool := k == 25 || (match (iN sh)[k]?, zz_WN[k]? with
  | some (.inl (i, fs)), some (.inl (i', fs')) => i == i' && (fs == fs' && la_wc 0 1000 72 (.inl (i, fs)))
  | some (.inr q), some (.inr q') => q == q' && la_wc 0 1000 72 (.inr q)
  | _, _ => false)
theorem la_sna : (List.range 5).all (fun sh => (List.range 72).all (la_sn sh)) = true := by decide +kernel
theorem la_snk {sh k : Nat} (hs : sh < 5) (hk : k < 72) (h25 : ¬ k = 25) : ∃ c, (iN sh)[k]? = some c ∧ zz_WN[k]? = some c ∧ la_wc 0 1000 72 c = true := by
  have h := List.all_eq_true.mp (List.all_eq_true.mp la_sna sh (List.mem_range.mpr hs)) k (List.mem_range.mpr hk)
  unfold la_sn at h
  rw [beq_eq_false_iff_ne.mpr h25, Bool.false_or] at h
  split at h
  · rename_i i fs i' fs' h1 h2
    simp only [Bool.and_eq_true, beq_iff_eq] at h
    obtain ⟨rfl, rfl, h3⟩ := h
    exact ⟨_, h1, h2, h3⟩
  · rename_i q q' h1 h2
    simp only [Bool.and_eq_true, beq_iff_eq] at h
    obtain ⟨rfl, h3⟩ := h
    exact ⟨_, h1, h2, h3⟩
  · cases h
/-- the images' cells tell no live count -/
def la_s6 (sh k : Nat) : Bool := match (iN sh)[k]? with
  | some c => la_wc 6 18 1000 c
  | none => true
theorem la_s6a : (List.range 5).all (fun sh => la_s6 sh 25 && (List.range 200).all (fun k => Nat.blt k 72 || la_s6 sh k)) = true := by decide +kernel
theorem la_s6k {sh k : Nat} {c : ai_C} (hs : sh < 5) (hk : k = 25 ∨ 72 ≤ k) (hc : (iN sh)[k]? = some c) : la_wc 6 18 1000 c = true := by
  have h := List.all_eq_true.mp la_s6a sh (List.mem_range.mpr hs)
  rw [Bool.and_eq_true] at h
  have g : la_s6 sh k = true := by
    rcases hk with rfl | hk
    · exact h.1
    · have hl : (iN sh).length ≤ 200 := by
        unfold iN
        split <;> decide +kernel
      have hk2 := (List.getElem?_eq_some_iff.mp hc).1
      have := List.all_eq_true.mp h.2 k (List.mem_range.mpr (by omega))
      rw [Bool.or_eq_true] at this
      rcases this with h | h
      · have : k < 72 := Nat.le_of_ble_eq_true h
        omega
      · exact h
  unfold la_s6 at g
  rw [hc] at g
  exact g
theorem la_lnN {sh : Nat} : zz_WN.length = 72 ∧ 72 ≤ (iN sh).length := by
  refine ⟨by decide +kernel, ?_⟩
  unfold iN
  split <;> decide +kernel
theorem la_tkN {ρ : ai_Rh} {sb : ai_SB} {tys : List (ClassId × FieldType)} {sh : Nat} {wC : va_W} (hs : sh < 5) (h : ai_ws ρ sb tys (iN sh) wC) : ∃ e25 : va_E, ai_ws ρ (0, fun _ => e25) tys zz_WN (wC.take 72) ∧ (∃ a, wC[25]? = some (a, e25)) := by
  have hl : 72 ≤ wC.length := by rw [← h.1]; exact la_lnN.2
  obtain ⟨⟨a, e25⟩, h25⟩ : ∃ q, wC[25]? = some q := ⟨_, List.getElem?_eq_getElem (by omega)⟩
  refine ⟨e25, ⟨?_, fun k c hk => ?_⟩, a, h25⟩
  · rw [List.length_take, (la_lnN (sh := sh)).1]
    omega
  · have hk72 : k < 72 := by
      have := (List.getElem?_eq_some_iff.mp hk).1
      rw [(la_lnN (sh := sh)).1] at this
      exact this
    have tk : (wC.take 72)[k]? = wC[k]? := List.getElem?_take_of_lt hk72
    by_cases e : k = 25
    · subst e
      refine ⟨(a, e25), by rw [tk]; exact h25, ?_⟩
      have : zz_WN[25]? = some (.inr (5, 0, (5, 0, 0, 0), [])) := rfl
      rw [this] at hk
      cases hk
      rfl
    · obtain ⟨c', g1, g2, g3⟩ := la_snk hs hk72 e
      rw [hk] at g2
      cases g2
      obtain ⟨q, h1, h2⟩ := h.2 k c g1
      refine ⟨q, by rw [tk]; exact h1, la_wcm (fun i hi => ?_) (fun _ _ _ => rfl) g3 h2⟩
      rw [List.map_take, List.getElem?_take_of_lt hi]
/-- the images' cells are as they were, and so is what they tell -/
theorem la_bkN {ρ ρ' : ai_Rh} {sb : ai_SB} {tys tys1 : List (ClassId × FieldType)} {sh : Nat} {wC X1 : va_W} {e25 : va_E} (hρ : ∀ t, 6 ≤ t → t < 18 → ρ' t = ρ t) (hs : sh < 5) (h : ai_ws ρ sb tys (iN sh) wC) (h25 : ∃ a, wC[25]? = some (a, e25)) (h1 : ai_ws ρ' (0, fun _ => e25) tys1 zz_WN X1) (e : X1.map Prod.fst = (wC.take 72).map Prod.fst) : ai_ws ρ' sb (tys ++ tys1) (iN sh) (X1 ++ wC.drop 72) ∧ (X1 ++ wC.drop 72).map Prod.fst = wC.map Prod.fst := by
  have hl : 72 ≤ wC.length := by rw [← h.1]; exact la_lnN.2
  have hX : X1.length = 72 := by rw [← h1.1]; exact (la_lnN (sh := sh)).1
  have em : (X1 ++ wC.drop 72).map Prod.fst = wC.map Prod.fst := by
    rw [List.map_append, e, ← List.map_append, List.take_append_drop]
  refine ⟨⟨?_, fun k c hk => ?_⟩, em⟩
  · rw [List.length_append, hX, List.length_drop, h.1]
    omega
  · rw [em]
    by_cases hk72 : k < 72
    · have ap : (X1 ++ wC.drop 72)[k]? = X1[k]? := List.getElem?_append_left (by omega)
      rw [ap]
      by_cases e9 : k = 25
      · subst e9
        obtain ⟨a, ha⟩ := h25
        obtain ⟨q, q1, q2⟩ := h1.2 25 (.inr (5, 0, (5, 0, 0, 0), [])) rfl
        obtain ⟨r, r1, r2⟩ := h.2 25 c hk
        rw [ha] at r1
        cases r1
        have q2' : q.2 = e25 := q2
        exact ⟨q, q1, by rw [q2']; exact la_mct la_tl (la_wcm (fun _ _ => rfl) hρ (la_s6k hs (Or.inl rfl) hk) r2)⟩
      · obtain ⟨c', g1, g2, g3⟩ := la_snk hs hk72 e9
        rw [hk] at g1
        cases g1
        obtain ⟨q, q1, q2⟩ := h1.2 k c g2
        refine ⟨q, q1, la_mct la_tr (la_wcm (fun i hi => ?_) (fun _ _ _ => rfl) g3 q2)⟩
        rw [e, List.map_take, List.getElem?_take_of_lt hi]
    · obtain ⟨q, q1, q2⟩ := h.2 k c hk
      refine ⟨q, ?_, la_mct la_tl (la_wcm (fun _ _ => rfl) hρ (la_s6k hs (Or.inr (by omega)) hk) q2)⟩
      rw [List.getElem?_append_right (by omega), hX, List.getElem?_drop, show 72 + (k - 72) = k by omega]
      exact q1
/-! what the law's loop keeps -/
def pl (t : Nat) : Nat := match t with
  | 0 => 0
  | 1 => 3
  | 2 => 4
  | 3 => 5
  | 4 => 6
  | _ => 7
/-- the reference's images: there as the shape says, rows as they must be, their counts -/
def lr_J (sb : ai_SB) (tys : List (ClassId × FieldType)) (sh : Nat) (n : Nat → Int) : Prop := ∃ (cA : ClassId) (f2 : Nat → Int32) (t0 : Nat) (cB : ClassId) (f3 : Nat → Int32) (t1 : Nat), sb.2 0 = .inl (cA, 46032, .inl f2) ∧ tys[t0]? = some (cA, .int) ∧ sb.2 1 = .inl (cB, 2, .inl f3) ∧ tys[t1]? = some (cB, .boolean) ∧ ∀ i, i < 2 → (ib_p sh i = true ↔ ¬ (f3 i).toInt = 0) ∧ (ib_p sh i = true → ro (fun j => (f2 (23016 * i + j)).toInt) ∧ ∀ t, t < 6 → (f2 (23016 * i + pl t)).toInt = n (6 + 6 * i + t))
theorem lr_Jt {sb : ai_SB} {tys tys' : List (ClassId × FieldType)} {sh : Nat} {n : Nat → Int} (ht : ∀ (k : Nat) (q : ClassId × FieldType), tys[k]? = some q → ∃ k' : Nat, tys'[k']? = some q) (h : lr_J sb tys sh n) : lr_J sb tys' sh n := by
  obtain ⟨cA, f2, t0, cB, f3, t1, h1, h2, h3, h4, h5⟩ := h
  obtain ⟨a, ha⟩ := ht _ _ h2
  obtain ⟨b, hb⟩ := ht _ _ h4
  exact ⟨cA, f2, a, cB, f3, b, h1, ha, h3, hb, h5⟩
theorem lr_Jn {sb : ai_SB} {tys : List (ClassId × FieldType)} {sh : Nat} {n n' : Nat → Int} (hn : ∀ t, 6 ≤ t → t < 18 → n' t = n t) (h : lr_J sb tys sh n) : lr_J sb tys sh n' := by
  obtain ⟨cA, f2, t0, cB, f3, t1, h1, h2, h3, h4, h5⟩ := h
  refine ⟨cA, f2, t0, cB, f3, t1, h1, h2, h3, h4, fun i hi => ⟨(h5 i hi).1, fun hp => ⟨((h5 i hi).2 hp).1, fun t ht => ?_⟩⟩⟩
  rw [((h5 i hi).2 hp).2 t ht, hn _ (by omega) (by omega)]
def la_J (D : va_G) (s : State) (bC bR sh : Nat) (n : Nat → Int) (shR : Nat) (nR : Nat → Int) (H : Heap) (locs : List Loc) : Prop := (sh < 5 ∧ shR < 5 ∧ ai_gok (nv n) nv_G ∧ ai_gok (nv nR) nv_G) ∧ ∃ (wC wR : va_W) (tys : List (ClassId × FieldType)) (sbC sbR : ai_SB), va_P D vwCl (wC ++ wR) H ∧ va_D (lw_A s) (wC ++ wR) ∧ va_K D vwCl tys s ∧ va_S (lw_A s) s.heap H locs ∧ ai_ws (nv n) sbC tys (iN sh) wC ∧ ai_ws (nv nR) sbR tys ny_WN wR ∧ lr_J sbR tys shR nR ∧ (wC.map Prod.fst)[0]? = some bC ∧ (wR.map Prod.fst)[0]? = some bR
theorem la_yN {ρ ρ1 : ai_Rh} {sb : ai_SB} {tys : List (ClassId × FieldType)} {W W1 : ai_W} {X X1 : va_W} {y : List Nat} {tys1 : List (ClassId × FieldType)} {sb1 : ai_SB} (hW : W.length = W1.length) (h : ai_ws ρ sb tys W X) (h1 : ai_ws ρ1 sb1 tys1 W1 X1) (e : X1.map Prod.fst = X.map Prod.fst ++ y) : y = [] ∧ X1.map Prod.fst = X.map Prod.fst := by
  have hl := congrArg List.length e
  rw [List.length_append, List.length_map, List.length_map, ← h.1, ← h1.1] at hl
  have : y = [] := List.length_eq_zero_iff.mp (by omega)
  subst this
  exact ⟨rfl, by rw [e, List.append_nil]⟩
theorem la_hdN {ρ : ai_Rh} {sb : ai_SB} {tys : List (ClassId × FieldType)} {W : ai_W} {X : va_W} {b ci : Nat} {fs : List ai_V} (h : ai_ws ρ sb tys W X) (hW : W[0]? = some (.inl (ci, fs))) (hb : (X.map Prod.fst)[0]? = some b) : ∃ vs, X[0]? = some (b, .inr (ci, vs)) := by
  obtain ⟨q, h1, vs, h2, -⟩ := h.2 0 _ hW
  rw [List.getElem?_map, h1] at hb
  cases hb
  exact ⟨vs, by rw [h1, ← h2]⟩
abbrev la_Mt (md : ai_MD) (l : Launch) (D : va_G) (ws : va_W) (tys : List (ClassId × FieldType)) (vs : List Value) (sz : Nat) (Φ : Int32 → va_W → List (ClassId × FieldType) → Prop) : Prop := Met l md.2.1 (Jvm.Cond.code md.2.1 md.2.2.1 md.2.2.2.1 md.2.2.2.2.1 :: ai_tb) md.2.2.2.2.2.2.1 (ai_Pc D ws tys vs sz) (la_G D ws Φ (va_A ws sz)) md.2.2.2.2.2.2.1.cells md.2.2.2.2.2.2.1.slots (va_A ws sz)
/-- what the law asks of a method's face -/
def pf_ok (md : ai_MD) (k : Nat) : Prop := ai_mok md ∧ md.2.2.2.2.2.2.2 = 0 ∧ (md.2.2.2.2.2.2.1.frames ≤ 2000 ∧ md.2.2.2.2.2.2.1.locals ≤ 30000 ∧ md.2.2.2.1 ≤ 100) ∧ md.2.2.2.2.2.1 = k
section LAN
variable {p : Program} {l : Launch} {e : Env} {R : Room} {s : State} {m : MethodId} {args : Array Value} {below : List Frame} {meth : Method} {c : Code} {H : Heap} {locs : List Loc} {cs ss : Nat} {Q : State → Prop} {D : va_G} {own : String} {cc : ByteArray} {ls : Array Slot} {pc : Nat}
/-- a call of the reference: its world under its counts before and behind -/
theorem la_rfN {md : ai_MD} {bC bR sh shR idx : Nat} {n nR : Nat → Int} {xs : List Int32} {rest : List Value} {Ψ : Int32 → Nat → (Nat → Int) → Prop} (cx : la_cx p s m args c R own cc) (hI : la_J D s bC bR sh n shR nR H locs) (hf : pf_ok md xs.length) (h0 : md.2.2.2.2.2.2.1.cells = 0 ∧ md.2.2.2.2.2.2.1.slots = 0) (hcl : RX10 = md.2.1.cls) (hlk : Jvm.Cond.methodLink own idx md.2.1 ∈ ai_tb) (hls : ls.size = 4) (hcs : cs ≤ R.cells ∧ ss ≤ R.slots) (hcat : (rest.map fun v => v.category).sum ≤ 8) (hdg : decode cc pc = .ok (.invokevirtual idx, 3))
    (hM : ∀ (sb : ai_SB) (ws : va_W) (tys : List (ClassId × FieldType)), (ws.map Prod.fst)[0]? = some bR → ai_ws (nv nR) sb tys ny_WN ws → lr_J sb tys shR nR → la_Mt md l D ws tys (.ref bR :: xs.map .int) H.size (fun z ws1 tys1 => ∃ (sh' : Nat) (n' : Nat → Int) (sb1 : ai_SB), Ψ z sh' n' ∧ sh' < 5 ∧ ai_gok (nv n') nv_G ∧ ai_ws (nv n') sb1 tys1 ny_WN ws1 ∧ lr_J sb1 (tys ++ tys1) sh' n'))
    (kk : ∀ (z : Int32) (sh' : Nat) (n' : Nat → Int) (H1 : Heap) (Lc : List Loc), Ψ z sh' n' → la_J D s bC bR sh n sh' n' H1 (locs ++ Lc) → W p l e R s m args below meth c H1 (locs ++ Lc) cs ss Q (F0 m (pc + 3) ls (.int z :: rest))) : W p l e R s m args below meth c H locs cs ss Q (F0 m pc ls ((xs.map Value.int).reverse ++ .ref bR :: rest)) := by
  obtain ⟨⟨hsh, hshR, hn, hnR⟩, wC, wR, tys, sbC, sbR, hP, hD, hK, hS, hC1, hR1, hr, hbC, hbR⟩ := hI
  obtain ⟨f1, f2, f3, f4⟩ := hf
  obtain ⟨vs, hev⟩ := la_hdN hR1 (ci := 10) rfl hbR
  refine la_call (md := md) (X := wR) (Y := wC) (ci := 10) (q9 := (RX10, TX10, 62)) cx f1 f2 f3 f4 hlk hls (la_Psw hP) (la_Dsw hD) hK hS hev rfl hcl (hM sbR wR tys hbR hR1 hr) (by rw [h0.1, h0.2]; exact hcs) hcat hdg ?_
  intro z X1 tys1 y H1 Lc e2 g1 g2 g3 g4 g5
  obtain ⟨sh', n', sb1, k1, k2, k3, k4, k5⟩ := g5
  obtain ⟨-, e3⟩ := la_yN rfl hR1 k4 e2
  have := kk z sh' n' H1 Lc k1 ⟨⟨hsh, k2, hn, k3⟩, wC, X1, tys ++ tys1, sbC, sb1, la_Psw g1, la_Dsw g2, la_Kapp hK g3, g4, la_wst la_tl hC1, la_wst la_tr k4, k5, hbC, by rw [e3]; exact hbR⟩
  rw [h0.1, h0.2]
  exact this
/-- a call of the class that makes no cells -/
theorem la_clN {md : ai_MD} {bC bR sh shR idx : Nat} {n nR : Nat → Int} {xs : List Int32} {rest : List Value} {Ψ : Int32 → (Nat → Int) → Prop} (cx : la_cx p s m args c R own cc) (hI : la_J D s bC bR sh n shR nR H locs) (hf : pf_ok md xs.length) (h0 : md.2.2.2.2.2.2.1.cells = 0 ∧ md.2.2.2.2.2.2.1.slots = 0) (hcl : RX9 = md.2.1.cls) (hlk : Jvm.Cond.methodLink own idx md.2.1 ∈ ai_tb) (hls : ls.size = 4) (hcs : cs ≤ R.cells ∧ ss ≤ R.slots) (hcat : (rest.map fun v => v.category).sum ≤ 8) (hdg : decode cc pc = .ok (.invokevirtual idx, 3))
    (hM : ∀ (sb : ai_SB) (ws : va_W) (tys : List (ClassId × FieldType)), (ws.map Prod.fst)[0]? = some bC → ai_ws (nv n) sb tys zz_WN ws → la_Mt md l D ws tys (.ref bC :: xs.map .int) H.size (fun z ws1 tys1 => ∃ n' : Nat → Int, Ψ z n' ∧ (∀ t, 6 ≤ t → t < 18 → n' t = n t) ∧ ai_gok (nv n') nv_G ∧ ai_ws (nv n') sb tys1 zz_WN ws1))
    (kk : ∀ (z : Int32) (n' : Nat → Int) (H1 : Heap) (Lc : List Loc), Ψ z n' → la_J D s bC bR sh n' shR nR H1 (locs ++ Lc) → W p l e R s m args below meth c H1 (locs ++ Lc) cs ss Q (F0 m (pc + 3) ls (.int z :: rest))) : W p l e R s m args below meth c H locs cs ss Q (F0 m pc ls ((xs.map Value.int).reverse ++ .ref bC :: rest)) := by
  obtain ⟨⟨hsh, hshR, hn, hnR⟩, wC, wR, tys, sbC, sbR, hP, hD, hK, hS, hC1, hR1, hr, hbC, hbR⟩ := hI
  obtain ⟨f1, f2, f3, f4⟩ := hf
  obtain ⟨e25, ht, h25⟩ := la_tkN hsh hC1
  have hb0 : ((wC.take 72).map Prod.fst)[0]? = some bC := by
    rw [List.map_take, List.getElem?_take_of_lt (by decide)]
    exact hbC
  obtain ⟨vs, hev⟩ := la_hdN ht (ci := 9) rfl hb0
  have esp : wC ++ wR = wC.take 72 ++ (wC.drop 72 ++ wR) := by rw [← List.append_assoc, List.take_append_drop]
  rw [esp] at hP hD
  refine la_call (md := md) (X := wC.take 72) (Y := wC.drop 72 ++ wR) (ci := 9) (q9 := (RX9, TX9, 9)) cx f1 f2 f3 f4 hlk hls hP hD hK hS hev rfl hcl (hM (0, fun _ => e25) (wC.take 72) tys hb0 ht) (by rw [h0.1, h0.2]; exact hcs) hcat hdg ?_
  intro z X1 tys1 y H1 Lc e2 g1 g2 g3 g4 g5
  obtain ⟨n', k1, k2, k3, k4⟩ := g5
  obtain ⟨-, e3⟩ := la_yN rfl ht k4 e2
  have hρ : ∀ t, 6 ≤ t → t < 18 → nv n' t = nv n t := fun t h6 h18 => by rw [nv_lt (by omega), nv_lt (by omega), k2 t h6 h18]
  obtain ⟨g6, g7⟩ := la_bkN hρ hsh hC1 h25 k4 e3
  rw [← List.append_assoc] at g1 g2
  have := kk z n' H1 Lc k1 ⟨⟨hsh, hshR, k3, hnR⟩, X1 ++ wC.drop 72, wR, tys ++ tys1, sbC, sbR, g1, g2, la_Kapp hK g3, g4, g6, la_wst la_tl hR1, lr_Jt la_tl hr, by rw [g7]; exact hbC, hbR⟩
  rw [h0.1, h0.2]
  exact this
/-- image, back of the class -/
theorem la_imN {md : ai_MD} {bC bR sh shR sh' idx : Nat} {n nR n' : Nat → Int} {Z : Int} {x : Int32} {rest : List Value} (cx : la_cx p s m args c R own cc) (hI : la_J D s bC bR sh n shR nR H locs) (hf : pf_ok md 1) (hcl : RX9 = md.2.1.cls) (hlk : Jvm.Cond.methodLink own idx md.2.1 ∈ ai_tb) (hls : ls.size = 4) (hcs : cs + md.2.2.2.2.2.2.1.cells ≤ R.cells ∧ ss + md.2.2.2.2.2.2.1.slots ≤ R.slots) (hcat : (rest.map fun v => v.category).sum ≤ 8) (hdg : decode cc pc = .ok (.invokevirtual idx, 3)) (hs' : sh' < 5) (hn' : ai_gok (nv n') nv_G)
    (hM : ∀ (sb : ai_SB) (ws : va_W) (tys : List (ClassId × FieldType)), (ws.map Prod.fst)[0]? = some bC → ai_ws (nv n) sb tys (iN sh) ws → la_Mt md l D ws tys (.ref bC :: [x].map .int) H.size (fun z ws1 tys1 => z.toInt = Z ∧ ai_ws (nv n') sb tys1 (iN sh') ws1))
    (kk : ∀ (z : Int32) (H1 : Heap) (Lc : List Loc), z.toInt = Z → la_J D s bC bR sh' n' shR nR H1 (locs ++ Lc) → W p l e R s m args below meth c H1 (locs ++ Lc) (cs + md.2.2.2.2.2.2.1.cells) (ss + md.2.2.2.2.2.2.1.slots) Q (F0 m (pc + 3) ls (.int z :: rest))) : W p l e R s m args below meth c H locs cs ss Q (F0 m pc ls ([.int x] ++ .ref bC :: rest)) := by
  obtain ⟨⟨hsh, hshR, hn, hnR⟩, wC, wR, tys, sbC, sbR, hP, hD, hK, hS, hC1, hR1, hr, hbC, hbR⟩ := hI
  obtain ⟨f1, f2, f3, f4⟩ := hf
  have hW0 : ∃ fs, (iN sh)[0]? = some (.inl (9, fs)) := by
    unfold iN
    split <;> exact ⟨_, rfl⟩
  obtain ⟨fs0, hW0⟩ := hW0
  obtain ⟨vs, hev⟩ := la_hdN hC1 hW0 hbC
  refine la_call (md := md) (xs := [x]) (X := wC) (Y := wR) (ci := 9) (q9 := (RX9, TX9, 9)) cx f1 f2 f3 f4 hlk hls hP hD hK hS hev rfl hcl (hM sbC wC tys hbC hC1) hcs hcat hdg ?_
  intro z X1 tys1 y H1 Lc e2 g1 g2 g3 g4 g5
  refine kk z H1 Lc g5.1 ⟨⟨hs', hshR, hn', hnR⟩, X1, wR, tys ++ tys1, sbC, sbR, g1, g2, la_Kapp hK g3, g4, la_wst la_tr g5.2, la_wst la_tl hR1, lr_Jt la_tl hr, ?_, hbR⟩
  rw [e2, List.getElem?_append_left (List.getElem?_eq_some_iff.mp hbC).1]
  exact hbC
end LAN
