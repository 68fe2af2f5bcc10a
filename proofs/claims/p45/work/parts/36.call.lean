/-! ===== a call of the law's ===== -/
abbrev lw_A (s : State) : Nat → Prop := fun q => s.heap.size ≤ q
/-- the reference's images: whichever is kept is a row as it must be -/
def lr_I (sb : ai_SB) (tys : List (ClassId × FieldType)) : Prop := ∃ (cA : ClassId) (f2 : Nat → Int32) (t0 : Nat) (cB : ClassId) (f3 : Nat → Int32) (t1 : Nat), sb.2 0 = .inl (cA, 46032, .inl f2) ∧ tys[t0]? = some (cA, .int) ∧ sb.2 1 = .inl (cB, 2, .inl f3) ∧ tys[t1]? = some (cB, .boolean) ∧ ∀ i, i < 2 → ¬ (f3 i).toInt = 0 → ro (fun j => (f2 (23016 * i + j)).toInt)
theorem lr_It {sb : ai_SB} {tys tys' : List (ClassId × FieldType)} (ht : ∀ (k : Nat) (q : ClassId × FieldType), tys[k]? = some q → ∃ k' : Nat, tys'[k']? = some q) (h : lr_I sb tys) : lr_I sb tys' := by
  obtain ⟨cA, f2, t0, cB, f3, t1, h1, h2, h3, h4, h5⟩ := h
  obtain ⟨a, ha⟩ := ht _ _ h2
  obtain ⟨b, hb⟩ := ht _ _ h4
  exact ⟨cA, f2, a, cB, f3, b, h1, ha, h3, hb, h5⟩
def la_I (D : va_G) (s : State) (bC bR sh : Nat) (H : Heap) (locs : List Loc) : Prop := sh < 5 ∧ ∃ (wC wR : va_W) (tys : List (ClassId × FieldType)) (sbC sbR : ai_SB), va_P D vwCl (wC ++ wR) H ∧ va_D (lw_A s) (wC ++ wR) ∧ va_K D vwCl tys s ∧ va_S (lw_A s) s.heap H locs ∧ ai_ws la_e sbC tys (iB sh) wC ∧ ai_ws la_e sbR tys yz_WB wR ∧ lr_I sbR tys ∧ (wC.map Prod.fst)[0]? = some bC ∧ (wR.map Prod.fst)[0]? = some bR
section LAC
variable {p : Program} {l : Launch} {e : Env} {R : Room} {s : State} {m : MethodId} {args : Array Value} {below : List Frame} {meth : Method} {c : Code} {H : Heap} {locs : List Loc} {cs ss : Nat} {Q : State → Prop} {D : va_G} {own : String} {cc : ByteArray} {ls : Array Slot} {pc : Nat}
/-- what stands at the law's entry, for its calls -/
def la_cx (p : Program) (s : State) (m : MethodId) (args : Array Value) (c : Code) (R : Room) (own : String) (cc : ByteArray) : Prop := p.tables.exec = Jvm.exec ∧ c.code = cc ∧ c.maxLocals = 4 ∧ s.vm.findClass own = some m.cls ∧ (∀ w ∈ ai_tb, w.before args s = true) ∧ va_AO "FirstPolls$Land" s ∧ ai_nw s ∧ ai_sx (lw_A s) s s.heap ∧ R.frames = 2048 ∧ R.locals = 84000
def la_G (D : va_G) (ws : va_W) (Φ : Int32 → va_W → List (ClassId × FieldType) → Prop) (A : Nat → Prop) : Array Value → State → Outcome → State → Prop := fun _ st oc t => (∃ (z : Int32) (ws1 : va_W) (tys1 : List (ClassId × FieldType)) (y : List Nat), oc = .returned (some (.int z)) ∧ ws1.map Prod.fst = ws.map Prod.fst ++ y ∧ va_P D vwCl ws1 t.heap ∧ va_D A ws1 ∧ va_K D vwCl tys1 t ∧ Φ z ws1 tys1) ∧ va_F A st t
theorem la_call {md : ai_MD} {X Y : va_W} {tys : List (ClassId × FieldType)} {Φ : Int32 → va_W → List (ClassId × FieldType) → Prop} {xs : List Int32} {b ci idx : Nat} {fs : List Value} {q9 : vw_C} {rest : List Value} (cx : la_cx p s m args c R own cc) (hmo : ai_mok md) (hkd : md.2.2.2.2.2.2.2 = 0) (hrm : md.2.2.2.2.2.2.1.frames ≤ 2000 ∧ md.2.2.2.2.2.2.1.locals ≤ 30000 ∧ md.2.2.2.1 ≤ 100) (hnp : md.2.2.2.2.2.1 = xs.length) (hlk : Jvm.Cond.methodLink own idx md.2.1 ∈ ai_tb) (hls : ls.size = 4) (hP : va_P D vwCl (X ++ Y) H) (hD : va_D (lw_A s) (X ++ Y)) (hK : va_K D vwCl tys s) (hS : va_S (lw_A s) s.heap H locs) (hev : X[0]? = some (b, .inr (ci, fs))) (hq : vwCl[ci]? = some q9) (hq8 : q9.1 = md.2.1.cls) (hM : Met l md.2.1 (Jvm.Cond.code md.2.1 md.2.2.1 md.2.2.2.1 md.2.2.2.2.1 :: ai_tb) md.2.2.2.2.2.2.1 (ai_Pc D X tys (.ref b :: xs.map .int) H.size) (la_G D X Φ (va_A X H.size)) md.2.2.2.2.2.2.1.cells md.2.2.2.2.2.2.1.slots (va_A X H.size)) (hcs : cs + md.2.2.2.2.2.2.1.cells ≤ R.cells ∧ ss + md.2.2.2.2.2.2.1.slots ≤ R.slots) (hcat : (rest.map fun v => v.category).sum ≤ 8) (hdg : decode cc pc = .ok (.invokevirtual idx, 3))
    (kk : ∀ (z : Int32) (X1 : va_W) (tys1 : List (ClassId × FieldType)) (y : List Nat) (H1 : Heap) (Lc : List Loc), X1.map Prod.fst = X.map Prod.fst ++ y → va_P D vwCl (X1 ++ Y) H1 → va_D (lw_A s) (X1 ++ Y) → va_K D vwCl tys1 s → va_S (lw_A s) s.heap H1 (locs ++ Lc) → Φ z X1 tys1 → W p l e R s m args below meth c H1 (locs ++ Lc) (cs + md.2.2.2.2.2.2.1.cells) (ss + md.2.2.2.2.2.2.1.slots) Q (F0 m (pc + 3) ls (.int z :: rest))) : W p l e R s m args below meth c H locs cs ss Q (F0 m pc ls ((xs.map Value.int).reverse ++ .ref b :: rest)) := by
  obtain ⟨hx, hb, hml, hown, hts, hao, hnw, hsx, hRf, hRl⟩ := cx
  obtain ⟨m1, m2, m3, m4, m5, m6, m7, m8⟩ := hmo
  have hPX := la_Pl hP
  have hDX := la_Dl hD
  have hA : ∀ q, s.heap.size ≤ q → lw_A s q := fun _ h => h
  have hpre : PreV s H md.2.1.cls b (ai_Pc D X tys (.ref b :: xs.map .int) H.size) (xs.map .int) := ⟨ai_Pc_blind _ _ _ _ _, by rw [← hq8]; exact va_recv hK hPX hq hev, fun U hU hWm => ⟨rfl, by rw [hU], by rw [hU]; exact hPX, va_K.moved hWm.alike hK, hDX.weaken (fun _ _ _ _ => trivial), va_AO.moved hWm.alike hao, hnw.warm hWm, hsx.call hS hDX hA hU hWm⟩⟩
  have run : va_Run p l e R s m args below meth c H locs cs ss md.2.2.2.2.2.2.1.cells md.2.2.2.2.2.2.1.slots (F0 m pc ls ((xs.map Value.int).reverse ++ .ref b :: rest)) rest (la_G D X Φ (va_A X H.size) (.ref b :: xs.map Value.int).toArray) (va_A X H.size) :=
    va_runV (cc := cc) (nL := 4) (own := own) (Ts := ai_tb) ⟨hx, hb, hml, hown, hts⟩ hM ⟨callB_of md.2.2.2.2.2.1 hts (ai_good m3) rfl rfl rfl (hts _ m5) (hts _ hlk) m4 ⟨by rw [hRf]; omega, by rw [hRl]; omega⟩, hts _ (m6 hkd).1, hts _ (m6 hkd).2⟩ hpre rfl (by rw [List.length_map]; exact hnp.symm) hls rfl (by show 2 * 0 + _ ≤ 8; omega) hdg hcs
  refine ai_run run (fun v st t H1 Lc h0 h1 hv hq hL => ?_)
  obtain ⟨⟨z, X1, tys1, y, e1, e2, e3, e4, e5, e6⟩, hz, hk⟩ := hq
  cases e1
  rw [h0] at hz hk
  rw [h1] at hz hk e3
  obtain ⟨g1, g2⟩ := la_join (H0 := s.heap) (y := []) hP hD hA hS.1 e3 e4 hk
  refine kk z X1 tys1 y H1 Lc e2 g1 g2 (va_K.moved hv.symm e5) ⟨Nat.le_trans hS.1 hz, fun q a1 a2 => ?_, fun q g => ?_⟩ e6
  · rw [hk q (Nat.lt_of_lt_of_le a1 hS.1) (fun w => a2 (by
      rcases w with ⟨k, e9, w⟩ | w
      · exact hDX.2 k _ w
      · exact Nat.le_trans hS.1 w))]
    exact hS.2.1 q a1 a2
  · rcases List.mem_append.mp g with g | g
    · exact hS.2.2 q g
    · rcases hL q g with ⟨k, e9, w⟩ | w
      · exact hDX.2 k _ w
      · exact Nat.le_trans hS.1 w
theorem la_y {sb : ai_SB} {tys : List (ClassId × FieldType)} {W : ai_W} {X X1 : va_W} {y : List Nat} {tys1 : List (ClassId × FieldType)} {sb1 : ai_SB} (h : ai_ws la_e sb tys W X) (h1 : ai_ws la_e sb1 tys1 W X1) (e : X1.map Prod.fst = X.map Prod.fst ++ y) : y = [] ∧ X1.map Prod.fst = X.map Prod.fst := by
  have hl := congrArg List.length e
  rw [List.length_append, List.length_map, List.length_map, ← h.1, ← h1.1] at hl
  have : y = [] := List.length_eq_zero_iff.mp (by omega)
  subst this
  exact ⟨rfl, by rw [e, List.append_nil]⟩
theorem la_head {sb : ai_SB} {tys : List (ClassId × FieldType)} {W : ai_W} {X : va_W} {b ci : Nat} {fs : List ai_V} (h : ai_ws la_e sb tys W X) (hW : W[0]? = some (.inl (ci, fs))) (hb : (X.map Prod.fst)[0]? = some b) : ∃ vs, X[0]? = some (b, .inr (ci, vs)) := by
  obtain ⟨q, h1, vs, h2, -⟩ := h.2 0 _ hW
  rw [List.getElem?_map, h1] at hb
  cases hb
  exact ⟨vs, by rw [h1, ← h2]⟩
/-- a method of the reference that has room with no cells -/
theorem la_ref {K i bC bR sh idx : Nat} {xs : List Int32} {rest : List Value} (cx : la_cx p s m args c R own cc) (hI : la_I D s bC bR sh H locs) (hC : la_C (ai_sr' (ai_T K) (yz_ctf i).2.2.2.2.2.2) xs.length yz_WB yz_WB) (hmo : ai_mok (ai_T K)) (hkd : (ai_T K).2.2.2.2.2.2.2 = 0) (hrm : (yz_ctf i).2.2.2.2.2.2.frames ≤ 2000 ∧ (yz_ctf i).2.2.2.2.2.2.locals ≤ 30000 ∧ (ai_T K).2.2.2.1 ≤ 100) (h0 : (yz_ctf i).2.2.2.2.2.2.cells = 0 ∧ (yz_ctf i).2.2.2.2.2.2.slots = 0) (hnp : (ai_T K).2.2.2.2.2.1 = xs.length) (hcl : RX10 = (ai_T K).2.1.cls) (hlk : Jvm.Cond.methodLink own idx (ai_T K).2.1 ∈ ai_tb) (hls : ls.size = 4) (hcs : cs ≤ R.cells ∧ ss ≤ R.slots) (hcat : (rest.map fun v => v.category).sum ≤ 8) (hdg : decode cc pc = .ok (.invokevirtual idx, 3))
    (kk : ∀ (z : Int32) (H1 : Heap) (Lc : List Loc), la_I D s bC bR sh H1 (locs ++ Lc) → W p l e R s m args below meth c H1 (locs ++ Lc) cs ss Q (F0 m (pc + 3) ls (.int z :: rest))) : W p l e R s m args below meth c H locs cs ss Q (F0 m pc ls ((xs.map Value.int).reverse ++ .ref bR :: rest)) := by
  obtain ⟨hsh, wC, wR, tys, sbC, sbR, hP, hD, hK, hS, hC1, hR1, hr, hbC, hbR⟩ := hI
  obtain ⟨vs, hev⟩ := la_head hR1 (ci := 10) rfl hbR
  refine la_call (md := ai_sr' (ai_T K) (yz_ctf i).2.2.2.2.2.2) (Φ := fun _ X1 tys1 => ai_ws la_e sbR tys1 yz_WB X1) (X := wR) (Y := wC) (ci := 10) (q9 := (RX10, TX10, 62)) cx hmo hkd hrm hnp hlk hls (la_Psw hP) (la_Dsw hD) hK hS hev rfl hcl (hC sbR l D wR tys xs bR H.size rfl hbR hR1) (by show cs + (yz_ctf i).2.2.2.2.2.2.cells ≤ R.cells ∧ ss + (yz_ctf i).2.2.2.2.2.2.slots ≤ R.slots; rw [h0.1, h0.2]; exact hcs) hcat hdg ?_
  intro z X1 tys1 y H1 Lc e2 g1 g2 g3 g4 g5
  obtain ⟨-, e3⟩ := la_y hR1 g5 e2
  have := kk z H1 Lc ⟨hsh, wC, X1, tys ++ tys1, sbC, sbR, la_Psw g1, la_Dsw g2, la_Kapp hK g3, g4, la_wst la_tl hC1, la_wst la_tr g5, lr_It la_tl hr, hbC, by rw [e3]; exact hbR⟩
  show W p l e R s m args below meth c H1 (locs ++ Lc) (cs + (yz_ctf i).2.2.2.2.2.2.cells) (ss + (yz_ctf i).2.2.2.2.2.2.slots) Q _
  rw [h0.1, h0.2]
  exact this
end LAC
/-! ===== the class: its own cells apart from its images ===== -/
def la_cv (v : ai_V) : Bool := v.1 == 0 || (v.1 == 1 || (v.1 == 5 || (v.1 == 4 && Nat.blt v.2.1 72)))
def la_cc (c : ai_C) : Bool := match c with
  | .inl (_, fs) => fs.all la_cv
  | .inr (0, _, d, ov) => d.1 == 0 && ov.isEmpty
  | .inr (1, _, d, ov) => d.1 == 1 && ov.isEmpty
  | .inr (2, _, d, ov) => d.1 == 0 && ov.isEmpty
  | _ => false
theorem la_cvm {sb sb' : ai_SB} {ad ad' : List Nat} (had : ∀ k, k < 72 → ad'[k]? = ad[k]?) {v : ai_V} {u : Value} (h : la_cv v = true) (hm : ai_mt la_e sb ad v u) : ai_mt la_e sb' ad' v u := by
  obtain ⟨n, t, a, b⟩ := v
  unfold la_cv at h
  simp only [Bool.or_eq_true, Bool.and_eq_true, beq_iff_eq] at h
  rcases h with rfl | rfl | rfl | ⟨rfl, h⟩
  · exact hm
  · exact hm
  · exact hm
  · obtain ⟨q, h1, h2⟩ := hm
    exact ⟨q, by rw [had _ (Nat.le_of_ble_eq_true h)]; exact h1, h2⟩
theorem la_ccm {sb sb' : ai_SB} {ad ad' : List Nat} {tys : List (ClassId × FieldType)} (had : ∀ k, k < 72 → ad'[k]? = ad[k]?) {c : ai_C} {e : va_E} (h : la_cc c = true) (hm : ai_mc la_e sb ad tys c e) : ai_mc la_e sb' ad' tys c e := by
  have el : ∀ {d : ai_V} {ov : List (Nat × ai_V)} {j : Nat} {v : Value}, (d.1 = 0 ∨ d.1 = 1) → ov = [] → ai_el la_e sb ad j (ai_look d ov j) v → ai_el la_e sb' ad' j (ai_look d ov j) v := by
    intro d ov j v hd ho hm
    subst ho
    have e0 : ai_look d [] j = d := rfl
    rw [e0] at hm ⊢
    have hn : ¬ d.1 = 10 := by omega
    have := hm.to hn
    refine ai_el.of ?_
    obtain ⟨n, t, a, b⟩ := d
    rcases hd with hd | hd
    · dsimp only at hd
      subst hd
      exact this
    · dsimp only at hd
      subst hd
      exact this
  unfold la_cc at h
  split at h
  · rename_i ci fs
    obtain ⟨vs, h1, h2⟩ := hm
    refine ⟨vs, h1, ?_⟩
    have key : ∀ {fs : List ai_V} {vs : List Value}, fs.all la_cv = true → ai_F2 (ai_mt la_e sb ad) fs vs → ai_F2 (ai_mt la_e sb' ad') fs vs := by
      intro fs
      induction fs with
      | nil =>
        intro vs _ h
        rw [h.nil]
        trivial
      | cons f r ih =>
        intro vs ha h
        obtain ⟨u, us, rfl, g1, g2⟩ := h.cons
        rw [List.all_cons, Bool.and_eq_true] at ha
        exact ⟨la_cvm had ha.1 g1, ih ha.2 g2⟩
    exact key h h2
  · rw [Bool.and_eq_true, beq_iff_eq, List.isEmpty_iff] at h
    obtain ⟨cA, f, t0, h1, h2, h3, h4⟩ := hm
    exact ⟨cA, f, t0, h1, h2, fun j hj => el (Or.inl h.1) h.2 (h3 j hj), h4⟩
  · rw [Bool.and_eq_true, beq_iff_eq, List.isEmpty_iff] at h
    obtain ⟨cA, f, t0, h1, h2, h3⟩ := hm
    exact ⟨cA, f, t0, h1, h2, fun j hj => el (Or.inr h.1) h.2 (h3 j hj)⟩
  · rw [Bool.and_eq_true, beq_iff_eq, List.isEmpty_iff] at h
    obtain ⟨cA, f, t0, h1, h2, h3⟩ := hm
    exact ⟨cA, f, t0, h1, h2, fun j hj => el (Or.inl h.1) h.2 (h3 j hj)⟩
  · cases h
/-- all worlds of the class have the same cells but for the images -/
def la_sm (sh k : Nat) : Bool := k == 25 || (match (iB sh)[k]?, zz_WB[k]? with
  | some (.inl (i, fs)), some (.inl (i', fs')) => i == i' && (fs == fs' && la_cc (.inl (i, fs)))
  | some (.inr q), some (.inr q') => q == q' && la_cc (.inr q)
  | _, _ => false)
theorem la_sma : (List.range 5).all (fun sh => (List.range 72).all (la_sm sh)) = true := by decide +kernel
theorem la_smk {sh k : Nat} (hs : sh < 5) (hk : k < 72) (h25 : ¬ k = 25) : ∃ c, (iB sh)[k]? = some c ∧ zz_WB[k]? = some c ∧ la_cc c = true := by
  have h := List.all_eq_true.mp (List.all_eq_true.mp la_sma sh (List.mem_range.mpr hs)) k (List.mem_range.mpr hk)
  unfold la_sm at h
  rw [beq_eq_false_iff_ne.mpr h25, Bool.false_or] at h
  split at h
  · rename_i i fs i' fs' h1 h2
    simp only [Bool.and_eq_true, beq_iff_eq] at h
    obtain ⟨rfl, rfl, h3⟩ := h
    exact ⟨_, h1, h2, h3⟩
  · rename_i q q' h1 h2
    simp only [Bool.and_eq_true, beq_iff_eq] at h
    obtain ⟨rfl, h3⟩ := h
    exact ⟨_, h1, h2, h3⟩
  · cases h
theorem la_len {sh : Nat} : zz_WB.length = 72 ∧ 72 ≤ (iB sh).length := by
  refine ⟨by decide +kernel, ?_⟩
  unfold iB
  split <;> decide +kernel
section LAD
variable {p : Program} {l : Launch} {e : Env} {R : Room} {s : State} {m : MethodId} {args : Array Value} {below : List Frame} {meth : Method} {c : Code} {H : Heap} {locs : List Loc} {cs ss : Nat} {Q : State → Prop} {D : va_G} {own : String} {cc : ByteArray} {ls : Array Slot} {pc : Nat}
theorem la_take {sb : ai_SB} {tys : List (ClassId × FieldType)} {sh : Nat} {wC : va_W} (hs : sh < 5) (h : ai_ws la_e sb tys (iB sh) wC) : ∃ e25 : va_E, ai_ws la_e (0, fun _ => e25) tys zz_WB (wC.take 72) ∧ (∃ a, wC[25]? = some (a, e25)) := by
  have hl : 72 ≤ wC.length := by rw [← h.1]; exact la_len.2
  obtain ⟨⟨a, e25⟩, h25⟩ : ∃ q, wC[25]? = some q := ⟨_, List.getElem?_eq_getElem (by omega)⟩
  refine ⟨e25, ⟨?_, fun k c hk => ?_⟩, a, h25⟩
  · rw [List.length_take, la_len (sh := sh).1]
    omega
  · have hk72 : k < 72 := by
      have := (List.getElem?_eq_some_iff.mp hk).1
      rw [la_len (sh := sh).1] at this
      exact this
    have tk : (wC.take 72)[k]? = wC[k]? := List.getElem?_take_of_lt hk72
    by_cases e : k = 25
    · subst e
      refine ⟨(a, e25), by rw [tk]; exact h25, ?_⟩
      have : zz_WB[25]? = some (.inr (5, 0, (5, 0, 0, 0), [])) := rfl
      rw [this] at hk
      cases hk
      rfl
    · obtain ⟨c', g1, g2, g3⟩ := la_smk hs hk72 e
      rw [hk] at g2
      cases g2
      obtain ⟨q, h1, h2⟩ := h.2 k c g1
      refine ⟨q, by rw [tk]; exact h1, la_ccm (fun i hi => ?_) g3 h2⟩
      rw [List.map_take, List.getElem?_take_of_lt hi]
/-- the images' cells are as they were -/
theorem la_back {sb : ai_SB} {tys tys1 : List (ClassId × FieldType)} {sh : Nat} {wC X1 : va_W} {e25 : va_E} (hs : sh < 5) (h : ai_ws la_e sb tys (iB sh) wC) (h25 : ∃ a, wC[25]? = some (a, e25)) (h1 : ai_ws la_e (0, fun _ => e25) tys1 zz_WB X1) (e : X1.map Prod.fst = (wC.take 72).map Prod.fst) : ai_ws la_e sb (tys ++ tys1) (iB sh) (X1 ++ wC.drop 72) ∧ (X1 ++ wC.drop 72).map Prod.fst = wC.map Prod.fst := by
  have hl : 72 ≤ wC.length := by rw [← h.1]; exact la_len.2
  have hX : X1.length = 72 := by rw [← h1.1]; exact (la_len (sh := sh)).1
  have em : (X1 ++ wC.drop 72).map Prod.fst = wC.map Prod.fst := by
    rw [List.map_append, e, ← List.map_append, List.take_append_drop]
  refine ⟨⟨?_, fun k c hk => ?_⟩, em⟩
  · rw [List.length_append, hX, List.length_drop, h.1]
    omega
  · rw [em]
    by_cases hk72 : k < 72
    · have ap : (X1 ++ wC.drop 72)[k]? = X1[k]? := List.getElem?_append_left (by omega)
      rw [ap]
      by_cases e9 : k = 25
      · subst e9
        obtain ⟨a, ha⟩ := h25
        obtain ⟨q, q1, q2⟩ := h1.2 25 (.inr (5, 0, (5, 0, 0, 0), [])) rfl
        obtain ⟨r, r1, r2⟩ := h.2 25 c hk
        rw [ha] at r1
        cases r1
        have q2' : q.2 = e25 := q2
        exact ⟨q, q1, by rw [q2']; exact la_mct la_tl r2⟩
      · obtain ⟨c', g1, g2, g3⟩ := la_smk hs hk72 e9
        rw [hk] at g1
        cases g1
        obtain ⟨q, q1, q2⟩ := h1.2 k c g2
        refine ⟨q, q1, la_mct la_tr (la_ccm (fun i hi => ?_) g3 q2)⟩
        rw [e, List.map_take, List.getElem?_take_of_lt hi]
    · obtain ⟨q, q1, q2⟩ := h.2 k c hk
      refine ⟨q, ?_, la_mct la_tl q2⟩
      rw [List.getElem?_append_right (by omega), hX, List.getElem?_drop, show 72 + (k - 72) = k by omega]
      exact q1
/-- a method of the class that makes no cells -/
theorem la_cls {K i bC bR sh idx : Nat} {xs : List Int32} {rest : List Value} (cx : la_cx p s m args c R own cc) (hI : la_I D s bC bR sh H locs) (hC : la_C (ai_sr' (ai_T K) (zz_ctf i).2.2.2.2.2.2) xs.length zz_WB zz_WB) (hmo : ai_mok (ai_T K)) (hkd : (ai_T K).2.2.2.2.2.2.2 = 0) (hrm : (zz_ctf i).2.2.2.2.2.2.frames ≤ 2000 ∧ (zz_ctf i).2.2.2.2.2.2.locals ≤ 30000 ∧ (ai_T K).2.2.2.1 ≤ 100) (h0 : (zz_ctf i).2.2.2.2.2.2.cells = 0 ∧ (zz_ctf i).2.2.2.2.2.2.slots = 0) (hnp : (ai_T K).2.2.2.2.2.1 = xs.length) (hcl : RX9 = (ai_T K).2.1.cls) (hlk : Jvm.Cond.methodLink own idx (ai_T K).2.1 ∈ ai_tb) (hls : ls.size = 4) (hcs : cs ≤ R.cells ∧ ss ≤ R.slots) (hcat : (rest.map fun v => v.category).sum ≤ 8) (hdg : decode cc pc = .ok (.invokevirtual idx, 3))
    (kk : ∀ (z : Int32) (H1 : Heap) (Lc : List Loc), la_I D s bC bR sh H1 (locs ++ Lc) → W p l e R s m args below meth c H1 (locs ++ Lc) cs ss Q (F0 m (pc + 3) ls (.int z :: rest))) : W p l e R s m args below meth c H locs cs ss Q (F0 m pc ls ((xs.map Value.int).reverse ++ .ref bC :: rest)) := by
  obtain ⟨hsh, wC, wR, tys, sbC, sbR, hP, hD, hK, hS, hC1, hR1, hr, hbC, hbR⟩ := hI
  obtain ⟨e25, ht, h25⟩ := la_take hsh hC1
  have hb0 : ((wC.take 72).map Prod.fst)[0]? = some bC := by
    rw [List.map_take, List.getElem?_take_of_lt (by decide)]
    exact hbC
  obtain ⟨vs, hev⟩ := la_head ht (ci := 9) rfl hb0
  have esp : wC ++ wR = wC.take 72 ++ (wC.drop 72 ++ wR) := by rw [← List.append_assoc, List.take_append_drop]
  rw [esp] at hP hD
  refine la_call (md := ai_sr' (ai_T K) (zz_ctf i).2.2.2.2.2.2) (Φ := fun _ X1 tys1 => ai_ws la_e (0, fun _ => e25) tys1 zz_WB X1) (X := wC.take 72) (Y := wC.drop 72 ++ wR) (ci := 9) (q9 := (RX9, TX9, 9)) cx hmo hkd hrm hnp hlk hls hP hD hK hS hev rfl hcl (hC (0, fun _ => e25) l D (wC.take 72) tys xs bC H.size rfl hb0 ht) (by show cs + (zz_ctf i).2.2.2.2.2.2.cells ≤ R.cells ∧ ss + (zz_ctf i).2.2.2.2.2.2.slots ≤ R.slots; rw [h0.1, h0.2]; exact hcs) hcat hdg ?_
  intro z X1 tys1 y H1 Lc e2 g1 g2 g3 g4 g5
  obtain ⟨-, e3⟩ := la_y ht g5 e2
  obtain ⟨g6, g7⟩ := la_back hsh hC1 h25 g5 e3
  rw [← List.append_assoc] at g1 g2
  have := kk z H1 Lc ⟨hsh, X1 ++ wC.drop 72, wR, tys ++ tys1, sbC, sbR, g1, g2, la_Kapp hK g3, g4, g6, la_wst la_tl hR1, lr_It la_tl hr, by rw [g7]; exact hbC, hbR⟩
  show W p l e R s m args below meth c H1 (locs ++ Lc) (cs + (zz_ctf i).2.2.2.2.2.2.cells) (ss + (zz_ctf i).2.2.2.2.2.2.slots) Q _
  rw [h0.1, h0.2]
  exact this
/-- image of the class -/
theorem la_img {bC bR sh idx : Nat} {x : Int32} {rest : List Value} (cx : la_cx p s m args c R own cc) (hI : la_I D s bC bR sh H locs) (hlk : Jvm.Cond.methodLink own idx (ai_T 325).2.1 ∈ ai_tb) (hls : ls.size = 4) (hcs : cs + (bif ib_nw sh (ib_a x) then 24 else 0) ≤ R.cells ∧ ss + (bif ib_nw sh (ib_a x) then 52864 else 0) ≤ R.slots) (hcat : (rest.map fun v => v.category).sum ≤ 8) (hdg : decode cc pc = .ok (.invokevirtual idx, 3))
    (kk : ∀ (z : Int32) (H1 : Heap) (Lc : List Loc), la_I D s bC bR (ib_nx sh (ib_a x)) H1 (locs ++ Lc) → W p l e R s m args below meth c H1 (locs ++ Lc) (cs + (bif ib_nw sh (ib_a x) then 24 else 0)) (ss + (bif ib_nw sh (ib_a x) then 52864 else 0)) Q (F0 m (pc + 3) ls (.int z :: rest))) : W p l e R s m args below meth c H locs cs ss Q (F0 m pc ls ([.int x] ++ .ref bC :: rest)) := by
  obtain ⟨hsh, wC, wR, tys, sbC, sbR, hP, hD, hK, hS, hC1, hR1, hr, hbC, hbR⟩ := hI
  have hW0 : ∃ fs, (iB sh)[0]? = some (.inl (9, fs)) := by
    unfold iB
    split <;> exact ⟨_, rfl⟩
  obtain ⟨fs0, hW0⟩ := hW0
  obtain ⟨vs, hev⟩ := la_head hC1 hW0 hbC
  have hn : ib_nx sh (ib_a x) < 5 := by
    unfold ib_nx
    split <;> omega
  refine la_call (md := ai_sr' (ai_T 325) (ib_rm (ib_nw sh (ib_a x)) 325)) (Φ := fun _ X1 tys1 => ai_ws la_e sbC tys1 (iB (ib_nx sh (ib_a x))) X1) (xs := [x]) (X := wC) (Y := wR) (ci := 9) (q9 := (RX9, TX9, 9)) cx (ai_hM 325 (by decide +kernel)) (show (ai_T 325).2.2.2.2.2.2.2 = 0 from by decide +kernel) ⟨by show 3 ≤ 2000; decide, by show 102 ≤ 30000; decide, (show (ai_T 325).2.2.2.1 ≤ 100 from by decide +kernel)⟩ (show (ai_T 325).2.2.2.2.2.1 = 1 from by decide +kernel) hlk hls hP hD hK hS hev rfl (show RX9 = (ai_T 325).2.1.cls from by decide +kernel) (ib_image hsh x sbC l D wC tys bC H.size hbC hC1) hcs hcat hdg ?_
  intro z X1 tys1 y H1 Lc e2 g1 g2 g3 g4 g5
  refine kk z H1 Lc ⟨hn, X1, wR, tys ++ tys1, sbC, sbR, g1, g2, la_Kapp hK g3, g4, la_wst la_tr g5, la_wst la_tl hR1, lr_It la_tl hr, ?_, hbR⟩
  rw [e2, List.getElem?_append_left (List.getElem?_eq_some_iff.mp hbC).1]
  exact hbC
/-- back of the class -/
theorem la_bck {bC bR sh idx : Nat} {x : Int32} {rest : List Value} (cx : la_cx p s m args c R own cc) (hI : la_I D s bC bR sh H locs) (hlk : Jvm.Cond.methodLink own idx (ai_T 306).2.1 ∈ ai_tb) (hls : ls.size = 4) (hcs : cs ≤ R.cells ∧ ss ≤ R.slots) (hcat : (rest.map fun v => v.category).sum ≤ 8) (hdg : decode cc pc = .ok (.invokevirtual idx, 3))
    (kk : ∀ (z : Int32) (H1 : Heap) (Lc : List Loc), la_I D s bC bR sh H1 (locs ++ Lc) → W p l e R s m args below meth c H1 (locs ++ Lc) cs ss Q (F0 m (pc + 3) ls (.int z :: rest))) : W p l e R s m args below meth c H locs cs ss Q (F0 m pc ls ([.int x] ++ .ref bC :: rest)) := by
  obtain ⟨hsh, wC, wR, tys, sbC, sbR, hP, hD, hK, hS, hC1, hR1, hr, hbC, hbR⟩ := hI
  have hW0 : ∃ fs, (iB sh)[0]? = some (.inl (9, fs)) := by
    unfold iB
    split <;> exact ⟨_, rfl⟩
  obtain ⟨fs0, hW0⟩ := hW0
  obtain ⟨vs, hev⟩ := la_head hC1 hW0 hbC
  have hc0 : (ib_rm false 306).cells = 0 := by decide +kernel
  have hs0 : (ib_rm false 306).slots = 0 := by decide +kernel
  refine la_call (md := ai_sr' (ai_T 306) (ib_rm false 306)) (Φ := fun _ X1 tys1 => ai_ws la_e sbC tys1 (iB sh) X1) (xs := [x]) (X := wC) (Y := wR) (ci := 9) (q9 := (RX9, TX9, 9)) cx (ai_hM 306 (by decide +kernel)) (by decide +kernel) ⟨by decide +kernel, by decide +kernel, by decide +kernel⟩ (show (ai_T 306).2.2.2.2.2.1 = 1 from by decide +kernel) hlk hls hP hD hK hS hev rfl (by decide +kernel) (ib_back hsh x sbC l D wC tys bC H.size hbC hC1) (by show cs + (ib_rm false 306).cells ≤ R.cells ∧ ss + (ib_rm false 306).slots ≤ R.slots; rw [hc0, hs0]; exact hcs) hcat hdg ?_
  intro z X1 tys1 y H1 Lc e2 g1 g2 g3 g4 g5
  have := kk z H1 Lc ⟨hsh, X1, wR, tys ++ tys1, sbC, sbR, g1, g2, la_Kapp hK g3, g4, la_wst la_tr g5, la_wst la_tl hR1, lr_It la_tl hr, by rw [e2, List.getElem?_append_left (List.getElem?_eq_some_iff.mp hbC).1]; exact hbC, hbR⟩
  show W p l e R s m args below meth c H1 (locs ++ Lc) (cs + (ib_rm false 306).cells) (ss + (ib_rm false 306).slots) Q _
  rw [hc0, hs0]
  exact this
end LAD
