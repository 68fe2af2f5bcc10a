/-! ===== answers that the arguments alone decide (by wip/gen/pure.py) ===== -/
def la_endz (Z : Int) (W' : ai_W) (o : ai_O) : Bool := (match o.2.2.2.1 with
  | [(0, _, u, v)] => u == Z && v == Z
  | _ => false) && ai_all2 (ai_sbc o.2.1 0 []) o.2.2.2.2.1 W'
def la_Φz (sb : ai_SB) (W' : ai_W) (Z : Int) : Int32 → va_W → List (ClassId × FieldType) → Prop := fun z ws1 tys1 => z.toInt = Z ∧ ai_ws la_e sb tys1 W' ws1
abbrev la_Mez (md : ai_MD) (l : Launch) (sb : ai_SB) (D : va_G) (ws : va_W) (tys : List (ClassId × FieldType)) (vs : List Value) (sz : Nat) (W' : ai_W) (Z : Int) : Prop := Met l md.2.1 (Jvm.Cond.code md.2.1 md.2.2.1 md.2.2.2.1 md.2.2.2.2.1 :: ai_tb) md.2.2.2.2.2.2.1 (ai_Pc D ws tys vs sz) (la_G D ws (la_Φz sb W' Z) (va_A ws sz)) md.2.2.2.2.2.2.1.cells md.2.2.2.2.2.2.1.slots (va_A ws sz)
theorem la_ofz {md : ai_MD} {sb : ai_SB} {G : ai_G} {as : List ai_V} {aw W' : ai_W} {outs : List ai_O} {Z : Int} (h : ai_cs md 0 sb G as aw outs) (hall : outs.all (la_endz Z W') = true) {ρ : ai_Rh} (hG : ai_gok ρ G) (l : Launch) {D : va_G} {ws : va_W} {tys : List (ClassId × FieldType)} {vs : List Value} (sz : Nat) (has : ai_F2 (ai_mt ρ sb (ws.map Prod.fst)) as vs) (hws : ai_ws ρ sb tys aw ws) : la_Mez md l sb D ws tys vs sz W' Z := by
  have M := h ρ l D ws tys vs sz (fun _ _ h => absurd h (by decide)) hG has hws
  refine MetFree.mono M (fun _ _ h => h) (fun _ _ _ _ _ h => h) (fun a st oc t hP hQ => ⟨?_, hQ.2⟩)
  obtain ⟨⟨o, ho, σ, d1, d2, rv, ws1, tys1, y, f1, f2, f3, f4, f5, f6, f7⟩, hFr⟩ := hQ.1
  have he := List.all_eq_true.mp hall o ho
  unfold la_endz at he
  rw [Bool.and_eq_true] at he
  obtain ⟨he1, he2⟩ := he
  split at he1
  · rename_i n u0 v0 hv
    rw [hv] at f3
    rw [Bool.and_eq_true, beq_iff_eq, beq_iff_eq] at he1
    obtain ⟨u, r, hrv, ⟨z, rfl, q1, q2⟩, hn⟩ := f3.cons
    rw [hn.nil] at hrv
    refine ⟨⟨z, ws1, tys1, y, ?_, f2, f4, f5, f6, by omega, la_under d2 he2 f7⟩, hFr⟩
    rw [f1]
    cases rv with
    | none => cases hrv
    | some w =>
      cases hrv
      rfl
  · cases he1
/-- terms: which case a number is -/
def tm_c (u v : Int) (x : Int32) : Nat := if x.toInt < u then 0 else if x.toInt ≤ v then 1 else 2
def tm_g (u v : Int) (a : Nat) : Int × Int × Nat := match a with
  | 0 => (-2147483648, u - 1, 0)
  | 1 => (u, v, 0)
  | _ => (v + 1, 2147483647, 0)
theorem tm_c3 (u v : Int) (x : Int32) : tm_c u v x < 3 := by
  unfold tm_c
  split
  · omega
  · split <;> omega
def tm_q (a b : Nat) : ai_G := [tm_g 1 50 a, tm_g 0 9 b]
def tm_Z (a b : Nat) : Int := bif a == 1 && b == 1 then 0 else -1
noncomputable def tm_run (K : Nat) (W : ai_W) (a b : Nat) : Option (List ai_O) := af_ex ai_T ai_B1 iw_h iw_N 0 3000 K [] (ai_B1 K 0) (tm_q a b) (ai_arg 0 [(4, 0, 0, 0), (2, 0, 0, 1), (2, 1, 0, 1)], [], W, 0, 0)
noncomputable def tm_k (K : Nat) (W : ai_W) : Bool := (List.range 3).all fun a => (List.range 3).all fun b => iw_all (tm_run K W a b) (la_endz (tm_Z a b) W)
set_option maxRecDepth 100000 in
theorem tm_kc : tm_k 354 zz_WB = true := by decide +kernel
set_option maxRecDepth 100000 in
theorem tm_kr : tm_k 146 yz_WB = true := by decide +kernel
theorem tm_gi {ρ : ai_Rh} {G : ai_G} (hG : ai_gok ρ G) (u v : Int) (x : Int32) : ai_gok (ai_more ρ G.length x.toInt) (G ++ [tm_g u v (tm_c u v x)]) := by
  have hx := ai_i32 x
  unfold tm_c
  split
  · exact ai_more_ok (q := (-2147483648, u - 1, 0)) hG (by dsimp only; omega) (by dsimp only; omega) (ai_kp0 rfl)
  · split
    · exact ai_more_ok (q := (u, v, 0)) hG (by dsimp only; omega) (by dsimp only; omega) (ai_kp0 rfl)
    · exact ai_more_ok (q := (v + 1, 2147483647, 0)) hG (by dsimp only; omega) (by dsimp only; omega) (ai_kp0 rfl)
theorem tm_met {K : Nat} {W : ai_W} (hkd : ¬ (ai_T K).2.2.2.2.2.2.2 = 3) (hsum : (([(4, 0, 0, 0), (2, 0, 0, 1), (2, 1, 0, 1)] : List ai_V).map ai_cat).sum ≤ (ai_T K).2.2.2.1) (h : tm_k K W = true) (x y : Int32) (sb : ai_SB) (l : Launch) (D : va_G) (ws : va_W) (tys : List (ClassId × FieldType)) (b sz : Nat) (hb : (ws.map Prod.fst)[0]? = some b) (hws : ai_ws la_e sb tys W ws) : la_Mez (ai_T K) l sb D ws tys (.ref b :: [x, y].map .int) sz W (tm_Z (tm_c 1 50 x) (tm_c 0 9 y)) := by
  unfold tm_k at h
  have h' := List.all_eq_true.mp (List.all_eq_true.mp h _ (List.mem_range.mpr (tm_c3 1 50 x))) _ (List.mem_range.mpr (tm_c3 0 9 y))
  obtain ⟨outs, h1, h2⟩ := iw_all_ok h'
  unfold tm_run at h1
  rw [af_ex_eq] at h1
  have hc := ai_run_cs (T := ai_T) (sb := sb) ai_clok_ok ai_hB ai_hM (fun _ _ _ _ _ _ h => by cases h) hkd hsum h1
  have g1 := tm_gi la_nil 1 50 x
  have g2 := tm_gi g1 0 9 y
  refine la_ofz hc (List.all_eq_true.mpr h2) g2 l sz ⟨⟨b, hb, rfl⟩, ⟨x, x.toInt, rfl, ?_, by omega⟩, ⟨y, y.toInt, rfl, ?_, by omega⟩, trivial⟩ (hws.up la_ele)
  · exact (ai_more_le g1 _) 0 _ ai_more_at
  · exact ai_more_at
/-- image of the class, with its answer -/
def im_Z (a : Nat) : Int := bif Nat.blt a 2 then 0 else -1
noncomputable def ib_iz (sh a : Nat) : Bool := iw_all (ib_run 325 (ib_rm (ib_nw sh a)) sh a) (la_endz (im_Z a) (iB (ib_nx sh a)))
set_option maxRecDepth 100000 in
theorem ib_iz0 : (List.range 4).all (ib_iz 0) = true := by decide +kernel
set_option maxRecDepth 100000 in
theorem ib_iz1 : (List.range 4).all (ib_iz 1) = true := by decide +kernel
set_option maxRecDepth 100000 in
theorem ib_iz2 : (List.range 4).all (ib_iz 2) = true := by decide +kernel
set_option maxRecDepth 100000 in
theorem ib_iz3 : (List.range 4).all (ib_iz 3) = true := by decide +kernel
set_option maxRecDepth 100000 in
theorem ib_iz4 : (List.range 4).all (ib_iz 4) = true := by decide +kernel
theorem ib_iza {sh : Nat} (h : sh < 5) : (List.range 4).all (ib_iz sh) = true := match sh, h with
  | 0, _ => ib_iz0
  | 1, _ => ib_iz1
  | 2, _ => ib_iz2
  | 3, _ => ib_iz3
  | 4, _ => ib_iz4
theorem ib_mez {Z : Int} {K : Nat} {f : Nat → Room} {sh : Nat} {W' : ai_W} {x : Int32} (hkd : ¬ (ai_T K).2.2.2.2.2.2.2 = 3) (hsum : (([(4, 0, 0, 0), ib_v (ib_a x)] : List ai_V).map ai_cat).sum ≤ (ai_T K).2.2.2.1) (h : iw_all (ib_run K f sh (ib_a x)) (la_endz Z W') = true) (sb : ai_SB) (l : Launch) (D : va_G) (ws : va_W) (tys : List (ClassId × FieldType)) (b sz : Nat) (hb : (ws.map Prod.fst)[0]? = some b) (hws : ai_ws la_e sb tys (iB sh) ws) : la_Mez (ai_sr' (ai_T K) (f K)) l sb D ws tys [.ref b, .int x] sz W' Z := by
  obtain ⟨outs, h1, h2⟩ := iw_all_ok h
  unfold ib_run at h1
  rw [af_ex_eq] at h1
  have hc := ai_run_cs (T := ai_Tr ai_T f) (sb := sb) ai_clok_ok (fun M q => ⟨ai_codeok_sr (ai_hB M q).1, (ai_hB M q).2⟩) (fun K hk => ai_hM K hk) (fun _ _ _ _ _ _ h => by cases h) hkd hsum h1
  obtain ⟨ρ, g1, g2⟩ := ib_st (sb := sb) hb x
  exact la_ofz hc (List.all_eq_true.mpr h2) g1 l sz g2 (hws.up la_ele)
theorem ib_imagz {sh : Nat} (hsh : sh < 5) (x : Int32) (sb : ai_SB) (l : Launch) (D : va_G) (ws : va_W) (tys : List (ClassId × FieldType)) (b sz : Nat) (hb : (ws.map Prod.fst)[0]? = some b) (hws : ai_ws la_e sb tys (iB sh) ws) : la_Mez (ai_sr' (ai_T 325) (ib_rm (ib_nw sh (ib_a x)) 325)) l sb D ws tys [.ref b, .int x] sz (iB (ib_nx sh (ib_a x))) (im_Z (ib_a x)) := ib_mez (f := ib_rm (ib_nw sh (ib_a x))) (by decide +kernel) (Nat.le_trans (ib_cat x) (by decide +kernel)) (List.all_eq_true.mp (ib_iza hsh) _ (List.mem_range.mpr (ib_a4 x))) sb l D ws tys b sz hb hws
def lr_Gz (Z : Int) : Int32 → va_W → List (ClassId × FieldType) → Prop := fun z ws1 tys1 => z.toInt = Z ∧ lr_G z ws1 tys1
theorem lr_mez {Z : Int} {K : Nat} {t : hs_T} (hc : hs_C hs_sh2 K t) (h0 : (ai_T K).2.2.2.2.2.2.1.cells = 0) (h1 : (ai_T K).2.2.2.2.2.2.1.slots = 0) {sb : ai_SB} (l : Launch) (D : va_G) {ws : va_W} {tys : List (ClassId × FieldType)} {b : Nat} {x : Int32} (sz : Nat) (hb : (ws.map Prod.fst)[0]? = some b) (hws : ai_ws la_e sb tys yz_WB ws) (hr : lr_I sb tys) (H : ro ((bg_S ws).2 1) → (∀ i, i < 2 → ¬ (bg_S ws).2 3 i = 0 → ro (fun j => (bg_S ws).2 2 (23016 * i + j))) → t [(4, 0), (0, x.toInt)] (bg_S ws) (fun ro' S1 => ro' = [(0, Z)] ∧ lr_P (bg_S ws) S1)) : Met l (ai_T K).2.1 (Jvm.Cond.code (ai_T K).2.1 (ai_T K).2.2.1 (ai_T K).2.2.2.1 (ai_T K).2.2.2.2.1 :: ai_tb) (ai_T K).2.2.2.2.2.2.1 (ai_Pc D ws tys (.ref b :: [x].map .int) sz) (la_G D ws (lr_Gz Z) (va_A ws sz)) (ai_T K).2.2.2.2.2.2.1.cells (ai_T K).2.2.2.2.2.2.1.slots (va_A ws sz) := by
  obtain ⟨hok, hfl⟩ := lr_ok hws hr
  have hrow : ro ((bg_S ws).2 1) := bg_row (k := 1) (l := 0) (h := 0) hws rfl
  have M := hc sb l D ws tys [.ref b, .int x] sz [(4, 0), (0, x.toInt)] (bg_S ws) _ (H hrow hfl) ⟨⟨b, hb, rfl⟩, ⟨x, rfl, rfl⟩, trivial⟩ hok
  rw [h0, h1]
  refine MetFree.mono M (fun _ _ h => h) (fun _ _ _ _ _ h => h) (fun a st oc t' hP hQ => ⟨?_, hQ.2⟩)
  obtain ⟨⟨ro', S1, rv, ws1, tys1, f1, f2, f3, f4, f5, f6, f7, hv, p1, p2, p3, p4⟩, hFr⟩ := hQ.1
  subst hv
  obtain ⟨u, r, hrv, ⟨z, rfl, hz⟩, hn⟩ := f3.cons
  rw [hn.nil] at hrv
  obtain ⟨sb', k1, k2⟩ := lr_un f7 p4
  refine ⟨⟨z, ws1, tys1, [], ?_, by rw [f2, List.append_nil], f4, f5, f6, hz, sb', ?_, k2⟩, hFr⟩
  · rw [f1]
    cases rv with
    | none => cases hrv
    | some w =>
      cases hrv
      rfl
  · refine bg_bk (G := []) lr_w k1 (fun k x hk hx => ?_) (fun j w hj _ => ?_)
    · by_cases e1 : k = 1
      · subst e1
        cases (show some (Sum.inr (0, 23016, ((10, 1, 0, 0) : ai_V), [])) = some x from hx)
        exact ⟨rfl, Or.inr ⟨rfl, rfl, rfl, p3⟩⟩
      · by_cases e2 : k = 2
        · subst e2
          cases (show some (Sum.inr (5, 0, ((5, 0, 0, 0) : ai_V), [])) = some x from hx)
          trivial
        · by_cases e3 : k = 3
          · subst e3
            cases (show some (Sum.inr (5, 1, ((5, 0, 0, 0) : ai_V), [])) = some x from hx)
            trivial
          · have hk33 : k < 33 := (List.getElem?_eq_some_iff.mp hx).1
            have g := List.all_eq_true.mp lr_dka k (List.mem_range.mpr hk33)
            unfold lr_dk at g
            rw [hx] at g
            dsimp only at g
            rw [beq_eq_false_iff_ne.mpr (by omega), Bool.false_or] at g
            exact bg_deq (p2 k e1 e2 e3) (bg_std hws hx g)
    · by_cases e0 : j = 0
      · subst e0
        cases (show some ((0, 0, -2147483648, 2147483647) : ai_V) = some w from hj)
        exact fun h => h
      · by_cases e1 : j = 1
        · subst e1
          cases (show some ((0, 0, -2147483648, 2147483647) : ai_V) = some w from hj)
          exact fun h => h
        · have hj62 : j < 62 := (List.getElem?_eq_some_iff.mp hj).1
          have g := List.all_eq_true.mp lr_fta j (List.mem_range.mpr hj62)
          unfold lr_ft at g
          rw [hj] at g
          exact bg_fdeq (p1 j e0 e1) (bg_st lr_w hws j w hj g)
theorem im_no {x : Int32} (h : ¬ (0 ≤ x.toInt ∧ x.toInt ≤ 1)) : im_Z (ib_a x) = -1 := by
  unfold ib_a
  rw [if_neg (by omega), if_neg (by omega)]
  split <;> rfl
theorem im_yes {x : Int32} (h0 : 0 ≤ x.toInt) (h1 : x.toInt ≤ 1) : im_Z (ib_a x) = 0 := by
  unfold ib_a
  by_cases h : x.toInt = 0
  · rw [if_pos h]; rfl
  · rw [if_neg h, if_pos (by omega)]; rfl
theorem lr_imagz {sb : ai_SB} (l : Launch) (D : va_G) {ws : va_W} {tys : List (ClassId × FieldType)} {b : Nat} (x : Int32) (sz : Nat) (hb : (ws.map Prod.fst)[0]? = some b) (hws : ai_ws la_e sb tys yz_WB ws) (hr : lr_I sb tys) : Met l (ai_T 69).2.1 (Jvm.Cond.code (ai_T 69).2.1 (ai_T 69).2.2.1 (ai_T 69).2.2.2.1 (ai_T 69).2.2.2.2.1 :: ai_tb) (ai_T 69).2.2.2.2.2.2.1 (ai_Pc D ws tys (.ref b :: [x].map .int) sz) (la_G D ws (lr_Gz (im_Z (ib_a x))) (va_A ws sz)) (ai_T 69).2.2.2.2.2.2.1.cells (ai_T 69).2.2.2.2.2.2.1.slots (va_A ws sz) := by
  refine lr_mez c_image (by decide +kernel) (by decide +kernel) l D sz hb hws hr (fun r0 r1 => ⟨rfl, fun w0 w => ⟨by rw [im_no w0], fun j h0 h1 => lr_up h0 h1, fun _ _ _ _ => rfl, r0, r1⟩, fun i0 i1 w A hA => ⟨by rw [im_yes i0 i1], fun j h0 h1 => lr_up h0 h1, fun k _ k2 k3 => hA.1 k k2 k3, ?_, fun i hi hn => ?_⟩⟩)
  · show ro (A 1)
    rw [hA.1 1 (by decide) (by decide)]
    exact r0
  · show ro (fun j => A 2 (23016 * i + j))
    have hn' : ¬ A 3 i = 0 := hn
    by_cases e : i = x.toInt.toNat
    · rw [e]
      exact ro_congr (fun j hj => hA.2.1 j hj) r0
    · rw [hA.2.2.2.2 i e] at hn'
      exact ro_congr (fun j hj => hA.2.2.1 _ (by omega)) (r1 i hi hn')
section LAZ
variable {p : Program} {l : Launch} {e : Env} {R : Room} {s : State} {m : MethodId} {args : Array Value} {below : List Frame} {meth : Method} {c : Code} {H : Heap} {locs : List Loc} {cs ss : Nat} {Q : State → Prop} {D : va_G} {own : String} {cc : ByteArray} {ls : Array Slot} {pc : Nat}
theorem la_clz {K bC bR sh idx : Nat} {xs : List Int32} {Z : Int} {rest : List Value} (cx : la_cx p s m args c R own cc) (hI : la_I D s bC bR sh H locs) (hC : ∀ (sb : ai_SB) (l : Launch) (D : va_G) (ws : va_W) (tys : List (ClassId × FieldType)) (b sz : Nat), (ws.map Prod.fst)[0]? = some b → ai_ws la_e sb tys zz_WB ws → la_Mez (ai_T K) l sb D ws tys (.ref b :: xs.map .int) sz zz_WB Z) (hmo : ai_mok (ai_T K)) (hkd : (ai_T K).2.2.2.2.2.2.2 = 0) (hrm : (ai_T K).2.2.2.2.2.2.1.frames ≤ 2000 ∧ (ai_T K).2.2.2.2.2.2.1.locals ≤ 30000 ∧ (ai_T K).2.2.2.1 ≤ 100) (h0 : (ai_T K).2.2.2.2.2.2.1.cells = 0 ∧ (ai_T K).2.2.2.2.2.2.1.slots = 0) (hnp : (ai_T K).2.2.2.2.2.1 = xs.length) (hcl : RX9 = (ai_T K).2.1.cls) (hlk : Jvm.Cond.methodLink own idx (ai_T K).2.1 ∈ ai_tb) (hls : ls.size = 4) (hcs : cs ≤ R.cells ∧ ss ≤ R.slots) (hcat : (rest.map fun v => v.category).sum ≤ 8) (hdg : decode cc pc = .ok (.invokevirtual idx, 3))
    (kk : ∀ (z : Int32), z.toInt = Z → ∀ (H1 : Heap) (Lc : List Loc), la_I D s bC bR sh H1 (locs ++ Lc) → W p l e R s m args below meth c H1 (locs ++ Lc) cs ss Q (F0 m (pc + 3) ls (.int z :: rest))) : W p l e R s m args below meth c H locs cs ss Q (F0 m pc ls ((xs.map Value.int).reverse ++ .ref bC :: rest)) := by
  obtain ⟨hsh, wC, wR, tys, sbC, sbR, hP, hD, hK, hS, hC1, hR1, hr, hbC, hbR⟩ := hI
  obtain ⟨e25, ht, h25⟩ := la_take hsh hC1
  have hb0 : ((wC.take 72).map Prod.fst)[0]? = some bC := by
    rw [List.map_take, List.getElem?_take_of_lt (by decide)]
    exact hbC
  obtain ⟨vs, hev⟩ := la_head ht (ci := 9) rfl hb0
  have esp : wC ++ wR = wC.take 72 ++ (wC.drop 72 ++ wR) := by rw [← List.append_assoc, List.take_append_drop]
  rw [esp] at hP hD
  refine la_call (md := ai_T K) (Φ := la_Φz (0, fun _ => e25) zz_WB Z) (X := wC.take 72) (Y := wC.drop 72 ++ wR) (ci := 9) (q9 := (RX9, TX9, 9)) cx hmo hkd hrm hnp hlk hls hP hD hK hS hev rfl hcl (hC (0, fun _ => e25) l D (wC.take 72) tys bC H.size hb0 ht) (by show cs + (ai_T K).2.2.2.2.2.2.1.cells ≤ R.cells ∧ ss + (ai_T K).2.2.2.2.2.2.1.slots ≤ R.slots; rw [h0.1, h0.2]; exact hcs) hcat hdg ?_
  intro z X1 tys1 y H1 Lc e2 g1 g2 g3 g4 gz
  obtain ⟨gz, g5⟩ := gz
  obtain ⟨-, e3⟩ := la_y ht g5 e2
  obtain ⟨g6, g7⟩ := la_back hsh hC1 h25 g5 e3
  rw [← List.append_assoc] at g1 g2
  have := kk z gz H1 Lc ⟨hsh, X1 ++ wC.drop 72, wR, tys ++ tys1, sbC, sbR, g1, g2, la_Kapp hK g3, g4, g6, la_wst la_tl hR1, lr_It la_tl hr, by rw [g7]; exact hbC, hbR⟩
  show W p l e R s m args below meth c H1 (locs ++ Lc) (cs + (ai_T K).2.2.2.2.2.2.1.cells) (ss + (ai_T K).2.2.2.2.2.2.1.slots) Q _
  rw [h0.1, h0.2]
  exact this
theorem la_rfz {K bC bR sh idx : Nat} {xs : List Int32} {Z : Int} {rest : List Value} (cx : la_cx p s m args c R own cc) (hI : la_I D s bC bR sh H locs) (hC : ∀ (sb : ai_SB) (l : Launch) (D : va_G) (ws : va_W) (tys : List (ClassId × FieldType)) (b sz : Nat), (ws.map Prod.fst)[0]? = some b → ai_ws la_e sb tys yz_WB ws → la_Mez (ai_T K) l sb D ws tys (.ref b :: xs.map .int) sz yz_WB Z) (hmo : ai_mok (ai_T K)) (hkd : (ai_T K).2.2.2.2.2.2.2 = 0) (hrm : (ai_T K).2.2.2.2.2.2.1.frames ≤ 2000 ∧ (ai_T K).2.2.2.2.2.2.1.locals ≤ 30000 ∧ (ai_T K).2.2.2.1 ≤ 100) (h0 : (ai_T K).2.2.2.2.2.2.1.cells = 0 ∧ (ai_T K).2.2.2.2.2.2.1.slots = 0) (hnp : (ai_T K).2.2.2.2.2.1 = xs.length) (hcl : RX10 = (ai_T K).2.1.cls) (hlk : Jvm.Cond.methodLink own idx (ai_T K).2.1 ∈ ai_tb) (hls : ls.size = 4) (hcs : cs ≤ R.cells ∧ ss ≤ R.slots) (hcat : (rest.map fun v => v.category).sum ≤ 8) (hdg : decode cc pc = .ok (.invokevirtual idx, 3))
    (kk : ∀ (z : Int32), z.toInt = Z → ∀ (H1 : Heap) (Lc : List Loc), la_I D s bC bR sh H1 (locs ++ Lc) → W p l e R s m args below meth c H1 (locs ++ Lc) cs ss Q (F0 m (pc + 3) ls (.int z :: rest))) : W p l e R s m args below meth c H locs cs ss Q (F0 m pc ls ((xs.map Value.int).reverse ++ .ref bR :: rest)) := by
  obtain ⟨hsh, wC, wR, tys, sbC, sbR, hP, hD, hK, hS, hC1, hR1, hr, hbC, hbR⟩ := hI
  obtain ⟨vs, hev⟩ := la_head hR1 (ci := 10) rfl hbR
  refine la_call (md := ai_T K) (Φ := la_Φz sbR yz_WB Z) (X := wR) (Y := wC) (ci := 10) (q9 := (RX10, TX10, 62)) cx hmo hkd hrm hnp hlk hls (la_Psw hP) (la_Dsw hD) hK hS hev rfl hcl (hC sbR l D wR tys bR H.size hbR hR1) (by show cs + (ai_T K).2.2.2.2.2.2.1.cells ≤ R.cells ∧ ss + (ai_T K).2.2.2.2.2.2.1.slots ≤ R.slots; rw [h0.1, h0.2]; exact hcs) hcat hdg ?_
  intro z X1 tys1 y H1 Lc e2 g1 g2 g3 g4 gz
  obtain ⟨gz, g5⟩ := gz
  obtain ⟨-, e3⟩ := la_y hR1 g5 e2
  have := kk z gz H1 Lc ⟨hsh, wC, X1, tys ++ tys1, sbC, sbR, la_Psw g1, la_Dsw g2, la_Kapp hK g3, g4, la_wst la_tl hC1, la_wst la_tr g5, lr_It la_tl hr, hbC, by rw [e3]; exact hbR⟩
  show W p l e R s m args below meth c H1 (locs ++ Lc) (cs + (ai_T K).2.2.2.2.2.2.1.cells) (ss + (ai_T K).2.2.2.2.2.2.1.slots) Q _
  rw [h0.1, h0.2]
  exact this
theorem la_imz {bC bR sh idx : Nat} {x : Int32} {rest : List Value} (cx : la_cx p s m args c R own cc) (hI : la_I D s bC bR sh H locs) (hlk : Jvm.Cond.methodLink own idx (ai_T 325).2.1 ∈ ai_tb) (hls : ls.size = 4) (hcs : cs + (bif ib_nw sh (ib_a x) then 24 else 0) ≤ R.cells ∧ ss + (bif ib_nw sh (ib_a x) then 52864 else 0) ≤ R.slots) (hcat : (rest.map fun v => v.category).sum ≤ 8) (hdg : decode cc pc = .ok (.invokevirtual idx, 3))
    (kk : ∀ (z : Int32), z.toInt = im_Z (ib_a x) → ∀ (H1 : Heap) (Lc : List Loc), la_I D s bC bR (ib_nx sh (ib_a x)) H1 (locs ++ Lc) → W p l e R s m args below meth c H1 (locs ++ Lc) (cs + (bif ib_nw sh (ib_a x) then 24 else 0)) (ss + (bif ib_nw sh (ib_a x) then 52864 else 0)) Q (F0 m (pc + 3) ls (.int z :: rest))) : W p l e R s m args below meth c H locs cs ss Q (F0 m pc ls ([.int x] ++ .ref bC :: rest)) := by
  obtain ⟨hsh, wC, wR, tys, sbC, sbR, hP, hD, hK, hS, hC1, hR1, hr, hbC, hbR⟩ := hI
  have hW0 : ∃ fs, (iB sh)[0]? = some (.inl (9, fs)) := by
    unfold iB
    split <;> exact ⟨_, rfl⟩
  obtain ⟨fs0, hW0⟩ := hW0
  obtain ⟨vs, hev⟩ := la_head hC1 hW0 hbC
  have hn : ib_nx sh (ib_a x) < 5 := by
    unfold ib_nx
    split <;> omega
  refine la_call (md := ai_sr' (ai_T 325) (ib_rm (ib_nw sh (ib_a x)) 325)) (Φ := la_Φz sbC (iB (ib_nx sh (ib_a x))) (im_Z (ib_a x))) (xs := [x]) (X := wC) (Y := wR) (ci := 9) (q9 := (RX9, TX9, 9)) cx (ai_hM 325 (by decide +kernel)) (show (ai_T 325).2.2.2.2.2.2.2 = 0 from by decide +kernel) ⟨by show 3 ≤ 2000; decide, by show 102 ≤ 30000; decide, (show (ai_T 325).2.2.2.1 ≤ 100 from by decide +kernel)⟩ (show (ai_T 325).2.2.2.2.2.1 = 1 from by decide +kernel) hlk hls hP hD hK hS hev rfl (show RX9 = (ai_T 325).2.1.cls from by decide +kernel) (ib_imagz hsh x sbC l D wC tys bC H.size hbC hC1) hcs hcat hdg ?_
  intro z X1 tys1 y H1 Lc e2 g1 g2 g3 g4 gz
  obtain ⟨gz, g5⟩ := gz
  refine kk z gz H1 Lc ⟨hn, X1, wR, tys ++ tys1, sbC, sbR, g1, g2, la_Kapp hK g3, g4, la_wst la_tr g5, la_wst la_tl hR1, lr_It la_tl hr, ?_, hbR⟩
  rw [e2, List.getElem?_append_left (List.getElem?_eq_some_iff.mp hbC).1]
  exact hbC
theorem la_riz {bC bR sh idx : Nat} {x : Int32} {rest : List Value} (cx : la_cx p s m args c R own cc) (hI : la_I D s bC bR sh H locs) (hlk : Jvm.Cond.methodLink own idx (ai_T 69).2.1 ∈ ai_tb) (hls : ls.size = 4) (hcs : cs ≤ R.cells ∧ ss ≤ R.slots) (hcat : (rest.map fun v => v.category).sum ≤ 8) (hdg : decode cc pc = .ok (.invokevirtual idx, 3))
    (kk : ∀ (z : Int32), z.toInt = im_Z (ib_a x) → ∀ (H1 : Heap) (Lc : List Loc), la_I D s bC bR sh H1 (locs ++ Lc) → W p l e R s m args below meth c H1 (locs ++ Lc) cs ss Q (F0 m (pc + 3) ls (.int z :: rest))) : W p l e R s m args below meth c H locs cs ss Q (F0 m pc ls ([.int x] ++ .ref bR :: rest)) := by
  obtain ⟨hsh, wC, wR, tys, sbC, sbR, hP, hD, hK, hS, hC1, hR1, hr, hbC, hbR⟩ := hI
  obtain ⟨vs, hev⟩ := la_head hR1 (ci := 10) rfl hbR
  have hc0 : (ai_T 69).2.2.2.2.2.2.1.cells = 0 := by decide +kernel
  have hs0 : (ai_T 69).2.2.2.2.2.2.1.slots = 0 := by decide +kernel
  refine la_call (md := ai_T 69) (Φ := lr_Gz (im_Z (ib_a x))) (xs := [x]) (X := wR) (Y := wC) (ci := 10) (q9 := (RX10, TX10, 62)) cx (ai_hM 69 (by decide +kernel)) (by decide +kernel) ⟨by decide +kernel, by decide +kernel, by decide +kernel⟩ (show (ai_T 69).2.2.2.2.2.1 = 1 from by decide +kernel) hlk hls (la_Psw hP) (la_Dsw hD) hK hS hev rfl (show RX10 = (ai_T 69).2.1.cls from by decide +kernel) (lr_imagz l D x H.size hbR hR1 hr) (by rw [hc0, hs0]; exact hcs) hcat hdg ?_
  intro z X1 tys1 y H1 Lc e2 g1 g2 g3 g4 gz
  obtain ⟨gz, g5⟩ := gz
  obtain ⟨sb', g6, g7⟩ := g5
  obtain ⟨-, e3⟩ := la_y hR1 g6 e2
  have := kk z gz H1 Lc ⟨hsh, wC, X1, tys ++ tys1, sbC, sb', la_Psw g1, la_Dsw g2, la_Kapp hK g3, g4, la_wst la_tl hC1, la_wst la_tr g6, lr_It la_tr g7, hbC, by rw [e3]; exact hbR⟩
  rw [hc0, hs0]
  exact this
end LAZ
