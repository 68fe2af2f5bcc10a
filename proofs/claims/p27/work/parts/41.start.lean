/-! ===== the law: its start, both objects made ===== -/
theorem nd_0 : decode (ai_T 0).2.2.1 0 = .ok (.new 7, 3) := by decide +kernel
theorem nd_3 : decode (ai_T 0).2.2.1 3 = .ok (.dup, 1) := by decide +kernel
theorem nd_4 : decode (ai_T 0).2.2.1 4 = .ok (.invokespecial 9, 3) := by decide +kernel
theorem nd_7 : decode (ai_T 0).2.2.1 7 = .ok (.astore_n 1, 1) := by decide +kernel
theorem nd_8 : decode (ai_T 0).2.2.1 8 = .ok (.new 10, 3) := by decide +kernel
theorem nd_11 : decode (ai_T 0).2.2.1 11 = .ok (.dup, 1) := by decide +kernel
theorem nd_12 : decode (ai_T 0).2.2.1 12 = .ok (.invokespecial 12, 3) := by decide +kernel
theorem nd_15 : decode (ai_T 0).2.2.1 15 = .ok (.astore_n 2, 1) := by decide +kernel
theorem nd_16 : decode (ai_T 0).2.2.1 16 = .ok (.iconst 0, 1) := by decide +kernel
theorem nd_17 : decode (ai_T 0).2.2.1 17 = .ok (.istore_n 3, 1) := by decide +kernel
def sn_V (D : va_G) (ws : va_W) (Φ : va_W → List (ClassId × FieldType) → Prop) (A : Nat → Prop) : Array Value → State → Outcome → State → Prop := fun _ st oc t => (∃ (ws1 : va_W) (tys1 : List (ClassId × FieldType)) (y : List Nat), oc = .returned none ∧ ws1.map Prod.fst = ws.map Prod.fst ++ y ∧ va_P D vwCl ws1 t.heap ∧ va_D A ws1 ∧ va_K D vwCl tys1 t ∧ Φ ws1 tys1) ∧ va_F A st t
def sn_z : List ai_V := List.replicate 26 (0, 0, 0, 0)
def sn_0 : Nat → Int := fun _ => 0
theorem sn_g0 : ai_gok (nv sn_0) nv_G := nv_gk (fun t ht => ⟨by show (0 : Int) ≤ 0; decide, (by decide +kernel : ∀ t, t < 26 → sn_0 t ≤ nv_h t) t ht⟩)
theorem sn_rep {α β : Type} {R : α → β → Prop} {a : α} {b : β} (h : R a b) : ∀ k : Nat, ai_F2 R (List.replicate k a) (List.replicate k b)
  | 0 => trivial
  | k + 1 => ⟨h, sn_rep h k⟩
theorem sn_und {σ : ai_Rh} {sb : ai_SB} {G : ai_G} {tys : List (ClassId × FieldType)} {ws : va_W} {aw W' : ai_W} (hG : ai_gok σ G) (h : ai_all2 (ai_sbc G 0 sn_z) aw W' = true) (hm : ai_ws σ sb tys aw ws) : ai_ws (nv sn_0) sb tys W' ws := by
  have key : ai_F2 (ai_mt σ sb (ws.map Prod.fst)) sn_z (List.replicate 26 (Value.int 0)) := sn_rep (R := ai_mt σ sb (ws.map Prod.fst)) (a := (0, 0, 0, 0)) (b := Value.int 0) ⟨0, rfl, by decide, by decide⟩ 26
  refine ai_sbw_ok (nG := 0) (cvs := sn_z) (us := List.replicate 26 (Value.int 0)) hG (fun t z ht => absurd ht (Nat.not_lt_zero t)) key (fun j u hj => ?_) h hm
  obtain ⟨hl, hu⟩ := List.getElem?_eq_some_iff.mp hj
  rw [List.length_replicate] at hl
  rw [List.getElem_replicate] at hu
  subst hu
  rw [Nat.zero_add, nv_lt hl]
  rfl
def sn_end (W' : ai_W) (o : ai_O) : Bool := o.2.2.2.1.isEmpty && ai_all2 (ai_sbc o.2.1 0 sn_z) o.2.2.2.2.1 W'
abbrev sn_VM (md : ai_MD) (l : Launch) (sb : ai_SB) (D : va_G) (ws : va_W) (tys : List (ClassId × FieldType)) (vs : List Value) (sz : Nat) (W' : ai_W) : Prop := Met l md.2.1 (Jvm.Cond.code md.2.1 md.2.2.1 md.2.2.2.1 md.2.2.2.2.1 :: ai_tb) md.2.2.2.2.2.2.1 (ai_Pc D ws tys vs sz) (sn_V D ws (fun ws1 tys1 => ai_ws (nv sn_0) sb tys1 W' ws1) (va_A ws sz)) md.2.2.2.2.2.2.1.cells md.2.2.2.2.2.2.1.slots (va_A ws sz)
theorem sn_vof {md : ai_MD} {sb : ai_SB} {aw W' : ai_W} {outs : List ai_O} (h : ai_cs md 0 sb [] [(4, 0, 0, 0)] aw outs) (hall : outs.all (sn_end W') = true) (l : Launch) {D : va_G} {ws : va_W} {tys : List (ClassId × FieldType)} {b : Nat} (sz : Nat) (hb : (ws.map Prod.fst)[0]? = some b) (hws : ai_ws la_e sb tys aw ws) : sn_VM md l sb D ws tys [.ref b] sz W' := by
  have M := h la_e l D ws tys [.ref b] sz (fun _ _ h => absurd h (by decide)) la_nil ⟨⟨b, hb, rfl⟩, trivial⟩ hws
  refine MetFree.mono M (fun _ _ h => h) (fun _ _ _ _ _ h => h) (fun a st oc t hP hQ => ⟨?_, hQ.2⟩)
  obtain ⟨⟨o, ho, σ, d1, d2, rv, ws1, tys1, y, f1, f2, f3, f4, f5, f6, f7⟩, hFr⟩ := hQ.1
  have he := List.all_eq_true.mp hall o ho
  unfold sn_end at he
  rw [Bool.and_eq_true, List.isEmpty_iff] at he
  rw [he.1] at f3
  refine ⟨⟨ws1, tys1, y, ?_, f2, f4, f5, f6, sn_und d2 he.2 f7⟩, hFr⟩
  rw [f1]
  cases rv with
  | none => rfl
  | some w => exact f3.elim
theorem sn_new1 {sb : ai_SB} {tys : List (ClassId × FieldType)} {a ci N : Nat} (h : (List.range N).all (fun k => ai_okt (ai_ty ci k)) = true) : ai_ws la_e sb tys [.inl (ci, (List.range N).map fun k => ai_dv (ai_ty ci k))] [(a, .inr (ci, (List.range N).map fun k => defaultValue (ai_ty ci k)))] := by
  refine ⟨rfl, fun k c hk => ?_⟩
  cases k with
  | succ k => simp at hk
  | zero =>
    cases hk
    refine ⟨_, rfl, _, rfl, ?_⟩
    have dv : ∀ ty : FieldType, ai_okt ty = true → ai_mt la_e sb [a] (ai_dv ty) (defaultValue ty) := by
      intro ty ht
      cases ty with
      | byte => exact ⟨0, rfl, by decide, by decide⟩
      | char => exact ⟨0, rfl, by decide, by decide⟩
      | short => exact ⟨0, rfl, by decide, by decide⟩
      | int => exact ⟨0, rfl, by decide, by decide⟩
      | boolean => exact ⟨0, rfl, by decide, by decide⟩
      | long => exact ⟨0, rfl, by decide, by decide⟩
      | object n => exact (rfl : defaultValue (FieldType.object n) = .null)
      | array n => exact (rfl : defaultValue (FieldType.array n) = .null)
      | float => cases ht
      | double => cases ht
    generalize List.range N = lr at h ⊢
    induction lr with
    | nil => trivial
    | cons x r ih =>
      rw [List.all_cons, Bool.and_eq_true] at h
      exact ⟨dv _ h.1, ih h.2⟩
noncomputable def sn_r (K ci N : Nat) : Option (List ai_O) := af_ex ai_T ai_B1 iw_h iw_N 0 3000 K [] (ai_B1 K 0) [] (ai_arg 0 [(4, 0, 0, 0)], [], [.inl (ci, (List.range N).map fun k => ai_dv (ai_ty ci k))], 0, 0)
def sn_T2 : ai_W := ((ny_WN.set 1 (.inr (0, 23016, (0, 0, 0, 0), [(9, (0, 0, 20, 20))]))).set 2 (.inr (0, 46032, (0, 0, 0, 0), []))).set 3 (.inr (2, 2, (0, 0, 0, 0), []))
set_option maxRecDepth 100000 in
theorem sn_c : iw_all (sn_r 326 9 9) (sn_end iN0) = true := by decide +kernel
set_option maxRecDepth 100000 in
theorem sn_m : iw_all (sn_r 71 10 62) (sn_end sn_T2) = true := by decide +kernel
theorem sn_met {K ci N : Nat} {W' : ai_W} (hkd : ¬ (ai_T K).2.2.2.2.2.2.2 = 3) (hsum : (([(4, 0, 0, 0)] : List ai_V).map ai_cat).sum ≤ (ai_T K).2.2.2.1) (h : iw_all (sn_r K ci N) (sn_end W') = true) (hN : (List.range N).all (fun k => ai_okt (ai_ty ci k)) = true) (sb : ai_SB) (l : Launch) (D : va_G) (tys : List (ClassId × FieldType)) (a sz : Nat) : sn_VM (ai_T K) l sb D [(a, .inr (ci, (List.range N).map fun k => defaultValue (ai_ty ci k)))] tys [.ref a] sz W' := by
  obtain ⟨outs, h1, h2⟩ := iw_all_ok h
  unfold sn_r at h1
  rw [af_ex_eq] at h1
  have hc := ai_run_cs (T := ai_T) (sb := sb) ai_clok_ok ai_hB ai_hM (fun _ _ _ _ _ _ z => by unfold iw_h at z; cases z) hkd hsum h1
  exact sn_vof hc (List.all_eq_true.mpr h2) l sz rfl (sn_new1 hN)
/-! the reference's row at its start, its images -/
theorem sn_gc (b k : Nat) (h : ¬ (b = 0 ∧ k = 9)) : (ai_gc b k).1 ≤ 0 ∧ 0 ≤ (ai_gc b k).2 := by
  unfold ai_gc
  by_cases b0 : b = 0
  · subst b0
    rw [beq_self_eq_true, cond_true]
    match k with
    | 0 => decide
    | 1 => decide
    | 2 => decide
    | 3 => decide
    | 4 => decide
    | 5 => decide
    | 6 => decide
    | 7 => decide
    | 8 => decide
    | 9 => exact absurd ⟨rfl, rfl⟩ h
    | k + 10 => exact ⟨by show (-2147483648 : Int) ≤ 0; decide, by show (0 : Int) ≤ 2147483647; decide⟩
  · rw [beq_eq_false_iff_ne.mpr b0, cond_false]
    have q : ∀ {c : Bool} {x y : Int × Int}, (x.1 ≤ 0 ∧ 0 ≤ x.2) → (y.1 ≤ 0 ∧ 0 ≤ y.2) → ((bif c then x else y : Int × Int).1 ≤ 0 ∧ 0 ≤ (bif c then x else y : Int × Int).2) := fun {c x y} hx hy => by
      cases c
      · exact hy
      · exact hx
    have f : (ai_gF).1 ≤ 0 ∧ 0 ≤ (ai_gF).2 := by decide
    exact q (q (by decide) (q (by decide) f)) (q (by decide) (q (q (by decide) f) (q (q (by decide) (q (by decide) (q (by decide) f))) (q (q (by decide) f) f))))
theorem sn_ref {sb : ai_SB} {tys : List (ClassId × FieldType)} {ws : va_W} (h : ai_ws (nv sn_0) sb tys sn_T2 ws) : ∃ sb' : ai_SB, ai_ws (nv sn_0) sb' tys ny_WN ws ∧ lr_J sb' tys 0 sn_0 := by
  obtain ⟨q1, w1, cA, f, t0, e1, i1, g1, -⟩ := h.2 1 (.inr (0, 23016, (0, 0, 0, 0), [(9, (0, 0, 20, 20))])) rfl
  obtain ⟨q2, w2, cB, f2, t2, e2, i2, g2, -⟩ := h.2 2 (.inr (0, 46032, (0, 0, 0, 0), [])) rfl
  obtain ⟨q3, w3, cC, f3, t3, e3, i3, g3⟩ := h.2 3 (.inr (2, 2, (0, 0, 0, 0), [])) rfl
  have z1 : ∀ j, j < 23016 → (j = 9 ∧ (f j).toInt = 20) ∨ (¬ j = 9 ∧ (f j).toInt = 0) := by
    intro j hj
    have g := g1 j hj
    by_cases e : j = 9
    · subst e
      obtain ⟨x, ex, h1, h2⟩ := bg_el g
      cases ex
      exact Or.inl ⟨rfl, by omega⟩
    · have el : ai_look (0, 0, 0, 0) [(9, ((0, 0, 20, 20) : ai_V))] j = (0, 0, 0, 0) := by
        show (bif 9 == j then _ else _) = _
        rw [beq_eq_false_iff_ne.mpr (fun q => e q.symm)]
        rfl
      rw [el] at g
      obtain ⟨x, ex, h1, h2⟩ := bg_el g
      cases ex
      exact Or.inr ⟨e, by omega⟩
  have z3 : ∀ j, j < 2 → (f3 j).toInt = 0 := by
    intro j hj
    obtain ⟨x, ex, h1, h2⟩ := bg_el (g3 j hj)
    cases ex
    omega
  refine ⟨(0, fun n => if n = 0 then q2.2 else q3.2), ⟨h.1, fun k c hk => ?_⟩, cB, f2, t2, cC, f3, t3, by show (if (0 : Nat) = 0 then q2.2 else q3.2) = _; rw [if_pos rfl]; exact e2, i2, by show (if (1 : Nat) = 0 then q2.2 else q3.2) = _; rw [if_neg (by decide)]; exact e3, i3, fun i hi => ⟨⟨fun hp => absurd hp (by rw [(by decide : ∀ i, i < 2 → ib_p 0 i = false) i hi]; decide), fun hn => absurd (z3 i hi) hn⟩, fun hp => absurd hp (by rw [(by decide : ∀ i, i < 2 → ib_p 0 i = false) i hi]; decide)⟩⟩
  by_cases k1 : k = 1
  · subst k1
    rw [lrn_1] at hk
    cases hk
    refine ⟨q1, w1, cA, f, t0, e1, i1, fun j hj => ?_, fun _ => fun _ => ?_⟩
    · rcases bh_lk (d := (10, 1, 0, 0)) nyo j with ⟨q, hq, rfl, el⟩ | el
      · obtain ⟨t, ht, e2, e3⟩ := nyo_k q hq
        have h9 : ¬ q.1 = 9 := by
          rw [e3]
          exact (by decide : ∀ t, t < 6 → ¬ pl t = 9) t ht
        rw [el, e2]
        refine ai_el.of ⟨f q.1, 0, rfl, by rw [nv_lt (by omega)]; rfl, ?_⟩
        rcases z1 q.1 hj with ⟨e, -⟩ | ⟨-, e⟩
        · exact absurd e h9
        · rw [e]
          decide
      · rw [el]
        unfold ai_el
        rw [if_pos rfl]
        refine ⟨f j, rfl, fun _ r hr r1 r2 => ?_⟩
        rcases z1 j hj with ⟨rfl, e⟩ | ⟨hne, e⟩
        · rw [e]
          unfold ai_rg at hr
          simp only [List.mem_cons, List.not_mem_nil, or_false] at hr
          rcases hr with rfl | rfl | rfl | rfl | rfl | rfl | rfl | rfl | rfl | rfl | rfl | rfl | rfl <;> dsimp only at r1 r2 <;> first | omega | decide
        · rw [e]
          refine sn_gc _ _ (fun hh => hne ?_)
          obtain ⟨b0, b9⟩ := hh
          unfold ai_rg at hr
          simp only [List.mem_cons, List.not_mem_nil, or_false] at hr
          rcases hr with rfl | rfl | rfl | rfl | rfl | rfl | rfl | rfl | rfl | rfl | rfl | rfl | rfl <;> dsimp only at b0 b9 r1 r2 <;> omega
    · intro t c ht hc hlt
      exfalso
      have hz : (f (5056 + (898 * t + 1))).toInt = 0 := by
        rcases z1 (5056 + (898 * t + 1)) (by omega) with ⟨e, -⟩ | ⟨-, e⟩
        · omega
        · exact e
      have hlt' : (c : Int) < (f (5056 + (898 * t + 1))).toInt := hlt
      rw [hz] at hlt'
      omega
  · by_cases k2 : k = 2
    · subst k2
      rw [lrn_2] at hk
      cases hk
      exact ⟨q2, w2, by show q2.2 = (if (0 : Nat) = 0 then q2.2 else q3.2); rw [if_pos rfl]⟩
    · by_cases k3 : k = 3
      · subst k3
        rw [lrn_3] at hk
        cases hk
        exact ⟨q3, w3, by show q3.2 = (if (1 : Nat) = 0 then q2.2 else q3.2); rw [if_neg (by decide)]⟩
      · have hk33 : k < 33 := (List.getElem?_eq_some_iff.mp hk).1
        have hk2 : sn_T2[k]? = some c := by
          unfold sn_T2
          rw [List.getElem?_set_ne (fun q => k3 q.symm), List.getElem?_set_ne (fun q => k2 q.symm), List.getElem?_set_ne (fun q => k1 q.symm)]
          exact hk
        obtain ⟨q, h1, h2⟩ := h.2 k c hk2
        have key : (List.range 33).all (fun k => k == 1 || (k == 2 || (k == 3 || (match ny_WN[k]? with
          | some c => la_wc 0 1000 33 c
          | none => false)))) = true := by decide +kernel
        have hc := List.all_eq_true.mp key k (List.mem_range.mpr hk33)
        rw [beq_eq_false_iff_ne.mpr k1, beq_eq_false_iff_ne.mpr k2, beq_eq_false_iff_ne.mpr k3, hk] at hc
        exact ⟨q, h1, la_wcm (lo := 0) (hi := 1000) (m := 33) (fun _ _ => rfl) (fun _ _ _ => rfl) hc h2⟩
section LNV
variable {p : Program} {l : Launch} {e : Env} {R : Room} {s : State} {m : MethodId} {args : Array Value} {below : List Frame} {meth : Method} {c : Code} {H : Heap} {locs : List Loc} {cs ss : Nat} {Q : State → Prop} {D : va_G} {own : String} {cc : ByteArray} {ls : Array Slot} {pc : Nat}
theorem sn_ctor {md : ai_MD} {X Y : va_W} {tys : List (ClassId × FieldType)} {Φ : va_W → List (ClassId × FieldType) → Prop} {b idx : Nat} {rest : List Value} (cx : la_cx p s m args c R own cc) (hmo : ai_mok md) (hkd : md.2.2.2.2.2.2.2 = 2) (hrm : md.2.2.2.2.2.2.1.frames ≤ 2000 ∧ md.2.2.2.2.2.2.1.locals ≤ 30000 ∧ md.2.2.2.1 ≤ 100) (hnp : md.2.2.2.2.2.1 = 0) (hlk : Jvm.Cond.methodLink own idx md.2.1 ∈ ai_tb) (hls : ls.size = 4) (hP : va_P D vwCl (X ++ Y) H) (hD : va_D (lw_A s) (X ++ Y)) (hK : va_K D vwCl tys s) (hS : va_S (lw_A s) s.heap H locs) (hM : Met l md.2.1 (Jvm.Cond.code md.2.1 md.2.2.1 md.2.2.2.1 md.2.2.2.2.1 :: ai_tb) md.2.2.2.2.2.2.1 (ai_Pc D X tys [.ref b] H.size) (sn_V D X Φ (va_A X H.size)) md.2.2.2.2.2.2.1.cells md.2.2.2.2.2.2.1.slots (va_A X H.size)) (hcs : cs + md.2.2.2.2.2.2.1.cells ≤ R.cells ∧ ss + md.2.2.2.2.2.2.1.slots ≤ R.slots) (hcat : (rest.map fun v => v.category).sum ≤ 8) (hdg : decode cc pc = .ok (.invokespecial idx, 3))
    (kk : ∀ (X1 : va_W) (tys1 : List (ClassId × FieldType)) (y : List Nat) (H1 : Heap) (Lc : List Loc), X1.map Prod.fst = X.map Prod.fst ++ y → va_P D vwCl (X1 ++ Y) H1 → va_D (lw_A s) (X1 ++ Y) → va_K D vwCl tys1 s → va_S (lw_A s) s.heap H1 (locs ++ Lc) → Φ X1 tys1 → W p l e R s m args below meth c H1 (locs ++ Lc) (cs + md.2.2.2.2.2.2.1.cells) (ss + md.2.2.2.2.2.2.1.slots) Q (F0 m (pc + 3) ls rest)) : W p l e R s m args below meth c H locs cs ss Q (F0 m pc ls (.ref b :: rest)) := by
  obtain ⟨hx, hb, hml, hown, hts, hao, hnw, hsx, hRf, hRl⟩ := cx
  obtain ⟨m1, m2, m3, m4, m5, m6, m7, m8⟩ := hmo
  have hPX := la_Pl hP
  have hDX := la_Dl hD
  have hA : ∀ q, s.heap.size ≤ q → lw_A s q := fun _ h => h
  have hrn := (m8 hkd).2.2
  have hpre : PreS s H (ai_Pc D X tys [.ref b] H.size) (.ref b :: []) := ⟨ai_Pc_blind _ _ _ _ _, fun U hU hWm => ⟨rfl, by rw [hU], by rw [hU]; exact hPX, va_K.moved hWm.alike hK, hDX.weaken (fun _ _ _ _ => trivial), va_AO.moved hWm.alike hao, hnw.warm hWm, hsx.call hS hDX hA hU hWm⟩⟩
  have run : va_Run p l e R s m args below meth c H locs cs ss md.2.2.2.2.2.2.1.cells md.2.2.2.2.2.2.1.slots (F0 m pc ls (.ref b :: rest)) rest (sn_V D X Φ (va_A X H.size) (.ref b :: ([] : List Value)).toArray) (va_A X H.size) :=
    va_runI (cc := cc) (nL := 4) (own := own) (Ts := ai_tb) ⟨hx, hb, hml, hown, hts⟩ hM ⟨callB_of md.2.2.2.2.2.1 hts (ai_good m3) (by rw [hrn]) rfl rfl (hts _ m5) (hts _ hlk) m4 ⟨by rw [hRf]; omega, by rw [hRl]; omega⟩, (m8 hkd).1, hts _ (m8 hkd).2.1⟩ hpre rfl hnp.symm hls rfl (by show 2 * 0 + _ ≤ 8; omega) hdg hcs
  refine ai_run run (fun v st t H1 Lc h0 h1 hv hq hL => ?_)
  obtain ⟨⟨X1, tys1, y, e1, e2, e3, e4, e5, e6⟩, hz, hk⟩ := hq
  cases e1
  rw [h0] at hz hk
  rw [h1] at hz hk e3
  obtain ⟨g1, g2⟩ := la_join (H0 := s.heap) (y := []) hP hD hA hS.1 e3 e4 hk
  refine kk X1 tys1 y H1 Lc e2 g1 g2 (va_K.moved hv.symm e5) ⟨Nat.le_trans hS.1 hz, fun q a1 a2 => ?_, fun q g => ?_⟩ e6
  · rw [hk q (Nat.lt_of_lt_of_le a1 hS.1) (fun w => a2 (by
      rcases w with ⟨k, e9, w⟩ | w
      · exact hDX.2 k _ w
      · exact Nat.le_trans hS.1 w))]
    exact hS.2.1 q a1 a2
  · rcases List.mem_append.mp g with g | g
    · exact hS.2.2 q g
    · rcases hL q g with ⟨k, e9, w⟩ | w
      · exact hDX.2 k _ w
      · exact Nat.le_trans hS.1 w
theorem ln_start {bX : Nat} (cx : la_cx p s m args c R (ai_T 0).1 (ai_T 0).2.2.1) (hK : va_K D vwCl [] s) (hR : 200 ≤ R.cells ∧ 200000 ≤ R.slots) (hls : lv_has ls 4 [(0, .ref bX)])
    (kk : ∀ (H1 : Heap) (locs : List Loc) (ls' : Array Slot) (bC bR : Nat), lv_has ls' 4 [(0, .ref bX), (1, .ref bC), (2, .ref bR), (3, .int (nI 0))] → la_J D s bC bR 0 sn_0 0 sn_0 H1 locs → W p l e R s m args below meth c H1 locs 105 142161 Q (F0 m 18 ls' [])) : W p l e R s m args below meth c s.heap [] 0 0 Q (F0 m 0 ls []) := by
  have cx0 := cx
  obtain ⟨hx, hb, hml, hown, hts, hao, hnw, hsx, hRf, hRl⟩ := cx
  have hA : ∀ q, s.heap.size ≤ q → lw_A s q := fun _ h => h
  have hP0 : va_P D vwCl [] s.heap := fun k q h => by cases h
  have hD0 : va_D (lw_A s) [] := ⟨fun i j p q h => (by cases h), fun k q h => (by cases h)⟩
  obtain ⟨c1, c2, -⟩ := ai_clok_ok 9 _ cq9
  obtain ⟨d1, d2, -⟩ := ai_clok_ok 10 _ cq10
  have r326 : (ai_T 326).2.2.2.2.2.2.1.cells = 71 ∧ (ai_T 326).2.2.2.2.2.2.1.slots = 69914 := by decide +kernel
  have r71 : (ai_T 71).2.2.2.2.2.2.1.cells = 32 ∧ (ai_T 71).2.2.2.2.2.2.1.slots = 72176 := by decide +kernel
  refine va_new (C := RX9) (T := TX9) (N := 9) (ci := 9) (fs := (List.range 9).map fun k => defaultValue (ai_ty 9 k)) hx hb hts c1 (ai_ty 9) c2 hown (hts _ tb94) (hts _ tb95) (hts _ tb96) hK hP0 hD0 va_S.rf hA rfl (fun j hj => by simp [vp_V, hj]) (by omega) (by omega) nd_0 (fun a H1 g1 g2 g3 => ?_)
  refine lv_dup hx hb nd_3 rfl ?_
  refine sn_ctor (md := ai_T 326) (X := [(a, .inr (9, (List.range 9).map fun k => defaultValue (ai_ty 9 k)))]) (Y := []) cx0 (ai_hM 326 (by decide +kernel)) (by decide +kernel) ⟨by decide +kernel, by decide +kernel, by decide +kernel⟩ (by decide +kernel) tb97 hls.1 (by rw [List.append_nil]; exact g1) (by rw [List.append_nil]; exact g2) hK g3 (sn_met (by decide +kernel) (by decide +kernel) sn_c (by decide +kernel) (0, fun _ => .inr (0, [])) l D [] a H1.size) (by rw [r326.1, r326.2]; omega) (Nat.le_of_ble_eq_true rfl) nd_4 ?_
  intro wC tys1 y H2 Lc e2 p1 p2 p3 p4 hwC
  rw [List.append_nil] at p1 p2
  rw [r326.1, r326.2]
  have hC0 : (wC.map Prod.fst)[0]? = some a := by
    rw [e2]
    rfl
  refine lv_astore_n hx hb nd_7 rfl hls (by decide) rfl (fun ls1 hl1 => ?_)
  refine va_new (C := RX10) (T := TX10) (N := 62) (ci := 10) (fs := (List.range 62).map fun k => defaultValue (ai_ty 10 k)) hx hb hts d1 (ai_ty 10) d2 hown (hts _ tb98) (hts _ tb99) (hts _ tb100) p3 p1 p2 p4 hA rfl (fun j hj => by simp [vp_V, hj]) (by omega) (by omega) nd_8 (fun b H3 q1 q2 q3 => ?_)
  refine lv_dup hx hb nd_11 rfl ?_
  refine sn_ctor (md := ai_T 71) (X := [(b, .inr (10, (List.range 62).map fun k => defaultValue (ai_ty 10 k)))]) (Y := wC) cx0 (ai_hM 71 (by decide +kernel)) (by decide +kernel) ⟨by decide +kernel, by decide +kernel, by decide +kernel⟩ (by decide +kernel) tb101 hl1.1 (la_Psw q1) (la_Dsw q2) p3 q3 (sn_met (by decide +kernel) (by decide +kernel) sn_m (by decide +kernel) (0, fun _ => .inr (0, [])) l D tys1 b H3.size) (by rw [r71.1, r71.2]; omega) (Nat.le_of_ble_eq_true rfl) nd_12 ?_
  intro wR tys2 y2 H4 Lc2 e4 s1 s2 s3 s4 hwR
  rw [r71.1, r71.2]
  have hR0 : (wR.map Prod.fst)[0]? = some b := by
    rw [e4]
    rfl
  obtain ⟨sbR, t1, t2⟩ := sn_ref hwR
  refine lv_astore_n hx hb nd_15 rfl hl1 (by decide) rfl (fun ls2 hl2 => ?_)
  refine lv_iconst hx hb nd_16 (v := nI 0) rfl ?_
  refine lv_istore_n hx hb nd_17 rfl hl2 (by decide) rfl (fun ls3 hl3 => ?_)
  exact kk H4 _ ls3 a b (lv_sub hl3 [3, 2, 1, 0] rfl) ⟨⟨by decide, by decide, sn_g0, sn_g0⟩, wC, wR, tys1 ++ tys2, _, sbR, la_Psw s1, la_Dsw s2, la_Kapp p3 s3, s4, la_wst la_tl hwC, la_wst la_tr t1, lr_Jt la_tr t2, hC0, hR0⟩
end LNV
