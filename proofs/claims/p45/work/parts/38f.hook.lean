/-! ===== what the walk may take of doors: both classes answer the same number ===== -/
def dk_N0 : ai_Ns := (fun _ _ => none, fun _ _ => none, fun _ => none)
def dk_h0 : ai_H := fun _ _ _ _ => none
def dk_o (G : ai_G) (aw : ai_W) : ai_O := (0, G ++ [(-2147483648, 2147483647, 5)], [], [(2, G.length, 0, 1)], aw, 0, 0)
def dk_g (G : ai_G) (as : List ai_V) (o : ai_O) : Bool := o.1 == 5 && (decide (o.2.1 = G) && (decide (o.2.2.1 = ai_arg 0 as) && (o.2.2.2.1.isEmpty && (o.2.2.2.2.2.1 == 0 && o.2.2.2.2.2.2 == 0))))
/-- the reference's doors writes one field ahead of all: as the walk itself does it -/
def dk_pre (G : ai_G) (as : List ai_V) (aw : ai_W) : Option ai_W := match ai_ex ai_T ai_B1 dk_h0 dk_N0 0 5 51 [5] (ai_B1 51 0) G (ai_arg 0 as, [], aw, 0, 0) with
  | some [o] => bif dk_g G as o then some o.2.2.2.2.1 else none
  | _ => none
theorem dk_g_ok {G : ai_G} {as : List ai_V} {o : ai_O} (h : dk_g G as o = true) : o = (5, G, ai_arg 0 as, [], o.2.2.2.2.1, 0, 0) := by
  obtain ⟨a, b, c, d, e, f, g⟩ := o
  unfold dk_g at h
  simp only [Bool.and_eq_true, beq_iff_eq, decide_eq_true_eq, List.isEmpty_iff] at h
  obtain ⟨h1, h2, h3, h4, h5, h6⟩ := h
  rw [h1, h2, h3, h4, h5, h6]
theorem hk_met {md : ai_MD} {L : Nat} {sb : ai_SB} {G : ai_G} {as : List ai_V} {aw : ai_W} {outs : List ai_O} (hmo : ai_mok md) (hkd : ¬ md.2.2.2.2.2.2.2 = 3) (hsum : (as.map ai_cat).sum ≤ md.2.2.2.1)
    (body : ∀ (ρ : ai_Rh), ai_gok ρ G → (∀ σ, ai_le ρ σ → ai_rb L σ) → ∀ {p : Program} {l : Launch} {e : Env} {R : Room} {s : State} {m : MethodId} {args : Array Value} {below : List Frame} {meth : Method} {c : Code} {D : va_G} {ws : va_W}, ai_cx2 p s m args meth c R md (va_A ws s.heap.size) sb L (fun _ => 0) → meth.sig.returnType = md.2.2.2.2.1 → meth.locks = false → ai_K p l e R s m args below meth c (MQ below (ai_Qc ρ sb D ws outs (va_A ws s.heap.size)) args s md.2.2.2.2.2.2.1.cells md.2.2.2.2.2.2.1.slots (va_A ws s.heap.size)) ρ sb D (va_A ws s.heap.size) md.2.2.2.1 (ws.map Prod.fst) 0 (ai_arg 0 as, [], aw, 0, 0)) : ai_cs md L sb G as aw outs := by
  intro ρ l D ws tys vs sz hrb hG has hws
  refine Met.ofW (cc := md.2.2.1) (maxL := md.2.2.2.1) (ret := md.2.2.2.2.1) hmo.2.1 rfl ?_
  intro p e s m args below meth c s₁ B hml hv
  obtain ⟨rfl, hsz, hP, hKk, hD0, hao, hnw, hsx⟩ := hv
  subst hsz
  have hD := hD0.self (sz := s.heap.size)
  have hts := atoms_spec (ws := Jvm.Cond.code md.2.1 md.2.2.1 md.2.2.2.1 md.2.2.2.2.1 :: ai_tb) B.pre
  have hin : md.2.1.name = "<init>" → meth.name = "<init>" := fun h => (name_of_methodNamed B.named B.method).1.trans h
  have hown : s.vm.findClass md.1 = some m.cls := by rw [hmo.1]; exact findClass_of_methodNamed B.named
  have cx : ai_cx2 p s m vs.toArray meth c (headSpec (Jvm.Cond.code md.2.1 md.2.2.1 md.2.2.2.1 md.2.2.2.2.1 :: ai_tb) md.2.2.2.2.2.2.1).room md (va_A ws s.heap.size) sb L (fun _ => 0) := ⟨⟨B.exec, B.bytes, hml, hown, fun w hw => hts w (List.mem_cons_of_mem _ hw), fun q h => Or.inr h, hin, rfl, hao, fun h => absurd h hkd⟩, hnw, hsx⟩
  have hl := lv_entry vs (n := md.2.2.2.1) (by rw [ai_sl_len has]; exact hsum)
  rw [lg_entry_eq]
  exact body ρ hG hrb (D := D) cx B.returns B.notSynchronized _ [] s.heap [] ws tys [] (List.append_nil _).symm ⟨_, hl, ai_arg_ok 0 has⟩ trivial ⟨hP, hD, hKk, va_S.rf, hws⟩
theorem hk_drop {T : Nat → ai_MD} {md : ai_MD} : ∀ (n : Nat) (l : List ai_E), ai_codeok T md l → ai_codeok T md (l.drop n)
  | 0, _, h => h
  | _ + 1, [], h => h
  | n + 1, _ :: r, h => by
    obtain ⟨_, _, h3⟩ := h
    exact hk_drop n r h3
theorem hk_at {code : List ai_E} {K L e0 n n0 h nL k : Nat} {sb : ai_SB} {G : ai_G} {aw : ai_W} {u v : Int} {outs : List ai_O} {Inv : Int32 → Int32 → Int32 → Int32 → Nat → Prop} {g : Nat → Int32 → Int32 → Int32 → Int32 → Nat → pu_L} (hnL : (ai_T K).2.2.2.1 = nL) (hcode : ai_codeok ai_T (ai_T K) code) (hpc : ∀ en r, code = en :: r → en.1 = e0) (ho : dk_o G aw ∈ outs)
    (start : ∀ (q : Nat) (a d b w : Int32), pu_wp (fun v => v = .int (dr_D a d b w)) nL h (pu_J True (Inv a d b w 0) (g q a d b w 0) 100) K n0 code (pu_a5 q a d b w) [])
    (step : ∀ (q : Nat) (a d b w : Int32) (i : Nat), i ≤ a.toInt.toNat + 1 → Inv a d b w i → pu_wp (fun v => v = .int (dr_D a d b w)) nL h (pu_J (i < a.toInt.toNat + 1) (Inv a d b w (i + 1)) (g q a d b w (i + 1)) 100) K n (ai_B1 K h) (g q a d b w i) [])
    {ρ σ : ai_Rh} (hσ : ai_le ρ σ) (hg : ai_gok σ G) {p : Program} {l : Launch} {e : Env} {R : Room} {s : State} {m : MethodId} {args : Array Value} {below : List Frame} {meth : Method} {c : Code} {D : va_G} {ws : va_W} (cx : ai_cx2 p s m args meth c R (ai_T K) (va_A ws s.heap.size) sb L (fun _ => 0)) (hr : meth.sig.returnType = (ai_T K).2.2.2.2.1) (hlocks : meth.locks = false) : ai_K p l e R s m args below meth c (MQ below (ai_Qc ρ sb D ws outs (va_A ws s.heap.size)) args s (ai_T K).2.2.2.2.2.2.1.cells (ai_T K).2.2.2.2.2.2.1.slots (va_A ws s.heap.size)) σ sb D (va_A ws s.heap.size) (ai_T K).2.2.2.1 (ws.map Prod.fst) e0 (ai_arg 0 [(4, k, u, v), (2, 1, 0, 1), (2, 2, 0, 1), (2, 3, 0, 1), (2, 4, 0, 1)], [], aw, 0, 0) := by
  intro ls stk H locs ws1 tys1 y hy hls hst hm
  have hst' : stk = [] := hst.nil
  subst hst'
  obtain ⟨lv, hlv, hF0⟩ := hls
  have hF : ai_F2 (fun (a : Nat × ai_V) (q : Nat × Value) => a.1 = q.1 ∧ ai_mt σ sb (ws1.map Prod.fst) a.2 q.2) [(0, (4, k, u, v)), (1, (2, 1, 0, 1)), (2, (2, 2, 0, 1)), (3, (2, 3, 0, 1)), (4, (2, 4, 0, 1))] lv := hF0
  obtain ⟨⟨i0, v0⟩, lv1, rfl, ⟨f0, m0⟩, hF1⟩ := hF.cons
  obtain ⟨⟨i1, v1⟩, lv2, rfl, ⟨f1, m1⟩, hF2⟩ := hF1.cons
  obtain ⟨⟨i2, v2⟩, lv3, rfl, ⟨f2, m2⟩, hF3⟩ := hF2.cons
  obtain ⟨⟨i3, v3⟩, lv4, rfl, ⟨f3, m3⟩, hF4⟩ := hF3.cons
  obtain ⟨⟨i4, v4⟩, lv5, rfl, ⟨f4, m4⟩, hF5⟩ := hF4.cons
  have hF6 : lv5 = [] := hF5.nil
  subst hF6
  dsimp only at f0 f1 f2 f3 f4 m0 m1 m2 m3 m4
  subst f0 f1 f2 f3 f4
  obtain ⟨q, -, rfl⟩ := m0
  obtain ⟨a, z1, rfl, r1, q1⟩ := m1
  obtain ⟨d, z2, rfl, r2, q2⟩ := m2
  obtain ⟨b, z3, rfl, r3, q3⟩ := m3
  obtain ⟨w, z4, rfl, r4, q4⟩ := m4
  rw [Int.one_mul, Int.add_zero] at q1 q2 q3 q4
  subst q1 q2 q3 q4
  obtain ⟨hP1, hD1, hK1, hS1, hW1⟩ := id hm
  obtain ⟨⟨hx, hb, hml, hown, hts, -, -, hR, -⟩, -⟩ := id cx
  have hi := ai_i32 (dr_D a d b w)
  obtain ⟨en, rr, ee, kk⟩ := pu_body (p := p) (l := l) (e := e) (R := R) (s := s) (m := m) (args := args) (below := below) (meth := meth) (c := c) (H := H) (locs := locs) (Q := MQ below (ai_Qc ρ sb D ws outs (va_A ws s.heap.size)) args s (ai_T K).2.2.2.2.2.2.1.cells (ai_T K).2.2.2.2.2.2.1.slots (va_A ws s.heap.size)) (P := fun v => v = .int (dr_D a d b w)) (N := a.toInt.toNat + 1) hnL ⟨hx, hb, hml, hown, hts, hR⟩ hcode (fun pc ls' v' hrv hP => by
    subst hP
    refine pu_ret hx hb hr hlocks (fun t ht hWt => ?_) hS1.2.2 hrv
    exact ⟨⟨_, ho, ai_more σ G.length (dr_D a d b w).toInt, hσ.tr (ai_more_le hg _), ai_more_ok (q := (-2147483648, 2147483647, 5)) hg hi.1 hi.2 ⟨fun _ => ⟨a, d, b, w, r1, r2, r3, r4, rfl⟩, fun z => absurd (show 100 ≤ 5 from z) (by decide)⟩, some (.int (dr_D a d b w)), ws1, tys1, y, rfl, hy, ⟨⟨_, _, rfl, ai_more_at, by rw [Int.one_mul, Int.add_zero]⟩, trivial⟩, by rw [ht]; exact hP1, hD1, va_K.moved hWt.alike hK1, hW1.up (ai_more_le hg _)⟩, hS1.F ht⟩) (start q a d b w) (fun i hi hv => step q a d b w i hi hv)
  rw [hpc en rr ee] at kk
  rw [hnL] at hlv
  exact kk ls hlv
theorem hk_p5 : ∀ en r, (ai_B1 51 0).drop 3 = en :: r → en.1 = 5 := by
  intro en r e
  have h : ((ai_B1 51 0).drop 3).head?.map (fun q => q.1) = some 5 := by decide +kernel
  rw [e] at h
  exact Option.some.inj h
def dk_as (k : Nat) (u v : Int) : List ai_V := [(4, k, u, v), (2, 1, 0, 1), (2, 2, 0, 1), (2, 3, 0, 1), (2, 4, 0, 1)]
theorem dk_316 (sb : ai_SB) (G : ai_G) (aw : ai_W) (k : Nat) (u v : Int) : ai_cs (ai_T 316) 0 sb G (dk_as k u v) aw [dk_o G aw] := by
  refine hk_met (ai_hM 316 (by decide +kernel)) (by decide +kernel) (Nat.le_of_ble_eq_true rfl) ?_
  intro ρ hG hrb p l e R s m args below meth c D ws cx hr hlocks
  exact hk_at (nL := 7) (n := 60) (n0 := 60) (h := 55) (g := dr_g) (Inv := dr_I) rfl (ai_hB 316 0).1 (ai_hB 316 0).2 List.mem_cons_self dr_316a dr_316b ai_le.rf hG cx hr hlocks
theorem dk_51 (sb : ai_SB) {G : ai_G} {aw aw' : ai_W} {k : Nat} {u v : Int} (hpre : dk_pre G (dk_as k u v) aw = some aw') : ai_cs (ai_T 51) 0 sb G (dk_as k u v) aw [dk_o G aw'] := by
  unfold dk_pre at hpre
  split at hpre
  · rename_i o hex
    cases hgd : dk_g G (dk_as k u v) o with
    | false => rw [hgd, cond_false] at hpre; cases hpre
    | true =>
      rw [hgd, cond_true] at hpre
      cases hpre
      have eo := dk_g_ok hgd
      refine hk_met (ai_hM 51 (by decide +kernel)) (by decide +kernel) (Nat.le_of_ble_eq_true rfl) ?_
      intro ρ hG hrb p l e R s m args below meth c D ws cx hr hlocks
      obtain ⟨en, rest, ee, kk⟩ := ai_snd (T := ai_T) (B := ai_B1) (hk := dk_h0) (N := dk_N0) (L := 0) (sb := sb) ai_clok_ok ai_hB ai_hM (fun _ _ _ _ _ _ z => by unfold dk_h0 at z; cases z) 5 51 [5] (ai_B1 51 0) G _ _ hex (ai_hB 51 0).1 ρ hG (p := p) (l := l) (e := e) (R := R) (s := s) (m := m) (args := args) (below := below) (meth := meth) (c := c) (Q := MQ below (ai_Qc ρ sb D ws [dk_o G o.2.2.2.2.1] (va_A ws s.heap.size)) args s (ai_T 51).2.2.2.2.2.2.1.cells (ai_T 51).2.2.2.2.2.2.1.slots (va_A ws s.heap.size)) (D := D) (A := va_A ws s.heap.size) (xs := fun _ => 0) (ad := ws.map Prod.fst) cx (fun σ hσ => ⟨hrb σ hσ, fun z => absurd z (by decide +kernel)⟩) (fun o' ho' _ σ hσ hg => by
        cases List.mem_singleton.mp ho'
        rw [eo] at hg ⊢
        exact hk_at (nL := 8) (n := 60) (n0 := 60) (h := 67) (g := dr_h) (Inv := fun a d b w _ => dr_k a d b w) rfl (hk_drop 3 _ (ai_hB 51 0).1) hk_p5 List.mem_cons_self dr_51a dr_51b hσ hg cx hr hlocks)
      rw [(ai_hB 51 0).2 en rest ee] at kk
      exact kk
  · cases hpre
/-- five numbers, the last four are doors' own -/
def dk_q : ai_G := [(0, 0, 0), (-2147483648, 2147483647, 0), (-2147483648, 2147483647, 0), (-2147483648, 2147483647, 0), (-2147483648, 2147483647, 0)]
def dk_r (a d h w : Int32) : ai_Rh := fun t => match t with
  | 0 => some 0
  | 1 => some a.toInt
  | 2 => some d.toInt
  | 3 => some h.toInt
  | 4 => some w.toInt
  | _ => none
theorem dk_rq (a d h w : Int32) : ai_gok (dk_r a d h w) dk_q := by
  intro t
  match t with
  | 0 => exact ⟨0, rfl, by decide, by decide, ai_kp0 rfl⟩
  | 1 => exact ⟨a.toInt, rfl, (ai_i32 a).1, (ai_i32 a).2, ai_kp0 rfl⟩
  | 2 => exact ⟨d.toInt, rfl, (ai_i32 d).1, (ai_i32 d).2, ai_kp0 rfl⟩
  | 3 => exact ⟨h.toInt, rfl, (ai_i32 h).1, (ai_i32 h).2, ai_kp0 rfl⟩
  | 4 => exact ⟨w.toInt, rfl, (ai_i32 w).1, (ai_i32 w).2, ai_kp0 rfl⟩
  | n + 5 => exact rfl
/-- both doors give this number, and keep the world -/
def dk_Φ (a d h w : Int32) (sb : ai_SB) (W : ai_W) : Int32 → va_W → List (ClassId × FieldType) → Prop := fun z ws1 tys1 => z = dr_D a d h w ∧ ai_ws la_e sb tys1 W ws1
theorem dk_met {md : ai_MD} {sb : ai_SB} {W aw' : ai_W} (hc : ai_cs md 0 sb dk_q (dk_as 0 0 0) W [dk_o dk_q aw']) (hu : ai_all2 (ai_sbc (dk_q ++ [(-2147483648, 2147483647, 5)]) 0 []) aw' W = true) (a d h w : Int32) (l : Launch) (D : va_G) {ws : va_W} {tys : List (ClassId × FieldType)} {b : Nat} (sz : Nat) (hb : (ws.map Prod.fst)[0]? = some b) (hws : ai_ws la_e sb tys W ws) : Met l md.2.1 (Jvm.Cond.code md.2.1 md.2.2.1 md.2.2.2.1 md.2.2.2.2.1 :: ai_tb) md.2.2.2.2.2.2.1 (ai_Pc D ws tys (.ref b :: [a, d, h, w].map .int) sz) (la_G D ws (dk_Φ a d h w sb W) (va_A ws sz)) md.2.2.2.2.2.2.1.cells md.2.2.2.2.2.2.1.slots (va_A ws sz) := by
  have M := hc (dk_r a d h w) l D ws tys (.ref b :: [a, d, h, w].map .int) sz (fun _ _ h => absurd h (by decide)) (dk_rq a d h w) ⟨⟨b, hb, rfl⟩, ⟨a, a.toInt, rfl, rfl, by omega⟩, ⟨d, d.toInt, rfl, rfl, by omega⟩, ⟨h, h.toInt, rfl, rfl, by omega⟩, ⟨w, w.toInt, rfl, rfl, by omega⟩, trivial⟩ (hws.up la_ele)
  refine MetFree.mono M (fun _ _ h => h) (fun _ _ _ _ _ h => h) (fun x st oc t hP hQ => ⟨?_, hQ.2⟩)
  obtain ⟨⟨o, ho, σ, d1, d2, rv, ws1, tys1, y, f1, f2, f3, f4, f5, f6, f7⟩, hFr⟩ := hQ.1
  cases List.mem_singleton.mp ho
  obtain ⟨u, r, hrv, ⟨z, zi, rfl, hz, hzi⟩, hn⟩ := f3.cons
  rw [hn.nil] at hrv
  refine ⟨⟨z, ws1, tys1, y, ?_, f2, f4, f5, f6, ?_, la_under d2 hu f7⟩, hFr⟩
  · rw [f1]
    cases rv with
    | none => cases hrv
    | some w =>
      cases hrv
      rfl
  · obtain ⟨q, hq, -, -, hk⟩ := d2.get hz
    have hq5 : (dk_q ++ [((-2147483648 : Int), (2147483647 : Int), 5)])[5]? = some (-2147483648, 2147483647, 5) := rfl
    have hq' : (dk_q ++ [((-2147483648 : Int), (2147483647 : Int), 5)])[5]? = some q := hq
    rw [hq5] at hq'
    cases hq'
    obtain ⟨a', e', h', w', g1, g2, g3, g4, g5⟩ := hk.1 rfl
    have i1 := d1 1 _ rfl
    have i2 := d1 2 _ rfl
    have i3 := d1 3 _ rfl
    have i4 := d1 4 _ rfl
    have j1 : a' = a := Int32.toInt_inj.mp (Option.some.inj (g1.symm.trans i1))
    have j2 : e' = d := Int32.toInt_inj.mp (Option.some.inj (g2.symm.trans i2))
    have j3 : h' = h := Int32.toInt_inj.mp (Option.some.inj (g3.symm.trans i3))
    have j4 : w' = w := Int32.toInt_inj.mp (Option.some.inj (g4.symm.trans i4))
    subst j1 j2 j3 j4
    exact Int32.toInt_inj.mp (by omega)
theorem dk_uc : ai_all2 (ai_sbc (dk_q ++ [(-2147483648, 2147483647, 5)]) 0 []) zz_WB zz_WB = true := by decide +kernel
def dk_rk : Bool := match dk_pre dk_q (dk_as 0 0 0) yz_WB with
  | some aw' => ai_all2 (ai_sbc (dk_q ++ [(-2147483648, 2147483647, 5)]) 0 []) aw' yz_WB
  | none => false
set_option maxRecDepth 100000 in
theorem dk_ur : dk_rk = true := by decide +kernel
section DKC
variable {p : Program} {l : Launch} {e : Env} {R : Room} {s : State} {m : MethodId} {args : Array Value} {below : List Frame} {meth : Method} {c : Code} {H : Heap} {locs : List Loc} {cs ss : Nat} {Q : State → Prop} {D : va_G} {own : String} {cc : ByteArray} {ls : Array Slot} {pc : Nat}
theorem dk_cls {bC bR sh idx : Nat} {a d h w : Int32} {rest : List Value} (cx : la_cx p s m args c R own cc) (hI : la_I D s bC bR sh H locs) (hlk : Jvm.Cond.methodLink own idx (ai_T 316).2.1 ∈ ai_tb) (hls : ls.size = 4) (hcs : cs ≤ R.cells ∧ ss ≤ R.slots) (hcat : (rest.map fun v => v.category).sum ≤ 8) (hdg : decode cc pc = .ok (.invokevirtual idx, 3))
    (kk : ∀ (H1 : Heap) (Lc : List Loc), la_I D s bC bR sh H1 (locs ++ Lc) → W p l e R s m args below meth c H1 (locs ++ Lc) cs ss Q (F0 m (pc + 3) ls (.int (dr_D a d h w) :: rest))) : W p l e R s m args below meth c H locs cs ss Q (F0 m pc ls (([a, d, h, w].map Value.int).reverse ++ .ref bC :: rest)) := by
  obtain ⟨hsh, wC, wR, tys, sbC, sbR, hP, hD, hK, hS, hC1, hR1, hr, hbC, hbR⟩ := hI
  obtain ⟨e25, ht, h25⟩ := la_take hsh hC1
  have hb0 : ((wC.take 72).map Prod.fst)[0]? = some bC := by
    rw [List.map_take, List.getElem?_take_of_lt (by decide)]
    exact hbC
  obtain ⟨vs, hev⟩ := la_head ht (ci := 9) rfl hb0
  have esp : wC ++ wR = wC.take 72 ++ (wC.drop 72 ++ wR) := by rw [← List.append_assoc, List.take_append_drop]
  rw [esp] at hP hD
  have hc0 : (ai_T 316).2.2.2.2.2.2.1.cells = 0 := by decide +kernel
  have hs0 : (ai_T 316).2.2.2.2.2.2.1.slots = 0 := by decide +kernel
  refine la_call (md := ai_T 316) (Φ := dk_Φ a d h w (0, fun _ => e25) zz_WB) (X := wC.take 72) (Y := wC.drop 72 ++ wR) (ci := 9) (q9 := (RX9, TX9, 9)) cx (ai_hM 316 (by decide +kernel)) (by decide +kernel) ⟨by decide +kernel, by decide +kernel, by decide +kernel⟩ (show (ai_T 316).2.2.2.2.2.1 = 4 from by decide +kernel) hlk hls hP hD hK hS hev rfl (by decide +kernel) (dk_met (dk_316 _ _ _ _ _ _) dk_uc a d h w l D H.size hb0 ht) (by rw [hc0, hs0]; exact hcs) hcat hdg ?_
  intro z X1 tys1 y H1 Lc e2 g1 g2 g3 g4 g5
  obtain ⟨rfl, g5⟩ := g5
  obtain ⟨-, e3⟩ := la_y ht g5 e2
  obtain ⟨g6, g7⟩ := la_back hsh hC1 h25 g5 e3
  rw [← List.append_assoc] at g1 g2
  have := kk H1 Lc ⟨hsh, X1 ++ wC.drop 72, wR, tys ++ tys1, sbC, sbR, g1, g2, la_Kapp hK g3, g4, g6, la_wst la_tl hR1, lr_It la_tl hr, by rw [g7]; exact hbC, hbR⟩
  rw [hc0, hs0]
  exact this
theorem dk_ref {bC bR sh idx : Nat} {a d h w : Int32} {rest : List Value} (cx : la_cx p s m args c R own cc) (hI : la_I D s bC bR sh H locs) (hlk : Jvm.Cond.methodLink own idx (ai_T 51).2.1 ∈ ai_tb) (hls : ls.size = 4) (hcs : cs ≤ R.cells ∧ ss ≤ R.slots) (hcat : (rest.map fun v => v.category).sum ≤ 8) (hdg : decode cc pc = .ok (.invokevirtual idx, 3))
    (kk : ∀ (H1 : Heap) (Lc : List Loc), la_I D s bC bR sh H1 (locs ++ Lc) → W p l e R s m args below meth c H1 (locs ++ Lc) cs ss Q (F0 m (pc + 3) ls (.int (dr_D a d h w) :: rest))) : W p l e R s m args below meth c H locs cs ss Q (F0 m pc ls (([a, d, h, w].map Value.int).reverse ++ .ref bR :: rest)) := by
  obtain ⟨hsh, wC, wR, tys, sbC, sbR, hP, hD, hK, hS, hC1, hR1, hr, hbC, hbR⟩ := hI
  obtain ⟨vs, hev⟩ := la_head hR1 (ci := 10) rfl hbR
  have hc0 : (ai_T 51).2.2.2.2.2.2.1.cells = 0 := by decide +kernel
  have hs0 : (ai_T 51).2.2.2.2.2.2.1.slots = 0 := by decide +kernel
  have hu := dk_ur
  unfold dk_rk at hu
  split at hu
  · rename_i aw' hpre
    refine la_call (md := ai_T 51) (Φ := dk_Φ a d h w sbR yz_WB) (X := wR) (Y := wC) (ci := 10) (q9 := (RX10, TX10, 62)) cx (ai_hM 51 (by decide +kernel)) (by decide +kernel) ⟨by decide +kernel, by decide +kernel, by decide +kernel⟩ (show (ai_T 51).2.2.2.2.2.1 = 4 from by decide +kernel) hlk hls (la_Psw hP) (la_Dsw hD) hK hS hev rfl (by decide +kernel) (dk_met (dk_51 _ hpre) hu a d h w l D H.size hbR hR1) (by rw [hc0, hs0]; exact hcs) hcat hdg ?_
    intro z X1 tys1 y H1 Lc e2 g1 g2 g3 g4 g5
    obtain ⟨rfl, g5⟩ := g5
    obtain ⟨-, e3⟩ := la_y hR1 g5 e2
    have := kk H1 Lc ⟨hsh, wC, X1, tys ++ tys1, sbC, sbR, la_Psw g1, la_Dsw g2, la_Kapp hK g3, g4, la_wst la_tl hC1, la_wst la_tr g5, lr_It la_tl hr, hbC, by rw [e3]; exact hbR⟩
    rw [hc0, hs0]
    exact this
  · cases hu
end DKC
