/-! ===== what the walk may take of doors: both classes answer the same number ===== -/
def zz_N0 : ai_Ns := (fun _ _ => none, fun _ _ => none, fun _ => none)
def zz_h0 : ai_H := fun _ _ _ _ => none
def zz_as (as : List ai_V) : Bool := match as with
  | [a, b, c, d, e] => a.1 == 4 && (decide (b = (2, 1, 0, 1)) && (decide (c = (2, 2, 0, 1)) && (decide (d = (2, 3, 0, 1)) && decide (e = (2, 4, 0, 1)))))
  | _ => false
def zz_o (G : ai_G) (aw : ai_W) : ai_O := (0, G ++ [(-2147483648, 2147483647, 5)], [], [(2, G.length, 0, 1)], aw, 0, 0)
def zz_g (G : ai_G) (as : List ai_V) (o : ai_O) : Bool := o.1 == 5 && (decide (o.2.1 = G) && (decide (o.2.2.1 = ai_arg 0 as) && (o.2.2.2.1.isEmpty && (o.2.2.2.2.2.1 == 0 && o.2.2.2.2.2.2 == 0))))
/-- the reference's doors writes one field ahead of all: as the walk itself does it -/
def zz_pre (G : ai_G) (as : List ai_V) (aw : ai_W) : Option ai_W := match ai_ex ai_T ai_B1 zz_h0 zz_N0 7 5 51 [5] (ai_B1 51 0) G (ai_arg 0 as, [], aw, 0, 0) with
  | some [o] => bif zz_g G as o then some o.2.2.2.2.1 else none
  | _ => none
def zz_hk : ai_H := fun K G as aw => bif K == 316 && zz_as as then some [zz_o G aw] else bif K == 51 && zz_as as then (zz_pre G as aw).bind fun aw' => some [zz_o G aw'] else none
theorem zz_as_ok {as : List ai_V} (h : zz_as as = true) : ∃ (k : Nat) (u v : Int), as = [(4, k, u, v), (2, 1, 0, 1), (2, 2, 0, 1), (2, 3, 0, 1), (2, 4, 0, 1)] := by
  unfold zz_as at h
  split at h
  · rename_i a b c d e
    simp only [Bool.and_eq_true, beq_iff_eq, decide_eq_true_eq] at h
    obtain ⟨h1, rfl, rfl, rfl, rfl⟩ := h
    obtain ⟨n, k, u, v⟩ := a
    dsimp only at h1
    subst h1
    exact ⟨k, u, v, rfl⟩
  · cases h
theorem zz_g_ok {G : ai_G} {as : List ai_V} {o : ai_O} (h : zz_g G as o = true) : o = (5, G, ai_arg 0 as, [], o.2.2.2.2.1, 0, 0) := by
  obtain ⟨a, b, c, d, e, f, g⟩ := o
  unfold zz_g at h
  simp only [Bool.and_eq_true, beq_iff_eq, decide_eq_true_eq, List.isEmpty_iff] at h
  obtain ⟨h1, h2, h3, h4, h5, h6⟩ := h
  rw [h1, h2, h3, h4, h5, h6]
theorem hk_met {md : ai_MD} {L sb : Nat} {G : ai_G} {as : List ai_V} {aw : ai_W} {outs : List ai_O} (hmo : ai_mok md) (hkd : ¬ md.2.2.2.2.2.2.2 = 3) (hsum : (as.map ai_cat).sum ≤ md.2.2.2.1)
    (body : ∀ (ρ : ai_Rh), ai_gok ρ G → (∀ σ, ai_le ρ σ → ai_rb L σ) → ∀ {p : Program} {l : Launch} {e : Env} {R : Room} {s : State} {m : MethodId} {args : Array Value} {below : List Frame} {meth : Method} {c : Code} {D : va_G} {ws : va_W}, ai_cx2 p s m args meth c R md (va_A ws s.heap.size) sb L (fun _ => 0) → meth.sig.returnType = md.2.2.2.2.1 → meth.locks = false → ai_K p l e R s m args below meth c (MQ below (ai_Qc ρ sb D ws outs (va_A ws s.heap.size)) args s md.2.2.2.2.2.2.1.cells md.2.2.2.2.2.2.1.slots (va_A ws s.heap.size)) ρ sb D (va_A ws s.heap.size) md.2.2.2.1 (ws.map Prod.fst) 0 (ai_arg 0 as, [], aw, 0, 0)) : ai_cs md L sb G as aw outs := by
  intro ρ l D ws tys vs sz hrb hG has hws
  refine Met.ofW (cc := md.2.2.1) (maxL := md.2.2.2.1) (ret := md.2.2.2.2.1) hmo.2.1 rfl ?_
  intro p e s m args below meth c s₁ B hml hv
  obtain ⟨rfl, hsz, hP, hKk, hD0, hao, hnw⟩ := hv
  subst hsz
  have hD := hD0.self (sz := s.heap.size)
  have hts := atoms_spec (ws := Jvm.Cond.code md.2.1 md.2.2.1 md.2.2.2.1 md.2.2.2.2.1 :: ai_tb) B.pre
  have hin : md.2.1.name = "<init>" → meth.name = "<init>" := fun h => (name_of_methodNamed B.named B.method).1.trans h
  have hown : s.vm.findClass md.1 = some m.cls := by rw [hmo.1]; exact findClass_of_methodNamed B.named
  have cx : ai_cx2 p s m vs.toArray meth c (headSpec (Jvm.Cond.code md.2.1 md.2.2.1 md.2.2.2.1 md.2.2.2.2.1 :: ai_tb) md.2.2.2.2.2.2.1).room md (va_A ws s.heap.size) sb L (fun _ => 0) := ⟨⟨B.exec, B.bytes, hml, hown, fun w hw => hts w (List.mem_cons_of_mem _ hw), fun q h => Or.inr h, hin, rfl, hao, fun h => absurd h hkd⟩, hnw⟩
  have hl := lv_entry vs (n := md.2.2.2.1) (by rw [ai_sl_len has]; exact hsum)
  rw [lg_entry_eq]
  exact body ρ hG hrb (D := D) cx B.returns B.notSynchronized _ [] s.heap [] ws tys [] (List.append_nil _).symm ⟨_, hl, ai_arg_ok 0 has⟩ trivial ⟨hP, hD, hKk, va_S.rf, hws⟩
theorem hk_drop {T : Nat → ai_MD} {md : ai_MD} : ∀ (n : Nat) (l : List ai_E), ai_codeok T md l → ai_codeok T md (l.drop n)
  | 0, _, h => h
  | _ + 1, [], h => h
  | n + 1, _ :: r, h => by
    obtain ⟨_, _, h3⟩ := h
    exact hk_drop n r h3
theorem hk_at {code : List ai_E} {K L sb e0 n n0 h nL k : Nat} {G : ai_G} {aw : ai_W} {u v : Int} {outs : List ai_O} {Inv : Int32 → Int32 → Int32 → Int32 → Nat → Prop} {g : Nat → Int32 → Int32 → Int32 → Int32 → Nat → pu_L} (hnL : (ai_T K).2.2.2.1 = nL) (hcode : ai_codeok ai_T (ai_T K) code) (hpc : ∀ en r, code = en :: r → en.1 = e0) (ho : zz_o G aw ∈ outs)
    (start : ∀ (q : Nat) (a d b w : Int32), pu_wp (fun v => v = .int (dr_D a d b w)) nL h (pu_J True (Inv a d b w 0) (g q a d b w 0) 100) K n0 code (pu_a5 q a d b w) [])
    (step : ∀ (q : Nat) (a d b w : Int32) (i : Nat), i ≤ a.toInt.toNat + 1 → Inv a d b w i → pu_wp (fun v => v = .int (dr_D a d b w)) nL h (pu_J (i < a.toInt.toNat + 1) (Inv a d b w (i + 1)) (g q a d b w (i + 1)) 100) K n (ai_B1 K h) (g q a d b w i) [])
    {ρ σ : ai_Rh} (hσ : ai_le ρ σ) (hg : ai_gok σ G) {p : Program} {l : Launch} {e : Env} {R : Room} {s : State} {m : MethodId} {args : Array Value} {below : List Frame} {meth : Method} {c : Code} {D : va_G} {ws : va_W} (cx : ai_cx2 p s m args meth c R (ai_T K) (va_A ws s.heap.size) sb L (fun _ => 0)) (hr : meth.sig.returnType = (ai_T K).2.2.2.2.1) (hlocks : meth.locks = false) : ai_K p l e R s m args below meth c (MQ below (ai_Qc ρ sb D ws outs (va_A ws s.heap.size)) args s (ai_T K).2.2.2.2.2.2.1.cells (ai_T K).2.2.2.2.2.2.1.slots (va_A ws s.heap.size)) σ sb D (va_A ws s.heap.size) (ai_T K).2.2.2.1 (ws.map Prod.fst) e0 (ai_arg 0 [(4, k, u, v), (2, 1, 0, 1), (2, 2, 0, 1), (2, 3, 0, 1), (2, 4, 0, 1)], [], aw, 0, 0) := by
  intro ls stk H locs ws1 tys1 y hy hls hst hm
  have hst' : stk = [] := hst.nil
  subst hst'
  obtain ⟨lv, hlv, hF0⟩ := hls
  have hF : ai_F2 (fun (a : Nat × ai_V) (q : Nat × Value) => a.1 = q.1 ∧ ai_mt σ sb (ws1.map Prod.fst) a.2 q.2) [(0, (4, k, u, v)), (1, (2, 1, 0, 1)), (2, (2, 2, 0, 1)), (3, (2, 3, 0, 1)), (4, (2, 4, 0, 1))] lv := hF0
  obtain ⟨⟨i0, v0⟩, lv1, rfl, ⟨f0, m0⟩, hF1⟩ := hF.cons
  obtain ⟨⟨i1, v1⟩, lv2, rfl, ⟨f1, m1⟩, hF2⟩ := hF1.cons
  obtain ⟨⟨i2, v2⟩, lv3, rfl, ⟨f2, m2⟩, hF3⟩ := hF2.cons
  obtain ⟨⟨i3, v3⟩, lv4, rfl, ⟨f3, m3⟩, hF4⟩ := hF3.cons
  obtain ⟨⟨i4, v4⟩, lv5, rfl, ⟨f4, m4⟩, hF5⟩ := hF4.cons
  have hF6 : lv5 = [] := hF5.nil
  subst hF6
  dsimp only at f0 f1 f2 f3 f4 m0 m1 m2 m3 m4
  subst f0 f1 f2 f3 f4
  obtain ⟨q, -, rfl⟩ := m0
  obtain ⟨a, z1, rfl, r1, q1⟩ := m1
  obtain ⟨d, z2, rfl, r2, q2⟩ := m2
  obtain ⟨b, z3, rfl, r3, q3⟩ := m3
  obtain ⟨w, z4, rfl, r4, q4⟩ := m4
  rw [Int.one_mul, Int.add_zero] at q1 q2 q3 q4
  subst q1 q2 q3 q4
  obtain ⟨hP1, hD1, hK1, hS1, hW1⟩ := id hm
  obtain ⟨⟨hx, hb, hml, hown, hts, -, -, hR, -⟩, -⟩ := id cx
  have hi := ai_i32 (dr_D a d b w)
  obtain ⟨en, rr, ee, kk⟩ := pu_body (p := p) (l := l) (e := e) (R := R) (s := s) (m := m) (args := args) (below := below) (meth := meth) (c := c) (H := H) (locs := locs) (Q := MQ below (ai_Qc ρ sb D ws outs (va_A ws s.heap.size)) args s (ai_T K).2.2.2.2.2.2.1.cells (ai_T K).2.2.2.2.2.2.1.slots (va_A ws s.heap.size)) (P := fun v => v = .int (dr_D a d b w)) (N := a.toInt.toNat + 1) hnL ⟨hx, hb, hml, hown, hts, hR⟩ hcode (fun pc ls' v' hrv hP => by
    subst hP
    refine pu_ret hx hb hr hlocks (fun t ht hWt => ?_) hS1.2.2 hrv
    exact ⟨⟨_, ho, ai_more σ G.length (dr_D a d b w).toInt, hσ.tr (ai_more_le hg _), ai_more_ok (q := (-2147483648, 2147483647, 5)) hg hi.1 hi.2 ⟨fun _ => ⟨a, d, b, w, r1, r2, r3, r4, rfl⟩, fun z => absurd (show 100 ≤ 5 from z) (by decide)⟩, some (.int (dr_D a d b w)), ws1, tys1, y, rfl, hy, ⟨⟨_, _, rfl, ai_more_at, by rw [Int.one_mul, Int.add_zero]⟩, trivial⟩, by rw [ht]; exact hP1, hD1, va_K.moved hWt.alike hK1, hW1.up (ai_more_le hg _)⟩, hS1.F ht⟩) (start q a d b w) (fun i hi hv => step q a d b w i hi hv)
  rw [hpc en rr ee] at kk
  rw [hnL] at hlv
  exact kk ls hlv
theorem hk_p5 : ∀ en r, (ai_B1 51 0).drop 3 = en :: r → en.1 = 5 := by
  intro en r e
  have h : ((ai_B1 51 0).drop 3).head?.map (fun q => q.1) = some 5 := by decide +kernel
  rw [e] at h
  exact Option.some.inj h
theorem zz_hk_ok (sb : Nat) : ∀ K G as aw outs, zz_hk K G as aw = some outs → ai_cs (ai_T K) 7 sb G as aw outs := by
  intro K G as aw outs h
  unfold zz_hk at h
  cases e1 : (K == 316 && zz_as as) with
  | true =>
    rw [e1, cond_true] at h
    rw [Bool.and_eq_true, beq_iff_eq] at e1
    obtain ⟨rfl, e2⟩ := e1
    obtain ⟨k, u, v, rfl⟩ := zz_as_ok e2
    cases h
    refine hk_met (ai_hM 316 (by decide +kernel)) (by decide +kernel) (Nat.le_of_ble_eq_true rfl) ?_
    intro ρ hG hrb p l e R s m args below meth c D ws cx hr hlocks
    exact hk_at (nL := 7) (n := 60) (n0 := 60) (h := 55) (g := dr_g) (Inv := dr_I) rfl (ai_hB 316 0).1 (ai_hB 316 0).2 List.mem_cons_self dr_316a dr_316b ai_le.rf hG cx hr hlocks
  | false =>
    rw [e1, cond_false] at h
    cases e2 : (K == 51 && zz_as as) with
    | false => rw [e2, cond_false] at h; cases h
    | true =>
      rw [e2, cond_true] at h
      rw [Bool.and_eq_true, beq_iff_eq] at e2
      obtain ⟨rfl, e3⟩ := e2
      obtain ⟨k, u, v, rfl⟩ := zz_as_ok e3
      obtain ⟨aw', hpre, h2⟩ := Option.bind_eq_some_iff.mp h
      cases h2
      unfold zz_pre at hpre
      split at hpre
      · rename_i o hex
        cases hgd : zz_g G [(4, k, u, v), (2, 1, 0, 1), (2, 2, 0, 1), (2, 3, 0, 1), (2, 4, 0, 1)] o with
        | false => rw [hgd, cond_false] at hpre; cases hpre
        | true =>
          rw [hgd, cond_true] at hpre
          cases hpre
          have eo := zz_g_ok hgd
          refine hk_met (ai_hM 51 (by decide +kernel)) (by decide +kernel) (Nat.le_of_ble_eq_true rfl) ?_
          intro ρ hG hrb p l e R s m args below meth c D ws cx hr hlocks
          obtain ⟨en, rest, ee, kk⟩ := ai_snd (T := ai_T) (B := ai_B1) (hk := zz_h0) (N := zz_N0) (L := 7) (sb := sb) ai_clok_ok ai_hB ai_hM (fun _ _ _ _ _ z => by unfold zz_h0 at z; cases z) 5 51 [5] (ai_B1 51 0) G _ _ hex (ai_hB 51 0).1 ρ hG (p := p) (l := l) (e := e) (R := R) (s := s) (m := m) (args := args) (below := below) (meth := meth) (c := c) (Q := MQ below (ai_Qc ρ sb D ws [zz_o G o.2.2.2.2.1] (va_A ws s.heap.size)) args s (ai_T 51).2.2.2.2.2.2.1.cells (ai_T 51).2.2.2.2.2.2.1.slots (va_A ws s.heap.size)) (D := D) (A := va_A ws s.heap.size) (xs := fun _ => 0) (ad := ws.map Prod.fst) cx (fun σ hσ => ⟨hrb σ hσ, fun z => absurd z (by decide +kernel)⟩) (fun o' ho' _ σ hσ hg => by
            cases List.mem_singleton.mp ho'
            rw [eo] at hg ⊢
            exact hk_at (nL := 8) (n := 60) (n0 := 60) (h := 67) (g := dr_h) (Inv := fun a d b w _ => dr_k a d b w) rfl (hk_drop 3 _ (ai_hB 51 0).1) hk_p5 List.mem_cons_self dr_51a dr_51b hσ hg cx hr hlocks)
          rw [(ai_hB 51 0).2 en rest ee] at kk
          exact kk
      · cases hpre
