/-! ===== the walk is as the machine goes ===== -/
/-- what methods read that is not of their world: a static of String's, the words' text, a row of digits -/
def sx_tx : String := "on    off   void  again most  far   few   strikeclauseif    or    and   not   wife  late  walkermoved brokenage   house place seat  day   names papersgiven put   spoiltlost  "
def sx_by : List Int32 := [111, 110, 32, 32, 32, 32, 111, 102, 102, 32, 32, 32, 118, 111, 105, 100, 32, 32, 97, 103, 97, 105, 110, 32, 109, 111, 115, 116, 32, 32, 102, 97, 114, 32, 32, 32, 102, 101, 119, 32, 32, 32, 115, 116, 114, 105, 107, 101, 99, 108, 97, 117, 115, 101, 105, 102, 32, 32, 32, 32, 111, 114, 32, 32, 32, 32, 97, 110, 100, 32, 32, 32, 110, 111, 116, 32, 32, 32, 119, 105, 102, 101, 32, 32, 108, 97, 116, 101, 32, 32, 119, 97, 108, 107, 101, 114, 109, 111, 118, 101, 100, 32, 98, 114, 111, 107, 101, 110, 97, 103, 101, 32, 32, 32, 104, 111, 117, 115, 101, 32, 112, 108, 97, 99, 101, 32, 115, 101, 97, 116, 32, 32, 100, 97, 121, 32, 32, 32, 110, 97, 109, 101, 115, 32, 112, 97, 112, 101, 114, 115, 103, 105, 118, 101, 110, 32, 112, 117, 116, 32, 32, 32, 115, 112, 111, 105, 108, 116, 108, 111, 115, 116, 32, 32]
def sx_dg : List Int32 := [1, 7, 49, 343, 2401, 16807, 117649]
def ai_sx (A : Nat → Prop) (U : State) (H : Heap) : Prop := va_Z "java/lang/String" "COMPACT_STRINGS" "Z" (.int 1) A U H ∧ (∃ adK adV : Nat → Nat, vk_R "FirstPolls$Reader" 115 sx_tx (adK 0) U ∧ vk_S 1 [174] [sx_by] adK adV A U H) ∧ (∃ t : Nat, va_Z "FirstPolls$Siting" "DIGITS" "[I" (.ref t) A U H ∧ va_T .int t 7 (fun j => .int (sx_dg.getD j 0)) A U H) ∧ va_Zq "jdk/internal/util/Preconditions" "SIOOBE_FORMATTER" "Ljava/util/function/BiFunction;" A U H
theorem ai_sx.call {A : Nat → Prop} {s U : State} {H : Heap} {locs : List Loc} {ws : va_W} (h : ai_sx A s s.heap) (hS : va_S A s.heap H locs) (hD : va_D A ws) (hA : ∀ q, s.heap.size ≤ q → A q) (hU : U.heap = H) (hWm : s.WarmedH U.vm) : ai_sx (va_A ws H.size) U U.heap := by
  have hn : ∀ q, va_A ws H.size q → A q := by
    intro q hq
    rcases hq with ⟨k, e, hk⟩ | hq
    · exact hD.2 k _ hk
    · exact hA q (Nat.le_trans hS.1 hq)
  obtain ⟨h1, ⟨adK, adV, h2, h3⟩, ⟨t, h4, h5⟩, h6⟩ := h
  rw [hU]
  exact ⟨((h1.kept hS.2.1).moved hWm.alike).narrow hn, ⟨adK, adV, vk_R.warm hWm h2, ((h3.kept hS.2.1).moved hWm.alike).narrow hn⟩, ⟨t, ((h4.kept hS.2.1).moved hWm.alike).narrow hn, ((h5.kept hS.2.1).moved hWm.alike).narrow hn⟩, ((h6.kept hS.2.1).moved hWm.alike).narrow hn⟩
def ai_nw (s : State) : Prop := ∀ q ∈ ai_nest, va_Nw (.methodLinkNest q.1 q.2.1 q.2.2 "FirstPolls") s
def ai_cx2 (p : Program) (s : State) (m : MethodId) (args : Array Value) (meth : Method) (c : Code) (R : Room) (md : ai_MD) (A : Nat → Prop) (sb : ai_SB) (L : Nat) (xs : Nat → Int32) : Prop := ai_cx p s m args meth c R md A sb L xs ∧ ai_nw s ∧ ai_sx A s s.heap
/-- a call: what stands at its start, and at its end -/
def ai_Pc (D : va_G) (ws : va_W) (tys : List (ClassId × FieldType)) (vs : List Value) (sz : Nat) : Array Value → State → Prop := fun v U => v = vs.toArray ∧ U.heap.size = sz ∧ va_P D vwCl ws U.heap ∧ va_K D vwCl tys U ∧ va_D (fun _ => True) ws ∧ va_AO "FirstPolls$Land" U ∧ ai_nw U ∧ ai_sx (va_A ws sz) U U.heap
def ai_Qc (ρ : ai_Rh) (sb : ai_SB) (D : va_G) (ws : va_W) (outs : List ai_O) (A : Nat → Prop) : Array Value → State → Outcome → State → Prop := fun _ st oc t => (∃ o ∈ outs, ∃ σ, ai_le ρ σ ∧ ai_gok σ o.2.1 ∧ ∃ (rv : Option Value) (ws1 : va_W) (tys1 : List (ClassId × FieldType)) (y : List Nat), oc = .returned rv ∧ ws1.map Prod.fst = ws.map Prod.fst ++ y ∧ ai_F2 (ai_mt σ sb (ws1.map Prod.fst)) o.2.2.2.1 rv.toList ∧ va_P D vwCl ws1 t.heap ∧ va_D A ws1 ∧ va_K D vwCl tys1 t ∧ ai_ws σ sb tys1 o.2.2.2.2.1 ws1) ∧ va_F A st t
def ai_cs (md : ai_MD) (L : Nat) (sb : ai_SB) (G : ai_G) (as : List ai_V) (aw : ai_W) (outs : List ai_O) : Prop := ∀ (ρ : ai_Rh) (l : Launch) (D : va_G) (ws : va_W) (tys : List (ClassId × FieldType)) (vs : List Value) (sz : Nat), (∀ σ, ai_le ρ σ → ai_rb L σ) → ai_gok ρ G → ai_F2 (ai_mt ρ sb (ws.map Prod.fst)) as vs → ai_ws ρ sb tys aw ws → Met l md.2.1 (Jvm.Cond.code md.2.1 md.2.2.1 md.2.2.2.1 md.2.2.2.2.1 :: ai_tb) md.2.2.2.2.2.2.1 (ai_Pc D ws tys vs sz) (ai_Qc ρ sb D ws outs (va_A ws sz)) md.2.2.2.2.2.2.1.cells md.2.2.2.2.2.2.1.slots (va_A ws sz)
theorem ai_tb_good {w : Jvm.Cond} (h : w ∈ ai_tb) : (w.onTables && w.keeps) = true ∨ ∃ ty, w = .arrayClass ty := good_of_word (List.mem_filter.mp h).2
theorem ai_good {md : ai_MD} (h : Jvm.Cond.code md.2.1 md.2.2.1 md.2.2.2.1 md.2.2.2.2.1 ∈ ai_tb) : GoodIn ai_tb (Jvm.Cond.code md.2.1 md.2.2.1 md.2.2.2.1 md.2.2.2.2.1 :: ai_tb) := by
  intro w hw
  rcases List.mem_cons.mp hw with rfl | hw
  · exact ⟨h, ai_tb_good h⟩
  · exact ⟨hw, ai_tb_good hw⟩
theorem ai_nw.warm {s U : State} (hW : s.WarmedH U.vm) (h : ai_nw s) : ai_nw U := fun q hq => va_Nw.warmM hW (h q hq)
theorem ai_nw.same {u U : State} (hv : u.vm = U.vm) (h : ai_nw u) : ai_nw U := fun q hq => va_Nw.same rfl hv (h q hq)
theorem ai_Pc_blind (D : va_G) (ws : va_W) (tys : List (ClassId × FieldType)) (vs : List Value) (sz : Nat) : FrameBlind (ai_Pc D ws tys vs sz) := by
  intro a U g mk h
  obtain ⟨h1, h2, h3, h4, h5, h6, h7, h8, ⟨adK, adV, h9, h10⟩, ⟨t, h11, h12⟩, h13⟩ := h
  have al := Vm.Alike.refl U.vm
  exact ⟨h1, h2, h3, va_K.moved (u := U) (U := U.calling g mk a) (Vm.Alike.refl U.vm) h4, h5, va_AO.moved (u := U) (U := U.calling g mk a) (Vm.Alike.refl U.vm) h6, ai_nw.same (u := U) (U := U.calling g mk a) rfl h7, va_Z.moved (u := U) (U := U.calling g mk a) al h8, ⟨adK, adV, vk_R.same (u := U) (U := U.calling g mk a) rfl h9, vk_S.moved (u := U) (U := U.calling g mk a) al h10⟩, ⟨t, va_Z.moved (u := U) (U := U.calling g mk a) al h11, va_T.moved (u := U) (U := U.calling g mk a) al h12⟩, va_Zq.moved (u := U) (U := U.calling g mk a) al h13⟩
section ASR
variable {p : Program} {l : Launch} {e : Env} {R : Room} {s : State} {m : MethodId} {args : Array Value} {below : List Frame} {meth : Method} {c : Code} {H : Heap} {locs : List Loc} {cs ss mc ms : Nat} {Q : State → Prop} {pc : Nat} {ls : Array Slot} {st0 rest : List Value} {free : Addr → Prop} {Qa : State → Outcome → State → Prop}
theorem ai_run (hr : va_Run p l e R s m args below meth c H locs cs ss mc ms (F0 m pc ls st0) rest Qa free) (kk : ∀ (v : Option Value) (st t : State) (H1 : Heap) (L : List Loc), st.heap = H → t.heap = H1 → s.vm.Alike t.vm → Qa st (.returned v) t → (∀ q ∈ L, free q.base) → W p l e R s m args below meth c H1 (locs ++ L) (cs + mc) (ss + ms) Q (F0 m (pc + 3) ls (v.toList ++ rest))) : W p l e R s m args below meth c H locs cs ss Q (F0 m pc ls st0) := by
  intro T hT X
  obtain ⟨v, st₀, t, T', L, h0, X', hL, e1, e2, hq, st⟩ := hr T hT X
  obtain ⟨t2, a1, b1⟩ := kk v st₀ t T'.heap L h0 e1.symm (by rw [← e2]; exact X'.warmed.alike) hq hL T' rfl X'
  exact ⟨t2, st t2 a1, b1⟩
end ASR
section ASC
variable {p : Program} {l : Launch} {e : Env} {R : Room} {s : State} {m : MethodId} {args : Array Value} {below : List Frame} {meth : Method} {c : Code} {cs ss : Nat} {Q : State → Prop} {ρ : ai_Rh} {sb : ai_SB} {L : Nat} {xs : Nat → Int32} {D : va_G} {A : Nat → Prop} {ad : List Nat} {pc nL : Nat} {x : ai_S}
theorem ai_K.at {ws : va_W} {y : List Nat} (h : ai_K p l e R s m args below meth c Q ρ sb D A nL ad pc x) (hy : ws.map Prod.fst = ad ++ y) : ai_K p l e R s m args below meth c Q ρ sb D A nL (ws.map Prod.fst) pc x := by
  intro ls stk H locs ws1 tys y1 h1 h2 h3 h4
  exact h ls stk H locs ws1 tys (y ++ y1) (by rw [h1, hy, List.append_assoc]) h2 h3 h4
theorem ai_K.up {σ : ai_Rh} (hr : ai_le ρ σ) (h : ai_K p l e R s m args below meth c Q σ sb D A nL ad pc x) : ai_K p l e R s m args below meth c Q ρ sb D A nL ad pc x := fun ls stk H locs ws1 tys y1 h1 h2 h3 h4 => h ls stk H locs ws1 tys y1 h1 (h2.up hr) (ai_stk.up hr h3) (h4.up hr)
/-- behind a call: all outcomes of the callee go on -/
theorem ai_call_ok {ws : va_W} {tys : List (ClassId × FieldType)} {H : Heap} {locs : List Loc} {ls : Array Slot} {st0 rest : List Value} {als : ai_L} {rA : List ai_V} {outs : List ai_O} {aw : ai_W} {a : Array Value} {mc ms : Nat} (hA : ∀ q, s.heap.size ≤ q → A q) (hm : ai_mem ρ sb D A s H locs aw ws tys) (hls : ai_lv ρ sb (ws.map Prod.fst) als nL ls) (hst : ai_F2 (ai_mt ρ sb (ws.map Prod.fst)) rA rest) (hr : va_Run p l e R s m args below meth c H locs cs ss mc ms (F0 m pc ls st0) rest (ai_Qc ρ sb D ws outs (va_A ws H.size) a) (va_A ws H.size)) (hK : ∀ o ∈ outs, ∀ σ, ai_le ρ σ → ai_gok σ o.2.1 → ai_K p l e R s m args below meth c Q σ sb D A nL (ws.map Prod.fst) (pc + 3) (als, o.2.2.2.1 ++ rA, o.2.2.2.2.1, cs + mc, ss + ms)) : W p l e R s m args below meth c H locs cs ss Q (F0 m pc ls st0) := by
  obtain ⟨hP, hD, hKk, hS, hW⟩ := hm
  have hAA : ∀ q, va_A ws H.size q → A q := by
    intro q hq
    rcases hq with ⟨k, e9, hk⟩ | hq
    · exact hD.2 k _ hk
    · exact hA q (Nat.le_trans hS.1 hq)
  refine ai_run hr (fun v st t H1 Lc h0 h1 hv hq hL => ?_)
  obtain ⟨⟨o, ho, σ, hσ, hg, rv, ws1, tys1, y, e1, e2, e3, e4, e5, e6, e7⟩, hz, hk⟩ := hq
  cases e1
  rw [h0] at hz hk
  rw [h1] at hz hk e4
  refine hK o ho σ hσ hg ls (v.toList ++ rest) H1 (locs ++ Lc) ws1 tys1 y e2 (by rw [e2]; exact hls.more hσ y) (ai_F2.app e3 (by rw [e2]; exact hst.mono (fun _ _ h => h.more hσ y))) ⟨e4, e5.weaken (fun _ _ _ h => hAA _ h), va_K.moved hv.symm e6, ⟨Nat.le_trans hS.1 hz, fun q g1 g2 => ?_, fun q g => ?_⟩, e7⟩
  · rw [hk q (Nat.lt_of_lt_of_le g1 hS.1) (fun z => g2 (hAA q z))]
    exact hS.2.1 q g1 g2
  · rcases List.mem_append.mp g with g | g
    · exact hS.2.2 q g
    · exact hAA _ (hL q g)
end ASC
section ASM
variable {ρ : ai_Rh} {sb : ai_SB} {L : Nat} {md : ai_MD} {jn : Option ai_Iv}
theorem ai_arg_ok {ad : List Nat} : ∀ {as : List ai_V} {vs : List Value} (i : Nat), ai_F2 (ai_mt ρ sb ad) as vs → ai_F2 (fun (a : Nat × ai_V) (q : Nat × Value) => a.1 = q.1 ∧ ai_mt ρ sb ad a.2 q.2) (ai_arg i as) (lv_args i vs)
  | [], vs, i, h => by rw [h.nil]; trivial
  | a :: as, vs, i, h => by
    obtain ⟨v, vs1, rfl, h1, h2⟩ := h.cons
    refine ⟨⟨rfl, h1⟩, ?_⟩
    rw [← h1.cat]
    exact ai_arg_ok _ h2
theorem ai_sl_len {ad : List Nat} : ∀ {as : List ai_V} {vs : List Value}, ai_F2 (ai_mt ρ sb ad) as vs → (lg_sl vs).length = (as.map ai_cat).sum
  | [], vs, h => by rw [h.nil]; rfl
  | a :: as, vs, h => by
    obtain ⟨v, vs1, rfl, h1, h2⟩ := h.cons
    have ih := ai_sl_len h2
    unfold lg_sl at ih ⊢
    rw [List.flatMap_cons, List.length_append, ih, List.map_cons, List.sum_cons, ← h1.cat]
    rcases lv_cat v with hc | hc <;> simp [hc]
theorem ai_hd_rel {s : State} {H : Heap} {locs : List Loc} {D : va_G} {A : Nat → Prop} {ws : va_W} {tys : List (ClassId × FieldType)} {ls : Array Slot} {stk : List Value} {nL : Nat} {σ : ai_Rh} {a : ai_Iv} {iv y : ai_S} {G0 G1 : ai_G} {cvs : List ai_V} (hG0 : ai_gok ρ G0) (hr : ai_le ρ σ) (hG1 : ai_gok σ G1) (h : ai_hd a G0.length iv G1 y = some cvs) (hls : ai_lv σ sb (ws.map Prod.fst) y.1 nL ls) (hst : ai_F2 (ai_mt σ sb (ws.map Prod.fst)) y.2.1 stk) (hm : ai_mem σ sb D A s H locs y.2.2.1 ws tys) : ∃ τ, ai_le ρ τ ∧ ai_gok τ (G0 ++ a.2.1) ∧ ai_F2 (ai_mt τ sb (ws.map Prod.fst)) iv.2.1 stk ∧ ai_ws τ sb tys iv.2.2.1 ws := by
  unfold ai_hd at h
  obtain ⟨⟨G2, x2, cv2⟩, h1, h2⟩ := ai_bd_ok h
  obtain ⟨h3, h4⟩ := ai_gd_ok h2
  cases h4
  rw [Bool.and_eq_true] at h3
  obtain ⟨c1, τ, t1, t2, t3, t4, t5, us, t6, -⟩ := ai_mps_ok hG1 hls hst hm h1
  have hb := ai_nchk_ok t2 t6 h3.1
  obtain ⟨g1, g2, g3⟩ := ai_mores_le hG0 hb
  have hag : ∀ t z, t < G0.length → τ t = some z → ai_mores ρ G0.length (us.map ai_vz) t = some z := fun t z ht hz => by
    obtain ⟨z0, e0, -⟩ := hG0.at (List.getElem?_eq_getElem ht)
    have e1 := t1 _ _ (hr _ _ e0)
    rw [hz] at e1
    cases e1
    exact g2 _ _ e0
  have hnw : ∀ (j : Nat) (u : Value), us[j]? = some u → ai_mores ρ G0.length (us.map ai_vz) (G0.length + j) = some (ai_vz u) := fun j u hj => g3 j (ai_vz u) (by rw [List.getElem?_map, hj]; rfl)
  have h5 := h3.2
  unfold ai_sbs at h5
  simp only [Bool.and_eq_true, decide_eq_true_eq] at h5
  exact ⟨_, g2, g1, ai_all2_ok (P := ai_mt τ sb (ws.map Prod.fst)) (S := ai_mt (ai_mores ρ G0.length (us.map ai_vz)) sb (ws.map Prod.fst)) (fun _ _ _ h g => ai_sb_ok t2 hag t6 hnw h g) h5.2.1 t4, ai_sbw_ok t2 hag t6 hnw h5.2.2.1 t5.2.2.2.2⟩
theorem ai_meet_ok {jn : Option ai_Iv} {G : ai_G} {as : List ai_V} {aw : ai_W} {outs outs2 : List ai_O} {o : ai_O} {s : State} {H : Heap} {locs : List Loc} {D : va_G} {A : Nat → Prop} {ws : va_W} {tys : List (ClassId × FieldType)} {ls : Array Slot} {stk : List Value} {nL : Nat} {σ : ai_Rh} (h : ai_meet jn G as aw outs = some outs2) (ho : o ∈ outs) (hG : ai_gok ρ G) (hr : ai_le ρ σ) (hg : ai_gok σ o.2.1) (hls : ai_lv σ sb (ws.map Prod.fst) o.2.2.1 nL ls) (hst : ai_F2 (ai_mt σ sb (ws.map Prod.fst)) o.2.2.2.1 stk) (hm : ai_mem σ sb D A s H locs o.2.2.2.2.1 ws tys) : ∃ o' ∈ outs2, ∃ τ, ai_le ρ τ ∧ ai_gok τ o'.2.1 ∧ ai_F2 (ai_mt τ sb (ws.map Prod.fst)) o'.2.2.2.1 stk ∧ ai_ws τ sb tys o'.2.2.2.2.1 ws := by
  unfold ai_meet at h
  split at h
  · cases h
    exact ⟨o, ho, σ, hr, hg, hst, hm.2.2.2.2⟩
  · rename_i a
    obtain ⟨j, hj, h1⟩ := ai_bd_ok h
    obtain ⟨hall, h2⟩ := ai_gd_ok h1
    cases h2
    rw [List.all_eq_true] at hall
    obtain ⟨cvs, hhd⟩ := Option.isSome_iff_exists.mp (hall o ho)
    obtain ⟨τ, q1, q2, q3, q4⟩ := ai_hd_rel hG hr hg hhd hls hst hm
    exact ⟨_, List.mem_cons_self, τ, q1, q2, q3, q4⟩
/-- a method's body gives its contract -/
theorem ai_met {G : ai_G} {as : List ai_V} {aw : ai_W} {outs outs2 : List ai_O} (hmo : ai_mok md) (hkd : ¬ md.2.2.2.2.2.2.2 = 3) (hmt : ai_meet jn G as aw outs = some outs2) (hsum : (as.map ai_cat).sum ≤ md.2.2.2.1)
    (body : ∀ (ρ : ai_Rh), ai_gok ρ G → (∀ σ, ai_le ρ σ → ai_rb L σ) → ∀ {p : Program} {l : Launch} {e : Env} {R : Room} {s : State} {m : MethodId} {args : Array Value} {below : List Frame} {meth : Method} {c : Code} {Q : State → Prop} {D : va_G} {A : Nat → Prop} {xs : Nat → Int32} {ad : List Nat}, ai_cx2 p s m args meth c R md A sb L xs → (∀ o ∈ outs, ai_rt md o → ∀ σ, ai_le ρ σ → ai_gok σ o.2.1 → ai_K p l e R s m args below meth c Q σ sb D A md.2.2.2.1 ad o.1 o.2.2) → ai_K p l e R s m args below meth c Q ρ sb D A md.2.2.2.1 ad 0 (ai_arg 0 as, [], aw, 0, 0)) : ai_cs md L sb G as aw outs2 := by
  intro ρ l D ws tys vs sz hrb hG has hws
  refine Met.ofW (cc := md.2.2.1) (maxL := md.2.2.2.1) (ret := md.2.2.2.2.1) hmo.2.1 rfl ?_
  intro p e s m args below meth c s₁ B hml hv
  obtain ⟨rfl, hsz, hP, hKk, hD0, hao, hnw, hsx⟩ := hv
  subst hsz
  have hD := hD0.self (sz := s.heap.size)
  have hts := atoms_spec (ws := Jvm.Cond.code md.2.1 md.2.2.1 md.2.2.2.1 md.2.2.2.2.1 :: ai_tb) B.pre
  have hin : md.2.1.name = "<init>" → meth.name = "<init>" := fun h => (name_of_methodNamed B.named B.method).1.trans h
  have hown : s.vm.findClass md.1 = some m.cls := by rw [hmo.1]; exact findClass_of_methodNamed B.named
  have hlocks := B.notSynchronized
  have cx : ai_cx2 p s m vs.toArray meth c (headSpec (Jvm.Cond.code md.2.1 md.2.2.1 md.2.2.2.1 md.2.2.2.2.1 :: ai_tb) md.2.2.2.2.2.2.1).room md (va_A ws s.heap.size) sb L (fun _ => 0) := ⟨⟨B.exec, B.bytes, hml, hown, fun w hw => hts w (List.mem_cons_of_mem _ hw), fun q h => Or.inr h, hin, rfl, hao, fun h => absurd h hkd⟩, hnw, hsx⟩
  have hl := lv_entry vs (n := md.2.2.2.1) (by rw [ai_sl_len has]; exact hsum)
  rw [lg_entry_eq]
  refine body ρ hG hrb (ad := ws.map Prod.fst) (D := D) cx ?_ _ [] s.heap [] ws tys [] (List.append_nil _).symm ⟨_, hl, ai_arg_ok 0 has⟩ trivial ⟨hP, hD, hKk, va_S.rf, hws⟩
  intro o ho hrt σ hσ hg ls stk H locs ws1 tys1 y hy hls hst hm
  obtain ⟨⟨ins, hd, hrB⟩, hc1, hc2⟩ := hrt
  obtain ⟨hP1, hD1, hK1, hS1, hW1⟩ := id hm
  refine W.widen hc1 hc2 ?_
  have hx := B.exec
  have hb := B.bytes
  have hr := B.returns
  have Qok : ∀ (rv : Option Value), ai_F2 (ai_mt σ sb (ws1.map Prod.fst)) o.2.2.2.1 rv.toList → ∀ t : State, t.heap = H → s.WarmedH t.vm → ai_Qc ρ sb D ws outs2 (va_A ws s.heap.size) vs.toArray s (.returned rv) t := by
    intro rv h1 t ht hWt
    obtain ⟨o', ho', τ, q1, q2, q3, q4⟩ := ai_meet_ok hmt ho hG hσ hg hls h1 ⟨hP1, hD1, hK1, hS1, hW1⟩
    exact ⟨⟨o', ho', τ, q1, q2, rv, ws1, tys1, y, rfl, hy, q3, by rw [ht]; exact hP1, hD1, va_K.moved hWt.alike hK1, q4⟩, hS1.F ht⟩
  unfold ai_retB at hrB
  split at hrB
  · split at hrB
    · rename_i v hv
      rw [hv] at hst
      obtain ⟨u, stk1, rfl, mv, hst1⟩ := hst.cons
      rw [hst1.nil]
      split at hrB
      · rename_i hrt
        obtain ⟨z, rfl, -⟩ := ai_int hg mv hrB
        exact W.iret hx hb (hr.trans hrt) (Qok (some (.int z)) (by rw [hv]; exact ⟨mv, trivial⟩)) hS1.2.2 hd
      · rename_i hrt
        have hf := ai_fit_ok hg mv hrB
        unfold ai_fit at hrB
        simp only [Bool.and_eq_true] at hrB
        obtain ⟨z, rfl, -⟩ := ai_int hg mv hrB.1
        exact W.zret hx hb (hr.trans hrt) hf.1 (Qok (some (.int z)) (by rw [hv]; exact ⟨mv, trivial⟩)) hS1.2.2 hd
      · cases hrB
    · cases hrB
  · split at hrB
    · rename_i v hv
      rw [hv] at hst
      obtain ⟨u, stk1, rfl, mv, hst1⟩ := hst.cons
      rw [hst1.nil]
      split at hrB
      · rename_i hrt
        obtain ⟨z, rfl, -⟩ := ai_lng hg mv hrB
        exact W.lret hx hb (hr.trans hrt) (Qok (some (.long z)) (by rw [hv]; exact ⟨mv, trivial⟩)) hS1.2.2 hd
      · cases hrB
    · cases hrB
  · split at hrB
    · rename_i hv
      rw [hv] at hst
      rw [hst.nil]
      split at hrB
      · rename_i hrt
        exact W.vret hx hb (hr.trans hrt) (Qok none (by rw [hv]; trivial)) hS1.2.2 hd
      · cases hrB
    · cases hrB
  · cases hrB
end ASM
