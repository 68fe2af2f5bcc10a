/-! ===== a call of the law's ===== -/
abbrev lw_A (s : State) : Nat → Prop := fun q => s.heap.size ≤ q
section LAC
variable {p : Program} {l : Launch} {e : Env} {R : Room} {s : State} {m : MethodId} {args : Array Value} {below : List Frame} {meth : Method} {c : Code} {H : Heap} {locs : List Loc} {cs ss : Nat} {Q : State → Prop} {D : va_G} {own : String} {cc : ByteArray} {ls : Array Slot} {pc : Nat}
/-- what stands at the law's entry, for its calls -/
def la_cx (p : Program) (s : State) (m : MethodId) (args : Array Value) (c : Code) (R : Room) (own : String) (cc : ByteArray) : Prop := p.tables.exec = Jvm.exec ∧ c.code = cc ∧ c.maxLocals = 4 ∧ s.vm.findClass own = some m.cls ∧ (∀ w ∈ ai_tb, w.before args s = true) ∧ va_AO "FirstPolls$Land" s ∧ ai_nw s ∧ ai_sx (lw_A s) s s.heap ∧ R.frames = 2048 ∧ R.locals = 84000
def la_G (D : va_G) (ws : va_W) (Φ : Int32 → va_W → List (ClassId × FieldType) → Prop) (A : Nat → Prop) : Array Value → State → Outcome → State → Prop := fun _ st oc t => (∃ (z : Int32) (ws1 : va_W) (tys1 : List (ClassId × FieldType)) (y : List Nat), oc = .returned (some (.int z)) ∧ ws1.map Prod.fst = ws.map Prod.fst ++ y ∧ va_P D vwCl ws1 t.heap ∧ va_D A ws1 ∧ va_K D vwCl tys1 t ∧ Φ z ws1 tys1) ∧ va_F A st t
theorem la_call {md : ai_MD} {X Y : va_W} {tys : List (ClassId × FieldType)} {Φ : Int32 → va_W → List (ClassId × FieldType) → Prop} {xs : List Int32} {b ci idx : Nat} {fs : List Value} {q9 : vw_C} {rest : List Value} (cx : la_cx p s m args c R own cc) (hmo : ai_mok md) (hkd : md.2.2.2.2.2.2.2 = 0) (hrm : md.2.2.2.2.2.2.1.frames ≤ 2000 ∧ md.2.2.2.2.2.2.1.locals ≤ 30000 ∧ md.2.2.2.1 ≤ 100) (hnp : md.2.2.2.2.2.1 = xs.length) (hlk : Jvm.Cond.methodLink own idx md.2.1 ∈ ai_tb) (hls : ls.size = 4) (hP : va_P D vwCl (X ++ Y) H) (hD : va_D (lw_A s) (X ++ Y)) (hK : va_K D vwCl tys s) (hS : va_S (lw_A s) s.heap H locs) (hev : X[0]? = some (b, .inr (ci, fs))) (hq : vwCl[ci]? = some q9) (hq8 : q9.1 = md.2.1.cls) (hM : Met l md.2.1 (Jvm.Cond.code md.2.1 md.2.2.1 md.2.2.2.1 md.2.2.2.2.1 :: ai_tb) md.2.2.2.2.2.2.1 (ai_Pc D X tys (.ref b :: xs.map .int) H.size) (la_G D X Φ (va_A X H.size)) md.2.2.2.2.2.2.1.cells md.2.2.2.2.2.2.1.slots (va_A X H.size)) (hcs : cs + md.2.2.2.2.2.2.1.cells ≤ R.cells ∧ ss + md.2.2.2.2.2.2.1.slots ≤ R.slots) (hcat : (rest.map fun v => v.category).sum ≤ 8) (hdg : decode cc pc = .ok (.invokevirtual idx, 3))
    (kk : ∀ (z : Int32) (X1 : va_W) (tys1 : List (ClassId × FieldType)) (y : List Nat) (H1 : Heap) (Lc : List Loc), X1.map Prod.fst = X.map Prod.fst ++ y → va_P D vwCl (X1 ++ Y) H1 → va_D (lw_A s) (X1 ++ Y) → va_K D vwCl tys1 s → va_S (lw_A s) s.heap H1 (locs ++ Lc) → Φ z X1 tys1 → W p l e R s m args below meth c H1 (locs ++ Lc) (cs + md.2.2.2.2.2.2.1.cells) (ss + md.2.2.2.2.2.2.1.slots) Q (F0 m (pc + 3) ls (.int z :: rest))) : W p l e R s m args below meth c H locs cs ss Q (F0 m pc ls ((xs.map Value.int).reverse ++ .ref b :: rest)) := by
  obtain ⟨hx, hb, hml, hown, hts, hao, hnw, hsx, hRf, hRl⟩ := cx
  obtain ⟨m1, m2, m3, m4, m5, m6, m7, m8⟩ := hmo
  have hPX := la_Pl hP
  have hDX := la_Dl hD
  have hA : ∀ q, s.heap.size ≤ q → lw_A s q := fun _ h => h
  have hpre : PreV s H md.2.1.cls b (ai_Pc D X tys (.ref b :: xs.map .int) H.size) (xs.map .int) := ⟨ai_Pc_blind _ _ _ _ _, by rw [← hq8]; exact va_recv hK hPX hq hev, fun U hU hWm => ⟨rfl, by rw [hU], by rw [hU]; exact hPX, va_K.moved hWm.alike hK, hDX.weaken (fun _ _ _ _ => trivial), va_AO.moved hWm.alike hao, hnw.warm hWm, hsx.call hS hDX hA hU hWm⟩⟩
  have run : va_Run p l e R s m args below meth c H locs cs ss md.2.2.2.2.2.2.1.cells md.2.2.2.2.2.2.1.slots (F0 m pc ls ((xs.map Value.int).reverse ++ .ref b :: rest)) rest (la_G D X Φ (va_A X H.size) (.ref b :: xs.map Value.int).toArray) (va_A X H.size) :=
    va_runV (cc := cc) (nL := 4) (own := own) (Ts := ai_tb) ⟨hx, hb, hml, hown, hts⟩ hM ⟨callB_of md.2.2.2.2.2.1 hts (ai_good m3) rfl rfl rfl (hts _ m5) (hts _ hlk) m4 ⟨by rw [hRf]; omega, by rw [hRl]; omega⟩, hts _ (m6 hkd).1, hts _ (m6 hkd).2⟩ hpre rfl (by rw [List.length_map]; exact hnp.symm) hls rfl (by show 2 * 0 + _ ≤ 8; omega) hdg hcs
  refine ai_run run (fun v st t H1 Lc h0 h1 hv hq hL => ?_)
  obtain ⟨⟨z, X1, tys1, y, e1, e2, e3, e4, e5, e6⟩, hz, hk⟩ := hq
  cases e1
  rw [h0] at hz hk
  rw [h1] at hz hk e3
  obtain ⟨g1, g2⟩ := la_join (H0 := s.heap) (y := []) hP hD hA hS.1 e3 e4 hk
  refine kk z X1 tys1 y H1 Lc e2 g1 g2 (va_K.moved hv.symm e5) ⟨Nat.le_trans hS.1 hz, fun q a1 a2 => ?_, fun q g => ?_⟩ e6
  · rw [hk q (Nat.lt_of_lt_of_le a1 hS.1) (fun w => a2 (by
      rcases w with ⟨k, e9, w⟩ | w
      · exact hDX.2 k _ w
      · exact Nat.le_trans hS.1 w))]
    exact hS.2.1 q a1 a2
  · rcases List.mem_append.mp g with g | g
    · exact hS.2.2 q g
    · rcases hL q g with ⟨k, e9, w⟩ | w
      · exact hDX.2 k _ w
      · exact Nat.le_trans hS.1 w
end LAC
