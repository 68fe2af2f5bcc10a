section HWC
variable {p : Program} {l : Launch} {e : Env} {R : Room} {s : State} {m : MethodId} {args : Array Value} {below : List Frame} {meth : Method} {c : Code} {Q : State → Prop} {D : va_G} {A : Nat → Prop} {ad : List Nat} {tys : List (ClassId × FieldType)} {cs ss nL : Nat} {cc : ByteArray} {own : String} {pc : Nat} {lv : hw_L} {st : List hw_V} {X : hw_W}
theorem hw_put {q : vw_C} {ci nb i k : Nat} {fs : List hw_V} {v : hw_V} (hx : p.tables.exec = Jvm.exec) (hb : c.code = cc) (hown : s.vm.findClass own = some m.cls) (hts : ∀ w ∈ ai_tb, w.before args s = true) (hq : vwCl[ci]? = some q) (hk : nb < q.2.2) (hl : Jvm.Cond.fieldLink own i (q.2.1 nb).1 (q.2.1 nb).2.1 (q.2.1 nb).2.2.1 ∈ ai_tb) (hfin : (q.2.1 nb).2.2.2 = false) (hX : X[k]? = some (.inl (ci, fs))) (hlt : nb < fs.length) (hn : narrow (ai_ty ci nb) (hw_v ad v) = hw_v ad v) (hfit : fits (ai_ty ci nb) (hw_v ad v) = true) (hd : decode cc pc = .ok (.putfield i, 3)) (kk : hw_K p l e R s m args below meth c Q D A nL ad tys cs ss (pc + 3) lv st (X.set k (.inl (ci, fs.set nb v)))) : hw_K p l e R s m args below meth c Q D A nL ad tys cs ss pc lv (v :: .inr k :: st) X := by
  intro ls H locs ws ha hl' hP hD hK hS hW
  obtain ⟨a, e9, h9, hr, hmc⟩ := hw_at hW hX
  have hmc' : e9 = .inr (ci, fs.map (hw_v (ws.map Prod.fst))) := hmc
  subst hmc'
  have hr' : hw_v ad (.inr k) = .ref a := by rw [← ha]; exact hr
  rw [List.map_cons, List.map_cons, hr']
  have hcl := ai_clok_ok ci q hq
  refine va_put (C := q.1) (T := q.2.1) (N := q.2.2) hx hb hts hcl.1 (ai_ty ci) hcl.2.1 hcl.2.2 hown hK hP hD hS k h9 hq nb hk (hts _ hl) (fun _ h => h) hfin (hcl.2.1 nb hk) hn hfit (by rw [List.length_map]; exact hlt) hd (fun H1 locs1 g1 g2 g3 => kk ls H1 locs1 _ (by rw [ai_fst_set h9]; exact ha) hl' g1 g2 hK g3 (hw_set hW h9 ?_))
  show _ = _
  rw [List.map_set, ha]
theorem hw_last {i : Int32} {x : Int64} {k n : Nat} {f : Nat → Int64} (hx : p.tables.exec = Jvm.exec) (hb : c.code = cc) (hX : X[k]? = some (.inr (1, n, .inr (.inl f)))) (hin : vp_in i n) (hd : decode cc pc = .ok (.lastore, 1)) (kk : hw_K p l e R s m args below meth c Q D A nL ad tys cs ss (pc + 1) lv st (X.set k (.inr (1, n, .inr (.inl (vp_updL f i.toNatClampNeg x)))))) : hw_K p l e R s m args below meth c Q D A nL ad tys cs ss pc lv (.inl (.long x) :: .inl (.int i) :: .inr k :: st) X := by
  intro ls H locs ws ha hl' hP hD hK hS hW
  obtain ⟨a, e9, h9, hr, cA, t0, rfl, ht⟩ := hw_at hW hX
  have hr' : hw_v ad (.inr k) = .ref a := by rw [← ha]; exact hr
  rw [List.map_cons, List.map_cons, List.map_cons, hr']
  exact va_last hx hb hK hP hD hS k t0 h9 ht hin hd (fun H1 locs1 g1 g2 g3 => kk ls H1 locs1 _ (by rw [ai_fst_set h9]; exact ha) hl' g1 g2 hK g3 (hw_set hW h9 ⟨cA, t0, rfl, ht⟩))
theorem hw_zast {i x : Int32} {k n : Nat} {f : Nat → Int32} (hx : p.tables.exec = Jvm.exec) (hb : c.code = cc) (hX : X[k]? = some (.inr (2, n, .inl f))) (hin : vp_in i n) (hd : decode cc pc = .ok (.bastore, 1)) (kk : hw_K p l e R s m args below meth c Q D A nL ad tys cs ss (pc + 1) lv st (X.set k (.inr (2, n, .inl (upd f i.toNatClampNeg (vp_nar .boolean x)))))) : hw_K p l e R s m args below meth c Q D A nL ad tys cs ss pc lv (.inl (.int x) :: .inl (.int i) :: .inr k :: st) X := by
  intro ls H locs ws ha hl' hP hD hK hS hW
  obtain ⟨a, e9, h9, hr, cA, t0, rfl, ht⟩ := hw_at hW hX
  have hr' : hw_v ad (.inr k) = .ref a := by rw [← ha]; exact hr
  rw [List.map_cons, List.map_cons, List.map_cons, hr']
  exact va_zast hx hb hK hP hD hS k t0 h9 ht hin hd (fun H1 locs1 g1 g2 g3 => kk ls H1 locs1 _ (by rw [ai_fst_set h9]; exact ha) hl' g1 g2 hK g3 (hw_set hW h9 ⟨cA, t0, rfl, ht⟩))
end HWC
