/-! ===== it is as the machine goes: methods ===== -/
section HSM
variable {p : Program} {l : Launch} {e : Env} {R : Room} {s : State} {m : MethodId} {args : Array Value} {below : List Frame} {meth : Method} {c : Code} {Q : State → Prop} {D : va_G} {A : Nat → Prop} {nL : Nat} {sb : ai_SB} {sh : List (Nat × Nat)} {ad : List Nat} {xs : Nat → Int32} {M : Nat} {E : hs_E} {wl : List Nat} {P : hs_Q} {hs : List Nat}
theorem hs_snd {J : Nat → hs_L → List hs_V → hs_S → Prop} (hnL : (ai_T M).2.2.2.1 = nL) (cx : ai_cx2 p s m args meth c R (ai_T M) A sb 0 xs) (hE : ∀ K, hs_C sh K (E K)) (hret : ∀ pc lv' ro S', hs_rv (ai_T M) pc ro → P ro S' → hs_K p l e R s m args below meth c Q D A nL sb sh ad pc lv' ro S') (head : ∀ h lv st S, h ∈ hs → J h lv st S → hs_K p l e R s m args below meth c Q D A nL sb sh ad h lv st S) : ∀ (n : Nat) (code : List ai_E) (lv : hs_L) (st : List hs_V) (S : hs_S), hs_wp E wl sh P nL hs J M n code lv st S → ai_codeok ai_T (ai_T M) code → ∃ en r, code = en :: r ∧ hs_K p l e R s m args below meth c Q D A nL sb sh ad en.1 lv st S
  | 0, _, _, _, _, hw, _ => by cases hw
  | n + 1, [], _, _, _, hw, _ => by cases hw
  | n + 1, en :: r, lv, st, S, hw, hc => by
    refine ⟨en, r, rfl, hs_in_ok hnL cx hc hE (f := hs_to (hs_wp E wl sh P nL hs J M n) hs J) ?_ hret hw⟩
    intro code' lv' st' S' g hc'
    cases code' with
    | nil => cases g
    | cons en' r' =>
      unfold hs_to at g
      dsimp only at g
      split at g
      · rename_i e1
        exact ⟨en', r', rfl, head _ _ _ _ (by simpa using e1) g⟩
      · exact hs_snd hnL cx hE hret head n _ _ _ _ g hc'
def hs_J (I : hs_L → List hs_V → hs_S → Prop) (lv : hs_L) (st : List hs_V) (S : hs_S) : Prop := ∃ g, hs_le g lv ∧ I g st S
theorem hs_cuts {n : Nat} {Inv : Nat → Nat → hs_L → List hs_V → hs_S → Prop} (hnL : (ai_T M).2.2.2.1 = nL) (cx : ai_cx2 p s m args meth c R (ai_T M) A sb 0 xs) (hE : ∀ K, hs_C sh K (E K)) (hret : ∀ pc lv' ro S', hs_rv (ai_T M) pc ro → P ro S' → hs_K p l e R s m args below meth c Q D A nL sb sh ad pc lv' ro S') (step : ∀ h, h ∈ hs → ∀ k g st S, Inv h k g st S → hs_wp E wl sh P nL hs (fun h' lv st S => ∃ k', k' < k ∧ hs_J (Inv h' k') lv st S) M n (ai_B1 M h) g st S) : ∀ (k h : Nat) (lv : hs_L) (st : List hs_V) (S : hs_S), h ∈ hs → hs_J (Inv h k) lv st S → hs_K p l e R s m args below meth c Q D A nL sb sh ad h lv st S := by
  intro k
  induction k using Nat.strongRecOn with
  | ind k ih =>
    intro h lv st S hh hJ
    obtain ⟨g, h1, h2⟩ := hJ
    obtain ⟨en, r, e1, k1⟩ := hs_snd hnL cx hE hret (fun h' lv' st' S' hh' hJ' => by
      obtain ⟨k', q1, q2⟩ := hJ'
      exact ih k' q1 h' lv' st' S' hh' q2) n _ _ _ _ (step h hh k g st S h2) (ai_hB M h).1
    rw [(ai_hB M h).2 en r e1] at k1
    exact fun ls stk H locs ws tys ha hls => k1 ls stk H locs ws tys ha (hls.le h1)
end HSM
def hs_arg : Nat → List hs_V → hs_L
  | _, [] => []
  | i, v :: vs => (i, v) :: hs_arg (bif v.1 == 1 then i + 2 else i + 1) vs
theorem hs_arg_ok {ad : List Nat} : ∀ {as : List hs_V} {vs : List Value} (i : Nat), ai_F2 (hs_vm ad) as vs → ai_F2 (fun (a : Nat × hs_V) (q : Nat × Value) => a.1 = q.1 ∧ hs_vm ad a.2 q.2) (hs_arg i as) (lv_args i vs)
  | [], vs, i, h => by rw [h.nil]; trivial
  | a :: as, vs, i, h => by
    obtain ⟨v, vs1, rfl, h1, h2⟩ := h.cons
    refine ⟨⟨rfl, h1⟩, ?_⟩
    have e : (if v.category = 2 then i + 2 else i + 1) = (bif a.1 == 1 then i + 2 else i + 1) := by
      rw [h1.cat]
      cases a.1 == 1 <;> rfl
    rw [e]
    exact hs_arg_ok _ h2
theorem hs_sl_len {ad : List Nat} : ∀ {as : List hs_V} {vs : List Value}, ai_F2 (hs_vm ad) as vs → (lg_sl vs).length = (as.map hs_cat).sum
  | [], vs, h => by rw [h.nil]; rfl
  | a :: as, vs, h => by
    obtain ⟨v, vs1, rfl, h1, h2⟩ := h.cons
    have ih := hs_sl_len h2
    have hc := h1.cat
    obtain ⟨n, z⟩ := a
    match n, h1 with
    | 0, h1 => obtain ⟨x, rfl, -⟩ := h1; rw [List.map_cons, List.sum_cons, ← ih]; simp [lg_sl, hs_cat, Nat.add_comm]; rfl
    | 1, h1 => obtain ⟨x, rfl, -⟩ := h1; rw [List.map_cons, List.sum_cons, ← ih]; simp [lg_sl, hs_cat, Nat.add_comm]; rfl
    | 4, h1 => obtain ⟨q, -, rfl⟩ := h1; rw [List.map_cons, List.sum_cons, ← ih]; simp [lg_sl, hs_cat, Nat.add_comm]; rfl
/-- a method's contract out of cuts of its code -/
theorem hs_met {E : hs_E} {sh : List (Nat × Nat)} {K nL n0 n : Nat} {t : hs_T} (wl hs : List Nat) (hE : ∀ K, hs_C sh K (E K)) (hkd : ¬ (ai_T K).2.2.2.2.2.2.2 = 3) (hnL : (ai_T K).2.2.2.1 = nL) (hne : (ai_B1 K 0).isEmpty = false) (body : ∀ as S post, t as S post → (as.map hs_cat).sum ≤ nL ∧ ∃ Inv : Nat → Nat → hs_L → List hs_V → hs_S → Prop, hs_wp E wl sh post nL hs (fun h lv st S => ∃ k, hs_J (Inv h k) lv st S) K n0 (ai_B1 K 0) (hs_arg 0 as) [] S ∧ ∀ h, h ∈ hs → ∀ k g st S, Inv h k g st S → hs_wp E wl sh post nL hs (fun h' lv st S => ∃ k', k' < k ∧ hs_J (Inv h' k') lv st S) K n (ai_B1 K h) g st S) : hs_C sh K t := by
  intro sb l D ws tys vs sz as S post ht has hws
  obtain ⟨hsum, Inv, hstart, hstep⟩ := body as S post ht
  have hmo := ai_hM K hkd
  refine Met.ofW (cc := (ai_T K).2.2.1) (maxL := (ai_T K).2.2.2.1) (ret := (ai_T K).2.2.2.2.1) hmo.2.1 rfl ?_
  intro p e s m args below meth c s₁ B hml hv
  obtain ⟨rfl, hsz, hP, hKk, hD0, hao, hnw, hsx⟩ := hv
  subst hsz
  have hD := hD0.self (sz := s.heap.size)
  have hts := atoms_spec (ws := Jvm.Cond.code (ai_T K).2.1 (ai_T K).2.2.1 (ai_T K).2.2.2.1 (ai_T K).2.2.2.2.1 :: ai_tb) B.pre
  have hin : (ai_T K).2.1.name = "<init>" → meth.name = "<init>" := fun h => (name_of_methodNamed B.named B.method).1.trans h
  have hown : s.vm.findClass (ai_T K).1 = some m.cls := by rw [hmo.1]; exact findClass_of_methodNamed B.named
  have hlocks := B.notSynchronized
  have cx : ai_cx2 p s m vs.toArray meth c (headSpec (Jvm.Cond.code (ai_T K).2.1 (ai_T K).2.2.1 (ai_T K).2.2.2.1 (ai_T K).2.2.2.2.1 :: ai_tb) (ai_T K).2.2.2.2.2.2.1).room (ai_T K) (va_A ws s.heap.size) sb 0 (fun _ => 0) := ⟨⟨B.exec, B.bytes, hml, hown, fun w hw => hts w (List.mem_cons_of_mem _ hw), fun q h => Or.inr h, hin, rfl, hao, fun h => absurd h hkd⟩, hnw, hsx⟩
  have hl := lv_entry vs (n := (ai_T K).2.2.2.1) (by rw [hs_sl_len has, hnL]; exact hsum)
  rw [lg_entry_eq]
  have hret : ∀ pc lv' ro S', hs_rv (ai_T K) pc ro → post ro S' → hs_K p l e (headSpec (Jvm.Cond.code (ai_T K).2.1 (ai_T K).2.2.1 (ai_T K).2.2.2.1 (ai_T K).2.2.2.2.1 :: ai_tb) (ai_T K).2.2.2.2.2.2.1).room s m vs.toArray below meth c (MQ below (hs_Qc sb sh D ws post (va_A ws s.heap.size)) vs.toArray s 0 0 (va_A ws s.heap.size)) D (va_A ws s.heap.size) nL sb sh (ws.map Prod.fst) pc lv' ro S' := by
    intro pc lv' ro S' hrv hpo ls stk H locs ws1 tys1 ha hls hst hP1 hD1 hK1 hS1 hW1
    have Qok : ∀ (rv : Option Value), stk = rv.toList → ∀ t : State, t.heap = H → s.WarmedH t.vm → hs_Qc sb sh D ws post (va_A ws s.heap.size) vs.toArray s (.returned rv) t := by
      intro rv h1 t ht hWt
      exact ⟨⟨ro, S', rv, ws1, tys1, rfl, ha, by rw [ha, ← h1]; exact hst, by rw [ht]; exact hP1, hD1, va_K.moved hWt.alike hK1, hW1, hpo⟩, hS1.F ht⟩
    rcases hrv with ⟨hd, z, rfl, hz⟩ | ⟨hd, z, rfl, hz⟩ | ⟨hd, rfl, hz⟩
    · obtain ⟨u, stk1, rfl, ⟨x, rfl, gx⟩, hst1⟩ := hst.cons
      rw [hst1.nil] at Qok ⊢
      rcases hz with hz | ⟨hz, hb01⟩
      · exact W.iret B.exec B.bytes (B.returns.trans hz) (Qok (some (.int x)) rfl) hS1.2.2 hd
      · have h01 := ai_bool (y := x) (by omega)
        exact W.zret B.exec B.bytes (B.returns.trans hz) (by rcases h01 with rfl | rfl <;> decide +kernel) (Qok (some (.int x)) rfl) hS1.2.2 hd
    · obtain ⟨u, stk1, rfl, ⟨x, rfl, gx⟩, hst1⟩ := hst.cons
      rw [hst1.nil] at Qok ⊢
      exact W.lret B.exec B.bytes (B.returns.trans hz) (Qok (some (.long x)) rfl) hS1.2.2 hd
    · rw [hst.nil] at Qok ⊢
      exact W.vret B.exec B.bytes (B.returns.trans hz) (Qok none rfl) hS1.2.2 hd
  obtain ⟨en, rr, e1, k1⟩ := hs_snd hnL cx hE hret (fun h lv st S hh hJ => by
    obtain ⟨k, hJ⟩ := hJ
    exact hs_cuts hnL cx hE hret hstep k h lv st S hh hJ) n0 _ _ _ _ hstart (ai_hB K 0).1
  rw [(ai_hB K 0).2 en rr e1] at k1
  exact k1 _ _ _ _ _ tys rfl ⟨_, by rw [← hnL]; exact hl, hs_arg_ok 0 has⟩ trivial hP hD hKk va_S.rf hws
