/-! ===== methods whose code begins with a cut ===== -/
theorem hs_le_of {g : hs_L} : ∀ {l : hs_L}, (∀ q, q ∈ l → hs_lk g q.1 = some q.2) → hs_le l g
  | [], _ => trivial
  | q :: r, h => ⟨h q List.mem_cons_self, hs_le_of (fun q' h' => h q' (List.mem_cons_of_mem _ h'))⟩
theorem hs_lk_mem {q : Nat × hs_V} : ∀ {l : hs_L}, q ∈ l → (l.map Prod.fst).Nodup → hs_lk l q.1 = some q.2
  | [], h, _ => by cases h
  | (k, v) :: r, h, hn => by
    rw [List.map_cons, List.nodup_cons] at hn
    unfold hs_lk
    rcases List.mem_cons.mp h with rfl | h
    · rw [beq_self_eq_true]; rfl
    · have e : ¬ k = q.1 := fun e => hn.1 (by rw [e]; exact List.mem_map.mpr ⟨q, h, rfl⟩)
      rw [beq_false_of_ne e, cond_false]
      exact hs_lk_mem h hn.2
theorem hs_le_rf (l : hs_L) (h : (l.map Prod.fst).Nodup) : hs_le l l := hs_le_of (fun _ hq => hs_lk_mem hq h)
theorem hs_arg_ge : ∀ (as : List hs_V) (i : Nat), ∀ q ∈ hs_arg i as, i ≤ q.1
  | [], _, q, h => by cases h
  | v :: vs, i, q, h => by
    rcases List.mem_cons.mp h with rfl | h
    · exact Nat.le_refl _
    · have := hs_arg_ge vs _ q h
      cases e : (v.1 == 1) with
      | true => rw [e, cond_true] at this; omega
      | false => rw [e, cond_false] at this; omega
theorem hs_arg_nd : ∀ (i : Nat) (as : List hs_V), ((hs_arg i as).map Prod.fst).Nodup
  | _, [] => List.nodup_nil
  | i, v :: vs => by
    show ((i, v) :: hs_arg (bif v.1 == 1 then i + 2 else i + 1) vs |>.map Prod.fst).Nodup
    rw [List.map_cons, List.nodup_cons]
    refine ⟨fun h => ?_, hs_arg_nd _ vs⟩
    obtain ⟨q, h1, h2⟩ := List.mem_map.mp h
    have := hs_arg_ge vs _ q h1
    dsimp only at h2
    cases e : (v.1 == 1) with
    | true => rw [e, cond_true] at this; omega
    | false => rw [e, cond_false] at this; omega
/-- the same, where the code begins with a cut -/
theorem hs_met1 {E : hs_E} {sh : List (Nat × Nat)} {K nL n : Nat} {t : hs_T} (wl hs : List Nat) (hE : ∀ K, hs_C sh K (E K)) (hkd : ¬ (ai_T K).2.2.2.2.2.2.2 = 3) (hnL : (ai_T K).2.2.2.1 = nL) (hne : (ai_B1 K 0).isEmpty = false) (body : ∀ as S post, t as S post → (as.map hs_cat).sum ≤ nL ∧ ∃ Inv : Nat → Nat → hs_L → List hs_V → hs_S → Prop, (0 ∈ hs ∧ ∃ k, Inv 0 k (hs_arg 0 as) [] S) ∧ ∀ h, h ∈ hs → ∀ k g st S, Inv h k g st S → hs_wp E wl sh post nL hs (fun h' lv st S => ∃ k', k' < k ∧ hs_J (Inv h' k') lv st S) K n (ai_B1 K h) g st S) : hs_C sh K t := by
  intro sb l D ws tys vs sz as S post ht has hws
  obtain ⟨hsum, Inv, hstart, hstep⟩ := body as S post ht
  have hmo := ai_hM K hkd
  refine Met.ofW (cc := (ai_T K).2.2.1) (maxL := (ai_T K).2.2.2.1) (ret := (ai_T K).2.2.2.2.1) hmo.2.1 rfl ?_
  intro p e s m args below meth c s₁ B hml hv
  obtain ⟨rfl, hsz, hP, hKk, hD0, hao, hnw, hsx⟩ := hv
  subst hsz
  have hD := hD0.self (sz := s.heap.size)
  have hts := atoms_spec (ws := Jvm.Cond.code (ai_T K).2.1 (ai_T K).2.2.1 (ai_T K).2.2.2.1 (ai_T K).2.2.2.2.1 :: ai_tb) B.pre
  have hin : (ai_T K).2.1.name = "<init>" → meth.name = "<init>" := fun h => (name_of_methodNamed B.named B.method).1.trans h
  have hown : s.vm.findClass (ai_T K).1 = some m.cls := by rw [hmo.1]; exact findClass_of_methodNamed B.named
  have hlocks := B.notSynchronized
  have cx : ai_cx2 p s m vs.toArray meth c (headSpec (Jvm.Cond.code (ai_T K).2.1 (ai_T K).2.2.1 (ai_T K).2.2.2.1 (ai_T K).2.2.2.2.1 :: ai_tb) (ai_T K).2.2.2.2.2.2.1).room (ai_T K) (va_A ws s.heap.size) sb 0 (fun _ => 0) := ⟨⟨B.exec, B.bytes, hml, hown, fun w hw => hts w (List.mem_cons_of_mem _ hw), fun q h => Or.inr h, hin, rfl, hao, fun h => absurd h hkd⟩, hnw, hsx⟩
  have hl := lv_entry vs (n := (ai_T K).2.2.2.1) (by rw [hs_sl_len has, hnL]; exact hsum)
  rw [lg_entry_eq]
  have hret : ∀ pc lv' ro S', hs_rv (ai_T K) pc ro → post ro S' → hs_K p l e (headSpec (Jvm.Cond.code (ai_T K).2.1 (ai_T K).2.2.1 (ai_T K).2.2.2.1 (ai_T K).2.2.2.2.1 :: ai_tb) (ai_T K).2.2.2.2.2.2.1).room s m vs.toArray below meth c (MQ below (hs_Qc sb sh D ws post (va_A ws s.heap.size)) vs.toArray s 0 0 (va_A ws s.heap.size)) D (va_A ws s.heap.size) nL sb sh (ws.map Prod.fst) pc lv' ro S' := by
    intro pc lv' ro S' hrv hpo ls stk H locs ws1 tys1 ha hls hst hP1 hD1 hK1 hS1 hW1
    have Qok : ∀ (rv : Option Value), stk = rv.toList → ∀ t : State, t.heap = H → s.WarmedH t.vm → hs_Qc sb sh D ws post (va_A ws s.heap.size) vs.toArray s (.returned rv) t := by
      intro rv h1 t ht hWt
      exact ⟨⟨ro, S', rv, ws1, tys1, rfl, ha, by rw [ha, ← h1]; exact hst, by rw [ht]; exact hP1, hD1, va_K.moved hWt.alike hK1, hW1, hpo⟩, hS1.F ht⟩
    rcases hrv with ⟨hd, z, rfl, hz⟩ | ⟨hd, z, rfl, hz⟩ | ⟨hd, rfl, hz⟩
    · obtain ⟨u, stk1, rfl, ⟨x, rfl, gx⟩, hst1⟩ := hst.cons
      rw [hst1.nil] at Qok ⊢
      rcases hz with hz | ⟨hz, hb01⟩
      · exact W.iret B.exec B.bytes (B.returns.trans hz) (Qok (some (.int x)) rfl) hS1.2.2 hd
      · have h01 := ai_bool (y := x) (by omega)
        exact W.zret B.exec B.bytes (B.returns.trans hz) (by rcases h01 with rfl | rfl <;> decide +kernel) (Qok (some (.int x)) rfl) hS1.2.2 hd
    · obtain ⟨u, stk1, rfl, ⟨x, rfl, gx⟩, hst1⟩ := hst.cons
      rw [hst1.nil] at Qok ⊢
      exact W.lret B.exec B.bytes (B.returns.trans hz) (Qok (some (.long x)) rfl) hS1.2.2 hd
    · rw [hst.nil] at Qok ⊢
      exact W.vret B.exec B.bytes (B.returns.trans hz) (Qok none rfl) hS1.2.2 hd
  obtain ⟨h0, k0, hI⟩ := hstart
  have k1 := hs_cuts hnL cx hE hret hstep k0 0 (hs_arg 0 as) [] S h0 ⟨_, hs_le_rf _ (hs_arg_nd 0 as), hI⟩
  exact k1 _ _ _ _ _ tys rfl ⟨_, by rw [← hnL]; exact hl, hs_arg_ok 0 has⟩ trivial hP hD hKk va_S.rf hws
