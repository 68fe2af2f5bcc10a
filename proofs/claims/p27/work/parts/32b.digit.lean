/-! ===== Siting.digitOf: the row of digits by hand, the rest by the walk ===== -/
def id_G : ai_G := zz_q0 ++ [(0, 6, 0)]
def id_s : ai_S := (ai_arg 0 [(4, 57, 0, 0), (2, 41, 0, 1)], [], zz_W0, 0, 0)
noncomputable def id_0 : Option (List ai_O) := iw_r 209 [14] 0 id_G id_s
noncomputable def id_1 (o : ai_O) : Option (List ai_O) := iw_r 209 [21] 18 o.2.1 (o.2.2.1, ((0, 0, 7, 7) : ai_V) :: o.2.2.2.1, o.2.2.2.2.1, 0, 0)
noncomputable def id_2 (o : ai_O) : Option (List ai_O) := iw_r 209 [] 26 o.2.1 (o.2.2.1, [(0, 0, 1, 117649)], o.2.2.2.2.1, 0, 0)
def id_e (o : ai_O) : Bool := ai_ce 42 zz_e0 (1, 1, 117649) o
def id_z (o : ai_O) : Bool := o.2.2.2.2.2.1 == 0 && o.2.2.2.2.2.2 == 0
def id_m (o : ai_O) : Bool := o.2.2.2.1.isEmpty && (id_z o && (match ai_lk o.2.2.1 2 with
  | some v => ai_isI v && (decide (0 ≤ (ai_b o.2.1 v).1) && decide ((ai_b o.2.1 v).2 ≤ 6))
  | none => false))
noncomputable def id_k : Bool := iw_all id_0 fun o => bif o.1 == 14 then id_z o && iw_all (id_1 o) (fun q => bif q.1 == 21 then id_m q && iw_all (id_2 q) id_e else id_e q) else id_e o
set_option maxRecDepth 100000 in
theorem id_ka : id_k = true := by decide +kernel
noncomputable def id_outs : List ai_O := (iw_l id_0 ++ ((iw_l id_0).filter (fun o => o.1 == 14)).flatMap (fun o => iw_l (id_1 o) ++ ((iw_l (id_1 o)).filter (fun q => q.1 == 21)).flatMap (fun q => iw_l (id_2 q)))).filter (fun o => !(o.1 == 14 || o.1 == 21))
theorem id_fl {l : List ai_O} {o : ai_O} (h : o ∈ l) (h1 : ¬ o.1 = 14) (h2 : ¬ o.1 = 21) : o ∈ l.filter (fun o => !(o.1 == 14 || o.1 == 21)) := List.mem_filter.mpr ⟨h, by rw [beq_eq_false_iff_ne.mpr h1, beq_eq_false_iff_ne.mpr h2]; rfl⟩
theorem id_mem0 {l : List ai_O} {o : ai_O} (h : id_0 = some l) (ho : o ∈ l) (h1 : ¬ o.1 = 14) (h2 : ¬ o.1 = 21) : o ∈ id_outs := by
  refine id_fl (List.mem_append_left _ ?_) h1 h2
  rw [h]
  exact ho
theorem id_mem1 {l l2 : List ai_O} {o q : ai_O} (h : id_0 = some l) (ho : o ∈ l) (h14 : o.1 = 14) (hc : id_1 o = some l2) (hq : q ∈ l2) (h1 : ¬ q.1 = 14) (h2 : ¬ q.1 = 21) : q ∈ id_outs := by
  refine id_fl (List.mem_append_right _ (List.mem_flatMap.mpr ⟨o, List.mem_filter.mpr ⟨?_, by rw [h14]; rfl⟩, List.mem_append_left _ ?_⟩)) h1 h2
  · rw [h]; exact ho
  · rw [hc]; exact hq
theorem id_mem2 {l l2 l3 : List ai_O} {o q u : ai_O} (h : id_0 = some l) (ho : o ∈ l) (h14 : o.1 = 14) (hc : id_1 o = some l2) (hq : q ∈ l2) (h21 : q.1 = 21) (hc2 : id_2 q = some l3) (hu : u ∈ l3) (h1 : ¬ u.1 = 14) (h2 : ¬ u.1 = 21) : u ∈ id_outs := by
  refine id_fl (List.mem_append_right _ (List.mem_flatMap.mpr ⟨o, List.mem_filter.mpr ⟨?_, by rw [h14]; rfl⟩, List.mem_append_right _ (List.mem_flatMap.mpr ⟨q, List.mem_filter.mpr ⟨?_, by rw [h21]; rfl⟩, ?_⟩)⟩)) h1 h2
  · rw [h]; exact ho
  · rw [hc]; exact hq
  · rw [hc2]; exact hu
def id_dg (j : Nat) : Bool := decide (1 ≤ (sx_dg.getD j 0).toInt) && decide ((sx_dg.getD j 0).toInt ≤ 117649)
theorem id_dga : (List.range 7).all id_dg = true := by decide +kernel
theorem id_e6 {o : ai_O} (h2 : o.2.2.2.2.2.1 = 0) (h3 : o.2.2.2.2.2.2 = 0) : o.2.2 = (o.2.2.1, o.2.2.2.1, o.2.2.2.2.1, 0, 0) := by
  obtain ⟨a, b, c, d, f, g, h⟩ := o
  dsimp only at h2 h3 ⊢
  subst h2 h3
  rfl
section IDS
variable {p : Program} {l : Launch} {e : Env} {R : Room} {s : State} {m : MethodId} {args : Array Value} {below : List Frame} {meth : Method} {c : Code} {Q : State → Prop} {D : va_G} {A : Nat → Prop} {sb : ai_SB} {xs : Nat → Int32} {ad : List Nat}
theorem id_1mid {σ : ai_Rh} {als : ai_L} {st : List ai_V} {aw : ai_W} (cx : ai_cx2 p s m args meth c R (iw_T 209) A sb 0 xs) (K : ai_K p l e R s m args below meth c Q σ sb D A (iw_T 209).2.2.2.1 ad 18 (als, (0, 0, 7, 7) :: st, aw, 0, 0)) : ai_K p l e R s m args below meth c Q σ sb D A (iw_T 209).2.2.2.1 ad 14 (als, st, aw, 0, 0) := by
  intro ls stk H locs ws tys y hy hls hst hm
  obtain ⟨⟨hx, hb, hml, hown, hts, hA, hin, hR, hao, h3⟩, hnw, hsx⟩ := cx
  obtain ⟨hP, hD, hKk, hS, hW⟩ := id hm
  obtain ⟨-, -, ⟨t, g1, g2⟩, -⟩ := hsx
  have hown' : s.vm.findClass "FirstPolls$Siting" = some m.cls := hown
  refine va_gets hx hb g1 hS hown' (hts _ jw_935) (fun _ h => h) (by decide +kernel) ?_
  refine va_tlen hx hb g2 hS (v := 7) rfl (by decide +kernel) ?_
  exact K ls _ H locs ws tys y hy hls ⟨⟨7, rfl, by decide, by decide⟩, hst⟩ hm
theorem id_2mid {σ : ai_Rh} {als : ai_L} {aw : ai_W} {G : ai_G} {v2 : ai_V} (cx : ai_cx2 p s m args meth c R (iw_T 209) A sb 0 xs) (hG : ai_gok σ G) (h1 : ai_lk als 2 = some v2) (i1 : ai_isI v2 = true) (b1 : 0 ≤ (ai_b G v2).1) (b2 : (ai_b G v2).2 ≤ 6) (K : ai_K p l e R s m args below meth c Q σ sb D A (iw_T 209).2.2.2.1 ad 26 (als, [(0, 0, 1, 117649)], aw, 0, 0)) : ai_K p l e R s m args below meth c Q σ sb D A (iw_T 209).2.2.2.1 ad 21 (als, [], aw, 0, 0) := by
  intro ls stk H locs ws tys y hy hls hst hm
  rw [hst.nil]
  obtain ⟨⟨hx, hb, hml, hown, hts, hA, hin, hR, hao, h3⟩, hnw, hsx⟩ := cx
  obtain ⟨hP, hD, hKk, hS, hW⟩ := id hm
  obtain ⟨-, -, ⟨t, g1, g2⟩, -⟩ := hsx
  obtain ⟨lv, hlv, hF⟩ := id hls
  obtain ⟨k1, u1, e1, m1⟩ := ai_lk_ok h1 hF
  obtain ⟨x1, rfl, c1, c2⟩ := ai_int hG m1 i1
  have a1 := hlv.2.2 (2, .int x1) (List.mem_of_getElem? e1)
  have hown' : s.vm.findClass "FirstPolls$Siting" = some m.cls := hown
  have hv : vp_in x1 7 := vp_in_iff.mpr ⟨by omega, by omega⟩
  have hlt : x1.toNatClampNeg < 7 := Nat.not_le.mp fun q => hv (Or.inr q)
  have hd := List.all_eq_true.mp id_dga _ (List.mem_range.mpr hlt)
  unfold id_dg at hd
  rw [Bool.and_eq_true, decide_eq_true_eq, decide_eq_true_eq] at hd
  refine va_gets hx hb g1 hS hown' (hts _ jw_935) (fun _ h => h) (by decide +kernel) ?_
  refine lv_iload_n (k := 2) hx hb (by decide +kernel) rfl a1 ?_
  refine va_ti hx hb g2 hS hv rfl (by decide +kernel) ?_
  exact K ls _ H locs ws tys y hy hls ⟨⟨_, rfl, hd.1, hd.2⟩, trivial⟩ hm
end IDS
theorem id_ok (sb : ai_SB) : ct_ok zz_ctf zz_ctk sb 2 := by
  refine ⟨id_outs, ?_, by decide +kernel⟩
  show ai_cs (iw_T 209) 0 sb id_G [(4, 57, 0, 0), (2, 41, 0, 1)] zz_W0 id_outs
  have hkd : ¬ (iw_T 209).2.2.2.2.2.2.2 = 3 := by decide +kernel
  refine ai_met (md := iw_T 209) (L := 0) (jn := none) (outs := id_outs) (ai_hM 209 hkd) hkd rfl (by decide +kernel) (fun ρ hG hrb {p l e R s m args below meth c Q D A xs ad} cx HO => ?_)
  have n14 : ∀ o, ai_rt (iw_T 209) o → ¬ o.1 = 14 := by
    intro o h h14
    obtain ⟨⟨ins, hd, hB⟩, -⟩ := h
    rw [h14, show decode (iw_T 209).2.2.1 14 = .ok (.getstatic 105, 3) from by decide +kernel] at hd
    cases hd
  have n21 : ∀ o, ai_rt (iw_T 209) o → ¬ o.1 = 21 := by
    intro o h h14
    obtain ⟨⟨ins, hd, hB⟩, -⟩ := h
    rw [h14, show decode (iw_T 209).2.2.1 21 = .ok (.getstatic 105, 3) from by decide +kernel] at hd
    cases hd
  obtain ⟨outs, h0, hall⟩ := iw_all_ok id_ka
  refine iw_run hkd cx hrb h0 ai_le.rf hG (fun o ho hor τ hτ hg => ?_)
  have hc := hall o ho
  by_cases h14 : o.1 = 14
  · rw [h14, show ((14 : Nat) == 14) = true from rfl, cond_true, Bool.and_eq_true] at hc
    obtain ⟨hz, hc⟩ := hc
    unfold id_z at hz
    rw [Bool.and_eq_true, beq_iff_eq, beq_iff_eq] at hz
    obtain ⟨o2, h2, hall2⟩ := iw_all_ok hc
    rw [h14, id_e6 hz.1 hz.2]
    refine id_1mid cx (iw_run hkd cx hrb h2 hτ hg (fun q hq hor2 υ hυ hg2 => ?_))
    have hc2 := hall2 q hq
    by_cases h21 : q.1 = 21
    · rw [h21, show ((21 : Nat) == 21) = true from rfl, cond_true, Bool.and_eq_true] at hc2
      obtain ⟨hm, hc2⟩ := hc2
      obtain ⟨o3, h3, hall3⟩ := iw_all_ok hc2
      unfold id_m id_z at hm
      simp only [Bool.and_eq_true, List.isEmpty_iff, beq_iff_eq] at hm
      obtain ⟨m1, ⟨m2, m3⟩, m4⟩ := hm
      rw [h21, iw_e5 m1 m2 m3]
      split at m4
      · rename_i v hv
        simp only [Bool.and_eq_true, decide_eq_true_eq] at m4
        refine id_2mid cx hg2 hv m4.1 m4.2.1 m4.2.2 (iw_run hkd cx hrb h3 (hτ.tr hυ) hg2 (fun u hu hor3 φ hφ hg3 => ?_))
        rcases hor3 with h | h
        · cases h
        · exact HO u (id_mem2 h0 ho h14 h2 hq h21 h3 hu (n14 u h) (n21 u h)) h φ ((hτ.tr hυ).tr hφ) hg3
      · cases m4
    · rcases hor2 with h | h
      · rw [List.mem_singleton] at h
        exact absurd h h21
      · exact HO q (id_mem1 h0 ho h14 h2 hq (n14 q h) h21) h υ (hτ.tr hυ) hg2
  · rcases hor with h | h
    · rw [List.mem_singleton] at h
      exact absurd h h14
    · exact HO o (id_mem0 h0 ho h14 (n21 o h)) h τ hτ hg
theorem zz_op (sb : ai_SB) : zz_open sb := ⟨nt_ok sb, iw_ok sb, id_ok sb⟩
