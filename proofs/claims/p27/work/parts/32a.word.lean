/-! ===== Reader.isWord: the words' text by hand, the rest by the walk ===== -/
def iw_T : Nat → ai_MD := ai_Tr ai_T (zz_fr zz_bo)
def iw_h : ai_H := fun _ _ _ _ => none
def iw_N : ai_Ns := (fun _ _ => none, fun _ _ => none, fun _ => none)
def iw_G : ai_G := zz_q0 ++ [(0, 28, 0), (0, 399, 0), (1, 400, 0)]
def iw_x (j : Nat) : ai_S := ([(0, (4, 26, 0, 0)), (1, (2, 41, 0, 1)), (2, (2, 42, 0, 1)), (3, (2, 43, 0, 1)), (4, (0, 0, (j : Int), (j : Int)))], [], zz_W0, 0, 0)
def iw_a : ai_Iv := ([], [], [], [], none)
def ik_69 : List ai_E := (69, .iconst 1, 1, 0, 0, 0, 0) :: (70, .ireturn, 1, 0, 0, 0, 0) :: []
def ik_63 : List ai_E := (63, .iinc 4 1, 3, 0, 0, 0, 0) :: (66, .goto (-53), 3, 0, 0, 0, 0) :: ik_69
def ik_56 : List ai_E := (56, .iload 5, 2, 0, 0, 0, 0) :: (58, .if_icmp .eq 5, 3, 0, 0, 0, 0) :: (61, .iconst 0, 1, 0, 0, 0, 0) :: (62, .ireturn, 1, 0, 0, 0, 0) :: ik_63
def ik_42 : List ai_E := (42, .istore 5, 2, 0, 0, 0, 0) :: []
def ik_40 : List ai_E := (40, .bipush 32, 2, 0, 0, 0, 0) :: ik_42
def ik_13 : List ai_E := (13, .iload 4, 2, 0, 0, 0, 0) :: (15, .bipush 6, 2, 0, 0, 0, 0) :: (17, .if_icmp .ge 52, 3, 0, 0, 0, 0) :: (20, .iload_n 2, 1, 0, 0, 0, 0) :: (21, .iload 4, 2, 0, 0, 0, 0) :: (23, .iadd, 1, 0, 0, 0, 0) :: (24, .iload_n 3, 1, 0, 0, 0, 0) :: (25, .if_icmp .ge 15, 3, 0, 0, 0, 0) :: (28, .aload_n 0, 1, 0, 0, 0, 0) :: (29, .getfield 9, 3, 3, 1, 0, 0) :: (32, .iload_n 2, 1, 0, 0, 0, 0) :: (33, .iload 4, 2, 0, 0, 0, 0) :: (35, .iadd, 1, 0, 0, 0, 0) :: (36, .iaload, 1, 0, 0, 0, 0) :: (37, .goto 5, 3, 0, 0, 0, 0) :: ik_40
def ik_10 : List ai_E := (10, .iconst 0, 1, 0, 0, 0, 0) :: (11, .istore 4, 2, 0, 0, 0, 0) :: ik_13
def ik_0 : List ai_E := (0, .iload_n 3, 1, 0, 0, 0, 0) :: (1, .iload_n 2, 1, 0, 0, 0, 0) :: (2, .isub, 1, 0, 0, 0, 0) :: (3, .bipush 6, 2, 0, 0, 0, 0) :: (5, .if_icmp .le 5, 3, 0, 0, 0, 0) :: (8, .iconst 0, 1, 0, 0, 0, 0) :: (9, .ireturn, 1, 0, 0, 0, 0) :: ik_10
theorem iwk_69 : ai_codeok ai_T md182 ik_69 := ai_ckn_ok 2 ik_69 (by decide +kernel) ⟨trivial, trivial, trivial⟩ trivial
theorem iwk_63 : ai_codeok ai_T md182 ik_63 := ai_ckn_ok 2 ik_63 (by decide +kernel) ⟨trivial, trivial, trivial⟩ iwk_69
theorem iwk_56 : ai_codeok ai_T md182 ik_56 := ai_ckn_ok 4 ik_56 (by decide +kernel) ⟨trivial, trivial, trivial, trivial, trivial⟩ iwk_63
theorem iwk_42 : ai_codeok ai_T md182 ik_42 := ai_ckn_ok 1 ik_42 (by decide +kernel) ⟨trivial, trivial⟩ trivial
theorem iwk_40 : ai_codeok ai_T md182 ik_40 := ai_ckn_ok 1 ik_40 (by decide +kernel) ⟨trivial, trivial⟩ iwk_42
theorem iwk_13 : ai_codeok ai_T md182 ik_13 := ai_ckn_ok 15 ik_13 (by decide +kernel) ⟨trivial, trivial, trivial, trivial, trivial, trivial, trivial, trivial, trivial, ⟨_, cq3, Nat.le_of_ble_eq_true rfl, tb861⟩, trivial, trivial, trivial, trivial, trivial, trivial⟩ iwk_40
theorem iwk_10 : ai_codeok ai_T md182 ik_10 := ai_ckn_ok 2 ik_10 (by decide +kernel) ⟨trivial, trivial, trivial⟩ iwk_13
theorem iwk_0 : ai_codeok ai_T md182 ik_0 := ai_ckn_ok 7 ik_0 (by decide +kernel) ⟨trivial, trivial, trivial, trivial, trivial, trivial, trivial, trivial⟩ iwk_10
def iw_f (q : Nat) : List ai_E := bif Nat.blt q 42 then (bif Nat.blt q 13 then (bif Nat.blt q 10 then (bif q == 0 then ik_0 else []) else (bif q == 10 then ik_10 else [])) else (bif Nat.blt q 40 then (bif q == 13 then ik_13 else []) else (bif q == 40 then ik_40 else []))) else (bif Nat.blt q 63 then (bif Nat.blt q 56 then (bif q == 42 then ik_42 else []) else (bif q == 56 then ik_56 else [])) else (bif Nat.blt q 69 then (bif q == 63 then ik_63 else []) else (bif q == 69 then ik_69 else [])))
theorem iw_fh (q : Nat) : ai_Pq ai_T md182 q (iw_f q) := ai_tnd (ai_tnd (ai_tnd (ai_tlf iwk_0 rfl) (ai_tlf iwk_10 rfl)) (ai_tnd (ai_tlf iwk_13 rfl) (ai_tlf iwk_40 rfl))) (ai_tnd (ai_tnd (ai_tlf iwk_42 rfl) (ai_tlf iwk_56 rfl)) (ai_tnd (ai_tlf iwk_63 rfl) (ai_tlf iwk_69 rfl)))
theorem iw_drop {T : Nat → ai_MD} {md : ai_MD} : ∀ {l : List ai_E} (k : Nat), ai_codeok T md l → ai_codeok T md (l.drop k)
  | [], k, _ => by rw [List.drop_nil]; trivial
  | _ :: _, 0, h => h
  | _ :: _, k + 1, h => iw_drop k h.2.2
def iw_g (q : Nat) : List ai_E := bif q == 18 then bk209_0.drop 12 else bif q == 21 then bk209_0.drop 13 else bif q == 26 then bk209_0.drop 16 else bf209 q
theorem iw_gh (q : Nat) : ai_Pq ai_T md209 q (iw_g q) := by
  have h1 : ∀ k p : Nat, ai_hpb p (bk209_0.drop k) = true → ai_Pq ai_T md209 q (bif q == p then bk209_0.drop k else []) := fun k p h => ai_tlf (iw_drop k ck209_0) h
  unfold iw_g
  by_cases e1 : q = 18
  · subst e1
    have := h1 12 18 rfl
    rw [beq_self_eq_true, cond_true] at this ⊢
    exact this
  · rw [beq_eq_false_iff_ne.mpr e1, cond_false]
    by_cases e2 : q = 21
    · subst e2
      have := h1 13 21 rfl
      rw [beq_self_eq_true, cond_true] at this ⊢
      exact this
    · rw [beq_eq_false_iff_ne.mpr e2, cond_false]
      by_cases e3 : q = 26
      · subst e3
        have := h1 16 26 rfl
        rw [beq_self_eq_true, cond_true] at this ⊢
        exact this
      · rw [beq_eq_false_iff_ne.mpr e3, cond_false]
        exact hb209 q
def iw_B (M q : Nat) : List ai_E := bif M == 182 then iw_f q else bif M == 209 then iw_g q else ai_B1 M q
theorem iw_hB (M q : Nat) : ai_codeok ai_T (ai_T M) (iw_B M q) ∧ ∀ en r, iw_B M q = en :: r → en.1 = q := by
  unfold iw_B
  by_cases e1 : M = 182
  · subst e1
    rw [beq_self_eq_true, cond_true]
    exact iw_fh q
  · rw [beq_eq_false_iff_ne.mpr e1, cond_false]
    by_cases e2 : M = 209
    · subst e2
      rw [beq_self_eq_true, cond_true]
      exact iw_gh q
    · rw [beq_eq_false_iff_ne.mpr e2, cond_false]
      exact ai_hB M q
noncomputable def iw_r (M : Nat) (stops : List Nat) (pc : Nat) (G : ai_G) (x : ai_S) : Option (List ai_O) := af_ex iw_T iw_B iw_h iw_N 0 300 M stops (iw_B M pc) G x
noncomputable def iw_0 : Option (List ai_O) := iw_r 182 [13] 0 iw_G (ai_arg 0 [(4, 26, 0, 0), (2, 41, 0, 1), (2, 42, 0, 1), (2, 43, 0, 1)], [], zz_W0, 0, 0)
noncomputable def iw_A (j : Nat) : Option (List ai_O) := iw_r 182 [42] 13 iw_G (iw_x j)
noncomputable def iw_C (o : ai_O) : Option (List ai_O) := iw_r 182 [13] 56 o.2.1 (o.2.2.1, [(0, 0, 0, 127)], o.2.2.2.2.1, 0, 0)
def iw_e (o : ai_O) : Bool := ai_ce 44 zz_e0 (1, 0, 1) o
/-- at the loop's head with j, or an end -/
def iw_p (j : Nat) (o : ai_O) : Bool := bif o.1 == 13 then (ai_hd iw_a iw_G.length (iw_x j) o.2.1 o.2.2).isSome else iw_e o
/-- behind the istore at 42 -/
def iw_u (o : ai_O) : ai_O := match o.2.2.2.1 with
  | [v] => (44, o.2.1, ai_st1 o.2.2.1 5 v, [], o.2.2.2.2)
  | _ => o
def iw_t (o : ai_O) : Bool := match o.2.2.2.1 with
  | [v] => ai_isI v
  | _ => false
def iw_m (j : Nat) (o : ai_O) : Bool := o.2.2.2.1.isEmpty && (o.2.2.2.2.2.1 == 0 && (o.2.2.2.2.2.2 == 0 && ((match ai_lk o.2.2.1 1 with
  | some v => ai_isI v && (decide (0 ≤ (ai_b o.2.1 v).1) && decide ((ai_b o.2.1 v).2 ≤ 28))
  | none => false) && (match ai_lk o.2.2.1 4 with
  | some v => v == ((0, 0, (j : Int), (j : Int)) : ai_V)
  | none => false))))
noncomputable def iw_all (r : Option (List ai_O)) (f : ai_O → Bool) : Bool := match r with
  | some l => l.all f
  | none => false
theorem iw_all_ok {r : Option (List ai_O)} {f : ai_O → Bool} (h : iw_all r f = true) : ∃ l, r = some l ∧ ∀ o ∈ l, f o = true := by
  unfold iw_all at h
  split at h
  · exact ⟨_, rfl, List.all_eq_true.mp h⟩
  · cases h
noncomputable def iw_k (j : Nat) : Bool := iw_all (iw_A j) fun o => bif o.1 == 42 then decide (j < 6) && (iw_t o && (iw_m j (iw_u o) && iw_all (iw_C (iw_u o)) (iw_p (j + 1)))) else iw_e o
set_option maxRecDepth 100000 in
theorem iw_kA : (List.range 7).all iw_k = true := by decide +kernel
set_option maxRecDepth 100000 in
theorem iw_k0 : iw_all iw_0 (iw_p 0) = true := by decide +kernel
noncomputable def iw_l (r : Option (List ai_O)) : List ai_O := match r with
  | some l => l
  | none => []
noncomputable def iw_outs : List ai_O := (iw_l iw_0 ++ (List.range 7).flatMap (fun j => iw_l (iw_A j) ++ ((iw_l (iw_A j)).filter (fun o => o.1 == 42)).flatMap (fun o => iw_l (iw_C (iw_u o))))).filter (fun o => !(o.1 == 13 || o.1 == 42))
theorem iw_fl {l : List ai_O} {o : ai_O} (h : o ∈ l) (h1 : ¬ o.1 = 13) (h2 : ¬ o.1 = 42) : o ∈ l.filter (fun o => !(o.1 == 13 || o.1 == 42)) := List.mem_filter.mpr ⟨h, by rw [beq_eq_false_iff_ne.mpr h1, beq_eq_false_iff_ne.mpr h2]; rfl⟩
theorem iw_mem0 {l : List ai_O} {o : ai_O} (h : iw_0 = some l) (ho : o ∈ l) (h1 : ¬ o.1 = 13) (h2 : ¬ o.1 = 42) : o ∈ iw_outs := by
  refine iw_fl (List.mem_append_left _ ?_) h1 h2
  rw [h]
  exact ho
theorem iw_memA {l : List ai_O} {o : ai_O} {j : Nat} (hj : j < 7) (h : iw_A j = some l) (ho : o ∈ l) (h1 : ¬ o.1 = 13) (h2 : ¬ o.1 = 42) : o ∈ iw_outs := by
  refine iw_fl (List.mem_append_right _ (List.mem_flatMap.mpr ⟨j, List.mem_range.mpr hj, List.mem_append_left _ ?_⟩)) h1 h2
  rw [h]
  exact ho
theorem iw_memC {l l2 : List ai_O} {o q : ai_O} {j : Nat} (hj : j < 7) (h : iw_A j = some l) (ho : o ∈ l) (h44 : o.1 = 42) (hc : iw_C (iw_u o) = some l2) (hq : q ∈ l2) (h1 : ¬ q.1 = 13) (h2 : ¬ q.1 = 42) : q ∈ iw_outs := by
  refine iw_fl (List.mem_append_right _ (List.mem_flatMap.mpr ⟨j, List.mem_range.mpr hj, List.mem_append_right _ (List.mem_flatMap.mpr ⟨o, List.mem_filter.mpr ⟨?_, by rw [h44]; rfl⟩, ?_⟩)⟩)) h1 h2
  · rw [h]
    exact ho
  · rw [hc]
    exact hq
theorem iw_e5 {o : ai_O} (h1 : o.2.2.2.1 = []) (h2 : o.2.2.2.2.2.1 = 0) (h3 : o.2.2.2.2.2.2 = 0) : o.2.2 = (o.2.2.1, [], o.2.2.2.2.1, 0, 0) := by
  obtain ⟨a, b, c, d, f, g, h⟩ := o
  dsimp only at h1 h2 h3 ⊢
  subst h1 h2 h3
  rfl
section IWS
variable {p : Program} {l : Launch} {e : Env} {R : Room} {s : State} {m : MethodId} {args : Array Value} {below : List Frame} {meth : Method} {c : Code} {Q : State → Prop} {D : va_G} {A : Nat → Prop} {sb : ai_SB} {xs : Nat → Int32} {ad : List Nat} {M : Nat}
/-- a run's end, as the machine goes -/
theorem iw_run {ρ : ai_Rh} (hkd : ¬ (iw_T M).2.2.2.2.2.2.2 = 3) (cx : ai_cx2 p s m args meth c R (iw_T M) A sb 0 xs) (hrb : ∀ σ, ai_le ρ σ → ai_rb 0 σ) {stops : List Nat} {pc : Nat} {G : ai_G} {x : ai_S} {outs : List ai_O} (h : iw_r M stops pc G x = some outs) {σ : ai_Rh} (hσ : ai_le ρ σ) (hg : ai_gok σ G) (HK : ∀ o ∈ outs, (o.1 ∈ stops ∨ ai_rt (iw_T M) o) → ∀ τ, ai_le σ τ → ai_gok τ o.2.1 → ai_K p l e R s m args below meth c Q τ sb D A (iw_T M).2.2.2.1 ad o.1 o.2.2) : ai_K p l e R s m args below meth c Q σ sb D A (iw_T M).2.2.2.1 ad pc x := by
  unfold iw_r at h
  rw [af_ex_eq] at h
  obtain ⟨en, rest, hc, hk⟩ := ai_snd (T := iw_T) (sb := sb) (l := l) (e := e) (below := below) (Q := Q) (D := D) (ad := ad) ai_clok_ok (fun M q => ⟨ai_codeok_sr (iw_hB M q).1, (iw_hB M q).2⟩) (fun K hk => ai_hM K hk) (fun _ _ _ _ _ _ h => by cases h) 300 M stops (iw_B M pc) G x outs h (ai_codeok_sr (iw_hB M pc).1) σ hg cx (fun τ hτ => ⟨hrb τ (hσ.tr hτ), fun h => absurd h hkd⟩) HK
  have := (iw_hB M pc).2 en rest hc
  rw [this] at hk
  exact hk
theorem iw_mid {σ : ai_Rh} {als : ai_L} {aw : ai_W} {G : ai_G} {j : Nat} {v1 : ai_V} (cx : ai_cx2 p s m args meth c R (iw_T 182) A sb 0 xs) (hj : j < 6) (hG : ai_gok σ G) (h1 : ai_lk als 1 = some v1) (i1 : ai_isI v1 = true) (b1 : 0 ≤ (ai_b G v1).1) (b2 : (ai_b G v1).2 ≤ 28) (h4 : ai_lk als 4 = some (0, 0, (j : Int), (j : Int))) (K : ai_K p l e R s m args below meth c Q σ sb D A (iw_T 182).2.2.2.1 ad 56 (als, [(0, 0, 0, 127)], aw, 0, 0)) : ai_K p l e R s m args below meth c Q σ sb D A (iw_T 182).2.2.2.1 ad 44 (als, [], aw, 0, 0) := by
  intro ls stk H locs ws tys y hy hls hst hm
  rw [hst.nil]
  obtain ⟨⟨hx, hb, hml, hown, hts, hA, hin, hR, hao, h3⟩, hnw, hsx⟩ := cx
  obtain ⟨hP, hD, hKk, hS, hW⟩ := id hm
  obtain ⟨q, d, hr, hs⟩ := jd_of hsx hS
  obtain ⟨lv, hlv, hF⟩ := id hls
  obtain ⟨k1, u1, e1, m1⟩ := ai_lk_ok h1 hF
  obtain ⟨x1, rfl, c1, c2⟩ := ai_int hG m1 i1
  obtain ⟨k4, u4, e4, ⟨x4, rfl, c3, c4⟩⟩ := ai_lk_ok h4 hF
  have a1 := hlv.2.2 (1, .int x1) (List.mem_of_getElem? e1)
  have a4 := hlv.2.2 (4, .int x4) (List.mem_of_getElem? e4)
  have hi : (x1 * 6 + x4).toInt = x1.toInt * 6 + x4.toInt := by
    have h6 : (6 : Int32).toInt = 6 := rfl
    rw [Int32.toInt_add, Int32.toInt_mul, h6]
    have g1 := ai_bm32 (z := x1.toInt * 6) (by omega) (by omega)
    have g2 := ai_bm32 (z := x1.toInt * 6 + x4.toInt) (by omega) (by omega)
    show ((x1.toInt * 6).bmod 4294967296 + x4.toInt).bmod 4294967296 = _
    rw [g1, g2]
  have hin2 := jd_in (i := x1 * 6 + x4) (by omega) (by omega)
  have hc := jd_chb hin2.2
  have hown' : s.vm.findClass "FirstPolls$Reader" = some m.cls := hown
  have hRf : 4 + 1 ≤ R.frames ∧ 8 + (2 + 11) + 88 ≤ R.locals := by
    rw [hR]
    exact ⟨by decide +kernel, by decide +kernel⟩
  refine va_ldcS hx hb hown' hr (by decide +kernel) ?_
  refine lv_iload_n (k := 1) hx hb (by decide +kernel) rfl a1 ?_
  refine lv_bipush hx hb (n := 6) (v := 6) (by decide +kernel) (by decide +kernel) ?_
  refine lv_imul hx hb (by decide +kernel) ?_
  refine lv_iload (i := 4) hx hb (by decide +kernel) a4 ?_
  refine lv_iadd hx hb (by decide +kernel) ?_
  refine jd_virt (C := "java/lang/String") (b := q) (vs := [.int (x1 * 6 + x4)]) (rest := []) (index := 117) (n := 1) hx hb (hml.trans hlv.1.symm) hown' hts (jd_char (q := q) (d := d) (i := x1 * 6 + x4) (by omega) (by omega) l) jw_702 rfl rfl jw_14 jw_699 jw_700 jw_701 (by decide +kernel) hRf ⟨fun a U g mk h => ⟨h.1, jd_Smoved (u := U) (U := U.calling g mk a) (Vm.Alike.refl U.vm) h.2⟩, (by obtain ⟨cell, g1, g2, g3, -⟩ := hs.2.1; exact ⟨cell, g1, g2, g3⟩), fun U hU hW => ⟨rfl, by rw [hU]; exact jd_Smoved hW.alike hs⟩⟩ rfl (by decide) ⟨Nat.zero_le _, Nat.zero_le _⟩ (by decide +kernel) ?_
  exact K ls [_] H locs ws tys y hy hls ⟨⟨_, rfl, hc.2.1, hc.2.2⟩, trivial⟩ hm
theorem iw_st {σ : ai_Rh} {als : ai_L} {aw : ai_W} {G : ai_G} {v : ai_V} {cs ss : Nat} (cx : ai_cx2 p s m args meth c R (iw_T 182) A sb 0 xs) (hG : ai_gok σ G) (hv : ai_isI v = true) (K : ai_K p l e R s m args below meth c Q σ sb D A (iw_T 182).2.2.2.1 ad 44 (ai_st1 als 5 v, [], aw, cs, ss)) : ai_K p l e R s m args below meth c Q σ sb D A (iw_T 182).2.2.2.1 ad 42 (als, [v], aw, cs, ss) := by
  intro ls stk H locs ws tys y hy hls hst hm
  obtain ⟨u, r, rfl, mu, hn⟩ := hst.cons
  rw [hn.nil]
  obtain ⟨⟨hx, hb, -⟩, -⟩ := cx
  obtain ⟨lv, hlv, hF⟩ := id hls
  obtain ⟨x, rfl, -⟩ := ai_int hG mu hv
  exact lv_istore hx hb (i := 5) (by decide +kernel) hlv (by decide +kernel) rfl (fun ls' h' => K ls' [] H locs ws tys y hy ⟨_, h', ⟨rfl, mu⟩, hF.filt ai_cat_f⟩ trivial hm)
end IWS
theorem iw_ok (sb : ai_SB) : ct_ok zz_ctf zz_ctk sb 1 := by
  refine ⟨iw_outs, ?_, by decide +kernel⟩
  show ai_cs (iw_T 182) 0 sb iw_G [(4, 26, 0, 0), (2, 41, 0, 1), (2, 42, 0, 1), (2, 43, 0, 1)] zz_W0 iw_outs
  have hkd : ¬ (iw_T 182).2.2.2.2.2.2.2 = 3 := by decide +kernel
  refine ai_met (md := iw_T 182) (L := 0) (jn := none) (outs := iw_outs) (ai_hM 182 hkd) hkd rfl (by decide +kernel) (fun ρ hG hrb {p l e R s m args below meth c Q D A xs ad} cx HO => ?_)
  have head : ∀ k j, j + k = 6 → ai_K p l e R s m args below meth c Q ρ sb D A (iw_T 182).2.2.2.1 ad 13 (iw_x j) := by
    intro k
    induction k with
    | zero =>
      intro j hj
      obtain ⟨outs, hA, hall⟩ := iw_all_ok (List.all_eq_true.mp iw_kA j (List.mem_range.mpr (by omega)))
      refine iw_run hkd cx hrb hA ai_le.rf hG (fun o ho hor τ hτ hg => ?_)
      have hc := hall o ho
      by_cases h44 : o.1 = 42
      · rw [h44, show ((42 : Nat) == 42) = true from rfl, cond_true, Bool.and_eq_true, decide_eq_true_eq] at hc
        omega
      · by_cases h13 : o.1 = 13
        · rcases hor with h | h
          · rw [List.mem_singleton] at h
            exact absurd h h44
          · obtain ⟨⟨ins, hd, hB⟩, -⟩ := h
            rw [h13, show decode (iw_T 182).2.2.1 13 = .ok (.iload 4, 2) from by decide +kernel] at hd
            cases hd
        · rcases hor with h | h
          · rw [List.mem_singleton] at h
            exact absurd h h44
          · exact HO o (iw_memA (by omega) hA ho h13 h44) h τ hτ hg
    | succ k ih =>
      intro j hj
      obtain ⟨outs, hA, hall⟩ := iw_all_ok (List.all_eq_true.mp iw_kA j (List.mem_range.mpr (by omega)))
      refine iw_run hkd cx hrb hA ai_le.rf hG (fun o ho hor τ hτ hg => ?_)
      have hc := hall o ho
      by_cases h44 : o.1 = 42
      · rw [h44, show ((42 : Nat) == 42) = true from rfl, cond_true, Bool.and_eq_true, Bool.and_eq_true, Bool.and_eq_true, decide_eq_true_eq] at hc
        obtain ⟨hj6, ht, hm, hC⟩ := hc
        obtain ⟨o2, hC2, hall2⟩ := iw_all_ok hC
        have eG : (iw_u o).2.1 = o.2.1 := by
          unfold iw_u
          split <;> rfl
        have hg' : ai_gok τ (iw_u o).2.1 := by
          rw [eG]
          exact hg
        have K56 : ai_K p l e R s m args below meth c Q τ sb D A (iw_T 182).2.2.2.1 ad 56 ((iw_u o).2.2.1, [(0, 0, 0, 127)], (iw_u o).2.2.2.2.1, 0, 0) := by
          refine iw_run hkd cx hrb hC2 hτ hg' (fun q hq hor2 υ hυ hg2 => ?_)
          have hc2 := hall2 q hq
          unfold iw_p at hc2
          by_cases h13 : q.1 = 13
          · rw [h13, show ((13 : Nat) == 13) = true from rfl, cond_true] at hc2
            obtain ⟨cvs, hcv⟩ := Option.isSome_iff_exists.mp hc2
            rw [h13]
            refine ai_hd_ok (a := iw_a) (iv := iw_x (j + 1)) (G0 := iw_G) hG (hτ.tr hυ) hg2 hcv (fun zs hz _ => ?_)
            have hz' : zs = [] := hz.nil
            subst hz'
            exact ih (j + 1) (by omega)
          · rcases hor2 with h | h
            · rw [List.mem_singleton] at h
              exact absurd h h13
            · by_cases g44 : q.1 = 42
              · obtain ⟨⟨ins, hd, hB⟩, -⟩ := h
                rw [g44, show decode (iw_T 182).2.2.1 42 = .ok (.istore 5, 2) from by decide +kernel] at hd
                cases hd
              · exact HO q (iw_memC (by omega) hA ho h44 hC2 hq h13 g44) h υ (hτ.tr hυ) hg2
        unfold iw_m at hm
        simp only [Bool.and_eq_true, List.isEmpty_iff, beq_iff_eq] at hm
        obtain ⟨m1, m2, m3, m4, m5⟩ := hm
        have K44 : ai_K p l e R s m args below meth c Q τ sb D A (iw_T 182).2.2.2.1 ad 44 (iw_u o).2.2 := by
          rw [iw_e5 m1 m2 m3]
          split at m4
          · rename_i v1 hv1
            simp only [Bool.and_eq_true, decide_eq_true_eq] at m4
            split at m5
            · rename_i v4 hv4
              rw [beq_iff_eq] at m5
              rw [m5] at hv4
              exact iw_mid cx hj6 hg' hv1 m4.1 m4.2.1 m4.2.2 hv4 K56
            · cases m5
          · cases m4
        rw [h44]
        clear K56 m1 m2 m3 m4 m5 hC hC2 hall2 eG hg' ho
        obtain ⟨pc', G', als', st', aw', cs', ss'⟩ := o
        unfold iw_t at ht
        dsimp only at ht K44 hg ⊢
        split at ht
        · rename_i v
          exact iw_st cx hg ht K44
        · cases ht
      · by_cases h13 : o.1 = 13
        · rcases hor with h | h
          · rw [List.mem_singleton] at h
            exact absurd h h44
          · obtain ⟨⟨ins, hd, hB⟩, -⟩ := h
            rw [h13, show decode (iw_T 182).2.2.1 13 = .ok (.iload 4, 2) from by decide +kernel] at hd
            cases hd
        · rcases hor with h | h
          · rw [List.mem_singleton] at h
            exact absurd h h44
          · exact HO o (iw_memA (by omega) hA ho h13 h44) h τ hτ hg
  obtain ⟨outs, h0, hall⟩ := iw_all_ok iw_k0
  refine iw_run hkd cx hrb h0 ai_le.rf hG (fun o ho hor τ hτ hg => ?_)
  have hc := hall o ho
  unfold iw_p at hc
  by_cases h13 : o.1 = 13
  · rw [h13, show ((13 : Nat) == 13) = true from rfl, cond_true] at hc
    obtain ⟨cvs, hcv⟩ := Option.isSome_iff_exists.mp hc
    rw [h13]
    refine ai_hd_ok (a := iw_a) (iv := iw_x 0) (G0 := iw_G) hG hτ hg hcv (fun zs hz _ => ?_)
    have hz' : zs = [] := hz.nil
    subst hz'
    exact head 6 0 rfl
  · rcases hor with h | h
    · rw [List.mem_singleton] at h
      exact absurd h h13
    · by_cases h44 : o.1 = 42
      · obtain ⟨⟨ins, hd, hB⟩, -⟩ := h
        rw [h44, show decode (iw_T 182).2.2.1 42 = .ok (.istore 5, 2) from by decide +kernel] at hd
        cases hd
      · exact HO o (iw_mem0 h0 ho h13 h44) h τ hτ hg
