/-! ===== contracts: a method is walked once, from a state that others come under ===== -/
/-- a held value at a method's end, in its caller's words: a token stands for what the caller had there -/
def ai_pv (cvs : List ai_V) (w : ai_V) : ai_V := bif w.1 == 2 || w.1 == 3 then (match cvs[w.2.1]? with
  | some cv => cv
  | none => w) else w
def ai_kpv (k : Nat) (cvs : List ai_V) (w : ai_V) : Bool := match w.1 with
  | 0 => true
  | 1 => true
  | 4 => true
  | 5 => true
  | 2 => decide (w.2.2.1 = 0) && (decide (w.2.2.2 = 1) && (decide (w.2.1 < k) && (match cvs[w.2.1]? with
    | some cv => ai_isI cv
    | none => false)))
  | 3 => decide (w.2.2.1 = 0) && (decide (w.2.2.2 = 1) && (decide (w.2.1 < k) && (match cvs[w.2.1]? with
    | some cv => ai_isL cv
    | none => false)))
  | _ => false
def ai_kcl (w : ai_V) : Bool := w.1 == 0 || (w.1 == 1 || (w.1 == 4 || w.1 == 5))
def ai_pcl (cvs : List ai_V) (c : ai_C) : ai_C := match c with
  | .inl (ci, fs) => .inl (ci, fs.map (ai_pv cvs))
  | .inr (t, n, d, ov) => .inr (t, n, d, ov.map (fun q => (q.1, ai_pv cvs q.2)))
def ai_kcp (k : Nat) (cvs : List ai_V) (c : ai_C) : Bool := match c with
  | .inl (_, fs) => fs.all (ai_kpv k cvs)
  | .inr (_, _, d, ov) => (ai_kcl d || d.1 == 10) && ov.all (fun q => ai_kcl q.2 || (q.2.1 == 10 || ai_kpv k cvs q.2))
/-- what a method gives back: 0 nothing, 1 an int, 2 a long, in bounds -/
def ai_ans (G : ai_G) (r : Nat × Int × Int) (st : List ai_V) : Bool := match r.1 with
  | 0 => st.isEmpty
  | 1 => match st with
    | [v] => ai_isI v && (decide (r.2.1 ≤ (ai_b G v).1) && decide ((ai_b G v).2 ≤ r.2.2))
    | _ => false
  | 2 => match st with
    | [v] => ai_isL v && (decide (r.2.1 ≤ (ai_b G v).1) && decide ((ai_b G v).2 ≤ r.2.2))
    | _ => false
  | _ => false
/-- an end of the method comes under what is told of its ends -/
def ai_ce (k : Nat) (We : ai_W) (r : Nat × Int × Int) (o : ai_O) : Bool := ai_ans o.2.1 r o.2.2.2.1 && ai_all2 (ai_sbc o.2.1 k []) o.2.2.2.2.1 We
/-- the end as the caller has it -/
def ai_co (G : ai_G) (cvs : List ai_V) (We : ai_W) (r : Nat × Int × Int) : ai_O := match r.1 with
  | 0 => (0, G, [], [], We.map (ai_pcl cvs), 0, 0)
  | 1 => (0, G ++ [(r.2.1, r.2.2, 0)], [], [(2, G.length, 0, 1)], We.map (ai_pcl cvs), 0, 0)
  | _ => (0, G ++ [(r.2.1, r.2.2, 0)], [], [(3, G.length, 0, 1)], We.map (ai_pcl cvs), 0, 0)
section ACT
variable {ρ σ τ : ai_Rh} {sb : ai_SB} {ad : List Nat} {G : ai_G} {k : Nat} {cvs : List ai_V}
theorem ai_kcl_ok {w : ai_V} {v : Value} (h : ai_kcl w = true) (hm : ai_mt τ sb ad w v) : ai_mt σ sb ad w v := by
  obtain ⟨n, t, l, u⟩ := w
  unfold ai_kcl at h
  simp only [Bool.or_eq_true, beq_iff_eq] at h
  rcases h with rfl | rfl | rfl | rfl
  · exact hm
  · exact hm
  · exact hm
  · exact hm
theorem ai_pv_ok {w : ai_V} {v : Value} (hG : ai_gok σ G) (hc : ∀ (j : Nat) (cv : ai_V), cvs[j]? = some cv → ∃ u, ai_mt σ sb ad cv u ∧ (j < k → τ j = some (ai_vz u))) (h : ai_kpv k cvs w = true) (hm : ai_mt τ sb ad w v) : ai_mt σ sb ad (ai_pv cvs w) v := by
  obtain ⟨n, t, l, u⟩ := w
  match n, h, hm with
  | 0, _, hm => exact hm
  | 1, _, hm => exact hm
  | 4, _, hm => exact hm
  | 5, _, hm => exact hm
  | 2, h, hm =>
    have h' : (decide (l = 0) && (decide (u = 1) && (decide (t < k) && (match cvs[t]? with
      | some cv => ai_isI cv
      | none => false)))) = true := h
    simp only [Bool.and_eq_true, decide_eq_true_eq] at h'
    obtain ⟨rfl, rfl, ht, hk⟩ := h'
    obtain ⟨x, z, rfl, h1, h2⟩ := hm
    split at hk
    · rename_i cv hcv
      obtain ⟨w', hw, hz⟩ := hc t cv hcv
      obtain ⟨x', rfl, -⟩ := ai_int hG hw hk
      have e1 := hz ht
      rw [h1] at e1
      have e2 : z = x'.toInt := Option.some.inj e1
      have e3 : x = x' := Int32.toInt_inj.mp (by omega)
      subst e3
      show ai_mt σ sb ad (match cvs[t]? with
        | some cv => cv
        | none => (2, t, 0, 1)) _
      rw [hcv]
      exact hw
    · cases hk
  | 3, h, hm =>
    have h' : (decide (l = 0) && (decide (u = 1) && (decide (t < k) && (match cvs[t]? with
      | some cv => ai_isL cv
      | none => false)))) = true := h
    simp only [Bool.and_eq_true, decide_eq_true_eq] at h'
    obtain ⟨rfl, rfl, ht, hk⟩ := h'
    obtain ⟨x, z, rfl, h1, h2⟩ := hm
    split at hk
    · rename_i cv hcv
      obtain ⟨w', hw, hz⟩ := hc t cv hcv
      obtain ⟨x', rfl, -⟩ := ai_lng hG hw hk
      have e1 := hz ht
      rw [h1] at e1
      have e2 : z = x'.toInt := Option.some.inj e1
      have e3 : x = x' := Int64.toInt_inj.mp (by omega)
      subst e3
      show ai_mt σ sb ad (match cvs[t]? with
        | some cv => cv
        | none => (3, t, 0, 1)) _
      rw [hcv]
      exact hw
    · cases hk
  | 6, h, _ => cases h
  | 7, h, _ => cases h
  | 8, h, _ => cases h
  | 9, h, _ => cases h
  | n + 10, h, _ => cases h
theorem ai_lkm {g : ai_V → ai_V} {d : ai_V} {j : Nat} : ∀ (ov : List (Nat × ai_V)), (∃ q ∈ ov, ai_look d ov j = q.2 ∧ ai_look d (ov.map (fun q => (q.1, g q.2))) j = g q.2) ∨ (ai_look d ov j = d ∧ ai_look d (ov.map (fun q => (q.1, g q.2))) j = d)
  | [] => Or.inr ⟨rfl, rfl⟩
  | (k0, v0) :: r => by
    rw [List.map_cons]
    unfold ai_look
    cases k0 == j with
    | true => exact Or.inl ⟨(k0, v0), List.mem_cons_self, rfl, rfl⟩
    | false =>
      rcases ai_lkm r with ⟨q, hq, h⟩ | h
      · exact Or.inl ⟨q, List.mem_cons_of_mem _ hq, h⟩
      · exact Or.inr h
theorem ai_pv10 {w : ai_V} (h : ¬ (w.1 = 2 ∨ w.1 = 3)) : ai_pv cvs w = w := by
  unfold ai_pv
  have e : (w.1 == 2 || w.1 == 3) = false := by
    rw [Bool.or_eq_false_iff, beq_eq_false_iff_ne, beq_eq_false_iff_ne]
    omega
  rw [e, cond_false]
theorem ai_kpv10 {w : ai_V} (h : ai_kpv k cvs w = true) : ¬ (ai_pv cvs w).1 = 10 := by
  obtain ⟨n, t, l, u⟩ := w
  match n, h with
  | 0, _ => exact fun e => by cases e
  | 1, _ => exact fun e => by cases e
  | 4, _ => exact fun e => by cases e
  | 5, _ => exact fun e => by cases e
  | 2, h =>
    have h' : (decide (l = 0) && (decide (u = 1) && (decide (t < k) && (match cvs[t]? with
      | some cv => ai_isI cv
      | none => false)))) = true := h
    simp only [Bool.and_eq_true, decide_eq_true_eq] at h'
    obtain ⟨-, -, -, hk⟩ := h'
    show ¬ (match cvs[t]? with
      | some cv => cv
      | none => ((2, t, l, u) : ai_V)).1 = 10
    split at hk
    · rename_i cv hcv
      intro e
      unfold ai_isI at hk
      rw [show cv.1 = 10 from e] at hk
      cases hk
    · cases hk
  | 3, h =>
    have h' : (decide (l = 0) && (decide (u = 1) && (decide (t < k) && (match cvs[t]? with
      | some cv => ai_isL cv
      | none => false)))) = true := h
    simp only [Bool.and_eq_true, decide_eq_true_eq] at h'
    obtain ⟨-, -, -, hk⟩ := h'
    show ¬ (match cvs[t]? with
      | some cv => cv
      | none => ((3, t, l, u) : ai_V)).1 = 10
    split at hk
    · rename_i cv hcv
      intro e
      unfold ai_isL at hk
      rw [show cv.1 = 10 from e] at hk
      cases hk
    · cases hk
  | 6, h => cases h
  | 7, h => cases h
  | 8, h => cases h
  | 9, h => cases h
  | n + 10, h => cases h
theorem ai_kel {d : ai_V} {ov : List (Nat × ai_V)} {j : Nat} {v : Value} (hG : ai_gok σ G) (hc : ∀ (j : Nat) (cv : ai_V), cvs[j]? = some cv → ∃ u, ai_mt σ sb ad cv u ∧ (j < k → τ j = some (ai_vz u))) (h : ((ai_kcl d || d.1 == 10) && ov.all (fun q => ai_kcl q.2 || (q.2.1 == 10 || ai_kpv k cvs q.2))) = true) (hm : ai_el τ sb ad j (ai_look d ov j) v) : ai_el σ sb ad j (ai_look d (ov.map (fun q => (q.1, ai_pv cvs q.2))) j) v := by
  have plain : ∀ {w : ai_V}, (ai_kcl w = true ∨ w.1 = 10) → ai_el τ sb ad j w v → ai_el σ sb ad j w v := by
    intro w hw hm
    unfold ai_el at hm ⊢
    by_cases e : w.1 = 10
    · rw [if_pos e] at hm ⊢; exact hm
    · rw [if_neg e] at hm ⊢
      rcases hw with hw | hw
      · exact ai_kcl_ok hw hm
      · exact absurd hw e
  have noc : ∀ {w : ai_V}, (ai_kcl w = true ∨ w.1 = 10) → ai_pv cvs w = w := by
    intro w hw
    refine ai_pv10 (fun e => ?_)
    rcases hw with hw | hw
    · unfold ai_kcl at hw
      simp only [Bool.or_eq_true, beq_iff_eq] at hw
      omega
    · omega
  rw [Bool.and_eq_true] at h
  rcases ai_lkm (g := ai_pv cvs) (d := d) (j := j) ov with ⟨q, hq, e1, e2⟩ | ⟨e1, e2⟩
  · rw [e1] at hm
    rw [e2]
    have hw := List.all_eq_true.mp h.2 q hq
    simp only [Bool.or_eq_true, beq_iff_eq] at hw
    rcases hw with hw | hw | hw
    · rw [noc (Or.inl hw)]; exact plain (Or.inl hw) hm
    · rw [noc (Or.inr hw)]; exact plain (Or.inr hw) hm
    · have hn := ai_kpv10 hw
      have hn0 : ¬ q.2.1 = 10 := by
        intro e
        obtain ⟨k9, n9, t9, l9, u9⟩ := q
        have e' : n9 = 10 := e
        subst e'
        cases hw
      unfold ai_el at hm ⊢
      rw [if_neg hn0] at hm
      rw [if_neg hn]
      exact ai_pv_ok hG hc hw hm
  · rw [e1] at hm
    rw [e2]
    have hw := h.1
    rw [Bool.or_eq_true, beq_iff_eq] at hw
    exact plain hw hm
theorem ai_pcl_ok {tys : List (ClassId × FieldType)} {c : ai_C} {e9 : va_E} (hG : ai_gok σ G) (hc : ∀ (j : Nat) (cv : ai_V), cvs[j]? = some cv → ∃ u, ai_mt σ sb ad cv u ∧ (j < k → τ j = some (ai_vz u))) (h : ai_kcp k cvs c = true) (hm : ai_mc τ sb ad tys c e9) : ai_mc σ sb ad tys (ai_pcl cvs c) e9 := by
  rcases c with ⟨ci, fs⟩ | ⟨t, n, d, ov⟩
  · obtain ⟨vs, rfl, hF⟩ := hm
    refine ⟨vs, rfl, ?_⟩
    have h' : fs.all (ai_kpv k cvs) = true := h
    clear h
    induction fs generalizing vs with
    | nil => rw [hF.nil]; trivial
    | cons f r ih =>
      obtain ⟨u, us, rfl, h1, h2⟩ := hF.cons
      rw [List.all_cons, Bool.and_eq_true] at h'
      exact ⟨ai_pv_ok hG hc h'.1 h1, ih us h2 h'.2⟩
  · have h' : ((ai_kcl d || d.1 == 10) && ov.all (fun q => ai_kcl q.2 || (q.2.1 == 10 || ai_kpv k cvs q.2))) = true := h
    match t, hm with
    | 0, hm => obtain ⟨cA, f, t0, rfl, h1, h2, h3⟩ := hm; exact ⟨cA, f, t0, rfl, h1, fun j hj => ai_kel hG hc h' (h2 j hj), h3⟩
    | 1, hm => obtain ⟨cA, f, t0, rfl, h1, h2⟩ := hm; exact ⟨cA, f, t0, rfl, h1, fun j hj => ai_kel hG hc h' (h2 j hj)⟩
    | 2, hm => obtain ⟨cA, f, t0, rfl, h1, h2⟩ := hm; exact ⟨cA, f, t0, rfl, h1, fun j hj => ai_kel hG hc h' (h2 j hj)⟩
    | 3, hm => obtain ⟨cA, f, t0, rfl, h1, h2⟩ := hm; exact ⟨cA, f, t0, rfl, h1, fun j hj => ai_kel hG hc h' (h2 j hj)⟩
    | 4, hm => exact hm
    | 5, hm => exact hm
    | n + 6, hm => exact hm.elim
theorem ai_pw_ok {tys : List (ClassId × FieldType)} {We : ai_W} {ws : va_W} (hG : ai_gok σ G) (hc : ∀ (j : Nat) (cv : ai_V), cvs[j]? = some cv → ∃ u, ai_mt σ sb (ws.map Prod.fst) cv u ∧ (j < k → τ j = some (ai_vz u))) (h : We.all (ai_kcp k cvs) = true) (hm : ai_ws τ sb tys We ws) : ai_ws σ sb tys (We.map (ai_pcl cvs)) ws := by
  refine ⟨by rw [List.length_map]; exact hm.1, fun i c hi => ?_⟩
  rw [List.getElem?_map] at hi
  cases hw : We[i]? with
  | none => rw [hw] at hi; cases hi
  | some c0 =>
    rw [hw] at hi
    cases hi
    obtain ⟨q, h1, h2⟩ := hm.2 i c0 hw
    exact ⟨q, h1, ai_pcl_ok hG hc (List.all_eq_true.mp h c0 (List.mem_of_getElem? hw)) h2⟩
end ACT
/-- arguments that aren't known whole become tokens -/
def ai_mas {β : Type} : List ai_V → ai_G → (ai_G → List ai_V → β) → β
  | [], G, f => f G []
  | v :: r, G, f => match ai_matp G v with
    | none => ai_mas r G (fun G' t => f G' (v :: t))
    | some q => ai_mas r q.1 (fun G' t => f G' (q.2 :: t))
/-- fields likewise, by cell and place -/
def ai_mfs {β : Type} : List (Nat × Nat) → ai_G → ai_W → (ai_G → ai_W → List ai_V → Option β) → Option β
  | [], G, aw, f => f G aw []
  | (k, j) :: r, G, aw, f => (aw[k]?).bind fun c => match c with
    | .inl (ci, fs) => (fs[j]?).bind fun v => match ai_matp G v with
      | none => ai_mfs r G aw (fun G' aw' t => f G' aw' (v :: t))
      | some q => ai_mfs r q.1 (aw.set k (.inl (ci, fs.set j q.2))) (fun G' aw' t => f G' aw' (q.2 :: t))
    | .inr (t, n, d, ov) => bif t == 0 && (Nat.blt j n && !((ai_look d ov j).1 == 10)) then (match ai_matp G (ai_look d ov j) with
      | none => ai_mfs r G aw (fun G' aw' t => f G' aw' (ai_look d ov j :: t))
      | some q => ai_mfs r q.1 (aw.set k (.inr (t, n, d, (j, q.2) :: ov))) (fun G' aw' t => f G' aw' (q.2 :: t))) else none
/-- places of fields that are tokens at the start, bounds of all tokens, arguments and cells at the start, cells at the end, the answer, the room -/
abbrev ai_Ct : Type := List (Nat × Nat) × ai_G × List ai_V × ai_W × ai_W × (Nat × Int × Int) × Room
def ai_num' (v : ai_V) : Bool := ai_isI v || ai_isL v
def ai_cok (ct : ai_Ct) (G : ai_G) (as : List ai_V) (aw : ai_W) (cvs : List ai_V) : Bool := ai_nchk G cvs ct.2.1 && (ai_all2 (ai_sb G 0 cvs) as ct.2.2.1 && (ai_all2 (ai_sbc G 0 cvs) aw ct.2.2.2.1 && ct.2.2.2.2.1.all (ai_kcp ct.2.1.length cvs)))
def ai_use (ct : ai_Ct) (G : ai_G) (as : List ai_V) (aw : ai_W) : Option (Room × List ai_O) := ai_mas as G fun G1 as1 => ai_mfs ct.1 G1 aw fun G2 aw2 cf => ai_gd (ai_cok ct G2 as1 aw2 (cf ++ as1.filter ai_num')) (some (ct.2.2.2.2.2.2, [ai_co G2 (cf ++ as1.filter ai_num') ct.2.2.2.2.1 ct.2.2.2.2.2.1]))
theorem ai_F2.filt' {α β : Type} {R : α → β → Prop} {f : α → Bool} : ∀ {l1 : List α} {l2 : List β}, ai_F2 R l1 l2 → ∃ l3, ai_F2 R (l1.filter f) l3
  | [], [], _ => ⟨[], trivial⟩
  | a :: as, b :: bs, h => by
    obtain ⟨l3, h3⟩ := ai_F2.filt' (f := f) h.2
    rw [List.filter_cons]
    cases f a with
    | false => exact ⟨l3, h3⟩
    | true => exact ⟨b :: l3, h.1, h3⟩
  | [], _ :: _, h => h.elim
  | _ :: _, [], h => h.elim
theorem ai_mas_ok {β : Type} {sb : ai_SB} {ad : List Nat} : ∀ (as : List ai_V) (G : ai_G) (f : ai_G → List ai_V → β), ∃ G' t, ai_mas as G f = f G' t ∧ ∀ (ρ : ai_Rh) (vs : List Value), ai_gok ρ G → ai_F2 (ai_mt ρ sb ad) as vs → ∃ σ, ai_le ρ σ ∧ ai_gok σ G' ∧ ai_F2 (ai_mt σ sb ad) t vs
  | [], G, f => ⟨G, [], rfl, fun ρ vs hG h => ⟨ρ, ai_le.rf, hG, h⟩⟩
  | v :: r, G, f => by
    unfold ai_mas
    cases hq : ai_matp G v with
    | none =>
      obtain ⟨G', t, h1, h2⟩ := ai_mas_ok (sb := sb) (ad := ad) r G (fun G' t => f G' (v :: t))
      refine ⟨G', v :: t, h1, fun ρ vs hG h => ?_⟩
      obtain ⟨u, us, rfl, m1, m2⟩ := h.cons
      obtain ⟨σ, s1, s2, s3⟩ := h2 ρ us hG m2
      exact ⟨σ, s1, s2, m1.up s1, s3⟩
    | some q =>
      obtain ⟨G', t, h1, h2⟩ := ai_mas_ok (sb := sb) (ad := ad) r q.1 (fun G' t => f G' (q.2 :: t))
      refine ⟨G', q.2 :: t, h1, fun ρ vs hG h => ?_⟩
      obtain ⟨u, us, rfl, m1, m2⟩ := h.cons
      obtain ⟨σ0, z1, z2, z3⟩ := ai_matp_ok hG m1 hq
      obtain ⟨σ, s1, s2, s3⟩ := h2 σ0 us z2 (ai_stk.up z1 m2)
      exact ⟨σ, z1.tr s1, s2, z3.up s1, s3⟩
theorem ai_mfs_ok {β : Type} {sb : ai_SB} {tys : List (ClassId × FieldType)} {ws : va_W} {x : β} : ∀ (ps : List (Nat × Nat)) (G : ai_G) (aw : ai_W) (f : ai_G → ai_W → List ai_V → Option β), ai_mfs ps G aw f = some x → ∃ G' aw' t, f G' aw' t = some x ∧ ∀ (ρ : ai_Rh), ai_gok ρ G → ai_ws ρ sb tys aw ws → ∃ σ us, ai_le ρ σ ∧ ai_gok σ G' ∧ ai_ws σ sb tys aw' ws ∧ ai_F2 (ai_mt σ sb (ws.map Prod.fst)) t us
  | [], G, aw, f, h => ⟨G, aw, [], h, fun ρ hG hw => ⟨ρ, [], ai_le.rf, hG, hw, trivial⟩⟩
  | (k, j) :: r, G, aw, f, h => by
    unfold ai_mfs at h
    obtain ⟨c, hc, h1⟩ := ai_bd_ok h
    rcases c with ⟨ci, fs⟩ | q
    · dsimp only at h1
      obtain ⟨v, hv, h2⟩ := ai_bd_ok h1
      cases hq : ai_matp G v with
      | none =>
        rw [hq] at h2
        obtain ⟨G', aw', t, g1, g2⟩ := ai_mfs_ok (sb := sb) (tys := tys) (ws := ws) r G aw _ h2
        refine ⟨G', aw', v :: t, g1, fun ρ hG hw => ?_⟩
        obtain ⟨⟨q0, e9⟩, z1, vs, rfl, z2⟩ := hw.2 k _ hc
        obtain ⟨u, hu, mu⟩ := z2.get hv
        obtain ⟨σ, us, s1, s2, s3, s4⟩ := g2 ρ hG hw
        exact ⟨σ, u :: us, s1, s2, s3, mu.up s1, s4⟩
      | some q =>
        rw [hq] at h2
        obtain ⟨G', aw', t, g1, g2⟩ := ai_mfs_ok (sb := sb) (tys := tys) (ws := ws) r q.1 _ _ h2
        refine ⟨G', aw', q.2 :: t, g1, fun ρ hG hw => ?_⟩
        obtain ⟨⟨q0, e9⟩, z1, vs, e0, z2⟩ := hw.2 k _ hc
        dsimp only at e0
        subst e0
        obtain ⟨u, hu, mu⟩ := z2.get hv
        obtain ⟨σ0, y1, y2, y3⟩ := ai_matp_ok hG mu hq
        have hset : ai_F2 (ai_mt σ0 sb (ws.map Prod.fst)) (fs.set j q.2) vs := by
          have := ai_F2.set (k := j) y3 (z2.mono (fun _ _ h => h.up y1))
          rw [show vs.set j u = vs from by
            apply List.ext_getElem?
            intro i
            by_cases ei : j = i
            · rw [← ei, List.getElem?_set_self (List.getElem?_eq_some_iff.mp hu).1, hu]
            · rw [List.getElem?_set_ne ei]] at this
          exact this
        obtain ⟨σ, us, s1, s2, s3, s4⟩ := g2 σ0 y2 ((hw.up y1).repl z1 ⟨vs, rfl, hset⟩)
        exact ⟨σ, u :: us, y1.tr s1, s2, s3, y3.up s1, s4⟩
    · obtain ⟨t0, n, d, ov⟩ := q
      dsimp only at h1
      cases hb : (t0 == 0 && (Nat.blt j n && !((ai_look d ov j).1 == 10))) with
      | false => rw [hb, cond_false] at h1; cases h1
      | true =>
        rw [hb, cond_true] at h1
        simp only [Bool.and_eq_true, beq_iff_eq, Bool.not_eq_true', beq_eq_false_iff_ne] at hb
        obtain ⟨rfl, hjn, h10⟩ := hb
        have hjn' : j < n := Nat.le_of_ble_eq_true hjn
        cases hq : ai_matp G (ai_look d ov j) with
        | none =>
          rw [hq] at h1
          obtain ⟨G', aw', t, g1, g2⟩ := ai_mfs_ok (sb := sb) (tys := tys) (ws := ws) r G aw _ h1
          refine ⟨G', aw', ai_look d ov j :: t, g1, fun ρ hG hw => ?_⟩
          obtain ⟨⟨q0, e9⟩, z1, cA, fa, t1, e0, z2, z3, z4⟩ := hw.2 k _ hc
          have mu := (z3 j hjn').to h10
          obtain ⟨σ, us, s1, s2, s3, s4⟩ := g2 ρ hG hw
          exact ⟨σ, _ :: us, s1, s2, s3, mu.up s1, s4⟩
        | some q =>
          rw [hq] at h1
          obtain ⟨G', aw', t, g1, g2⟩ := ai_mfs_ok (sb := sb) (tys := tys) (ws := ws) r q.1 _ _ h1
          refine ⟨G', aw', q.2 :: t, g1, fun ρ hG hw => ?_⟩
          obtain ⟨⟨q0, e9⟩, z1, cA, fa, t1, e0, z2, z3, z4⟩ := hw.2 k _ hc
          dsimp only at e0
          subst e0
          have mu := (z3 j hjn').to h10
          obtain ⟨σ0, y1, y2, y3⟩ := ai_matp_ok hG mu hq
          have hset : ai_mc σ0 sb (ws.map Prod.fst) tys (.inr (0, n, d, (j, q.2) :: ov)) (.inl (cA, n, .inl fa)) := by
            refine ⟨cA, fa, t1, rfl, z2, fun i hi => ?_, z4⟩
            unfold ai_look
            cases ej : (j == i) with
            | true =>
              rw [beq_iff_eq] at ej
              subst ej
              exact ai_el.of y3
            | false =>
              have h9 := (z3 i hi).more y1 []
              rw [List.append_nil] at h9
              exact h9
          obtain ⟨σ, us, s1, s2, s3, s4⟩ := g2 σ0 y2 ((hw.up y1).repl z1 hset)
          exact ⟨σ, _ :: us, y1.tr s1, s2, s3, y3.up s1, s4⟩
theorem ai_nil_gok : ai_gok (fun _ => none) [] := fun t => by
  show (match ([] : ai_G)[t]? with
    | some q => ∃ z, (none : Option Int) = some z ∧ q.1 ≤ z ∧ z ≤ q.2.1 ∧ ai_kp (fun _ => none) q.2.2 z
    | none => (none : Option Int) = none)
  rw [List.getElem?_nil]
/-- a contract serves every state that comes under its start -/
theorem ai_use_ok {md : ai_MD} {L : Nat} {sb : ai_SB} {ct : ai_Ct} {outs0 : List ai_O} {G : ai_G} {as : List ai_V} {aw : ai_W} {q : Room × List ai_O} (hL : ¬ L = 7) (hT : ai_cs md L sb ct.2.1 ct.2.2.1 ct.2.2.2.1 outs0) (hE : outs0.all (ai_ce ct.2.1.length ct.2.2.2.2.1 ct.2.2.2.2.2.1) = true) (h : ai_use ct G as aw = some q) : q.1 = ct.2.2.2.2.2.2 ∧ ai_cs md L sb G as aw q.2 := by
  unfold ai_use at h
  refine ⟨?_, ?_⟩
  · obtain ⟨G1, as1, e1, -⟩ := ai_mas_ok (sb := sb) (ad := []) as G (fun G1 as1 => ai_mfs ct.1 G1 aw fun G2 aw2 cf => ai_gd (ai_cok ct G2 as1 aw2 (cf ++ as1.filter ai_num')) (some (ct.2.2.2.2.2.2, [ai_co G2 (cf ++ as1.filter ai_num') ct.2.2.2.2.1 ct.2.2.2.2.2.1])))
    rw [e1] at h
    obtain ⟨G2, aw2, cf, e2, -⟩ := ai_mfs_ok (sb := sb) (tys := []) (ws := []) _ _ _ _ h
    obtain ⟨-, e3⟩ := ai_gd_ok e2
    cases e3
    rfl
  intro ρ l D ws tys vs sz hrb hG has hws
  obtain ⟨G1, as1, e1, k1⟩ := ai_mas_ok (sb := sb) (ad := ws.map Prod.fst) as G (fun G1 as1 => ai_mfs ct.1 G1 aw fun G2 aw2 cf => ai_gd (ai_cok ct G2 as1 aw2 (cf ++ as1.filter ai_num')) (some (ct.2.2.2.2.2.2, [ai_co G2 (cf ++ as1.filter ai_num') ct.2.2.2.2.1 ct.2.2.2.2.2.1])))
  rw [e1] at h
  obtain ⟨σ1, a1, a2, a3⟩ := k1 ρ vs hG has
  obtain ⟨G2, aw2, cf, e2, k2⟩ := ai_mfs_ok (sb := sb) (tys := tys) (ws := ws) _ _ _ _ h
  obtain ⟨σ, us2, b1, b2, b3, b4⟩ := k2 σ1 a2 (hws.up a1)
  obtain ⟨hok, e3⟩ := ai_gd_ok e2
  cases e3
  unfold ai_cok at hok
  simp only [Bool.and_eq_true] at hok
  obtain ⟨c1, c2, c3, c4⟩ := hok
  have a3' := ai_stk.up b1 a3
  obtain ⟨us1, u1⟩ := a3'.filt' (f := ai_num')
  have hcv := ai_F2.app b4 u1
  generalize hcvs : cf ++ as1.filter ai_num' = cvs at c1 c2 c3 c4 hcv ⊢
  generalize us2 ++ us1 = us at hcv
  have hb := ai_nchk_ok b2 hcv c1
  obtain ⟨g1, -, g3⟩ := ai_mores_le ai_nil_gok hb
  generalize hτ : ai_mores (fun _ => none) ([] : ai_G).length (us.map ai_vz) = τ at g1 g3
  rw [List.nil_append] at g1
  have hnw : ∀ (j : Nat) (u : Value), us[j]? = some u → τ (0 + j) = some (ai_vz u) := fun j u hj => g3 j (ai_vz u) (by rw [List.getElem?_map, hj]; rfl)
  have hag : ∀ t z, t < 0 → σ t = some z → τ t = some z := fun t z ht => by omega
  have t1 : ai_F2 (ai_mt τ sb (ws.map Prod.fst)) ct.2.2.1 vs := ai_all2_ok (P := ai_mt σ sb (ws.map Prod.fst)) (S := ai_mt τ sb (ws.map Prod.fst)) (fun _ _ _ h g => ai_sb_ok b2 hag hcv hnw h g) c2 a3'
  have t2 : ai_ws τ sb tys ct.2.2.2.1 ws := ai_sbw_ok b2 hag hcv hnw c3 b3
  have hM := hT τ l D ws tys vs sz (fun _ _ h => absurd h hL) g1 t1 t2
  refine MetFree.mono hM (fun _ _ h => h) (fun _ _ _ _ _ h => h) (fun a st oc t hP hQ => ⟨?_, hQ.2⟩)
  obtain ⟨⟨o, ho, τ', d1, d2, rv, ws1, tys1, y, f1, f2, f3, f4, f5, f6, f7⟩, hFr⟩ := hQ.1
  have hce := List.all_eq_true.mp hE o ho
  unfold ai_ce at hce
  rw [Bool.and_eq_true] at hce
  have hWe : ai_ws τ' sb tys1 ct.2.2.2.2.1 ws1 := ai_sbw_ok (nG := ct.2.1.length) (cvs := []) (us := []) d2 (fun _ _ _ h => h) trivial (fun j u hj => by simp at hj) hce.2 f7
  have hc : ∀ (j : Nat) (cv : ai_V), cvs[j]? = some cv → ∃ u, ai_mt σ sb (ws1.map Prod.fst) cv u ∧ (j < ct.2.1.length → τ' j = some (ai_vz u)) := by
    intro j cv hj
    obtain ⟨u, hu, mu⟩ := hcv.get hj
    refine ⟨u, by rw [f2]; exact mu.more ai_le.rf y, fun _ => ?_⟩
    have := hnw j u hu
    rw [Nat.zero_add] at this
    exact d1 _ _ this
  have hW2 := ai_pw_ok b2 hc c4 hWe
  have hρσ := a1.tr b1
  unfold ai_ans at hce
  unfold ai_co
  split at hce
  · rename_i hr
    rw [hr]
    have hst : o.2.2.2.1 = [] := List.isEmpty_iff.mp hce.1
    rw [hst] at f3
    exact ⟨⟨_, List.mem_cons_self, σ, hρσ, b2, rv, ws1, tys1, y, f1, f2, by rw [f3.nil]; trivial, f4, f5, f6, hW2⟩, hFr⟩
  · rename_i hr
    rw [hr]
    split at hce
    · rename_i v hv
      simp only [Bool.and_eq_true, decide_eq_true_eq] at hce
      rw [hv] at f3
      obtain ⟨u, r, hrv, mu, hn⟩ := f3.cons
      obtain ⟨z, rfl, hz⟩ := ai_int d2 mu hce.1.1
      rw [hn.nil] at hrv
      have hle := ai_more_le b2 z.toInt
      exact ⟨⟨_, List.mem_cons_self, ai_more σ G2.length z.toInt, hρσ.tr hle, ai_more_ok (q := (ct.2.2.2.2.2.1.2.1, ct.2.2.2.2.2.1.2.2, 0)) b2 (by dsimp only; omega) (by dsimp only; omega) (ai_kp0 rfl), rv, ws1, tys1, y, f1, f2, by rw [hrv]; exact ⟨⟨z, z.toInt, rfl, ai_more_at, by omega⟩, trivial⟩, f4, f5, f6, hW2.up hle⟩, hFr⟩
    · cases hce.1
  · rename_i hr
    rw [hr]
    split at hce
    · rename_i v hv
      simp only [Bool.and_eq_true, decide_eq_true_eq] at hce
      rw [hv] at f3
      obtain ⟨u, r, hrv, mu, hn⟩ := f3.cons
      obtain ⟨z, rfl, hz⟩ := ai_lng d2 mu hce.1.1
      rw [hn.nil] at hrv
      have hle := ai_more_le b2 z.toInt
      exact ⟨⟨_, List.mem_cons_self, ai_more σ G2.length z.toInt, hρσ.tr hle, ai_more_ok (q := (ct.2.2.2.2.2.1.2.1, ct.2.2.2.2.2.1.2.2, 0)) b2 (by dsimp only; omega) (by dsimp only; omega) (ai_kp0 rfl), rv, ws1, tys1, y, f1, f2, by rw [hrv]; exact ⟨⟨z, z.toInt, rfl, ai_more_at, by omega⟩, trivial⟩, f4, f5, f6, hW2.up hle⟩, hFr⟩
    · cases hce.1
  · cases hce.1
/-- a walk of the body gives the contract at its own start -/
theorem ai_run_cs {T : Nat → ai_MD} {B : Nat → Nat → List ai_E} {hk : ai_H} {N : ai_Ns} {L : Nat} {sb : ai_SB} {n K : Nat} {G : ai_G} {as : List ai_V} {aw : ai_W} {outs : List ai_O} (hcl : ai_clok) (hB : ∀ M q, ai_codeok T (T M) (B M q) ∧ ∀ en r, B M q = en :: r → en.1 = q) (hMo : ∀ K, ¬ (T K).2.2.2.2.2.2.2 = 3 → ai_mok (T K)) (hhk : ∀ K G as aw rm outs, hk K G as aw = some (rm, outs) → ai_cs (ai_sr' (T K) rm) L sb G as aw outs) (hkd : ¬ (T K).2.2.2.2.2.2.2 = 3) (hsum : (as.map ai_cat).sum ≤ (T K).2.2.2.1) (h : ai_ex T B hk N L n K [] (B K 0) G (ai_arg 0 as, [], aw, 0, 0) = some outs) : ai_cs (T K) L sb G as aw outs := by
  refine ai_met (md := T K) (L := L) (jn := none) (outs := outs) (hMo K hkd) hkd rfl hsum (fun ρ hG hrb {p l e R s m args below meth c Q D A xs ad} cx HO => ?_)
  obtain ⟨en, rest, hc, hk'⟩ := ai_snd hcl hB hMo hhk n K [] (B K 0) G _ outs h (hB K 0).1 ρ hG (l := l) (e := e) (below := below) (Q := Q) (D := D) (ad := ad) cx (fun σ hσ => ⟨hrb σ hσ, fun h => absurd h hkd⟩) (fun o ho hor σ hσ hg => HO o ho (by rcases hor with h | h; cases h; exact h) σ hσ hg)
  have := (hB K 0).2 en rest hc
  rw [this] at hk'
  exact hk'
/-- the same methods with other rooms -/
def ai_Tr (T : Nat → ai_MD) (f : Nat → Room) : Nat → ai_MD := fun M => ai_sr' (T M) (f M)
theorem ai_codeok_sr {T : Nat → ai_MD} {f : Nat → Room} {md : ai_MD} {r : Room} : ∀ {l : List ai_E}, ai_codeok T md l → ai_codeok (ai_Tr T f) (ai_sr' md r) l
  | [], _ => trivial
  | _ :: _, h => ⟨h.1, h.2.1, ai_codeok_sr h.2.2⟩
/-- contracts by number: method n calls such as have a lower one; fnd finds the one that is told of a call -/
def ai_hr (fnd : Nat → List ai_V → Option Nat) (ctf : Nat → ai_Ct) (r : Nat) : ai_H := fun K G as aw => match fnd K as with
  | some i => bif Nat.blt i r then ai_use (ctf i) G as aw else none
  | none => none
/-- what a walk must show of the contract i -/
noncomputable def ai_shows (fnd : Nat → List ai_V → Option Nat) (ctf : Nat → ai_Ct) (ctk : Nat → Nat) (N : ai_Ns) (T : Nat → ai_MD) (B : Nat → Nat → List ai_E) (n i : Nat) (f : Nat → Room) : Bool := match af_ex (ai_Tr T f) B (ai_hr fnd ctf i) N 0 n (ctk i) [] (B (ctk i) 0) (ctf i).2.1 (ai_arg 0 (ctf i).2.2.1, [], (ctf i).2.2.2.1, 0, 0) with
  | some outs => outs.all (ai_ce (ctf i).2.1.length (ctf i).2.2.2.2.1 (ctf i).2.2.2.2.2.1)
  | none => false
