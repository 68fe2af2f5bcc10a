section ASJ
variable {p : Program} {l : Launch} {e : Env} {R : Room} {s : State} {m : MethodId} {args : Array Value} {below : List Frame} {meth : Method} {c : Code} {H : Heap} {locs : List Loc} {cs ss : Nat} {Q : State → Prop} {ρ : ai_Rh} {sb : ai_SB} {L : Nat} {xs : Nat → Int32} {D : va_G} {A : Nat → Prop} {md : ai_MD}
variable {ls : Array Slot} {stk : List Value} {ws : va_W} {tys : List (ClassId × FieldType)} {G : ai_G} {als : ai_L} {st : List ai_V} {aw : ai_W} {pc : Nat} {x : ai_S} {cc : ByteArray} {ad : List Nat}
theorem ai_bI {a : ai_V} {y : Int32} (hG : ai_gok ρ G) (h : ai_mt ρ sb ad a (.int y)) : (ai_b G a).1 ≤ y.toInt ∧ y.toInt ≤ (ai_b G a).2 := by
  have hi : ai_isI a = true := by
    obtain ⟨n, t, lo, hi⟩ := a
    match n, h with
    | 0, _ => rfl
    | 1, h => obtain ⟨z, h, -⟩ := h; cases h
    | 2, _ => rfl
    | 3, h => obtain ⟨z, w, h, -⟩ := h; cases h
    | 4, h => obtain ⟨z, -, h⟩ := h; cases h
    | 5, h => cases h
    | 6, _ => rfl
    | 7, h => cases h
    | 8, _ => rfl
    | 9, _ => rfl
    | n + 10, h => exact h.elim
  obtain ⟨z, e1, e2⟩ := ai_int hG h hi
  cases e1
  exact e2
theorem ai_bLg {a : ai_V} {y : Int64} (hG : ai_gok ρ G) (h : ai_mt ρ sb ad a (.long y)) : (ai_b G a).1 ≤ y.toInt ∧ y.toInt ≤ (ai_b G a).2 := by
  have hi : ai_isL a = true := by
    obtain ⟨n, t, lo, hi⟩ := a
    match n, h with
    | 0, h => obtain ⟨z, h, -⟩ := h; cases h
    | 1, _ => rfl
    | 2, h => obtain ⟨z, w, h, -⟩ := h; cases h
    | 3, _ => rfl
    | 4, h => obtain ⟨z, -, h⟩ := h; cases h
    | 5, h => cases h
    | 6, h => obtain ⟨z, w, h, -⟩ := h; cases h
    | 7, h => cases h
    | 8, h => obtain ⟨z, w, h, -⟩ := h; cases h
    | 9, h => obtain ⟨z, w, h, -⟩ := h; cases h
    | n + 10, h => exact h.elim
  obtain ⟨z, e1, e2⟩ := ai_lng hG h hi
  cases e1
  exact e2
theorem ai_itvI {ty : Nat} {q : Int × Int} {y : Int32} (ht : ¬ ty = 1) (h1 : q.1 ≤ y.toInt) (h2 : y.toInt ≤ q.2) : ai_mt ρ sb ad (ai_itv ty q) (.int y) := by
  unfold ai_itv
  have : (ty == 1) = false := by simpa using ht
  rw [this]
  exact ⟨y, rfl, h1, h2⟩
theorem ai_itvL {ty : Nat} {q : Int × Int} {y : Int64} (ht : ty = 1) (h1 : q.1 ≤ y.toInt) (h2 : y.toInt ≤ q.2) : ai_mt ρ sb ad (ai_itv ty q) (.long y) := by
  unfold ai_itv
  subst ht
  exact ⟨y, rfl, h1, h2⟩
/-- the bounds that an array's places have together -/
theorem ai_hullI {n j : Nat} {d : ai_V} {ov : List (Nat × ai_V)} {q : Int × Int} {y : Int32} (hG : ai_gok ρ G) (hel : ai_el ρ sb ad j (ai_look d ov j) (.int y)) (hd : ¬ d.1 = 10 → q = ai_b G d) (hs : d.1 = 10 → ai_sp d.2.1 j y.toInt → q.1 ≤ y.toInt ∧ y.toInt ≤ q.2) (ho : ∀ p ∈ ov, ¬ p.2.1 = 10) : (ai_hull G q ov).1 ≤ y.toInt ∧ y.toInt ≤ (ai_hull G q ov).2 := by
  rcases ai_look_or (d := d) ov j with e | ⟨p, h1, h2, h3⟩
  · rw [e] at hel
    have hq := ai_hull_q (G := G) (q := q) ov
    by_cases e10 : d.1 = 10
    · unfold ai_el at hel
      rw [if_pos e10] at hel
      obtain ⟨x, ex, hx⟩ := hel
      cases ex
      have := hs e10 hx
      constructor <;> omega
    · have := ai_bI hG (hel.to e10)
      rw [hd e10] at hq ⊢
      constructor <;> omega
  · rw [h3] at hel
    have := ai_bI hG (hel.to (ho p h1))
    have hq := ai_hull_o (G := G) (q := q) ov p h1
    constructor <;> omega
theorem ai_hullL {n j : Nat} {d : ai_V} {ov : List (Nat × ai_V)} {y : Int64} (hG : ai_gok ρ G) (hel : ai_el ρ sb ad j (ai_look d ov j) (.long y)) (ho : ∀ p ∈ ov, ¬ p.2.1 = 10) (hd : ¬ d.1 = 10) : (ai_hull G (ai_b G d) ov).1 ≤ y.toInt ∧ y.toInt ≤ (ai_hull G (ai_b G d) ov).2 := by
  rcases ai_look_or (d := d) ov j with e | ⟨p, h1, h2, h3⟩
  · rw [e] at hel
    have hq := ai_hull_q (G := G) (q := ai_b G d) ov
    have := ai_bLg hG (hel.to hd)
    constructor <;> omega
  · rw [h3] at hel
    have := ai_bLg hG (hel.to (ho p h1))
    have hq := ai_hull_o (G := G) (q := ai_b G d) ov p h1
    constructor <;> omega
theorem ai_n10_ok {ov : List (Nat × ai_V)} (h : ai_n10 ov = true) : ∀ p ∈ ov, ¬ p.2.1 = 10 := by
  intro p hp
  have := List.all_eq_true.mp h p hp
  simpa using this
theorem ai_look_nr {d : ai_V} {q : Int × Int} {j : Nat} (h1 : q.1 ≤ (j : Int)) (h2 : (j : Int) ≤ q.2) : ∀ ov : List (Nat × ai_V), ai_look d (ai_nr q ov) j = ai_look d ov j
  | [] => rfl
  | (k, v) :: r => by
    have ih := ai_look_nr (d := d) h1 h2 r
    unfold ai_nr at ih ⊢
    have e : ai_look d ((k, v) :: r) j = (bif k == j then v else ai_look d r j) := rfl
    rw [List.filter_cons, e]
    by_cases hk : k = j
    · subst hk
      have hc : (decide (q.1 ≤ (k : Int)) && decide ((k : Int) ≤ q.2)) = true := by simp [h1, h2]
      rw [if_pos hc]
      simp [ai_look]
    · have e2 : (k == j) = false := by simpa using hk
      rw [e2, cond_false, ← ih]
      split
      · have e3 : ai_look d ((k, v) :: List.filter (fun p => decide (q.1 ≤ (p.1 : Int)) && decide ((p.1 : Int) ≤ q.2)) r) j = (bif k == j then v else ai_look d (List.filter (fun p => decide (q.1 ≤ (p.1 : Int)) && decide ((p.1 : Int) ≤ q.2)) r) j) := rfl
        rw [e3, e2, cond_false]
      · rfl
theorem ai_nr_mem {q : Int × Int} {ov : List (Nat × ai_V)} {p : Nat × ai_V} (h : p ∈ ai_nr q ov) : p ∈ ov := (List.mem_filter.mp h).1
theorem ai_look_in {d : ai_V} {q : Int × Int} {k : Nat} (h1 : q.1 ≤ (k : Int)) (h2 : (k : Int) ≤ q.2) : ∀ ov : List (Nat × ai_V), ai_look d (ai_nout q ov) k = d
  | [] => rfl
  | (a, v) :: r => by
    have ih := ai_look_in (d := d) h1 h2 r
    unfold ai_nout at ih ⊢
    rw [List.filter_cons]
    split
    · rename_i hc
      have e : (a == k) = false := by
        rw [beq_eq_false_iff_ne]
        intro e
        subst e
        simp [h1, h2] at hc
      show (bif a == k then v else ai_look d (List.filter _ r) k) = d
      rw [e, cond_false]
      exact ih
    · exact ih
theorem ai_look_out {d : ai_V} {q : Int × Int} {k : Nat} (h : ¬ (q.1 ≤ (k : Int) ∧ (k : Int) ≤ q.2)) : ∀ ov : List (Nat × ai_V), ai_look d (ai_nout q ov) k = ai_look d ov k
  | [] => rfl
  | (a, v) :: r => by
    have ih := ai_look_out (d := d) h r
    have e0 : ai_look d ((a, v) :: r) k = (bif a == k then v else ai_look d r k) := rfl
    unfold ai_nout at ih ⊢
    rw [List.filter_cons, e0]
    by_cases hk : a = k
    · subst hk
      have hc : (!(decide (q.1 ≤ (a : Int)) && decide ((a : Int) ≤ q.2))) = true := by
        cases hb : (decide (q.1 ≤ (a : Int)) && decide ((a : Int) ≤ q.2)) with
        | false => rfl
        | true =>
          rw [Bool.and_eq_true, decide_eq_true_eq, decide_eq_true_eq] at hb
          exact absurd hb h
      rw [if_pos hc]
      show (bif a == a then v else _) = _
      rw [beq_self_eq_true, cond_true, cond_true]
    · have e2 : (a == k) = false := beq_eq_false_iff_ne.mpr hk
      rw [e2, cond_false, ← ih]
      split
      · show (bif a == k then v else _) = _
        rw [e2, cond_false]
      · rfl
/-- reading a place of an array -/
theorem ai_rd_ok {ty n j : Nat} {d i v : ai_V} {ov : List (Nat × ai_V)} {g : Nat → Value} (hG : ai_gok ρ G) (hel : ∀ j, j < n → ai_el ρ sb ad j (ai_look d ov j) (g j)) (hj : j < n) (hij : (ai_b G i).1 ≤ (j : Int) ∧ (j : Int) ≤ (ai_b G i).2) (hnm : ai_nm ρ i (j : Int)) (hty : (∃ y : Int32, g j = .int y ∧ ¬ ty = 1 ∧ ¬ ty = 3) ∨ (∃ y : Int64, g j = .long y ∧ ty = 1) ∨ ty = 3) (h : ai_rd G ty d ov i = some v) : ai_mt ρ sb ad v (g j) := by
  have hj' := hel j hj
  unfold ai_rd at h
  cases h1 : ai_one G i with
  | true =>
    rw [h1] at h
    simp only [cond_true] at h
    unfold ai_one at h1
    simp only [decide_eq_true_eq] at h1
    have ej : (ai_b G i).1.toNat = j := by omega
    rw [ej] at h
    cases h2 : ((ai_look d ov j).1 == 10) with
    | true =>
      rw [h2] at h
      obtain ⟨h3, h4⟩ := ai_gd_ok h
      obtain ⟨q, h5, h6⟩ := ai_bd_ok h4
      cases h6
      have e10 : (ai_look d ov j).1 = 10 := by simpa using h2
      unfold ai_el at hj'
      rw [if_pos e10] at hj'
      obtain ⟨x, hx, hs⟩ := hj'
      have e3 : ¬ ty = 1 ∧ ¬ ty = 3 := by simpa using h3
      rw [hx]
      have := ai_sr_ok hG hij hnm hs h5
      exact ai_itvI e3.1 this.1 this.2
    | false =>
      rw [h2] at h
      cases h
      exact hj'.to (by simpa using h2)
  | false =>
    rw [h1] at h
    simp only [cond_false] at h
    cases h3 : (ty == 3) with
    | true => rw [h3] at h; cases h
    | false =>
      rw [h3] at h
      simp only [cond_false] at h
      have e3 : ¬ ty = 3 := by simpa using h3
      cases h10 : (d.1 == 10) with
      | true =>
        rw [h10] at h
        obtain ⟨h4, h5⟩ := ai_gd_ok h
        obtain ⟨q, h6, h7⟩ := ai_bd_ok h5
        cases h7
        rw [Bool.and_eq_true] at h4
        have e1 : ¬ ty = 1 := by simpa using h4.1
        rw [← ai_look_nr hij.1 hij.2] at hj'
        rcases hty with ⟨y, hy, -⟩ | ⟨y, hy, e⟩ | e
        · rw [hy] at hj' ⊢
          have e10 : d.1 = 10 := by simpa using h10
          have := ai_hullI (n := n) hG hj' (fun hn => absurd e10 hn) (fun _ hs => ai_sr_ok hG hij hnm hs h6) (fun p hp => ai_n10_ok h4.2 p (ai_nr_mem hp))
          exact ai_itvI e1 this.1 this.2
        · exact absurd e e1
        · exact absurd e e3
      | false =>
        rw [h10] at h
        obtain ⟨h4, h5⟩ := ai_gd_ok h
        cases h5
        have e10 : ¬ d.1 = 10 := by simpa using h10
        rw [← ai_look_nr hij.1 hij.2] at hj'
        rcases hty with ⟨y, hy, e1, -⟩ | ⟨y, hy, e⟩ | e
        · rw [hy] at hj' ⊢
          have := ai_hullI (n := n) hG hj' (fun _ => rfl) (fun hn => absurd hn e10) (fun p hp => ai_n10_ok h4 p (ai_nr_mem hp))
          exact ai_itvI e1 this.1 this.2
        · rw [hy] at hj' ⊢
          have := ai_hullL (n := n) hG hj' (fun p hp => ai_n10_ok h4 p (ai_nr_mem hp)) e10
          exact ai_itvL e this.1 this.2
        · exact absurd e e3
theorem ai_nmL {z : Int} : ai_nm ρ (ai_lI z) z := fun h => by rcases h with h | h <;> cases h
/-- what a place of an int array holds keeps to the array's schema -/
theorem ai_sp_of {d : ai_V} {ov : List (Nat × ai_V)} {k : Nat} {y : Int32} (hG : ai_gok ρ G) (e10 : d.1 = 10) (hel : ai_el ρ sb ad k (ai_look d ov k) (.int y)) (hall : ov.all (fun q => ai_isI q.2 && ai_sw d.2.1 G (ai_lI q.1) q.2) = true) : ai_sp d.2.1 k y.toInt := by
  rcases ai_look_or (d := d) ov k with e | ⟨p, h1, h2, h3⟩
  · rw [e] at hel
    unfold ai_el at hel
    rw [if_pos e10] at hel
    obtain ⟨x, ex, hx⟩ := hel
    cases ex
    exact hx
  · have hp := List.all_eq_true.mp hall p h1
    rw [Bool.and_eq_true] at hp
    rw [h3] at hel
    have hn10 : ¬ p.2.1 = 10 := by
      intro e
      have := hp.1
      unfold ai_isI at this
      rw [e] at this
      cases this
    obtain ⟨y', e1, e2, e3⟩ := ai_int' hG (hel.to hn10) hp.1
    cases e1
    rw [h2] at hp
    exact ai_sw_ok (i := ai_lI k) hG ⟨Int.le_refl _, Int.le_refl _⟩ ai_nmL e2 e3 hp.2
/-- putting at a place of an array -/
theorem ai_wr_ok {ty n j : Nat} {d i v : ai_V} {ov : List (Nat × ai_V)} {g g' : Nat → Value} {q : ai_V × List (Nat × ai_V)} (hG : ai_gok ρ G) (hel : ∀ j, j < n → ai_el ρ sb ad j (ai_look d ov j) (g j)) (hj : j < n) (hij : (ai_b G i).1 ≤ (j : Int) ∧ (j : Int) ≤ (ai_b G i).2) (hnm : ai_nm ρ i (j : Int)) (hv : ai_mt ρ sb ad v (g' j)) (hg : ∀ k, ¬ k = j → g' k = g k) (hty : ((∀ k, ∃ y : Int32, g' k = .int y) ∧ ¬ ty = 1) ∨ ((∀ k, ∃ y : Int64, g' k = .long y) ∧ ty = 1) ∨ ty = 3) (h : ai_wr G ty d ov i v = some q) : ∀ k, k < n → ai_el ρ sb ad k (ai_look q.1 q.2 k) (g' k) := by
  intro k hk
  unfold ai_wr at h
  cases h1 : ai_one G i with
  | true =>
    rw [h1] at h
    simp only [cond_true] at h
    unfold ai_one at h1
    simp only [decide_eq_true_eq] at h1
    have ej : (ai_b G i).1.toNat = j := by omega
    rw [ej] at h
    cases h2 : (ai_look d ov j == v) with
    | true =>
      rw [h2] at h
      cases h
      have e2 : ai_look d ov j = v := by simpa using h2
      by_cases ek : k = j
      · subst ek; rw [e2]; exact ai_el.of hv
      · rw [hg k ek]; exact hel k hk
    | false =>
      rw [h2] at h
      cases h
      have el : ∀ k, ai_look d ((j, v) :: ov.filter (fun q => !(q.1 == j))) k = (bif j == k then v else ai_look d (ov.filter (fun q => !(q.1 == j))) k) := fun _ => rfl
      by_cases ek : k = j
      · subst ek
        rw [el, beq_self_eq_true]
        exact ai_el.of hv
      · have e : (j == k) = false := by simpa using fun e => ek e.symm
        rw [el, e, hg k ek]
        simp only [cond_false]
        rw [ai_look_filter ek]
        exact hel k hk
  | false =>
    rw [h1] at h
    simp only [cond_false] at h
    cases h3 : (ty == 3) with
    | true => rw [h3] at h; cases h
    | false =>
      rw [h3] at h
      simp only [cond_false] at h
      have e3 : ¬ ty = 3 := by simpa using h3
      cases h10 : (d.1 == 10) with
      | true =>
        rw [h10] at h
        obtain ⟨h4, h5⟩ := ai_gd_ok h
        cases h5
        simp only [Bool.and_eq_true] at h4
        obtain ⟨h6, h7, h8⟩ := h4
        have e1 : ¬ ty = 1 := by simpa using h6
        have e10 : d.1 = 10 := by simpa using h10
        rcases hty with ⟨f, -⟩ | ⟨-, e⟩ | e
        · obtain ⟨y, hy⟩ := f k
          show ai_el ρ sb ad k (ai_look d (ai_nout (ai_b G i) ov) k) (g' k)
          by_cases hin : (ai_b G i).1 ≤ (k : Int) ∧ (k : Int) ≤ (ai_b G i).2
          case neg =>
            rw [ai_look_out hin, hg k (fun e => hin (e ▸ hij))]
            exact hel k hk
          rw [ai_look_in hin.1 hin.2]
          unfold ai_el
          rw [if_pos e10]
          refine ⟨y, hy, ?_⟩
          by_cases ek : k = j
          · subst ek
            rw [hy] at hv
            have hi : ai_isI v = true := by
              obtain ⟨nv, tv, lv, uv⟩ := v
              match nv, hv with
              | 0, _ => rfl
              | 1, h => obtain ⟨z, h, -⟩ := h; cases h
              | 2, _ => rfl
              | 3, h => obtain ⟨z, w, h, -⟩ := h; cases h
              | 4, h => obtain ⟨z, -, h⟩ := h; cases h
              | 5, h => cases h
              | 6, _ => rfl
              | 7, h => cases h
              | 8, _ => rfl
              | 9, _ => rfl
              | n + 10, h => exact h.elim
            obtain ⟨y', e1', e2', e3'⟩ := ai_int' hG hv hi
            cases e1'
            exact ai_sw_ok hG hij hnm e2' e3' h7
          · have g1 := hel k hk
            rw [← hg k ek, hy] at g1
            exact ai_sp_of hG e10 g1 h8
        · exact absurd e e1
        · exact absurd e e3
      | false =>
        rw [h10] at h
        obtain ⟨h4, h5⟩ := ai_gd_ok h
        cases h5
        have e10 : ¬ d.1 = 10 := by simpa using h10
        have h0 : (ai_hull G (ai_b G d) ((0, v) :: ov)).1 ≤ (ai_b G v).1 ∧ (ai_b G v).2 ≤ (ai_hull G (ai_b G d) ((0, v) :: ov)).2 := ⟨(ai_mn_le _ _).1, (ai_mx_le _ _).1⟩
        have h9 : (ai_hull G (ai_b G d) ((0, v) :: ov)).1 ≤ (ai_hull G (ai_b G d) ov).1 ∧ (ai_hull G (ai_b G d) ov).2 ≤ (ai_hull G (ai_b G d) ((0, v) :: ov)).2 := ⟨(ai_mn_le _ _).2, (ai_mx_le _ _).2⟩
        show ai_el ρ sb ad k (ai_itv ty (ai_hull G (ai_b G d) ((0, v) :: ov))) (g' k)
        apply ai_el.of
        rcases hty with ⟨f, e1⟩ | ⟨f, e⟩ | e
        · obtain ⟨y, hy⟩ := f k
          rw [hy]
          by_cases ek : k = j
          · subst ek
            have := ai_bI hG (hy ▸ hv)
            exact ai_itvI e1 (by omega) (by omega)
          · have g1 := hel k hk
            rw [← hg k ek, hy] at g1
            have := ai_hullI (n := n) hG g1 (fun _ => rfl) (fun hn => absurd hn e10) (ai_n10_ok h4)
            exact ai_itvI e1 (by omega) (by omega)
        · obtain ⟨y, hy⟩ := f k
          rw [hy]
          by_cases ek : k = j
          · subst ek
            have := ai_bLg hG (hy ▸ hv)
            exact ai_itvL e (by omega) (by omega)
          · have g1 := hel k hk
            rw [← hg k ek, hy] at g1
            have := ai_hullL (n := n) hG g1 (ai_n10_ok h4) e10
            exact ai_itvL e (by omega) (by omega)
        · exact absurd e e3
theorem ai_wr_d {ty : Nat} {d i v : ai_V} {ov : List (Nat × ai_V)} {q : ai_V × List (Nat × ai_V)} (h : ai_wr G ty d ov i v = some q) (h10 : q.1.1 = 10) : q.1 = d := by
  unfold ai_wr at h
  cases h1 : ai_one G i with
  | true =>
    rw [h1, cond_true] at h
    cases h2 : (ai_look d ov (ai_b G i).1.toNat == v) with
    | true => rw [h2, cond_true] at h; cases h; rfl
    | false => rw [h2, cond_false] at h; cases h; rfl
  | false =>
    rw [h1, cond_false] at h
    cases h3 : (ty == 3) with
    | true => rw [h3] at h; cases h
    | false =>
      rw [h3, cond_false] at h
      cases h4 : (d.1 == 10) with
      | true =>
        rw [h4, cond_true] at h
        obtain ⟨-, h5⟩ := ai_gd_ok h
        cases h5
        rfl
      | false =>
        rw [h4, cond_false] at h
        obtain ⟨-, h5⟩ := ai_gd_ok h
        cases h5
        dsimp only [ai_itv] at h10
        cases h6 : (ty == 1) with
        | true => rw [h6] at h10; cases h10
        | false => rw [h6] at h10; cases h10
theorem ai_bool {y : Int32} (h : 0 ≤ y.toInt ∧ y.toInt ≤ 1) : y = 0 ∨ y = 1 := by
  rcases (show y.toInt = 0 ∨ y.toInt = 1 by omega) with h | h
  · exact Or.inl (Int32.toInt_inj.mp (h.trans (show (0 : Int) = (0 : Int32).toInt from rfl)))
  · exact Or.inr (Int32.toInt_inj.mp (h.trans (show (1 : Int) = (1 : Int32).toInt from rfl)))
theorem ai_fit_ok {ty : FieldType} {v : ai_V} {u : Value} (hG : ai_gok ρ G) (hm : ai_mt ρ sb ad v u) (h : ai_fit G ty v = true) : narrow ty u = u ∧ fits ty u = true := by
  have rf : (ai_isR v || v.1 == 5) = true → u = .null ∨ ∃ q, u = .ref q := by
    intro h
    rw [Bool.or_eq_true] at h
    rcases h with h | h
    · obtain ⟨q, -, rfl⟩ := ai_ref hm h
      exact Or.inr ⟨q, rfl⟩
    · obtain ⟨n, t, lo, hi⟩ := v
      have e : n = 5 := by simpa using h
      subst e
      exact Or.inl hm
  unfold ai_fit at h
  split at h
  · obtain ⟨y, rfl, -⟩ := ai_int hG hm h
    exact ⟨rfl, rfl⟩
  · simp only [Bool.and_eq_true, decide_eq_true_eq] at h
    obtain ⟨y, rfl, hb⟩ := ai_int hG hm h.1
    rcases ai_bool (y := y) (by omega) with rfl | rfl
    · exact ⟨by decide +kernel, by decide +kernel⟩
    · exact ⟨by decide +kernel, by decide +kernel⟩
  · obtain ⟨y, rfl, -⟩ := ai_lng hG hm h
    exact ⟨rfl, rfl⟩
  · rcases rf h with rfl | ⟨q, rfl⟩
    · exact ⟨rfl, rfl⟩
    · exact ⟨rfl, rfl⟩
  · rcases rf h with rfl | ⟨q, rfl⟩
    · exact ⟨rfl, rfl⟩
    · exact ⟨rfl, rfl⟩
  · cases h
theorem ai_ast_ok {ins : Instr} {ty : Nat} {ok : ai_V → Bool} (hx : p.tables.exec = Jvm.exec) (hb : c.code = cc) (hG : ai_gok ρ G) (hls : ai_lv ρ sb (ws.map Prod.fst) als md.2.2.2.1 ls) (hst : ai_F2 (ai_mt ρ sb (ws.map Prod.fst)) st stk) (hm : ai_mem ρ sb D A s H locs aw ws tys) (h : ai_ast G als st aw cs ss ty ok = some x) (hd : decode cc pc = .ok (ins, 1)) (hins : (ty = 0 ∧ ins = .iastore ∧ ok = ai_isI) ∨ (ty = 1 ∧ ins = .lastore ∧ ok = ai_isL) ∨ (ty = 2 ∧ ins = .bastore ∧ ok = ai_fit G .boolean) ∨ (ty = 3 ∧ ins = .aastore ∧ ok = fun v => ai_isR v && (match aw[v.2.1]? with
    | some (.inl (ci, _)) => ci == 2
    | _ => false))) (K : ai_K p l e R s m args below meth c Q ρ sb D A md.2.2.2.1 (ws.map Prod.fst) (pc + 1) x) : W p l e R s m args below meth c H locs cs ss Q (F0 m pc ls stk) := by
  unfold ai_ast at h
  obtain ⟨v, i, a, r, rfl, h⟩ := ai_p3_ok h
  obtain ⟨hr, h⟩ := ai_gd_ok h
  rw [Bool.and_eq_true] at hr
  obtain ⟨hr, hok⟩ := hr
  obtain ⟨cell, hc, h⟩ := ai_bd_ok h
  rcases cell with q | ⟨t, n, d, ov⟩
  · cases h
  dsimp only at h
  obtain ⟨hi, h⟩ := ai_gd_ok h
  obtain ⟨qw, hv, h⟩ := ai_bd_ok h
  cases h
  simp only [Bool.and_eq_true, beq_iff_eq] at hi
  obtain ⟨et, hin, h56⟩ := hi
  subst et
  obtain ⟨uv, stk0, rfl, mv, hst0⟩ := hst.cons
  obtain ⟨ui, stk1, rfl, mi, hst1⟩ := hst0.cons
  obtain ⟨ua, stk2, rfl, ma, hst2⟩ := hst1.cons
  obtain ⟨q, hq, rfl⟩ := ai_ref ma hr
  obtain ⟨iv, rfl, hb1, hb0, hvp, hlt, hcl, hnm⟩ := ai_inb_ok hG mi hin
  have hnm' : ai_nm ρ i ((iv.toNatClampNeg : Nat) : Int) := by
    have e : ((iv.toNatClampNeg : Nat) : Int) = iv.toInt := by rw [hcl]; omega
    rw [e]; exact hnm
  have hij : (ai_b G i).1 ≤ ((iv.toNatClampNeg : Nat) : Int) ∧ ((iv.toNatClampNeg : Nat) : Int) ≤ (ai_b G i).2 := by rw [hcl]; omega
  obtain ⟨hP, hD, hKk, hS, hW⟩ := id hm
  obtain ⟨e0, he, hmc⟩ := ai_cell hW hc hq
  have go : ∀ (e1 : va_E) (H1 : Heap) (locs1 : List Loc), va_P D vwCl (ws.set a.2.1 (q, e1)) H1 → va_D A (ws.set a.2.1 (q, e1)) → va_S A s.heap H1 locs1 → ai_mc ρ sb (ws.map Prod.fst) tys (.inr (t, n, qw.1, qw.2)) e1 → W p l e R s m args below meth c H1 locs1 cs ss Q (F0 m (pc + 1) ls stk2) := by
    intro e1 H1 locs1 g1 g2 g3 g4
    have ef := ai_fst_set (e1 := e1) he
    refine K ls _ H1 locs1 (ws.set a.2.1 (q, e1)) tys [] (by rw [ef, List.append_nil]) (by rw [ef]; exact hls) (by rw [ef]; exact hst2) ⟨g1, g2, hKk, g3, hW.set he g4⟩
  rcases hins with ⟨rfl, rfl, rfl⟩ | ⟨rfl, rfl, rfl⟩ | ⟨rfl, rfl, rfl⟩ | ⟨rfl, rfl, rfl⟩
  · obtain ⟨cA, f, t0, rfl, ht, hel, hRL⟩ := hmc
    obtain ⟨y, rfl, -⟩ := ai_int hG mv hok
    refine va_iast hx hb hKk hP hD hS a.2.1 t0 he ht hvp hd (fun H1 locs1 g1 g2 g3 => go _ H1 locs1 g1 g2 g3 ⟨cA, _, t0, rfl, ht, ?_, fun h10 => ?_⟩)
    rotate_left
    · have e := ai_wr_d hv h10
      rw [e] at h10 ⊢
      rw [Bool.or_eq_true, Bool.not_eq_true', beq_eq_false_iff_ne, decide_eq_true_eq] at h56
      exact ai_RL_upd (by rcases h56 with h56 | h56; exact absurd h10 h56; omega) (hRL h10)
    exact ai_wr_ok (g := fun j => .int (f j)) (g' := fun j => .int (upd f iv.toNatClampNeg y j)) hG hel hlt hij hnm' (by simp only [pk_us]; exact mv) (fun k hk => by simp only [pk_un hk]) (Or.inl ⟨fun k => ⟨_, rfl⟩, by decide⟩) hv
  · obtain ⟨cA, f, t0, rfl, ht, hel⟩ := hmc
    obtain ⟨y, rfl, -⟩ := ai_lng hG mv hok
    refine va_last hx hb hKk hP hD hS a.2.1 t0 he ht hvp hd (fun H1 locs1 g1 g2 g3 => go _ H1 locs1 g1 g2 g3 ⟨cA, _, t0, rfl, ht, ?_⟩)
    exact ai_wr_ok (g := fun j => .long (f j)) (g' := fun j => .long (vp_updL f iv.toNatClampNeg y j)) hG hel hlt hij hnm' (by simp only [pk_uLs]; exact mv) (fun k hk => by simp only [pk_uLn hk]) (Or.inr (Or.inl ⟨fun k => ⟨_, rfl⟩, rfl⟩)) hv
  · obtain ⟨cA, f, t0, rfl, ht, hel⟩ := hmc
    have hok2 := hok
    unfold ai_fit at hok2
    simp only [Bool.and_eq_true, decide_eq_true_eq] at hok2
    obtain ⟨y, rfl, hby⟩ := ai_int hG mv hok2.1
    have hn : vp_nar .boolean y = y := by
      rcases ai_bool (y := y) (by omega) with rfl | rfl <;> decide +kernel
    refine va_zast hx hb hKk hP hD hS a.2.1 t0 he ht hvp hd (fun H1 locs1 g1 g2 g3 => go _ H1 locs1 g1 g2 g3 ⟨cA, _, t0, rfl, ht, ?_⟩)
    exact ai_wr_ok (g := fun j => .int (f j)) (g' := fun j => .int (upd f iv.toNatClampNeg (vp_nar .boolean y) j)) hG hel hlt hij hnm' (by simp only [pk_us, hn]; exact mv) (fun k hk => by simp only [pk_un hk]) (Or.inl ⟨fun k => ⟨_, rfl⟩, by decide⟩) hv
  · obtain ⟨cA, f, t0, rfl, ht, hel⟩ := hmc
    rw [Bool.and_eq_true] at hok
    obtain ⟨qv, hqv, rfl⟩ := ai_ref mv hok.1
    have hok2 := hok.2
    split at hok2
    · rename_i ci fs hcv
      have eci : ci = 2 := by simpa using hok2
      subst eci
      obtain ⟨ev, hev, vs, rfl, -⟩ := ai_cell hW hcv hqv
      refine va_astq hx hb hKk hP hD hS a.2.1 t0 v.2.1 2 (r := (RX2, TX2, 14)) he ht hev rfl hvp hd (fun H1 locs1 g1 g2 g3 => go _ H1 locs1 g1 g2 g3 ⟨cA, _, t0, rfl, ht, ?_⟩)
      exact ai_wr_ok (g := fun j => va_rf (f j)) (g' := fun j => va_rf (va_up f iv.toNatClampNeg (some qv) j)) hG hel hlt hij hnm' (by simp only [va_up, if_true]; exact mv) (fun k hk => by simp only [va_up, if_neg hk]) (Or.inr (Or.inr rfl)) hv
    · cases hok2
theorem ai_cats {r : List ai_V} {q : List Value} (h : ai_F2 (ai_mt ρ sb ad) r q) : (q.map fun v => v.category) = r.map ai_cat := by
  induction r generalizing q with
  | nil => rw [h.nil]; rfl
  | cons a r ih =>
    obtain ⟨b, bs, rfl, h1, h2⟩ := h.cons
    rw [List.map_cons, List.map_cons, h1.cat, ih h2]
end ASJ
