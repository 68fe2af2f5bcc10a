/-! ===== the straight instructions are as the machine does them ===== -/
/-- a place of an array holds what is held of it -/
def ai_el (ρ : ai_Rh) (sb : ai_SB) (ad : List Nat) (j : Nat) (a : ai_V) (v : Value) : Prop := if a.1 = 10 then ∃ x : Int32, v = .int x ∧ ai_sp a.2.1 j x.toInt else ai_mt ρ sb ad a v
theorem ai_el.of {ρ : ai_Rh} {sb : ai_SB} {ad : List Nat} {j : Nat} {a : ai_V} {v : Value} (h : ai_mt ρ sb ad a v) : ai_el ρ sb ad j a v := by
  unfold ai_el
  by_cases e : a.1 = 10
  · obtain ⟨n, t, l, u⟩ := a
    dsimp only at e
    subst e
    exact h.elim
  · rw [if_neg e]; exact h
theorem ai_el.to {ρ : ai_Rh} {sb : ai_SB} {ad : List Nat} {j : Nat} {a : ai_V} {v : Value} (h : ai_el ρ sb ad j a v) (e : ¬ a.1 = 10) : ai_mt ρ sb ad a v := by
  unfold ai_el at h
  rw [if_neg e] at h
  exact h
theorem ai_el.more {ρ σ : ai_Rh} {sb : ai_SB} {ad : List Nat} {j : Nat} {a : ai_V} {v : Value} (hr : ai_le ρ σ) (x : List Nat) (h : ai_el ρ sb ad j a v) : ai_el σ sb (ad ++ x) j a v := by
  unfold ai_el at h ⊢
  by_cases e : a.1 = 10
  · rw [if_pos e] at h ⊢; exact h
  · rw [if_neg e] at h ⊢; exact h.more hr x
theorem ai_el.down {ρ σ : ai_Rh} {sb : ai_SB} {ad : List Nat} {j : Nat} {a : ai_V} {v w : Value} (hr : ai_le ρ σ) (h0 : ai_el ρ sb ad j a w) (h : ai_el σ sb ad j a v) : ai_el ρ sb ad j a v := by
  unfold ai_el at h h0 ⊢
  by_cases e : a.1 = 10
  · rw [if_pos e] at h ⊢; exact h
  · rw [if_neg e] at h h0 ⊢; exact ai_mt.down hr h0 h
def ai_mc (ρ : ai_Rh) (sb : ai_SB) (ad : List Nat) (tys : List (ClassId × FieldType)) (c : ai_C) (e : va_E) : Prop := match c with
  | .inl (ci, fs) => ∃ vs : List Value, e = .inr (ci, vs) ∧ ai_F2 (ai_mt ρ sb ad) fs vs
  | .inr (0, n, d, ov) => ∃ (cA : ClassId) (f : Nat → Int32) (t0 : Nat), e = .inl (cA, n, .inl f) ∧ tys[t0]? = some (cA, .int) ∧ (∀ j, j < n → ai_el ρ sb ad j (ai_look d ov j) (.int (f j))) ∧ (d.1 = 10 → ai_RL d.2.1 f)
  | .inr (1, n, d, ov) => ∃ (cA : ClassId) (f : Nat → Int64) (t0 : Nat), e = .inl (cA, n, .inr (.inl f)) ∧ tys[t0]? = some (cA, .long) ∧ ∀ j, j < n → ai_el ρ sb ad j (ai_look d ov j) (.long (f j))
  | .inr (2, n, d, ov) => ∃ (cA : ClassId) (f : Nat → Int32) (t0 : Nat), e = .inl (cA, n, .inl f) ∧ tys[t0]? = some (cA, .boolean) ∧ ∀ j, j < n → ai_el ρ sb ad j (ai_look d ov j) (.int (f j))
  | .inr (3, n, d, ov) => ∃ (cA : ClassId) (f : Nat → Option Nat) (t0 : Nat), e = .inl (cA, n, .inr (.inr (.inr (.inr f)))) ∧ tys[t0]? = some (cA, .object "FirstPolls$Land") ∧ ∀ j, j < n → ai_el ρ sb ad j (ai_look d ov j) (va_rf (f j))
  | .inr (4, n, _, _) => ∃ (cA : ClassId) (f : Nat → Option Nat) (t0 : Nat), e = .inl (cA, n, .inr (.inr (.inr (.inr f)))) ∧ tys[t0]? = some (cA, .object "FirstPolls$Land")
  | .inr (5, n, _, _) => e = sb.2 n
  | _ => False
def ai_ws (ρ : ai_Rh) (sb : ai_SB) (tys : List (ClassId × FieldType)) (aw : ai_W) (ws : va_W) : Prop := aw.length = ws.length ∧ ∀ (k : Nat) (c : ai_C), aw[k]? = some c → ∃ q : Nat × va_E, ws[k]? = some q ∧ ai_mc ρ sb (ws.map Prod.fst) tys c q.2
def ai_mem (ρ : ai_Rh) (sb : ai_SB) (D : va_G) (A : Nat → Prop) (s : State) (H : Heap) (locs : List Loc) (aw : ai_W) (ws : va_W) (tys : List (ClassId × FieldType)) : Prop := va_P D vwCl ws H ∧ va_D A ws ∧ va_K D vwCl tys s ∧ va_S A s.heap H locs ∧ ai_ws ρ sb tys aw ws
def ai_lv (ρ : ai_Rh) (sb : ai_SB) (ad : List Nat) (als : ai_L) (nL : Nat) (ls : Array Slot) : Prop := ∃ lv, lv_has ls nL lv ∧ ai_F2 (fun (a : Nat × ai_V) (q : Nat × Value) => a.1 = q.1 ∧ ai_mt ρ sb ad a.2 q.2) als lv
def ai_cx (p : Program) (s : State) (m : MethodId) (args : Array Value) (meth : Method) (c : Code) (R : Room) (md : ai_MD) (A : Nat → Prop) (sb : ai_SB) (L : Nat) (xs : Nat → Int32) : Prop :=
  p.tables.exec = Jvm.exec ∧ c.code = md.2.2.1 ∧ c.maxLocals = md.2.2.2.1 ∧ s.vm.findClass md.1 = some m.cls ∧ (∀ w ∈ ai_tb, w.before args s = true) ∧ (∀ q, s.heap.size ≤ q → A q) ∧ (md.2.1.name = "<init>" → meth.name = "<init>") ∧ R = md.2.2.2.2.2.2.1 ∧ va_AO "FirstPolls$Land" s ∧ (md.2.2.2.2.2.2.2 = 3 → va_X sb.1 L xs s s.heap ∧ sb.1 < s.heap.size ∧ ¬ A sb.1)
/-- what the tokens are: the script's numbers and their bytes -/
def ai_rk (md : ai_MD) (L : Nat) (xs : Nat → Int32) (ρ : ai_Rh) : Prop := ai_rb L ρ ∧ (md.2.2.2.2.2.2.2 = 3 → ∀ j, j < L → ρ j = some (xs j).toInt)
theorem ai_lk_ok {ρ : ai_Rh} {sb : ai_SB} {ad : List Nat} : ∀ {als : ai_L} {lv : List (Nat × Value)} {i : Nat} {v : ai_V}, ai_lk als i = some v → ai_F2 (fun (a : Nat × ai_V) (q : Nat × Value) => a.1 = q.1 ∧ ai_mt ρ sb ad a.2 q.2) als lv → ∃ (k : Nat) (u : Value), lv[k]? = some (i, u) ∧ ai_mt ρ sb ad v u
  | [], _, _, _, h, _ => by cases h
  | (k, w) :: r, lv, i, v, h, hF => by
    obtain ⟨q, lv', rfl, h1, h2⟩ := hF.cons
    unfold ai_lk at h
    cases hk : (k == i) with
    | true =>
      rw [hk] at h
      cases h
      have e : k = i := by simpa using hk
      obtain ⟨q1, q2⟩ := q
      have e2 : k = q1 := h1.1
      subst e2
      subst e
      exact ⟨0, q2, rfl, h1.2⟩
    | false =>
      rw [hk] at h
      obtain ⟨k', u, g1, g2⟩ := ai_lk_ok h h2
      exact ⟨k' + 1, u, by simpa using g1, g2⟩
theorem ai_mc.more {ρ σ : ai_Rh} {sb : ai_SB} {ad : List Nat} {tys : List (ClassId × FieldType)} {c : ai_C} {e : va_E} (hr : ai_le ρ σ) (x : List Nat) (y : List (ClassId × FieldType)) (h : ai_mc ρ sb ad tys c e) : ai_mc σ sb (ad ++ x) (tys ++ y) c e := by
  have tt : ∀ {t0 : Nat} {q : ClassId × FieldType}, tys[t0]? = some q → (tys ++ y)[t0]? = some q := fun {t0 q} h => by
    rw [List.getElem?_append_left (List.getElem?_eq_some_iff.mp h).1]; exact h
  rcases c with ⟨ci, fs⟩ | ⟨t, n, d, ov⟩
  · obtain ⟨vs, h1, h2⟩ := h
    exact ⟨vs, h1, h2.mono (fun _ _ h => h.more hr x)⟩
  · match t, h with
    | 0, h => obtain ⟨cA, f, t0, h1, h2, h3, h4⟩ := h; exact ⟨cA, f, t0, h1, tt h2, fun j hj => (h3 j hj).more hr x, h4⟩
    | 1, h => obtain ⟨cA, f, t0, h1, h2, h3⟩ := h; exact ⟨cA, f, t0, h1, tt h2, fun j hj => (h3 j hj).more hr x⟩
    | 2, h => obtain ⟨cA, f, t0, h1, h2, h3⟩ := h; exact ⟨cA, f, t0, h1, tt h2, fun j hj => (h3 j hj).more hr x⟩
    | 3, h => obtain ⟨cA, f, t0, h1, h2, h3⟩ := h; exact ⟨cA, f, t0, h1, tt h2, fun j hj => (h3 j hj).more hr x⟩
    | 4, h => obtain ⟨cA, f, t0, h1, h2⟩ := h; exact ⟨cA, f, t0, h1, tt h2⟩
    | 5, h => exact h
    | n + 6, h => exact h.elim
theorem ai_lv.more {ρ σ : ai_Rh} {sb : ai_SB} {ad : List Nat} {als : ai_L} {nL : Nat} {ls : Array Slot} (hr : ai_le ρ σ) (x : List Nat) (h : ai_lv ρ sb ad als nL ls) : ai_lv σ sb (ad ++ x) als nL ls := by
  obtain ⟨lv, h1, h2⟩ := h
  exact ⟨lv, h1, h2.mono (fun _ _ h => ⟨h.1, h.2.more hr x⟩)⟩
theorem ai_fst_set {ws : va_W} {k q : Nat} {e0 e1 : va_E} (h : ws[k]? = some (q, e0)) : (ws.set k (q, e1)).map Prod.fst = ws.map Prod.fst := by
  apply List.ext_getElem?
  intro i
  rw [List.getElem?_map, List.getElem?_map]
  by_cases hi : k = i
  · subst hi
    rw [List.getElem?_set_self (List.getElem?_eq_some_iff.mp h).1, h]
    rfl
  · rw [List.getElem?_set_ne hi]
theorem ai_ws.set {ρ : ai_Rh} {sb : ai_SB} {tys : List (ClassId × FieldType)} {aw : ai_W} {ws : va_W} {k q : Nat} {e0 e1 : va_E} {c1 : ai_C} (h : ai_ws ρ sb tys aw ws) (hk : ws[k]? = some (q, e0)) (hc : ai_mc ρ sb (ws.map Prod.fst) tys c1 e1) : ai_ws ρ sb tys (aw.set k c1) (ws.set k (q, e1)) := by
  refine ⟨by rw [List.length_set, List.length_set]; exact h.1, fun i c hi => ?_⟩
  rw [ai_fst_set hk]
  have hl : k < ws.length := (List.getElem?_eq_some_iff.mp hk).1
  by_cases e : k = i
  · subst e
    rw [List.getElem?_set_self (by rw [h.1]; exact hl)] at hi
    cases hi
    exact ⟨(q, e1), List.getElem?_set_self hl, hc⟩
  · rw [List.getElem?_set_ne e] at hi
    obtain ⟨r, h1, h2⟩ := h.2 i c hi
    exact ⟨r, by rw [List.getElem?_set_ne e]; exact h1, h2⟩
theorem ai_ws.push {ρ : ai_Rh} {sb : ai_SB} {tys y : List (ClassId × FieldType)} {aw : ai_W} {ws : va_W} {q : Nat} {e1 : va_E} {c1 : ai_C} (h : ai_ws ρ sb tys aw ws) (hc : ai_mc ρ sb (ws.map Prod.fst ++ [q]) (tys ++ y) c1 e1) : ai_ws ρ sb (tys ++ y) (aw ++ [c1]) (ws ++ [(q, e1)]) := by
  refine ⟨by simp [h.1], fun i c hi => ?_⟩
  rw [List.map_append]
  by_cases hl : i < aw.length
  · rw [List.getElem?_append_left hl] at hi
    obtain ⟨r, h1, h2⟩ := h.2 i c hi
    exact ⟨r, by rw [List.getElem?_append_left (by rw [← h.1]; exact hl)]; exact h1, h2.more ai_le.rf _ _⟩
  · rw [List.getElem?_append_right (by omega)] at hi
    have hz : i - aw.length < 1 := (List.getElem?_eq_some_iff.mp hi).1
    have hz2 : i = aw.length := by omega
    subst hz2
    simp at hi
    cases hi
    exact ⟨(q, e1), by rw [h.1]; simp, hc⟩
theorem ai_cell {ρ : ai_Rh} {sb : ai_SB} {tys : List (ClassId × FieldType)} {aw : ai_W} {ws : va_W} {k q : Nat} {c : ai_C} (h : ai_ws ρ sb tys aw ws) (hk : aw[k]? = some c) (ha : (ws.map Prod.fst)[k]? = some q) : ∃ e, ws[k]? = some (q, e) ∧ ai_mc ρ sb (ws.map Prod.fst) tys c e := by
  obtain ⟨r, h1, h2⟩ := h.2 k c hk
  rw [List.getElem?_map, h1] at ha
  cases ha
  exact ⟨r.2, h1, h2⟩
theorem ai_inb_ok {ρ : ai_Rh} {sb : ai_SB} {ad : List Nat} {G : ai_G} {i : ai_V} {v : Value} {n : Nat} (hG : ai_gok ρ G) (hm : ai_mt ρ sb ad i v) (h : ai_inb G i n = true) : ∃ x : Int32, v = .int x ∧ ((ai_b G i).1 ≤ x.toInt ∧ x.toInt ≤ (ai_b G i).2) ∧ 0 ≤ (ai_b G i).1 ∧ vp_in x n ∧ x.toNatClampNeg < n ∧ x.toNatClampNeg = x.toInt.toNat ∧ ai_nm ρ i x.toInt := by
  unfold ai_inb at h
  simp only [Bool.and_eq_true, decide_eq_true_eq] at h
  obtain ⟨h1, h2, h3⟩ := h
  obtain ⟨x, rfl, hb, hnm⟩ := ai_int' hG hm h1
  have hv : vp_in x n := vp_in_iff.mpr ⟨by omega, by omega⟩
  exact ⟨x, rfl, hb, h2, hv, Nat.not_le.mp fun q => hv (Or.inr q), rfl, hnm⟩
theorem ai_hull_q {G : ai_G} {q : Int × Int} : ∀ (ov : List (Nat × ai_V)), (ai_hull G q ov).1 ≤ q.1 ∧ q.2 ≤ (ai_hull G q ov).2
  | [] => ⟨Int.le_refl _, Int.le_refl _⟩
  | (k, v) :: r => by
    have h1 := ai_mn_le (ai_b G v).1 (ai_hull G q r).1
    have h2 := ai_mx_le (ai_b G v).2 (ai_hull G q r).2
    have h3 := ai_hull_q (G := G) (q := q) r
    exact ⟨Int.le_trans h1.2 h3.1, Int.le_trans h3.2 h2.2⟩
theorem ai_hull_o {G : ai_G} {q : Int × Int} : ∀ (ov : List (Nat × ai_V)) (p : Nat × ai_V), p ∈ ov → (ai_hull G q ov).1 ≤ (ai_b G p.2).1 ∧ (ai_b G p.2).2 ≤ (ai_hull G q ov).2
  | [], p, h => by cases h
  | p0 :: r, p, h => by
    have h1 := ai_mn_le (ai_b G p0.2).1 (ai_hull G q r).1
    have h2 := ai_mx_le (ai_b G p0.2).2 (ai_hull G q r).2
    rcases List.mem_cons.mp h with rfl | h
    · exact ⟨h1.1, h2.1⟩
    · have h3 := ai_hull_o (G := G) (q := q) r p h
      exact ⟨Int.le_trans h1.2 h3.1, Int.le_trans h3.2 h2.2⟩
/-- what is looked up is the default, or one of those put -/
theorem ai_look_or {d : ai_V} : ∀ (ov : List (Nat × ai_V)) (j : Nat), ai_look d ov j = d ∨ ∃ p ∈ ov, p.1 = j ∧ ai_look d ov j = p.2
  | [], j => Or.inl rfl
  | (k, v) :: r, j => by
    have e : ai_look d ((k, v) :: r) j = (bif k == j then v else ai_look d r j) := rfl
    cases h : (k == j) with
    | true => exact Or.inr ⟨(k, v), List.mem_cons_self, by simpa using h, by rw [e, h]; rfl⟩
    | false =>
      rcases ai_look_or (d := d) r j with h1 | ⟨p, h1, h2, h3⟩
      · exact Or.inl (by rw [e, h]; exact h1)
      · exact Or.inr ⟨p, List.mem_cons_of_mem _ h1, h2, by rw [e, h]; exact h3⟩
theorem ai_look_filter {d : ai_V} {a j : Nat} (h : ¬ j = a) : ∀ (ov : List (Nat × ai_V)), ai_look d (ov.filter (fun q => !(q.1 == a))) j = ai_look d ov j
  | [] => rfl
  | (k, v) :: r => by
    rw [List.filter_cons]
    by_cases hk : k = a
    · subst hk
      have e : (k == j) = false := by simpa using fun e => h e.symm
      simp only [beq_self_eq_true, Bool.not_true, Bool.false_eq_true, if_false, ai_look, e, cond_false]
      exact ai_look_filter h r
    · have e : (!(k == a)) = true := by simpa using hk
      simp only [e, if_true, ai_look, ai_look_filter h r]
/-- the column of a place that is a number of steps on -/
theorem ai_colm {lo : Int} {b j st al : Nat} (hst : 0 < st) (hb : b ≤ j) (h : lo = (j : Int) ∨ (al % st = 0 ∧ ∃ z : Int, (j : Int) = lo + (al : Int) * z)) : ((lo - (b : Int)) % (st : Int)).toNat = (j - b) % st := by
  have e : ((((j - b) % st : Nat)) : Int) = ((j : Int) - (b : Int)) % (st : Int) := by
    rw [Int.natCast_emod, Int.ofNat_sub hb]
  have key : (lo - (b : Int)) % (st : Int) = ((j : Int) - (b : Int)) % (st : Int) := by
    rcases h with h | ⟨h1, z, h2⟩
    · rw [h]
    · obtain ⟨q, hq⟩ := Nat.dvd_of_mod_eq_zero h1
      rw [h2, hq]
      have : lo + ((st * q : Nat) : Int) * z - (b : Int) = (lo - (b : Int)) + (st : Int) * ((q : Int) * z) := by
        rw [Int.natCast_mul, Int.mul_assoc]; omega
      rw [this, Int.add_mul_emod_self_left]
  rw [key, ← e]
  rfl
theorem ai_al_ok {ρ : ai_Rh} {G : ai_G} {j : Nat} {i : ai_V} (hG : ai_gok ρ G) (hi : (ai_b G i).1 ≤ (j : Int) ∧ (j : Int) ≤ (ai_b G i).2) (hn : ai_nm ρ i (j : Int)) : ∃ z : Int, (j : Int) = (ai_b G i).1 + (ai_al i : Int) * z := by
  unfold ai_al
  cases h : (i.1 == 2 && decide (0 ≤ i.2.2.2)) with
  | false => exact ⟨(j : Int) - (ai_b G i).1, by simp only [cond_false]; omega⟩
  | true =>
    simp only [Bool.and_eq_true, beq_iff_eq, decide_eq_true_eq] at h
    obtain ⟨n, t, c, m⟩ := i
    obtain ⟨h1, h2⟩ := h
    dsimp only at h1 h2
    subst h1
    obtain ⟨z, hz, ez⟩ := hn (Or.inl rfl)
    obtain ⟨q, hq, -⟩ := hG.get hz
    dsimp only at ez hq hz
    have eb : (ai_b G (2, t, c, m)).1 = m * q.1 + c := by
      show (ai_aff G[t]? c m).1 = _
      rw [hq]
      unfold ai_aff
      simp only [decide_eq_true h2, cond_true]
    rw [eb]
    refine ⟨z - q.1, ?_⟩
    simp only [cond_true]
    rw [Int.toNat_of_nonneg h2, ez, Int.mul_sub]
    omega
theorem ai_rg_st : ∀ r ∈ ai_rg, 0 < r.2.2 := by decide
theorem ai_srr_ok {lo hi z : Int} {al j : Nat} (hij : lo ≤ (j : Int) ∧ (j : Int) ≤ hi) (ha : ∃ z : Int, (j : Int) = lo + (al : Int) * z) (hz : -2147483648 ≤ z ∧ z ≤ 2147483647) : ∀ (l : List (Nat × Nat × Nat)) (q : Int × Int), (∀ r ∈ l, 0 < r.2.2) → (∃ r ∈ l, r.1 ≤ j ∧ j < r.2.1) → (∀ r ∈ l, r.1 ≤ j → j < r.2.1 → (ai_gc r.1 ((j - r.1) % r.2.2)).1 ≤ z ∧ z ≤ (ai_gc r.1 ((j - r.1) % r.2.2)).2) → ai_srr lo hi al l = some q → q.1 ≤ z ∧ z ≤ q.2
  | [], _, _, hin, _, _ => by obtain ⟨r, hr, -⟩ := hin; cases hr
  | r :: t, q, hst, hin, hs, h => by
    unfold ai_srr at h
    have tl : (¬ (r.1 ≤ j ∧ j < r.2.1)) → ∃ r ∈ t, r.1 ≤ j ∧ j < r.2.1 := by
      intro hn
      obtain ⟨r', hr', g⟩ := hin
      rcases List.mem_cons.mp hr' with rfl | hr'
      · exact absurd g hn
      · exact ⟨r', hr', g⟩
    have st' := fun r' (h' : r' ∈ t) => hst r' (List.mem_cons_of_mem _ h')
    have s' := fun r' (h' : r' ∈ t) => hs r' (List.mem_cons_of_mem _ h')
    cases h1 : (decide (hi < (r.1 : Int)) || decide ((r.2.1 : Int) ≤ lo)) with
    | true =>
      rw [h1, cond_true] at h
      rw [Bool.or_eq_true, decide_eq_true_eq, decide_eq_true_eq] at h1
      exact ai_srr_ok hij ha hz t q st' (tl (by omega)) s' h
    | false =>
      rw [h1, cond_false] at h
      cases h2 : (decide (lo = hi) || al % r.2.2 == 0) with
      | false =>
        rw [h2, cond_false] at h
        cases h
        exact hz
      | true =>
        rw [h2, cond_true] at h
        have hor : lo = (j : Int) ∨ (al % r.2.2 = 0 ∧ ∃ z : Int, (j : Int) = lo + (al : Int) * z) := by
          rw [Bool.or_eq_true, decide_eq_true_eq, beq_iff_eq] at h2
          rcases h2 with h2 | h2
          · exact Or.inl (by omega)
          · exact Or.inr ⟨h2, ha⟩
        by_cases hm : r.1 ≤ j ∧ j < r.2.1
        · have e := ai_colm (hst r List.mem_cons_self) hm.1 hor
          rw [e] at h
          have g := hs r List.mem_cons_self hm.1 hm.2
          split at h
          · cases h
            exact g
          · rename_i q' hq'
            cases h
            have m1 := ai_mn_le (ai_gc r.1 ((j - r.1) % r.2.2)).1 q'.1
            have m2 := ai_mx_le (ai_gc r.1 ((j - r.1) % r.2.2)).2 q'.2
            exact ⟨Int.le_trans m1.1 g.1, Int.le_trans g.2 m2.1⟩
        · split at h
          · rename_i hq'
            exfalso
            have key : ∀ (l : List (Nat × Nat × Nat)), (∃ r ∈ l, r.1 ≤ j ∧ j < r.2.1) → ¬ ai_srr lo hi al l = none := by
              intro l
              induction l with
              | nil => intro hh; obtain ⟨r, hr, -⟩ := hh; cases hr
              | cons a l ih =>
                intro hh hn
                unfold ai_srr at hn
                obtain ⟨r', hr', g⟩ := hh
                cases c1 : (decide (hi < (a.1 : Int)) || decide ((a.2.1 : Int) ≤ lo)) with
                | true =>
                  rw [c1, cond_true] at hn
                  rw [Bool.or_eq_true, decide_eq_true_eq, decide_eq_true_eq] at c1
                  rcases List.mem_cons.mp hr' with rfl | hr'
                  · omega
                  · exact ih ⟨r', hr', g⟩ hn
                | false =>
                  rw [c1, cond_false] at hn
                  cases c2 : (decide (lo = hi) || al % a.2.2 == 0) with
                  | true => rw [c2, cond_true] at hn; split at hn <;> cases hn
                  | false => rw [c2, cond_false] at hn; cases hn
            exact key t (tl hm) hq'
          · rename_i q' hq'
            cases h
            have g := ai_srr_ok hij ha hz t q' st' (tl hm) s' hq'
            exact ⟨Int.le_trans (ai_mn_le _ _).2 g.1, Int.le_trans g.2 (ai_mx_le _ _).2⟩
theorem ai_rg_in {j : Nat} (h : j < 23016) : ∃ r ∈ ai_rg, r.1 ≤ j ∧ j < r.2.1 := by
  unfold ai_rg
  simp only [List.mem_cons, List.not_mem_nil, or_false, exists_eq_or_imp, exists_eq_left]
  omega
theorem ai_sr_ok {ρ : ai_Rh} {G : ai_G} {id j : Nat} {i : ai_V} {x : Int32} {q : Int × Int} (hG : ai_gok ρ G) (hi : (ai_b G i).1 ≤ (j : Int) ∧ (j : Int) ≤ (ai_b G i).2) (hn : ai_nm ρ i (j : Int)) (hs : ai_sp id j x.toInt) (h : ai_sr id G i = some q) : q.1 ≤ x.toInt ∧ x.toInt ≤ q.2 := by
  have hx := ai_i32 x
  unfold ai_sr at h
  cases hc : (id == 1) with
  | false => rw [hc, cond_false] at h; cases h; exact hx
  | true =>
    rw [hc, cond_true] at h
    have e1 : id = 1 := by simpa using hc
    obtain ⟨h0, h⟩ := ai_gd_ok h
    rw [decide_eq_true_eq] at h0
    exact ai_srr_ok hi (ai_al_ok hG hi hn) hx ai_rg q ai_rg_st (ai_rg_in (by omega)) (hs e1) h
theorem ai_sww_ok {lo hi z : Int} {al j : Nat} {q : Int × Int} (hij : lo ≤ (j : Int) ∧ (j : Int) ≤ hi) (ha : ∃ z : Int, (j : Int) = lo + (al : Int) * z) (hz : q.1 ≤ z ∧ z ≤ q.2) : ∀ (l : List (Nat × Nat × Nat)), (∀ r ∈ l, 0 < r.2.2) → ai_sww lo hi al q l = true → ∀ r ∈ l, r.1 ≤ j → j < r.2.1 → (ai_gc r.1 ((j - r.1) % r.2.2)).1 ≤ z ∧ z ≤ (ai_gc r.1 ((j - r.1) % r.2.2)).2
  | [], _, _, r, hr, _, _ => by cases hr
  | a :: t, hst, h, r, hr, h1, h2 => by
    unfold ai_sww at h
    simp only [Bool.and_eq_true, Bool.or_eq_true, decide_eq_true_eq, beq_iff_eq] at h
    rcases List.mem_cons.mp hr with rfl | hr
    · rcases h.1 with g | g | ⟨g1, g2, g3⟩
      · omega
      · omega
      · have e := ai_colm (lo := lo) (al := al) (hst r List.mem_cons_self) h1 (by
          rcases g1 with g1 | g1
          · exact Or.inl (by omega)
          · exact Or.inr ⟨g1, ha⟩)
        rw [e] at g2 g3
        exact ⟨Int.le_trans g2 hz.1, Int.le_trans hz.2 g3⟩
    · exact ai_sww_ok hij ha hz t (fun r' h' => hst r' (List.mem_cons_of_mem _ h')) h.2 r hr h1 h2
theorem ai_sw_ok {ρ : ai_Rh} {G : ai_G} {id j : Nat} {i v : ai_V} {x : Int32} (hG : ai_gok ρ G) (hi : (ai_b G i).1 ≤ (j : Int) ∧ (j : Int) ≤ (ai_b G i).2) (hn : ai_nm ρ i (j : Int)) (hx : (ai_b G v).1 ≤ x.toInt ∧ x.toInt ≤ (ai_b G v).2) (hv : ai_nm ρ v x.toInt) (h : ai_sw id G i v = true) : ai_sp id j x.toInt := by
  intro e1
  subst e1
  unfold ai_sw at h
  exact ai_sww_ok hi (ai_al_ok hG hi hn) hx ai_rg ai_rg_st h
