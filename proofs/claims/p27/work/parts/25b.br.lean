/-! ===== the bridge: a held world of the reference gives a state in whole numbers ===== -/
def bg_a2 {α β : Type} (f : α → β → Bool) : List α → List β → Bool
  | [], [] => true
  | a :: as, b :: bs => f a b && bg_a2 f as bs
  | _, _ => false
theorem bg_a2_get {α β : Type} {f : α → β → Bool} : ∀ {as : List α} {bs : List β} {k : Nat} {a : α}, bg_a2 f as bs = true → as[k]? = some a → ∃ b, bs[k]? = some b ∧ f a b = true
  | [], [], _, _, _, hk => by simp at hk
  | a :: as, b :: bs, 0, a', h, hk => by
    have h' : (f a b && bg_a2 f as bs) = true := h
    rw [Bool.and_eq_true] at h'
    have e : a = a' := by simpa using hk
    subst e
    exact ⟨b, rfl, h'.1⟩
  | a :: as, b :: bs, k + 1, a', h, hk => by
    have h' : (f a b && bg_a2 f as bs) = true := h
    rw [Bool.and_eq_true] at h'
    have hk' : as[k]? = some a' := by simpa using hk
    obtain ⟨b', e1, e2⟩ := bg_a2_get h'.2 hk'
    exact ⟨b', by simpa using e1, e2⟩
  | [], _ :: _, _, _, h, _ => by cases h
  | _ :: _, [], _, _, h, _ => by cases h
theorem bg_a2_len {α β : Type} {f : α → β → Bool} : ∀ {as : List α} {bs : List β}, bg_a2 f as bs = true → as.length = bs.length
  | [], [], _ => rfl
  | a :: as, b :: bs, h => by
    have h' : (f a b && bg_a2 f as bs) = true := h
    rw [Bool.and_eq_true] at h'
    rw [List.length_cons, List.length_cons, bg_a2_len h'.2]
  | [], _ :: _, h => by cases h
  | _ :: _, [], h => by cases h
/-- a held field fits its kind -/
def bg_f (G : ai_G) (fk : Nat × Int) (w : ai_V) : Bool := match fk with
  | (0, _) => ai_isI w
  | (1, _) => ai_isL w
  | (2, _) => ai_isI w && (decide (0 ≤ (ai_b G w).1) && decide ((ai_b G w).2 ≤ 1))
  | (4, c) => w.1 == 4 && w.2.1 == c.toNat
  | _ => false
def bg_c (c : Nat × Nat) (x : ai_C) : Bool := match c, x with
  | (0, n), .inr (0, m, _, _) => m == n
  | (1, n), .inr (1, m, _, _) => m == n
  | (2, n), .inr (2, m, _, _) => m == n
  | (9, n), .inr (5, m, _, _) => m == n
  | _, _ => false
def bg_w (G : ai_G) (aw : ai_W) : Bool := match aw with
  | .inl (ci, fs) :: r => ci == 10 && (bg_a2 (bg_f G) hs_fk fs && bg_a2 bg_c hs_sh.tail r)
  | _ => false
def bg_n (u : Value) : Int := match u with
  | .int x => x.toInt
  | .long x => x.toInt
  | _ => 0
def bg_A (e : va_E) (j : Nat) : Int := match e with
  | .inl (_, _, .inl f) => (f j).toInt
  | .inl (_, _, .inr (.inl f)) => (f j).toInt
  | _ => 0
/-- the state in whole numbers -/
def bg_S (ws : va_W) : hs_S := (fun j => match ws[0]? with
  | some q => (match vsOf q.2 j with
    | some u => bg_n u
    | none => 0)
  | none => 0, fun k j => match ws[k]? with
  | some q => bg_A q.2 j
  | none => 0)
where vsOf (e : va_E) (j : Nat) : Option Value := match e with
  | .inr (_, vs) => vs[j]?
  | _ => none
theorem bg_S2 {ws : va_W} {k : Nat} {q : Nat × va_E} (h : ws[k]? = some q) (j : Nat) : (bg_S ws).2 k j = bg_A q.2 j := by
  show (match ws[k]? with
  | some q => bg_A q.2 j
  | none => 0) = _
  rw [h]
theorem bg_S1 {ws : va_W} {a ci : Nat} {vs : List Value} {j : Nat} {u : Value} (h : ws[0]? = some (a, .inr (ci, vs))) (hu : vs[j]? = some u) : (bg_S ws).1 j = bg_n u := by
  show (match ws[0]? with
  | some q => (match bg_S.vsOf q.2 j with
    | some u => bg_n u
    | none => 0)
  | none => 0) = _
  rw [h]
  show (match vs[j]? with
    | some u => bg_n u
    | none => 0) = _
  rw [hu]
theorem bg_c_ok {ρ : ai_Rh} {sb : ai_SB} {ad : List Nat} {tys : List (ClassId × FieldType)} {c : Nat × Nat} {x : ai_C} {S : hs_S} {k : Nat} {e : va_E} (h : bg_c c x = true) (hm : ai_mc ρ sb ad tys x e) (hS : ∀ j, S.2 k j = bg_A e j) : hs_ar sb.2 tys S k c e := by
  unfold bg_c at h
  split at h
  · rw [beq_iff_eq] at h
    subst h
    obtain ⟨cA, f, t0, rfl, h1, h2, -⟩ := hm
    exact ⟨cA, f, t0, rfl, h1, fun j _ => (hS j).symm⟩
  · rw [beq_iff_eq] at h
    subst h
    obtain ⟨cA, f, t0, rfl, h1, h2⟩ := hm
    exact ⟨cA, f, t0, rfl, h1, fun j _ => (hS j).symm⟩
  · rw [beq_iff_eq] at h
    subst h
    obtain ⟨cA, f, t0, rfl, h1, h2⟩ := hm
    exact ⟨cA, f, t0, rfl, h1, fun j _ => (hS j).symm⟩
  · rw [beq_iff_eq] at h
    subst h
    exact hm
  · cases h
theorem bg_f_ok {ρ : ai_Rh} {sb : ai_SB} {ad : List Nat} {G : ai_G} {fk : Nat × Int} {w : ai_V} {u : Value} (hG : ai_gok ρ G) (h : bg_f G fk w = true) (hm : ai_mt ρ sb ad w u) : hs_vm ad (hs_fv fk (bg_n u)) u ∧ (fk.1 = 2 → bg_n u = 0 ∨ bg_n u = 1) := by
  unfold bg_f at h
  split at h
  · obtain ⟨x, rfl, -⟩ := ai_int hG hm h
    exact ⟨⟨x, rfl, rfl⟩, fun e => by cases e⟩
  · obtain ⟨x, rfl, -⟩ := ai_lng hG hm h
    exact ⟨⟨x, rfl, rfl⟩, fun e => by cases e⟩
  · simp only [Bool.and_eq_true, decide_eq_true_eq] at h
    obtain ⟨x, rfl, h1, h2⟩ := ai_int hG hm h.1
    refine ⟨⟨x, rfl, rfl⟩, fun _ => ?_⟩
    show x.toInt = 0 ∨ x.toInt = 1
    omega
  · rename_i c
    simp only [Bool.and_eq_true, beq_iff_eq] at h
    obtain ⟨n, t, l, r⟩ := w
    obtain ⟨h1, h2⟩ := h
    dsimp only at h1 h2
    subst h1 h2
    obtain ⟨q, e1, rfl⟩ := hm
    exact ⟨⟨q, e1, rfl⟩, fun e => by cases e⟩
  · cases h
theorem bg_ok {ρ : ai_Rh} {sb : ai_SB} {G : ai_G} {aw : ai_W} {tys : List (ClassId × FieldType)} {ws : va_W} (h : bg_w G aw = true) (hG : ai_gok ρ G) (hW : ai_ws ρ sb tys aw ws) : hs_ok sb.2 hs_sh tys (bg_S ws) ws := by
  unfold bg_w at h
  split at h
  · rename_i ci fs r
    simp only [Bool.and_eq_true, beq_iff_eq] at h
    obtain ⟨rfl, hf, hr⟩ := h
    obtain ⟨q, hq, vs, hvs, hF⟩ := hW.2 0 (.inl (10, fs)) rfl
    have hq' : ws[0]? = some (q.1, .inr (10, vs)) := by rw [hq, ← hvs]
    have hlen : hs_fk.length = fs.length := bg_a2_len hf
    refine ⟨?_, ⟨q.1, _, hq', vs, rfl, ?_, fun j fk hj => ?_⟩, fun k c hk hc => ?_⟩
    · rw [← hW.1, List.length_cons, ← bg_a2_len hr]
      rfl
    · rw [← hF.len, ← hlen]
      rfl
    · obtain ⟨w, hw, hb⟩ := bg_a2_get hf hj
      obtain ⟨u, hu, hm⟩ := hF.get hw
      have e := bg_S1 hq' hu
      obtain ⟨g1, g2⟩ := bg_f_ok hG hb hm
      exact ⟨u, hu, by rw [e]; exact g1, by rw [e]; exact g2⟩
    · obtain ⟨k', rfl⟩ : ∃ k', k = k' + 1 := ⟨k - 1, by omega⟩
      have hc' : hs_sh.tail[k']? = some c := by rw [List.getElem?_tail]; exact hc
      obtain ⟨x, hx, hb⟩ := bg_a2_get hr hc'
      obtain ⟨q2, hq2, hm⟩ := hW.2 (k' + 1) x (by simpa using hx)
      exact ⟨q2.1, q2.2, hq2, bg_c_ok hb hm (fun j => bg_S2 hq2 j)⟩
  · cases h
