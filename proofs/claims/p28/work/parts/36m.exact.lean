/-! ===== worlds whose tables are told exactly ===== -/
/-- the tables' cells: live, then of the images -/
def x_k : List Nat := [17, 19, 23, 24, 88, 90, 94, 95, 112, 114, 118, 119]
def x_f : ai_V := (0, 0, -2147483648, 2147483647)
def x_c (k : Nat) (c : ai_C) : ai_C := bif x_k.contains k then (match c with
  | .inr (0, n, _, []) => .inr (0, n, (10, 100 + k, 0, 0), [])
  | c => c) else c
def x_okc (k : Nat) (c : ai_C) : Bool := !(x_k.contains k) || (match c with
  | .inr (t, _, d, ov) => t == 0 && (d == x_f && ov.isEmpty)
  | _ => false)
def x_up : Nat → ai_W → ai_W
  | _, [] => []
  | k, c :: r => x_c k c :: x_up (k + 1) r
def x_ok : Nat → ai_W → Bool
  | _, [] => true
  | k, c :: r => x_okc k c && x_ok (k + 1) r
theorem x_up_at : ∀ {W : ai_W} {k i : Nat}, (x_up k W)[i]? = (W[i]?).map (x_c (k + i))
  | [], _, _ => by unfold x_up; simp
  | c :: r, k, 0 => rfl
  | c :: r, k, i + 1 => by
    have h := x_up_at (W := r) (k := k + 1) (i := i)
    rw [show k + 1 + i = k + (i + 1) by omega] at h
    show (x_up (k + 1) r)[i]? = (r[i]?).map (x_c (k + (i + 1)))
    exact h
theorem x_up_len : ∀ {W : ai_W} {k : Nat}, (x_up k W).length = W.length
  | [], _ => rfl
  | c :: r, k => by
    show (x_up (k + 1) r).length + 1 = r.length + 1
    rw [x_up_len]
theorem x_ok_at : ∀ {W : ai_W} {k i : Nat} {c : ai_C}, x_ok k W = true → W[i]? = some c → x_okc (k + i) c = true
  | [], _, _, _, _, h => by simp at h
  | c :: r, k, 0, c', h, e => by
    cases e
    exact (Bool.and_eq_true _ _ ▸ h : _ ∧ _).1
  | c :: r, k, i + 1, c', h, e => by
    have := x_ok_at (k := k + 1) ((Bool.and_eq_true _ _ ▸ h : _ ∧ _).2) (show r[i]? = some c' from e)
    rw [show k + 1 + i = k + (i + 1) by omega] at this
    exact this
theorem x_ok_k {W : ai_W} {k : Nat} {c : ai_C} (h : x_ok 0 W = true) (hk : x_k.contains k = true) (hc : W[k]? = some c) : ∃ n, c = .inr (0, n, x_f, []) := by
  have g := x_ok_at h hc
  unfold x_okc at g
  rw [Nat.zero_add, hk, Bool.not_true, Bool.false_or] at g
  split at g
  · rename_i t n d ov
    simp only [Bool.and_eq_true, beq_iff_eq, List.isEmpty_iff] at g
    obtain ⟨rfl, rfl, rfl⟩ := g
    exact ⟨n, rfl⟩
  · cases g
theorem x_nb {k : Nat} (h : ai_bi (100 + k) = true) : False := by
  unfold ai_bi at h
  rw [Bool.or_eq_true, beq_iff_eq, beq_iff_eq] at h
  omega
theorem x_xa (k j : Nat) : ai_xa (100 + k) j = true := by
  unfold ai_xa
  rw [Nat.ble_eq.mpr (Nat.le_add_right 100 k)]
  rfl
/-- plain worlds become exact ones -/
theorem x_add {ρ : ai_Rh} {sb : ai_SB} {tys : List (ClassId × FieldType)} {W : ai_W} {ws : va_W} (hok : x_ok 0 W = true) (hx : ∀ k q, x_k.contains k = true → ws[k]? = some q → sb.2 (100 + k) = q.2) (h : ai_ws ρ sb tys W ws) : ai_ws ρ sb tys (x_up 0 W) ws := by
  refine ⟨by rw [x_up_len]; exact h.1, fun k c hk => ?_⟩
  rw [x_up_at, Nat.zero_add] at hk
  obtain ⟨c0, h0, rfl⟩ := Option.map_eq_some_iff.mp hk
  obtain ⟨q, hq, hm⟩ := h.2 k c0 h0
  refine ⟨q, hq, ?_⟩
  cases hc : x_k.contains k with
  | false =>
    unfold x_c
    rw [hc, cond_false]
    exact hm
  | true =>
    obtain ⟨n, rfl⟩ := x_ok_k hok hc h0
    obtain ⟨cA, f, t0, e, h1, h2, -⟩ := hm
    have e1 : x_c k (.inr (0, n, x_f, [])) = .inr (0, n, (10, 100 + k, 0, 0), []) := by
      unfold x_c
      rw [hc, cond_true]
      rfl
    rw [e1]
    refine ⟨cA, f, t0, e, h1, fun j hj => ?_, fun _ hb => (x_nb hb).elim⟩
    show ai_el ρ sb (ws.map Prod.fst) j (10, 100 + k, 0, 0) (.int (f j))
    unfold ai_el
    rw [if_pos rfl]
    refine ⟨f j, rfl, fun hb => (x_nb hb).elim, fun _ => ⟨fun _ => ?_, fun e => ?_, fun e => ?_⟩⟩
    · show (f j).toInt = ai_xn (sb.2 (100 + k)) j
      rw [hx k q hc hq, e]
      rfl
    · have e : (0 : Int) < 0 := e
      omega
    · have e : (0 : Int) < 0 := e
      omega
/-- an exact array's numbers, as far as it goes -/
theorem x_lim {σ : ai_Rh} {sb : ai_SB} {tys : List (ClassId × FieldType)} {aw : ai_W} {ws : va_W} {k n id : Nat} {l w : Int} (h : ai_ws σ sb tys aw ws) (hk : aw[k]? = some (.inr (0, n, (10, id, l, w), []))) (hid : 100 ≤ id) : ∀ j, j < n → ai_xl σ (10, id, l, w) j ((bg_S ws).2 k j = ai_xn (sb.2 id) j) := by
  intro j hj
  obtain ⟨q, hq, cA, f, t0, e, -, h2, -⟩ := h.2 k _ hk
  have g := h2 j hj
  rw [show ai_look (10, id, l, w) [] j = ((10, id, l, w) : ai_V) from rfl] at g
  unfold ai_el at g
  rw [if_pos rfl] at g
  obtain ⟨x, ex, -, hx⟩ := g
  cases ex
  have hx := hx (by unfold ai_xa; rw [Nat.ble_eq.mpr hid]; rfl)
  have e1 : (bg_S ws).2 k j = (f j).toInt := by
    rw [bg_S2 hq j, e]
    rfl
  rw [e1]
  exact hx
/-- what is told exactly may be forgotten -/
def x_pc (c : ai_C) : ai_C := match c with
  | .inr (0, n, (10, id, l, w), []) => bif Nat.ble 100 id then .inr (0, n, x_f, []) else .inr (0, n, (10, id, l, w), [])
  | c => c
theorem x_pcm {ρ : ai_Rh} {sb : ai_SB} {ad : List Nat} {tys : List (ClassId × FieldType)} {c : ai_C} {e : va_E} (h : ai_mc ρ sb ad tys c e) : ai_mc ρ sb ad tys (x_pc c) e := by
  unfold x_pc
  split
  · rename_i n id l w
    cases hb : Nat.ble 100 id with
    | false => rw [cond_false]; exact h
    | true =>
      rw [cond_true]
      obtain ⟨cA, f, t0, e, h1, h2, -⟩ := h
      refine ⟨cA, f, t0, e, h1, fun j hj => ?_, fun h10 => by cases h10⟩
      exact ai_el.of ⟨f j, rfl, i32_of (f j)⟩
  · exact h
theorem x_pl {ρ : ai_Rh} {sb : ai_SB} {tys : List (ClassId × FieldType)} {aw : ai_W} {ws : va_W} (h : ai_ws ρ sb tys aw ws) : ai_ws ρ sb tys (aw.map x_pc) ws := by
  refine ⟨by rw [List.length_map]; exact h.1, fun k c hk => ?_⟩
  rw [List.getElem?_map] at hk
  obtain ⟨c0, h0, rfl⟩ := Option.map_eq_some_iff.mp hk
  obtain ⟨q, hq, hm⟩ := h.2 k c0 h0
  exact ⟨q, hq, x_pcm hm⟩
theorem x_drop {ρ : ai_Rh} {sb : ai_SB} {tys : List (ClassId × FieldType)} {W : ai_W} {ws : va_W} (hok : x_ok 0 W = true) (h : ai_ws ρ sb tys (x_up 0 W) ws) : ai_ws ρ sb tys W ws := by
  refine ⟨by rw [← h.1, x_up_len], fun k c hk => ?_⟩
  have hu : (x_up 0 W)[k]? = some (x_c k c) := by
    rw [x_up_at, Nat.zero_add, hk]
    rfl
  obtain ⟨q, hq, hm⟩ := h.2 k _ hu
  refine ⟨q, hq, ?_⟩
  cases hc : x_k.contains k with
  | false =>
    unfold x_c at hm
    rw [hc, cond_false] at hm
    exact hm
  | true =>
    obtain ⟨n, rfl⟩ := x_ok_k hok hc hk
    have e1 : x_c k (.inr (0, n, x_f, [])) = .inr (0, n, (10, 100 + k, 0, 0), []) := by
      unfold x_c
      rw [hc, cond_true]
      rfl
    rw [e1] at hm
    obtain ⟨cA, f, t0, e, h1, h2, -⟩ := hm
    exact ⟨cA, f, t0, e, h1, fun j hj => ai_el.of ⟨f j, rfl, i32_of (f j)⟩, fun h10 => by cases h10⟩
/-- the numbers in a table's cell are those that were told -/
theorem x_num {ρ : ai_Rh} {sb : ai_SB} {tys : List (ClassId × FieldType)} {W : ai_W} {ws : va_W} {k n : Nat} {d : ai_V} (h : ai_ws ρ sb tys (x_up 0 W) ws) (hk : x_k.contains k = true) (hc : W[k]? = some (.inr (0, n, d, []))) : ∀ j, j < n → (bg_S ws).2 k j = ai_xn (sb.2 (100 + k)) j := by
  intro j hj
  have hu : (x_up 0 W)[k]? = some (.inr (0, n, (10, 100 + k, 0, 0), [])) := by
    rw [x_up_at, Nat.zero_add, hc]
    show some (x_c k (.inr (0, n, d, []))) = _
    unfold x_c
    rw [hk, cond_true]
    rfl
  exact (x_lim h hu (Nat.le_add_right 100 k) j hj).1 rfl
/-- the tables' contents are told; elsewhere as g says -/
def x_sb (g : Nat → va_E) (ws : va_W) : Nat → va_E := fun id => bif Nat.blt id 100 then g id else (match ws[id - 100]? with
  | some q => q.2
  | none => g id)
theorem x_sb0 {g : Nat → va_E} {ws : va_W} {id : Nat} (h : id < 100) : x_sb g ws id = g id := by
  unfold x_sb
  have : Nat.blt id 100 = true := Nat.ble_eq.mpr h
  rw [this, cond_true]
theorem x_sbk {g : Nat → va_E} {ws : va_W} {k : Nat} {q : Nat × va_E} (h : ws[k]? = some q) : x_sb g ws (100 + k) = q.2 := by
  unfold x_sb
  have : Nat.blt (100 + k) 100 = false := by
    cases e : Nat.blt (100 + k) 100 with
    | false => rfl
    | true =>
      have : 100 + k < 100 := Nat.le_of_ble_eq_true e
      omega
  rw [this, cond_false, show 100 + k - 100 = k by omega, h]
/-- a told table's numbers are the world's own -/
theorem x_xn {g : Nat → va_E} {ws : va_W} {k j : Nat} {q : Nat × va_E} (h : ws[k]? = some q) (hq : ∃ cA n f, q.2 = .inl (cA, n, .inl f)) : ai_xn (x_sb g ws (100 + k)) j = (bg_S ws).2 k j := by
  rw [x_sbk h, bg_S2 h j]
  obtain ⟨cA, n, f, e⟩ := hq
  rw [e]
  rfl
