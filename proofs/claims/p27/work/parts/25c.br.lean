/-! ===== the bridge: what a held world tells of the state, and back ===== -/
def i64 (z : Int) : Prop := -9223372036854775808 ≤ z ∧ z ≤ 9223372036854775807
theorem i32_of (x : Int32) : i32 x.toInt := by
  have h1 := Int32.le_toInt x
  have h2 := Int32.toInt_lt x
  unfold i32
  omega
theorem i64_of (x : Int64) : i64 x.toInt := by
  have h1 := Int64.le_toInt x
  have h2 := Int64.toInt_lt x
  unfold i64
  omega
theorem bg_el {ρ : ai_Rh} {sb : ai_SB} {ad : List Nat} {j t : Nat} {l h : Int} {v : Value} (hm : ai_el ρ sb ad j (0, t, l, h) v) : ∃ x : Int32, v = .int x ∧ l ≤ x.toInt ∧ x.toInt ≤ h := by
  unfold ai_el at hm
  rw [if_neg (show ¬ (0 : Nat) = 10 by decide)] at hm
  exact hm
/-- an array's numbers are in its bounds -/
theorem bg_rng {ρ : ai_Rh} {sb : ai_SB} {aw : ai_W} {tys : List (ClassId × FieldType)} {ws : va_W} {k n b t : Nat} {l h : Int} (hW : ai_ws ρ sb tys aw ws) (hb : b = 0 ∨ b = 2) (hk : aw[k]? = some (.inr (b, n, (0, t, l, h), []))) : ∀ j, j < n → l ≤ (bg_S ws).2 k j ∧ (bg_S ws).2 k j ≤ h := by
  intro j hj
  obtain ⟨q, hq, hm⟩ := hW.2 k _ hk
  rw [bg_S2 hq j]
  rcases hb with rfl | rfl
  · obtain ⟨cA, f, t0, e, -, h2, -⟩ := hm
    rw [e]
    obtain ⟨x, e1, e2⟩ := bg_el (h2 j hj)
    cases e1
    exact e2
  · obtain ⟨cA, f, t0, e, -, h2⟩ := hm
    rw [e]
    obtain ⟨x, e1, e2⟩ := bg_el (h2 j hj)
    cases e1
    exact e2
theorem bg_row {ρ : ai_Rh} {sb : ai_SB} {aw : ai_W} {tys : List (ClassId × FieldType)} {ws : va_W} {k : Nat} {l h : Int} (hW : ai_ws ρ sb tys aw ws) (hk : aw[k]? = some (.inr (0, 23016, (10, 1, l, h), []))) : ro ((bg_S ws).2 k) := by
  obtain ⟨q, hq, cA, f, t0, e, -, h2, h3⟩ := hW.2 k _ hk
  have e1 : ∀ j, (bg_S ws).2 k j = (f j).toInt := fun j => by
    rw [bg_S2 hq j, e]
    rfl
  refine ro_of_sp (fun j hj => ?_) ?_
  · rw [e1]
    have := h2 j hj
    unfold ai_el at this
    have e0 : ((ai_look (10, 1, l, h) [] j : ai_V)).1 = 10 := rfl
    rw [if_pos e0] at this
    obtain ⟨x, ex, hx⟩ := this
    cases ex
    exact hx
  · have := h3 rfl rfl
    have e2 : (fun j => (bg_S ws).2 k (5056 + j)) = fun j => (f (5056 + j)).toInt := funext fun j => e1 _
    rw [e2]
    exact this
/-- what a held cell asks of the state -/
def bg_d (S : hs_S) (k : Nat) (x : ai_C) : Prop := match x with
  | .inr (0, n, d, ov) => ov = [] ∧ ((d.1 = 0 ∧ ∀ j, j < n → i32 (S.2 k j) → d.2.2.1 ≤ S.2 k j ∧ S.2 k j ≤ d.2.2.2) ∨ (d.1 = 10 ∧ d.2.1 = 1 ∧ n = 23016 ∧ ro (S.2 k)))
  | .inr (1, n, d, ov) => ov = [] ∧ d.1 = 1 ∧ ∀ j, j < n → i64 (S.2 k j) → d.2.2.1 ≤ S.2 k j ∧ S.2 k j ≤ d.2.2.2
  | .inr (2, n, d, ov) => ov = [] ∧ d.1 = 0 ∧ ∀ j, j < n → i32 (S.2 k j) → d.2.2.1 ≤ S.2 k j ∧ S.2 k j ≤ d.2.2.2
  | .inr (5, _, _, _) => True
  | _ => False
theorem bg_el0 {ρ : ai_Rh} {sb : ai_SB} {ad : List Nat} {j : Nat} {d : ai_V} {x : Int32} (hd : d.1 = 0) (h : d.2.2.1 ≤ x.toInt ∧ x.toInt ≤ d.2.2.2) : ai_el ρ sb ad j d (.int x) := by
  obtain ⟨n, t, l, u⟩ := d
  dsimp only at hd h
  subst hd
  exact ai_el.of ⟨x, rfl, h.1, h.2⟩
theorem bg_el1 {ρ : ai_Rh} {sb : ai_SB} {ad : List Nat} {j : Nat} {d : ai_V} {x : Int64} (hd : d.1 = 1) (h : d.2.2.1 ≤ x.toInt ∧ x.toInt ≤ d.2.2.2) : ai_el ρ sb ad j d (.long x) := by
  obtain ⟨n, t, l, u⟩ := d
  dsimp only at hd h
  subst hd
  exact ai_el.of ⟨x, rfl, h.1, h.2⟩
theorem bg_mc {σ : ai_Rh} {sb : ai_SB} {ad : List Nat} {tys : List (ClassId × FieldType)} {S : hs_S} {k : Nat} {c : Nat × Nat} {x : ai_C} {e : va_E} (hb : bg_c c x = true) (ha : hs_ar sb.2 tys S k c e) (hd : bg_d S k x) : ai_mc σ sb ad tys x e := by
  unfold bg_c at hb
  split at hb
  · rename_i n m d ov
    rw [beq_iff_eq] at hb
    subst hb
    obtain ⟨cA, f, t0, rfl, h1, h2⟩ := ha
    obtain ⟨rfl, hd⟩ := hd
    refine ⟨cA, f, t0, rfl, h1, ?_, ?_⟩
    · intro j hj
      rcases hd with ⟨d0, dr⟩ | ⟨d10, d1, dn, dr⟩
      · refine bg_el0 d0 ?_
        show d.2.2.1 ≤ _ ∧ _ ≤ d.2.2.2
        rw [h2 j hj]
        exact dr j hj (by rw [← h2 j hj]; exact i32_of _)
      · obtain ⟨t, d1', l, u⟩ := d
        dsimp only at d10 d1
        subst d10 d1
        show ai_el σ sb ad j (10, 1, l, u) _
        unfold ai_el
        rw [if_pos rfl]
        refine ⟨f j, rfl, ?_⟩
        rw [h2 j hj]
        exact sp_of_ro dr (fun i hi => by rw [← h2 i (by omega)]; exact i32_of _) j (by omega)
    · intro d10
      rcases hd with ⟨d0, dr⟩ | ⟨-, d1, dn, dr⟩
      · rw [d0] at d10; cases d10
      · intro _
        exact rt_all_congr (F := fun j => S.2 k (5056 + j)) (fun j hj => h2 _ (by omega)) dr.2.2.2.2.2.2
  · rename_i n m d ov
    rw [beq_iff_eq] at hb
    subst hb
    obtain ⟨cA, f, t0, rfl, h1, h2⟩ := ha
    obtain ⟨rfl, d1, dr⟩ := hd
    refine ⟨cA, f, t0, rfl, h1, fun j hj => bg_el1 d1 ?_⟩
    show d.2.2.1 ≤ _ ∧ _ ≤ d.2.2.2
    rw [h2 j hj]
    exact dr j hj (by rw [← h2 j hj]; exact i64_of _)
  · rename_i n m d ov
    rw [beq_iff_eq] at hb
    subst hb
    obtain ⟨cA, f, t0, rfl, h1, h2⟩ := ha
    obtain ⟨rfl, d1, dr⟩ := hd
    refine ⟨cA, f, t0, rfl, h1, fun j hj => bg_el0 d1 ?_⟩
    show d.2.2.1 ≤ _ ∧ _ ≤ d.2.2.2
    rw [h2 j hj]
    exact dr j hj (by rw [← h2 j hj]; exact i32_of _)
  · rename_i n m d ov
    rw [beq_iff_eq] at hb
    subst hb
    exact ha
  · cases hb
