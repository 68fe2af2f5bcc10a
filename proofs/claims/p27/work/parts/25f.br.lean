/-- tokens at places of a row -/
def bh_ov (σ : ai_Rh) (S : hs_S) (k : Nat) (d : ai_V) (ov : List (Nat × ai_V)) : Prop := ∀ q ∈ ov, (d.1 = 10 ∨ d.1 = 0) ∧ ∃ t : Nat, q.2 = (2, t, 0, 1) ∧ σ t = some (S.2 k q.1)
def bh_d (σ : ai_Rh) (S : hs_S) (k : Nat) (x : ai_C) : Prop := match x with
  | .inr (0, n, d, ov) => bh_ov σ S k d ov ∧ ((d.1 = 0 ∧ ∀ j, j < n → i32 (S.2 k j) → d.2.2.1 ≤ S.2 k j ∧ S.2 k j ≤ d.2.2.2) ∨ (d.1 = 10 ∧ d.2.1 = 1 ∧ n = 23016 ∧ ro (S.2 k)))
  | .inr (1, n, d, ov) => ov = [] ∧ d.1 = 1 ∧ ∀ j, j < n → i64 (S.2 k j) → d.2.2.1 ≤ S.2 k j ∧ S.2 k j ≤ d.2.2.2
  | .inr (2, n, d, ov) => ov = [] ∧ d.1 = 0 ∧ ∀ j, j < n → i32 (S.2 k j) → d.2.2.1 ≤ S.2 k j ∧ S.2 k j ≤ d.2.2.2
  | .inr (5, _, _, _) => True
  | _ => False
theorem bh_lk {d : ai_V} : ∀ (ov : List (Nat × ai_V)) (j : Nat), (∃ q ∈ ov, q.1 = j ∧ ai_look d ov j = q.2) ∨ ai_look d ov j = d
  | [], _ => Or.inr rfl
  | (k0, v0) :: r, j => by
    unfold ai_look
    cases e : (k0 == j) with
    | true => exact Or.inl ⟨(k0, v0), List.mem_cons_self, by simpa using e, rfl⟩
    | false =>
      rcases bh_lk r j with ⟨q, hq, h⟩ | h
      · exact Or.inl ⟨q, List.mem_cons_of_mem _ hq, h⟩
      · exact Or.inr h
theorem bh_mc {σ : ai_Rh} {sb : ai_SB} {ad : List Nat} {tys : List (ClassId × FieldType)} {S : hs_S} {k : Nat} {c : Nat × Nat} {x : ai_C} {e : va_E} (hb : bg_c c x = true) (ha : hs_ar sb.2 tys S k c e) (hd : bh_d σ S k x) : ai_mc σ sb ad tys x e := by
  unfold bg_c at hb
  split at hb
  · rename_i n m d ov
    rw [beq_iff_eq] at hb
    subst hb
    obtain ⟨cA, f, t0, rfl, h1, h2⟩ := ha
    obtain ⟨ho, hd⟩ := hd
    refine ⟨cA, f, t0, rfl, h1, ?_, ?_⟩
    · intro j hj
      rcases bh_lk (d := d) ov j with ⟨q, hq, rfl, e1⟩ | e1
      · rw [e1]
        obtain ⟨-, t, e2, e3⟩ := ho q hq
        rw [e2]
        exact ai_el.of ⟨f q.1, S.2 k q.1, rfl, e3, by rw [h2 q.1 hj]; omega⟩
      · rw [e1]
        rcases hd with ⟨d0, dr⟩ | ⟨d10, d1, dn, dr⟩
        · refine bg_el0 d0 ?_
          rw [h2 j hj]
          exact dr j hj (by rw [← h2 j hj]; exact i32_of _)
        · obtain ⟨t, d1', l, u⟩ := d
          dsimp only at d10 d1
          subst d10 d1
          unfold ai_el
          rw [if_pos rfl]
          refine ⟨f j, rfl, ?_⟩
          rw [h2 j hj]
          exact sp_of_ro dr (fun i hi => by rw [← h2 i (by omega)]; exact i32_of _) j (by omega)
    · intro d10
      rcases hd with ⟨d0, dr⟩ | ⟨-, d1, dn, dr⟩
      · rw [d0] at d10; cases d10
      · intro _
        exact rt_all_congr (F := fun j => S.2 k (5056 + j)) (fun j hj => h2 _ (by omega)) dr.2.2.2.2.2.2
  · rename_i n m d ov
    rw [beq_iff_eq] at hb
    subst hb
    obtain ⟨cA, f, t0, rfl, h1, h2⟩ := ha
    obtain ⟨rfl, d1, dr⟩ := hd
    refine ⟨cA, f, t0, rfl, h1, fun j hj => bg_el1 d1 ?_⟩
    show d.2.2.1 ≤ _ ∧ _ ≤ d.2.2.2
    rw [h2 j hj]
    exact dr j hj (by rw [← h2 j hj]; exact i64_of _)
  · rename_i n m d ov
    rw [beq_iff_eq] at hb
    subst hb
    obtain ⟨cA, f, t0, rfl, h1, h2⟩ := ha
    obtain ⟨rfl, d1, dr⟩ := hd
    refine ⟨cA, f, t0, rfl, h1, fun j hj => bg_el0 d1 ?_⟩
    show d.2.2.1 ≤ _ ∧ _ ≤ d.2.2.2
    rw [h2 j hj]
    exact dr j hj (by rw [← h2 j hj]; exact i32_of _)
  · rename_i n m d ov
    rw [beq_iff_eq] at hb
    subst hb
    exact ha
  · cases hb
theorem bh_row {ρ : ai_Rh} {sb : ai_SB} {aw : ai_W} {tys : List (ClassId × FieldType)} {ws : va_W} {k n : Nat} {d : ai_V} {ov : List (Nat × ai_V)} (hW : ai_ws ρ sb tys aw ws) (hk : aw[k]? = some (.inr (0, n, d, ov))) : ∀ q ∈ ov, ∀ t : Nat, q.2 = (2, t, 0, 1) → q.1 < n → (∀ r ∈ ov, r.1 = q.1 → r.2 = q.2) → ρ t = some ((bg_S ws).2 k q.1) := by
  intro q hq t ht hl hu
  obtain ⟨w, hw, cA, f, t0, e, -, h2, h3⟩ := hW.2 k _ hk
  rw [bg_S2 hw q.1, e]
  have := h2 q.1 hl
  have hlk : ai_look d ov q.1 = q.2 := by
    have key : ∀ ov : List (Nat × ai_V), q ∈ ov → (∀ r ∈ ov, r.1 = q.1 → r.2 = q.2) → ai_look d ov q.1 = q.2 := by
      intro ov
      induction ov with
      | nil => intro h _; cases h
      | cons a r ih =>
        intro hm hu
        obtain ⟨k0, v0⟩ := a
        unfold ai_look
        cases e : (k0 == q.1) with
        | true => exact hu (k0, v0) List.mem_cons_self (by simpa using e)
        | false =>
          refine ih ?_ (fun r' hr => hu r' (List.mem_cons_of_mem _ hr))
          rcases List.mem_cons.mp hm with rfl | h
          · simp at e
          · exact h
    exact key ov hq hu
  rw [hlk, ht] at this
  obtain ⟨x, z, ex, hz, hx⟩ := this.to (by show ¬ (2 : Nat) = 10; decide)
  cases ex
  rw [hz]
  show some z = some (f q.1).toInt
  rw [hx]
  congr 1
  omega
