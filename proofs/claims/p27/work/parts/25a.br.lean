/-! ===== the bridge: the row in both words ===== -/
def i32 (z : Int) : Prop := -2147483648 ≤ z ∧ z ≤ 2147483647
theorem sp_at {R : Nat → Int} (h : ∀ j, j < 23016 → ai_sp 1 j (R j)) {b e w j k : Nat} {q : Int × Int} (hr : (b, e, w) ∈ ai_rg) (h1 : b ≤ j) (h2 : j < e) (h3 : j < 23016) (hk : (j - b) % w = k) (hq : ai_gc b k = q) : q.1 ≤ R j ∧ R j ≤ q.2 := by
  have := h j h3 rfl (b, e, w) hr h1 h2
  dsimp only at this
  rw [hk, hq] at this
  exact this
theorem gc_2448 {k : Nat} (h : ¬ k = 0) : ai_gc 2448 k = ai_gF := by
  have e : ∀ m : Nat, ai_gc 2448 m = (bif m == 0 then (0, 19) else ai_gF) := fun _ => rfl
  rw [e, beq_eq_false_iff_ne.mpr h, cond_false]
theorem gc_4008 {k : Nat} (h0 : ¬ k = 0) (h1 : ¬ k = 1) (h2 : ¬ k = 2) : ai_gc 4008 k = ai_gF := by
  have e : ∀ m : Nat, ai_gc 4008 m = (bif m == 0 then (0, 39) else bif m == 1 then (0, 7) else bif m == 2 then (0, 9) else ai_gF) := fun _ => rfl
  rw [e, beq_eq_false_iff_ne.mpr h0, beq_eq_false_iff_ne.mpr h1, beq_eq_false_iff_ne.mpr h2, cond_false, cond_false, cond_false]
theorem gc_5056 {k : Nat} (h : ¬ k = 1) : ai_gc 5056 k = ai_gF := by
  have e : ∀ m : Nat, ai_gc 5056 m = (bif m == 1 then (0, 12) else ai_gF) := fun _ => rfl
  rw [e, beq_eq_false_iff_ne.mpr h, cond_false]
theorem ro_of_sp {R : Nat → Int} (h : ∀ j, j < 23016 → ai_sp 1 j (R j)) (ht : rt_all (fun k => R (5056 + k))) : ro R := by
  have r0 : (0, 11, 11) ∈ ai_rg := by decide
  have r68 : (68, 2268, 11) ∈ ai_rg := by decide
  have r2348 : (2348, 2368, 1) ∈ ai_rg := by decide
  have r2448 : (2448, 2528, 2) ∈ ai_rg := by decide
  have r4008 : (4008, 5008, 5) ∈ ai_rg := by decide
  have r5056 : (5056, 23016, 898) ∈ ai_rg := by decide
  refine ⟨⟨?_, ?_, ?_, ?_, ?_, ?_, ?_, ?_, ?_, ?_⟩, fun n hn => ⟨?_, ?_⟩, fun n hn => ?_, fun n hn => ?_, fun n hn => ⟨?_, ?_, ?_⟩, fun t hT => ?_, ht⟩
  · exact sp_at h (k := 0) r0 (by decide) (by decide) (by decide) rfl rfl
  · exact sp_at h (k := 1) r0 (by decide) (by decide) (by decide) rfl rfl
  · exact sp_at h (k := 2) r0 (by decide) (by decide) (by decide) rfl rfl
  · exact sp_at h (k := 3) r0 (by decide) (by decide) (by decide) rfl rfl
  · exact sp_at h (k := 4) r0 (by decide) (by decide) (by decide) rfl rfl
  · exact sp_at h (k := 5) r0 (by decide) (by decide) (by decide) rfl rfl
  · exact sp_at h (k := 6) r0 (by decide) (by decide) (by decide) rfl rfl
  · exact sp_at h (k := 7) r0 (by decide) (by decide) (by decide) rfl rfl
  · exact sp_at h (k := 8) r0 (by decide) (by decide) (by decide) rfl rfl
  · exact sp_at h (k := 9) r0 (by decide) (by decide) (by decide) rfl rfl
  · exact sp_at h (k := 0) r68 (by omega) (by omega) (by omega) (by omega) rfl
  · exact sp_at h (k := 8) r68 (by omega) (by omega) (by omega) (by omega) rfl
  · exact sp_at h (k := 0) r2348 (by omega) (by omega) (by omega) (by omega) rfl
  · exact sp_at h (k := 0) r2448 (by omega) (by omega) (by omega) (by omega) rfl
  · exact sp_at h (k := 0) r4008 (by omega) (by omega) (by omega) (by omega) rfl
  · exact sp_at h (k := 1) r4008 (by omega) (by omega) (by omega) (by omega) rfl
  · exact sp_at h (k := 2) r4008 (by omega) (by omega) (by omega) (by omega) rfl
  · exact sp_at h (k := 1) r5056 (by omega) (by omega) (by omega) (by omega) rfl
theorem sp_of_ro {R : Nat → Int} (h : ro R) (hi : ∀ j, j < 23016 → i32 (R j)) : ∀ j, j < 23016 → ai_sp 1 j (R j) := by
  intro j hj _ r hr h1 h2
  have hI := hi j hj
  unfold i32 at hI
  obtain ⟨⟨a0, a1, a2, a3, a4, a5, a6, a7, a8, a9⟩, b, c, d, e, f, -⟩ := h
  unfold ai_rg at hr
  simp only [List.mem_cons, List.not_mem_nil, or_false] at hr
  rcases hr with rfl | rfl | rfl | rfl | rfl | rfl | rfl | rfl | rfl | rfl | rfl | rfl | rfl <;> dsimp only at h1 h2 ⊢
  · match j, h2 with
    | 0, _ => exact a0
    | 1, _ => exact a1
    | 2, _ => exact a2
    | 3, _ => exact a3
    | 4, _ => exact a4
    | 5, _ => exact a5
    | 6, _ => exact a6
    | 7, _ => exact a7
    | 8, _ => exact a8
    | 9, _ => exact a9
    | 10, _ => exact hI
  · exact hI
  · exact hI
  · by_cases k0 : (j - 68) % 11 = 0
    · rw [k0]
      have := (b ((j - 68) / 11) (by omega)).1
      rw [show 68 + 11 * ((j - 68) / 11) = j by omega] at this
      exact this
    · by_cases k8 : (j - 68) % 11 = 8
      · rw [k8]
        have := (b ((j - 68) / 11) (by omega)).2
        rw [show 76 + 11 * ((j - 68) / 11) = j by omega] at this
        exact this
      · have e0 : ((j - 68) % 11 == 0) = false := beq_eq_false_iff_ne.mpr k0
        have e8 : ((j - 68) % 11 == 8) = false := beq_eq_false_iff_ne.mpr k8
        have : ai_gc 68 ((j - 68) % 11) = ai_gF := by
          show (bif (j - 68) % 11 == 0 then _ else bif (j - 68) % 11 == 8 then _ else _) = _
          rw [e0, e8, cond_false, cond_false]
        rw [this]
        exact hI
  · exact hI
  · have := c (j - 2348) (by omega)
    rw [show 2348 + (j - 2348) = j by omega] at this
    exact this
  · exact hI
  · by_cases k0 : (j - 2448) % 2 = 0
    · rw [k0]
      have := d ((j - 2448) / 2) (by omega)
      rw [show 2448 + 2 * ((j - 2448) / 2) = j by omega] at this
      exact this
    · have : ai_gc 2448 ((j - 2448) % 2) = ai_gF := gc_2448 k0
      rw [this]
      exact hI
  · exact hI
  · exact hI
  · by_cases k0 : (j - 4008) % 5 = 0
    · rw [k0]
      have := (e ((j - 4008) / 5) (by omega)).1
      rw [show 4008 + 5 * ((j - 4008) / 5) = j by omega] at this
      exact this
    · by_cases k1 : (j - 4008) % 5 = 1
      · rw [k1]
        have := (e ((j - 4008) / 5) (by omega)).2.1
        rw [show 4009 + 5 * ((j - 4008) / 5) = j by omega] at this
        exact this
      · by_cases k2 : (j - 4008) % 5 = 2
        · rw [k2]
          have := (e ((j - 4008) / 5) (by omega)).2.2
          rw [show 4010 + 5 * ((j - 4008) / 5) = j by omega] at this
          exact this
        · have : ai_gc 4008 ((j - 4008) % 5) = ai_gF := gc_4008 k0 k1 k2
          rw [this]
          exact hI
  · exact hI
  · by_cases k1 : (j - 5056) % 898 = 1
    · rw [k1]
      have := f ((j - 5056) / 898) (by omega)
      rw [show 5057 + 898 * ((j - 5056) / 898) = j by omega] at this
      exact this
    · have : ai_gc 5056 ((j - 5056) % 898) = ai_gF := gc_5056 k1
      rw [this]
      exact hI
/-- what the world of the reference always holds -/
def rv (A : Nat → Nat → Int) : Prop := ro (A 1) ∧ wz A ∧ bz A 4 200 ∧ bz A 12 20 ∧ bz A 13 240 ∧ bz A 25 10
