/-! ===== keep: bits and places ===== -/
def kb_o (a y : Int) : Int := (Int32.ofInt a ||| Int32.ofInt (u_bit y)).toInt
def kb_a (a y : Int) : Int := (Int32.ofInt a &&& Int32.ofInt (u_bit y)).toInt
def kb_ok (a y v : Nat) : Bool := decide (0 ≤ kb_o a y) && (decide (kb_o a y ≤ 255) && (decide (kb_a (kb_o a y) v = 0) == (!(y == v) && decide (kb_a a v = 0))))
set_option maxRecDepth 100000 in
theorem kb_all : (List.range 256).all (fun a => (List.range 8).all fun y => (List.range 8).all fun v => kb_ok a y v) = true := by decide +kernel
theorem kb_at {a y v : Int} (ha : 0 ≤ a ∧ a ≤ 255) (hy : 0 ≤ y ∧ y < 8) (hv : 0 ≤ v ∧ v < 8) : (0 ≤ kb_o a y ∧ kb_o a y ≤ 255) ∧ (kb_a (kb_o a y) v = 0 ↔ (¬ y = v ∧ kb_a a v = 0)) := by
  have h1 := List.all_eq_true.mp kb_all a.toNat (List.mem_range.mpr (by omega))
  have h2 := List.all_eq_true.mp h1 y.toNat (List.mem_range.mpr (by omega))
  have h := List.all_eq_true.mp h2 v.toNat (List.mem_range.mpr (by omega))
  unfold kb_ok at h
  rw [show ((a.toNat : Nat) : Int) = a by omega, show ((y.toNat : Nat) : Int) = y by omega, show ((v.toNat : Nat) : Int) = v by omega] at h
  rw [Bool.and_eq_true, Bool.and_eq_true, decide_eq_true_eq, decide_eq_true_eq, beq_iff_eq] at h
  obtain ⟨h1, h2, h3⟩ := h
  refine ⟨⟨h1, h2⟩, ?_⟩
  have e : (y.toNat == v.toNat) = decide (y = v) := by
    by_cases e : y = v
    · rw [e, beq_self_eq_true, decide_eq_true rfl]
    · rw [decide_eq_false e, beq_false_of_ne (by omega)]
  rw [e] at h3
  by_cases c1 : kb_a (kb_o a y) v = 0
  · rw [decide_eq_true c1] at h3
    by_cases c2 : y = v
    · rw [decide_eq_true c2] at h3
      cases h3
    · by_cases c3 : kb_a a v = 0
      · exact ⟨fun _ => ⟨c2, c3⟩, fun _ => c1⟩
      · rw [decide_eq_false c3, decide_eq_false c2] at h3
        cases h3
  · rw [decide_eq_false c1] at h3
    refine ⟨fun g => absurd g c1, fun g => ?_⟩
    rw [decide_eq_false g.1, decide_eq_true g.2] at h3
    cases h3
/-- standing's bits are the row's places -/
def tb_k (A R : Nat → Int) : Prop := ∀ s : Nat, s < 6 → (0 ≤ A s ∧ A s ≤ 255) ∧ ∀ y : Nat, y < 8 → (kb_a (A s) y = 0 ↔ ¬ R (5008 + 8 * s + y) = 1)
theorem tb_k.put {A R : Nat → Int} {s y : Int} (hs : 0 ≤ s ∧ s < 6) (hy : 0 ≤ y ∧ y < 8) (h : tb_k A R) : tb_k (fun j => bif j == s.toNat then kb_o (A s.toNat) y else A j) (fun j => bif j == (5008 + 8 * s + y).toNat then 1 else R j) := by
  intro t ht
  obtain ⟨h1, h2⟩ := h t ht
  dsimp only
  by_cases e : t = s.toNat
  · subst e
    rw [beq_self_eq_true, cond_true]
    refine ⟨(kb_at h1 hy ⟨Int.le_refl 0, by decide⟩).1, fun v hv => ?_⟩
    rw [(kb_at h1 hy (v := (v : Int)) ⟨by omega, by omega⟩).2]
    by_cases c : y = (v : Int)
    · rw [show (5008 + 8 * s.toNat + v == (5008 + 8 * s + y).toNat) = true by rw [beq_iff_eq]; omega, cond_true]
      exact ⟨fun g => absurd c g.1, fun g => absurd rfl g⟩
    · rw [beq_false_of_ne (show ¬ 5008 + 8 * s.toNat + v = (5008 + 8 * s + y).toNat by omega), cond_false]
      exact ⟨fun g => (h2 v hv).mp g.2, fun g => ⟨c, (h2 v hv).mpr g⟩⟩
  · rw [beq_false_of_ne e, cond_false]
    refine ⟨h1, fun v hv => ?_⟩
    rw [beq_false_of_ne (show ¬ 5008 + 8 * t + v = (5008 + 8 * s + y).toNat by omega), cond_false]
    exact h2 v hv
