/-! ===== what the reference's parser builds: depths of code whose ands and ors are still open ===== -/
def gp_c (hi : Int) (f : Nat → Int) : Nat → Nat
  | 0 => 0
  | n + 1 => gp_c hi f n + (if f n ≤ hi then 1 else 0)
theorem gp_c_congr {hi : Int} {f g : Nat → Int} : ∀ {n : Nat}, (∀ i, i < n → f i = g i) → gp_c hi f n = gp_c hi g n
  | 0, _ => rfl
  | n + 1, h => by
    unfold gp_c
    rw [gp_c_congr (n := n) (fun i hi' => h i (by omega)), h n (by omega)]
theorem gp_c_le {hi : Int} {f : Nat → Int} : ∀ {n : Nat}, gp_c hi f n ≤ n
  | 0 => Nat.le_refl _
  | n + 1 => by
    unfold gp_c
    have := gp_c_le (hi := hi) (f := f) (n := n)
    split <;> omega
theorem gp_c_1 {hi : Int} {f : Nat → Int} {n : Nat} (h : f n ≤ hi) : gp_c hi f (n + 1) = gp_c hi f n + 1 := by
  show gp_c hi f n + (if f n ≤ hi then 1 else 0) = _
  rw [if_pos h]
theorem gp_c_0 {hi : Int} {f : Nat → Int} {n : Nat} (h : hi < f n) : gp_c hi f (n + 1) = gp_c hi f n := by
  show gp_c hi f n + (if f n ≤ hi then 1 else 0) = _
  rw [if_neg (by omega)]
  rfl
theorem gp_c_mono {hi : Int} {f : Nat → Int} {m : Nat} : ∀ {n : Nat}, m ≤ n → gp_c hi f m ≤ gp_c hi f n
  | 0, h => by rw [show m = 0 by omega]; exact Nat.le_refl _
  | n + 1, h => by
    by_cases e : m = n + 1
    · rw [e]; exact Nat.le_refl _
    · have := gp_c_mono (hi := hi) (f := f) (m := m) (n := n) (by omega)
      refine Nat.le_trans this ?_
      show _ ≤ gp_c hi f n + (if f n ≤ hi then 1 else 0)
      omega
def gp_ao (z : Int) : Prop := z = 28 ∨ z = 29
/-- code from a on to N is well formed over a pile of P; od: 1 behind an operand -/
def gn (a N P : Nat) (od : Int) (A : Nat → Nat → Int) : Prop := a ≤ N ∧ ∃ d : Nat → Int, d a = 0 ∧ d N = (gp_c 26 (A 10) P : Int) + od ∧ d N ≤ (N : Int) - a ∧ (∀ k, a ≤ k → k < N → 0 ≤ d k ∧ d k ≤ (k : Int) - a ∧ (rt_step (A 8) (A 9) d N k ∨ (gp_ao (A 8 k) ∧ 1 ≤ d k ∧ d (k + 1) = d k - 1 ∧ ∃ i, i < P ∧ gp_ao (A 10 i) ∧ A 11 i = (k : Int)))) ∧ ∀ i, i < P → gp_ao (A 10 i) → (a : Int) ≤ A 11 i ∧ A 11 i < (N : Int) ∧ d (A 11 i).toNat = (gp_c 26 (A 10) i : Int) + 1
theorem gn_start {a : Nat} {A : Nat → Nat → Int} : gn a a 0 0 A := ⟨Nat.le_refl _, fun _ => 0, rfl, rfl, (by show (0 : Int) ≤ _; omega), fun k h1 h2 => by omega, fun i h => by omega⟩
theorem rt_step_ext {op ar op' ar' d d' : Nat → Int} {N N' k : Nat} (hk : k < N) (hN : N ≤ N') (h8 : op' k = op k) (h9 : ar' k = ar k) (hd : ∀ j, j ≤ N → d' j = d j) (h : rt_step op ar d N k) : rt_step op' ar' d' N' k := by
  unfold rt_step at h ⊢
  rw [h8, h9, hd k (by omega), hd (k + 1) (by omega)]
  rcases h with h | h | h | ⟨h1, h2, h3, h4, h5, h6⟩
  · exact Or.inl h
  · exact Or.inr (Or.inl h)
  · exact Or.inr (Or.inr (Or.inl h))
  · exact Or.inr (Or.inr (Or.inr ⟨h1, h2, h3, h4, by omega, by rw [hd _ (by omega)]; exact h6⟩))
/-- one more instruction, which is neither an and nor an or -/
theorem gn_ext {a N P P' : Nat} {od od' : Int} {A A' : Nat → Nat → Int} (h : gn a N P od A) (e8 : ∀ k, k < N → A' 8 k = A 8 k) (e9 : ∀ k, k < N → A' 9 k = A 9 k) (hp : P' ≤ P) (e10 : ∀ i, i < P' → A' 10 i = A 10 i) (e11 : ∀ i, i < P' → A' 11 i = A 11 i) (hk : ∀ i, P' ≤ i → i < P → ¬ gp_ao (A 10 i)) (hs : (0 ≤ A' 8 N ∧ A' 8 N ≤ 16 ∧ (gp_c 26 (A 10) P' : Int) + od' = (gp_c 26 (A 10) P : Int) + od + 1) ∨ (20 ≤ A' 8 N ∧ A' 8 N ≤ 26 ∧ 2 ≤ (gp_c 26 (A 10) P : Int) + od ∧ (gp_c 26 (A 10) P' : Int) + od' = (gp_c 26 (A 10) P : Int) + od - 1) ∨ (A' 8 N = 27 ∧ 1 ≤ (gp_c 26 (A 10) P : Int) + od ∧ (gp_c 26 (A 10) P' : Int) + od' = (gp_c 26 (A 10) P : Int) + od)) (hod : 0 ≤ (gp_c 26 (A 10) P : Int) + od) : gn a (N + 1) P' od' A' := by
  obtain ⟨h1, d, h2, h3, h4, h5, h6⟩ := h
  have ec : ∀ i, i ≤ P' → gp_c 26 (A' 10) i = gp_c 26 (A 10) i := fun i hi => gp_c_congr (fun j hj => e10 j (by omega))
  refine ⟨by omega, fun j => if j = N + 1 then (gp_c 26 (A 10) P' : Int) + od' else d j, ?_, ?_, ?_, fun k k1 k2 => ?_, fun i i1 i2 => ?_⟩
  · show (if a = N + 1 then _ else d a) = 0
    rw [if_neg (by omega)]; exact h2
  · show (if N + 1 = N + 1 then _ else _) = _
    rw [if_pos rfl, ec P' (Nat.le_refl _)]
  · show (if N + 1 = N + 1 then _ else _) ≤ _
    rw [if_pos rfl]
    omega
  · have ed : ∀ j, j ≤ N → (fun j => if j = N + 1 then (gp_c 26 (A 10) P' : Int) + od' else d j) j = d j := fun j hj => if_neg (by omega)
    by_cases ek : k = N
    · subst ek
      have e1 := ed k (by omega)
      have e2 : (fun j => if j = k + 1 then (gp_c 26 (A 10) P' : Int) + od' else d j) (k + 1) = (gp_c 26 (A 10) P' : Int) + od' := if_pos rfl
      refine ⟨by rw [e1]; omega, by rw [e1]; omega, Or.inl ?_⟩
      unfold rt_step
      rw [e1, e2]
      rcases hs with hs | hs | hs
      · exact Or.inl ⟨hs.1, hs.2.1, by omega⟩
      · exact Or.inr (Or.inl ⟨hs.1, hs.2.1, by omega, by omega⟩)
      · exact Or.inr (Or.inr (Or.inl ⟨hs.1, by omega, by omega⟩))
    · obtain ⟨g1, g2, g3⟩ := h5 k k1 (by omega)
      refine ⟨by rw [ed k (by omega)]; exact g1, by rw [ed k (by omega)]; exact g2, ?_⟩
      rcases g3 with g3 | ⟨g3, g4, g5, i, g6, g7, g8⟩
      · exact Or.inl (rt_step_ext (by omega) (by omega) (e8 k (by omega)) (e9 k (by omega)) ed g3)
      · refine Or.inr ⟨by rw [e8 k (by omega)]; exact g3, by rw [ed k (by omega)]; exact g4, by rw [ed k (by omega), ed (k + 1) (by omega)]; exact g5, i, ?_⟩
        have hi : i < P' := Nat.lt_of_not_le (fun hc => hk i hc g6 g7)
        exact ⟨hi, by rw [e10 i hi]; exact g7, by rw [e11 i hi]; exact g8⟩
  · rw [e10 i i1] at i2
    obtain ⟨g1, g2, g3⟩ := h6 i (by omega) i2
    rw [e11 i i1]
    refine ⟨g1, by omega, ?_⟩
    show (if (A 11 i).toNat = N + 1 then _ else d (A 11 i).toNat) = _
    rw [if_neg (by omega), g3, ec i (by omega)]
/-- the pile alone changes -/
theorem gn_pile {a N P P' : Nat} {od od' : Int} {A A' : Nat → Nat → Int} (h : gn a N P od A) (e8 : ∀ k, k < N → A' 8 k = A 8 k) (e9 : ∀ k, k < N → A' 9 k = A 9 k) (e10 : ∀ i, i < P → i < P' → A' 10 i = A 10 i) (e11 : ∀ i, i < P → i < P' → A' 11 i = A 11 i) (hk : ∀ i, P' ≤ i → i < P → ¬ gp_ao (A 10 i)) (hn : ∀ i, P ≤ i → i < P' → ¬ gp_ao (A' 10 i)) (hs : (gp_c 26 (A' 10) P' : Int) + od' = (gp_c 26 (A 10) P : Int) + od) : gn a N P' od' A' := by
  obtain ⟨h1, d, h2, h3, h4, h5, h6⟩ := h
  refine ⟨h1, d, h2, by rw [hs]; exact h3, h4, fun k k1 k2 => ?_, fun i i1 i2 => ?_⟩
  · obtain ⟨g1, g2, g3⟩ := h5 k k1 k2
    refine ⟨g1, g2, ?_⟩
    rcases g3 with g3 | ⟨g3, g4, g5, i, g6, g7, g8⟩
    · exact Or.inl (rt_step_ext k2 (Nat.le_refl _) (e8 k k2) (e9 k k2) (fun _ _ => rfl) g3)
    · have hi : i < P' := Nat.lt_of_not_le (fun hc => hk i hc g6 g7)
      exact Or.inr ⟨by rw [e8 k k2]; exact g3, g4, g5, i, hi, by rw [e10 i g6 hi]; exact g7, by rw [e11 i g6 hi]; exact g8⟩
  · have hi : i < P := Nat.lt_of_not_le (fun hc => hn i hc i1 i2)
    rw [e10 i hi i1] at i2
    obtain ⟨g1, g2, g3⟩ := h6 i hi i2
    rw [e11 i hi i1]
    refine ⟨g1, g2, ?_⟩
    rw [g3, gp_c_congr (f := A' 10) (g := A 10) (fun j hj => e10 j (by omega) (by omega))]
/-- an and or an or finds its end -/
theorem gn_res {a N P : Nat} {A A' : Nat → Nat → Int} (h : gn a N (P + 1) 1 A) (hao : gp_ao (A 10 P)) (e8 : ∀ k, k < N → A' 8 k = A 8 k) (e9 : ∀ k, k < N → A' 9 k = if k = (A 11 P).toNat then (N : Int) else A 9 k) (e10 : ∀ i, i < P → A' 10 i = A 10 i) (e11 : ∀ i, i < P → A' 11 i = A 11 i) : gn a N P 1 A' := by
  obtain ⟨h1, d, h2, h3, h4, h5, h6⟩ := h
  have ec : ∀ i, i ≤ P → gp_c 26 (A' 10) i = gp_c 26 (A 10) i := fun i hi => gp_c_congr (fun j hj => e10 j (by omega))
  have e0 : gp_c 26 (A 10) (P + 1) = gp_c 26 (A 10) P := gp_c_0 (by unfold gp_ao at hao; omega)
  obtain ⟨q1, q2, q3⟩ := h6 P (by omega) hao
  rw [e0] at h3
  refine ⟨h1, d, h2, by rw [ec P (Nat.le_refl _)]; exact h3, h4, fun k k1 k2 => ?_, fun i i1 i2 => ?_⟩
  · obtain ⟨g1, g2, g3⟩ := h5 k k1 k2
    refine ⟨g1, g2, ?_⟩
    by_cases ek : k = (A 11 P).toNat
    · have hr : gp_ao (A 8 k) ∧ 1 ≤ d k ∧ d (k + 1) = d k - 1 ∨ ¬ gp_ao (A 8 k) := by
        by_cases hq : gp_ao (A 8 k)
        · rcases g3 with g3 | g3
          · unfold rt_step at g3
            unfold gp_ao at hq ⊢
            left
            omega
          · exact Or.inl ⟨g3.1, g3.2.1, g3.2.2.1⟩
        · exact Or.inr hq
      rcases hr with ⟨r1, r2, r3⟩ | r1
      · left
        unfold rt_step
        rw [e8 k k2, e9 k k2, if_pos ek]
        unfold gp_ao at r1
        refine Or.inr (Or.inr (Or.inr ⟨r1, r2, r3, by omega, by omega, ?_⟩))
        rw [show ((N : Int)).toNat = N from rfl, h3, ek, q3]
      · rcases g3 with g3 | g3
        · left
          unfold rt_step at g3 ⊢
          unfold gp_ao at r1
          rw [e8 k k2]
          rcases g3 with g3 | g3 | g3 | g3
          · exact Or.inl g3
          · exact Or.inr (Or.inl g3)
          · exact Or.inr (Or.inr (Or.inl g3))
          · exact absurd g3.1 r1
        · exact absurd g3.1 r1
    · have e9' : A' 9 k = A 9 k := by rw [e9 k k2, if_neg ek]
      rcases g3 with g3 | ⟨g3, g4, g5, i, g6, g7, g8⟩
      · exact Or.inl (rt_step_ext k2 (Nat.le_refl _) (e8 k k2) e9' (fun _ _ => rfl) g3)
      · have hi : i < P := by
          by_cases ei : i = P
          · subst ei; exact absurd (by omega) ek
          · omega
        exact Or.inr ⟨by rw [e8 k k2]; exact g3, g4, g5, i, hi, by rw [e10 i hi]; exact g7, by rw [e11 i hi]; exact g8⟩
  · rw [e10 i i1] at i2
    obtain ⟨g1, g2, g3⟩ := h6 i (by omega) i2
    rw [e11 i i1, ec i (by omega)]
    exact ⟨g1, g2, g3⟩
/-- an and or an or begins -/
theorem gn_and {a N P : Nat} {A A' : Nat → Nat → Int} (h : gn a N P 1 A) (e8 : ∀ k, k < N → A' 8 k = A 8 k) (e9 : ∀ k, k < N → A' 9 k = A 9 k) (h8 : gp_ao (A' 8 N)) (e10 : ∀ i, i < P → A' 10 i = A 10 i) (e11 : ∀ i, i < P → A' 11 i = A 11 i) (h10 : gp_ao (A' 10 P)) (h11 : A' 11 P = (N : Int)) : gn a (N + 1) (P + 1) 0 A' := by
  obtain ⟨h1, d, h2, h3, h4, h5, h6⟩ := h
  have ec : ∀ i, i ≤ P → gp_c 26 (A' 10) i = gp_c 26 (A 10) i := fun i hi => gp_c_congr (fun j hj => e10 j (by omega))
  have e0 : gp_c 26 (A' 10) (P + 1) = gp_c 26 (A 10) P := (gp_c_0 (by unfold gp_ao at h10; omega)).trans (ec P (Nat.le_refl _))
  have ed : ∀ j, j ≤ N → (fun j => if j = N + 1 then (gp_c 26 (A 10) P : Int) else d j) j = d j := fun j hj => if_neg (by omega)
  refine ⟨by omega, fun j => if j = N + 1 then (gp_c 26 (A 10) P : Int) else d j, ?_, ?_, ?_, fun k k1 k2 => ?_, fun i i1 i2 => ?_⟩
  · show (if a = N + 1 then _ else d a) = 0
    rw [if_neg (by omega)]; exact h2
  · show (if N + 1 = N + 1 then _ else _) = _
    rw [if_pos rfl, e0]
    omega
  · show (if N + 1 = N + 1 then _ else _) ≤ _
    rw [if_pos rfl]
    omega
  · by_cases ek : k = N
    · subst ek
      have e1 := ed k (by omega)
      have e2 : (fun j => if j = k + 1 then (gp_c 26 (A 10) P : Int) else d j) (k + 1) = (gp_c 26 (A 10) P : Int) := if_pos rfl
      refine ⟨by rw [e1]; omega, by rw [e1]; omega, Or.inr ⟨h8, by rw [e1]; omega, by rw [e1, e2]; omega, P, by omega, h10, h11⟩⟩
    · obtain ⟨g1, g2, g3⟩ := h5 k k1 (by omega)
      refine ⟨by rw [ed k (by omega)]; exact g1, by rw [ed k (by omega)]; exact g2, ?_⟩
      rcases g3 with g3 | ⟨g3, g4, g5, i, g6, g7, g8⟩
      · exact Or.inl (rt_step_ext (by omega) (by omega) (e8 k (by omega)) (e9 k (by omega)) ed g3)
      · exact Or.inr ⟨by rw [e8 k (by omega)]; exact g3, by rw [ed k (by omega)]; exact g4, by rw [ed k (by omega), ed (k + 1) (by omega)]; exact g5, i, by omega, by rw [e10 i g6]; exact g7, by rw [e11 i g6]; exact g8⟩
  · by_cases ei : i = P
    · subst ei
      rw [h11]
      refine ⟨by omega, by omega, ?_⟩
      rw [show ((N : Int)).toNat = N from rfl]
      show (if N = N + 1 then _ else d N) = _
      rw [if_neg (by omega), h3, ec i (Nat.le_refl _)]
    · have hi : i < P := by omega
      rw [e10 i hi] at i2
      obtain ⟨g1, g2, g3⟩ := h6 i hi i2
      rw [e11 i hi, ec i (by omega)]
      refine ⟨g1, by omega, ?_⟩
      show (if (A 11 i).toNat = N + 1 then _ else d (A 11 i).toNat) = _
      rw [if_neg (by omega)]
      exact g3
/-- nothing open is left: the code is well formed -/
theorem gn_seg {a N : Nat} {A : Nat → Nat → Int} (h : gn a N 0 1 A) (hN : N ≤ 400) : rt_seg (A 8) (A 9) a N := by
  obtain ⟨h1, d, h2, -, -, h5, -⟩ := h
  refine ⟨by omega, by omega, by omega, d, h2, fun k k1 k2 => ?_⟩
  obtain ⟨g1, g2, g3⟩ := h5 k (by omega) (by omega)
  refine ⟨g1, g2, ?_⟩
  rcases g3 with g3 | ⟨-, -, -, i, g6, -⟩
  · exact g3
  · omega
theorem rt_seg_nil {op ar : Nat → Int} {a : Int} (h0 : 0 ≤ a) (h1 : a ≤ 400) : rt_seg op ar a a := ⟨h0, Int.le_refl _, h1, fun _ => 0, rfl, fun k k1 k2 => by omega⟩
theorem rt_seg_ext {op ar op' ar' : Nat → Int} {a b : Int} (h : rt_seg op ar a b) (e8 : ∀ k : Nat, (k : Int) < b → op' k = op k) (e9 : ∀ k : Nat, (k : Int) < b → ar' k = ar k) : rt_seg op' ar' a b := by
  obtain ⟨h1, h2, h3, d, h4, h5⟩ := h
  refine ⟨h1, h2, h3, d, h4, fun k k1 k2 => ?_⟩
  obtain ⟨g1, g2, g3⟩ := h5 k k1 k2
  refine ⟨g1, g2, ?_⟩
  unfold rt_step at g3 ⊢
  rw [e8 k k2, e9 k k2]
  exact g3
