/-! ===== the reference: order ===== -/
def E_12 : hs_E := hs_ad E_11 123 t_readClause
theorem e_12 : ∀ K, hs_C hs_sh K (E_12 K) := hs_ad_ok e_11 c_readClause
/-- what the row holds always -/
def ro (R : Nat → Int) : Prop := ((0 ≤ R 0 ∧ R 0 ≤ 16) ∧ (0 ≤ R 1 ∧ R 1 ≤ 200) ∧ (0 ≤ R 2 ∧ R 2 ≤ 20) ∧ (0 ≤ R 3 ∧ R 3 ≤ 20) ∧ (0 ≤ R 4 ∧ R 4 ≤ 40) ∧ (0 ≤ R 5 ∧ R 5 ≤ 200) ∧ (0 ≤ R 6 ∧ R 6 ≤ 200) ∧ (0 ≤ R 7 ∧ R 7 ≤ 120) ∧ (0 ≤ R 8 ∧ R 8 ≤ 40) ∧ (1 ≤ R 9 ∧ R 9 ≤ 50)) ∧ (∀ n, n < 200 → (0 ≤ R (68 + 11 * n) ∧ R (68 + 11 * n) ≤ 15) ∧ (-1 ≤ R (76 + 11 * n) ∧ R (76 + 11 * n) ≤ 15)) ∧ (∀ n, n < 20 → 0 ≤ R (2348 + n) ∧ R (2348 + n) ≤ 15) ∧ (∀ n, n < 40 → 0 ≤ R (2448 + 2 * n) ∧ R (2448 + 2 * n) ≤ 19) ∧ (∀ n, n < 200 → (0 ≤ R (4008 + 5 * n) ∧ R (4008 + 5 * n) ≤ 39) ∧ (0 ≤ R (4009 + 5 * n) ∧ R (4009 + 5 * n) ≤ 7) ∧ (0 ≤ R (4010 + 5 * n) ∧ R (4010 + 5 * n) ≤ 9)) ∧ (∀ t, t < 20 → 0 ≤ R (5057 + 898 * t) ∧ R (5057 + 898 * t) ≤ 12) ∧ rt_all (fun k => R (5056 + k))
/-- a text as it is being copied -/
def tx (R : Nat → Int) (T : Nat) (f n : Int) (cl op ar : Nat → Int) (i k : Nat) : Nat → Int := fun j => if j = 5056 + 898 * T then f else if j = 5056 + 898 * T + 1 then n else if 5056 + 898 * T + 2 ≤ j ∧ j < 5056 + 898 * T + 2 + i then cl (j - (5056 + 898 * T + 2)) else if 5056 + 898 * T + 98 ≤ j ∧ j < 5056 + 898 * T + 98 + 2 * k then (if (j - (5056 + 898 * T + 98)) % 2 = 0 then op ((j - (5056 + 898 * T + 98)) / 2) else ar ((j - (5056 + 898 * T + 98)) / 2)) else R j
theorem tx_0 {R : Nat → Int} {T : Nat} {f n : Int} {cl op ar : Nat → Int} {A : Nat → Nat → Int} (h : A 1 = R) : hs_ua (hs_ua A 1 (5056 + 898 * T) f) 1 (5056 + 898 * T + 1) n 1 = tx R T f n cl op ar 0 0 := by
  funext j
  unfold tx
  rw [hs_ua_k, hs_ua_k, h]
  by_cases e0 : j = 5056 + 898 * T + 1
  · rw [if_pos e0, if_neg (by omega), if_pos e0]
  · rw [if_neg e0]
    by_cases e1 : j = 5056 + 898 * T
    · rw [if_pos e1, if_pos e1]
    · rw [if_neg e1, if_neg e1, if_neg e0, if_neg (by omega), if_neg (by omega)]
theorem tx_c {R : Nat → Int} {T i : Nat} {f n : Int} {cl op ar : Nat → Int} {A : Nat → Nat → Int} (h : A 1 = tx R T f n cl op ar i 0) : hs_ua A 1 (5056 + 898 * T + 2 + i) (cl i) 1 = tx R T f n cl op ar (i + 1) 0 := by
  funext j
  rw [hs_ua_k, h]
  unfold tx
  by_cases e : j = 5056 + 898 * T + 2 + i
  · rw [if_pos e, if_neg (by omega), if_neg (by omega), if_pos (by omega), show j - (5056 + 898 * T + 2) = i by omega]
  · rw [if_neg e]
    by_cases e0 : j = 5056 + 898 * T
    · rw [if_pos e0, if_pos e0]
    · rw [if_neg e0, if_neg e0]
      by_cases e1 : j = 5056 + 898 * T + 1
      · rw [if_pos e1, if_pos e1]
      · rw [if_neg e1, if_neg e1]
        by_cases e2 : 5056 + 898 * T + 2 ≤ j ∧ j < 5056 + 898 * T + 2 + i
        · rw [if_pos e2, if_pos (by omega)]
        · rw [if_neg e2, if_neg (by omega), if_neg (by omega)]
theorem tx_o {R : Nat → Int} {T i k : Nat} {f n : Int} {cl op ar : Nat → Int} {A : Nat → Nat → Int} (hi : i ≤ 96) (h : A 1 = tx R T f n cl op ar i k) : hs_ua (hs_ua A 1 (5056 + 898 * T + 98 + 2 * k) (op k)) 1 (5056 + 898 * T + 98 + 2 * k + 1) (ar k) 1 = tx R T f n cl op ar i (k + 1) := by
  funext j
  rw [hs_ua_k, hs_ua_k, h]
  unfold tx
  by_cases e : j = 5056 + 898 * T + 98 + 2 * k + 1
  · rw [if_pos e, if_neg (by omega), if_neg (by omega), if_neg (by omega), if_pos (by omega), if_neg (by omega), show (j - (5056 + 898 * T + 98)) / 2 = k by omega]
  · rw [if_neg e]
    by_cases e' : j = 5056 + 898 * T + 98 + 2 * k
    · rw [if_pos e', if_neg (by omega), if_neg (by omega), if_neg (by omega), if_pos (by omega), if_pos (by omega), show (j - (5056 + 898 * T + 98)) / 2 = k by omega]
    · rw [if_neg e']
      by_cases e0 : j = 5056 + 898 * T
      · rw [if_pos e0, if_pos e0]
      · rw [if_neg e0, if_neg e0]
        by_cases e1 : j = 5056 + 898 * T + 1
        · rw [if_pos e1, if_pos e1]
        · rw [if_neg e1, if_neg e1]
          by_cases e2 : 5056 + 898 * T + 2 ≤ j ∧ j < 5056 + 898 * T + 2 + i
          · rw [if_pos e2, if_pos e2]
          · rw [if_neg e2, if_neg e2]
            by_cases e3 : 5056 + 898 * T + 98 ≤ j ∧ j < 5056 + 898 * T + 98 + 2 * k
            · rw [if_pos e3, if_pos (show 5056 + 898 * T + 98 ≤ j ∧ j < 5056 + 898 * T + 98 + 2 * (k + 1) by omega)]
            · rw [if_neg e3, if_neg (by omega)]
/-- the row with a text more -/
theorem ro_tx {R R' : Nat → Int} {T i k : Nat} {f n : Int} {A : Nat → Nat → Int} (h : ro R) (hT : T < 20) (h2 : R 2 = T) (hn : 0 ≤ n ∧ n ≤ 12) (hi : (i : Int) = 8 * n) (hk : k ≤ 400) (hc : ∀ c : Nat, (c : Int) < n → cl_ok A k c) (hR : ∀ j, R' j = if j = 2 then (T : Int) + 1 else tx R T f n (A 7) (A 8) (A 9) i k j) : ro R' := by
  obtain ⟨h0, h3, h4, h5, h6, h7, h8⟩ := h
  have low : ∀ j, j < 5056 → ¬ j = 2 → R' j = R j := fun j h1 h2 => by
    rw [hR, if_neg h2]
    unfold tx
    rw [if_neg (by omega), if_neg (by omega), if_neg (by omega), if_neg (by omega)]
  have oth : ∀ j, 5056 ≤ j → j < 5056 + 898 * T ∨ 5056 + 898 * T + 898 ≤ j → R' j = R j := fun j h1 h2 => by
    rw [hR, if_neg (by omega)]
    unfold tx
    rw [if_neg (by omega), if_neg (by omega), if_neg (by omega), if_neg (by omega)]
  have own1 : R' (5056 + 898 * T + 1) = n := by
    rw [hR, if_neg (by omega)]
    unfold tx
    rw [if_neg (by omega), if_pos rfl]
  have ownc : ∀ m, m < i → R' (5056 + 898 * T + 2 + m) = A 7 m := fun m hm => by
    rw [hR, if_neg (by omega)]
    unfold tx
    rw [if_neg (by omega), if_neg (by omega), if_pos (by omega), show 5056 + 898 * T + 2 + m - (5056 + 898 * T + 2) = m by omega]
  have owno : ∀ m, m < k → R' (5056 + 898 * T + 98 + 2 * m) = A 8 m := fun m hm => by
    rw [hR, if_neg (by omega)]
    unfold tx
    rw [if_neg (by omega), if_neg (by omega), if_neg (by omega), if_pos (by omega), if_pos (by omega), show (5056 + 898 * T + 98 + 2 * m - (5056 + 898 * T + 98)) / 2 = m by omega]
  have owna : ∀ m, m < k → R' (5056 + 898 * T + 98 + 2 * m + 1) = A 9 m := fun m hm => by
    rw [hR, if_neg (by omega)]
    unfold tx
    rw [if_neg (by omega), if_neg (by omega), if_neg (by omega), if_pos (by omega), if_neg (by omega), show (5056 + 898 * T + 98 + 2 * m + 1 - (5056 + 898 * T + 98)) / 2 = m by omega]
  refine ⟨?_, fun n hn => ?_, fun n hn => ?_, fun n hn => ?_, fun n hn => ?_, fun t ht => ?_, fun t c ht hc12 hcc => ?_⟩
  · rw [low 0 (by decide) (by decide), low 1 (by decide) (by decide), low 3 (by decide) (by decide), low 4 (by decide) (by decide), low 5 (by decide) (by decide), low 6 (by decide) (by decide), low 7 (by decide) (by decide), low 8 (by decide) (by decide), low 9 (by decide) (by decide), hR 2, if_pos rfl]
    omega
  · rw [low _ (by omega) (by omega), low _ (by omega) (by omega)]; exact h3 n hn
  · rw [low _ (by omega) (by omega)]; exact h4 n hn
  · rw [low _ (by omega) (by omega)]; exact h5 n hn
  · rw [low _ (by omega) (by omega), low _ (by omega) (by omega), low _ (by omega) (by omega)]; exact h6 n hn
  · by_cases e : t = T
    · subst e
      rw [show 5057 + 898 * t = 5056 + 898 * t + 1 by omega, own1]
      exact hn
    · rw [oth _ (by omega) (by omega)]; exact h7 t ht
  · by_cases e : t = T
    · subst e
      have hcc' : (c : Int) < R' (5056 + (898 * t + 1)) := hcc
      rw [show 5056 + (898 * t + 1) = 5056 + 898 * t + 1 by omega, own1] at hcc'
      obtain ⟨q1, q2, q3, q4, q5, q6⟩ := hc c hcc'
      have oc : ∀ m, m < 8 → R' (5056 + (898 * t + 2 + 8 * c + m)) = A 7 (8 * c + m) := fun m hm => by
        rw [show 5056 + (898 * t + 2 + 8 * c + m) = 5056 + 898 * t + 2 + (8 * c + m) by omega]
        exact ownc _ (by omega)
      unfold rt_cl
      dsimp only
      rw [oc 1 (by decide), oc 2 (by decide), oc 3 (by decide), oc 4 (by decide), oc 5 (by decide), oc 6 (by decide)]
      have e8 : ∀ m : Nat, (m : Int) < k → rt_op (fun k => R' (5056 + k)) t m = A 8 m := fun m hm => by
        unfold rt_op
        dsimp only
        rw [show 5056 + (898 * t + 98 + 2 * m) = 5056 + 898 * t + 98 + 2 * m by omega]
        exact owno m (by omega)
      have e9 : ∀ m : Nat, (m : Int) < k → rt_ar (fun k => R' (5056 + k)) t m = A 9 m := fun m hm => by
        unfold rt_ar
        dsimp only
        rw [show 5056 + (898 * t + 98 + 2 * m + 1) = 5056 + 898 * t + 98 + 2 * m + 1 by omega]
        exact owna m (by omega)
      exact ⟨q1.1, q1.2, q2.1, q2.2, rt_seg_ext q5 (fun m hm => e8 m (by omega)) (fun m hm => e9 m (by omega)), rt_seg_ext q6 (fun m hm => e8 m (by omega)) (fun m hm => e9 m (by omega))⟩
    · have hcc' : (c : Int) < R' (5056 + (898 * t + 1)) := hcc
      have ot : ∀ m, m < 898 → R' (5056 + (898 * t + m)) = R (5056 + (898 * t + m)) := fun m hm => oth _ (by omega) (by omega)
      rw [ot 1 (by omega)] at hcc'
      obtain ⟨q1, q2, q3, q4, q5, q6⟩ := h8 t c ht hc12 hcc'
      have oc : ∀ m, m < 8 → R' (5056 + (898 * t + 2 + 8 * c + m)) = R (5056 + (898 * t + 2 + 8 * c + m)) := fun m hm => oth _ (by omega) (by omega)
      dsimp only at q1 q2 q3 q4 q5 q6
      unfold rt_cl
      dsimp only
      rw [oc 1 (by decide), oc 2 (by decide), oc 3 (by decide), oc 4 (by decide), oc 5 (by decide), oc 6 (by decide)]
      refine ⟨q1, q2, q3, q4, ?_, ?_⟩
      · exact rt_seg_ext q5 (fun m hm => oth _ (by omega) (by have := q5.2.2.1; omega)) (fun m hm => oth _ (by omega) (by have := q5.2.2.1; omega))
      · exact rt_seg_ext q6 (fun m hm => oth _ (by omega) (by have := q6.2.2.1; omega)) (fun m hm => oth _ (by omega) (by have := q6.2.2.1; omega))
