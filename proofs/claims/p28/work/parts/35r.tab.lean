/-! ===== tables: what both sides hold, and what the writers do with them ===== -/
def tx_put (R : Nat → Int) (p : Nat) (vs : List Int) : Nat → Int := fun j => if p ≤ j then (match vs[j - p]? with
  | some v => v
  | none => R j) else R j
theorem tx_in {R : Nat → Int} {p : Nat} {vs : List Int} {i : Nat} {v : Int} (h : vs[i]? = some v) : tx_put R p vs (p + i) = v := by
  unfold tx_put
  rw [if_pos (Nat.le_add_right p i), show p + i - p = i by omega, h]
theorem tx_out {R : Nat → Int} {p : Nat} {vs : List Int} {j : Nat} (h : j < p ∨ p + vs.length ≤ j) : tx_put R p vs j = R j := by
  unfold tx_put
  rcases h with h | h
  · rw [if_neg (by omega)]
  · rw [if_pos (by omega), List.getElem?_eq_none (by omega)]
theorem tx_put1 {R : Nat → Int} {p : Nat} {v : Int} : tx_put R p [v] = fun j => bif j == p then v else R j := by
  funext j
  by_cases e : j = p
  · subst e
    rw [beq_self_eq_true, cond_true]
    exact tx_in (p := j) (i := 0) rfl
  · rw [beq_false_of_ne e, cond_false]
    refine tx_out ?_
    show j < p ∨ p + 1 ≤ j
    omega
/-- a row's places of boxes, of handings, of counts -/
def tx_3 (Q : Nat → Int) (nb nh nc : Int) (R : Nat → Int) : Prop := (∀ k : Nat, (k : Int) < 2 * nb → Q (2448 + k) = R (2448 + k)) ∧ (∀ k : Nat, (k : Int) < 5 * nh → Q (2528 + k) = R (2528 + k)) ∧ ∀ k : Nat, (k : Int) < 5 * nc → Q (4008 + k) = R (4008 + k)
/-- the class's tables as a row's -/
def cQ (M : Nat → Nat → Int) : Nat → Int := fun j => if j < 2528 then M 17 (j - 2448) else if j < 4008 then M 19 (j - 2528) else M 23 (j - 4008)
def tx_b (Q R : Nat → Int) : Prop := ∀ s y : Nat, s < 6 → y < 8 → (Q (5008 + 8 * s + y) = 1 ↔ R (5008 + 8 * s + y) = 1)
def tx_cl (M : Nat → Nat → Int) (nb nh nc : Int) (R : Nat → Int) : Prop := tx_3 (cQ M) nb nh nc R ∧ tb_k (M 24) R
def tx_q (Q : Nat → Int) (nb nh nc : Int) (R : Nat → Int) : Prop := tx_3 Q nb nh nc R ∧ tx_b Q R
theorem cQ_b {M : Nat → Nat → Int} {k : Nat} (h : k < 80) : cQ M (2448 + k) = M 17 k := by
  unfold cQ
  rw [if_pos (by omega), show 2448 + k - 2448 = k by omega]
theorem cQ_h {M : Nat → Nat → Int} {k : Nat} (h : k < 1480) : cQ M (2528 + k) = M 19 k := by
  unfold cQ
  rw [if_neg (by omega), if_pos (by omega), show 2528 + k - 2528 = k by omega]
theorem cQ_c {M : Nat → Nat → Int} {k : Nat} : cQ M (4008 + k) = M 23 k := by
  unfold cQ
  rw [if_neg (by omega), if_neg (by omega), show 4008 + k - 4008 = k by omega]
/-- only there it is another -/
def tw (Q Q' : Nat → Int) (p : Nat) (vs : List Int) : Prop := (∀ j : Nat, 2448 ≤ j → (j < p ∨ p + vs.length ≤ j) → Q' j = Q j) ∧ ∀ i v, vs[i]? = some v → Q' (p + i) = v
theorem tx_3b {Q Q' R : Nat → Int} {nb nh nc : Int} {vs : List Int} (h : tx_3 Q nb nh nc R) (hw : tw Q Q' (2448 + 2 * nb.toNat) vs) (hl : vs.length = 2) (h0 : 0 ≤ nb ∧ nb < 40) : tx_3 Q' (nb + 1) nh nc (tx_put R (2448 + 2 * nb.toNat) vs) := by
  refine ⟨fun k hk => ?_, fun k hk => ?_, fun k hk => ?_⟩
  · by_cases e : (k : Int) < 2 * nb
    · rw [hw.1 _ (by omega) (by omega), tx_out (by omega)]
      exact h.1 k e
    · have hi : k - 2 * nb.toNat < vs.length := by omega
      have g := List.getElem?_eq_getElem hi
      have e1 := hw.2 _ _ g
      have e2 := tx_in (R := R) (p := 2448 + 2 * nb.toNat) g
      rw [show 2448 + k = 2448 + 2 * nb.toNat + (k - 2 * nb.toNat) by omega, e1, e2]
  · rw [hw.1 _ (by omega) (by omega), tx_out (by omega)]
    exact h.2.1 k hk
  · rw [hw.1 _ (by omega) (by omega), tx_out (by omega)]
    exact h.2.2 k hk
theorem tx_3h {Q Q' R : Nat → Int} {nb nh nc : Int} {vs : List Int} (h : tx_3 Q nb nh nc R) (hw : tw Q Q' (2528 + 5 * nh.toNat) vs) (hl : vs.length = 5) (h0 : 0 ≤ nh ∧ nh < 200) (hb : nb ≤ 40) : tx_3 Q' nb (nh + 1) nc (tx_put R (2528 + 5 * nh.toNat) vs) := by
  refine ⟨fun k hk => ?_, fun k hk => ?_, fun k hk => ?_⟩
  · rw [hw.1 _ (by omega) (by omega), tx_out (by omega)]
    exact h.1 k hk
  · by_cases e : (k : Int) < 5 * nh
    · rw [hw.1 _ (by omega) (by omega), tx_out (by omega)]
      exact h.2.1 k e
    · have hi : k - 5 * nh.toNat < vs.length := by omega
      have g := List.getElem?_eq_getElem hi
      have e1 := hw.2 _ _ g
      have e2 := tx_in (R := R) (p := 2528 + 5 * nh.toNat) g
      rw [show 2528 + k = 2528 + 5 * nh.toNat + (k - 5 * nh.toNat) by omega, e1, e2]
  · rw [hw.1 _ (by omega) (by omega), tx_out (by omega)]
    exact h.2.2 k hk
theorem tx_3c {Q Q' R : Nat → Int} {nb nh nc : Int} {vs : List Int} (h : tx_3 Q nb nh nc R) (hw : tw Q Q' (4008 + 5 * nc.toNat) vs) (hl : vs.length = 5) (h0 : 0 ≤ nc ∧ nc < 200) (hb : nb ≤ 40) (hh : nh ≤ 200) : tx_3 Q' nb nh (nc + 1) (tx_put R (4008 + 5 * nc.toNat) vs) := by
  refine ⟨fun k hk => ?_, fun k hk => ?_, fun k hk => ?_⟩
  · rw [hw.1 _ (by omega) (by omega), tx_out (by omega)]
    exact h.1 k hk
  · rw [hw.1 _ (by omega) (by omega), tx_out (by omega)]
    exact h.2.1 k hk
  · by_cases e : (k : Int) < 5 * nc
    · rw [hw.1 _ (by omega) (by omega), tx_out (by omega)]
      exact h.2.2 k e
    · have hi : k - 5 * nc.toNat < vs.length := by omega
      have g := List.getElem?_eq_getElem hi
      have e1 := hw.2 _ _ g
      have e2 := tx_in (R := R) (p := 4008 + 5 * nc.toNat) g
      rw [show 4008 + k = 4008 + 5 * nc.toNat + (k - 5 * nc.toNat) by omega, e1, e2]
/-- one place of a count, or beyond the counts -/
theorem tx_3p {Q Q' R : Nat → Int} {nb nh nc : Int} {p : Nat} {v : Int} (h : tx_3 Q nb nh nc R) (hw : tw Q Q' p [v]) (hp : 4008 ≤ p) (hb : nb ≤ 40) (hh : nh ≤ 200) : tx_3 Q' nb nh nc (tx_put R p [v]) := by
  have hl : [v].length = 1 := rfl
  refine ⟨fun k hk => ?_, fun k hk => ?_, fun k hk => ?_⟩
  · rw [hw.1 _ (by omega) (by omega), tx_out (by omega)]
    exact h.1 k hk
  · rw [hw.1 _ (by omega) (by omega), tx_out (by omega)]
    exact h.2.1 k hk
  · by_cases e : 4008 + k = p
    · have e1 := hw.2 0 v rfl
      have e2 := tx_in (R := R) (p := p) (vs := [v]) (i := 0) rfl
      rw [Nat.add_zero] at e1 e2
      rw [e, e1, e2]
    · rw [hw.1 _ (by omega) (by omega), tx_out (by omega)]
      exact h.2.2 k hk
/-- beyond the counts -/
theorem tx_3o {Q R : Nat → Int} {nb nh nc : Int} {p : Nat} {vs : List Int} (hp : 5008 ≤ p) (hb : nb ≤ 40) (hh : nh ≤ 200) (hc : nc ≤ 200) (h : tx_3 Q nb nh nc R) : tx_3 Q nb nh nc (tx_put R p vs) := by
  refine ⟨fun k hk => ?_, fun k hk => ?_, fun k hk => ?_⟩
  · rw [tx_out (by omega)]
    exact h.1 k hk
  · rw [tx_out (by omega)]
    exact h.2.1 k hk
  · rw [tx_out (by omega)]
    exact h.2.2 k hk
theorem tx_bk {E R : Nat → Int} {p : Nat} {vs : List Int} (hp : p + vs.length ≤ 5008) (h : tb_k E R) : tb_k E (tx_put R p vs) := by
  intro s hs
  refine ⟨(h s hs).1, fun y hy => ?_⟩
  rw [tx_out (by omega)]
  exact (h s hs).2 y hy
theorem tx_bb {Q Q' R : Nat → Int} {p : Nat} {vs : List Int} (hp : p + vs.length ≤ 5008) (hw : tw Q Q' p vs) (h : tx_b Q R) : tx_b Q' (tx_put R p vs) := by
  intro s y hs hy
  rw [tx_out (by omega), hw.1 _ (by omega) (by omega)]
  exact h s y hs hy
theorem tx_b1 {Q Q' R : Nat → Int} {p : Nat} (hw : tw Q Q' p [1]) (h : tx_b Q R) : tx_b Q' (tx_put R p [1]) := by
  have hl : [(1 : Int)].length = 1 := rfl
  intro s y hs hy
  by_cases e : 5008 + 8 * s + y = p
  · have e1 := hw.2 0 1 rfl
    have e2 := tx_in (R := R) (p := p) (vs := [1]) (i := 0) rfl
    rw [Nat.add_zero] at e1 e2
    rw [e, e1, e2]
  · rw [tx_out (by omega), hw.1 _ (by omega) (by omega)]
    exact h s y hs hy
/-! the writers, on counts and tables -/
abbrev ab_T : Type := Int × Option (Nat × Nat × List Int)
def ab_n (n : Nat → Int) (q : Option (Nat × Nat × List Int)) : Nat → Int := match q with
  | some (c, _, _) => fun t => if t = c then n t + 1 else n t
  | none => n
def ab_R (R : Nat → Int) (q : Option (Nat × Nat × List Int)) : Nat → Int := match q with
  | some (_, p, vs) => tx_put R p vs
  | none => R
def ab_x (a m : Int) : Int := (Int32.ofInt a ^^^ Int32.ofInt m).toInt
def ab_box (n : Nat → Int) (b s : Int) : ab_T := if ¬ (0 ≤ s ∧ s < 100000) then (-1, none) else if ¬ (0 ≤ b ∧ b < n 1) then (-2, none) else if 40 ≤ n 2 then (-5, none) else (n 2, some (2, 2448 + 2 * (n 2).toNat, [b, s]))
def ab_hand (n : Nat → Int) (b h d s k : Int) : ab_T := if ¬ ((0 ≤ h ∧ h < 20) ∧ (0 ≤ d ∧ d < 400) ∧ (0 ≤ s ∧ s < 100000) ∧ (0 ≤ k ∧ k < 400)) then (-1, none) else if ¬ (0 ≤ b ∧ b < n 2) then (-2, none) else if 200 ≤ n 3 then (-5, none) else (n 3 + 1, some (3, 2528 + 5 * (n 3).toNat, [b, h, d, s, k]))
def ab_count (n : Nat → Int) (b y m c k : Int) : ab_T := if ¬ ((0 ≤ y ∧ y < 8) ∧ (0 ≤ m ∧ m < 10) ∧ (0 ≤ c ∧ c < 10001) ∧ (0 ≤ k ∧ k < 400)) then (-1, none) else if ¬ (0 ≤ b ∧ b < n 2) then (-2, none) else if 200 ≤ n 4 then (-5, none) else (n 4, some (4, 4008 + 5 * (n 4).toNat, [b, y, m, c, k]))
def ab_keep (R : Nat → Int) (s y : Int) : ab_T := if ¬ ((0 ≤ s ∧ s < 6) ∧ 0 ≤ y ∧ y < 8) then (-1, none) else if R (5008 + 8 * s.toNat + y.toNat) = 1 then (-4, none) else (0, some (99, 5008 + 8 * s.toNat + y.toNat, [1]))
def ab_alter (n : Nat → Int) (R : Nat → Int) (i m : Int) : ab_T := if ¬ (1 ≤ m ∧ m ≤ 255) then (-1, none) else if ¬ (0 ≤ i ∧ i < n 4) then (-2, none) else (ab_x (R (4008 + 5 * i.toNat + 3)) m, some (99, 4008 + 5 * i.toNat + 3, [ab_x (R (4008 + 5 * i.toNat + 3)) m]))
def ab (K : Nat) (n : Nat → Int) (R : Nat → Int) (xs : List Int) : ab_T := match xs with
  | [a, b] => bif K == 309 then ab_box n a b else bif K == 332 then ab_keep R a b else ab_alter n R a b
  | [a, b, c, d, e] => bif K == 322 then ab_hand n a b c d e else ab_count n a b c d e
  | _ => (0, none)
/-- the counts are in bounds -/
def tn (n : Nat → Int) : Prop := (0 ≤ n 1 ∧ n 1 ≤ 20) ∧ (0 ≤ n 2 ∧ n 2 ≤ 40) ∧ (0 ≤ n 3 ∧ n 3 ≤ 200) ∧ (0 ≤ n 4 ∧ n 4 ≤ 200)
/-- rows are as they may be -/
def tvx (n : Nat → Int) (R : Nat → Int) : Prop := (∀ i : Nat, (i : Int) < n 3 → 0 ≤ R (2528 + 5 * i)) ∧ ∀ i : Nat, (i : Int) < n 4 → (0 ≤ R (4008 + 5 * i) ∧ R (4008 + 5 * i) < n 2) ∧ 0 ≤ R (4008 + 5 * i + 3) ∧ R (4008 + 5 * i + 3) ≤ 16383
def tS (S : hs_S) (n : Nat → Int) (R : Nat → Int) : Prop := (S.1 899 = n 1 ∧ S.1 1027 = n 2 ∧ S.1 1155 = n 3 ∧ S.1 1411 = n 4) ∧ tx_cl S.2 (n 2) (n 3) (n 4) R
def tR (Q : Nat → Int) (n : Nat → Int) (R : Nat → Int) : Prop := (Q 3 = n 1 ∧ Q 4 = n 2 ∧ Q 5 = n 3 ∧ Q 6 = n 4) ∧ tx_q Q (n 2) (n 3) (n 4) R
def uTs (S : hs_S) : Prop := u_Tb S 14 4 20 ∧ u_Tb S 16 2 40 ∧ u_Tb S 18 5 200 ∧ u_Tb S 22 5 200
/-- what the class may change -/
def cf (S S1 : hs_S) : Prop := (∀ x, ¬ x = 8 → ¬ x = 1988 → ¬ x = 1027 → ¬ x = 1155 → ¬ x = 1411 → S1.1 x = S.1 x) ∧ (S1.1 1988 = 0 ∨ S1.1 1988 = S.1 1988) ∧ ∀ k, ¬ k = 15 → ¬ k = 17 → ¬ k = 19 → ¬ k = 23 → ¬ k = 24 → S1.2 k = S.2 k
/-- what the reference may change -/
def rf (S S1 : hs_S) : Prop := (∀ j, ¬ j = 0 → ¬ j = 1 → ¬ j = 59 → ¬ j = 60 → ¬ j = 61 → S1.1 j = S.1 j) ∧ (∀ k, ¬ k = 1 → S1.2 k = S.2 k) ∧ ro (S1.2 1) ∧ ∀ j, j < 10 → ¬ j = 4 → ¬ j = 5 → ¬ j = 6 → S1.2 1 j = S.2 1 j
def cw (S : hs_S) (n : Nat → Int) (R : Nat → Int) (q : ab_T) : hs_Q := fun ro S1 => ro = [(0, q.1)] ∧ cf S S1 ∧ tS S1 (ab_n n q.2) (ab_R R q.2)
def rwq (S : hs_S) (n : Nat → Int) (R : Nat → Int) (q : ab_T) : hs_Q := fun ro S1 => ro = [(0, q.1)] ∧ rf S S1 ∧ tR (S1.2 1) (ab_n n q.2) (ab_R R q.2)
theorem no_ne {S : hs_S} {v : Int} {x : Nat} (h : ¬ x = 8) : (hc_no S v).1 x = S.1 x := by
  show hs_up S.1 8 v x = S.1 x
  exact hs_up_ne h
theorem cw_no {S : hs_S} {n R : Nat → Int} {v : Int} (h : tS S n R) : cw S n R (v, none) [(0, v)] (hc_no S v) := by
  obtain ⟨⟨h1, h2, h3, h4⟩, h5⟩ := h
  refine ⟨rfl, ⟨fun x a _ _ _ _ => no_ne a, Or.inr (no_ne (by decide)), fun _ _ _ _ _ _ => rfl⟩, ⟨?_, ?_, ?_, ?_⟩, h5⟩
  · exact (no_ne (x := 899) (by decide)).trans h1
  · exact (no_ne (x := 1027) (by decide)).trans h2
  · exact (no_ne (x := 1155) (by decide)).trans h3
  · exact (no_ne (x := 1411) (by decide)).trans h4
theorem yes_ne {F : Nat → Int} {B : Nat → Nat → Int} {x : Nat} (h1 : ¬ x = 8) (h2 : ¬ x = 1988) : (hc_yes F B).1 x = F x := by
  show hs_up (hs_up F 8 0) 1988 0 x = F x
  rw [hs_up_ne h2, hs_up_ne h1]
theorem yes_0 {F : Nat → Int} {B : Nat → Nat → Int} : (hc_yes F B).1 1988 = 0 := by
  show hs_up (hs_up F 8 0) 1988 0 1988 = 0
  exact hs_up_eq
/-- a row more in the class -/
theorem cw_yes {S : hs_S} {n R : Nat → Int} {B : Nat → Nat → Int} {c x p : Nat} {z : Int} {vs : List Int} (h : tS S n R) (hc : (c = 2 ∧ x = 1027) ∨ (c = 3 ∧ x = 1155) ∨ (c = 4 ∧ x = 1411)) (hB : ∀ k, ¬ k = 17 → ¬ k = 19 → ¬ k = 23 → B k = S.2 k) (hT : tx_cl B (ab_n n (some (c, p, vs)) 2) (ab_n n (some (c, p, vs)) 3) (ab_n n (some (c, p, vs)) 4) (tx_put R p vs)) : cw S n R (z, some (c, p, vs)) [(0, z)] (hc_yes (hs_up S.1 x (S.1 x + 1)) B) := by
  obtain ⟨⟨h1, h2, h3, h4⟩, h5⟩ := h
  have e : ∀ y, ¬ y = 8 → ¬ y = 1988 → (hc_yes (hs_up S.1 x (S.1 x + 1)) B).1 y = if y = x then S.1 x + 1 else S.1 y := fun y a b => by
    rw [yes_ne a b]
    by_cases e : y = x
    · rw [if_pos e, e]
      exact hs_up_eq
    · rw [if_neg e]
      exact hs_up_ne e
  refine ⟨rfl, ⟨fun y a1 a2 a3 a4 a5 => ?_, Or.inl yes_0, fun k _ a1 a2 a3 _ => hB k a1 a2 a3⟩, ⟨?_, ?_, ?_, ?_⟩, hT⟩
  · rw [e y a1 a2, if_neg (by omega)]
  · rw [e 899 (by decide) (by decide), if_neg (by omega)]
    show S.1 899 = (if 1 = c then n 1 + 1 else n 1)
    rw [if_neg (by omega)]
    exact h1
  · rw [e 1027 (by decide) (by decide)]
    show _ = (if 2 = c then n 2 + 1 else n 2)
    rcases hc with ⟨rfl, rfl⟩ | ⟨rfl, rfl⟩ | ⟨rfl, rfl⟩
    · rw [if_pos rfl, if_pos rfl, h2]
    · rw [if_neg (by decide), if_neg (by decide), h2]
    · rw [if_neg (by decide), if_neg (by decide), h2]
  · rw [e 1155 (by decide) (by decide)]
    show _ = (if 3 = c then n 3 + 1 else n 3)
    rcases hc with ⟨rfl, rfl⟩ | ⟨rfl, rfl⟩ | ⟨rfl, rfl⟩
    · rw [if_neg (by decide), if_neg (by decide), h3]
    · rw [if_pos rfl, if_pos rfl, h3]
    · rw [if_neg (by decide), if_neg (by decide), h3]
  · rw [e 1411 (by decide) (by decide)]
    show _ = (if 4 = c then n 4 + 1 else n 4)
    rcases hc with ⟨rfl, rfl⟩ | ⟨rfl, rfl⟩ | ⟨rfl, rfl⟩
    · rw [if_neg (by decide), if_neg (by decide), h4]
    · rw [if_neg (by decide), if_neg (by decide), h4]
    · rw [if_pos rfl, if_pos rfl, h4]
/-- a row told to a table of the class is one told to a row -/
theorem tw_cb {S : hs_S} {B : Nat → Nat → Int} {m : Int} {vs : List Int} (hm : 0 ≤ m ∧ m < 40) (hl : vs.length = 2) (h : u_row S 17 (m * 2) 2 vs B) : tw (cQ S.2) (cQ B) (2448 + 2 * m.toNat) vs := by
  obtain ⟨h1, h2, h3⟩ := h
  refine ⟨fun j hj0 hj => ?_, fun i v hv => ?_⟩
  · unfold cQ
    by_cases a0 : j < 2528
    · rw [if_pos a0, if_pos a0]
      exact h2 _ (by omega)
    by_cases a1 : j < 4008
    · rw [if_neg a0, if_pos a1, if_neg a0, if_pos a1]
      rw [h1 19 (by decide)]
    rw [if_neg a0, if_neg a1, if_neg a0, if_neg a1]
    rw [h1 23 (by decide)]
  · have hi : i < vs.length := (List.getElem?_eq_some_iff.mp hv).1
    rw [show 2448 + 2 * m.toNat + i = 2448 + (2 * m.toNat + i) by omega, cQ_b (by omega), ← h3 i v hv]
    congr 1
    omega
theorem tw_ch {S : hs_S} {B : Nat → Nat → Int} {m : Int} {vs : List Int} (hm : 0 ≤ m ∧ m < 200) (hl : vs.length = 5) (h : u_row S 19 (m * 5) 5 vs B) : tw (cQ S.2) (cQ B) (2528 + 5 * m.toNat) vs := by
  obtain ⟨h1, h2, h3⟩ := h
  refine ⟨fun j hj0 hj => ?_, fun i v hv => ?_⟩
  · unfold cQ
    by_cases a0 : j < 2528
    · rw [if_pos a0, if_pos a0]
      rw [h1 17 (by decide)]
    by_cases a1 : j < 4008
    · rw [if_neg a0, if_pos a1, if_neg a0, if_pos a1]
      exact h2 _ (by omega)
    rw [if_neg a0, if_neg a1, if_neg a0, if_neg a1]
    rw [h1 23 (by decide)]
  · have hi : i < vs.length := (List.getElem?_eq_some_iff.mp hv).1
    rw [show 2528 + 5 * m.toNat + i = 2528 + (5 * m.toNat + i) by omega, cQ_h (by omega), ← h3 i v hv]
    congr 1
    omega
theorem tw_cc {S : hs_S} {B : Nat → Nat → Int} {m : Int} {vs : List Int} (hm : 0 ≤ m ∧ m < 200) (hl : vs.length = 5) (h : u_row S 23 (m * 5) 5 vs B) : tw (cQ S.2) (cQ B) (4008 + 5 * m.toNat) vs := by
  obtain ⟨h1, h2, h3⟩ := h
  refine ⟨fun j hj0 hj => ?_, fun i v hv => ?_⟩
  · unfold cQ
    by_cases a0 : j < 2528
    · rw [if_pos a0, if_pos a0]
      rw [h1 17 (by decide)]
    by_cases a1 : j < 4008
    · rw [if_neg a0, if_pos a1, if_neg a0, if_pos a1]
      rw [h1 19 (by decide)]
    rw [if_neg a0, if_neg a1, if_neg a0, if_neg a1]
    exact h2 _ (by omega)
  · have hi : i < vs.length := (List.getElem?_eq_some_iff.mp hv).1
    rw [show 4008 + 5 * m.toNat + i = 4008 + (5 * m.toNat + i) by omega, cQ_c, ← h3 i v hv]
    congr 1
    omega
/-- a row told to the row -/
theorem tw_r {S : hs_S} {B : Nat → Nat → Int} {c p : Nat} {a u v : Int} {vs : List Int} (hc : c < 11) (hp : 2448 ≤ p) (ha : a = (p : Int)) (hu : u = (vs.length : Int)) (h : u_row S 1 a u vs B) : tw (S.2 1) (hs_ua B 1 c v 1) p vs := by
  subst ha hu
  obtain ⟨h1, h2, h3⟩ := h
  refine ⟨fun j hj0 hj => ?_, fun i w hw => ?_⟩
  · rw [hs_ua_k, if_neg (by omega)]
    exact h2 j (by omega)
  · rw [hs_ua_k, if_neg (by omega)]
    have g := h3 i w hw
    rw [Int.toNat_natCast] at g
    exact g
theorem tw_1 {A : Nat → Nat → Int} {k p : Nat} {v : Int} : tw (A k) (hs_ua A k p v k) p [v] := by
  refine ⟨fun j _ hj => ?_, fun i w hw => ?_⟩
  · have hl : [v].length = 1 := rfl
    rw [hs_ua_k, if_neg (by omega)]
  · cases i with
    | zero =>
      cases hw
      rw [hs_ua_k, if_pos (Nat.add_zero p)]
    | succ i => cases hw
/-- the row is still as it must be -/
theorem ro_of {R Q : Nat → Int} (h : ro R) (h4 : 0 ≤ Q 4 ∧ Q 4 ≤ 40) (h5 : 0 ≤ Q 5 ∧ Q 5 ≤ 200) (h6 : 0 ≤ Q 6 ∧ Q 6 ≤ 200) (h10 : ∀ j, j < 10 → ¬ j = 4 → ¬ j = 5 → ¬ j = 6 → Q j = R j) (hk : ∀ j, 10 ≤ j → (j < 2368 ∨ 5056 ≤ j) → Q j = R j) (hb : ∀ i, i < 40 → 0 ≤ Q (2448 + 2 * i) ∧ Q (2448 + 2 * i) ≤ 19) (hc : ∀ i, i < 200 → (0 ≤ Q (4008 + 5 * i) ∧ Q (4008 + 5 * i) ≤ 39) ∧ (0 ≤ Q (4009 + 5 * i) ∧ Q (4009 + 5 * i) ≤ 7) ∧ (0 ≤ Q (4010 + 5 * i) ∧ Q (4010 + 5 * i) ≤ 9)) : ro Q := by
  obtain ⟨⟨a0, a1, a2, a3, a4, a5, a6, a7, a8, a9⟩, b, c, d, e, f, g⟩ := h
  refine ⟨⟨?_, ?_, ?_, ?_, h4, h5, h6, ?_, ?_, ?_⟩, fun n hn => ⟨?_, ?_⟩, fun n hn => ?_, hb, hc, fun t ht => ?_, rt_all_congr (F := fun j => R (5056 + j)) (fun j _ => hk (5056 + j) (by omega) (by omega)) g⟩
  · rw [h10 0 (by decide) (by decide) (by decide) (by decide)]; exact a0
  · rw [h10 1 (by decide) (by decide) (by decide) (by decide)]; exact a1
  · rw [h10 2 (by decide) (by decide) (by decide) (by decide)]; exact a2
  · rw [h10 3 (by decide) (by decide) (by decide) (by decide)]; exact a3
  · rw [h10 7 (by decide) (by decide) (by decide) (by decide)]; exact a7
  · rw [h10 8 (by decide) (by decide) (by decide) (by decide)]; exact a8
  · rw [h10 9 (by decide) (by decide) (by decide) (by decide)]; exact a9
  · rw [hk (68 + 11 * n) (by omega) (by omega)]; exact (b n hn).1
  · rw [hk (76 + 11 * n) (by omega) (by omega)]; exact (b n hn).2
  · rw [hk (2348 + n) (by omega) (by omega)]; exact c n hn
  · rw [hk (5057 + 898 * t) (by omega) (by omega)]; exact f t ht
/-! the writers of the class -/
theorem uw_box {S : hs_S} {n R : Nat → Int} {b s : Int} (hn : tn n) (hu : uTs S) (h : tS S n R) : u_box [(4, 0), (0, b), (0, s)] S (cw S n R (ab_box n b s)) := by
  obtain ⟨⟨h1, h2, h3, h4⟩, h5, h6⟩ := id h
  obtain ⟨n1, n2, n3, n4⟩ := hn
  refine ⟨rfl, hu.2.1, fun a => ?_, fun a a2 => ?_, fun a a2 a3 => ?_, fun a a2 a3 B hB => ?_⟩
  · rw [show ab_box n b s = (-1, none) from if_pos a]
    exact cw_no h
  · rw [show ab_box n b s = (-2, none) from (if_neg (not_not_intro a)).trans (if_pos (by rw [← h1]; exact a2))]
    exact cw_no h
  · rw [show ab_box n b s = (-5, none) from (if_neg (not_not_intro a)).trans ((if_neg (not_not_intro (by rw [← h1]; exact a2))).trans (if_pos (by rw [← h2]; exact a3)))]
    exact cw_no h
  · rw [show ab_box n b s = (n 2, some (2, 2448 + 2 * (n 2).toNat, [b, s])) from (if_neg (not_not_intro a)).trans ((if_neg (not_not_intro (by rw [← h1]; exact a2))).trans (if_neg (by rw [← h2]; omega)))]
    rw [h2] at hB a3
    have e := cw_yes (z := n 2) (p := 2448 + 2 * (n 2).toNat) (vs := [b, s]) (B := B) h (Or.inl ⟨rfl, rfl⟩) (fun k c1 _ _ => hB.1 k c1) ⟨tx_3b h5 (tw_cb ⟨n2.1, a3⟩ rfl hB) rfl ⟨n2.1, a3⟩, by rw [hB.1 24 (by decide)]; exact tx_bk (by show 2448 + 2 * (n 2).toNat + 2 ≤ 5008; omega) h6⟩
    rw [h2] at e ⊢
    exact e
theorem uw_hand {S : hs_S} {n R : Nat → Int} {b x d s k : Int} (hn : tn n) (hu : uTs S) (h : tS S n R) : u_hand [(4, 0), (0, b), (0, x), (0, d), (0, s), (0, k)] S (cw S n R (ab_hand n b x d s k)) := by
  obtain ⟨⟨h1, h2, h3, h4⟩, h5, h6⟩ := id h
  obtain ⟨n1, n2, n3, n4⟩ := hn
  refine ⟨rfl, hu.2.2.1, fun a => ?_, fun a a2 => ?_, fun a a2 a3 => ?_, fun a a2 a3 B hB => ?_⟩
  · rw [show ab_hand n b x d s k = (-1, none) from if_pos a]
    exact cw_no h
  · rw [show ab_hand n b x d s k = (-2, none) from (if_neg (not_not_intro a)).trans (if_pos (by rw [← h2]; exact a2))]
    exact cw_no h
  · rw [show ab_hand n b x d s k = (-5, none) from (if_neg (not_not_intro a)).trans ((if_neg (not_not_intro (by rw [← h2]; exact a2))).trans (if_pos (by rw [← h3]; exact a3)))]
    exact cw_no h
  · rw [show ab_hand n b x d s k = (n 3 + 1, some (3, 2528 + 5 * (n 3).toNat, [b, x, d, s, k])) from (if_neg (not_not_intro a)).trans ((if_neg (not_not_intro (by rw [← h2]; exact a2))).trans (if_neg (by rw [← h3]; omega)))]
    rw [h3] at hB a3
    have e := cw_yes (z := n 3 + 1) (p := 2528 + 5 * (n 3).toNat) (vs := [b, x, d, s, k]) (B := B) h (Or.inr (Or.inl ⟨rfl, rfl⟩)) (fun k _ c1 _ => hB.1 k c1) ⟨tx_3h h5 (tw_ch ⟨n3.1, a3⟩ rfl hB) rfl ⟨n3.1, a3⟩ n2.2, by rw [hB.1 24 (by decide)]; exact tx_bk (by show 2528 + 5 * (n 3).toNat + 5 ≤ 5008; omega) h6⟩
    rw [h3] at e ⊢
    exact e
theorem uw_count {S : hs_S} {n R : Nat → Int} {b y m c k : Int} (hn : tn n) (hu : uTs S) (h : tS S n R) : u_count [(4, 0), (0, b), (0, y), (0, m), (0, c), (0, k)] S (cw S n R (ab_count n b y m c k)) := by
  obtain ⟨⟨h1, h2, h3, h4⟩, h5, h6⟩ := id h
  obtain ⟨n1, n2, n3, n4⟩ := hn
  refine ⟨rfl, hu.2.2.2, fun a => ?_, fun a a2 => ?_, fun a a2 a3 => ?_, fun a a2 a3 B hB => ?_⟩
  · rw [show ab_count n b y m c k = (-1, none) from if_pos a]
    exact cw_no h
  · rw [show ab_count n b y m c k = (-2, none) from (if_neg (not_not_intro a)).trans (if_pos (by rw [← h2]; exact a2))]
    exact cw_no h
  · rw [show ab_count n b y m c k = (-5, none) from (if_neg (not_not_intro a)).trans ((if_neg (not_not_intro (by rw [← h2]; exact a2))).trans (if_pos (by rw [← h4]; exact a3)))]
    exact cw_no h
  · rw [show ab_count n b y m c k = (n 4, some (4, 4008 + 5 * (n 4).toNat, [b, y, m, c, k])) from (if_neg (not_not_intro a)).trans ((if_neg (not_not_intro (by rw [← h2]; exact a2))).trans (if_neg (by rw [← h4]; omega)))]
    rw [h4] at hB a3
    have e := cw_yes (z := n 4) (p := 4008 + 5 * (n 4).toNat) (vs := [b, y, m, c, k]) (B := B) h (Or.inr (Or.inr ⟨rfl, rfl⟩)) (fun k _ _ c1 => hB.1 k c1) ⟨tx_3c h5 (tw_cc ⟨n4.1, a3⟩ rfl hB) rfl ⟨n4.1, a3⟩ n2.2 n3.2, by rw [hB.1 24 (by decide)]; exact tx_bk (by show 4008 + 5 * (n 4).toNat + 5 ≤ 5008; omega) h6⟩
    rw [h4] at e ⊢
    exact e
/-- no row more -/
theorem cw_pl {S : hs_S} {n R : Nat → Int} {B : Nat → Nat → Int} {p : Nat} {z v : Int} (h : tS S n R) (hB : ∀ k, ¬ k = 23 → ¬ k = 24 → B k = S.2 k) (hT : tx_cl B (n 2) (n 3) (n 4) (tx_put R p [v])) : cw S n R (z, some (99, p, [v])) [(0, z)] (hc_yes S.1 B) := by
  obtain ⟨⟨h1, h2, h3, h4⟩, h5⟩ := h
  have en : ∀ t, ¬ t = 99 → ab_n n (some (99, p, [v])) t = n t := fun t ht => if_neg ht
  refine ⟨rfl, ⟨fun y a1 a2 _ _ _ => yes_ne a1 a2, Or.inl yes_0, fun k _ _ _ a3 a4 => hB k a3 a4⟩, ⟨?_, ?_, ?_, ?_⟩, ?_⟩
  · exact (yes_ne (x := 899) (by decide) (by decide)).trans (h1.trans (en 1 (by decide)).symm)
  · exact (yes_ne (x := 1027) (by decide) (by decide)).trans (h2.trans (en 2 (by decide)).symm)
  · exact (yes_ne (x := 1155) (by decide) (by decide)).trans (h3.trans (en 3 (by decide)).symm)
  · exact (yes_ne (x := 1411) (by decide) (by decide)).trans (h4.trans (en 4 (by decide)).symm)
  · show tx_cl B (ab_n n (some (99, p, [v])) 2) (ab_n n (some (99, p, [v])) 3) (ab_n n (some (99, p, [v])) 4) (tx_put R p [v])
    rw [en 2 (by decide), en 3 (by decide), en 4 (by decide)]
    exact hT
theorem uw_keep {S : hs_S} {n R : Nat → Int} {s y : Int} (hn : tn n) (h : tS S n R) : u_keep [(4, 0), (0, s), (0, y)] S (cw S n R (ab_keep R s y)) := by
  obtain ⟨⟨h1, h2, h3, h4⟩, h5, h6⟩ := id h
  obtain ⟨n1, n2, n3, n4⟩ := hn
  have key : ((0 ≤ s ∧ s < 6) ∧ 0 ≤ y ∧ y < 8) → (u_kb S s y = 0 ↔ ¬ R (5008 + 8 * s.toNat + y.toNat) = 1) := fun a => by
    have := (h6 s.toNat (by omega)).2 y.toNat (by omega)
    rw [show ((y.toNat : Nat) : Int) = y by omega] at this
    exact this
  refine ⟨rfl, fun a => ?_, fun a a2 => ?_, fun a a2 => ?_⟩
  · rw [show ab_keep R s y = (-1, none) from if_pos a]
    exact cw_no h
  · have g : R (5008 + 8 * s.toNat + y.toNat) = 1 := Decidable.byContradiction (fun g => a2 ((key a).mpr g))
    rw [show ab_keep R s y = (-4, none) from (if_neg (not_not_intro a)).trans (if_pos g)]
    exact cw_no h
  · have g := (key a).mp a2
    rw [show ab_keep R s y = (0, some (99, 5008 + 8 * s.toNat + y.toNat, [1])) from (if_neg (not_not_intro a)).trans (if_neg g)]
    refine cw_pl h (fun k _ c => hs_ua_ne c) ⟨?_, ?_⟩
    · have e : cQ (hs_ua S.2 24 s.toNat (u_ko S s y)) = cQ S.2 := by
        funext j
        unfold cQ
        rw [hs_ua_ne (by decide), hs_ua_ne (by decide), hs_ua_ne (by decide)]
      rw [e]
      exact tx_3o (by omega) n2.2 n3.2 n4.2 h5
    · rw [tx_put1]
      have := tb_k.put a.1 a.2 h6
      rw [show (5008 + 8 * s + y).toNat = 5008 + 8 * s.toNat + y.toNat by omega] at this
      exact this
theorem tw_cp {M : Nat → Nat → Int} {q : Nat} {v : Int} : tw (cQ M) (cQ (hs_ua M 23 q v)) (4008 + q) [v] := by
  have hl : [v].length = 1 := rfl
  refine ⟨fun j _ hj => ?_, fun i w hw => ?_⟩
  · unfold cQ
    by_cases a : j < 2528
    · rw [if_pos a, if_pos a, hs_ua_ne (by decide)]
    · by_cases b : j < 4008
      · rw [if_neg a, if_pos b, if_neg a, if_pos b, hs_ua_ne (by decide)]
      · rw [if_neg a, if_neg b, if_neg a, if_neg b, hs_ua_k, if_neg (by omega)]
  · cases i with
    | zero =>
      cases hw
      rw [Nat.add_zero, cQ_c, hs_ua_k, if_pos rfl]
    | succ i => cases hw
theorem uw_alter {S : hs_S} {n R : Nat → Int} {i m : Int} (hn : tn n) (hu : uTs S) (h : tS S n R) : u_alter [(4, 0), (0, i), (0, m)] S (cw S n R (ab_alter n R i m)) := by
  obtain ⟨⟨h1, h2, h3, h4⟩, h5, h6⟩ := id h
  obtain ⟨n1, n2, n3, n4⟩ := hn
  refine ⟨rfl, hu.2.2.2, fun a => ?_, fun a a2 => ?_, fun a a2 => ?_⟩
  · rw [show ab_alter n R i m = (-1, none) from if_pos a]
    exact cw_no h
  · rw [show ab_alter n R i m = (-2, none) from (if_neg (not_not_intro a)).trans (if_pos (by rw [← h4]; exact a2))]
    exact cw_no h
  · rw [h4] at a2
    have e := h5.2.2 (5 * i.toNat + 3) (by omega)
    rw [cQ_c, ← Nat.add_assoc] at e
    rw [show ab_alter n R i m = (ab_x (R (4008 + 5 * i.toNat + 3)) m, some (99, 4008 + 5 * i.toNat + 3, [ab_x (R (4008 + 5 * i.toNat + 3)) m])) from (if_neg (not_not_intro a)).trans (if_neg (not_not_intro a2))]
    rw [show (i * 5 + 3).toNat = 5 * i.toNat + 3 by omega, ← e]
    refine cw_pl h (fun k c _ => hs_ua_ne c) ⟨?_, ?_⟩
    · rw [Nat.add_assoc]
      exact tx_3p h5 tw_cp (by omega) n2.2 n3.2
    · rw [hs_ua_ne (by decide)]
      exact tx_bk (by show 4008 + 5 * i.toNat + 3 + 1 ≤ 5008; omega) h6
/-! the writers of the reference -/
theorem t_st_ne {S : hs_S} {w : Int} {j : Nat} (a : ¬ j = 0) (b : ¬ j = 1) : t_st S w j = S.1 j := by
  unfold t_st
  rw [hs_up_ne b, hs_up_ne a]
theorem rq_no {S : hs_S} {n R : Nat → Int} {v w : Int} (hro : ro (S.2 1)) (h : tR (S.2 1) n R) : rwq S n R (v, none) [(0, v)] (t_st S w, S.2) := ⟨rfl, ⟨fun j a b _ _ _ => t_st_ne a b, fun _ _ => rfl, hro, fun _ _ _ _ _ => rfl⟩, h⟩
theorem rq_yes {S : hs_S} {n R : Nat → Int} {B : Nat → Nat → Int} {c p : Nat} {z v w : Int} {vs : List Int} (h : tR (S.2 1) n R) (hc : c = 2 ∨ c = 3 ∨ c = 4) (hv : v = n c + 1) (hB1 : ∀ k, ¬ k = 1 → B k = S.2 k) (hB2 : ∀ j, j < 11 → B 1 j = S.2 1 j) (hro : ro (hs_ua B 1 (c + 2) v 1)) (hT : tx_q (hs_ua B 1 (c + 2) v 1) (ab_n n (some (c, p, vs)) 2) (ab_n n (some (c, p, vs)) 3) (ab_n n (some (c, p, vs)) 4) (tx_put R p vs)) : rwq S n R (z, some (c, p, vs)) [(0, z)] (t_st S w, hs_ua B 1 (c + 2) v) := by
  obtain ⟨⟨h1, h2, h3, h4⟩, h5⟩ := h
  have e : ∀ j, j < 11 → hs_ua B 1 (c + 2) v 1 j = if j = c + 2 then n c + 1 else S.2 1 j := fun j hj => by
    rw [hs_ua_k, hv, hB2 j hj]
  have en : ∀ t, ab_n n (some (c, p, vs)) t = if t = c then n t + 1 else n t := fun t => rfl
  refine ⟨rfl, ⟨fun j a b _ _ _ => t_st_ne a b, fun k hk => (hs_ua_ne hk).trans (hB1 k hk), hro, fun j hj a1 a2 a3 => ?_⟩, ⟨?_, ?_, ?_, ?_⟩, hT⟩
  · show hs_ua B 1 (c + 2) v 1 j = S.2 1 j
    rw [e j (by omega), if_neg (by omega)]
  · show hs_ua B 1 (c + 2) v 1 3 = ab_n n (some (c, p, vs)) 1
    rw [e 3 (by decide), en, if_neg (by omega), if_neg (by omega), h1]
  · show hs_ua B 1 (c + 2) v 1 4 = ab_n n (some (c, p, vs)) 2
    rw [e 4 (by decide), en]
    rcases hc with rfl | rfl | rfl
    · rw [if_pos rfl, if_pos rfl]
    · rw [if_neg (by decide), if_neg (by decide), h2]
    · rw [if_neg (by decide), if_neg (by decide), h2]
  · show hs_ua B 1 (c + 2) v 1 5 = ab_n n (some (c, p, vs)) 3
    rw [e 5 (by decide), en]
    rcases hc with rfl | rfl | rfl
    · rw [if_neg (by decide), if_neg (by decide), h3]
    · rw [if_pos rfl, if_pos rfl]
    · rw [if_neg (by decide), if_neg (by decide), h3]
  · show hs_ua B 1 (c + 2) v 1 6 = ab_n n (some (c, p, vs)) 4
    rw [e 6 (by decide), en]
    rcases hc with rfl | rfl | rfl
    · rw [if_neg (by decide), if_neg (by decide), h4]
    · rw [if_neg (by decide), if_neg (by decide), h4]
    · rw [if_pos rfl, if_pos rfl]
theorem rw_box {S : hs_S} {n R : Nat → Int} {b s : Int} (hn : tn n) (hro : ro (S.2 1)) (h : tR (S.2 1) n R) : t_box [(4, 0), (0, b), (0, s)] S (rwq S n R (ab_box n b s)) := by
  obtain ⟨⟨h1, h2, h3, h4⟩, h5, h6⟩ := id h
  obtain ⟨n1, n2, n3, n4⟩ := hn
  refine ⟨rfl, by rw [h1]; exact n1, by rw [h2]; exact n2, fun a w => ?_, fun a a2 w => ?_, fun a a2 a3 w => ?_, fun a a2 a3 r v B er ev hB w => ?_⟩
  · rw [show ab_box n b s = (-1, none) from if_pos (by omega)]
    exact rq_no hro h
  · rw [h1] at a2
    rw [show ab_box n b s = (-2, none) from (if_neg (by omega)).trans (if_pos (by omega))]
    exact rq_no hro h
  · rw [h1] at a2
    rw [h2] at a3
    rw [show ab_box n b s = (-5, none) from (if_neg (by omega)).trans ((if_neg (by omega)).trans (if_pos (by omega)))]
    exact rq_no hro h
  · rw [h1] at a2
    rw [h2] at a3 hB er ev
    subst er
    have m40 : n 2 < 40 := by omega
    have g := tw_r (c := 4) (v := v) (p := 2448 + 2 * (n 2).toNat) (by decide) (by omega) (by omega) (by rfl) hB
    rw [show ab_box n b s = (n 2, some (2, 2448 + 2 * (n 2).toNat, [b, s])) from (if_neg (by omega)).trans ((if_neg (by omega)).trans (if_neg (by omega)))]
    have q0 := g.2 0 b rfl
    have hout : ∀ j, ¬ j = 4 → (j < 2448 + 2 * (n 2).toNat ∨ 2448 + 2 * (n 2).toNat + 2 ≤ j) → hs_ua B 1 4 v 1 j = S.2 1 j := fun j j4 hj => by
      rw [hs_ua_k, if_neg j4]
      exact hB.2.1 j (by omega)
    refine rq_yes (c := 2) h (Or.inl rfl) ev hB.1 (fun j hj => hB.2.1 j (Or.inl (by omega))) ?_ ⟨tx_3b h5 g rfl ⟨n2.1, m40⟩, tx_bb (by show 2448 + 2 * (n 2).toNat + 2 ≤ 5008; omega) g h6⟩
    refine ro_of hro ?_ ?_ ?_ (fun j hj a b c => hout j a (Or.inl (by omega))) (fun j hj a => hout j (by omega) (by omega)) (fun i hi => ?_) (fun i hi => ?_)
    · rw [hs_ua_k, if_pos rfl]
      omega
    · rw [hout 5 (by decide) (Or.inl (by omega))]
      exact hro.1.2.2.2.2.2.1
    · rw [hout 6 (by decide) (Or.inl (by omega))]
      exact hro.1.2.2.2.2.2.2.1
    · by_cases c : i = (n 2).toNat
      · subst c
        rw [← Nat.add_zero (2448 + 2 * (n 2).toNat), q0]
        omega
      · rw [hout _ (by omega) (by omega)]
        exact hro.2.2.2.1 i hi
    · rw [hout (4008 + 5 * i) (by omega) (by omega), hout (4009 + 5 * i) (by omega) (by omega), hout (4010 + 5 * i) (by omega) (by omega)]
      exact hro.2.2.2.2.1 i hi
theorem rw_hand {S : hs_S} {n R : Nat → Int} {b x d s k : Int} (hn : tn n) (hro : ro (S.2 1)) (h : tR (S.2 1) n R) : t_hand [(4, 0), (0, b), (0, x), (0, d), (0, s), (0, k)] S (rwq S n R (ab_hand n b x d s k)) := by
  obtain ⟨⟨h1, h2, h3, h4⟩, h5, h6⟩ := id h
  obtain ⟨n1, n2, n3, n4⟩ := hn
  refine ⟨rfl, by rw [h2]; exact n2, by rw [h3]; exact n3, fun a w => ?_, fun a a2 w => ?_, fun a a2 a3 w => ?_, fun a a2 a3 r v B er ev hB w => ?_⟩
  · unfold t_okh at a
    rw [show ab_hand n b x d s k = (-1, none) from if_pos (by omega)]
    exact rq_no hro h
  · unfold t_okh at a
    rw [h2] at a2
    rw [show ab_hand n b x d s k = (-2, none) from (if_neg (by omega)).trans (if_pos (by omega))]
    exact rq_no hro h
  · unfold t_okh at a
    rw [h2] at a2
    rw [h3] at a3
    rw [show ab_hand n b x d s k = (-5, none) from (if_neg (by omega)).trans ((if_neg (by omega)).trans (if_pos (by omega)))]
    exact rq_no hro h
  · unfold t_okh at a
    rw [h2] at a2
    rw [h3] at a3 hB er ev
    subst er
    have m200 : n 3 < 200 := by omega
    have g := tw_r (c := 5) (v := v) (p := 2528 + 5 * (n 3).toNat) (by decide) (by omega) (by omega) (by rfl) hB
    rw [show ab_hand n b x d s k = (n 3 + 1, some (3, 2528 + 5 * (n 3).toNat, [b, x, d, s, k])) from (if_neg (by omega)).trans ((if_neg (by omega)).trans (if_neg (by omega)))]
    have hout : ∀ j, ¬ j = 5 → (j < 2528 + 5 * (n 3).toNat ∨ 2528 + 5 * (n 3).toNat + 5 ≤ j) → hs_ua B 1 5 v 1 j = S.2 1 j := fun j j4 hj => by
      rw [hs_ua_k, if_neg j4]
      exact hB.2.1 j (by omega)
    refine rq_yes (c := 3) h (Or.inr (Or.inl rfl)) ev hB.1 (fun j hj => hB.2.1 j (Or.inl (by omega))) ?_ ⟨tx_3h h5 g rfl ⟨n3.1, m200⟩ n2.2, tx_bb (by show 2528 + 5 * (n 3).toNat + 5 ≤ 5008; omega) g h6⟩
    refine ro_of hro ?_ ?_ ?_ (fun j hj a b c => hout j b (Or.inl (by omega))) (fun j hj a => hout j (by omega) (by omega)) (fun i hi => ?_) (fun i hi => ?_)
    · rw [hout 4 (by decide) (Or.inl (by omega))]
      exact hro.1.2.2.2.2.1
    · rw [hs_ua_k, if_pos rfl]
      omega
    · rw [hout 6 (by decide) (Or.inl (by omega))]
      exact hro.1.2.2.2.2.2.2.1
    · rw [hout _ (by omega) (by omega)]
      exact hro.2.2.2.1 i hi
    · rw [hout (4008 + 5 * i) (by omega) (by omega), hout (4009 + 5 * i) (by omega) (by omega), hout (4010 + 5 * i) (by omega) (by omega)]
      exact hro.2.2.2.2.1 i hi
theorem rw_count {S : hs_S} {n R : Nat → Int} {b y m c k : Int} (hn : tn n) (hro : ro (S.2 1)) (h : tR (S.2 1) n R) : t_count [(4, 0), (0, b), (0, y), (0, m), (0, c), (0, k)] S (rwq S n R (ab_count n b y m c k)) := by
  obtain ⟨⟨h1, h2, h3, h4⟩, h5, h6⟩ := id h
  obtain ⟨n1, n2, n3, n4⟩ := hn
  refine ⟨rfl, by rw [h2]; exact n2, by rw [h4]; exact n4, fun a w => ?_, fun a a2 w => ?_, fun a a2 a3 w => ?_, fun a a2 a3 r v B er ev hB w => ?_⟩
  · unfold t_okc at a
    rw [show ab_count n b y m c k = (-1, none) from if_pos (by omega)]
    exact rq_no hro h
  · unfold t_okc at a
    rw [h2] at a2
    rw [show ab_count n b y m c k = (-2, none) from (if_neg (by omega)).trans (if_pos (by omega))]
    exact rq_no hro h
  · unfold t_okc at a
    rw [h2] at a2
    rw [h4] at a3
    rw [show ab_count n b y m c k = (-5, none) from (if_neg (by omega)).trans ((if_neg (by omega)).trans (if_pos (by omega)))]
    exact rq_no hro h
  · unfold t_okc at a
    rw [h2] at a2
    rw [h4] at a3 hB er ev
    subst er
    have m200 : n 4 < 200 := by omega
    have g := tw_r (c := 6) (v := v) (p := 4008 + 5 * (n 4).toNat) (by decide) (by omega) (by omega) (by rfl) hB
    rw [show ab_count n b y m c k = (n 4, some (4, 4008 + 5 * (n 4).toNat, [b, y, m, c, k])) from (if_neg (by omega)).trans ((if_neg (by omega)).trans (if_neg (by omega)))]
    have q0 := g.2 0 b rfl
    have q1 := g.2 1 y rfl
    have q2 := g.2 2 m rfl
    have hout : ∀ j, ¬ j = 6 → (j < 4008 + 5 * (n 4).toNat ∨ 4008 + 5 * (n 4).toNat + 5 ≤ j) → hs_ua B 1 6 v 1 j = S.2 1 j := fun j j4 hj => by
      rw [hs_ua_k, if_neg j4]
      exact hB.2.1 j (by omega)
    refine rq_yes (c := 4) h (Or.inr (Or.inr rfl)) ev hB.1 (fun j hj => hB.2.1 j (Or.inl (by omega))) ?_ ⟨tx_3c h5 g rfl ⟨n4.1, m200⟩ n2.2 n3.2, tx_bb (by show 4008 + 5 * (n 4).toNat + 5 ≤ 5008; omega) g h6⟩
    refine ro_of hro ?_ ?_ ?_ (fun j hj a b c => hout j c (Or.inl (by omega))) (fun j hj a => hout j (by omega) (by omega)) (fun i hi => ?_) (fun i hi => ?_)
    · rw [hout 4 (by decide) (Or.inl (by omega))]
      exact hro.1.2.2.2.2.1
    · rw [hout 5 (by decide) (Or.inl (by omega))]
      exact hro.1.2.2.2.2.2.1
    · rw [hs_ua_k, if_pos rfl]
      omega
    · rw [hout _ (by omega) (by omega)]
      exact hro.2.2.2.1 i hi
    · by_cases c : i = (n 4).toNat
      · subst c
        rw [show 4009 + 5 * (n 4).toNat = 4008 + 5 * (n 4).toNat + 1 by omega, show 4010 + 5 * (n 4).toNat = 4008 + 5 * (n 4).toNat + 2 by omega, q1, q2, ← Nat.add_zero (4008 + 5 * (n 4).toNat), q0]
        omega
      · rw [hout (4008 + 5 * i) (by omega) (by omega), hout (4009 + 5 * i) (by omega) (by omega), hout (4010 + 5 * i) (by omega) (by omega)]
        exact hro.2.2.2.2.1 i hi
/-- no row more -/
theorem rq_pl {S : hs_S} {n R : Nat → Int} {p : Nat} {z v w : Int} (hro : ro (S.2 1)) (h : tR (S.2 1) n R) (hp : (5008 ≤ p ∧ p < 5056) ∨ ∃ i, i < 200 ∧ p = 4008 + 5 * i + 3) (hT : tx_q (hs_ua S.2 1 p v 1) (n 2) (n 3) (n 4) (tx_put R p [v])) : rwq S n R (z, some (99, p, [v])) [(0, z)] (t_st S w, hs_ua S.2 1 p v) := by
  obtain ⟨⟨h1, h2, h3, h4⟩, h5⟩ := h
  have en : ∀ t, ¬ t = 99 → ab_n n (some (99, p, [v])) t = n t := fun t ht => if_neg ht
  have hp0 : 4008 ≤ p ∧ p < 5056 := by
    rcases hp with hp | ⟨i, hi, hp⟩ <;> omega
  have e : ∀ j, ¬ j = p → hs_ua S.2 1 p v 1 j = S.2 1 j := fun j hj => by rw [hs_ua_k, if_neg hj]
  refine ⟨rfl, ⟨fun j a b _ _ _ => t_st_ne a b, fun k hk => hs_ua_ne hk, ?_, fun j hj _ _ _ => e j (by omega)⟩, ⟨?_, ?_, ?_, ?_⟩, ?_⟩
  · show ro (hs_ua S.2 1 p v 1)
    refine ro_of hro ?_ ?_ ?_ (fun j hj _ _ _ => e j (by omega)) (fun j _ hj => e j (by omega)) (fun i hi => ?_) (fun i hi => ?_)
    · rw [e 4 (by omega)]
      exact hro.1.2.2.2.2.1
    · rw [e 5 (by omega)]
      exact hro.1.2.2.2.2.2.1
    · rw [e 6 (by omega)]
      exact hro.1.2.2.2.2.2.2.1
    · rw [e _ (by omega)]
      exact hro.2.2.2.1 i hi
    · have : ∀ r, r < 3 → ¬ 4008 + 5 * i + r = p := fun r hr => by
        rcases hp with hp | ⟨i', hi', hp⟩ <;> omega
      have t0 := this 0 (by decide)
      have t1 := this 1 (by decide)
      have t2 := this 2 (by decide)
      rw [e (4008 + 5 * i) (by omega), e (4009 + 5 * i) (by omega), e (4010 + 5 * i) (by omega)]
      exact hro.2.2.2.2.1 i hi
  · exact (e 3 (by omega)).trans (h1.trans (en 1 (by decide)).symm)
  · exact (e 4 (by omega)).trans (h2.trans (en 2 (by decide)).symm)
  · exact (e 5 (by omega)).trans (h3.trans (en 3 (by decide)).symm)
  · exact (e 6 (by omega)).trans (h4.trans (en 4 (by decide)).symm)
  · show tx_q (hs_ua S.2 1 p v 1) (ab_n n (some (99, p, [v])) 2) (ab_n n (some (99, p, [v])) 3) (ab_n n (some (99, p, [v])) 4) (tx_put R p [v])
    rw [en 2 (by decide), en 3 (by decide), en 4 (by decide)]
    exact hT
theorem rw_keep {S : hs_S} {n R : Nat → Int} {s y : Int} (hn : tn n) (hro : ro (S.2 1)) (h : tR (S.2 1) n R) : t_keep [(4, 0), (0, s), (0, y)] S (rwq S n R (ab_keep R s y)) := by
  obtain ⟨⟨h1, h2, h3, h4⟩, h5, h6⟩ := id h
  obtain ⟨n1, n2, n3, n4⟩ := hn
  have key : ((0 ≤ s ∧ s ≤ 5) ∧ 0 ≤ y ∧ y ≤ 7) → (S.2 1 (5008 + 8 * s + y).toNat = 1 ↔ R (5008 + 8 * s.toNat + y.toNat) = 1) := fun a => by
    rw [show (5008 + 8 * s + y).toNat = 5008 + 8 * s.toNat + y.toNat by omega]
    exact h6 s.toNat y.toNat (by omega) (by omega)
  refine ⟨rfl, fun a w => ?_, fun a a2 w => ?_, fun a a2 w => ?_⟩
  · rw [show ab_keep R s y = (-1, none) from if_pos (by omega)]
    exact rq_no hro h
  · rw [show ab_keep R s y = (-4, none) from (if_neg (by omega)).trans (if_pos ((key a).mp a2))]
    exact rq_no hro h
  · have g : ¬ R (5008 + 8 * s.toNat + y.toNat) = 1 := fun g => a2 ((key a).mpr g)
    rw [show ab_keep R s y = (0, some (99, 5008 + 8 * s.toNat + y.toNat, [1])) from (if_neg (by omega)).trans (if_neg g)]
    rw [show (5008 + 8 * s + y).toNat = 5008 + 8 * s.toNat + y.toNat by omega]
    exact rq_pl hro h (Or.inl ⟨by omega, by omega⟩) ⟨tx_3p h5 tw_1 (by omega) n2.2 n3.2, tx_b1 tw_1 h6⟩
theorem rw_alter {S : hs_S} {n R : Nat → Int} {i m : Int} (hn : tn n) (hro : ro (S.2 1)) (h : tR (S.2 1) n R) : t_alter [(4, 0), (0, i), (0, m)] S (rwq S n R (ab_alter n R i m)) := by
  obtain ⟨⟨h1, h2, h3, h4⟩, h5, h6⟩ := id h
  obtain ⟨n1, n2, n3, n4⟩ := hn
  refine ⟨rfl, by rw [h4]; exact n4, fun a w => ?_, fun a a2 w => ?_, fun a a2 r v er ev w => ?_⟩
  · rw [show ab_alter n R i m = (-1, none) from if_pos a]
    exact rq_no hro h
  · rw [h4] at a2
    rw [show ab_alter n R i m = (-2, none) from (if_neg (not_not_intro a)).trans (if_pos a2)]
    exact rq_no hro h
  · rw [h4] at a2
    have e := h5.2.2 (5 * i.toNat + 3) (by omega)
    rw [← Nat.add_assoc] at e
    rw [show (4008 + 5 * i + 3).toNat = 4008 + 5 * i.toNat + 3 by omega] at ev ⊢
    rw [e] at ev
    have ev : v = ab_x (R (4008 + 5 * i.toNat + 3)) m := ev
    subst er
    subst ev
    rw [show ab_alter n R i m = (ab_x (R (4008 + 5 * i.toNat + 3)) m, some (99, 4008 + 5 * i.toNat + 3, [ab_x (R (4008 + 5 * i.toNat + 3)) m])) from (if_neg (not_not_intro a)).trans (if_neg (not_not_intro a2))]
    exact rq_pl hro h (Or.inr ⟨i.toNat, by omega, rfl⟩) ⟨tx_3p h5 tw_1 (by omega) n2.2 n3.2, tx_bb (by show 4008 + 5 * i.toNat + 3 + 1 ≤ 5008; omega) tw_1 h6⟩
