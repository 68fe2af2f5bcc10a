/-! ===== what is proved by hand, both sides: answers and tables ===== -/
theorem cf_rf {S : hs_S} : cf S S := ⟨fun _ _ _ _ _ _ => rfl, Or.inr rfl, fun _ _ _ _ _ _ => rfl⟩
def zc_held (S : hs_S) (b d k : Int) : Int := if (0 ≤ d ∧ d < 400) ∧ (0 ≤ k ∧ k < 400) ∧ 0 ≤ b ∧ b < S.1 1027 then ug S 18 5 (lh S b d k (S.1 1155).toNat) 1 else -1
def zr_held (Q : Nat → Int) (b d k : Int) : Int := if (0 ≤ b ∧ b < Q 4) ∧ (0 ≤ d ∧ d ≤ 399) ∧ 0 ≤ k ∧ k ≤ 399 then (r_hd Q b d k (Q 5).toNat).2 else -1
theorem uw_held {S : hs_S} {n R : Nat → Int} {b d k : Int} (hu : uTs S) (h : tS S n R) : u_held [(4, 0), (0, b), (0, d), (0, k)] S (cw S n R (zc_held S b d k, none)) := by
  refine ⟨rfl, hu.2.2.1, fun a => ?_, fun a => ?_⟩
  · rw [show zc_held S b d k = -1 from if_neg a]
    exact ⟨rfl, cf_rf, h⟩
  · rw [show zc_held S b d k = ug S 18 5 (lh S b d k (S.1 1155).toNat) 1 from if_pos a]
    exact ⟨rfl, cf_rf, h⟩
theorem rq_rd {S : hs_S} {n R : Nat → Int} {v : Int} (hro : ro (S.2 1)) (h : tR (S.2 1) n R) : rwq S n R (v, none) [(0, v)] (hs_up S.1 0 0, S.2) := ⟨rfl, ⟨fun j a _ _ _ _ => hs_up_ne a, fun _ _ => rfl, hro, fun _ _ _ _ _ => rfl⟩, h⟩
theorem rw_held {S : hs_S} {n R : Nat → Int} {b d k : Int} (hn : tn n) (hro : ro (S.2 1)) (h : tR (S.2 1) n R) : t_held [(4, 0), (0, b), (0, d), (0, k)] S (rwq S n R (zr_held (S.2 1) b d k, none)) := by
  obtain ⟨⟨h1, h2, h3, h4⟩, h5⟩ := id h
  obtain ⟨n1, n2, n3, n4⟩ := hn
  refine ⟨rfl, by rw [h2]; exact n2, by rw [h3]; exact n3, fun a => ?_, fun a => ?_⟩
  · rw [show zr_held (S.2 1) b d k = -1 from if_neg a]
    exact rq_rd hro h
  · rw [show zr_held (S.2 1) b d k = (r_hd (S.2 1) b d k (S.2 1 5).toNat).2 from if_pos a]
    exact rq_rd hro h
theorem tb_hh {S : hs_S} {Q n T : Nat → Int} (hn : tn n) (hv : tvx n T) (h : tS S n T) (g : tR Q n T) : tb_h S Q := by
  obtain ⟨⟨h1, h2, h3, h4⟩, ⟨h5, h6, h7⟩, h8⟩ := h
  obtain ⟨⟨g1, g2, g3, g4⟩, ⟨g5, g6, g7⟩, g8⟩ := g
  refine ⟨by rw [h3, g3], by rw [g3]; exact hn.2.2.1, fun i j hi hj => ?_, fun i hi => ?_⟩
  · rw [g3] at hi
    have a := hn.2.2.1
    have e1 := h6 (5 * i + j) (by omega)
    have e2 := g6 (5 * i + j) (by omega)
    rw [cQ_h (by omega)] at e1
    rw [e1, ← e2, Nat.add_assoc]
  · rw [g3] at hi
    have e2 := g6 (5 * i) (by omega)
    rw [e2]
    exact hv.1 i hi
theorem tb_bb {S : hs_S} {Q n T : Nat → Int} (hn : tn n) (h : tS S n T) (g : tR Q n T) : tb_b S Q := by
  obtain ⟨⟨h1, h2, h3, h4⟩, ⟨h5, h6, h7⟩, h8⟩ := h
  obtain ⟨⟨g1, g2, g3, g4⟩, ⟨g5, g6, g7⟩, g8⟩ := g
  refine ⟨by rw [h2, g2], by rw [g2]; exact hn.2.1, fun i j hi hj => ?_⟩
  rw [g2] at hi
  have a := hn.2.1
  have e1 := h5 (2 * i + j) (by omega)
  have e2 := g5 (2 * i + j) (by omega)
  rw [cQ_b (by omega)] at e1
  rw [e1, ← e2, Nat.add_assoc]
theorem tb_cc {S : hs_S} {Q n T : Nat → Int} (hn : tn n) (hv : tvx n T) (h : tS S n T) (g : tR Q n T) : tb_c S Q := by
  obtain ⟨⟨h1, h2, h3, h4⟩, ⟨h5, h6, h7⟩, h8⟩ := h
  obtain ⟨⟨g1, g2, g3, g4⟩, ⟨g5, g6, g7⟩, g8⟩ := g
  refine ⟨by rw [h4, g4], by rw [g4]; exact hn.2.2.2, fun i j hi hj => ?_, fun i hi => ?_⟩
  · rw [g4] at hi
    have a := hn.2.2.2
    have e1 := h7 (5 * i + j) (by omega)
    have e2 := g7 (5 * i + j) (by omega)
    rw [cQ_c] at e1
    rw [e1, ← e2, Nat.add_assoc]
  · rw [g4] at hi
    have e2 := g7 (5 * i) (by omega)
    rw [e2, g2]
    exact (hv.2 i hi).1
theorem z_held {S : hs_S} {Q n T : Nat → Int} (hn : tn n) (hv : tvx n T) (h : tS S n T) (g : tR Q n T) (b d k : Int) : zc_held S b d k = zr_held Q b d k := by
  have hh := tb_hh hn hv h g
  have e4 : S.1 1027 = Q 4 := h.1.2.1.trans g.1.2.1.symm
  have e5 : S.1 1155 = Q 5 := h.1.2.2.1.trans g.1.2.2.1.symm
  have b5 := hn.2.2.1
  rw [← g.1.2.2.1] at b5
  unfold zc_held zr_held
  rw [e4, e5]
  by_cases c : (0 ≤ b ∧ b < Q 4) ∧ (0 ≤ d ∧ d ≤ 399) ∧ 0 ≤ k ∧ k ≤ 399
  · rw [if_pos c, if_pos (by omega), tb_hd hh (Q 5).toNat (by omega)]
  · rw [if_neg c, if_neg (by omega)]
/-! broken -/
def zc_broken (S : hs_S) (b k w : Int) : Int := if (0 ≤ k ∧ k < 400) ∧ (0 ≤ w ∧ w < 3) ∧ 0 ≤ b ∧ b < S.1 1027 then (if w = 1 then ug S 18 5 (ah S (fb S b k (S.1 1155).toNat) k (S.1 1155).toNat) 1 else if w = 0 then ug S 18 5 (fb S b k (S.1 1155).toNat) 1 else ug S 18 5 (fb S b k (S.1 1155).toNat) 2) else -1
def zr_broken (Q : Nat → Int) (b k w : Int) : Int := if (0 ≤ b ∧ b < Q 4) ∧ (0 ≤ k ∧ k ≤ 399) ∧ 0 ≤ w ∧ w ≤ 2 then (if r_fb Q b k (Q 5).toNat = -1 then -1 else if w = 1 then (if r_ah Q (r_fb Q b k (Q 5).toNat) k (Q 5).toNat = -1 then -1 else r_h Q (r_ah Q (r_fb Q b k (Q 5).toNat) k (Q 5).toNat) 1) else if w = 0 then r_h Q (r_fb Q b k (Q 5).toNat) 1 else r_h Q (r_fb Q b k (Q 5).toNat) 2) else -1
theorem uw_broken {S : hs_S} {n R : Nat → Int} {b k w : Int} (hu : uTs S) (h : tS S n R) : u_broken [(4, 0), (0, b), (0, k), (0, w)] S (cw S n R (zc_broken S b k w, none)) := by
  refine ⟨rfl, hu.2.2.1, hu.2.1, fun a => ?_, fun a a1 => ?_, fun a a1 => ?_, fun a a1 a0 => ?_⟩
  · rw [show zc_broken S b k w = -1 from if_neg a]
    exact ⟨rfl, cf_rf, h⟩
  · rw [show zc_broken S b k w = ug S 18 5 (ah S (fb S b k (S.1 1155).toNat) k (S.1 1155).toNat) 1 from (if_pos a).trans (if_pos a1)]
    exact ⟨rfl, cf_rf, h⟩
  · rw [show zc_broken S b k w = ug S 18 5 (fb S b k (S.1 1155).toNat) 1 from (if_pos a).trans ((if_neg (by omega)).trans (if_pos a1))]
    exact ⟨rfl, cf_rf, h⟩
  · rw [show zc_broken S b k w = ug S 18 5 (fb S b k (S.1 1155).toNat) 2 from (if_pos a).trans ((if_neg a1).trans (if_neg a0))]
    exact ⟨rfl, cf_rf, h⟩
theorem rw_broken {S : hs_S} {n R : Nat → Int} {b k w : Int} (hn : tn n) (hro : ro (S.2 1)) (h : tR (S.2 1) n R) : t_broken [(4, 0), (0, b), (0, k), (0, w)] S (rwq S n R (zr_broken (S.2 1) b k w, none)) := by
  obtain ⟨⟨h1, h2, h3, h4⟩, h5⟩ := id h
  obtain ⟨n1, n2, n3, n4⟩ := hn
  refine ⟨rfl, by rw [h2]; exact n2, by rw [h3]; exact n3, fun a => ?_, fun a c => ?_, fun a c a1 d => ?_, fun a c a1 d => ?_, fun a c a1 => ?_, fun a c a1 a0 => ?_⟩
  · rw [show zr_broken (S.2 1) b k w = -1 from if_neg a]
    exact rq_rd hro h
  · rw [show zr_broken (S.2 1) b k w = -1 from (if_pos a).trans (if_pos c)]
    exact rq_rd hro h
  · rw [show zr_broken (S.2 1) b k w = -1 from (if_pos a).trans ((if_neg c).trans ((if_pos a1).trans (if_pos d)))]
    exact rq_rd hro h
  · rw [show zr_broken (S.2 1) b k w = r_h (S.2 1) (r_ah (S.2 1) (r_fb (S.2 1) b k (S.2 1 5).toNat) k (S.2 1 5).toNat) 1 from (if_pos a).trans ((if_neg c).trans ((if_pos a1).trans (if_neg d)))]
    exact rq_rd hro h
  · rw [show zr_broken (S.2 1) b k w = r_h (S.2 1) (r_fb (S.2 1) b k (S.2 1 5).toNat) 1 from (if_pos a).trans ((if_neg c).trans ((if_neg (by omega)).trans (if_pos a1)))]
    exact rq_rd hro h
  · rw [show zr_broken (S.2 1) b k w = r_h (S.2 1) (r_fb (S.2 1) b k (S.2 1 5).toNat) 2 from (if_pos a).trans ((if_neg c).trans ((if_neg a1).trans (if_neg a0)))]
    exact rq_rd hro h
theorem z_broken {S : hs_S} {Q n T : Nat → Int} (hn : tn n) (hv : tvx n T) (h : tS S n T) (g : tR Q n T) (b k w : Int) : zc_broken S b k w = zr_broken Q b k w := by
  have hh := tb_hh hn hv h g
  have hb := tb_bb hn h g
  have e4 : S.1 1027 = Q 4 := h.1.2.1.trans g.1.2.1.symm
  have e5 : S.1 1155 = Q 5 := h.1.2.2.1.trans g.1.2.2.1.symm
  have b5 := hn.2.2.1
  rw [← g.1.2.2.1] at b5
  unfold zc_broken zr_broken
  rw [e4, e5]
  by_cases c : (0 ≤ b ∧ b < Q 4) ∧ (0 ≤ k ∧ k ≤ 399) ∧ 0 ≤ w ∧ w ≤ 2
  · rw [if_pos c, if_pos (by omega), tb_fb hh hb c.1 (Q 5).toNat (by omega)]
    have bd := r_fb_b (R := Q) (b := b) (k := k) (Q 5).toNat
    generalize r_fb Q b k (Q 5).toNat = f at bd ⊢
    by_cases f1 : f = -1
    · subst f1
      rw [if_pos rfl, tb_am hh (Q 5).toNat (by omega), ug_m, ug_m]
      by_cases w1 : w = 1
      · rw [if_pos w1]
      · rw [if_neg w1]
        by_cases w0 : w = 0
        · rw [if_pos w0]
        · rw [if_neg w0]
    · rw [if_neg f1]
      have fr : 0 ≤ f ∧ f < Q 5 := by omega
      by_cases w1 : w = 1
      · rw [if_pos w1, if_pos w1, tb_ah hh fr (Q 5).toNat (by omega)]
        have bd2 := r_ah_b (R := Q) (t := f) (k := k) (Q 5).toNat
        generalize r_ah Q f k (Q 5).toNat = a at bd2 ⊢
        by_cases a1 : a = -1
        · subst a1
          rw [if_pos rfl, ug_m]
        · rw [if_neg a1]
          exact tb_uh hh (by omega) ⟨by decide, by decide⟩
      · rw [if_neg w1, if_neg w1]
        by_cases w0 : w = 0
        · rw [if_pos w0, if_pos w0]
          exact tb_uh hh fr ⟨by decide, by decide⟩
        · rw [if_neg w0, if_neg w0]
          exact tb_uh hh fr ⟨by decide, by decide⟩
  · rw [if_neg c, if_neg (by omega)]
/-! seal -/
def zc_seal (S : hs_S) (b : Int) : Int := if 0 ≤ b ∧ b < S.1 899 then tf S b (S.1 1411).toNat else -2
def zr_seal (Q : Nat → Int) (b : Int) : Int := if 0 ≤ b ∧ b < Q 3 then r_tf Q b (Q 6).toNat else -2
theorem ug_cb {S : hs_S} {n R : Nat → Int} (hn : tn n) (hv : tvx n R) (h : tS S n R) (i : Int) : -1 ≤ ug S 22 5 i 3 ∧ ug S 22 5 i 3 ≤ 16383 := by
  unfold ug
  split
  · rename_i c
    have c2 : i < S.1 1411 := c.2.1
    rw [h.1.2.2.2] at c2
    have b4 := hn.2.2.2
    have e := h.2.1.2.2 (5 * i.toNat + 3) (by omega)
    rw [cQ_c] at e
    have g := (hv.2 i.toNat (by omega)).2
    rw [show (i * 5 + 3).toNat = 5 * i.toNat + 3 by omega]
    show -1 ≤ S.2 23 (5 * i.toNat + 3) ∧ S.2 23 (5 * i.toNat + 3) ≤ 16383
    rw [e, ← Nat.add_assoc]
    omega
  · omega
theorem uw_seal {S : hs_S} {n R : Nat → Int} {b : Int} (hn : tn n) (hv : tvx n R) (hu : uTs S) (h : tS S n R) : u_seal [(4, 0), (0, b)] S (cw S n R (zc_seal S b, none)) := by
  refine ⟨rfl, hu.1, hu.2.2.2, hu.2.1, ug_cb hn hv h, fun a => ?_, fun a r v1 v2 v3 er e1 _ _ => ?_⟩
  · rw [show zc_seal S b = -2 from if_neg a]
    exact cw_no h
  · rw [show zc_seal S b = tf S b (S.1 1411).toNat from if_pos a]
    subst er
    subst e1
    obtain ⟨⟨h1, h2, h3, h4⟩, h5⟩ := h
    refine ⟨rfl, ⟨fun y a1 a2 _ _ _ => yes_ne a1 a2, Or.inl yes_0, fun k a1 _ _ _ _ => (hs_ua_ne a1).trans ((hs_ua_ne a1).trans (hs_ua_ne a1))⟩, ⟨?_, ?_, ?_, ?_⟩, ?_⟩
    · exact (yes_ne (x := 899) (by decide) (by decide)).trans h1
    · exact (yes_ne (x := 1027) (by decide) (by decide)).trans h2
    · exact (yes_ne (x := 1155) (by decide) (by decide)).trans h3
    · exact (yes_ne (x := 1411) (by decide) (by decide)).trans h4
    · exact h5
theorem r_cok_of {S : hs_S} {n R : Nat → Int} (hn : tn n) (hv : tvx n R) (hro : ro (S.2 1)) (h : tR (S.2 1) n R) : r_cok S := by
  obtain ⟨⟨h1, h2, h3, h4⟩, ⟨h5, h6, h7⟩, h8⟩ := h
  have b4 := hn.2.2.2
  refine ⟨by rw [h4]; exact b4, fun i hi => ?_⟩
  rw [h4] at hi
  have g := hv.2 i hi
  have g0 := (hro.2.2.2.2.1 i (by omega)).1
  have e := h7 (5 * i + 3) (by omega)
  rw [← Nat.add_assoc] at e
  unfold r_c
  rw [show (4008 + 5 * (i : Int) + 0).toNat = 4008 + 5 * i by omega, show (4008 + 5 * (i : Int) + 3).toNat = 4008 + 5 * i + 3 by omega, e]
  omega
theorem rq_rw {S : hs_S} {n R : Nat → Int} {F : Nat → Int} {A : Nat → Nat → Int} {r : Int} (hro : ro (S.2 1)) (h : tR (S.2 1) n R) (hF : ∀ j, ¬ j = 0 → ¬ j = 1 → ¬ j = 59 → ¬ j = 60 → ¬ j = 61 → F j = S.1 j) (hA : ∀ k, ¬ k = 1 → A k = S.2 k) (e : ∀ j, (j < 2368 ∨ 2448 ≤ j) → A 1 j = S.2 1 j) : rwq S n R (r, none) [(0, r)] (F, A) := by
  obtain ⟨⟨h1, h2, h3, h4⟩, h5, h6⟩ := h
  have e4 := e 4 (by omega)
  have e5 := e 5 (by omega)
  have e6 := e 6 (by omega)
  refine ⟨rfl, ⟨hF, hA, ?_, fun j hj _ _ _ => e j (by omega)⟩, ⟨(e 3 (by omega)).trans h1, e4.trans h2, e5.trans h3, e6.trans h4⟩, ⟨fun k hk2 => (e _ (by omega)).trans (h5.1 k hk2), fun k hk2 => (e _ (by omega)).trans (h5.2.1 k hk2), fun k hk2 => (e _ (by omega)).trans (h5.2.2 k hk2)⟩, fun s y hs hy => ?_⟩
  · show ro (A 1)
    refine ro_of hro ?_ ?_ ?_ (fun j hj _ _ _ => e j (by omega)) (fun j _ hj => e j (by omega)) (fun i hi => ?_) (fun i hi => ?_)
    · rw [e4]
      exact hro.1.2.2.2.2.1
    · rw [e5]
      exact hro.1.2.2.2.2.2.1
    · rw [e6]
      exact hro.1.2.2.2.2.2.2.1
    · rw [e (2448 + 2 * i) (by omega)]
      exact hro.2.2.2.1 i hi
    · rw [e (4008 + 5 * i) (by omega), e (4009 + 5 * i) (by omega), e (4010 + 5 * i) (by omega)]
      exact hro.2.2.2.2.1 i hi
  · show A 1 (5008 + 8 * s + y) = 1 ↔ _
    rw [e (5008 + 8 * s + y) (by omega)]
    exact h6 s y hs hy
theorem rw_seal {S : hs_S} {n R : Nat → Int} {b : Int} (hn : tn n) (hv : tvx n R) (hro : ro (S.2 1)) (h : tR (S.2 1) n R) : t_seal [(4, 0), (0, b)] S (rwq S n R (zr_seal (S.2 1) b, none)) := by
  have hk := r_cok_of hn hv hro h
  have h1 := h.1.1
  have n1 := hn.1
  refine ⟨rfl, by rw [h1]; exact n1, ⟨trivial, hk⟩, fun a w => ?_, fun a F r m v2 v3 er em _ _ hF => ?_⟩
  · rw [show zr_seal (S.2 1) b = -2 from if_neg a]
    exact rq_no hro h
  · rw [show zr_seal (S.2 1) b = r_tf (S.2 1) b (S.2 1 6).toNat from if_pos a]
    subst er
    rw [h1] at a
    rw [em]
    refine rq_rw hro h (fun j a0 a1 a2 a3 a4 => hF j ?_) (fun k hk1 => (hs_ua_ne hk1).trans ((hs_ua_ne hk1).trans ((hs_ua_ne hk1).trans (hs_ua_ne hk1)))) (fun j hj => ?_)
    · cases hc : [0, 1, 59, 60, 61].contains j with
      | false => rfl
      | true =>
        have := List.contains_iff_mem.mp hc
        simp only [List.mem_cons, List.not_mem_nil, or_false] at this
        omega
    · rw [hs_ua_k, if_neg (by omega), hs_ua_k, if_neg (by omega), hs_ua_k, if_neg (by omega), hs_ua_k, if_neg (by omega)]
theorem z_seal {S : hs_S} {Q n T : Nat → Int} (hn : tn n) (hv : tvx n T) (h : tS S n T) (g : tR Q n T) (b : Int) : zc_seal S b = zr_seal Q b := by
  have hc := tb_cc hn hv h g
  have hb := tb_bb hn h g
  have e3 : S.1 899 = Q 3 := h.1.1.trans g.1.1.symm
  have e6 : S.1 1411 = Q 6 := h.1.2.2.2.trans g.1.2.2.2.symm
  have b6 := hn.2.2.2
  rw [← g.1.2.2.2] at b6
  unfold zc_seal zr_seal
  rw [e3, e6]
  by_cases c : 0 ≤ b ∧ b < Q 3
  · rw [if_pos c, if_pos c, tb_tf hc hb (Q 6).toNat (by omega)]
  · rw [if_neg c, if_neg c]
/-! all of them -/
def hx_l : List (Nat × Nat) := [(309, 42), (322, 63), (315, 48), (332, 91), (304, 29), (323, 67), (310, 43), (348, 133)]
def hx_c : List Nat := [309, 322, 315, 332, 304, 323, 310, 348]
def hx_r : List Nat := [42, 63, 48, 91, 29, 67, 43, 133]
def hx_of (K : Nat) : Nat := bif K == 42 then 309 else bif K == 63 then 322 else bif K == 48 then 315 else bif K == 91 then 332 else bif K == 29 then 304 else bif K == 67 then 323 else bif K == 43 then 310 else 348
/-- the class's answer, and what it does to counts and tables -/
def cq (K : Nat) (S : hs_S) (n R : Nat → Int) (xs : List Int) : ab_T := match xs with
  | [b, d, k] => (bif K == 323 then zc_held S b d k else zc_broken S b d k, none)
  | [b] => (zc_seal S b, none)
  | _ => ab K n R xs
def rqq (K : Nat) (Q : Nat → Int) (n R : Nat → Int) (xs : List Int) : ab_T := match xs with
  | [b, d, k] => (bif hx_of K == 323 then zr_held Q b d k else zr_broken Q b d k, none)
  | [b] => (zr_seal Q b, none)
  | _ => ab (hx_of K) n R xs
theorem hx_same {K K' : Nat} (hK : (K, K') ∈ hx_l) {S : hs_S} {Q n T : Nat → Int} (hn : tn n) (hv : tvx n T) (h : tS S n T) (g : tR Q n T) (xs : List Int) : cq K S n T xs = rqq K' Q n T xs := by
  have e : hx_of K' = K := (by decide : ∀ q ∈ hx_l, hx_of q.2 = q.1) _ hK
  unfold cq rqq
  rw [e]
  split
  · rw [z_held hn hv h g, z_broken hn hv h g]
  · rw [z_seal hn hv h g]
  · rfl
def hx_as (xs : List Int) : List hs_V := (4, 0) :: xs.map fun z => (0, z)
theorem hx_np : ∀ q ∈ [(309, 2), (322, 5), (315, 5), (332, 2), (304, 2), (323, 3), (42, 2), (63, 5), (48, 5), (91, 2), (29, 2), (67, 3), (310, 3), (43, 3), (348, 1), (133, 1)], pk_np q.1 = q.2 := by decide +kernel
theorem hx_s {xs : List Int} {k : Nat} (h : xs.length = k + 1) : ∃ a r, xs = a :: r ∧ r.length = k := by
  cases xs with
  | nil => cases h
  | cons a r => exact ⟨a, r, rfl, by simpa using h⟩
theorem hx_1 {xs : List Int} (h : xs.length = 1) : ∃ a, xs = [a] := by
  obtain ⟨a, r0, rfl, h0⟩ := hx_s h
  cases List.length_eq_zero_iff.mp h0
  exact ⟨a, rfl⟩
theorem hx_2 {xs : List Int} (h : xs.length = 2) : ∃ a b, xs = [a, b] := by
  obtain ⟨a, r0, rfl, h0⟩ := hx_s h
  obtain ⟨b, r1, rfl, h1⟩ := hx_s h0
  cases List.length_eq_zero_iff.mp h1
  exact ⟨a, b, rfl⟩
theorem hx_3 {xs : List Int} (h : xs.length = 3) : ∃ a b c, xs = [a, b, c] := by
  obtain ⟨a, r0, rfl, h0⟩ := hx_s h
  obtain ⟨b, r1, rfl, h1⟩ := hx_s h0
  obtain ⟨c, r2, rfl, h2⟩ := hx_s h1
  cases List.length_eq_zero_iff.mp h2
  exact ⟨a, b, c, rfl⟩
theorem hx_5 {xs : List Int} (h : xs.length = 5) : ∃ a b c d e, xs = [a, b, c, d, e] := by
  obtain ⟨a, r0, rfl, h0⟩ := hx_s h
  obtain ⟨b, r1, rfl, h1⟩ := hx_s h0
  obtain ⟨c, r2, rfl, h2⟩ := hx_s h1
  obtain ⟨d, r3, rfl, h3⟩ := hx_s h2
  obtain ⟨e, r4, rfl, h4⟩ := hx_s h3
  cases List.length_eq_zero_iff.mp h4
  exact ⟨a, b, c, d, e, rfl⟩
theorem hx_cls {K : Nat} (hK : K ∈ hx_c) {xs : List Int} (hl : xs.length = pk_np K) : ∃ t, hc_C hc_sh K t ∧ ∀ S n R, tn n → tvx n R → uTs S → tS S n R → t (hx_as xs) S (cw S n R (cq K S n R xs)) := by
  simp only [hx_c, List.mem_cons, List.not_mem_nil, or_false] at hK
  rcases hK with rfl | rfl | rfl | rfl | rfl | rfl | rfl | rfl
  · rw [hx_np (309, 2) (by decide)] at hl
    obtain ⟨a, b, rfl⟩ := hx_2 hl
    exact ⟨u_box, d_box, fun S n R hn hv hu h => uw_box hn hu h⟩
  · rw [hx_np (322, 5) (by decide)] at hl
    obtain ⟨a, b, c, d, e, rfl⟩ := hx_5 hl
    exact ⟨u_hand, d_hand, fun S n R hn hv hu h => uw_hand hn hu h⟩
  · rw [hx_np (315, 5) (by decide)] at hl
    obtain ⟨a, b, c, d, e, rfl⟩ := hx_5 hl
    exact ⟨u_count, d_count, fun S n R hn hv hu h => uw_count hn hu h⟩
  · rw [hx_np (332, 2) (by decide)] at hl
    obtain ⟨a, b, rfl⟩ := hx_2 hl
    exact ⟨u_keep, d_keep, fun S n R hn hv hu h => uw_keep hn h⟩
  · rw [hx_np (304, 2) (by decide)] at hl
    obtain ⟨a, b, rfl⟩ := hx_2 hl
    exact ⟨u_alter, d_alter, fun S n R hn hv hu h => uw_alter hn hu h⟩
  · rw [hx_np (323, 3) (by decide)] at hl
    obtain ⟨a, b, c, rfl⟩ := hx_3 hl
    exact ⟨u_held, d_held, fun S n R hn hv hu h => uw_held hu h⟩
  · rw [hx_np (310, 3) (by decide)] at hl
    obtain ⟨a, b, c, rfl⟩ := hx_3 hl
    exact ⟨u_broken, d_broken, fun S n R hn hv hu h => uw_broken hu h⟩
  · rw [hx_np (348, 1) (by decide)] at hl
    obtain ⟨a, rfl⟩ := hx_1 hl
    exact ⟨u_seal, d_seal, fun S n R hn hv hu h => uw_seal hn hv hu h⟩
theorem hx_ref {K : Nat} (hK : K ∈ hx_r) {xs : List Int} (hl : xs.length = pk_np K) : ∃ t, hs_C hs_sh K t ∧ ∀ S n R, tn n → tvx n R → ro (S.2 1) → tR (S.2 1) n R → t (hx_as xs) S (rwq S n R (rqq K (S.2 1) n R xs)) := by
  simp only [hx_r, List.mem_cons, List.not_mem_nil, or_false] at hK
  rcases hK with rfl | rfl | rfl | rfl | rfl | rfl | rfl | rfl
  · rw [hx_np (42, 2) (by decide)] at hl
    obtain ⟨a, b, rfl⟩ := hx_2 hl
    exact ⟨t_box, c_box, fun S n R hn hv hr h => rw_box hn hr h⟩
  · rw [hx_np (63, 5) (by decide)] at hl
    obtain ⟨a, b, c, d, e, rfl⟩ := hx_5 hl
    exact ⟨t_hand, c_hand, fun S n R hn hv hr h => rw_hand hn hr h⟩
  · rw [hx_np (48, 5) (by decide)] at hl
    obtain ⟨a, b, c, d, e, rfl⟩ := hx_5 hl
    exact ⟨t_count, c_count, fun S n R hn hv hr h => rw_count hn hr h⟩
  · rw [hx_np (91, 2) (by decide)] at hl
    obtain ⟨a, b, rfl⟩ := hx_2 hl
    exact ⟨t_keep, c_keep, fun S n R hn hv hr h => rw_keep hn hr h⟩
  · rw [hx_np (29, 2) (by decide)] at hl
    obtain ⟨a, b, rfl⟩ := hx_2 hl
    exact ⟨t_alter, c_alter, fun S n R hn hv hr h => rw_alter hn hr h⟩
  · rw [hx_np (67, 3) (by decide)] at hl
    obtain ⟨a, b, c, rfl⟩ := hx_3 hl
    exact ⟨t_held, c_held, fun S n R hn hv hr h => rw_held hn hr h⟩
  · rw [hx_np (43, 3) (by decide)] at hl
    obtain ⟨a, b, c, rfl⟩ := hx_3 hl
    exact ⟨t_broken, c_broken, fun S n R hn hv hr h => rw_broken hn hr h⟩
  · rw [hx_np (133, 1) (by decide)] at hl
    obtain ⟨a, rfl⟩ := hx_1 hl
    exact ⟨t_seal, c_seal, fun S n R hn hv hr h => rw_seal hn hv hr h⟩
