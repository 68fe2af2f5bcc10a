/-! ===== one held state says less than another: what a loop keeps, what ways that meet have in common ===== -/
abbrev ai_Pl : Type := List Nat × Nat
/-- what is kept: places whose numbers become tokens, these tokens' bounds, locals, cells, what stands on the stack (a tag from 12 on names a new token) -/
abbrev ai_Iv : Type := List ai_Pl × List (Int × Int × Nat) × List (Nat × Option ai_V) × List (List Nat × ((Nat × ai_V) ⊕ (ai_V × List (Nat × ai_V)))) × Option (List ai_V)
/-- a cell, by fields from another on -/
def ai_phf (aw : ai_W) : Nat → List Nat → Option Nat
  | k, [] => some k
  | k, f :: fs => (aw[k]?).bind fun c => match c with
    | .inl (_, vs) => (vs[f]?).bind fun v => ai_gd (ai_isR v) (ai_phf aw v.2.1 fs)
    | .inr _ => none
def ai_ph (als : ai_L) (aw : ai_W) (p : List Nat) : Option Nat := match p with
  | [] => none
  | i :: fs => bif Nat.ble 1000 i then ai_phf aw (i - 1000) fs else (ai_lk als i).bind fun v => ai_gd (ai_isR v) (ai_phf aw v.2.1 fs)
/-- at a place a number that is told by a token becomes one of its own -/
def ai_matp (G : ai_G) (v : ai_V) : Option (ai_G × ai_V) := match ai_mat G v with
  | some q => some q
  | none => bif v.1 == 8 || v.1 == 9 then some (G ++ [((ai_b G v).1, (ai_b G v).2, 0)], (2, G.length, 0, 1)) else none
/-- the number at a place becomes a token -/
def ai_mp1 (G : ai_G) (x : ai_S) (pl : ai_Pl) : Option (ai_G × ai_S × ai_V) := match pl.1 with
  | [] => (ai_lk x.1 pl.2).bind fun v => match ai_matp G v with
    | none => some (G, x, v)
    | some q => some (q.1, (ai_rl pl.2 q.2 x.1, x.2), q.2)
  | p => (ai_ph x.1 x.2.2.1 p).bind fun k => (x.2.2.1[k]?).bind fun c => match c with
    | .inl (ci, fs) => (fs[pl.2]?).bind fun v => match ai_mat G v with
      | none => some (G, x, v)
      | some q => some (q.1, (x.1, x.2.1, x.2.2.1.set k (.inl (ci, fs.set pl.2 q.2)), x.2.2.2), q.2)
    | .inr _ => none
def ai_mps : List ai_Pl → ai_G → ai_S → Option (ai_G × ai_S × List ai_V)
  | [], G, x => some (G, x, [])
  | pl :: r, G, x => (ai_mp1 G x pl).bind fun q => (ai_mps r q.1 q.2.1).bind fun q2 => some (q2.1, q2.2.1, q.2.2 :: q2.2.2)
def ai_vz (u : Value) : Int := match u with
  | .int x => x.toInt
  | .long x => x.toInt
  | _ => 0
def ai_mores (ρ : ai_Rh) : Nat → List Int → ai_Rh
  | _, [] => ρ
  | n, z :: zs => ai_mores (ai_more ρ n z) (n + 1) zs
/-- new tokens' numbers are in their bounds -/
def ai_nchk (G : ai_G) : List ai_V → List (Int × Int × Nat) → Bool
  | [], [] => true
  | v :: vs, q :: qs => (ai_isI v || ai_isL v) && (decide (q.1 ≤ (ai_b G v).1) && (decide ((ai_b G v).2 ≤ q.2.1) && (q.2.2 == 0 && ai_nchk G vs qs)))
  | _, _ => false
/-- y's number is m times cv's and a more -/
def ai_lin (G : ai_G) (y cv : ai_V) (a m : Int) : Bool :=
  bif (cv.1 == 2 || cv.1 == 3) && (y.1 == 2 || y.1 == 3) then y.2.1 == cv.2.1 && (decide (y.2.2.2 = m * cv.2.2.2) && decide (y.2.2.1 = m * cv.2.2.1 + a))
  else decide ((ai_b G y).1 = (ai_b G y).2) && (decide ((ai_b G cv).1 = (ai_b G cv).2) && decide ((ai_b G y).1 = m * (ai_b G cv).1 + a))
def ai_sb (G : ai_G) (nG : Nat) (cvs : List ai_V) (y w : ai_V) : Bool := match w.1 with
  | 0 => ai_isI y && (decide (w.2.2.1 ≤ (ai_b G y).1) && decide ((ai_b G y).2 ≤ w.2.2.2))
  | 1 => ai_isL y && (decide (w.2.2.1 ≤ (ai_b G y).1) && decide ((ai_b G y).2 ≤ w.2.2.2))
  | 2 => bif decide (w.2.1 < nG) then y == w else match cvs[w.2.1 - nG]? with
    | some cv => ai_isI y && ((ai_isI cv || ai_isL cv) && ai_lin G y cv w.2.2.1 w.2.2.2)
    | none => false
  | 3 => bif decide (w.2.1 < nG) then y == w else match cvs[w.2.1 - nG]? with
    | some cv => ai_isL y && ((ai_isI cv || ai_isL cv) && ai_lin G y cv w.2.2.1 w.2.2.2)
    | none => false
  | 4 => y == w
  | 5 => y == w
  | 6 => decide (w.2.1 < nG) && y == w
  | 7 => y == w
  | 8 => bif decide (w.2.1 < nG) then y == w else match cvs[w.2.1 - nG]? with
    | some cv => ai_isI y && ((ai_isI cv || ai_isL cv) && (decide (w.2.2.1 ≤ (ai_b G y).1) && ((y.1 == 2 && (cv.1 == 2 && (y.2.1 == cv.2.1 && (decide (y.2.2.2 = cv.2.2.2) && decide (y.2.2.1 ≤ cv.2.2.1 + w.2.2.2))))) || ((y.1 == 8 && (cv.1 == 2 && (y.2.1 == cv.2.1 && (decide (cv.2.2.2 = 1) && decide (y.2.2.2 ≤ cv.2.2.1 + w.2.2.2))))) || decide ((ai_b G y).2 ≤ (ai_b G cv).1 + w.2.2.2)))))
    | none => false
  | _ => false
def ai_sbe (G : ai_G) (nG : Nat) (cvs : List ai_V) (y w : ai_V) : Bool := bif y.1 == 10 || w.1 == 10 then y == w else ai_sb G nG cvs y w
/-- at a place that is told apart -/
def ai_sbp (G : ai_G) (nG : Nat) (cvs : List ai_V) (j : Nat) (y w : ai_V) : Bool := bif w.1 == 10 && !(y.1 == 10) then ai_isI y && ai_sw w.2.1 G (ai_lI j) y else ai_sbe G nG cvs y w
def ai_all2 {α : Type} (f : α → α → Bool) : List α → List α → Bool
  | [], [] => true
  | a :: as, b :: bs => f a b && ai_all2 f as bs
  | _, _ => false
def ai_sbc (G : ai_G) (nG : Nat) (cvs : List ai_V) (y w : ai_C) : Bool := match y, w with
  | .inl (ci, fs), .inl (ci', fs') => ci == ci' && ai_all2 (ai_sb G nG cvs) fs fs'
  | .inr (t, n, d, ov), .inr (t', n', d', ov') => t == t' && (n == n' && (ai_sbe G nG cvs d d' && (ov.all (fun q => ai_sbp G nG cvs q.1 q.2 (ai_look d' ov' q.1)) && ov'.all (fun q => ai_sbp G nG cvs q.1 (ai_look d ov q.1) q.2))))
  | _, _ => false
def ai_sbs (G : ai_G) (nG : Nat) (cvs : List ai_V) (y w : ai_S) : Bool :=
  w.1.all (fun q => match ai_lk y.1 q.1 with
    | some v => ai_sb G nG cvs v q.2
    | none => false) && (ai_all2 (ai_sb G nG cvs) y.2.1 w.2.1 && (ai_all2 (ai_sbc G nG cvs) y.2.2.1 w.2.2.1 && (decide (y.2.2.2.1 ≤ w.2.2.2.1) && decide (y.2.2.2.2 ≤ w.2.2.2.2))))
def ai_new (nG : Nat) (w : ai_V) : ai_V := bif decide (12 ≤ w.1) then (w.1 - 10, nG + w.2.1, w.2.2) else w
def ai_ivl (als : ai_L) (nG : Nat) : List (Nat × Option ai_V) → Option ai_L
  | [] => some []
  | (i, o) :: r => (ai_ivl als nG r).bind fun t => match o with
    | some w => some ((i, ai_new nG w) :: t)
    | none => (ai_lk als i).bind fun v => some ((i, v) :: t)
def ai_ivc (als : ai_L) (aw0 : ai_W) (nG : Nat) : List (List Nat × ((Nat × ai_V) ⊕ (ai_V × List (Nat × ai_V)))) → ai_W → Option ai_W
  | [], aw => some aw
  | (p, q) :: r, aw => (ai_ph als aw0 p).bind fun k => (aw[k]?).bind fun c => match q, c with
    | .inl (f, w), .inl (ci, fs) => ai_ivc als aw0 nG r (aw.set k (.inl (ci, fs.set f (ai_new nG w))))
    | .inr (d, ov), .inr (t, n, _, _) => ai_ivc als aw0 nG r (aw.set k (.inr (t, n, ai_new nG d, ov.map fun q => (q.1, ai_new nG q.2))))
    | _, _ => none
/-- the state that is kept, out of the one that arrives -/
def ai_inv (nG : Nat) (x : ai_S) (a : ai_Iv) : Option ai_S := (ai_ivl x.1 nG a.2.2.1).bind fun l => (ai_ivc x.1 x.2.2.1 nG a.2.2.2.1 x.2.2.1).bind fun aw => some (l, (match a.2.2.2.2 with
  | some st => st.map (ai_new nG)
  | none => x.2.1), aw, x.2.2.2)
/-- a state comes under the kept one: what the new tokens are then -/
def ai_hd (a : ai_Iv) (nG : Nat) (iv : ai_S) (G : ai_G) (y : ai_S) : Option (List ai_V) := (ai_mps a.1 G y).bind fun q => ai_gd (ai_nchk q.1 q.2.2 a.2.1 && ai_sbs q.1 nG q.2.2 q.2.1 iv) (some q.2.2)
section ASB
variable {ρ σ τ : ai_Rh} {sb : ai_SB} {ad : List Nat} {G : ai_G} {nG : Nat} {cvs : List ai_V} {us : List Value}
theorem ai_mores_le : ∀ {zs : List Int} {ρ : ai_Rh} {G : ai_G} {qs : List (Int × Int × Nat)}, ai_gok ρ G → ai_F2 (fun (q : Int × Int × Nat) (z : Int) => q.1 ≤ z ∧ z ≤ q.2.1 ∧ q.2.2 = 0) qs zs → ai_gok (ai_mores ρ G.length zs) (G ++ qs) ∧ ai_le ρ (ai_mores ρ G.length zs) ∧ ∀ (j : Nat) (z : Int), zs[j]? = some z → ai_mores ρ G.length zs (G.length + j) = some z
  | [], ρ, G, qs, h, hq => by
    match qs, hq with
    | [], _ => exact ⟨by rw [List.append_nil]; exact h, ai_le.rf, fun j z hj => by simp at hj⟩
  | z :: zs, ρ, G, qs, h, hq => by
    match qs, hq with
    | q :: qs, hq =>
      have h1 := ai_more_ok (q := q) h hq.1.1 hq.1.2.1 (ai_kp0 hq.1.2.2)
      obtain ⟨g1, g2, g3⟩ := ai_mores_le h1 hq.2
      rw [List.length_append, List.length_singleton] at g1 g2 g3
      refine ⟨by rw [List.append_assoc] at g1; exact g1, (ai_more_le h z).tr g2, fun j w hj => ?_⟩
      cases j with
      | zero =>
        have e : z = w := by simpa using hj
        subst e
        exact g2 _ _ ai_more_at
      | succ j =>
        have := g3 j w (by simpa using hj)
        rw [show G.length + (j + 1) = G.length + 1 + j by omega]
        exact this
theorem ai_num {y : ai_V} {v : Value} (hG : ai_gok σ G) (h : ai_mt σ sb ad y v) (hy : (ai_isI y || ai_isL y) = true) : ((ai_b G y).1 ≤ ai_vz v ∧ ai_vz v ≤ (ai_b G y).2) ∧ ai_nm σ y (ai_vz v) := by
  rw [Bool.or_eq_true] at hy
  rcases hy with hy | hy
  · obtain ⟨x, rfl, h1, h2⟩ := ai_int' hG h hy
    exact ⟨h1, h2⟩
  · obtain ⟨x, rfl, h1, h2⟩ := ai_lng' hG h hy
    exact ⟨h1, h2⟩
theorem ai_lin_ok {y cv : ai_V} {v u : Value} {a m : Int} (hG : ai_gok σ G) (hy : ai_mt σ sb ad y v) (iy : (ai_isI y || ai_isL y) = true) (hc : ai_mt σ sb ad cv u) (ic : (ai_isI cv || ai_isL cv) = true) (h : ai_lin G y cv a m = true) : ai_vz v = m * ai_vz u + a := by
  obtain ⟨by1, ny⟩ := ai_num hG hy iy
  obtain ⟨bc1, nc⟩ := ai_num hG hc ic
  unfold ai_lin at h
  cases hh : ((cv.1 == 2 || cv.1 == 3) && (y.1 == 2 || y.1 == 3)) with
  | true =>
    rw [hh, cond_true] at h
    simp only [Bool.and_eq_true, Bool.or_eq_true, beq_iff_eq, decide_eq_true_eq] at hh h
    obtain ⟨z1, e1, e2⟩ := ny hh.2
    obtain ⟨z2, e3, e4⟩ := nc hh.1
    rw [h.1] at e1
    cases e1.symm.trans e3
    rw [e2, e4, h.2.1, h.2.2, Int.mul_add, Int.mul_assoc, Int.add_assoc]
  | false =>
    rw [hh, cond_false] at h
    simp only [Bool.and_eq_true, decide_eq_true_eq] at h
    obtain ⟨h1, h2, h3⟩ := h
    have e1 : ai_vz v = (ai_b G y).1 := by omega
    have e2 : ai_vz u = (ai_b G cv).1 := by omega
    rw [e1, e2, h3]
theorem ai_sb_ok {y w : ai_V} {v : Value} (hG : ai_gok σ G) (hag : ∀ t z, t < nG → σ t = some z → τ t = some z) (hcv : ai_F2 (ai_mt σ sb ad) cvs us) (hnw : ∀ (j : Nat) (u : Value), us[j]? = some u → τ (nG + j) = some (ai_vz u)) (h : ai_sb G nG cvs y w = true) (hm : ai_mt σ sb ad y v) : ai_mt τ sb ad w v := by
  obtain ⟨n, t, lo, hi⟩ := w
  unfold ai_sb at h
  dsimp only at h
  split at h
  · simp only [Bool.and_eq_true, decide_eq_true_eq] at h
    obtain ⟨x, rfl, h1, -⟩ := ai_int' hG hm h.1
    exact ⟨x, rfl, by omega, by omega⟩
  · simp only [Bool.and_eq_true, decide_eq_true_eq] at h
    obtain ⟨x, rfl, h1, -⟩ := ai_lng' hG hm h.1
    exact ⟨x, rfl, by omega, by omega⟩
  · cases ht : decide (t < nG) with
    | true =>
      rw [ht, cond_true] at h
      have e := eq_of_beq h
      subst e
      obtain ⟨x, z, e1, e2, e3⟩ := hm
      exact ⟨x, z, e1, hag _ _ (of_decide_eq_true ht) e2, e3⟩
    | false =>
      rw [ht, cond_false] at h
      split at h
      · rename_i cv hc
        simp only [Bool.and_eq_true] at h
        obtain ⟨h1, h2, h3⟩ := h
        obtain ⟨u, hu, mu⟩ := hcv.get hc
        have key := ai_lin_ok hG hm (by rw [h1]; rfl) mu h2 h3
        obtain ⟨x, rfl, -⟩ := ai_int' hG hm h1
        have e5 : nG + (t - nG) = t := by have := of_decide_eq_false ht; omega
        exact ⟨x, ai_vz u, rfl, by rw [← e5]; exact hnw _ _ hu, key⟩
      · cases h
  · cases ht : decide (t < nG) with
    | true =>
      rw [ht, cond_true] at h
      have e := eq_of_beq h
      subst e
      obtain ⟨x, z, e1, e2, e3⟩ := hm
      exact ⟨x, z, e1, hag _ _ (of_decide_eq_true ht) e2, e3⟩
    | false =>
      rw [ht, cond_false] at h
      split at h
      · rename_i cv hc
        simp only [Bool.and_eq_true] at h
        obtain ⟨h1, h2, h3⟩ := h
        obtain ⟨u, hu, mu⟩ := hcv.get hc
        have key := ai_lin_ok hG hm (by rw [h1, Bool.or_true]) mu h2 h3
        obtain ⟨x, rfl, -⟩ := ai_lng' hG hm h1
        have e5 : nG + (t - nG) = t := by have := of_decide_eq_false ht; omega
        exact ⟨x, ai_vz u, rfl, by rw [← e5]; exact hnw _ _ hu, key⟩
      · cases h
  · have e := eq_of_beq h
    subst e
    exact hm
  · have e := eq_of_beq h
    subst e
    exact hm
  · rw [Bool.and_eq_true] at h
    have e := eq_of_beq h.2
    subst e
    obtain ⟨x, z, e1, e2, e3⟩ := hm
    exact ⟨x, z, e1, hag _ _ (of_decide_eq_true h.1) e2, e3⟩
  · have e := eq_of_beq h
    subst e
    exact hm
  · cases ht : decide (t < nG) with
    | true =>
      rw [ht, cond_true] at h
      have e := eq_of_beq h
      subst e
      obtain ⟨x, z, e1, e2, e3⟩ := hm
      exact ⟨x, z, e1, hag _ _ (of_decide_eq_true ht) e2, e3⟩
    | false =>
      rw [ht, cond_false] at h
      split at h
      · rename_i cv hc
        simp only [Bool.and_eq_true, Bool.or_eq_true, decide_eq_true_eq, beq_iff_eq] at h
        obtain ⟨h1, h2, h3, h4⟩ := h
        obtain ⟨u, hu, mu⟩ := hcv.get hc
        obtain ⟨bc1, nc⟩ := ai_num hG mu (by rw [Bool.or_eq_true]; exact h2)
        obtain ⟨x, rfl, by1, ny⟩ := ai_int' hG hm h1
        have e5 : nG + (t - nG) = t := by have := of_decide_eq_false ht; omega
        refine ⟨x, ai_vz u, rfl, by rw [← e5]; exact hnw _ _ hu, by omega, ?_⟩
        rcases h4 with ⟨g1, g2, g3, g4, g5⟩ | ⟨g1, g2, g3, g4, g5⟩ | g
        · obtain ⟨z1, a1, a2⟩ := ny (Or.inl g1)
          obtain ⟨z2, a3, a4⟩ := nc (Or.inl g2)
          rw [g3] at a1
          cases a1.symm.trans a3
          rw [g4] at a2
          omega
        · obtain ⟨z2, a3, a4⟩ := nc (Or.inl g2)
          obtain ⟨n8, t8, l8, c8⟩ := y
          dsimp only at g1 g3 g5
          subst g1
          obtain ⟨x', w', e, q1, q2, q3⟩ := hm
          cases e
          rw [g3] at q1
          cases q1.symm.trans a3
          rw [g4] at a4
          omega
        · omega
      · cases h
  · cases h
end ASB
