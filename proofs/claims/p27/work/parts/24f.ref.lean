/-! ===== the reference's parser: what holds between its turns ===== -/
def hs_psh (A : Nat → Nat → Int) (p : Int) (op at' : Int) : Nat → Nat → Int := hs_ua (hs_ua A 10 p.toNat op) 11 p.toNat at'
def hs_emt (A : Nat → Nat → Int) (n : Int) (op ar : Int) : Nat → Nat → Int := hs_ua (hs_ua A 8 n.toNat op) 9 n.toNat ar
theorem psh_10 {A : Nat → Nat → Int} {p op t : Int} {i : Nat} : hs_psh A p op t 10 i = if i = p.toNat then op else A 10 i := by unfold hs_psh; rw [hs_ua_ne (by decide), hs_ua_k]
theorem psh_11 {A : Nat → Nat → Int} {p op t : Int} {i : Nat} : hs_psh A p op t 11 i = if i = p.toNat then t else A 11 i := by unfold hs_psh; rw [hs_ua_k, hs_ua_ne (by decide)]
theorem psh_ne {A : Nat → Nat → Int} {p op t : Int} {k : Nat} (h0 : ¬ k = 10) (h1 : ¬ k = 11) : hs_psh A p op t k = A k := by unfold hs_psh; rw [hs_ua_ne h1, hs_ua_ne h0]
theorem emt_8 {A : Nat → Nat → Int} {n op t : Int} {i : Nat} : hs_emt A n op t 8 i = if i = n.toNat then op else A 8 i := by unfold hs_emt; rw [hs_ua_ne (by decide), hs_ua_k]
theorem emt_9 {A : Nat → Nat → Int} {n op t : Int} {i : Nat} : hs_emt A n op t 9 i = if i = n.toNat then t else A 9 i := by unfold hs_emt; rw [hs_ua_k, hs_ua_ne (by decide)]
theorem emt_ne {A : Nat → Nat → Int} {n op t : Int} {k : Nat} (h0 : ¬ k = 8) (h1 : ¬ k = 9) : hs_emt A n op t k = A k := by unfold hs_emt; rw [hs_ua_ne h1, hs_ua_ne h0]
/-- the pile's and the code's bounds: p on the pile, n of code, c of the row read -/
def pa (p n c1 c2 : Int) (A : Nat → Nat → Int) : Prop := 0 ≤ p ∧ p ≤ c1 ∧ 0 ≤ n ∧ n + gp_c 27 (A 10) p.toNat ≤ c2 ∧ gp_ok p.toNat A
theorem pa.le {p n c1 c2 d1 d2 : Int} {A : Nat → Nat → Int} (h : pa p n c1 c2 A) (h1 : c1 ≤ d1) (h2 : c2 ≤ d2) : pa p n d1 d2 A := ⟨h.1, by have := h.2.1; omega, h.2.2.1, by have := h.2.2.2.1; omega, h.2.2.2.2⟩
theorem pa.push {p n c1 c2 : Int} {A : Nat → Nat → Int} {op t : Int} (h : pa p n c1 c2 A) (hop : 20 ≤ op ∧ op ≤ 31) (ht : 0 ≤ t ∧ t < 400) : pa (p + 1) n (c1 + 1) (c2 + if op ≤ 27 then 1 else 0) (hs_psh A p op t) := by
  obtain ⟨h1, h2, h3, h4, h5⟩ := h
  have e : (p + 1).toNat = p.toNat + 1 := by omega
  have ec : gp_c 27 (hs_psh A p op t 10) p.toNat = gp_c 27 (A 10) p.toNat := gp_c_congr (fun i hi => by rw [psh_10, if_neg (by omega)])
  have e9 : hs_psh A p op t 10 p.toNat = op := by rw [psh_10, if_pos rfl]
  refine ⟨by omega, by omega, h3, ?_, fun i hi => ?_⟩
  · rw [e]
    by_cases h : op ≤ 27
    · rw [gp_c_1 (by rw [e9]; exact h), ec, if_pos h]; omega
    · rw [gp_c_0 (by rw [e9]; omega), ec, if_neg h]; omega
  · rw [psh_10, psh_11]
    by_cases ei : i = p.toNat
    · rw [if_pos ei, if_pos ei]; exact ⟨hop, ht⟩
    · rw [if_neg ei, if_neg ei]; exact h5 i (by omega)
theorem pa.emit {p n c1 c2 : Int} {A : Nat → Nat → Int} {op t : Int} (h : pa p n c1 c2 A) : pa p (n + 1) c1 (c2 + 1) (hs_emt A n op t) := by
  obtain ⟨h1, h2, h3, h4, h5⟩ := h
  refine ⟨h1, h2, by omega, ?_, fun i hi => ?_⟩
  · rw [emt_ne (by decide) (by decide)]; omega
  · rw [emt_ne (by decide) (by decide), emt_ne (by decide) (by decide)]; exact h5 i hi
theorem pa.pop {p n c1 c2 : Int} {A : Nat → Nat → Int} (h : pa p n c1 c2 A) (hp : 1 ≤ p) : pa (p - 1) n c1 c2 A := by
  obtain ⟨h1, h2, h3, h4, h5⟩ := h
  have := gp_c_mono (hi := 27) (f := A 10) (m := (p - 1).toNat) (n := p.toNat) (by omega)
  exact ⟨by omega, by omega, h3, by omega, fun i hi => h5 i (by omega)⟩
theorem pa.set {p n c1 c2 l : Int} {P' N' : Nat} {A A' : Nat → Nat → Int} (h : pa p n c1 c2 A) (hk : k_set l p.toNat n.toNat P' N' A A') : pa P' N' c1 c2 A' := by
  obtain ⟨h1, h2, h3, h4, h5⟩ := h
  obtain ⟨k1, k2, k3, k4, k5, k6, k7⟩ := hk
  have e10 := k4 10 (by decide) (by decide)
  have e11 := k4 11 (by decide) (by decide)
  refine ⟨by omega, by omega, by omega, ?_, fun i hi => ?_⟩
  · rw [e10, show ((P' : Int)).toNat = P' from rfl]; omega
  · rw [e10, e11]; exact h5 i (by omega)
/-- fields: row read so far, from, to, sort, bad, code, leaves, pile, opened -/
def psr (f10 f11 f12 f13 f16 f19 f22 f25 f26 : Int) (A : Nat → Nat → Int) : Prop := (f10 ≤ 400 ∧ 0 ≤ f11 ∧ f11 ≤ f12 ∧ f12 ≤ f10) ∧ (0 ≤ f13 ∧ f13 ≤ 3) ∧ (f13 = 0 → f11 = f10) ∧ (¬ f13 = 0 → f11 < f12) ∧ (f16 = 0 ∨ f16 = 1) ∧ (-f11 ≤ f26 ∧ f26 ≤ 8) ∧ (0 ≤ f22 ∧ f22 ≤ 50) ∧ pa f25 f19 f11 f11 A
def ps (F : Nat → Int) (A : Nat → Nat → Int) : Prop := psr (F 10) (F 11) (F 12) (F 13) (F 16) (F 19) (F 22) (F 25) (F 26) A
def sq (P : Nat) (A : Nat → Nat → Int) : Prop := ∀ i j, i < j → j < P → A 10 i = 31 → (20 ≤ A 10 j ∧ A 10 j ≤ 23) ∨ A 10 j = 31
def nosq (P : Nat) (A : Nat → Nat → Int) : Prop := ∀ i, i < P → ¬ A 10 i = 31
def nobr (P : Nat) (A : Nat → Nat → Int) : Prop := ∀ i, i < P → A 10 i < 30
theorem nosq.sq {P : Nat} {A : Nat → Nat → Int} (h : nosq P A) : sq P A := fun i j h1 h2 h3 => absurd h3 (h i (by omega))
def tvr (a : Nat) (t f16 f19 f25 : Int) (A : Nat → Nat → Int) : Prop := f16 = 0 → (t = 0 ∧ gn a f19.toNat f25.toNat 0 A ∧ nosq f25.toNat A) ∨ (t = 1 ∧ gn a f19.toNat f25.toNat 0 A ∧ sq f25.toNat A) ∨ (t = 2 ∧ gn a f19.toNat f25.toNat 1 A ∧ nosq f25.toNat A) ∨ (t = 3 ∧ gn a f19.toNat f25.toNat 1 A ∧ sq f25.toNat A) ∨ (t = 4 ∧ gn a f19.toNat f25.toNat 1 A ∧ nobr f25.toNat A)
def tv (a : Nat) (t : Int) (F : Nat → Int) (A : Nat → Nat → Int) : Prop := tvr a t (F 16) (F 19) (F 25) A
/-- below a the code stays; so do the other arrays -/
def kp (a : Nat) (f16 : Int) (A A' : Nat → Nat → Int) : Prop := (∀ k, ¬ k = 8 → ¬ k = 9 → ¬ k = 10 → ¬ k = 11 → A' k = A k) ∧ (f16 = 0 → ∀ k, k < a → A' 8 k = A 8 k ∧ A' 9 k = A 9 k)
theorem kp.rf {a : Nat} {f : Int} {A : Nat → Nat → Int} : kp a f A A := ⟨fun _ _ _ _ _ => rfl, fun _ _ _ => ⟨rfl, rfl⟩⟩
theorem kp.tr {a : Nat} {f g : Int} {A B C : Nat → Nat → Int} (h1 : kp a f A B) (h2 : kp a g B C) (hf : g = 0 → f = 0) : kp a g A C := ⟨fun k a b c d => (h2.1 k a b c d).trans (h1.1 k a b c d), fun g0 k hk => ⟨(h2.2 g0 k hk).1.trans (h1.2 (hf g0) k hk).1, (h2.2 g0 k hk).2.trans (h1.2 (hf g0) k hk).2⟩⟩
theorem kp.psh {a : Nat} {f p op t : Int} {A : Nat → Nat → Int} : kp a f A (hs_psh A p op t) := ⟨fun k _ _ h0 h1 => psh_ne h0 h1, fun _ k _ => ⟨by rw [psh_ne (by decide) (by decide)], by rw [psh_ne (by decide) (by decide)]⟩⟩
theorem kp.emt {a : Nat} {f n op t : Int} {A : Nat → Nat → Int} (h : a ≤ n.toNat) : kp a f A (hs_emt A n op t) := ⟨fun k h0 h1 _ _ => emt_ne h0 h1, fun _ k hk => ⟨by rw [emt_8, if_neg (by omega)], by rw [emt_9, if_neg (by omega)]⟩⟩
theorem kp.set {a P N P' N' : Nat} {f l : Int} {A A' : Nat → Nat → Int} (h : k_set l P N P' N' A A') (hg : gn a N P 1 A) : kp a f A A' := by
  obtain ⟨k1, k2, k3, k4, k5, k6, k7⟩ := h
  have := hg.1
  exact ⟨fun k h0 h1 _ _ => k4 k h0 h1, fun _ k hk => ⟨k5 k (by omega), (k6 a hg).2 k hk⟩⟩
theorem gp_26 {f : Nat → Int} {P : Nat} : (gp_c 26 f P : Int) ≥ 0 := by omega
theorem gn_psh {a : Nat} {n p od od' op t : Int} {A : Nat → Nat → Int} (h : gn a n.toNat p.toNat od A) (hp : 0 ≤ p) (hop : ¬ gp_ao op) (hs : od' + (if op ≤ 26 then 1 else 0) = od) : gn a n.toNat (p + 1).toNat od' (hs_psh A p op t) := by
  have e : (p + 1).toNat = p.toNat + 1 := by omega
  have ec : gp_c 26 (hs_psh A p op t 10) p.toNat = gp_c 26 (A 10) p.toNat := gp_c_congr (fun i hi => by rw [psh_10, if_neg (by omega)])
  have e9 : hs_psh A p op t 10 p.toNat = op := by rw [psh_10, if_pos rfl]
  rw [e]
  refine gn_pile h (fun k _ => by rw [psh_ne (by decide) (by decide)]) (fun k _ => by rw [psh_ne (by decide) (by decide)]) (fun i hi _ => by rw [psh_10, if_neg (by omega)]) (fun i hi _ => by rw [psh_11, if_neg (by omega)]) (fun i h1 h2 => by omega) (fun i h1 h2 => ?_) ?_
  · rw [psh_10, if_pos (by omega)]; exact hop
  · by_cases h : op ≤ 26
    · rw [gp_c_1 (by rw [e9]; exact h), ec]; rw [if_pos h] at hs; omega
    · rw [gp_c_0 (by rw [e9]; omega), ec]; rw [if_neg h] at hs; omega
theorem gn_leaf {a : Nat} {n p op t : Int} {A : Nat → Nat → Int} (h : gn a n.toNat p.toNat 0 A) (hn : 0 ≤ n) (hop : 0 ≤ op ∧ op ≤ 16) : gn a (n + 1).toNat p.toNat 1 (hs_emt A n op t) := by
  have e : (n + 1).toNat = n.toNat + 1 := by omega
  rw [e]
  refine gn_ext h (fun k hk => by rw [emt_8, if_neg (by omega)]) (fun k hk => by rw [emt_9, if_neg (by omega)]) (Nat.le_refl _) (fun i _ => by rw [emt_ne (by decide) (by decide)]) (fun i _ => by rw [emt_ne (by decide) (by decide)]) (fun i h1 h2 => by omega) (Or.inl ?_) (by omega)
  rw [emt_8, if_pos rfl]
  omega
theorem gn_ao {a : Nat} {n p op t : Int} {A : Nat → Nat → Int} (h : gn a n.toNat p.toNat 1 A) (hn : 0 ≤ n) (hp : 0 ≤ p) (hop : gp_ao op) : gn a (n + 1).toNat (p + 1).toNat 0 (hs_emt (hs_psh A p op n) n op t) := by
  have e : (n + 1).toNat = n.toNat + 1 := by omega
  have e' : (p + 1).toNat = p.toNat + 1 := by omega
  rw [e, e']
  refine gn_and h (fun k hk => by rw [emt_8, if_neg (by omega), psh_ne (by decide) (by decide)]) (fun k hk => by rw [emt_9, if_neg (by omega), psh_ne (by decide) (by decide)]) (by rw [emt_8, if_pos rfl]; exact hop) (fun i hi => by rw [emt_ne (by decide) (by decide), psh_10, if_neg (by omega)]) (fun i hi => by rw [emt_ne (by decide) (by decide), psh_11, if_neg (by omega)]) (by rw [emt_ne (by decide) (by decide), psh_10, if_pos rfl]; exact hop) (by rw [emt_ne (by decide) (by decide), psh_11, if_pos rfl]; omega)
/-- a bracket is taken off -/
theorem gn_pop {a : Nat} {n p : Int} {A : Nat → Nat → Int} (h : gn a n.toNat p.toNat 1 A) (hp : 1 ≤ p) (hb : 30 ≤ A 10 (p.toNat - 1)) : gn a n.toNat (p - 1).toNat 1 A := by
  have e : p.toNat = (p - 1).toNat + 1 := by omega
  have e2 : p.toNat - 1 = (p - 1).toNat := by omega
  rw [e2] at hb
  refine gn_pile h (fun _ _ => rfl) (fun _ _ => rfl) (fun _ _ _ => rfl) (fun _ _ _ => rfl) (fun i h1 h2 => ?_) (fun i h1 h2 => by omega) ?_
  · rw [show i = (p - 1).toNat by omega]; unfold gp_ao; omega
  · rw [e, gp_c_0 (by omega)]
theorem sq_psh {p op t : Int} {A : Nat → Nat → Int} (hp : 0 ≤ p) (h : sq p.toNat A) (hop : (20 ≤ op ∧ op ≤ 23) ∨ op = 31 ∨ nosq p.toNat A) : sq (p + 1).toNat (hs_psh A p op t) := by
  intro i j h1 h2 h3
  rw [psh_10, if_neg (by omega)] at h3
  rw [psh_10]
  by_cases e : j = p.toNat
  · rw [if_pos e]
    rcases hop with h | h | h
    · exact Or.inl h
    · exact Or.inr h
    · exact absurd h3 (h i (by omega))
  · rw [if_neg e]
    exact h i j h1 (by omega) h3
theorem nosq_psh {p op t : Int} {A : Nat → Nat → Int} (hp : 0 ≤ p) (h : nosq p.toNat A) (hop : ¬ op = 31) : nosq (p + 1).toNat (hs_psh A p op t) := by
  intro i h1
  rw [psh_10]
  by_cases e : i = p.toNat
  · rw [if_pos e]; exact hop
  · rw [if_neg e]; exact h i (by omega)
theorem nosq_e {P P' : Nat} {A A' : Nat → Nat → Int} (h : nosq P A) (hp : P' ≤ P) (e : A' 10 = A 10) : nosq P' A' := fun i hi => by rw [e]; exact h i (by omega)
theorem sq_e {P P' : Nat} {A A' : Nat → Nat → Int} (h : sq P A) (hp : P' ≤ P) (e : A' 10 = A 10) : sq P' A' := fun i j h1 h2 h3 => by rw [e] at h3 ⊢; exact h i j h1 (by omega) h3
theorem nobr_e {P P' : Nat} {A A' : Nat → Nat → Int} (h : nobr P A) (hp : P' ≤ P) (e : A' 10 = A 10) : nobr P' A' := fun i hi => by rw [e]; exact h i (by omega)
/-- the innermost bracket isn't a square one: none is -/
theorem sq_nosq {P : Nat} {A : Nat → Nat → Int} {r : Int} (h : sq P A) (hk : k_inn (A 10) P r) (hr : ¬ r = 31) : nosq P A := by
  intro i hi e
  rcases hk with ⟨-, h2⟩ | ⟨m, h1, h2, h3, h4⟩
  · have := h2 i hi; omega
  · by_cases e1 : i = m
    · subst e1; omega
    · by_cases e2 : i < m
      · have := h i m e2 h1 e; omega
      · have := h4 i (by omega) hi; omega
/-- settled down to the innermost bracket, a square one -/
theorem sq_top {P N P' N' : Nat} {A A' : Nat → Nat → Int} {r : Int} (h : sq P A) (hk : k_inn (A 10) P r) (hr : r = 31) (hs : k_set 5 P N P' N' A A') (ht : P' = 0 ∨ gp_b (A 10 (P' - 1)) < 5) : 1 ≤ P' ∧ A 10 (P' - 1) = 31 := by
  obtain ⟨k1, k2, k3, k4, k5, k6, k7⟩ := hs
  rcases hk with ⟨h1, -⟩ | ⟨m, h1, h2, h3, h4⟩
  · omega
  · have hm : m < P' := Nat.lt_of_not_le (fun hc => by
      have := k7 m hc h1
      unfold gp_b at this
      rw [if_pos h2] at this
      omega)
    have ht' : gp_b (A 10 (P' - 1)) < 5 := by rcases ht with ht | ht; omega; exact ht
    refine ⟨by omega, ?_⟩
    by_cases e : P' - 1 = m
    · rw [e]; omega
    · exfalso
      have hx := h m (P' - 1) (by omega) (by omega) (by omega)
      have hy := h4 (P' - 1) (by omega) (by omega)
      unfold gp_b at ht'
      split at ht'
      · omega
      · split at ht'
        · omega
        · split at ht'
          · omega
          · split at ht'
            · omega
            · split at ht'
              · omega
              · split at ht' <;> omega
/-- settled down to a bracket -/
theorem br_top {P N P' N' : Nat} {A A' : Nat → Nat → Int} {r : Int} (hok : gp_ok P A) (hk : k_inn (A 10) P r) (hr : ¬ r = -1) (hs : k_set 1 P N P' N' A A') (ht : P' = 0 ∨ gp_b (A 10 (P' - 1)) < 1) : 1 ≤ P' ∧ 30 ≤ A 10 (P' - 1) := by
  obtain ⟨k1, k2, k3, k4, k5, k6, k7⟩ := hs
  rcases hk with ⟨h1, -⟩ | ⟨m, h1, h2, h3, h4⟩
  · omega
  · have hm : m < P' := Nat.lt_of_not_le (fun hc => by
      have := k7 m hc h1
      unfold gp_b at this
      rw [if_pos h2] at this
      omega)
    have ht' : gp_b (A 10 (P' - 1)) < 1 := by rcases ht with ht | ht; omega; exact ht
    refine ⟨by omega, ?_⟩
    unfold gp_b at ht'
    split at ht'
    · assumption
    · split at ht'
      · omega
      · split at ht'
        · omega
        · split at ht'
          · omega
          · split at ht'
            · omega
            · split at ht' <;> omega
