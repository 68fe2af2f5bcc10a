/-! ===== the bridge with tokens at places of the row: contracts by hand ===== -/
theorem bh_deq {ρ : ai_Rh} {S S1 : hs_S} {k : Nat} {x : ai_C} (e : S1.2 k = S.2 k) (h : bh_d ρ S k x) : bh_d ρ S1 k x := by
  unfold bh_d bh_ov at h ⊢
  rw [e]
  exact h
theorem bh_dup {ρ σ : ai_Rh} {S : hs_S} {k : Nat} {x : ai_C} (hr : ai_le ρ σ) (h : bh_d ρ S k x) : bh_d σ S k x := by
  unfold bh_d at h ⊢
  split at h
  · refine ⟨fun q hq => ?_, h.2⟩
    obtain ⟨h1, t, h2, h3⟩ := h.1 q hq
    exact ⟨h1, t, h2, hr _ _ h3⟩
  · exact h
  · exact h
  · trivial
  · exact h.elim
/-- tokens at different places -/
def bh_ok (n : Nat) : List (Nat × ai_V) → Bool
  | [] => true
  | (k, v) :: r => Nat.blt k n && (v.1 == 2 && (v.2.2.1 == 0 && (v.2.2.2 == 1 && (r.all (fun q => !(q.1 == k)) && bh_ok n r))))
theorem bh_okm {n : Nat} : ∀ {ov : List (Nat × ai_V)}, bh_ok n ov = true → ∀ q ∈ ov, q.1 < n ∧ (∃ t : Nat, q.2 = (2, t, 0, 1)) ∧ ∀ r ∈ ov, r.1 = q.1 → r.2 = q.2
  | [], _, q, hq => by cases hq
  | (k, v) :: r, h, q, hq => by
    unfold bh_ok at h
    simp only [Bool.and_eq_true, beq_iff_eq] at h
    obtain ⟨h1, h2, h3, h4, h5, h6⟩ := h
    have h5' : ∀ q ∈ r, ¬ q.1 = k := fun q hq e => by
      have := List.all_eq_true.mp h5 q hq
      rw [beq_iff_eq.mpr e] at this
      cases this
    rcases List.mem_cons.mp hq with rfl | hq
    · refine ⟨Nat.le_of_ble_eq_true h1, ?_, fun r' hr e => ?_⟩
      · obtain ⟨n0, t, c, m⟩ := v
        dsimp only at h2 h3 h4
        subst h2 h3 h4
        exact ⟨t, rfl⟩
      · rcases List.mem_cons.mp hr with rfl | hr
        · rfl
        · exact absurd e (h5' r' hr)
    · obtain ⟨g1, g2, g3⟩ := bh_okm h6 q hq
      refine ⟨g1, g2, fun r' hr e => ?_⟩
      rcases List.mem_cons.mp hr with rfl | hr
      · exact absurd e.symm (h5' q hq)
      · exact g3 r' hr e
/-- the token at a place of the row is in the bounds of that place -/
def bh_sp (G : ai_G) (p : Nat) (v : ai_V) : Bool := match G[v.2.1]? with
  | some q => ai_rg.all (fun r => !(decide (r.1 ≤ p) && decide (p < r.2.1)) || (decide ((ai_gc r.1 ((p - r.1) % r.2.2)).1 ≤ q.1) && decide (q.2.1 ≤ (ai_gc r.1 ((p - r.1) % r.2.2)).2)))
  | none => false
theorem bh_sp_ok {ρ : ai_Rh} {G : ai_G} {p t : Nat} {z : Int} (hG : ai_gok ρ G) (h : bh_sp G p (2, t, 0, 1) = true) (hz : ρ t = some z) : ai_sp 1 p z := by
  intro _ r hr h1 h2
  unfold bh_sp at h
  split at h
  · rename_i q hq
    obtain ⟨z', e, g1, g2, -⟩ := hG.at (show G[t]? = some q from hq)
    rw [hz] at e
    cases e
    have := List.all_eq_true.mp h r hr
    rw [decide_eq_true h1, decide_eq_true h2] at this
    simp only [Bool.and_true, Bool.not_true, Bool.false_or, Bool.and_eq_true, decide_eq_true_eq] at this
    omega
  · cases h
/-- a row is one, whatever is known of some of its places -/
theorem bh_ro {ρ : ai_Rh} {sb : ai_SB} {G : ai_G} {aw : ai_W} {tys : List (ClassId × FieldType)} {ws : va_W} {k : Nat} {l h : Int} {ov : List (Nat × ai_V)} (hG : ai_gok ρ G) (ho : bh_ok 23016 ov = true) (hp : ov.all (fun q => bh_sp G q.1 q.2) = true) (hW : ai_ws ρ sb tys aw ws) (hk : aw[k]? = some (.inr (0, 23016, (10, 1, l, h), ov))) : ro ((bg_S ws).2 k) := by
  obtain ⟨q, hq, cA, f, t0, e, -, h2, h3⟩ := hW.2 k _ hk
  have e1 : ∀ j, (bg_S ws).2 k j = (f j).toInt := fun j => by
    rw [bg_S2 hq j, e]
    rfl
  refine ro_of_sp (fun j hj => ?_) ?_
  · rcases bh_lk (d := (10, 1, l, h)) ov j with ⟨q', hq', rfl, e2⟩ | e2
    · obtain ⟨g1, ⟨t, g2⟩, g3⟩ := bh_okm ho q' hq'
      have g4 := bh_row hW hk q' hq' t g2 g1 g3
      have g5 := List.all_eq_true.mp hp q' hq'
      rw [g2] at g5
      exact bh_sp_ok hG g5 g4
    · rw [e1]
      have := h2 j hj
      rw [e2] at this
      unfold ai_el at this
      rw [if_pos rfl] at this
      obtain ⟨x, ex, hx⟩ := this
      cases ex
      exact hx
  · have := h3 rfl rfl
    have e2 : (fun j => (bg_S ws).2 k (5056 + j)) = fun j => (f (5056 + j)).toInt := funext fun j => e1 _
    rw [e2]
    exact this
/-- a token's bounds are the array's -/
def bh_bd (G : ai_G) (d v : ai_V) : Bool := match G[v.2.1]? with
  | some q => decide (d.2.2.1 ≤ q.1) && decide (q.2.1 ≤ d.2.2.2)
  | none => false
def bh_dk (G : ai_G) (x : ai_C) : Bool := match x with
  | .inr (0, n, d, ov) => (d.1 == 0 && (bh_ok n ov && ov.all (fun q => bh_bd G d q.2))) || ((d.1 == 10 && (d.2.1 == 1 && n == 23016)) && (bh_ok 23016 ov && ov.all (fun q => bh_sp G q.1 q.2)))
  | .inr (1, _, d, ov) => ov.isEmpty && d.1 == 1
  | .inr (2, _, d, ov) => ov.isEmpty && d.1 == 0
  | .inr (5, _, _, _) => true
  | _ => false
def bh_df (x : ai_C) : Bool := match x with
  | .inr (0, _, d, ov) => ov.isEmpty && d == (0, 0, -2147483648, 2147483647)
  | .inr (1, _, d, ov) => ov.isEmpty && d == (1, 0, -9223372036854775808, 9223372036854775807)
  | _ => false
theorem bh_std {ρ : ai_Rh} {sb : ai_SB} {G : ai_G} {aw : ai_W} {tys : List (ClassId × FieldType)} {ws : va_W} {k : Nat} {x : ai_C} (hG : ai_gok ρ G) (hW : ai_ws ρ sb tys aw ws) (hk : aw[k]? = some x) (h : bh_dk G x = true) : bh_d ρ (bg_S ws) k x := by
  obtain ⟨q, hq, hm⟩ := hW.2 k x hk
  unfold bh_dk at h
  split at h
  · rename_i n d ov
    simp only [Bool.and_eq_true, Bool.or_eq_true, beq_iff_eq, List.isEmpty_iff] at h
    obtain ⟨t, a, l, u⟩ := d
    rcases h with ⟨hd, ho, hp⟩ | ⟨⟨h1, h2, h3⟩, ho, hp⟩
    · dsimp only at hd
      subst hd
      refine ⟨fun q hq => ?_, Or.inl ⟨rfl, fun j hj _ => ?_⟩⟩
      · obtain ⟨g1, ⟨t', g2⟩, g3⟩ := bh_okm ho q hq
        exact ⟨Or.inr rfl, t', g2, bh_row hW hk q hq t' g2 g1 g3⟩
      · rcases bh_lk (d := (0, a, l, u)) ov j with ⟨q', hq', rfl, e2⟩ | e2
        · obtain ⟨g1, ⟨t', g2⟩, g3⟩ := bh_okm ho q' hq'
          have g4 := bh_row hW hk q' hq' t' g2 g1 g3
          have g5 := List.all_eq_true.mp hp q' hq'
          rw [g2] at g5
          unfold bh_bd at g5
          split at g5
          · rename_i r hr
            obtain ⟨z', e, b1, b2, -⟩ := hG.at (show G[t']? = some r from hr)
            rw [g4] at e
            cases e
            simp only [Bool.and_eq_true, decide_eq_true_eq] at g5
            exact ⟨Int.le_trans g5.1 b1, Int.le_trans b2 g5.2⟩
          · cases g5
        · obtain ⟨cA, f, t0, e, -, h2, -⟩ := hm
          rw [bg_S2 hq j, e]
          have := h2 j hj
          rw [e2] at this
          obtain ⟨x, e1, e3⟩ := bg_el this
          cases e1
          exact e3
    · dsimp only at h1 h2
      subst h1 h2 h3
      refine ⟨fun q hq => ?_, Or.inr ⟨rfl, rfl, rfl, bh_ro hG ho hp hW hk⟩⟩
      obtain ⟨g1, ⟨t, g2⟩, g3⟩ := bh_okm ho q hq
      exact ⟨Or.inl rfl, t, g2, bh_row hW hk q hq t g2 g1 g3⟩
  · rename_i n d ov
    simp only [Bool.and_eq_true, beq_iff_eq, List.isEmpty_iff] at h
    obtain ⟨rfl, hd⟩ := h
    obtain ⟨t, a, l, u⟩ := d
    dsimp only at hd
    subst hd
    refine ⟨rfl, rfl, fun j hj _ => ?_⟩
    obtain ⟨cA, f, t0, e, -, h2⟩ := hm
    rw [bg_S2 hq j, e]
    obtain ⟨x, e1, e2⟩ := bg_el1' (h2 j hj)
    cases e1
    exact e2
  · rename_i n d ov
    simp only [Bool.and_eq_true, beq_iff_eq, List.isEmpty_iff] at h
    obtain ⟨rfl, hd⟩ := h
    obtain ⟨t, a, l, u⟩ := d
    dsimp only at hd
    subst hd
    exact ⟨rfl, rfl, fun j hj _ => bg_rng hW (Or.inr rfl) hk j hj⟩
  · trivial
  · cases h
theorem bh_full {σ : ai_Rh} {S : hs_S} {k : Nat} {x : ai_C} (h : bh_df x = true) : bh_d σ S k x := by
  unfold bh_df at h
  split at h
  · rename_i n d ov
    simp only [Bool.and_eq_true, beq_iff_eq, List.isEmpty_iff] at h
    obtain ⟨rfl, rfl⟩ := h
    exact ⟨fun q hq => (by cases hq), Or.inl ⟨rfl, fun j _ hi => hi⟩⟩
  · rename_i n d ov
    simp only [Bool.and_eq_true, beq_iff_eq, List.isEmpty_iff] at h
    obtain ⟨rfl, rfl⟩ := h
    exact ⟨rfl, rfl, fun j _ hi => hi⟩
  · cases h
/-- a state in whole numbers comes back to a held world -/
theorem bh_bk {σ : ai_Rh} {sb : ai_SB} {G : ai_G} {We : ai_W} {tys : List (ClassId × FieldType)} {S : hs_S} {ws : va_W} (hw : bg_w G We = true) (hs : hs_ok sb.2 hs_sh tys S ws) (hd : ∀ k x, 0 < k → We[k]? = some x → bh_d σ S k x) (hf : ∀ j w, (bg_fs We)[j]? = some w → (∀ fk, hs_fk[j]? = some fk → fk.1 = 2 → S.1 j = 0 ∨ S.1 j = 1) → bg_fd σ S j w) : ai_ws σ sb tys We ws := by
  unfold bg_w at hw
  split at hw
  · rename_i ci fs r
    simp only [Bool.and_eq_true, beq_iff_eq] at hw
    obtain ⟨rfl, hF, hR⟩ := hw
    obtain ⟨h1, ⟨a, e, ha, vs, rfl, hl, ho⟩, h3⟩ := hs
    have hfl : hs_fk.length = fs.length := bg_a2_len hF
    have hrl : hs_sh.tail.length = r.length := bg_a2_len hR
    refine ⟨by rw [h1, List.length_cons, ← hrl]; rfl, fun k c hk => ?_⟩
    cases k with
    | zero =>
      cases hk
      refine ⟨_, ha, vs, rfl, ai_F2of (by rw [← hfl, hl]; rfl) (fun j w hj => ?_)⟩
      have hj62 : j < 62 := by
        have := (List.getElem?_eq_some_iff.mp hj).1
        rw [← hfl] at this
        exact this
      have hfk : hs_fk[j]? = some (hs_fk[j]'hj62) := List.getElem?_eq_getElem hj62
      obtain ⟨w', hw', hb⟩ := bg_a2_get hF hfk
      rw [hj] at hw'
      cases hw'
      obtain ⟨u, hu, hm, hbool⟩ := ho j _ hfk
      refine ⟨u, hu, ?_⟩
      have hfd := hf j w hj (fun fk e h2 => by
        rw [hfk] at e
        cases e
        exact hbool h2)
      generalize hs_fk[j]'hj62 = fk at hb hm
      unfold bg_f at hb
      obtain ⟨n, t, lo, hi⟩ := w
      split at hb
      · obtain ⟨x, rfl, hx⟩ := hm
        have hx' : x.toInt = S.1 j := hx
        unfold bg_fd at hfd
        match n, hb, hfd with
        | 0, _, hfd => exact ⟨x, rfl, by rw [hx']; exact hfd (by rw [← hx']; exact i32_of x)⟩
        | 2, _, hfd =>
          obtain ⟨⟨rfl, rfl⟩, h2⟩ := hfd
          exact ⟨x, S.1 j, rfl, h2, by omega⟩
        | 1, hb, _ => cases hb
        | 3, hb, _ => cases hb
        | 4, hb, _ => cases hb
        | 5, hb, _ => cases hb
        | 6, _, hfd => exact hfd.elim
        | 7, hb, _ => cases hb
        | 8, _, hfd => exact hfd.elim
        | 9, _, hfd => exact hfd.elim
        | n + 10, _, hfd => exact hfd.elim
      · obtain ⟨x, rfl, hx⟩ := hm
        have hx' : x.toInt = S.1 j := hx
        unfold bg_fd at hfd
        match n, hb, hfd with
        | 1, _, hfd => exact ⟨x, rfl, by rw [hx']; exact hfd (by rw [← hx']; exact i64_of x)⟩
        | 3, _, hfd =>
          obtain ⟨⟨rfl, rfl⟩, h2⟩ := hfd
          exact ⟨x, S.1 j, rfl, h2, by omega⟩
        | 0, hb, _ => cases hb
        | 2, hb, _ => cases hb
        | 4, hb, _ => cases hb
        | n + 5, hb, _ => cases hb
      · obtain ⟨x, rfl, hx⟩ := hm
        have hx' : x.toInt = S.1 j := hx
        rw [Bool.and_eq_true] at hb
        have hb := hb.1
        unfold bg_fd at hfd
        match n, hb, hfd with
        | 0, _, hfd => exact ⟨x, rfl, by rw [hx']; exact hfd (by rw [← hx']; exact i32_of x)⟩
        | 2, _, hfd =>
          obtain ⟨⟨rfl, rfl⟩, h2⟩ := hfd
          exact ⟨x, S.1 j, rfl, h2, by omega⟩
        | 1, hb, _ => cases hb
        | 3, hb, _ => cases hb
        | 4, hb, _ => cases hb
        | 5, hb, _ => cases hb
        | 6, _, hfd => exact hfd.elim
        | 7, hb, _ => cases hb
        | 8, _, hfd => exact hfd.elim
        | 9, _, hfd => exact hfd.elim
        | n + 10, _, hfd => exact hfd.elim
      · simp only [Bool.and_eq_true, beq_iff_eq] at hb
        obtain ⟨h4, h5⟩ := hb
        subst h4 h5
        obtain ⟨q, g1, rfl⟩ := hm
        exact ⟨q, g1, rfl⟩
      · cases hb
    | succ k =>
      have hk' : r[k]? = some c := by simpa using hk
      have hkl : k < 32 := by
        have := (List.getElem?_eq_some_iff.mp hk').1
        rw [← hrl] at this
        exact this
      have hc0 : hs_sh.tail[k]? = some (hs_sh.tail[k]'hkl) := List.getElem?_eq_getElem hkl
      obtain ⟨x', hx', hb⟩ := bg_a2_get hR hc0
      rw [hk'] at hx'
      cases hx'
      obtain ⟨a', e', ha', har⟩ := h3 (k + 1) _ (by omega) (by rw [List.getElem?_tail] at hc0; exact hc0)
      exact ⟨_, ha', bh_mc hb har (hd (k + 1) c (by omega) hk)⟩
  · cases hw
def bh_ck (G : ai_G) (C Y : List Nat) (W0 We : ai_W) : Bool := (List.range 33).all fun k => k == 0 || (match W0[k]?, We[k]? with
  | some (.inr q), some (.inr q') => q == q' && (Y.contains k || (bif C.contains k then bh_df (.inr q) else bh_dk G (.inr q)))
  | _, _ => false)
/-- what a contract by hand must come to -/
def bh_P (ρ : ai_Rh) (L X C Y : List Nat) (We : ai_W) (r : Nat × Int × Int) (S : hs_S) : hs_Q := fun ro S1 => bg_an r ro ∧ hs_fr L S.1 S1.1 ∧ (∀ j w, X.contains j = true → (bg_fs We)[j]? = some w → bg_fd ρ S1 j w) ∧ (∀ k, C.contains k = false → S1.2 k = S.2 k) ∧ ∀ k x, Y.contains k = true → We[k]? = some x → bh_d ρ S1 k x
theorem bh_hand {K : Nat} {t : hs_T} {sb : ai_SB} {G : ai_G} {as : List ai_V} {W0 We : ai_W} (L X C Y : List Nat) (r : Nat × Int × Int) (hc : hs_C hs_sh K t) (h0 : (ai_T K).2.2.2.2.2.2.1.cells = 0) (h1 : (ai_T K).2.2.2.2.2.2.1.slots = 0) (k1 : bg_w G W0 = true) (k2 : bg_w G We = true) (k3 : bg_lk L X W0 We = true) (k4 : bh_ck G C Y W0 We = true)
    (H : ∀ (ρ : ai_Rh) (ad : List Nat) (vs : List Value), ai_gok ρ G → ai_F2 (ai_mt ρ sb ad) as vs → ∃ ah, ai_F2 (hs_vm ad) ah vs ∧ ∀ S : hs_S, (∀ j w, (bg_fs W0)[j]? = some w → bg_ft w = true → bg_fd ρ S j w) → (∀ k x, W0[k]? = some x → bh_dk G x = true → bh_d ρ S k x) → (∀ j fk, hs_fk[j]? = some fk → (fk.1 = 2 → S.1 j = 0 ∨ S.1 j = 1)) → (∀ k c, 0 < k → hs_sh[k]? = some c → (c.1 = 0 ∨ c.1 = 2) → ∀ j, j < c.2 → i32 (S.2 k j)) → t ah S (bh_P ρ L X C Y We r S)) : ai_cs (ai_T K) 0 sb G as W0 [bg_o r G We] := by
  refine bg_cs hc h0 h1 (fun ρ tys ws vs hG has hws => ?_)
  obtain ⟨ah, a1, a2⟩ := H ρ (ws.map Prod.fst) vs hG has
  have f0 := bg_st k1 hws
  have d0 : ∀ k x, W0[k]? = some x → bh_dk G x = true → bh_d ρ (bg_S ws) k x := fun k x hk hx => bh_std hG hws hk hx
  have hok := bg_ok k1 hG hws
  have b0 : ∀ j fk, hs_fk[j]? = some fk → (fk.1 = 2 → (bg_S ws).1 j = 0 ∨ (bg_S ws).1 j = 1) := by
    obtain ⟨-, ⟨a, e, ha, vs', rfl, hl, ho⟩, -⟩ := hok
    intro j fk hj h2
    obtain ⟨u, -, -, g⟩ := ho j fk hj
    exact g h2
  have i0 : ∀ k c, 0 < k → hs_sh[k]? = some c → (c.1 = 0 ∨ c.1 = 2) → ∀ j, j < c.2 → i32 ((bg_S ws).2 k j) := by
    intro k c hk hc hc2 j hj
    obtain ⟨a, e, -, har⟩ := hok.2.2 k c hk hc
    obtain ⟨c1, n⟩ := c
    dsimp only at hc2 hj
    rcases hc2 with rfl | rfl
    · obtain ⟨cA, f, t0, -, -, g⟩ := har
      rw [← g j hj]
      exact i32_of _
    · obtain ⟨cA, f, t0, -, -, g⟩ := har
      rw [← g j hj]
      exact i32_of _
  refine ⟨ah, bg_S ws, _, a2 _ f0 d0 b0 i0, a1, hok, ?_⟩
  intro ro S1 rv ws1 tys1 ew hro hs1 hp
  obtain ⟨p1, p2, p3, p4, p5⟩ := hp
  have back : ∀ σ, ai_le ρ σ → ai_ws σ sb tys1 We ws1 := by
    intro σ hσ
    refine bh_bk k2 hs1 (fun k x hk hx => ?_) (fun j w hj hb => ?_)
    · unfold bh_ck at k4
      have hk33 : k < 33 := by
        have := (List.getElem?_eq_some_iff.mp hx).1
        unfold bg_w at k2
        split at k2
        · rename_i ci fs r'
          simp only [Bool.and_eq_true, beq_iff_eq] at k2
          rw [List.length_cons, ← bg_a2_len k2.2.2] at this
          exact this
        · cases k2
      have g := List.all_eq_true.mp k4 k (List.mem_range.mpr hk33)
      rw [Bool.or_eq_true] at g
      rcases g with g | g
      · rw [beq_iff_eq] at g; omega
      · split at g
        · rename_i q q' e0 e1
          rw [hx] at e1
          cases e1
          simp only [Bool.and_eq_true, Bool.or_eq_true, beq_iff_eq] at g
          obtain ⟨rfl, g⟩ := g
          rcases g with g | g
          · exact bh_dup hσ (p5 k _ g hx)
          · cases hC : C.contains k with
            | true =>
              rw [hC, cond_true] at g
              exact bh_full g
            | false =>
              rw [hC, cond_false] at g
              exact bh_dup hσ (bh_deq (p4 k hC) (d0 k _ e0 g))
        · cases g
    · unfold bg_lk at k3
      have hj62 : j < 62 := by
        have := (List.getElem?_eq_some_iff.mp hj).1
        unfold bg_w at k2
        split at k2
        · rename_i ci fs r'
          simp only [Bool.and_eq_true, beq_iff_eq] at k2
          have e : (bg_fs (.inl (ci, fs) :: r')).length = fs.length := rfl
          rw [e, ← bg_a2_len k2.2.1] at this
          exact this
        · cases k2
      have g := List.all_eq_true.mp k3 j (List.mem_range.mpr hj62)
      split at g
      · rename_i w0 w' fk e0 e1 e2
        rw [hj] at e1
        cases e1
        rw [Bool.or_eq_true] at g
        rcases g with g | g
        · exact bg_fdup hσ (p3 j w g hj)
        · cases hL : L.contains j with
          | true =>
            rw [hL, cond_true] at g
            exact bg_lt_ok g (hb fk e2)
          | false =>
            rw [hL, cond_false, Bool.and_eq_true, beq_iff_eq] at g
            obtain ⟨rfl, g⟩ := g
            exact bg_fdup hσ (bg_fdeq (p2 j hL) (f0 j _ e0 g))
      · cases g
  unfold bg_an at p1
  split at p1
  · rename_i hr
    subst p1
    have e : bg_o r G We = (0, G, [], [], We, 0, 0) := by
      unfold bg_o
      rw [hr]
      rfl
    refine ⟨_, List.mem_cons_self, ρ, ai_le.rf, ?_⟩
    rw [e]
    exact ⟨hG, by rw [hro.nil]; trivial, back ρ ai_le.rf⟩
  · rename_i hr
    obtain ⟨v, rfl, hv⟩ := p1
    have e : bg_o r G We = (0, G ++ [(r.2.1, r.2.2, 0)], [], [(2, G.length, 0, 1)], We, 0, 0) := by
      unfold bg_o
      split
      · rename_i h; exact absurd h hr
      · rfl
    obtain ⟨u, us, hrv, ⟨x, rfl, hx⟩, hn⟩ := hro.cons
    rw [hn.nil] at hrv
    have hv' := hv (by rw [← hx]; exact i32_of x)
    have hle := ai_more_le hG v
    refine ⟨_, List.mem_cons_self, ai_more ρ G.length v, hle, ?_⟩
    rw [e]
    refine ⟨ai_more_ok (q := (r.2.1, r.2.2, 0)) hG hv'.1 hv'.2 (ai_kp0 rfl), ?_, back _ hle⟩
    rw [hrv]
    exact ⟨⟨x, v, rfl, ai_more_at, by omega⟩, trivial⟩
