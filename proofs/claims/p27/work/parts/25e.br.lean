/-! ===== the bridge: the object's fields, and contracts by hand as contracts of the walk ===== -/
def bg_fs (aw : ai_W) : List ai_V := match aw with
  | .inl (_, fs) :: _ => fs
  | _ => []
/-- what a held field says of the state's -/
def bg_fd (ρ : ai_Rh) (S : hs_S) (j : Nat) (w : ai_V) : Prop := match w with
  | (0, _, l, h) => i32 (S.1 j) → l ≤ S.1 j ∧ S.1 j ≤ h
  | (1, _, l, h) => i64 (S.1 j) → l ≤ S.1 j ∧ S.1 j ≤ h
  | (2, t, c, m) => (c = 0 ∧ m = 1) ∧ ρ t = some (S.1 j)
  | (3, t, c, m) => (c = 0 ∧ m = 1) ∧ ρ t = some (S.1 j)
  | (4, _, _, _) => True
  | _ => False
theorem bg_fdup {ρ σ : ai_Rh} {S : hs_S} {j : Nat} {w : ai_V} (hr : ai_le ρ σ) (h : bg_fd ρ S j w) : bg_fd σ S j w := by
  unfold bg_fd at h ⊢
  split at h
  · exact h
  · exact h
  · exact ⟨h.1, hr _ _ h.2⟩
  · exact ⟨h.1, hr _ _ h.2⟩
  · trivial
  · exact h.elim
theorem bg_fdeq {ρ : ai_Rh} {S S1 : hs_S} {j : Nat} {w : ai_V} (e : S1.1 j = S.1 j) (h : bg_fd ρ S j w) : bg_fd ρ S1 j w := by
  unfold bg_fd at h ⊢
  rw [e]
  exact h
theorem bg_deq {S S1 : hs_S} {k : Nat} {x : ai_C} (e : S1.2 k = S.2 k) (h : bg_d S k x) : bg_d S1 k x := by
  unfold bg_d at h ⊢
  rw [e]
  exact h
/-- a field that is told by a token, or in bounds, or a cell -/
def bg_ft (w : ai_V) : Bool := w.1 == 0 || (w.1 == 1 || (w.1 == 4 || ((w.1 == 2 || w.1 == 3) && (decide (w.2.2.1 = 0) && decide (w.2.2.2 = 1)))))
def bg_lt (fk : Nat × Int) (w : ai_V) : Bool := (fk.1 == 0 && w == (0, 0, -2147483648, 2147483647)) || ((fk.1 == 1 && w == (1, 0, -9223372036854775808, 9223372036854775807)) || (fk.1 == 2 && w == (0, 0, 0, 1)))
theorem bg_st {ρ : ai_Rh} {sb : ai_SB} {G : ai_G} {aw : ai_W} {tys : List (ClassId × FieldType)} {ws : va_W} (h : bg_w G aw = true) (hW : ai_ws ρ sb tys aw ws) : ∀ j w, (bg_fs aw)[j]? = some w → bg_ft w = true → bg_fd ρ (bg_S ws) j w := by
  unfold bg_w at h
  split at h
  · rename_i ci fs r
    simp only [Bool.and_eq_true, beq_iff_eq] at h
    obtain ⟨rfl, hf, hr⟩ := h
    obtain ⟨q, hq, vs, hvs, hF⟩ := hW.2 0 (.inl (10, fs)) rfl
    have hq' : ws[0]? = some (q.1, .inr (10, vs)) := by rw [hq, ← hvs]
    intro j w hj ht
    obtain ⟨u, hu, hm⟩ := hF.get (show fs[j]? = some w from hj)
    have e := bg_S1 hq' hu
    obtain ⟨n, t, l, m⟩ := w
    unfold bg_ft at ht
    simp only [Bool.or_eq_true, Bool.and_eq_true, beq_iff_eq, decide_eq_true_eq] at ht
    rcases ht with rfl | rfl | rfl | ⟨rfl | rfl, rfl, rfl⟩
    · obtain ⟨x, rfl, h1, h2⟩ := hm
      intro _
      rw [e]
      exact ⟨h1, h2⟩
    · obtain ⟨x, rfl, h1, h2⟩ := hm
      intro _
      rw [e]
      exact ⟨h1, h2⟩
    · trivial
    · obtain ⟨x, z, rfl, h1, h2⟩ := hm
      refine ⟨⟨rfl, rfl⟩, ?_⟩
      rw [e, h1]
      show some z = some x.toInt
      congr 1
      omega
    · obtain ⟨x, z, rfl, h1, h2⟩ := hm
      refine ⟨⟨rfl, rfl⟩, ?_⟩
      rw [e, h1]
      show some z = some x.toInt
      congr 1
      omega
  · cases h
def bg_dk (x : ai_C) : Bool := match x with
  | .inr (0, n, d, ov) => ov.isEmpty && (d.1 == 0 || (d.1 == 10 && (d.2.1 == 1 && n == 23016)))
  | .inr (1, _, d, ov) => ov.isEmpty && d.1 == 1
  | .inr (2, _, d, ov) => ov.isEmpty && d.1 == 0
  | .inr (5, _, _, _) => true
  | _ => false
def bg_df (x : ai_C) : Bool := match x with
  | .inr (0, _, d, ov) => ov.isEmpty && d == (0, 0, -2147483648, 2147483647)
  | .inr (1, _, d, ov) => ov.isEmpty && d == (1, 0, -9223372036854775808, 9223372036854775807)
  | _ => false
theorem bg_el1' {ρ : ai_Rh} {sb : ai_SB} {ad : List Nat} {j t : Nat} {l h : Int} {v : Value} (hm : ai_el ρ sb ad j (1, t, l, h) v) : ∃ x : Int64, v = .long x ∧ l ≤ x.toInt ∧ x.toInt ≤ h := by
  unfold ai_el at hm
  rw [if_neg (show ¬ (1 : Nat) = 10 by decide)] at hm
  exact hm
theorem bg_std {ρ : ai_Rh} {sb : ai_SB} {aw : ai_W} {tys : List (ClassId × FieldType)} {ws : va_W} {k : Nat} {x : ai_C} (hW : ai_ws ρ sb tys aw ws) (hk : aw[k]? = some x) (h : bg_dk x = true) : bg_d (bg_S ws) k x := by
  obtain ⟨q, hq, hm⟩ := hW.2 k x hk
  unfold bg_dk at h
  split at h
  · rename_i n d ov
    simp only [Bool.and_eq_true, Bool.or_eq_true, beq_iff_eq, List.isEmpty_iff] at h
    obtain ⟨rfl, hd⟩ := h
    refine ⟨rfl, ?_⟩
    obtain ⟨t, a, l, u⟩ := d
    rcases hd with hd | ⟨h1, h2, h3⟩
    · dsimp only at hd
      subst hd
      exact Or.inl ⟨rfl, fun j hj _ => bg_rng hW (Or.inl rfl) hk j hj⟩
    · dsimp only at h1 h2
      subst h1 h2 h3
      exact Or.inr ⟨rfl, rfl, rfl, bg_row hW hk⟩
  · rename_i n d ov
    simp only [Bool.and_eq_true, beq_iff_eq, List.isEmpty_iff] at h
    obtain ⟨rfl, hd⟩ := h
    obtain ⟨t, a, l, u⟩ := d
    dsimp only at hd
    subst hd
    refine ⟨rfl, rfl, fun j hj _ => ?_⟩
    obtain ⟨cA, f, t0, e, -, h2⟩ := hm
    rw [bg_S2 hq j, e]
    obtain ⟨x, e1, e2⟩ := bg_el1' (h2 j hj)
    cases e1
    exact e2
  · rename_i n d ov
    simp only [Bool.and_eq_true, beq_iff_eq, List.isEmpty_iff] at h
    obtain ⟨rfl, hd⟩ := h
    obtain ⟨t, a, l, u⟩ := d
    dsimp only at hd
    subst hd
    exact ⟨rfl, rfl, fun j hj _ => bg_rng hW (Or.inr rfl) hk j hj⟩
  · trivial
  · cases h
theorem bg_full {S : hs_S} {k : Nat} {x : ai_C} (h : bg_df x = true) : bg_d S k x := by
  unfold bg_df at h
  split at h
  · rename_i n d ov
    simp only [Bool.and_eq_true, beq_iff_eq, List.isEmpty_iff] at h
    obtain ⟨rfl, rfl⟩ := h
    exact ⟨rfl, Or.inl ⟨rfl, fun j _ hi => hi⟩⟩
  · rename_i n d ov
    simp only [Bool.and_eq_true, beq_iff_eq, List.isEmpty_iff] at h
    obtain ⟨rfl, rfl⟩ := h
    exact ⟨rfl, rfl, fun j _ hi => hi⟩
  · cases h
theorem ai_F2of {α β : Type} {R : α → β → Prop} : ∀ {l1 : List α} {l2 : List β}, l1.length = l2.length → (∀ (k : Nat) (a : α), l1[k]? = some a → ∃ b, l2[k]? = some b ∧ R a b) → ai_F2 R l1 l2
  | [], [], _, _ => trivial
  | a :: as, [], h, _ => by cases h
  | [], b :: bs, h, _ => by cases h
  | a :: as, b :: bs, h, H => by
    obtain ⟨b', e, h0⟩ := H 0 a rfl
    cases e
    exact ⟨h0, ai_F2of (by simpa using h) (fun k a' ha => by
      obtain ⟨b', e', h'⟩ := H (k + 1) a' (by simpa using ha)
      exact ⟨b', by simpa using e', h'⟩)⟩
/-- a state in whole numbers comes back to a held world -/
theorem bg_bk {σ : ai_Rh} {sb : ai_SB} {G : ai_G} {We : ai_W} {tys : List (ClassId × FieldType)} {S : hs_S} {ws : va_W} (hw : bg_w G We = true) (hs : hs_ok sb.2 hs_sh tys S ws) (hd : ∀ k x, 0 < k → We[k]? = some x → bg_d S k x) (hf : ∀ j w, (bg_fs We)[j]? = some w → (∀ fk, hs_fk[j]? = some fk → fk.1 = 2 → S.1 j = 0 ∨ S.1 j = 1) → bg_fd σ S j w) : ai_ws σ sb tys We ws := by
  unfold bg_w at hw
  split at hw
  · rename_i ci fs r
    simp only [Bool.and_eq_true, beq_iff_eq] at hw
    obtain ⟨rfl, hF, hR⟩ := hw
    obtain ⟨h1, ⟨a, e, ha, vs, rfl, hl, ho⟩, h3⟩ := hs
    have hfl : hs_fk.length = fs.length := bg_a2_len hF
    have hrl : hs_sh.tail.length = r.length := bg_a2_len hR
    refine ⟨by rw [h1, List.length_cons, ← hrl]; rfl, fun k c hk => ?_⟩
    cases k with
    | zero =>
      cases hk
      refine ⟨_, ha, vs, rfl, ai_F2of (by rw [← hfl, hl]; rfl) (fun j w hj => ?_)⟩
      have hj62 : j < 62 := by
        have := (List.getElem?_eq_some_iff.mp hj).1
        rw [← hfl] at this
        exact this
      have hfk : hs_fk[j]? = some (hs_fk[j]'hj62) := List.getElem?_eq_getElem hj62
      obtain ⟨w', hw', hb⟩ := bg_a2_get hF hfk
      rw [hj] at hw'
      cases hw'
      obtain ⟨u, hu, hm, hbool⟩ := ho j _ hfk
      refine ⟨u, hu, ?_⟩
      have hfd := hf j w hj (fun fk e h2 => by
        rw [hfk] at e
        cases e
        exact hbool h2)
      generalize hs_fk[j]'hj62 = fk at hb hm
      unfold bg_f at hb
      obtain ⟨n, t, lo, hi⟩ := w
      split at hb
      · obtain ⟨x, rfl, hx⟩ := hm
        have hx' : x.toInt = S.1 j := hx
        unfold bg_fd at hfd
        match n, hb, hfd with
        | 0, _, hfd => exact ⟨x, rfl, by rw [hx']; exact hfd (by rw [← hx']; exact i32_of x)⟩
        | 2, _, hfd =>
          obtain ⟨⟨rfl, rfl⟩, h2⟩ := hfd
          exact ⟨x, S.1 j, rfl, h2, by omega⟩
        | 1, hb, _ => cases hb
        | 3, hb, _ => cases hb
        | 4, hb, _ => cases hb
        | 5, hb, _ => cases hb
        | 6, _, hfd => exact hfd.elim
        | 7, hb, _ => cases hb
        | 8, _, hfd => exact hfd.elim
        | 9, _, hfd => exact hfd.elim
        | n + 10, _, hfd => exact hfd.elim
      · obtain ⟨x, rfl, hx⟩ := hm
        have hx' : x.toInt = S.1 j := hx
        unfold bg_fd at hfd
        match n, hb, hfd with
        | 1, _, hfd => exact ⟨x, rfl, by rw [hx']; exact hfd (by rw [← hx']; exact i64_of x)⟩
        | 3, _, hfd =>
          obtain ⟨⟨rfl, rfl⟩, h2⟩ := hfd
          exact ⟨x, S.1 j, rfl, h2, by omega⟩
        | 0, hb, _ => cases hb
        | 2, hb, _ => cases hb
        | 4, hb, _ => cases hb
        | n + 5, hb, _ => cases hb
      · obtain ⟨x, rfl, hx⟩ := hm
        have hx' : x.toInt = S.1 j := hx
        rw [Bool.and_eq_true] at hb
        have hb := hb.1
        unfold bg_fd at hfd
        match n, hb, hfd with
        | 0, _, hfd => exact ⟨x, rfl, by rw [hx']; exact hfd (by rw [← hx']; exact i32_of x)⟩
        | 2, _, hfd =>
          obtain ⟨⟨rfl, rfl⟩, h2⟩ := hfd
          exact ⟨x, S.1 j, rfl, h2, by omega⟩
        | 1, hb, _ => cases hb
        | 3, hb, _ => cases hb
        | 4, hb, _ => cases hb
        | 5, hb, _ => cases hb
        | 6, _, hfd => exact hfd.elim
        | 7, hb, _ => cases hb
        | 8, _, hfd => exact hfd.elim
        | 9, _, hfd => exact hfd.elim
        | n + 10, _, hfd => exact hfd.elim
      · simp only [Bool.and_eq_true, beq_iff_eq] at hb
        obtain ⟨h4, h5⟩ := hb
        subst h4 h5
        obtain ⟨q, g1, rfl⟩ := hm
        exact ⟨q, g1, rfl⟩
      · cases hb
    | succ k =>
      have hk' : r[k]? = some c := by simpa using hk
      have hkl : k < 32 := by
        have := (List.getElem?_eq_some_iff.mp hk').1
        rw [← hrl] at this
        exact this
      have hc0 : hs_sh.tail[k]? = some (hs_sh.tail[k]'hkl) := List.getElem?_eq_getElem hkl
      obtain ⟨x', hx', hb⟩ := bg_a2_get hR hc0
      rw [hk'] at hx'
      cases hx'
      obtain ⟨a', e', ha', har⟩ := h3 (k + 1) _ (by omega) (by rw [List.getElem?_tail] at hc0; exact hc0)
      exact ⟨_, ha', bg_mc hb har (hd (k + 1) c (by omega) hk)⟩
  · cases hw
def bg_lk (L X : List Nat) (W0 We : ai_W) : Bool := (List.range 62).all fun j => match (bg_fs W0)[j]?, (bg_fs We)[j]?, hs_fk[j]? with
  | some w0, some w, some fk => X.contains j || (bif L.contains j then bg_lt fk w else w0 == w && bg_ft w)
  | _, _, _ => false
def bg_ck (C Y : List Nat) (W0 We : ai_W) : Bool := (List.range 33).all fun k => k == 0 || (match W0[k]?, We[k]? with
  | some (.inr q), some (.inr q') => q == q' && (Y.contains k || (bif C.contains k then bg_df (.inr q) else bg_dk (.inr q)))
  | _, _ => false)
def bg_an (r : Nat × Int × Int) (ro : List hs_V) : Prop := match r.1 with
  | 0 => ro = []
  | _ => ∃ v, ro = [(0, v)] ∧ (i32 v → r.2.1 ≤ v ∧ v ≤ r.2.2)
def bg_o (r : Nat × Int × Int) (G : ai_G) (We : ai_W) : ai_O := match r.1 with
  | 0 => (0, G, [], [], We, 0, 0)
  | _ => (0, G ++ [(r.2.1, r.2.2, 0)], [], [(2, G.length, 0, 1)], We, 0, 0)
/-- what a contract by hand must come to -/
def bg_P (ρ : ai_Rh) (L X C Y : List Nat) (We : ai_W) (r : Nat × Int × Int) (S : hs_S) : hs_Q := fun ro S1 => bg_an r ro ∧ hs_fr L S.1 S1.1 ∧ (∀ j w, X.contains j = true → (bg_fs We)[j]? = some w → bg_fd ρ S1 j w) ∧ (∀ k, C.contains k = false → S1.2 k = S.2 k) ∧ ∀ k x, Y.contains k = true → We[k]? = some x → bg_d S1 k x
theorem bg_lt_ok {ρ : ai_Rh} {S : hs_S} {j : Nat} {fk : Nat × Int} {w : ai_V} (h : bg_lt fk w = true) (hb : fk.1 = 2 → S.1 j = 0 ∨ S.1 j = 1) : bg_fd ρ S j w := by
  unfold bg_lt at h
  simp only [Bool.or_eq_true, Bool.and_eq_true, beq_iff_eq] at h
  rcases h with ⟨-, rfl⟩ | ⟨-, rfl⟩ | ⟨h2, rfl⟩
  · exact fun hi => hi
  · exact fun hi => hi
  · intro _
    have := hb h2
    omega
theorem bg_hand {K : Nat} {t : hs_T} {sb : ai_SB} {G : ai_G} {as : List ai_V} {W0 We : ai_W} (L X C Y : List Nat) (r : Nat × Int × Int) (hc : hs_C hs_sh K t) (h0 : (ai_T K).2.2.2.2.2.2.1.cells = 0) (h1 : (ai_T K).2.2.2.2.2.2.1.slots = 0) (k1 : bg_w G W0 = true) (k2 : bg_w G We = true) (k3 : bg_lk L X W0 We = true) (k4 : bg_ck C Y W0 We = true)
    (H : ∀ (ρ : ai_Rh) (ad : List Nat) (vs : List Value), ai_gok ρ G → ai_F2 (ai_mt ρ sb ad) as vs → ∃ ah, ai_F2 (hs_vm ad) ah vs ∧ ∀ S : hs_S, (∀ j w, (bg_fs W0)[j]? = some w → bg_ft w = true → bg_fd ρ S j w) → (∀ k x, W0[k]? = some x → bg_dk x = true → bg_d S k x) → (∀ j fk, hs_fk[j]? = some fk → (fk.1 = 2 → S.1 j = 0 ∨ S.1 j = 1)) → (∀ k c, 0 < k → hs_sh[k]? = some c → (c.1 = 0 ∨ c.1 = 2) → ∀ j, j < c.2 → i32 (S.2 k j)) → t ah S (bg_P ρ L X C Y We r S)) : ai_cs (ai_T K) 0 sb G as W0 [bg_o r G We] := by
  refine bg_cs hc h0 h1 (fun ρ tys ws vs hG has hws => ?_)
  obtain ⟨ah, a1, a2⟩ := H ρ (ws.map Prod.fst) vs hG has
  have f0 := bg_st k1 hws
  have d0 : ∀ k x, W0[k]? = some x → bg_dk x = true → bg_d (bg_S ws) k x := fun k x hk hx => bg_std hws hk hx
  have hok := bg_ok k1 hG hws
  have b0 : ∀ j fk, hs_fk[j]? = some fk → (fk.1 = 2 → (bg_S ws).1 j = 0 ∨ (bg_S ws).1 j = 1) := by
    obtain ⟨-, ⟨a, e, ha, vs', rfl, hl, ho⟩, -⟩ := hok
    intro j fk hj h2
    obtain ⟨u, -, -, g⟩ := ho j fk hj
    exact g h2
  have i0 : ∀ k c, 0 < k → hs_sh[k]? = some c → (c.1 = 0 ∨ c.1 = 2) → ∀ j, j < c.2 → i32 ((bg_S ws).2 k j) := by
    intro k c hk hc hc2 j hj
    obtain ⟨a, e, -, har⟩ := hok.2.2 k c hk hc
    obtain ⟨c1, n⟩ := c
    dsimp only at hc2 hj
    rcases hc2 with rfl | rfl
    · obtain ⟨cA, f, t0, -, -, g⟩ := har
      rw [← g j hj]
      exact i32_of _
    · obtain ⟨cA, f, t0, -, -, g⟩ := har
      rw [← g j hj]
      exact i32_of _
  refine ⟨ah, bg_S ws, _, a2 _ f0 d0 b0 i0, a1, hok, ?_⟩
  intro ro S1 rv ws1 tys1 ew hro hs1 hp
  obtain ⟨p1, p2, p3, p4, p5⟩ := hp
  have back : ∀ σ, ai_le ρ σ → ai_ws σ sb tys1 We ws1 := by
    intro σ hσ
    refine bg_bk k2 hs1 (fun k x hk hx => ?_) (fun j w hj hb => ?_)
    · unfold bg_ck at k4
      have hk33 : k < 33 := by
        have := (List.getElem?_eq_some_iff.mp hx).1
        unfold bg_w at k2
        split at k2
        · rename_i ci fs r'
          simp only [Bool.and_eq_true, beq_iff_eq] at k2
          rw [List.length_cons, ← bg_a2_len k2.2.2] at this
          exact this
        · cases k2
      have g := List.all_eq_true.mp k4 k (List.mem_range.mpr hk33)
      rw [Bool.or_eq_true] at g
      rcases g with g | g
      · rw [beq_iff_eq] at g; omega
      · split at g
        · rename_i q q' e0 e1
          rw [hx] at e1
          cases e1
          simp only [Bool.and_eq_true, Bool.or_eq_true, beq_iff_eq] at g
          obtain ⟨rfl, g⟩ := g
          rcases g with g | g
          · exact p5 k _ g hx
          · cases hC : C.contains k with
            | true =>
              rw [hC, cond_true] at g
              exact bg_full g
            | false =>
              rw [hC, cond_false] at g
              exact bg_deq (p4 k hC) (d0 k _ e0 g)
        · cases g
    · unfold bg_lk at k3
      have hj62 : j < 62 := by
        have := (List.getElem?_eq_some_iff.mp hj).1
        unfold bg_w at k2
        split at k2
        · rename_i ci fs r'
          simp only [Bool.and_eq_true, beq_iff_eq] at k2
          have e : (bg_fs (.inl (ci, fs) :: r')).length = fs.length := rfl
          rw [e, ← bg_a2_len k2.2.1] at this
          exact this
        · cases k2
      have g := List.all_eq_true.mp k3 j (List.mem_range.mpr hj62)
      split at g
      · rename_i w0 w' fk e0 e1 e2
        rw [hj] at e1
        cases e1
        rw [Bool.or_eq_true] at g
        rcases g with g | g
        · exact bg_fdup hσ (p3 j w g hj)
        · cases hL : L.contains j with
          | true =>
            rw [hL, cond_true] at g
            exact bg_lt_ok g (hb fk e2)
          | false =>
            rw [hL, cond_false, Bool.and_eq_true, beq_iff_eq] at g
            obtain ⟨rfl, g⟩ := g
            exact bg_fdup hσ (bg_fdeq (p2 j hL) (f0 j _ e0 g))
      · cases g
  unfold bg_an at p1
  split at p1
  · rename_i hr
    subst p1
    have e : bg_o r G We = (0, G, [], [], We, 0, 0) := by
      unfold bg_o
      rw [hr]
      rfl
    refine ⟨_, List.mem_cons_self, ρ, ai_le.rf, ?_⟩
    rw [e]
    exact ⟨hG, by rw [hro.nil]; trivial, back ρ ai_le.rf⟩
  · rename_i hr
    obtain ⟨v, rfl, hv⟩ := p1
    have e : bg_o r G We = (0, G ++ [(r.2.1, r.2.2, 0)], [], [(2, G.length, 0, 1)], We, 0, 0) := by
      unfold bg_o
      split
      · rename_i h; exact absurd h hr
      · rfl
    obtain ⟨u, us, hrv, ⟨x, rfl, hx⟩, hn⟩ := hro.cons
    rw [hn.nil] at hrv
    have hv' := hv (by rw [← hx]; exact i32_of x)
    have hle := ai_more_le hG v
    refine ⟨_, List.mem_cons_self, ai_more ρ G.length v, hle, ?_⟩
    rw [e]
    refine ⟨ai_more_ok (q := (r.2.1, r.2.2, 0)) hG hv'.1 hv'.2 (ai_kp0 rfl), ?_, back _ hle⟩
    rw [hrv]
    exact ⟨⟨x, v, rfl, ai_more_at, by omega⟩, trivial⟩
