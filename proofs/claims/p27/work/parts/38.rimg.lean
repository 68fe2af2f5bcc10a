/-! ===== counts: image and back of the reference ===== -/
theorem lr_same : ∀ k, k < 33 → ¬ k = 2 → ¬ k = 3 → hs_sh[k]? = hs_sh2[k]? := by decide
theorem lrn_w : bg_w nv_G ny_WN = true := by decide +kernel
def nyo : List (Nat × ai_V) := [(0, (2, 0, 0, 1)), (3, (2, 1, 0, 1)), (4, (2, 2, 0, 1)), (5, (2, 3, 0, 1)), (6, (2, 4, 0, 1)), (7, (2, 5, 0, 1))]
theorem nyo_k : ∀ q ∈ nyo, ∃ t : Nat, t < 6 ∧ q.2 = (2, t, 0, 1) ∧ q.1 = pl t := by
  intro q hq
  simp only [nyo, List.mem_cons, List.not_mem_nil, or_false] at hq
  rcases hq with rfl | rfl | rfl | rfl | rfl | rfl
  · exact ⟨0, by decide, rfl, rfl⟩
  · exact ⟨1, by decide, rfl, rfl⟩
  · exact ⟨2, by decide, rfl, rfl⟩
  · exact ⟨3, by decide, rfl, rfl⟩
  · exact ⟨4, by decide, rfl, rfl⟩
  · exact ⟨5, by decide, rfl, rfl⟩
theorem lrn_1 : ny_WN[1]? = some (.inr (0, 23016, (10, 1, 0, 0), nyo)) := rfl
def nyw : List (Nat × ai_V) := [(0, (2, 19, 0, 1)), (1, (2, 20, 0, 1)), (2, (2, 21, 0, 1)), (3, (2, 22, 0, 1)), (4, (2, 23, 0, 1)), (5, (2, 24, 0, 1)), (6, (2, 25, 0, 1))]
theorem lrn_16 : ny_WN[16]? = some (.inr (0, 7, (0, 0, 0, 15), nyw)) := rfl
theorem lrn_2 : ny_WN[2]? = some (.inr (5, 0, (5, 0, 0, 0), [])) := rfl
theorem lrn_3 : ny_WN[3]? = some (.inr (5, 1, (5, 0, 0, 0), [])) := rfl
/-- all tokens of an array are those of wishes -/
def lrn_tk (x : ai_C) : Bool := match x with
  | .inr (_, _, _, ov) => ov.all (fun q => Nat.ble 18 q.2.2.1)
  | _ => true
def lrn_dk (k : Nat) : Bool := k == 0 || (k == 1 || (match ny_WN[k]? with
  | some x => bh_dk nv_G x && lrn_tk x
  | none => false))
theorem lrn_dka : (List.range 33).all lrn_dk = true := by decide +kernel
def lrn_ft (j : Nat) : Bool := match (bg_fs ny_WN)[j]? with
  | some w => bg_ft w && ((!(w.1 == 2) || Nat.ble 18 w.2.1) && (!(w.1 == 3) && (Nat.ble 2 j || w == (0, 0, -2147483648, 2147483647))))
  | none => false
theorem lrn_fta : (List.range 62).all lrn_ft = true := by decide +kernel
theorem bh_any {ρ σ : ai_Rh} {S : hs_S} {k : Nat} {x : ai_C} (hr : ∀ t z, 18 ≤ t → ρ t = some z → σ t = some z) (ht : lrn_tk x = true) (h : bh_d ρ S k x) : bh_d σ S k x := by
  unfold bh_d at h ⊢
  split at h
  · refine ⟨fun q hq => ?_, h.2⟩
    obtain ⟨h1, t, h2, h3⟩ := h.1 q hq
    have := List.all_eq_true.mp ht q hq
    rw [h2] at this
    exact ⟨h1, t, h2, hr _ _ (Nat.le_of_ble_eq_true this) h3⟩
  · exact h
  · exact h
  · trivial
  · exact h.elim
theorem bg_fany {ρ σ : ai_Rh} {S : hs_S} {j : Nat} {w : ai_V} (hr : ∀ t z, 18 ≤ t → ρ t = some z → σ t = some z) (h2 : ¬ w.1 = 2 ∨ 18 ≤ w.2.1) (h3 : ¬ w.1 = 3) (h : bg_fd ρ S j w) : bg_fd σ S j w := by
  obtain ⟨n, t, a, b⟩ := w
  match n, h2, h3, h with
  | 0, _, _, h => exact h
  | 1, _, _, h => exact h
  | 2, h2, _, h =>
    rcases h2 with h2 | h2
    · exact absurd rfl h2
    · exact ⟨h.1, hr _ _ h2 h.2⟩
  | 3, _, h3, _ => exact absurd rfl h3
  | 4, _, _, _ => exact True.intro
  | n + 5, _, _, h => exact h.elim
/-- the images as the shape says -/
def lr_F (S : hs_S) (sh : Nat) (n : Nat → Int) : Prop := ∀ i, i < 2 → (ib_p sh i = true ↔ ¬ S.2 3 i = 0) ∧ (ib_p sh i = true → ro (fun j => S.2 2 (23016 * i + j)) ∧ ∀ t, t < 6 → S.2 2 (23016 * i + pl t) = n (6 + 6 * i + t))
theorem pl_lt (t : Nat) : pl t < 10 := by
  unfold pl
  split <;> decide
theorem lrn_ok {sb : ai_SB} {tys : List (ClassId × FieldType)} {ws : va_W} {n : Nat → Int} {sh : Nat} (hn : ai_gok (nv n) nv_G) (hws : ai_ws (nv n) sb tys ny_WN ws) (hr : lr_J sb tys sh n) : hs_ok sb.2 hs_sh2 tys (bg_S ws) ws ∧ lr_F (bg_S ws) sh n := by
  have h := bg_ok lrn_w hn hws
  obtain ⟨cA, f2, t0, cB, f3, t1, e2, i2, e3, i3, hro⟩ := hr
  obtain ⟨a2, q2, ha2, har2⟩ := h.2.2 2 (9, 0) (by decide) rfl
  obtain ⟨a3, q3, ha3, har3⟩ := h.2.2 3 (9, 1) (by decide) rfl
  have g2 : q2 = .inl (cA, 46032, .inl f2) := (show q2 = sb.2 0 from har2).trans e2
  have g3 : q3 = .inl (cB, 2, .inl f3) := (show q3 = sb.2 1 from har3).trans e3
  have s2 : ∀ j, (bg_S ws).2 2 j = (f2 j).toInt := fun j => by
    rw [bg_S2 ha2 j, g2]
    rfl
  have s3 : ∀ j, (bg_S ws).2 3 j = (f3 j).toInt := fun j => by
    rw [bg_S2 ha3 j, g3]
    rfl
  refine ⟨⟨h.1, h.2.1, fun k c hk hc => ?_⟩, fun i hi => ⟨?_, fun hp => ⟨?_, fun t ht => ?_⟩⟩⟩
  · by_cases k2 : k = 2
    · subst k2
      cases (show some (0, 46032) = some c from hc)
      exact ⟨a2, q2, ha2, cA, f2, t0, g2, i2, fun j _ => (s2 j).symm⟩
    · by_cases k3 : k = 3
      · subst k3
        cases (show some (2, 2) = some c from hc)
        exact ⟨a3, q3, ha3, cB, f3, t1, g3, i3, fun j _ => (s3 j).symm⟩
      · have hk33 : k < 33 := (List.getElem?_eq_some_iff.mp hc).1
        exact h.2.2 k c hk ((lr_same k hk33 k2 k3).trans hc)
  · rw [s3]
    exact (hro i hi).1
  · exact ro_congr (fun j _ => s2 _) ((hro i hi).2 hp).1
  · rw [s2]
    exact ((hro i hi).2 hp).2 t ht
theorem lrn_un {ex : Nat → va_E} {tys1 : List (ClassId × FieldType)} {S1 : hs_S} {ws1 : va_W} {sh : Nat} {n : Nat → Int} (h : hs_ok ex hs_sh2 tys1 S1 ws1) (hro : lr_F S1 sh n) : ∃ sb : ai_SB, hs_ok sb.2 hs_sh tys1 S1 ws1 ∧ lr_J sb tys1 sh n := by
  obtain ⟨a2, q2, ha2, cA, f2, t0, g2, i2, s2⟩ := h.2.2 2 (0, 46032) (by decide) rfl
  obtain ⟨a3, q3, ha3, cB, f3, t1, g3, i3, s3⟩ := h.2.2 3 (2, 2) (by decide) rfl
  refine ⟨(0, fun n => if n = 0 then q2 else q3), ⟨h.1, h.2.1, fun k c hk hc => ?_⟩, cA, f2, t0, cB, f3, t1, by show (if (0 : Nat) = 0 then q2 else q3) = _; rw [if_pos rfl]; exact g2, i2, by show (if (1 : Nat) = 0 then q2 else q3) = _; rw [if_neg (by decide)]; exact g3, i3, fun i hi => ⟨?_, fun hp => ⟨?_, fun t ht => ?_⟩⟩⟩
  · by_cases k2 : k = 2
    · subst k2
      cases (show some (9, 0) = some c from hc)
      exact ⟨a2, q2, ha2, by show q2 = (if (0 : Nat) = 0 then q2 else q3); rw [if_pos rfl]⟩
    · by_cases k3 : k = 3
      · subst k3
        cases (show some (9, 1) = some c from hc)
        exact ⟨a3, q3, ha3, by show q3 = (if (1 : Nat) = 0 then q2 else q3); rw [if_neg (by decide)]⟩
      · have hk33 : k < 33 := (List.getElem?_eq_some_iff.mp hc).1
        obtain ⟨a, q, ha, har⟩ := h.2.2 k c hk ((lr_same k hk33 k2 k3).symm.trans hc)
        refine ⟨a, q, ha, ?_⟩
        unfold hs_ar at har ⊢
        split at har
        · exact har
        · exact har
        · exact har
        · rename_i n
          exfalso
          have key : ∀ k, k < 33 → ¬ k = 2 → ¬ k = 3 → ∀ n, ¬ hs_sh[k]? = some (9, n) := by
            intro k hk k2 k3 n hn
            have := (by decide : ∀ k, k < 33 → ¬ k = 2 → ¬ k = 3 → (match hs_sh[k]? with
              | some (9, _) => false
              | _ => true) = true) k hk k2 k3
            rw [hn] at this
            cases this
          exact key k hk33 k2 k3 n hc
        · exact har
  · rw [s3 i hi]
    exact (hro i hi).1
  · exact ro_congr (fun j hj => s2 _ (by omega)) ((hro i hi).2 hp).1
  · rw [s2 _ (by have := pl_lt t; omega)]
    exact ((hro i hi).2 hp).2 t ht
/-- what image and back leave -/
def lrn_P (S S1 : hs_S) (sh : Nat) (n : Nat → Int) : Prop := (∀ j, ¬ j = 0 → ¬ j = 1 → S1.1 j = S.1 j) ∧ (∀ k, ¬ k = 1 → ¬ k = 2 → ¬ k = 3 → S1.2 k = S.2 k) ∧ ro (S1.2 1) ∧ (∀ t, t < 6 → S1.2 1 (pl t) = n t) ∧ lr_F S1 sh n
theorem lrn_live {sb : ai_SB} {tys : List (ClassId × FieldType)} {ws : va_W} {n : Nat → Int} (hn : ai_gok (nv n) nv_G) (hws : ai_ws (nv n) sb tys ny_WN ws) : ro ((bg_S ws).2 1) ∧ ∀ t, t < 6 → (bg_S ws).2 1 (pl t) = n t := by
  refine ⟨bh_ro hn (by decide +kernel : bh_ok 23016 nyo = true) (by decide +kernel : nyo.all (fun q => bh_sp nv_G q.1 q.2) = true) hws lrn_1, fun t ht => ?_⟩
  have hm : (pl t, ((2, t, 0, 1) : ai_V)) ∈ nyo := (by decide : ∀ t, t < 6 → (pl t, ((2, t, 0, 1) : ai_V)) ∈ nyo) t ht
  obtain ⟨g1, -, g3⟩ := bh_okm (by decide +kernel : bh_ok 23016 nyo = true) _ hm
  have := bh_row hws lrn_1 _ hm t rfl g1 g3
  rw [nv_lt (by omega)] at this
  exact (Option.some.inj this).symm
theorem lrn_met {K : Nat} {t : hs_T} (hc : hs_C hs_sh2 K t) (h0 : (ai_T K).2.2.2.2.2.2.1.cells = 0) (h1 : (ai_T K).2.2.2.2.2.2.1.slots = 0) {n n' : Nat → Int} {sh sh' : Nat} {Z : Int} (hn : ai_gok (nv n) nv_G) (hw : ∀ t, 18 ≤ t → t < 26 → n' t = n t) {x : Int32} (H : ∀ S : hs_S, lr_F S sh n → ro (S.2 1) → (∀ t, t < 6 → S.2 1 (pl t) = n t) → t [(4, 0), (0, x.toInt)] S (fun ro' S1 => ro' = [(0, Z)] ∧ lrn_P S S1 sh' n')) (sb : ai_SB) (l : Launch) (D : va_G) (ws : va_W) (tys : List (ClassId × FieldType)) (b sz : Nat) (hb : (ws.map Prod.fst)[0]? = some b) (hws : ai_ws (nv n) sb tys ny_WN ws) (hr : lr_J sb tys sh n) : la_Mt (ai_T K) l D ws tys (.ref b :: [x].map .int) sz (fun z ws1 tys1 => z.toInt = Z ∧ ∃ sb1 : ai_SB, ai_ws (nv n') sb1 tys1 ny_WN ws1 ∧ lr_J sb1 tys1 sh' n') := by
  obtain ⟨hok, hfl⟩ := lrn_ok hn hws hr
  obtain ⟨hrow, hlv⟩ := lrn_live hn hws
  have M := hc sb l D ws tys [.ref b, .int x] sz [(4, 0), (0, x.toInt)] (bg_S ws) _ (H _ hfl hrow hlv) ⟨⟨b, hb, rfl⟩, ⟨x, rfl, rfl⟩, trivial⟩ hok
  show Met _ _ _ _ _ _ _ _ _
  rw [h0, h1]
  refine MetFree.mono M (fun _ _ h => h) (fun _ _ _ _ _ h => h) (fun a st oc t' hP hQ => ⟨?_, hQ.2⟩)
  obtain ⟨⟨ro', S1, rv, ws1, tys1, f1, f2, f3, f4, f5, f6, f7, hv, p1, p2, p3, p4, p5⟩, hFr⟩ := hQ.1
  subst hv
  obtain ⟨u, r, hrv, ⟨z, rfl, hz⟩, hnl⟩ := f3.cons
  rw [hnl.nil] at hrv
  obtain ⟨sb', k1, k2⟩ := lrn_un f7 p5
  have hr8 : ∀ t z, 18 ≤ t → nv n t = some z → nv n' t = some z := fun t z h8 hz => by
    by_cases h26 : t < 26
    · rw [nv_lt h26] at hz ⊢
      rw [hw t h8 h26]
      exact hz
    · unfold nv at hz
      rw [if_neg h26] at hz
      cases hz
  refine ⟨⟨z, ws1, tys1, [], ?_, by rw [f2, List.append_nil], f4, f5, f6, hz, sb', ?_, k2⟩, hFr⟩
  · rw [f1]
    cases rv with
    | none => cases hrv
    | some w =>
      cases hrv
      rfl
  · refine bh_bk lrn_w k1 (fun k x hk hx => ?_) (fun j w hj _ => ?_)
    · by_cases e1 : k = 1
      · subst e1
        rw [lrn_1] at hx
        cases hx
        refine ⟨fun q hq => ⟨Or.inl rfl, ?_⟩, Or.inr ⟨rfl, rfl, rfl, p3⟩⟩
        obtain ⟨t, ht, e2, e3⟩ := nyo_k q hq
        exact ⟨t, e2, by rw [nv_lt (by omega), e3, p4 t ht]⟩
      · by_cases e2 : k = 2
        · subst e2
          rw [lrn_2] at hx
          cases hx
          trivial
        · by_cases e3 : k = 3
          · subst e3
            rw [lrn_3] at hx
            cases hx
            trivial
          · have hk33 : k < 33 := (List.getElem?_eq_some_iff.mp hx).1
            have g := List.all_eq_true.mp lrn_dka k (List.mem_range.mpr hk33)
            unfold lrn_dk at g
            rw [beq_eq_false_iff_ne.mpr (show ¬ k = 0 by omega), beq_eq_false_iff_ne.mpr e1, Bool.false_or, Bool.false_or, hx] at g
            dsimp only at g
            rw [Bool.and_eq_true] at g
            exact bh_any hr8 g.2 (bh_deq (p2 k e1 e2 e3) (bh_std hn hws hx g.1))
    · have hj62 : j < 62 := (List.getElem?_eq_some_iff.mp hj).1
      have g := List.all_eq_true.mp lrn_fta j (List.mem_range.mpr hj62)
      unfold lrn_ft at g
      rw [hj] at g
      simp only [Bool.and_eq_true, Bool.or_eq_true, Bool.not_eq_true', beq_eq_false_iff_ne, beq_iff_eq, Nat.ble_eq] at g
      obtain ⟨g1, g2, g3, g4⟩ := g
      by_cases e0 : j < 2
      · rcases g4 with g4 | g4
        · omega
        · subst g4
          exact fun h => h
      · exact bg_fany hr8 g2 g3 (bg_fdeq (p1 j (by omega) (by omega)) (bg_st lrn_w hws j w hj g1))
/-! shapes and counts -/
theorem rx_p : ∀ sh, sh < 5 → ∀ a, a < 2 → ∀ i, i < 2 → ib_p (ib_nx sh a) i = (i == a || ib_p sh i) := by decide
theorem rx_2 : ∀ sh, sh < 5 → ∀ a, a < 4 → 2 ≤ a → ib_nx sh a = sh ∧ ib_p sh a = false := by decide
theorem rx_n : ∀ sh, sh < 5 → ∀ a, a < 4 → ib_nx sh a < 5 := by decide
theorem rx_i6 : ∀ a, a < 4 → ∀ t, t < 6 → nv_i a t = t := by decide
theorem rx_ia : ∀ a, a < 2 → ∀ t, t < 6 → nv_i a (6 + 6 * a + t) = t := by decide
theorem rx_io : ∀ a, a < 4 → ∀ i, i < 2 → ¬ i = a → ∀ t, t < 6 → nv_i a (6 + 6 * i + t) = 6 + 6 * i + t := by decide
theorem rx_kt : ∀ a, a < 2 → ∀ t, t < 6 → nv_k true a t = 6 + 6 * a + t := by decide
theorem rx_w : ∀ a, a < 4 → ∀ t, t < 26 → 18 ≤ t → nv_i a t = t := by decide +kernel
theorem rx_kw (e : Bool) (a t : Nat) (h : 18 ≤ t) : nv_k e a t = t := by
  unfold nv_k
  have : Nat.blt t 6 = false := by
    cases h6 : Nat.blt t 6 with
    | false => rfl
    | true =>
      have : t < 6 := Nat.le_of_ble_eq_true h6
      omega
  rw [this, Bool.and_false, cond_false]
theorem rx_kf (a t : Nat) : nv_k false a t = t := by
  unfold nv_k
  rfl
theorem rx_ko (e : Bool) (a i t : Nat) : nv_k e a (6 + 6 * i + t) = 6 + 6 * i + t := by
  unfold nv_k
  have : Nat.blt (6 + 6 * i + t) 6 = false := by
    cases h : Nat.blt (6 + 6 * i + t) 6 with
    | false => rfl
    | true =>
      have : 6 + 6 * i + t < 6 := Nat.le_of_ble_eq_true h
      omega
  rw [this, Bool.and_false, cond_false]
theorem rx_a (x : Int32) : ((0 ≤ x.toInt ∧ x.toInt ≤ 1) ∧ x.toInt.toNat = ib_a x ∧ ib_a x < 2) ∨ (¬ (0 ≤ x.toInt ∧ x.toInt ≤ 1) ∧ 2 ≤ ib_a x) := by
  unfold ib_a
  by_cases h0 : x.toInt = 0
  · rw [if_pos h0, h0]
    exact Or.inl ⟨by omega, rfl, by decide⟩
  · rw [if_neg h0]
    by_cases h1 : x.toInt = 1
    · rw [if_pos h1, h1]
      exact Or.inl ⟨by omega, rfl, by decide⟩
    · rw [if_neg h1]
      by_cases h2 : x.toInt < 0
      · rw [if_pos h2]
        exact Or.inr ⟨by omega, by decide⟩
      · rw [if_neg h2]
        exact Or.inr ⟨by omega, by decide⟩
theorem rx_up {S : hs_S} {w : Int} {j : Nat} (h0 : ¬ j = 0) (h1 : ¬ j = 1) : hs_up (hs_up S.1 0 0) 1 w j = S.1 j := by rw [hs_up_ne h1, hs_up_ne h0]
theorem rx_F {S : hs_S} {A : Nat → Nat → Int} {f : Nat → Int} {sh : Nat} {n n' : Nat → Int} (h2 : A 2 = S.2 2) (h3 : A 3 = S.2 3) (hn : ∀ i, i < 2 → ∀ t, t < 6 → n' (6 + 6 * i + t) = n (6 + 6 * i + t)) (h : lr_F S sh n) : lr_F (f, A) sh n' := by
  intro i hi
  obtain ⟨g1, g2⟩ := h i hi
  refine ⟨?_, fun hp => ⟨?_, fun t ht => ?_⟩⟩
  · show _ ↔ ¬ A 3 i = 0
    rw [h3]
    exact g1
  · show ro (fun j => A 2 (23016 * i + j))
    rw [h2]
    exact (g2 hp).1
  · show A 2 (23016 * i + pl t) = _
    rw [h2, hn i hi t ht]
    exact (g2 hp).2 t ht
theorem lrn_image {sh : Nat} (hsh : sh < 5) {n : Nat → Int} (hn : ai_gok (nv n) nv_G) (x : Int32) (sb : ai_SB) (l : Launch) (D : va_G) (ws : va_W) (tys : List (ClassId × FieldType)) (b sz : Nat) (hb : (ws.map Prod.fst)[0]? = some b) (hws : ai_ws (nv n) sb tys ny_WN ws) (hr : lr_J sb tys sh n) : la_Mt (ai_T 69) l D ws tys (.ref b :: [x].map .int) sz (fun z ws1 tys1 => z.toInt = in_Zi (ib_a x) ∧ ∃ sb1 : ai_SB, ai_ws (nv (fun t => n (nv_i (ib_a x) t))) sb1 tys1 ny_WN ws1 ∧ lr_J sb1 tys1 (ib_nx sh (ib_a x)) (fun t => n (nv_i (ib_a x) t))) := by
  have ha4 := ib_a4 x
  refine lrn_met c_image (by decide +kernel) (by decide +kernel) hn (fun t h8 h26 => by show n (nv_i (ib_a x) t) = n t; rw [rx_w _ ha4 t h26 h8]) (fun S hF r0 hl => ⟨rfl, fun hx w => ?_, fun i0 i1 w A hA => ?_⟩) sb l D ws tys b sz hb hws hr
  · rcases rx_a x with ⟨h, -⟩ | ⟨-, h2⟩
    · exact absurd h hx
    · obtain ⟨e1, -⟩ := rx_2 sh hsh _ ha4 h2
      have eZ : in_Zi (ib_a x) = -1 := by
        unfold in_Zi
        have : Nat.blt (ib_a x) 2 = false := by
          cases h : Nat.blt (ib_a x) 2 with
          | false => rfl
          | true =>
            have : ib_a x < 2 := Nat.le_of_ble_eq_true h
            omega
        rw [this, cond_false]
      rw [eZ, e1]
      exact ⟨rfl, fun j h0 h1 => rx_up h0 h1, fun _ _ _ _ => rfl, r0, fun t ht => by show S.2 1 (pl t) = n (nv_i (ib_a x) t); rw [rx_i6 _ ha4 t ht]; exact hl t ht, rx_F rfl rfl (fun i hi t ht => by show n (nv_i (ib_a x) (6 + 6 * i + t)) = n (6 + 6 * i + t); rw [rx_io _ ha4 i hi (by omega) t ht]) hF⟩
  · rcases rx_a x with ⟨-, h2, h3⟩ | ⟨h, -⟩
    · obtain ⟨a1, a2, a3, a4, a5⟩ := hA
      rw [h2] at a2 a3 a4 a5
      have eZ : in_Zi (ib_a x) = 0 := by
        unfold in_Zi
        have : Nat.blt (ib_a x) 2 = true := Nat.ble_eq.mpr h3
        rw [this, cond_true]
      rw [eZ]
      refine ⟨rfl, fun j h0 h1 => rx_up h0 h1, fun k _ k2 k3 => a1 k k2 k3, ?_, fun t ht => ?_, fun i hi => ?_⟩
      · show ro (A 1)
        rw [a1 1 (by decide) (by decide)]
        exact r0
      · show A 1 (pl t) = n (nv_i (ib_a x) t)
        rw [a1 1 (by decide) (by decide), rx_i6 _ ha4 t ht]
        exact hl t ht
      · rw [rx_p sh hsh _ h3 i hi]
        by_cases e : i = ib_a x
        · rw [beq_iff_eq.mpr e, Bool.true_or]
          refine ⟨⟨fun _ => ?_, fun _ => rfl⟩, fun _ => ⟨?_, fun t ht => ?_⟩⟩
          · show ¬ A 3 i = 0
            rw [e, a4]
            decide
          · show ro (fun j => A 2 (23016 * i + j))
            rw [e]
            exact ro_congr (fun j hj => a2 j hj) r0
          · show A 2 (23016 * i + pl t) = n (nv_i (ib_a x) (6 + 6 * i + t))
            rw [e, a2 _ (by have := pl_lt t; omega), rx_ia _ h3 t ht]
            exact hl t ht
        · rw [beq_eq_false_iff_ne.mpr e, Bool.false_or]
          obtain ⟨g1, g2⟩ := hF i hi
          refine ⟨?_, fun hp => ⟨?_, fun t ht => ?_⟩⟩
          · show _ ↔ ¬ A 3 i = 0
            rw [a5 i e]
            exact g1
          · show ro (fun j => A 2 (23016 * i + j))
            exact ro_congr (fun j hj => a3 _ (by omega)) (g2 hp).1
          · show A 2 (23016 * i + pl t) = n (nv_i (ib_a x) (6 + 6 * i + t))
            rw [a3 _ (by have := pl_lt t; omega), rx_io _ ha4 i hi e t ht]
            exact (g2 hp).2 t ht
    · exact absurd ⟨i0, i1⟩ h
theorem lrn_back {sh : Nat} (hsh : sh < 5) {n : Nat → Int} (hn : ai_gok (nv n) nv_G) (x : Int32) (sb : ai_SB) (l : Launch) (D : va_G) (ws : va_W) (tys : List (ClassId × FieldType)) (b sz : Nat) (hb : (ws.map Prod.fst)[0]? = some b) (hws : ai_ws (nv n) sb tys ny_WN ws) (hr : lr_J sb tys sh n) : la_Mt (ai_T 34) l D ws tys (.ref b :: [x].map .int) sz (fun z ws1 tys1 => z.toInt = in_Zk sh (ib_a x) ∧ ∃ sb1 : ai_SB, ai_ws (nv (fun t => n (nv_k (ib_p sh (ib_a x)) (ib_a x) t))) sb1 tys1 ny_WN ws1 ∧ lr_J sb1 tys1 sh (fun t => n (nv_k (ib_p sh (ib_a x)) (ib_a x) t))) := by
  have ha4 := ib_a4 x
  have zk : ∀ (a : Nat) (e : Bool), a < 2 → ib_p sh a = e → in_Zk sh a = bif e then 0 else -2 := fun a e h he => by
    unfold in_Zk
    have : Nat.blt a 2 = true := Nat.ble_eq.mpr h
    rw [this, cond_true, he]
  refine lrn_met c_bk2 (by decide +kernel) (by decide +kernel) hn (fun t h8 _ => by show n (nv_k (ib_p sh (ib_a x)) (ib_a x) t) = n t; rw [rx_kw _ _ _ h8]) (fun S hF r0 hl => ⟨rfl, fun hx w => ?_, fun i0 i1 hk w => ?_, fun i0 i1 hk w A hA => ?_⟩) sb l D ws tys b sz hb hws hr
  · rcases rx_a x with ⟨h, -⟩ | ⟨-, h2⟩
    · exact absurd h hx
    · obtain ⟨-, e1⟩ := rx_2 sh hsh _ ha4 h2
      have eZ : in_Zk sh (ib_a x) = -1 := by
        unfold in_Zk
        have : Nat.blt (ib_a x) 2 = false := by
          cases h : Nat.blt (ib_a x) 2 with
          | false => rfl
          | true =>
            have : ib_a x < 2 := Nat.le_of_ble_eq_true h
            omega
        rw [this, cond_false]
      rw [eZ, e1]
      exact ⟨rfl, fun j h0 h1 => rx_up h0 h1, fun _ _ _ _ => rfl, r0, fun t ht => by show S.2 1 (pl t) = n (nv_k false (ib_a x) t); rw [rx_kf]; exact hl t ht, rx_F rfl rfl (fun i hi t ht => by show n (nv_k false (ib_a x) (6 + 6 * i + t)) = n (6 + 6 * i + t); rw [rx_kf]) hF⟩
  · rcases rx_a x with ⟨-, h2, h3⟩ | ⟨h, -⟩
    · rw [h2] at hk
      have e1 : ib_p sh (ib_a x) = false := by
        cases e : ib_p sh (ib_a x) with
        | false => rfl
        | true => exact absurd hk ((hF _ h3).1.mp e)
      rw [zk _ _ h3 e1, e1]
      exact ⟨rfl, fun j h0 h1 => rx_up h0 h1, fun _ _ _ _ => rfl, r0, fun t ht => by show S.2 1 (pl t) = n (nv_k false (ib_a x) t); rw [rx_kf]; exact hl t ht, rx_F rfl rfl (fun i hi t ht => by show n (nv_k false (ib_a x) (6 + 6 * i + t)) = n (6 + 6 * i + t); rw [rx_kf]) hF⟩
    · exact absurd ⟨i0, i1⟩ h
  · rcases rx_a x with ⟨-, h2, h3⟩ | ⟨h, -⟩
    · rw [h2] at hk
      have e1 : ib_p sh (ib_a x) = true := (hF _ h3).1.mpr hk
      obtain ⟨a1, a2, -⟩ := hA
      rw [h2] at a2
      rw [zk _ _ h3 e1, e1]
      obtain ⟨g1, g2⟩ := (hF _ h3).2 e1
      refine ⟨rfl, fun j h0 h1 => rx_up h0 h1, fun k k1 _ _ => a1 k k1, ?_, fun t ht => ?_, rx_F (a1 2 (by decide)) (a1 3 (by decide)) (fun i hi t ht => by show n (nv_k true (ib_a x) (6 + 6 * i + t)) = n (6 + 6 * i + t); rw [rx_ko]) hF⟩
      · show ro (A 1)
        exact ro_congr (fun j hj => a2 j (by omega)) g1
      · show A 1 (pl t) = n (nv_k true (ib_a x) t)
        rw [a2 _ (by have := pl_lt t; omega), rx_kt _ h3 t ht]
        exact g2 t ht
    · exact absurd ⟨i0, i1⟩ h
