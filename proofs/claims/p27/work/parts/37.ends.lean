/-! ===== counts: what calls do with them ===== -/
theorem la_Mm {md : ai_MD} {l : Launch} {D : va_G} {ws : va_W} {tys : List (ClassId × FieldType)} {vs : List Value} {sz : Nat} {Φ Φ' : Int32 → va_W → List (ClassId × FieldType) → Prop} (h : ∀ z w t, Φ z w t → Φ' z w t) (M : la_Mt md l D ws tys vs sz Φ) : la_Mt md l D ws tys vs sz Φ' := by
  refine MetFree.mono M (fun _ _ h => h) (fun _ _ _ _ _ h => h) (fun a st oc t hP hQ => ⟨?_, hQ.2⟩)
  obtain ⟨⟨z, ws1, tys1, y, f1, f2, f3, f4, f5, f6⟩, hFr⟩ := hQ.1
  exact ⟨⟨z, ws1, tys1, y, f1, f2, f3, f4, f5, h _ _ _ f6⟩, hFr⟩
def nv_h (t : Nat) : Int := bif Nat.blt t 18 then (match t % 6 with
  | 0 => 16
  | 1 => 20
  | 2 => 40
  | 3 => 200
  | 4 => 200
  | _ => 120) else bif t == 18 then 7 else 15
theorem nv_len : nv_G.length = 26 := rfl
theorem nv_at : ∀ {t : Nat}, t < 26 → nv_G[t]? = some (0, nv_h t, 0) := fun {t} h => (by decide : ∀ t, t < 26 → nv_G[t]? = some (0, nv_h t, 0)) t h
theorem nv_gk {n : Nat → Int} (h : ∀ t, t < 26 → 0 ≤ n t ∧ n t ≤ nv_h t) : ai_gok (nv n) nv_G := by
  intro t
  show (match nv_G[t]? with
    | some q => ∃ z, nv n t = some z ∧ q.1 ≤ z ∧ z ≤ q.2.1 ∧ ai_kp (nv n) q.2.2 z
    | none => nv n t = none)
  by_cases h26 : t < 26
  · rw [nv_at h26]
    exact ⟨n t, nv_lt h26, (h t h26).1, (h t h26).2, ai_kp0 rfl⟩
  · rw [List.getElem?_eq_none (by rw [nv_len]; omega)]
    exact if_neg h26
theorem nv_bh {n : Nat → Int} (h : ai_gok (nv n) nv_G) {t : Nat} (ht : t < 26) : 0 ≤ n t ∧ n t ≤ nv_h t := by
  obtain ⟨z, h1, h2, h3, -⟩ := h.at (nv_at ht)
  rw [nv_lt ht] at h1
  cases h1
  exact ⟨h2, h3⟩
theorem nv_mv {n : Nat → Int} {p : Nat → Nat} (hp : ∀ t, t < 26 → p t < 26 ∧ nv_h (p t) = nv_h t) (h : ai_gok (nv n) nv_G) : ai_gok (nv (fun t => n (p t))) nv_G := nv_gk (fun t ht => by
  have := nv_bh h (hp t ht).1
  rw [(hp t ht).2] at this
  exact this)
theorem nv_ip : ∀ a, a < 4 → ∀ t, t < 26 → nv_i a t < 26 ∧ nv_h (nv_i a t) = nv_h t := by decide +kernel
theorem nv_kp : ∀ sh, sh < 5 → ∀ a, a < 4 → ∀ t, t < 26 → nv_k (ib_p sh a) a t < 26 ∧ nv_h (nv_k (ib_p sh a) a t) = nv_h t := by decide +kernel
/-! image and back of the class -/
theorem in_st {n : Nat → Int} (hn : ai_gok (nv n) nv_G) {sb : ai_SB} {ad : List Nat} {b : Nat} (hb : ad[0]? = some b) (x : Int32) : ∃ ρ, ai_gok ρ (nv_G ++ ib_q (ib_a x)) ∧ ai_F2 (ai_mt ρ sb ad) [(4, 0, 0, 0), in_v (ib_a x)] [.ref b, .int x] ∧ ai_le (nv n) ρ := by
  have hx := ai_i32 x
  unfold ib_a
  by_cases h0 : x.toInt = 0
  · rw [if_pos h0]
    exact ⟨nv n, by rw [show ib_q 0 = [] from rfl, List.append_nil]; exact hn, ⟨⟨b, hb, rfl⟩, ⟨x, rfl, by omega, by omega⟩, trivial⟩, ai_le.rf⟩
  · rw [if_neg h0]
    by_cases h1 : x.toInt = 1
    · rw [if_pos h1]
      exact ⟨nv n, by rw [show ib_q 1 = [] from rfl, List.append_nil]; exact hn, ⟨⟨b, hb, rfl⟩, ⟨x, rfl, by omega, by omega⟩, trivial⟩, ai_le.rf⟩
    · rw [if_neg h1]
      by_cases h2 : x.toInt < 0
      · rw [if_pos h2]
        exact ⟨ai_more (nv n) nv_G.length x.toInt, ai_more_ok (q := (-2147483648, -1, 0)) hn (by dsimp only; omega) (by dsimp only; omega) (ai_kp0 rfl), ⟨⟨b, hb, rfl⟩, ⟨x, x.toInt, rfl, ai_more_at, by omega⟩, trivial⟩, ai_more_le hn _⟩
      · rw [if_neg h2]
        exact ⟨ai_more (nv n) nv_G.length x.toInt, ai_more_ok (q := (2, 2147483647, 0)) hn (by dsimp only; omega) (by dsimp only; omega) (ai_kp0 rfl), ⟨⟨b, hb, rfl⟩, ⟨x, x.toInt, rfl, ai_more_at, by omega⟩, trivial⟩, ai_more_le hn _⟩
theorem in_met {K : Nat} {f : Nat → Room} {sh : Nat} {W' : ai_W} {x : Int32} {Z : Int} {p : Nat → Nat} {n : Nat → Int} (hp : ∀ t, t < 26 → p t < 26) (hn : ai_gok (nv n) nv_G) (hkd : ¬ (ai_T K).2.2.2.2.2.2.2 = 3) (hsum : (([(4, 0, 0, 0), in_v (ib_a x)] : List ai_V).map ai_cat).sum ≤ (ai_T K).2.2.2.1) (h : iw_all (in_run K f sh (ib_a x)) (la_endc Z (nv_c p) W') = true) (sb : ai_SB) (l : Launch) (D : va_G) (ws : va_W) (tys : List (ClassId × FieldType)) (b sz : Nat) (hb : (ws.map Prod.fst)[0]? = some b) (hws : ai_ws (nv n) sb tys (iN sh) ws) : la_Mt (ai_sr' (ai_T K) (f K)) l D ws tys (.ref b :: [x].map .int) sz (fun z ws1 tys1 => z.toInt = Z ∧ ai_ws (nv (fun t => n (p t))) sb tys1 W' ws1) := by
  obtain ⟨outs, h1, h2⟩ := iw_all_ok h
  unfold in_run at h1
  rw [af_ex_eq] at h1
  have hc := ai_run_cs (T := ai_Tr ai_T f) (sb := sb) ai_clok_ok (fun M q => ⟨ai_codeok_sr (ai_hB M q).1, (ai_hB M q).2⟩) (fun K hk => ai_hM K hk) (fun _ _ _ _ _ _ h => by cases h) hkd hsum h1
  obtain ⟨ρ, g1, g2, g3⟩ := in_st (n := n) hn (sb := sb) hb x
  have M := hc ρ l D ws tys _ sz (fun _ _ h => absurd h (by decide)) g1 g2 (hws.up g3)
  refine MetFree.mono M (fun _ _ h => h) (fun _ _ _ _ _ h => h) (fun a st oc t hP hQ => ⟨?_, hQ.2⟩)
  obtain ⟨⟨o, ho, σ, d1, d2, rv, ws1, tys1, y, f1, f2, f3, f4, f5, f6, f7⟩, hFr⟩ := hQ.1
  have he := h2 o ho
  unfold la_endc at he
  rw [Bool.and_eq_true] at he
  obtain ⟨he1, he2⟩ := he
  split at he1
  · rename_i q u v hv
    simp only [Bool.and_eq_true, beq_iff_eq] at he1
    rw [hv] at f3
    obtain ⟨u', r, hrv, ⟨z, rfl, b1, b2⟩, hn'⟩ := f3.cons
    rw [hn'.nil] at hrv
    refine ⟨⟨z, ws1, tys1, y, ?_, f2, f4, f5, f6, by omega, la_undc hp hn (fun t ht => d1 t _ (g3 t _ (nv_lt ht))) d2 he2 f7⟩, hFr⟩
    rw [f1]
    cases rv with
    | none => cases hrv
    | some w =>
      cases hrv
      rfl
  · cases he1
theorem in_cat (x : Int32) : (([(4, 0, 0, 0), in_v (ib_a x)] : List ai_V).map ai_cat).sum ≤ 2 := by
  have h : ∀ a : Nat, ai_cat (in_v a) = 1 := fun a => by
    match a with
    | 0 => rfl
    | 1 => rfl
    | n + 2 => rfl
  show 1 + (ai_cat (in_v (ib_a x)) + 0) ≤ 2
  rw [h]
  decide
theorem in_image {sh : Nat} (hsh : sh < 5) {n : Nat → Int} (hn : ai_gok (nv n) nv_G) (x : Int32) (sb : ai_SB) (l : Launch) (D : va_G) (ws : va_W) (tys : List (ClassId × FieldType)) (b sz : Nat) (hb : (ws.map Prod.fst)[0]? = some b) (hws : ai_ws (nv n) sb tys (iN sh) ws) : la_Mt (ai_sr' (ai_T 325) (ib_rm (ib_nw sh (ib_a x)) 325)) l D ws tys (.ref b :: [x].map .int) sz (fun z ws1 tys1 => z.toInt = in_Zi (ib_a x) ∧ ai_ws (nv (fun t => n (nv_i (ib_a x) t))) sb tys1 (iN (ib_nx sh (ib_a x))) ws1) := in_met (f := ib_rm (ib_nw sh (ib_a x))) (fun t ht => (nv_ip _ (ib_a4 x) t ht).1) hn (by decide +kernel) (Nat.le_trans (in_cat x) (by decide +kernel)) (List.all_eq_true.mp (in_ia hsh) _ (List.mem_range.mpr (ib_a4 x))) sb l D ws tys b sz hb hws
theorem in_back {sh : Nat} (hsh : sh < 5) {n : Nat → Int} (hn : ai_gok (nv n) nv_G) (x : Int32) (sb : ai_SB) (l : Launch) (D : va_G) (ws : va_W) (tys : List (ClassId × FieldType)) (b sz : Nat) (hb : (ws.map Prod.fst)[0]? = some b) (hws : ai_ws (nv n) sb tys (iN sh) ws) : la_Mt (ai_sr' (ai_T 306) (ib_rm false 306)) l D ws tys (.ref b :: [x].map .int) sz (fun z ws1 tys1 => z.toInt = in_Zk sh (ib_a x) ∧ ai_ws (nv (fun t => n (nv_k (ib_p sh (ib_a x)) (ib_a x) t))) sb tys1 (iN sh) ws1) := in_met (f := ib_rm false) (fun t ht => (nv_kp _ hsh _ (ib_a4 x) t ht).1) hn (by decide +kernel) (Nat.le_trans (in_cat x) (by decide +kernel)) (List.all_eq_true.mp (in_ba hsh) _ (List.mem_range.mpr (ib_a4 x))) sb l D ws tys b sz hb hws
/-! the six that change a count -/
def px_m (n : Nat → Int) (xs : List Int32) (t : Nat) : Int := if t < 26 then n t else (xs.getD (t - 26) 0).toInt
def px_E (six : ai_W → List ai_V) (o : ai_O) : pa_E := (o.2.1, o.2.2.2.1.headD (5, 0, 0, 0), px_cv six o)
theorem px_vm {σ : ai_Rh} {sb : ai_SB} {ad : List Nat} {v : ai_V} {u : Value} (h : v.1 = 0 ∨ v.1 = 2) (hm : ai_mt σ sb ad v u) : pa_v σ v (ai_vz u) := by
  obtain ⟨n, t, a, b⟩ := v
  rcases h with h | h
  · dsimp only at h
    subst h
    obtain ⟨x, rfl, h1⟩ := hm
    exact h1
  · dsimp only at h
    subst h
    obtain ⟨x, z, rfl, h1, h2⟩ := hm
    exact ⟨z, h1, h2⟩
theorem px_ex {α β : Type} {R : α → β → Prop} : ∀ {l : List α}, (∀ v ∈ l, ∃ u, R v u) → ∃ us, ai_F2 R l us
  | [], _ => ⟨[], trivial⟩
  | a :: r, h => by
    obtain ⟨u, hu⟩ := h a List.mem_cons_self
    obtain ⟨us, hus⟩ := px_ex (l := r) (fun v hv => h v (List.mem_cons_of_mem _ hv))
    exact ⟨u :: us, hu, hus⟩
theorem px_b : ∀ {k : Nat} {xs : List Int32}, xs.length = k → ai_F2 (fun (q : Int × Int × Nat) (z : Int) => q.1 ≤ z ∧ z ≤ q.2.1 ∧ q.2.2 = 0) (List.replicate k (-2147483648, 2147483647, 0)) (xs.map Int32.toInt)
  | 0, [], _ => trivial
  | k + 1, x :: xs, h => ⟨⟨(ai_i32 x).1, (ai_i32 x).2, rfl⟩, px_b (by simpa using h)⟩
  | k + 1, [], h => by cases h
  | 0, _ :: _, h => by cases h
/-- the numbers at a call's start -/
theorem px_st {n : Nat → Int} (hn : ai_gok (nv n) nv_G) {k : Nat} {xs : List Int32} (hk : xs.length = k) : ∃ ρ, ai_gok ρ (pn_G k) ∧ ai_le (nv n) ρ ∧ ∀ t, t < 26 + k → ρ t = some (px_m n xs t) := by
  obtain ⟨g1, g2, g3⟩ := ai_mores_le hn (px_b hk)
  refine ⟨_, g1, g2, fun t ht => ?_⟩
  unfold px_m
  by_cases h18 : t < 26
  · rw [if_pos h18]
    exact g2 t _ (nv_lt h18)
  · rw [if_neg h18]
    have hx : xs[t - 26]? = some (xs[t - 26]'(by omega)) := List.getElem?_eq_getElem (by omega)
    have := g3 (t - 26) (xs[t - 26]'(by omega)).toInt (by rw [List.getElem?_map, hx]; rfl)
    rw [nv_len, show 26 + (t - 26) = t by omega] at this
    rw [nv_len, this, List.getD_eq_getElem?_getD, hx]
    rfl
theorem px_as {n : Nat → Int} {k : Nat} {xs : List Int32} {ρ : ai_Rh} {sb : ai_SB} {ad : List Nat} {b : Nat} (hk : xs.length = k) (hρ : ∀ t, t < 26 + k → ρ t = some (px_m n xs t)) (hb : ad[0]? = some b) : ai_F2 (ai_mt ρ sb ad) (pn_as k) (.ref b :: xs.map .int) := by
  refine ⟨⟨b, hb, rfl⟩, ai_F2of (by rw [List.length_map, List.length_map, List.length_range, hk]) (fun j a hj => ?_)⟩
  rw [List.getElem?_map] at hj
  cases hr : (List.range k)[j]? with
  | none => rw [hr] at hj; cases hj
  | some t =>
    rw [hr] at hj
    cases hj
    obtain ⟨hl, ht⟩ := List.getElem?_eq_some_iff.mp hr
    rw [List.getElem_range] at ht
    subst ht
    rw [List.length_range] at hl
    have hx : xs[j]? = some (xs[j]'(by omega)) := List.getElem?_eq_getElem (by omega)
    have h1 := hρ (26 + j) (by omega)
    unfold px_m at h1
    rw [if_neg (by omega), show 26 + j - 26 = j by omega, List.getD_eq_getElem?_getD, hx] at h1
    exact ⟨.int (xs[j]'(by omega)), by rw [List.getElem?_map, hx]; rfl, _, _, rfl, h1, by show _ = 1 * (xs[j]'(by omega)).toInt + 0; omega⟩
theorem px_ct {six : ai_W → List ai_V} (h6 : ∀ W, (six W).length = 14) (o : ai_O) : (px_cv six o).length = 26 ∧ ∀ t, 6 ≤ t → t < 18 → (px_cv six o)[t]? = some (2, t, 0, 1) := by
  have l1 : ((six o.2.2.2.2.1).take 6).length = 6 := by rw [List.length_take, h6]; rfl
  have l2 : px_t.length = 12 := rfl
  have l3 : ((six o.2.2.2.2.1).drop 6).length = 8 := by rw [List.length_drop, h6]
  unfold px_cv
  refine ⟨by rw [List.length_append, List.length_append, l1, l2, l3], fun t h1 h2 => ?_⟩
  rw [List.getElem?_append_right (by omega), l1, List.getElem?_append_left (by omega)]
  unfold px_t
  rw [List.getElem?_map, List.getElem?_range (by omega)]
  show some ((2, t - 6 + 6, 0, 1) : ai_V) = _
  rw [show t - 6 + 6 = t by omega]
theorem px_of {md : ai_MD} {k : Nat} {aw W' : ai_W} {outs : List ai_O} {six : ai_W → List ai_V} (h6 : ∀ W, (six W).length = 14) (hsix : ∀ (σ : ai_Rh) (sb : ai_SB) (tys : List (ClassId × FieldType)) (ws : va_W) (W : ai_W), ai_ws σ sb tys W ws → ∀ v ∈ six W, (v.1 = 0 ∨ v.1 = 2) → ∃ u, ai_mt σ sb (ws.map Prod.fst) v u) {sb : ai_SB} (h : ai_cs md 0 sb (pn_G k) (pn_as k) aw outs) (hall : ∀ o ∈ outs, pn_ec W' (px_cv six o) o = true) {n : Nat → Int} (hn : ai_gok (nv n) nv_G) (l : Launch) (D : va_G) (ws : va_W) (tys : List (ClassId × FieldType)) (xs : List Int32) (b sz : Nat) (hk : xs.length = k) (hb : (ws.map Prod.fst)[0]? = some b) (hws : ai_ws (nv n) sb tys aw ws) : la_Mt md l D ws tys (.ref b :: xs.map .int) sz (fun z ws1 tys1 => ∃ n' : Nat → Int, (∃ o ∈ outs, pa_S (26 + k) (px_m n xs) (px_E six o) z.toInt n') ∧ (∀ t, 6 ≤ t → t < 18 → n' t = n t) ∧ ai_gok (nv n') nv_G ∧ ai_ws (nv n') sb tys1 W' ws1) := by
  obtain ⟨ρ, g1, g2, g3⟩ := px_st hn hk
  have M := h ρ l D ws tys _ sz (fun _ _ h => absurd h (by decide)) g1 (px_as hk g3 hb) (hws.up g2)
  refine MetFree.mono M (fun _ _ h => h) (fun _ _ _ _ _ h => h) (fun a st oc t hP hQ => ⟨?_, hQ.2⟩)
  obtain ⟨⟨o, ho, σ, d1, d2, rv, ws1, tys1, y, f1, f2, f3, f4, f5, f6, f7⟩, hFr⟩ := hQ.1
  have he := hall o ho
  unfold pn_ec at he
  simp only [Bool.and_eq_true] at he
  obtain ⟨he1, he2, he3, he4⟩ := he
  have hs : ∀ t, t < 26 + k → σ t = some (px_m n xs t) := fun t ht => d1 t _ (g3 t ht)
  have hs18 : ∀ t, t < 26 → σ t = some (n t) := fun t ht => by
    rw [hs t (by omega)]
    unfold px_m
    rw [if_pos ht]
  have hk2 : ∀ v ∈ px_cv six o, v.1 = 0 ∨ v.1 = 2 := fun v hv => by
    have := List.all_eq_true.mp he2 v hv
    simpa using this
  have hcv : ∀ v ∈ px_cv six o, ∃ u, ai_mt σ sb (ws1.map Prod.fst) v u := by
    intro v hv
    have h02 := hk2 v hv
    unfold px_cv at hv
    rcases List.mem_append.mp hv with hv | hv
    · exact hsix σ sb tys1 ws1 _ f7 v (List.mem_of_mem_take hv) h02
    rcases List.mem_append.mp hv with hv | hv
    rotate_left
    · exact hsix σ sb tys1 ws1 _ f7 v (List.mem_of_mem_drop hv) h02
    · unfold px_t at hv
      obtain ⟨t, ht, rfl⟩ := List.mem_map.mp hv
      have ht := List.mem_range.mp ht
      have hbd := nv_bd hn (t := t + 6) (by omega)
      refine ⟨.int (Int32.ofInt (n (t + 6))), Int32.ofInt (n (t + 6)), n (t + 6), rfl, hs18 _ (by omega), ?_⟩
      rw [hs_int32 (by omega) (by omega)]
      omega
  obtain ⟨us, hus⟩ := px_ex hcv
  have hbn := ai_nchk_ok d2 hus he3
  have hlen : us.length = 26 := by
    have h1 := hus.len
    rw [(px_ct h6 o).1] at h1
    omega
  have hn' : ∀ (t : Nat) (u : Value), us[t]? = some u → (us.map ai_vz).getD t 0 = ai_vz u := fun t u hu => by
    rw [List.getD_eq_getElem?_getD, List.getElem?_map, hu]
    rfl
  have hgk : ai_gok (nv (fun t => (us.map ai_vz).getD t 0)) nv_G := nv_gk (fun t ht => by
    obtain ⟨z, hz, b1, b2, -⟩ := hbn.get (nv_at ht)
    rw [List.getElem?_map] at hz
    cases hu : us[t]? with
    | none => rw [hu] at hz; cases hz
    | some u =>
      rw [hu] at hz
      cases hz
      show 0 ≤ (us.map ai_vz).getD t 0 ∧ (us.map ai_vz).getD t 0 ≤ nv_h t
      rw [hn' t u hu]
      exact ⟨b1, b2⟩)
  have hkeep : ∀ t, 6 ≤ t → t < 18 → (us.map ai_vz).getD t 0 = n t := by
    intro t h6t h18
    have hc : (px_cv six o)[t]? = some (2, t, 0, 1) := (px_ct h6 o).2 t h6t h18
    obtain ⟨u, hu, x, z, rfl, k1, k2⟩ := hus.get hc
    rw [hn' t _ hu]
    rw [hs18 t (by omega)] at k1
    cases k1
    show x.toInt = n t
    omega
  have hW : ai_ws (nv (fun t => (us.map ai_vz).getD t 0)) sb tys1 W' ws1 := ai_sbw_ok (nG := 0) (cvs := px_cv six o) (us := us) d2 (fun t z ht => absurd ht (Nat.not_lt_zero t)) hus (fun j u hj => by
    have hj18 : j < 26 := by rw [← hlen]; exact (List.getElem?_eq_some_iff.mp hj).1
    rw [Nat.zero_add, nv_lt hj18, hn' j u hj]) he4 f7
  have hans : ∀ v : ai_V, o.2.2.2.1 = [v] → (v.1 = 0 ∨ v.1 = 2) → (∃ (z : Int32) (ws1 : va_W) (tys1 : List (ClassId × FieldType)) (y : List Nat), oc = .returned (some (.int z)) ∧ ws1.map Prod.fst = ws.map Prod.fst ++ y ∧ va_P D vwCl ws1 t.heap ∧ va_D (va_A ws sz) ws1 ∧ va_K D vwCl tys1 t ∧ ∃ n' : Nat → Int, (∃ o ∈ outs, pa_S (26 + k) (px_m n xs) (px_E six o) z.toInt n') ∧ (∀ t, 6 ≤ t → t < 18 → n' t = n t) ∧ ai_gok (nv n') nv_G ∧ ai_ws (nv n') sb tys1 W' ws1) := by
    intro v hv h02
    rw [hv] at f3
    obtain ⟨u, r, hrv, mu, hnil⟩ := f3.cons
    rw [hnil.nil] at hrv
    have hz : ∃ z : Int32, u = .int z := by
      obtain ⟨n0, t0, a0, b0⟩ := v
      rcases h02 with h | h
      · dsimp only at h
        subst h
        obtain ⟨z, e, -⟩ := mu
        exact ⟨z, e⟩
      · dsimp only at h
        subst h
        obtain ⟨z, w, e, -⟩ := mu
        exact ⟨z, e⟩
    obtain ⟨z, rfl⟩ := hz
    refine ⟨z, ws1, tys1, y, ?_, f2, f4, f5, f6, _, ⟨o, ho, σ, hs, d2, ?_, fun t v' hv' => ?_⟩, hkeep, hgk, hW⟩
    · rw [f1]
      cases rv with
      | none => cases hrv
      | some w =>
        cases hrv
        rfl
    · show pa_v σ (o.2.2.2.1.headD (5, 0, 0, 0)) z.toInt
      rw [hv]
      exact px_vm h02 mu
    · obtain ⟨u', hu', mu'⟩ := hus.get (show (px_cv six o)[t]? = some v' from hv')
      show pa_v σ v' ((us.map ai_vz).getD t 0)
      rw [hn' t u' hu']
      exact px_vm (hk2 v' (List.mem_of_getElem? hv')) mu'
  split at he1
  · rename_i a b c hv
    exact ⟨hans _ hv (Or.inr rfl), hFr⟩
  · rename_i a b c hv
    exact ⟨hans _ hv (Or.inl rfl), hFr⟩
  · cases he1
/-! the class's changers -/
theorem pn_fjo {σ : ai_Rh} {sb : ai_SB} {tys : List (ClassId × FieldType)} {ws : va_W} {W : ai_W} (h : ai_ws σ sb tys W ws) (k j : Nat) (h02 : (pn_fj W k j).1 = 0 ∨ (pn_fj W k j).1 = 2) : ∃ u, ai_mt σ sb (ws.map Prod.fst) (pn_fj W k j) u := by
  unfold pn_fj at h02 ⊢
  split
  · rename_i ci fs hk
    rw [hk] at h02
    change (fs.getD j ((5, 0, 0, 0) : ai_V)).1 = 0 ∨ (fs.getD j ((5, 0, 0, 0) : ai_V)).1 = 2 at h02
    obtain ⟨q, -, vs, -, hF⟩ := h.2 k _ hk
    cases h3 : fs[j]? with
    | none =>
      rw [List.getD_eq_getElem?_getD, h3] at h02
      rcases h02 with h | h <;> cases h
    | some w =>
      obtain ⟨u, -, mu⟩ := hF.get h3
      rw [List.getD_eq_getElem?_getD, h3]
      exact ⟨u, mu⟩
  · rename_i hno
    exfalso
    split at h02
    · rename_i ci fs hk
      exact hno _ _ hk
    · rcases h02 with h | h <;> cases h
theorem pn_ojo {σ : ai_Rh} {sb : ai_SB} {tys : List (ClassId × FieldType)} {ws : va_W} {W : ai_W} (h : ai_ws σ sb tys W ws) (c k : Nat) (h02 : (pn_oj W c k).1 = 0 ∨ (pn_oj W c k).1 = 2) : ∃ u, ai_mt σ sb (ws.map Prod.fst) (pn_oj W c k) u := by
  unfold pn_oj at h02 ⊢
  split
  · rename_i n d ov hk
    rw [hk] at h02
    change (bif Nat.blt k n then ai_look d ov k else ((5, 0, 0, 0) : ai_V)).1 = 0 ∨ (bif Nat.blt k n then ai_look d ov k else ((5, 0, 0, 0) : ai_V)).1 = 2 at h02
    obtain ⟨q, -, cA, f, t0, -, -, g, -⟩ := h.2 c _ hk
    cases hb : Nat.blt k n with
    | true =>
      (try rw [hb] at h02)
      (try rw [hb])
      rw [cond_true] at h02 ⊢
      exact ⟨_, (g k (Nat.le_of_ble_eq_true hb)).to (by rcases h02 with h | h <;> rw [h] <;> decide)⟩
    | false =>
      (try rw [hb] at h02)
      rw [cond_false] at h02
      rcases h02 with h | h <;> cases h
  · rename_i hno
    exfalso
    split at h02
    · rename_i n d ov hk
      exact hno _ _ _ hk
    · rcases h02 with h | h <;> cases h
theorem pn_six_ok (σ : ai_Rh) (sb : ai_SB) (tys : List (ClassId × FieldType)) (ws : va_W) (W : ai_W) (h : ai_ws σ sb tys W ws) : ∀ v ∈ pn_six W, (v.1 = 0 ∨ v.1 = 2) → ∃ u, ai_mt σ sb (ws.map Prod.fst) v u := by
  intro v hv h02
  unfold pn_six at hv
  rcases List.mem_append.mp hv with hv | hv
  · obtain ⟨k, -, rfl⟩ := List.mem_map.mp hv
    exact pn_fjo h _ _ h02
  · rcases List.mem_cons.mp hv with rfl | hv
    · exact pn_fjo h _ _ h02
    · obtain ⟨k, -, rfl⟩ := List.mem_map.mp hv
      exact pn_ojo h _ _ h02
theorem pn_sl (W : ai_W) : (pn_six W).length = 14 := by
  first | rfl | simp [pn_six]
theorem pn_hf : ∀ K as i, pn_fnd K as = some i → K = zz_ctk i := by
  intro K as i h
  unfold pn_fnd at h
  cases e : (K == 224) with
  | true => rw [e, cond_true] at h; cases h
  | false =>
    rw [e, cond_false] at h
    exact zz_hf K as i h
noncomputable def pn_l (K : Nat) : List ai_O := iw_l (pn_all K)
def pf_b (md : ai_MD) : Bool := pk_rm md && (md.2.2.2.2.2.2.1.cells == 0 && md.2.2.2.2.2.2.1.slots == 0)
theorem pf_bo {M k : Nat} {rm : Room} (h : pf_b (ai_sr' (ai_T M) rm) = true) (hk : pk_np M = k) : pf_ok (ai_sr' (ai_T M) rm) k ∧ (ai_sr' (ai_T M) rm).2.2.2.2.2.2.1.cells = 0 ∧ (ai_sr' (ai_T M) rm).2.2.2.2.2.2.1.slots = 0 := by
  unfold pf_b pk_rm at h
  simp only [Bool.and_eq_true, beq_iff_eq, decide_eq_true_eq] at h
  obtain ⟨⟨r1, r2, r3, r4, -⟩, c1, c2⟩ := h
  exact ⟨⟨ai_hM M (by intro h3; rw [show (ai_T M).2.2.2.2.2.2.2 = 0 from r4] at h3; cases h3), r4, ⟨r1, r2, r3⟩, hk⟩, c1, c2⟩
def pn_b (K : Nat) : Bool := pf_b (ai_sr' (ai_T K) (zz_fr zz_bo K)) && Nat.ble (((pn_as (pk_np K)).map ai_cat).sum) (ai_T K).2.2.2.1
theorem pn_ba : px_c.all pn_b = true := by decide +kernel
theorem pn_met {K : Nat} (hK : K ∈ px_c) {n : Nat → Int} (hn : ai_gok (nv n) nv_G) (sb : ai_SB) (l : Launch) (D : va_G) (ws : va_W) (tys : List (ClassId × FieldType)) (xs : List Int32) (b sz : Nat) (hk : xs.length = pk_np K) (hb : (ws.map Prod.fst)[0]? = some b) (hws : ai_ws (nv n) sb tys zz_WN ws) : la_Mt (ai_sr' (ai_T K) (zz_fr zz_bo K)) l D ws tys (.ref b :: xs.map .int) sz (fun z ws1 tys1 => ∃ n' : Nat → Int, (∃ o ∈ pn_l K, pa_S (26 + pk_np K) (px_m n xs) (px_E pn_six o) z.toInt n') ∧ (∀ t, 6 ≤ t → t < 18 → n' t = n t) ∧ ai_gok (nv n') nv_G ∧ ai_ws (nv n') sb tys1 zz_WN ws1) := by
  have hb1 := List.all_eq_true.mp pn_ba K hK
  unfold pn_b at hb1
  rw [Bool.and_eq_true] at hb1
  obtain ⟨f1, -, -⟩ := pf_bo hb1.1 rfl
  have hkd : ¬ (ai_T K).2.2.2.2.2.2.2 = 3 := by
    rw [show (ai_T K).2.2.2.2.2.2.2 = 0 from f1.2.1]
    decide
  have key : ∃ outs, pn_all K = some outs ∧ (∀ o ∈ outs, pn_ec zz_WN (px_cv pn_six o) o = true) ∧ ai_cs (ai_sr' (ai_T K) (zz_fr zz_bo K)) 0 sb (pn_G (pk_np K)) (pn_as (pk_np K)) zz_WN outs := by
    unfold pn_all
    cases hw : pw_c.contains K with
    | true =>
      rw [cond_true]
      obtain ⟨outs, h1, h2⟩ := iw_all_ok (List.all_eq_true.mp pw_k K (List.contains_iff_mem.mp hw))
      refine ⟨outs, h1, h2, ?_⟩
      unfold pw_run at h1
      rw [af_ex_eq] at h1
      exact ai_run_cs (T := ai_Tr ai_T (zz_fr zz_bo)) (sb := sb) ai_clok_ok (fun M q => ⟨ai_codeok_sr (ai_hB M q).1, (ai_hB M q).2⟩) (fun K hk => ai_hM K hk) (fun _ _ _ _ _ _ h => by cases h) hkd (Nat.le_of_ble_eq_true hb1.2) h1
    | false =>
      rw [cond_false]
      have hx : K ∈ pc_x := by
        rcases List.mem_append.mp (show K ∈ pc_x ++ pw_c from hK) with h | h
        · exact h
        · rw [List.contains_iff_mem.mpr h] at hw
          cases hw
      obtain ⟨outs, h1, h2⟩ := iw_all_ok (List.all_eq_true.mp pn_k K hx)
      refine ⟨outs, h1, h2, ?_⟩
      unfold pn_run at h1
      rw [af_ex_eq] at h1
      exact ai_run_cs (T := ai_Tr ai_T (zz_fr zz_bo)) (sb := sb) ai_clok_ok (fun M q => ⟨ai_codeok_sr (ai_hB M q).1, (ai_hB M q).2⟩) (fun K hk => ai_hM K hk) (fun K G as aw rm outs hh => ct_hr pn_hf (zl_226 (zz_op sb)) K G as aw rm outs hh) hkd (Nat.le_of_ble_eq_true hb1.2) h1
  obtain ⟨outs, h1, h2, hc⟩ := key
  have e1 : pn_l K = outs := by
    unfold pn_l
    rw [h1]
    rfl
  rw [e1]
  exact px_of (six := pn_six) pn_sl pn_six_ok hc h2 hn l D ws tys xs b sz hk hb hws
