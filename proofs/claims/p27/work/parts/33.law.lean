/-! ===== contracts as the law uses them: any numbers, worlds in bounds ===== -/
def la_e : ai_Rh := fun _ => none
theorem la_ele {ρ : ai_Rh} : ai_le la_e ρ := fun t z h => by cases h
def la_Q (sb : ai_SB) (D : va_G) (ws : va_W) (W' : ai_W) (A : Nat → Prop) : Array Value → State → Outcome → State → Prop := fun _ st oc t => (∃ (z : Int32) (ws1 : va_W) (tys1 : List (ClassId × FieldType)) (y : List Nat), oc = .returned (some (.int z)) ∧ ws1.map Prod.fst = ws.map Prod.fst ++ y ∧ va_P D vwCl ws1 t.heap ∧ va_D A ws1 ∧ va_K D vwCl tys1 t ∧ ai_ws la_e sb tys1 W' ws1) ∧ va_F A st t
/-- an end that the law may go on from -/
def la_end (W' : ai_W) (o : ai_O) : Bool := (match o.2.2.2.1 with
  | [v] => ai_isI v
  | _ => false) && ai_all2 (ai_sbc o.2.1 0 []) o.2.2.2.2.1 W'
theorem la_under {σ τ : ai_Rh} {sb : ai_SB} {G : ai_G} {tys : List (ClassId × FieldType)} {ws : va_W} {aw W' : ai_W} (hG : ai_gok σ G) (h : ai_all2 (ai_sbc G 0 []) aw W' = true) (hm : ai_ws σ sb tys aw ws) : ai_ws τ sb tys W' ws := ai_sbw_ok (nG := 0) (cvs := []) (us := []) hG (fun t z ht => absurd ht (Nat.not_lt_zero t)) trivial (fun j u hj => by simp at hj) h hm
abbrev la_Met (md : ai_MD) (l : Launch) (sb : ai_SB) (D : va_G) (ws : va_W) (tys : List (ClassId × FieldType)) (vs : List Value) (sz : Nat) (W' : ai_W) : Prop := Met l md.2.1 (Jvm.Cond.code md.2.1 md.2.2.1 md.2.2.2.1 md.2.2.2.2.1 :: ai_tb) md.2.2.2.2.2.2.1 (ai_Pc D ws tys vs sz) (la_Q sb D ws W' (va_A ws sz)) md.2.2.2.2.2.2.1.cells md.2.2.2.2.2.2.1.slots (va_A ws sz)
theorem la_of {md : ai_MD} {sb : ai_SB} {G : ai_G} {as : List ai_V} {aw W' : ai_W} {outs : List ai_O} (h : ai_cs md 0 sb G as aw outs) (hall : outs.all (la_end W') = true) {ρ : ai_Rh} (hG : ai_gok ρ G) (l : Launch) {D : va_G} {ws : va_W} {tys : List (ClassId × FieldType)} {vs : List Value} (sz : Nat) (has : ai_F2 (ai_mt ρ sb (ws.map Prod.fst)) as vs) (hws : ai_ws ρ sb tys aw ws) : la_Met md l sb D ws tys vs sz W' := by
  have M := h ρ l D ws tys vs sz (fun _ _ h => absurd h (by decide)) hG has hws
  refine MetFree.mono M (fun _ _ h => h) (fun _ _ _ _ _ h => h) (fun a st oc t hP hQ => ⟨?_, hQ.2⟩)
  obtain ⟨⟨o, ho, σ, d1, d2, rv, ws1, tys1, y, f1, f2, f3, f4, f5, f6, f7⟩, hFr⟩ := hQ.1
  have he := List.all_eq_true.mp hall o ho
  unfold la_end at he
  rw [Bool.and_eq_true] at he
  obtain ⟨he1, he2⟩ := he
  split at he1
  · rename_i v hv
    rw [hv] at f3
    obtain ⟨u, r, hrv, mu, hn⟩ := f3.cons
    obtain ⟨z, rfl, -⟩ := ai_int d2 mu he1
    rw [hn.nil] at hrv
    refine ⟨⟨z, ws1, tys1, y, ?_, f2, f4, f5, f6, la_under d2 he2 f7⟩, hFr⟩
    rw [f1]
    cases rv with
    | none => cases hrv
    | some w =>
      cases hrv
      rfl
  · cases he1
def la_as (n : Nat) : List ai_V := (4, 0, 0, 0) :: List.replicate n ai_full
/-- a contract serves the world in bounds -/
def la_chk (ct : ai_Ct) (n : Nat) (W W' : ai_W) : Bool := match ai_use ct [] (la_as n) W with
  | some q => q.2.all (la_end W') && (ct.2.2.2.2.2.2.cells == 0 && ct.2.2.2.2.2.2.slots == 0)
  | none => false
theorem la_nil : ai_gok la_e [] := fun t => by
  show (match ([] : ai_G)[t]? with
    | some q => ∃ z, la_e t = some z ∧ q.1 ≤ z ∧ z ≤ q.2.1 ∧ ai_kp la_e q.2.2 z
    | none => la_e t = none)
  rw [List.getElem?_nil]
  rfl
theorem la_ints {sb : ai_SB} {ad : List Nat} {ρ : ai_Rh} : ∀ {n : Nat} {xs : List Int32}, xs.length = n → ai_F2 (ai_mt ρ sb ad) (List.replicate n ai_full) (xs.map .int)
  | 0, [], _ => trivial
  | n + 1, x :: xs, h => ⟨⟨x, rfl, ai_i32 x⟩, la_ints (by simpa using h)⟩
  | n + 1, [], h => by cases h
  | 0, _ :: _, h => by cases h
/-- what the law has of an instance method of so many ints -/
def la_C (md : ai_MD) (n : Nat) (W W' : ai_W) : Prop := ∀ (sb : ai_SB) (l : Launch) (D : va_G) (ws : va_W) (tys : List (ClassId × FieldType)) (xs : List Int32) (b sz : Nat), xs.length = n → (ws.map Prod.fst)[0]? = some b → ai_ws la_e sb tys W ws → la_Met md l sb D ws tys (.ref b :: xs.map .int) sz W'
theorem la_ct {ctf : Nat → ai_Ct} {ctk : Nat → Nat} {i n : Nat} {W W' : ai_W} (h : ∀ sb, ct_ok ctf ctk sb i) (hc : la_chk (ctf i) n W W' = true) : la_C (ai_sr' (ai_T (ctk i)) (ctf i).2.2.2.2.2.2) n W W' := by
  intro sb l D ws tys xs b sz hn hb hws
  obtain ⟨outs0, h1, h2⟩ := h sb
  unfold la_chk at hc
  split at hc
  · rename_i q hq
    rw [Bool.and_eq_true] at hc
    obtain ⟨e1, e2⟩ := ai_use_ok (by decide) h1 h2 hq
    exact la_of e2 hc.1 la_nil l sz ⟨⟨b, hb, rfl⟩, la_ints hn⟩ hws
  · cases hc
theorem la_chk0 {ct : ai_Ct} {n : Nat} {W W' : ai_W} (hc : la_chk ct n W W' = true) : ct.2.2.2.2.2.2.cells = 0 ∧ ct.2.2.2.2.2.2.slots = 0 := by
  unfold la_chk at hc
  split at hc
  · simp only [Bool.and_eq_true, beq_iff_eq] at hc
    exact hc.2
  · cases hc
/-! ===== worlds side by side ===== -/
theorem la_Pm {D : va_G} {cl : List vw_C} {ws : va_W} {H : Heap} : va_P D cl ws H ↔ ∀ q ∈ ws, va_at D cl q H := ⟨fun h q hq => by
  obtain ⟨k, hk⟩ := List.mem_iff_getElem?.mp hq
  exact h k q hk, fun h k q hk => h q (List.mem_of_getElem? hk)⟩
theorem la_Dm {A : Nat → Prop} {ws : va_W} : va_D A ws ↔ (ws.map Prod.fst).Nodup ∧ ∀ q ∈ ws, A q.1 := by
  constructor
  · intro h
    refine ⟨?_, fun q hq => ?_⟩
    · rw [List.nodup_iff_pairwise_ne, List.pairwise_iff_getElem]
      intro i j hi hj hij e
      rw [List.getElem_map, List.getElem_map] at e
      have := h.1 i j _ _ (List.getElem?_eq_getElem (by simpa using hi)) (List.getElem?_eq_getElem (by simpa using hj)) e
      omega
    · obtain ⟨k, hk⟩ := List.mem_iff_getElem?.mp hq
      exact h.2 k q hk
  · intro h
    refine ⟨fun i j p q hi hj e => ?_, fun k q hk => h.2 q (List.mem_of_getElem? hk)⟩
    have hi' : (ws.map Prod.fst)[i]? = some p.1 := by rw [List.getElem?_map, hi]; rfl
    have hj' : (ws.map Prod.fst)[j]? = some q.1 := by rw [List.getElem?_map, hj]; rfl
    obtain ⟨li, ei⟩ := List.getElem?_eq_some_iff.mp hi'
    obtain ⟨lj, ej⟩ := List.getElem?_eq_some_iff.mp hj'
    have hp := List.pairwise_iff_getElem.mp (List.nodup_iff_pairwise_ne.mp h.1)
    rcases Nat.lt_trichotomy i j with g | g | g
    · exact absurd (ei.trans (e.trans ej.symm)) (hp i j li lj g)
    · exact g
    · exact absurd (ej.trans (e.symm.trans ei.symm)) (hp j i lj li g)
/-- behind a call on a part of the world, the rest is as it was -/
theorem la_join {D : va_G} {A : Nat → Prop} {X Y X1 : va_W} {H0 H H1 : Heap} {y : List Nat} (hP : va_P D vwCl (X ++ Y) H) (hD : va_D A (X ++ Y)) (hA : ∀ q, H0.size ≤ q → A q) (hS : H0.size ≤ H.size) (hP1 : va_P D vwCl X1 H1) (hD1 : va_D (va_A X H.size) X1) (hk : ∀ q : Nat, q < H.size → ¬ va_A X H.size q → H1[q]? = H[q]?) : va_P D vwCl (X1 ++ Y) H1 ∧ va_D A (X1 ++ Y) := by
  rw [la_Pm] at hP hP1 ⊢
  rw [la_Dm] at hD hD1 ⊢
  have hY : ∀ q ∈ Y, ¬ va_A X H.size q.1 ∧ q.1 < H.size := by
    intro q hq
    have hlt := (hP q (List.mem_append_right _ hq)).lt
    refine ⟨fun h => ?_, hlt⟩
    rcases h with ⟨k, e, h⟩ | h
    · have hn := hD.1
      rw [List.map_append, List.nodup_append] at hn
      exact hn.2.2 q.1 (List.mem_map.mpr ⟨_, List.mem_of_getElem? h, rfl⟩) q.1 (List.mem_map.mpr ⟨q, hq, rfl⟩) rfl
    · omega
  refine ⟨fun q hq => ?_, ?_, fun q hq => ?_⟩
  · rcases List.mem_append.mp hq with h | h
    · exact hP1 q h
    · exact (hP q (List.mem_append_right _ h)).kept (hk q.1 (hY q h).2 (hY q h).1)
  · rw [List.map_append, List.nodup_append]
    have hn := hD.1
    rw [List.map_append, List.nodup_append] at hn
    refine ⟨hD1.1, hn.2.1, fun a ha b hb e => ?_⟩
    subst e
    obtain ⟨q, hq, rfl⟩ := List.mem_map.mp ha
    obtain ⟨r, hr, er⟩ := List.mem_map.mp hb
    have := hD1.2 q hq
    rw [← er] at this
    exact (hY r hr).1 this
  · rcases List.mem_append.mp hq with h | h
    · rcases hD1.2 q h with ⟨k, e, h1⟩ | h1
      · have := hD.2 _ (List.mem_append_left Y (List.mem_of_getElem? h1))
        exact this
      · exact hA q.1 (by omega)
    · exact hD.2 q (List.mem_append_right _ h)
theorem la_Psw {D : va_G} {cl : List vw_C} {X Y : va_W} {H : Heap} (h : va_P D cl (X ++ Y) H) : va_P D cl (Y ++ X) H := by
  rw [la_Pm] at h ⊢
  intro q hq
  exact h q (List.mem_append.mpr ((List.mem_append.mp hq).symm))
theorem la_Dsw {A : Nat → Prop} {X Y : va_W} (h : va_D A (X ++ Y)) : va_D A (Y ++ X) := by
  rw [la_Dm] at h ⊢
  refine ⟨?_, fun q hq => h.2 q (List.mem_append.mpr ((List.mem_append.mp hq).symm))⟩
  have := h.1
  rw [List.map_append] at this ⊢
  exact (List.perm_append_comm.nodup_iff).mp this
theorem la_Pl {D : va_G} {cl : List vw_C} {X Y : va_W} {H : Heap} (h : va_P D cl (X ++ Y) H) : va_P D cl X H := by
  rw [la_Pm] at h ⊢
  exact fun q hq => h q (List.mem_append_left _ hq)
theorem la_Dl {A : Nat → Prop} {X Y : va_W} (h : va_D A (X ++ Y)) : va_D A X := by
  rw [la_Dm] at h ⊢
  refine ⟨?_, fun q hq => h.2 q (List.mem_append_left _ hq)⟩
  have := h.1
  rw [List.map_append, List.nodup_append] at this
  exact this.1
theorem la_Kapp {D : va_G} {t1 t2 : List (ClassId × FieldType)} {U : State} (h1 : va_K D vwCl t1 U) (h2 : va_K D vwCl t2 U) : va_K D vwCl (t1 ++ t2) U := ⟨h1.1, fun k q hk => by
  by_cases hl : k < t1.length
  · rw [List.getElem?_append_left hl] at hk
    exact h1.2 k q hk
  · rw [List.getElem?_append_right (by omega)] at hk
    exact h2.2 _ q hk⟩
/-- the same with other types told -/
theorem la_mct {ρ : ai_Rh} {sb : ai_SB} {ad : List Nat} {tys tys' : List (ClassId × FieldType)} {c : ai_C} {e : va_E} (ht : ∀ (k : Nat) (q : ClassId × FieldType), tys[k]? = some q → ∃ k' : Nat, tys'[k']? = some q) (h : ai_mc ρ sb ad tys c e) : ai_mc ρ sb ad tys' c e := by
  rcases c with ⟨ci, fs⟩ | ⟨t, n, d, ov⟩
  · exact h
  · match t, h with
    | 0, h => obtain ⟨cA, f, t0, h1, h2, h3⟩ := h; obtain ⟨k', hk'⟩ := ht _ _ h2; exact ⟨cA, f, k', h1, hk', h3⟩
    | 1, h => obtain ⟨cA, f, t0, h1, h2, h3⟩ := h; obtain ⟨k', hk'⟩ := ht _ _ h2; exact ⟨cA, f, k', h1, hk', h3⟩
    | 2, h => obtain ⟨cA, f, t0, h1, h2, h3⟩ := h; obtain ⟨k', hk'⟩ := ht _ _ h2; exact ⟨cA, f, k', h1, hk', h3⟩
    | 3, h => obtain ⟨cA, f, t0, h1, h2, h3⟩ := h; obtain ⟨k', hk'⟩ := ht _ _ h2; exact ⟨cA, f, k', h1, hk', h3⟩
    | 4, h => obtain ⟨cA, f, t0, h1, h2⟩ := h; obtain ⟨k', hk'⟩ := ht _ _ h2; exact ⟨cA, f, k', h1, hk'⟩
    | 5, h => exact h
    | n + 6, h => exact h.elim
theorem la_wst {ρ : ai_Rh} {sb : ai_SB} {tys tys' : List (ClassId × FieldType)} {aw : ai_W} {ws : va_W} (ht : ∀ (k : Nat) (q : ClassId × FieldType), tys[k]? = some q → ∃ k' : Nat, tys'[k']? = some q) (h : ai_ws ρ sb tys aw ws) : ai_ws ρ sb tys' aw ws := ⟨h.1, fun k c hk => by
  obtain ⟨q, h1, h2⟩ := h.2 k c hk
  exact ⟨q, h1, la_mct ht h2⟩⟩
theorem la_tl {t1 t2 : List (ClassId × FieldType)} : ∀ (k : Nat) (q : ClassId × FieldType), t1[k]? = some q → ∃ k' : Nat, (t1 ++ t2)[k']? = some q := fun k q h => ⟨k, by rw [List.getElem?_append_left (List.getElem?_eq_some_iff.mp h).1]; exact h⟩
theorem la_tr {t1 t2 : List (ClassId × FieldType)} : ∀ (k : Nat) (q : ClassId × FieldType), t2[k]? = some q → ∃ k' : Nat, (t1 ++ t2)[k']? = some q := fun k q h => ⟨t1.length + k, by rw [List.getElem?_append_right (by omega), show t1.length + k - t1.length = k by omega]; exact h⟩
