/-! ===== one turn of the law's loop, over all cases: the class's call, then the reference's ===== -/
abbrev ln_V : Type := Nat × Nat
def ln_n (sh : Nat) : Nat := match sh with
  | 0 => 0
  | 1 => 1
  | 2 => 1
  | _ => 2
theorem ln_nx : ∀ sh, sh < 5 → ∀ a, a < 4 → ln_n (ib_nx sh a) = ln_n sh + (bif ib_nw sh a then 1 else 0) := by decide
theorem ln_n2 (sh : Nat) : ln_n sh ≤ 2 := by
  unfold ln_n
  split <;> decide
/-- 0 a number, 1 the class's object, 2 the reference's, 3 the script, 4 the place of the turn and so many more, 5 a constant, 6 the script's number so many places on, 8 the class's last answer -/
def ln_m (bX bC bR i : Nat) (xs : Nat → Int32) (z : Int32) (v : ln_V) (u : Value) : Prop := match v with
  | (0, _) => ∃ z : Int32, u = .int z
  | (1, _) => u = .ref bC
  | (2, _) => u = .ref bR
  | (3, _) => u = .ref bX
  | (4, k) => u = .int (nI (i + k))
  | (5, k) => u = .int (nI k)
  | (6, k) => u = .int (xs (i + k))
  | (8, _) => u = .int z
  | _ => False
theorem ln_cat1 {bX bC bR i : Nat} {xs : Nat → Int32} {z : Int32} {v : ln_V} {u : Value} (h : ln_m bX bC bR i xs z v u) : u.category = 1 := by
  obtain ⟨n, k⟩ := v
  match n, h with
  | 0, h => obtain ⟨z, rfl⟩ := h; rfl
  | 1, h => cases h; rfl
  | 2, h => cases h; rfl
  | 3, h => cases h; rfl
  | 4, h => cases h; rfl
  | 5, h => cases h; rfl
  | 6, h => cases h; rfl
  | 7, h => exact h.elim
  | 8, h => cases h; rfl
  | n + 9, h => exact h.elim
theorem ln_cats {bX bC bR i : Nat} {xs : Nat → Int32} {z : Int32} : ∀ {st : List ln_V} {stk : List Value}, ai_F2 (ln_m bX bC bR i xs z) st stk → (stk.map fun v => v.category).sum = st.length
  | [], [], _ => rfl
  | _ :: _, _ :: _, h => by rw [List.map_cons, List.sum_cons, ln_cat1 h.1, ln_cats h.2, List.length_cons]; omega
  | [], _ :: _, h => h.elim
  | _ :: _, [], h => h.elim
def ln_six (l : List ln_V) : Bool := l.all (fun v => v.1 == 6)
theorem ln_ints {bX bC bR i : Nat} {xs : Nat → Int32} {z : Int32} : ∀ {st : List ln_V} {stk : List Value}, ln_six st = true → ai_F2 (ln_m bX bC bR i xs z) st stk → stk = (st.map (fun v => xs (i + v.2))).map Value.int
  | [], [], _, _ => rfl
  | (n, k) :: r, u :: us, h, hF => by
    unfold ln_six at h
    rw [List.all_cons, Bool.and_eq_true, beq_iff_eq] at h
    have e : n = 6 := h.1
    subst e
    have h1 : u = .int (xs (i + k)) := hF.1
    rw [h1, ln_ints h.2 hF.2]
    rfl
  | [], _ :: _, _, h => h.elim
  | _ :: _, [], _, h => h.elim
def ln_no8 (l : List ln_V) : Bool := l.all (fun v => !(v.1 == 8))
theorem ln_no {bX bC bR i : Nat} {xs : Nat → Int32} {z z' : Int32} : ∀ {st : List ln_V} {stk : List Value}, ln_no8 st = true → ai_F2 (ln_m bX bC bR i xs z) st stk → ai_F2 (ln_m bX bC bR i xs z') st stk
  | [], [], _, _ => trivial
  | (n, k) :: r, u :: us, h, hF => by
    unfold ln_no8 at h
    rw [List.all_cons, Bool.and_eq_true] at h
    refine ⟨?_, ln_no h.2 hF.2⟩
    have h1 := h.1
    have h2 : ln_m bX bC bR i xs z (n, k) u := hF.1
    match n, h1, h2 with
    | 0, _, h => exact h
    | 1, _, h => exact h
    | 2, _, h => exact h
    | 3, _, h => exact h
    | 4, _, h => exact h
    | 5, _, h => exact h
    | 6, _, h => exact h
    | 7, _, h => exact h
    | 8, h, _ => cases h
    | n + 9, _, h => exact h
  | [], _ :: _, _, h => h.elim
  | _ :: _, [], _, h => h.elim
def ln_c (K : Nat) : Option (Nat × Nat) := pc_l.find? (fun q => q.1 == K)
def ln_r (K : Nat) : Option (Nat × Nat) := pr_l.find? (fun q => q.1 == K)
/-- the arguments, as they lie on the stack; in their order -/
def ln_k (k : Nat) : List ln_V := ((List.range k).map fun j => (6, j + 1)).reverse
def ln_a (k : Nat) (x : Nat → Int32) : List Int32 := (List.range k).map fun j => x (j + 1)
theorem ln_ka (k i : Nat) (xs : Nat → Int32) : ((ln_k k).map (fun v => xs (i + v.2))).reverse = ln_a k (fun j => xs (i + j)) := by
  unfold ln_k ln_a
  rw [← List.map_reverse, List.reverse_reverse, List.map_map]
  rfl
theorem ln_al (k : Nat) (x : Nat → Int32) : (ln_a k x).length = k := by
  unfold ln_a
  rw [List.length_map, List.length_range]
/-- what the reference's call has still to do -/
def lp_R (K : Nat) (x : Nat → Int32) (sh0 : Nat) (n0 : Nat → Int) (z : Int32) (sh : Nat) (n : Nat → Int) : Prop :=
  (K = 325 ∧ z.toInt = in_Zi (ib_a (x 1)) ∧ sh = ib_nx sh0 (ib_a (x 1)) ∧ n = fun t => n0 (nv_i (ib_a (x 1)) t)) ∨ (K = 306 ∧ z.toInt = in_Zk sh0 (ib_a (x 1)) ∧ sh = sh0 ∧ n = fun t => n0 (nv_k (ib_p sh0 (ib_a (x 1))) (ib_a (x 1)) t)) ∨ (K ∈ px_c ∧ sh = sh0 ∧ ∃ o ∈ pn_l K, pa_S (26 + pk_np K) (px_m n0 (ln_a (pk_np K) x)) (px_E pn_six o) z.toInt n)
def ln_J (D : va_G) (s : State) (bC bR : Nat) (x : Nat → Int32) (pd : Option Nat) (z : Int32) (sh : Nat) (n : Nat → Int) (H : Heap) (locs : List Loc) : Prop := match pd with
  | none => la_J D s bC bR sh n sh n H locs
  | some K => ∃ (sh0 : Nat) (n0 : Nat → Int), la_J D s bC bR sh n sh0 n0 H locs ∧ lp_R K x sh0 n0 z sh n
theorem la_Jc {D : va_G} {s : State} {bC bR sh shR : Nat} {n nR : Nat → Int} {H : Heap} {locs : List Loc} (h : ∀ t, t < 26 → n t = nR t) (hI : la_J D s bC bR sh n shR nR H locs) : la_J D s bC bR sh n shR n H locs := by
  obtain ⟨⟨hsh, hshR, hn, hnR⟩, wC, wR, tys, sbC, sbR, hP, hD, hK, hS, hC1, hR1, hr, hbC, hbR⟩ := hI
  refine ⟨⟨hsh, hshR, hn, hn⟩, wC, wR, tys, sbC, sbR, hP, hD, hK, hS, hC1, ?_, lr_Jn (fun t _ h18 => h t (by omega)) hr, hbC, hbR⟩
  rw [nv_cg h]
  exact hR1
theorem la_JS {D : va_G} {s : State} {bC bR sh shR : Nat} {n nR : Nat → Int} {H : Heap} {locs : List Loc} (hI : la_J D s bC bR sh n shR nR H locs) : va_S (lw_A s) s.heap H locs := by
  obtain ⟨-, wC, wR, tys, sbC, sbR, -, -, -, hS, -⟩ := hI
  exact hS
theorem ln_S {D : va_G} {s : State} {bC bR : Nat} {x : Nat → Int32} {pd : Option Nat} {z : Int32} {sh : Nat} {n : Nat → Int} {H : Heap} {locs : List Loc} (h : ln_J D s bC bR x pd z sh n H locs) : va_S (lw_A s) s.heap H locs := by
  cases pd with
  | none => exact la_JS h
  | some K =>
    obtain ⟨sh0, n0, h, -⟩ := h
    exact la_JS h
def ln_call (K nb t : Nat) (pd : Option Nat) (as : List ln_V) (q8 : Bool) (k : ln_V → Option Nat → Bool) : Bool :=
  bif nb == 9 then t == 1 && (pd.isNone && (bif K == 325 || (K == 306 || px_c.contains K) then as == ln_k (pk_np K) && (q8 && k (8, 0) (some K)) else (ln_c K).isSome && k (0, 0) none))
  else nb == 10 && (t == 2 && (match pd with
    | some K0 => as == ln_k (pk_np K) && ((bif K == 69 then K0 == 325 else bif K == 34 then K0 == 306 else px_l.contains (K0, K)) && k (8, 0) none)
    | none => !(px_r.contains K) && ((ln_r K).isSome && k (0, 0) none)))
def ln_i (f : List ai_E → Option Nat → List ln_V → Bool) (en : ai_E) (r : List ai_E) (pd : Option Nat) (st : List ln_V) : Bool := match en.2.1 with
  | .aload_n k => bif (k : Nat) == 0 then f r pd ((3, 0) :: st) else bif (k : Nat) == 1 then f r pd ((1, 0) :: st) else (k : Nat) == 2 && f r pd ((2, 0) :: st)
  | .iload_n k => (k : Nat) == 3 && f r pd ((4, 0) :: st)
  | .iconst z => decide (0 ≤ z) && (decide (z ≤ 100) && f r pd ((5, z.toNat) :: st))
  | .bipush z => decide (0 ≤ z) && (decide (z ≤ 100) && f r pd ((5, z.toNat) :: st))
  | .iadd => match st with
    | (5, c) :: (4, k) :: q => Nat.ble (k + c) 6 && f r pd ((4, k + c) :: q)
    | _ => false
  | .iaload => match st with
    | (4, k) :: (3, _) :: q => Nat.ble k 6 && f r pd ((6, k) :: q)
    | _ => false
  | .invokevirtual _ => match st.drop (pk_np en.2.2.2.1) with
    | (t, _) :: q => ln_six (st.take (pk_np en.2.2.2.1)) && (Nat.ble q.length 8 && (Nat.ble (pk_np en.2.2.2.1) st.length && ln_call en.2.2.2.1 en.2.2.2.2.1 t pd (st.take (pk_np en.2.2.2.1)) (ln_no8 q) (fun v pd' => f r pd' (v :: q))))
    | [] => false
  | .pop => match st with
    | _ :: q => f r pd q
    | [] => false
  | .if_icmp c off => match st with
    | [(8, _), (8, _)] => pd.isNone && (ai_op c == 0 && decide ((en.1 : Int) + off = 2039))
    | _ => false
  | .goto off => match st with
    | [] => pd.isNone && decide ((en.1 : Int) + off = 2039)
    | _ => false
  | _ => false
def ln_w : Nat → List ai_E → Option Nat → List ln_V → Bool
  | 0, _, _, _ => false
  | n + 1, code, pd, st => match code with
    | [] => false
    | en :: r => ln_i (ln_w n) en r pd st
theorem ln_px : ∀ q ∈ px_l, q.1 ∈ px_c ∧ q.2 ∈ px_r ∧ ¬ q.1 = 325 ∧ ¬ q.1 = 306 := by decide
def ln_pnp (q : Nat × Nat) : Bool := pk_np q.1 == pk_np q.2
theorem ln_pna : px_l.all ln_pnp = true := by decide +kernel
theorem ln_np1 : pk_np 325 = 1 ∧ pk_np 306 = 1 ∧ pk_np 69 = 1 ∧ pk_np 34 = 1 := by decide +kernel
theorem ln_f325 (b : Bool) : pf_ok (ai_sr' (ai_T 325) (ib_rm b 325)) 1 := ⟨ai_hM 325 (by decide +kernel), (show (ai_T 325).2.2.2.2.2.2.2 = 0 from by decide +kernel), ⟨by show 3 ≤ 2000; decide, by show 102 ≤ 30000; decide, (show (ai_T 325).2.2.2.1 ≤ 100 from by decide +kernel)⟩, (show (ai_T 325).2.2.2.2.2.1 = 1 from by decide +kernel)⟩
theorem ln_f306 : pf_ok (ai_sr' (ai_T 306) (ib_rm false 306)) 1 := ⟨ai_hM 306 (by decide +kernel), (show (ai_T 306).2.2.2.2.2.2.2 = 0 from by decide +kernel), ⟨by decide +kernel, by decide +kernel, (show (ai_T 306).2.2.2.1 ≤ 100 from by decide +kernel)⟩, (show (ai_T 306).2.2.2.2.2.1 = 1 from by decide +kernel)⟩
theorem ln_f69 : pf_ok (ai_T 69) 1 ∧ (ai_T 69).2.2.2.2.2.2.1.cells = 0 ∧ (ai_T 69).2.2.2.2.2.2.1.slots = 0 := ⟨⟨ai_hM 69 (by decide +kernel), by decide +kernel, ⟨by decide +kernel, by decide +kernel, by decide +kernel⟩, by decide +kernel⟩, by decide +kernel, by decide +kernel⟩
theorem ln_f34 : pf_ok (ai_T 34) 1 ∧ (ai_T 34).2.2.2.2.2.2.1.cells = 0 ∧ (ai_T 34).2.2.2.2.2.2.1.slots = 0 := ⟨⟨ai_hM 34 (by decide +kernel), by decide +kernel, ⟨by decide +kernel, by decide +kernel, by decide +kernel⟩, by decide +kernel⟩, by decide +kernel, by decide +kernel⟩
theorem ln_inv {K : Nat} (hK : K ∈ px_c) : pf_ok (ai_sr' (ai_T K) (zz_fr zz_bo K)) (pk_np K) ∧ (ai_sr' (ai_T K) (zz_fr zz_bo K)).2.2.2.2.2.2.1.cells = 0 ∧ (ai_sr' (ai_T K) (zz_fr zz_bo K)).2.2.2.2.2.2.1.slots = 0 := by
  have hb1 := List.all_eq_true.mp pn_ba K hK
  unfold pn_b at hb1
  rw [Bool.and_eq_true] at hb1
  exact pf_bo hb1.1 rfl
theorem ln_inr {K : Nat} (hK : K ∈ px_r) : pf_ok (ai_sr' (ai_T K) (ny_fr K)) (pk_np K) ∧ (ai_sr' (ai_T K) (ny_fr K)).2.2.2.2.2.2.1.cells = 0 ∧ (ai_sr' (ai_T K) (ny_fr K)).2.2.2.2.2.2.1.slots = 0 := by
  have hb1 := List.all_eq_true.mp qn_ba K hK
  unfold qn_b at hb1
  rw [Bool.and_eq_true] at hb1
  exact pf_bo hb1.1 rfl
section LNS
variable {p : Program} {l : Launch} {e : Env} {R : Room} {s : State} {m : MethodId} {args : Array Value} {below : List Frame} {meth : Method} {c : Code} {H : Heap} {locs : List Loc} {Q : State → Prop} {D : va_G} {ls : Array Slot} {bX bC bR i L cs0 ss0 idx pc na : Nat} {xs : Nat → Int32} {rest : List Value}
/-- a call of the class that changes counts: the reference's stands yet to come -/
theorem ln_cls (cx : la_cx p s m args c R (ai_T 0).1 (ai_T 0).2.2.1) {sh : Nat} {n : Nat → Int} (hI : la_J D s bC bR sh n sh n H locs) (hK : (na == 325 || (na == 306 || px_c.contains na)) = true) (hR : cs0 + 48 ≤ R.cells ∧ ss0 + 105728 ≤ R.slots) (hcl : RX9 = (ai_T na).2.1.cls) (hlk : Jvm.Cond.methodLink (ai_T 0).1 idx (ai_T na).2.1 ∈ ai_tb) (hls : ls.size = 4) (hcat : (rest.map fun v => v.category).sum ≤ 8) (hdg : decode (ai_T 0).2.2.1 pc = .ok (.invokevirtual idx, 3))
    (kk : ∀ (z : Int32) (sh' : Nat) (n' : Nat → Int) (H1 : Heap) (Lc : List Loc), ln_J D s bC bR (fun j => xs (i + j)) (some na) z sh' n' H1 (locs ++ Lc) → W p l e R s m args below meth c H1 (locs ++ Lc) (cs0 + 24 * ln_n sh') (ss0 + 52864 * ln_n sh') Q (F0 m (pc + 3) ls (.int z :: rest))) : W p l e R s m args below meth c H locs (cs0 + 24 * ln_n sh) (ss0 + 52864 * ln_n sh) Q (F0 m pc ls (((ln_a (pk_np na) (fun j => xs (i + j))).map Value.int).reverse ++ .ref bC :: rest)) := by
  obtain ⟨n1, n2, -, -⟩ := ln_np1
  have hsh := hI.1.1
  have hn := hI.1.2.2.1
  have hcap : cs0 + 24 * ln_n sh ≤ R.cells ∧ ss0 + 52864 * ln_n sh ≤ R.slots := by
    have := ln_n2 sh
    omega
  rw [Bool.or_eq_true, Bool.or_eq_true, beq_iff_eq, beq_iff_eq] at hK
  by_cases k1 : na = 325
  · subst k1
    rw [n1]
    have ha4 := ib_a4 (xs (i + 1))
    have hnn := ln_nx sh hsh _ ha4
    have hn2 := ln_n2 (ib_nx sh (ib_a (xs (i + 1))))
    have b1 : 24 * ln_n (ib_nx sh (ib_a (xs (i + 1)))) = 24 * ln_n sh + (bif ib_nw sh (ib_a (xs (i + 1))) then 24 else 0) := by
      rw [hnn]
      cases ib_nw sh (ib_a (xs (i + 1))) <;> simp only [cond_true, cond_false] <;> omega
    have b2 : 52864 * ln_n (ib_nx sh (ib_a (xs (i + 1)))) = 52864 * ln_n sh + (bif ib_nw sh (ib_a (xs (i + 1))) then 52864 else 0) := by
      rw [hnn]
      cases ib_nw sh (ib_a (xs (i + 1))) <;> simp only [cond_true, cond_false] <;> omega
    have hcs : cs0 + 24 * ln_n sh + (bif ib_nw sh (ib_a (xs (i + 1))) then 24 else 0) ≤ R.cells ∧ ss0 + 52864 * ln_n sh + (bif ib_nw sh (ib_a (xs (i + 1))) then 52864 else 0) ≤ R.slots := by omega
    refine la_imN (md := ai_sr' (ai_T 325) (ib_rm (ib_nw sh (ib_a (xs (i + 1)))) 325)) (sh' := ib_nx sh (ib_a (xs (i + 1)))) (n' := fun t => n (nv_i (ib_a (xs (i + 1))) t)) (Z := in_Zi (ib_a (xs (i + 1)))) (x := xs (i + 1)) cx hI (ln_f325 _) hcl hlk hls hcs hcat hdg (rx_n sh hsh _ ha4) (nv_mv (nv_ip _ ha4) hn) (fun sb ws tys hb hws => in_image hsh hn (xs (i + 1)) sb l D ws tys bC H.size hb hws) (fun z H1 Lc hz hI1 => ?_)
    have := kk z (ib_nx sh (ib_a (xs (i + 1)))) _ H1 Lc ⟨sh, n, hI1, Or.inl ⟨rfl, hz, rfl, rfl⟩⟩
    rw [b1, b2, ← Nat.add_assoc, ← Nat.add_assoc] at this
    exact this
  · by_cases k2 : na = 306
    · subst k2
      rw [n2]
      have ha4 := ib_a4 (xs (i + 1))
      have hc0 : (ib_rm false 306).cells = 0 := by decide +kernel
      have hs0 : (ib_rm false 306).slots = 0 := by decide +kernel
      refine la_imN (md := ai_sr' (ai_T 306) (ib_rm false 306)) (sh' := sh) (n' := fun t => n (nv_k (ib_p sh (ib_a (xs (i + 1)))) (ib_a (xs (i + 1))) t)) (Z := in_Zk sh (ib_a (xs (i + 1)))) (x := xs (i + 1)) cx hI ln_f306 hcl hlk hls (by show _ + (ib_rm false 306).cells ≤ R.cells ∧ _ + (ib_rm false 306).slots ≤ R.slots; rw [hc0, hs0]; exact hcap) hcat hdg hsh (nv_mv (nv_kp sh hsh _ ha4) hn) (fun sb ws tys hb hws => in_back hsh hn (xs (i + 1)) sb l D ws tys bC H.size hb hws) (fun z H1 Lc hz hI1 => ?_)
      have := kk z sh _ H1 Lc ⟨sh, n, hI1, Or.inr (Or.inl ⟨rfl, hz, rfl, rfl⟩)⟩
      show W p l e R s m args below meth c H1 (locs ++ Lc) (cs0 + 24 * ln_n sh + (ib_rm false 306).cells) (ss0 + 52864 * ln_n sh + (ib_rm false 306).slots) Q _
      rw [hc0, hs0]
      exact this
    · have k3 : na ∈ px_c := by
        rcases hK with h | h | h
        · exact absurd h k1
        · exact absurd h k2
        · exact List.contains_iff_mem.mp h
      obtain ⟨f1, f2⟩ := ln_inv k3
      refine la_clN (md := ai_sr' (ai_T na) (zz_fr zz_bo na)) (Ψ := fun z n' => ∃ o ∈ pn_l na, pa_S (26 + pk_np na) (px_m n (ln_a (pk_np na) (fun j => xs (i + j)))) (px_E pn_six o) z.toInt n') cx hI (by rw [ln_al]; exact f1) f2 hcl hlk hls hcap hcat hdg (fun sb ws tys hb hws => la_Mm (fun z w t h => ?_) (pn_met k3 hn sb l D ws tys _ bC H.size (ln_al _ _) hb hws)) (fun z n' H1 Lc hz hI1 => kk z sh n' H1 Lc ⟨sh, n, hI1, Or.inr (Or.inr ⟨k3, rfl, hz⟩)⟩)
      obtain ⟨n', h1, h2, h3, h4⟩ := h
      exact ⟨n', h1, h2, h3, h4⟩
/-- the reference's call that was to come -/
theorem ln_ref (cx : la_cx p s m args c R (ai_T 0).1 (ai_T 0).2.2.1) {sh K0 cs ss : Nat} {n : Nat → Int} {z : Int32} (hI : ln_J D s bC bR (fun j => xs (i + j)) (some K0) z sh n H locs) (hK : (bif na == 69 then K0 == 325 else bif na == 34 then K0 == 306 else px_l.contains (K0, na)) = true) (hcl : RX10 = (ai_T na).2.1.cls) (hlk : Jvm.Cond.methodLink (ai_T 0).1 idx (ai_T na).2.1 ∈ ai_tb) (hls : ls.size = 4) (hcs : cs ≤ R.cells ∧ ss ≤ R.slots) (hcat : (rest.map fun v => v.category).sum ≤ 8) (hdg : decode (ai_T 0).2.2.1 pc = .ok (.invokevirtual idx, 3))
    (kk : ∀ (H1 : Heap) (Lc : List Loc), la_J D s bC bR sh n sh n H1 (locs ++ Lc) → W p l e R s m args below meth c H1 (locs ++ Lc) cs ss Q (F0 m (pc + 3) ls (.int z :: rest))) : W p l e R s m args below meth c H locs cs ss Q (F0 m pc ls (((ln_a (pk_np na) (fun j => xs (i + j))).map Value.int).reverse ++ .ref bR :: rest)) := by
  obtain ⟨-, -, n1, n2⟩ := ln_np1
  obtain ⟨sh0, n0, hI, hR⟩ := hI
  have hsh := hI.1.2.1
  have hn0 := hI.1.2.2.2
  have ha4 := ib_a4 (xs (i + 1))
  cases e1 : (na == 69) with
  | true =>
    rw [e1, cond_true, beq_iff_eq] at hK
    rw [beq_iff_eq] at e1
    subst e1
    subst hK
    obtain ⟨-, hz, rfl, rfl⟩ : _ ∧ z.toInt = in_Zi (ib_a (xs (i + 1))) ∧ sh = ib_nx sh0 (ib_a (xs (i + 1))) ∧ n = fun t => n0 (nv_i (ib_a (xs (i + 1))) t) := by
      rcases hR with h | h | h
      · exact h
      · exact absurd h.1 (by decide)
      · exact absurd h.1 (by decide)
    rw [n1]
    obtain ⟨f1, f2⟩ := ln_f69
    refine la_rfN (md := ai_T 69) (xs := [xs (i + 1)]) (Ψ := fun z' sh' n' => z'.toInt = z.toInt ∧ sh' = ib_nx sh0 (ib_a (xs (i + 1))) ∧ n' = fun t => n0 (nv_i (ib_a (xs (i + 1))) t)) cx hI f1 f2 hcl hlk hls hcs hcat hdg (fun sb ws tys hb hws hr => la_Mm (fun z' w t h => ?_) (lrn_image hsh hn0 (xs (i + 1)) sb l D ws tys bR H.size hb hws hr)) (fun z' sh' n' H1 Lc hz' hI1 => ?_)
    · obtain ⟨h1, sb1, h2, h3⟩ := h
      exact ⟨_, _, sb1, ⟨by rw [h1, hz], rfl, rfl⟩, rx_n sh0 hsh _ ha4, nv_mv (nv_ip _ ha4) hn0, h2, lr_Jt la_tr h3⟩
    · obtain ⟨h1, rfl, rfl⟩ := hz'
      cases Int32.toInt_inj.mp h1
      exact kk H1 Lc hI1
  | false =>
    rw [e1, cond_false] at hK
    cases e2 : (na == 34) with
    | true =>
      rw [e2, cond_true, beq_iff_eq] at hK
      rw [beq_iff_eq] at e2
      subst e2
      subst hK
      obtain ⟨-, hz, rfl, rfl⟩ : _ ∧ z.toInt = in_Zk sh0 (ib_a (xs (i + 1))) ∧ sh = sh0 ∧ n = fun t => n0 (nv_k (ib_p sh0 (ib_a (xs (i + 1)))) (ib_a (xs (i + 1))) t) := by
        rcases hR with h | h | h
        · exact absurd h.1 (by decide)
        · exact h
        · exact absurd h.1 (by decide)
      rw [n2]
      obtain ⟨f1, f2⟩ := ln_f34
      refine la_rfN (md := ai_T 34) (xs := [xs (i + 1)]) (Ψ := fun z' sh' n' => z'.toInt = z.toInt ∧ sh' = sh ∧ n' = fun t => n0 (nv_k (ib_p sh (ib_a (xs (i + 1)))) (ib_a (xs (i + 1))) t)) cx hI f1 f2 hcl hlk hls hcs hcat hdg (fun sb ws tys hb hws hr => la_Mm (fun z' w t h => ?_) (lrn_back hsh hn0 (xs (i + 1)) sb l D ws tys bR H.size hb hws hr)) (fun z' sh' n' H1 Lc hz' hI1 => ?_)
      · obtain ⟨h1, sb1, h2, h3⟩ := h
        exact ⟨_, _, sb1, ⟨by rw [h1, hz], rfl, rfl⟩, hsh, nv_mv (nv_kp sh hsh _ ha4) hn0, h2, lr_Jt la_tr h3⟩
      · obtain ⟨h1, rfl, rfl⟩ := hz'
        cases Int32.toInt_inj.mp h1
        exact kk H1 Lc hI1
    | false =>
      rw [e2, cond_false] at hK
      have hm : (K0, na) ∈ px_l := List.contains_iff_mem.mp hK
      obtain ⟨p1, p2, p3, p4⟩ := ln_px _ hm
      have hnp : pk_np K0 = pk_np na := by
        have := List.all_eq_true.mp ln_pna _ hm
        unfold ln_pnp at this
        rw [beq_iff_eq] at this
        exact this
      obtain ⟨-, rfl, hz⟩ : _ ∧ sh = sh0 ∧ ∃ o ∈ pn_l K0, pa_S (26 + pk_np K0) (px_m n0 (ln_a (pk_np K0) (fun j => xs (i + j)))) (px_E pn_six o) z.toInt n := by
        rcases hR with h | h | h
        · exact absurd h.1 p3
        · exact absurd h.1 p4
        · exact h
      obtain ⟨f1, f2⟩ := ln_inr p2
      refine la_rfN (md := ai_sr' (ai_T na) (ny_fr na)) (Ψ := fun z' sh' n' => z'.toInt = z.toInt ∧ sh' = sh ∧ ∀ t, t < 26 → n t = n' t) cx hI (by rw [ln_al]; exact f1) f2 hcl hlk hls hcs hcat hdg (fun sb ws tys hb hws hr => la_Mm (fun z' w t h => ?_) (qn_met p2 hn0 sb l D ws tys _ bR H.size (ln_al _ _) hb hws)) (fun z' sh' n' H1 Lc hz' hI1 => ?_)
      · obtain ⟨n', h1, h2, h3, h4⟩ := h
        rw [hnp] at hz
        obtain ⟨k1, k2⟩ := px_same hm (m := px_m n0 (ln_a (pk_np na) (fun j => xs (i + j)))) (y := z.toInt) (n := n) (by show ∃ o ∈ pn_l K0, pa_S (26 + pk_np K0) (px_m n0 (ln_a (pk_np na) (fun j => xs (i + j)))) (px_E pn_six o) z.toInt n; rw [hnp]; exact hz) h1
        exact ⟨sh, n', sb, ⟨k1.symm, rfl, k2⟩, hsh, h3, h4, lr_Jt la_tl (lr_Jn h2 hr)⟩
      · obtain ⟨h1, rfl, h3⟩ := hz'
        cases Int32.toInt_inj.mp h1
        exact kk H1 Lc (la_Jc h3 hI1)
theorem ln_snd (cx : la_cx p s m args c R (ai_T 0).1 (ai_T 0).2.2.1) (hX : va_X bX L xs s s.heap) (hbX : bX < s.heap.size) (hi : i + 7 ≤ L) (hL : L ≤ 3584) (hls : lv_has ls 4 [(0, .ref bX), (1, .ref bC), (2, .ref bR), (3, .int (nI i))]) (hR : cs0 + 48 ≤ R.cells ∧ ss0 + 105728 ≤ R.slots) (hend : ∀ (sh : Nat) (nC : Nat → Int) (H : Heap) (locs : List Loc), la_J D s bC bR sh nC sh nC H locs → W p l e R s m args below meth c H locs (cs0 + 24 * ln_n sh) (ss0 + 52864 * ln_n sh) Q (F0 m 2039 ls [])) : ∀ (n : Nat) (code : List ai_E) (pd : Option Nat) (st : List ln_V), ln_w n code pd st = true → ai_codeok ai_T (ai_T 0) code → ∃ en r, code = en :: r ∧ ∀ (z : Int32) (sh : Nat) (nC : Nat → Int) (H : Heap) (locs : List Loc) (stk : List Value), ln_J D s bC bR (fun j => xs (i + j)) pd z sh nC H locs → ai_F2 (ln_m bX bC bR i xs z) st stk → W p l e R s m args below meth c H locs (cs0 + 24 * ln_n sh) (ss0 + 52864 * ln_n sh) Q (F0 m en.1 ls stk) := by
  intro n
  induction n with
  | zero => intro code pd st h; cases h
  | succ n ih =>
    intro code pd st h hcode
    cases code with
    | nil => cases h
    | cons en r =>
      refine ⟨en, r, rfl, fun z sh nC H locs stk hI hst => ?_⟩
      have h' : ln_i (ln_w n) en r pd st = true := h
      obtain ⟨⟨⟨hd, hlen, hw⟩, hj, hw2⟩, hnx, hcr⟩ := hcode
      have cx0 := cx
      obtain ⟨hx, hb, hml, hown, hts, hao, hnw, hsx, hRf, hRl⟩ := cx
      have hS : va_S (lw_A s) s.heap H locs := ln_S hI
      have hcap : cs0 + 24 * ln_n sh ≤ R.cells ∧ ss0 + 52864 * ln_n sh ≤ R.slots := by
        have := ln_n2 sh
        omega
      have nx : ∀ pd' st', ln_w n r pd' st' = true → ∀ (z : Int32) (sh : Nat) (nC : Nat → Int) (H : Heap) (locs : List Loc) (stk' : List Value), ln_J D s bC bR (fun j => xs (i + j)) pd' z sh nC H locs → ai_F2 (ln_m bX bC bR i xs z) st' stk' → W p l e R s m args below meth c H locs (cs0 + 24 * ln_n sh) (ss0 + 52864 * ln_n sh) Q (F0 m (en.1 + en.2.2.1) ls stk') := by
        intro pd' st' g z sh nC H locs stk' hI' hst'
        obtain ⟨en2, r2, e2, k2⟩ := ih r pd' st' g hcr
        have := k2 z sh nC H locs stk' hI' hst'
        rw [hnx en2 r2 e2] at this
        exact this
      obtain ⟨pc, ins, len, na, nb, ni, nz⟩ := en
      unfold ln_i at h'
      dsimp only at hd hlen hw hj hw2 hnx nx h' ⊢
      have l1 : ai_len ins = 1 → len = 1 := fun q => by rcases hlen with h | h <;> omega
      have l2 : ai_len ins = 2 → len = 2 := fun q => by rcases hlen with h | h <;> omega
      have l3 : ai_len ins = 3 → len = 3 := fun q => by rcases hlen with h | h <;> omega
      split at h'
      · rename_i k
        cases l1 rfl
        cases e0 : ((k : Nat) == 0) with
        | true =>
          rw [e0, cond_true] at h'
          rw [beq_iff_eq] at e0
          exact lv_aload_n hx hb hd e0 (lv_at hls 0 rfl) (nx _ _ h' z sh nC H locs _ hI ⟨rfl, hst⟩)
        | false =>
          rw [e0, cond_false] at h'
          cases e1 : ((k : Nat) == 1) with
          | true =>
            rw [e1, cond_true] at h'
            rw [beq_iff_eq] at e1
            exact lv_aload_n hx hb hd e1 (lv_at hls 1 rfl) (nx _ _ h' z sh nC H locs _ hI ⟨rfl, hst⟩)
          | false =>
            rw [e1, cond_false, Bool.and_eq_true, beq_iff_eq] at h'
            exact lv_aload_n hx hb hd h'.1 (lv_at hls 2 rfl) (nx _ _ h'.2 z sh nC H locs _ hI ⟨rfl, hst⟩)
      · rename_i k
        cases l1 rfl
        rw [Bool.and_eq_true, beq_iff_eq] at h'
        exact lv_iload_n hx hb hd h'.1 (lv_at hls 3 rfl) (nx _ _ h'.2 z sh nC H locs _ hI ⟨rfl, hst⟩)
      · rename_i w
        cases l1 rfl
        simp only [Bool.and_eq_true, decide_eq_true_eq] at h'
        refine lv_iconst hx hb hd (v := nI w.toNat) ?_ (nx _ _ h'.2.2 z sh nC H locs _ hI ⟨rfl, hst⟩)
        apply Int32.toInt_inj.mp
        rw [hs_int32 (by omega) (by omega), nI_toInt (by omega)]
        omega
      · rename_i w
        cases l2 rfl
        simp only [Bool.and_eq_true, decide_eq_true_eq] at h'
        refine lv_bipush hx hb hd (v := nI w.toNat) ?_ (nx _ _ h'.2.2 z sh nC H locs _ hI ⟨rfl, hst⟩)
        apply Int32.toInt_inj.mp
        rw [hs_int8 (by omega) (by omega), nI_toInt (by omega)]
        omega
      · cases l1 rfl
        split at h'
        · rename_i c1 k1 q
          rw [Bool.and_eq_true, Nat.ble_eq] at h'
          obtain ⟨u1, us1, rfl, m1, hst1⟩ := hst.cons
          obtain ⟨u2, us2, rfl, m2, hst2⟩ := hst1.cons
          cases (show u1 = .int (nI c1) from m1)
          cases (show u2 = .int (nI (i + k1)) from m2)
          refine lv_iadd hx hb hd ?_
          rw [nI_add, Nat.add_assoc]
          exact nx _ _ h'.2 z sh nC H locs _ hI ⟨rfl, hst2⟩
        · cases h'
      · cases l1 rfl
        split at h'
        · rename_i k1 z1 q
          rw [Bool.and_eq_true, Nat.ble_eq] at h'
          obtain ⟨u1, us1, rfl, m1, hst1⟩ := hst.cons
          obtain ⟨u2, us2, rfl, m2, hst2⟩ := hst1.cons
          cases (show u1 = .int (nI (i + k1)) from m1)
          cases (show u2 = .ref bX from m2)
          refine va_sld hx hb hX hbX (Nat.not_le.mpr hbX) hS (vp_in_nI (by omega) (by omega)) hd ?_
          rw [nI_clamp (by omega)]
          exact nx _ _ h'.2 z sh nC H locs _ hI ⟨rfl, hst2⟩
        · cases h'
      · rename_i idx
        cases l3 rfl
        split at h'
        · rename_i t t2 q hdr
          simp only [Bool.and_eq_true, Nat.ble_eq] at h'
          obtain ⟨h6, h8, hnl, hcall⟩ := h'
          obtain ⟨hlk, q9, hq9, hq8⟩ := hw2
          have hst1 := hst.take (pk_np na)
          have hst2 := hst.drop (pk_np na)
          rw [hdr] at hst2
          obtain ⟨u, us, eus, mu, hstq⟩ := hst2.cons
          have hi6 := ln_ints h6 hst1
          have hcat : (us.map fun v => v.category).sum ≤ 8 := by rw [ln_cats hstq]; exact h8
          have hls4 : ls.size = 4 := hls.1
          have harg : st.take (pk_np na) = ln_k (pk_np na) → stk = ((ln_a (pk_np na) (fun j => xs (i + j))).map Value.int).reverse ++ u :: us := by
            intro he
            rw [← ln_ka, ← he, ← List.map_reverse, List.reverse_reverse, ← hi6, ← eus, List.take_append_drop]
          have hgen : ∃ ys : List Int32, ys.length = pk_np na ∧ stk = (ys.map Value.int).reverse ++ u :: us := by
            refine ⟨((st.take (pk_np na)).map (fun v => xs (i + v.2))).reverse, ?_, ?_⟩
            · rw [List.length_reverse, List.length_map, List.length_take]
              omega
            · rw [← List.map_reverse, List.reverse_reverse, ← hi6, ← eus, List.take_append_drop]
          unfold ln_call at hcall
          cases e9 : (nb == 9) with
          | true =>
            rw [e9, cond_true, Bool.and_eq_true, Bool.and_eq_true, beq_iff_eq] at hcall
            obtain ⟨rfl, hpd, hcall⟩ := hcall
            rw [beq_iff_eq] at e9
            subst e9
            cases pd with
            | some K => cases hpd
            | none =>
              cases (show u = .ref bC from mu)
              have hcl : RX9 = (ai_T na).2.1.cls := by
                cases (show some (RX9, TX9, 9) = some q9 from hq9)
                exact hq8
              cases ei : (na == 325 || (na == 306 || px_c.contains na)) with
              | true =>
                rw [ei, cond_true, Bool.and_eq_true, Bool.and_eq_true, beq_iff_eq] at hcall
                obtain ⟨ha, hq8', hcall⟩ := hcall
                rw [harg ha]
                exact ln_cls (xs := xs) (i := i) cx0 hI ei hR hcl hlk hls4 hcat hd (fun z' sh' n' H1 Lc hJ => nx _ _ hcall z' sh' n' H1 _ _ hJ ⟨rfl, ln_no hq8' hstq⟩)
              | false =>
                rw [ei, cond_false, Bool.and_eq_true] at hcall
                obtain ⟨hs, hcall⟩ := hcall
                rw [Bool.or_eq_false_iff, Bool.or_eq_false_iff] at ei
                obtain ⟨⟨K', ix⟩, hf⟩ := Option.isSome_iff_exists.mp hs
                have hK := List.find?_some hf
                have hmem := List.mem_of_find?_eq_some hf
                rw [beq_iff_eq] at hK
                dsimp only at hK
                subst hK
                obtain ⟨⟨f1, f2⟩, hC⟩ := pb_cm hmem ei.2.2
                obtain ⟨ys, hys, est⟩ := hgen
                rw [est]
                have hI' : la_J D s bC bR sh nC sh nC H locs := hI
                exact la_clN (md := ai_sr' (ai_T K') (zz_ctf ix).2.2.2.2.2.2) (xs := ys) (Ψ := fun _ n' => n' = nC) cx0 hI' (by rw [hys]; exact f1) f2 hcl hlk hls4 hcap hcat hd (fun sb ws tys hb hws => la_Mm (fun z' w t h => ⟨nC, rfl, fun _ _ _ => rfl, hI'.1.2.2.1, h⟩) (hC sb l D ws tys ys bC H.size nC hI'.1.2.2.1 hys hb hws)) (fun z' n' H1 Lc hn' hJ => by
                  subst hn'
                  exact nx _ _ hcall z sh n' H1 _ _ hJ ⟨⟨z', rfl⟩, hstq⟩)
          | false =>
            rw [e9, cond_false, Bool.and_eq_true, Bool.and_eq_true, beq_iff_eq, beq_iff_eq] at hcall
            obtain ⟨rfl, rfl, hcall⟩ := hcall
            cases (show u = .ref bR from mu)
            have hcl : RX10 = (ai_T na).2.1.cls := by
              cases (show some (RX10, TX10, 62) = some q9 from hq9)
              exact hq8
            cases pd with
            | some K0 =>
              dsimp only at hcall
              rw [Bool.and_eq_true, Bool.and_eq_true, beq_iff_eq] at hcall
              obtain ⟨ha, hK, hcall⟩ := hcall
              rw [harg ha]
              exact ln_ref (xs := xs) (i := i) cx0 hI hK hcl hlk hls4 hcap hcat hd (fun H1 Lc hJ => nx none _ hcall z sh nC H1 _ _ hJ ⟨rfl, hstq⟩)
            | none =>
              dsimp only at hcall
              rw [Bool.and_eq_true, Bool.and_eq_true, Bool.not_eq_true'] at hcall
              obtain ⟨hx0, hs, hcall⟩ := hcall
              obtain ⟨⟨K', ix⟩, hf⟩ := Option.isSome_iff_exists.mp hs
              have hK := List.find?_some hf
              have hmem := List.mem_of_find?_eq_some hf
              rw [beq_iff_eq] at hK
              dsimp only at hK
              subst hK
              obtain ⟨⟨f1, f2⟩, hC⟩ := pb_rm hmem hx0
              obtain ⟨ys, hys, est⟩ := hgen
              rw [est]
              have hI' : la_J D s bC bR sh nC sh nC H locs := hI
              exact la_rfN (md := ai_sr' (ai_T K') (ny_ctf ix).2.2.2.2.2.2) (xs := ys) (Ψ := fun _ sh' n' => sh' = sh ∧ n' = nC) cx0 hI' (by rw [hys]; exact f1) f2 hcl hlk hls4 hcap hcat hd (fun sb ws tys hb hws hr => la_Mm (fun z' w t h => ⟨sh, nC, sb, ⟨rfl, rfl⟩, hI'.1.1, hI'.1.2.2.1, h, lr_Jt la_tl hr⟩) (hC sb l D ws tys ys bR H.size nC hI'.1.2.2.1 hys hb hws)) (fun z' sh' n' H1 Lc hn' hJ => by
                obtain ⟨rfl, rfl⟩ := hn'
                exact nx none _ hcall z sh' n' H1 _ _ hJ ⟨⟨z', rfl⟩, hstq⟩)
        · cases h'
      · cases l1 rfl
        split at h'
        · rename_i v q
          obtain ⟨u1, us1, rfl, m1, hst1⟩ := hst.cons
          exact lv_pop hx hb hd (ln_cat1 m1) (nx _ _ h' z sh nC H locs _ hI hst1)
        · cases h'
      · rename_i q off
        cases l3 rfl
        split at h'
        · rename_i k1 k2
          rw [Bool.and_eq_true, Bool.and_eq_true, beq_iff_eq, decide_eq_true_eq] at h'
          obtain ⟨hpd, h'⟩ := h'
          cases pd with
          | some K => cases hpd
          | none =>
            obtain ⟨u1, us1, rfl, m1, hst1⟩ := hst.cons
            obtain ⟨u2, us2, rfl, m2, hst2⟩ := hst1.cons
            cases (show u1 = .int z from m1)
            cases (show u2 = .int z from m2)
            rw [hst2.nil]
            exact ai_icmp hx hb hd (tgt := 2039) h'.2 (fun _ => hend sh nC H locs hI) (fun g => absurd (by rw [h'.1]; rfl) g)
        · cases h'
      · rename_i off
        cases l3 rfl
        split at h'
        · rw [Bool.and_eq_true, decide_eq_true_eq] at h'
          obtain ⟨hpd, h'⟩ := h'
          cases pd with
          | some K => cases hpd
          | none =>
            rw [hst.nil]
            exact lv_goto hx hb hd (tgt := 2039) h' (hend sh nC H locs hI)
        · cases h'
      · cases h'
end LNS
