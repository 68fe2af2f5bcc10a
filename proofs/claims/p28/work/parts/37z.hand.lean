/-! ===== what is proved by hand, as the law has it ===== -/
theorem zzw : cg_w nv_G zz_WN = true := by decide +kernel
theorem cg_tok {n : Nat → Int} {sb : ai_SB} {tys : List (ClassId × FieldType)} {ws : va_W} {k j t : Nat} (hws : ai_ws (nv n) sb tys zz_WN ws) (ho : (hc_ob k).isSome = true) (hf : cg_fw zz_WN k j = some (2, t, 0, 1)) (ht : t < 26) : (cg_S ws).1 (64 * k + j) = n t := by
  obtain ⟨q, hq⟩ := Option.isSome_iff_exists.mp ho
  obtain ⟨-, h⟩ := cg_st zzw hws hq hf rfl
  rw [nv_lt ht] at h
  exact (Option.some.inj h).symm
theorem cg_cst {n : Nat → Int} {sb : ai_SB} {tys : List (ClassId × FieldType)} {ws : va_W} {k j : Nat} {w c : Int} {q : Nat × List (Nat × Int)} (hn : ai_gok (nv n) nv_G) (hws : ai_ws (nv n) sb tys zz_WN ws) (hq : hc_ob k = some q) (hj : q.2[j]? = some (0, c)) (hf : cg_fw zz_WN k j = some (0, 0, w, w)) : (cg_S ws).1 (64 * k + j) = w := by
  have h : i32 ((cg_S ws).1 (64 * k + j)) → w ≤ (cg_S ws).1 (64 * k + j) ∧ (cg_S ws).1 (64 * k + j) ≤ w := cg_st zzw hws hq hf rfl
  have := h (cg_i32 (cg_ok zzw hn hws) hq hj)
  omega
theorem cg_uT {n : Nat → Int} {sb : ai_SB} {tys : List (ClassId × FieldType)} {ws : va_W} (hn : ai_gok (nv n) nv_G) (hws : ai_ws (nv n) sb tys zz_WN ws) : uTs (cg_S ws) ∧ ((cg_S ws).1 899 = n 1 ∧ (cg_S ws).1 1027 = n 2 ∧ (cg_S ws).1 1155 = n 3 ∧ (cg_S ws).1 1411 = n 4) := by
  have t1 := cg_tok (k := 14) (j := 3) (t := 1) hws rfl rfl (by decide)
  have t2 := cg_tok (k := 16) (j := 3) (t := 2) hws rfl rfl (by decide)
  have t3 := cg_tok (k := 18) (j := 3) (t := 3) hws rfl rfl (by decide)
  have t4 := cg_tok (k := 22) (j := 3) (t := 4) hws rfl rfl (by decide)
  obtain ⟨n1, n2, n3, n4⟩ := tn_of hn
  refine ⟨⟨⟨?_, ?_, ?_, ?_⟩, ⟨?_, ?_, ?_, ?_⟩, ⟨?_, ?_, ?_, ?_⟩, ⟨?_, ?_, ?_, ?_⟩⟩, t1, t2, t3, t4⟩
  · exact cg_cst (k := 14) (j := 0) hn hws rfl rfl rfl
  · exact cg_cst (k := 14) (j := 1) hn hws rfl rfl rfl
  · rw [t1]; exact n1.1
  · rw [t1]; exact n1.2
  · exact cg_cst (k := 16) (j := 0) hn hws rfl rfl rfl
  · exact cg_cst (k := 16) (j := 1) hn hws rfl rfl rfl
  · rw [t2]; exact n2.1
  · rw [t2]; exact n2.2
  · exact cg_cst (k := 18) (j := 0) hn hws rfl rfl rfl
  · exact cg_cst (k := 18) (j := 1) hn hws rfl rfl rfl
  · rw [t3]; exact n3.1
  · rw [t3]; exact n3.2
  · exact cg_cst (k := 22) (j := 0) hn hws rfl rfl rfl
  · exact cg_cst (k := 22) (j := 1) hn hws rfl rfl rfl
  · rw [t4]; exact n4.1
  · rw [t4]; exact n4.2
/-- tokens of the tables' counts alone may change -/
def kr (t : Nat) : Bool := t == 2 || (t == 3 || t == 4)
def cg_tk (x : ai_C) : Bool := match x with
  | .inr (_, _, _, ov) => ov.all (fun q => !(kr q.2.2.1))
  | _ => true
def x_5 : List Nat := [15, 17, 19, 23, 24]
def cg_dk (k : Nat) : Bool := (hc_ob k).isSome || (match zz_WN[k]? with
  | some x => bif x_5.contains k then bh_df x else bh_dk nv_G x && cg_tk x
  | none => false)
theorem cg_dka : (List.range 72).all cg_dk = true := by decide +kernel
def cg_sp (x : Nat) : Bool := x == 8 || (x == 1988 || (x == 1027 || (x == 1155 || x == 1411)))
def cg_fk (k j : Nat) : Bool := match cg_fw zz_WN k j with
  | some w => cg_sp (64 * k + j) || (bg_ft w && (!(w.1 == 3) && (!(w.1 == 2) || !(kr w.2.1))))
  | none => true
theorem cg_fka : (List.range 72).all (fun k => (List.range 64).all (cg_fk k)) = true := by decide +kernel
theorem bh_anz {ρ σ : ai_Rh} {sb : ai_SB} {S : hs_S} {k : Nat} {x : ai_C} (hr : ∀ t z, kr t = false → ρ t = some z → σ t = some z) (ht : cg_tk x = true) (h : bh_d ρ sb S k x) : bh_d σ sb S k x := by
  unfold bh_d at h ⊢
  split at h
  · refine ⟨fun q hq => ?_, h.2⟩
    obtain ⟨h1, t, h2, h3⟩ := h.1 q hq
    have := List.all_eq_true.mp ht q hq
    rw [h2, Bool.not_eq_true'] at this
    exact ⟨h1, t, h2, hr _ _ this h3⟩
  · exact h
  · exact h
  · trivial
  · exact h.elim
theorem bg_fanz {ρ σ : ai_Rh} {S : hs_S} {j : Nat} {w : ai_V} (hr : ∀ t z, kr t = false → ρ t = some z → σ t = some z) (h2 : ¬ w.1 = 2 ∨ kr w.2.1 = false) (h3 : ¬ w.1 = 3) (h : bg_fd ρ S j w) : bg_fd σ S j w := by
  obtain ⟨n, t, a, b⟩ := w
  match n, h2, h3, h with
  | 0, _, _, h => exact h
  | 1, _, _, h => exact h
  | 2, h2, _, h =>
    rcases h2 with h2 | h2
    · exact absurd rfl h2
    · exact ⟨h.1, hr _ _ h2 h.2⟩
  | 3, _, h3, _ => exact absurd rfl h3
  | 4, _, _, _ => exact True.intro
  | n + 5, _, _, h => exact h.elim
theorem nv_kr {n n' : Nat → Int} (h : ∀ t, ¬ t = 2 → ¬ t = 3 → ¬ t = 4 → t < 26 → n' t = n t) : ∀ t z, kr t = false → nv n t = some z → nv n' t = some z := by
  intro t z hk hz
  unfold kr at hk
  simp only [Bool.or_eq_false_iff, beq_eq_false_iff_ne] at hk
  by_cases h26 : t < 26
  · rw [nv_lt h26] at hz ⊢
    rw [h t hk.1 hk.2.1 hk.2.2 h26]
    exact hz
  · unfold nv at hz
    rw [if_neg h26] at hz
    cases hz
theorem nv_gk' {n n' : Nat → Int} (hn : ai_gok (nv n) nv_G) (h : ∀ t, ¬ t = 2 → ¬ t = 3 → ¬ t = 4 → t < 26 → n' t = n t) (h' : tn n') : ai_gok (nv n') nv_G := nv_gk (fun t ht => by
  by_cases e2 : t = 2
  · subst e2
    exact h'.2.1
  · by_cases e3 : t = 3
    · subst e3
      exact h'.2.2.1
    · by_cases e4 : t = 4
      · subst e4
        exact h'.2.2.2
      · rw [h t e2 e3 e4 ht]
        exact nv_bh hn ht)
/-- back to the class's world -/
theorem cg_ret {n n' : Nat → Int} {sb : ai_SB} {tys tys1 : List (ClassId × FieldType)} {ws ws1 : va_W} {S1 : hs_S} (hn : ai_gok (nv n) nv_G) (hws : ai_ws (nv n) sb tys zz_WN ws) (hk : ∀ t, ¬ t = 2 → ¬ t = 3 → ¬ t = 4 → t < 26 → n' t = n t) (h7 : hc_ok sb.2 hc_sh tys1 S1 ws1) (hcf : cf (cg_S ws) S1) (hc : S1.1 1027 = n' 2 ∧ S1.1 1155 = n' 3 ∧ S1.1 1411 = n' 4) : ai_ws (nv n') sb tys1 zz_WN ws1 := by
  refine cg_bk zzw h7 (fun k x hk72 ho hx => ?_) (fun k q j fk w hq hj64 hfk hw hbool => ?_)
  · have g := List.all_eq_true.mp cg_dka k (List.mem_range.mpr hk72)
    unfold cg_dk at g
    rw [ho, hx] at g
    have g : (bif x_5.contains k then bh_df x else bh_dk nv_G x && cg_tk x) = true := g
    cases h5 : x_5.contains k with
    | true =>
      rw [h5, cond_true] at g
      exact bh_full g
    | false =>
      rw [h5, cond_false, Bool.and_eq_true] at g
      have e : ∀ c, c ∈ x_5 → ¬ k = c := fun c hc hkc => by
        rw [hkc, List.contains_iff_mem.mpr hc] at h5
        cases h5
      have e2 : S1.2 k = (bg_S ws).2 k := hcf.2.2 k (e 15 (by decide)) (e 17 (by decide)) (e 19 (by decide)) (e 23 (by decide)) (e 24 (by decide))
      exact bh_anz (nv_kr hk) g.2 (bh_deq e2 (bh_std hn hws hx g.1))
  · have hk72 := hc_72 hq
    have g := List.all_eq_true.mp (List.all_eq_true.mp cg_fka k (List.mem_range.mpr hk72)) j (List.mem_range.mpr hj64)
    unfold cg_fk at g
    rw [hw] at g
    have g : (cg_sp (64 * k + j) || (bg_ft w && (!(w.1 == 3) && (!(w.1 == 2) || !(kr w.2.1))))) = true := g
    cases hs : cg_sp (64 * k + j) with
    | true =>
      unfold cg_sp at hs
      simp only [Bool.or_eq_true, beq_iff_eq] at hs
      rcases hs with e | e | e | e | e
      · obtain ⟨rfl, rfl⟩ : k = 0 ∧ j = 8 := by omega
        cases (show some ((0, 0, -2147483648, 2147483647) : ai_V) = some w from hw)
        exact fun hi => hi
      · obtain ⟨rfl, rfl⟩ : k = 31 ∧ j = 4 := by omega
        cases (show some ((0, 0, 0, 1) : ai_V) = some w from hw)
        cases hq
        cases hfk
        intro _
        have := hbool rfl
        omega
      · obtain ⟨rfl, rfl⟩ : k = 16 ∧ j = 3 := by omega
        cases (show some ((2, 2, 0, 1) : ai_V) = some w from hw)
        exact ⟨⟨rfl, rfl⟩, (nv_lt (by decide)).trans (congrArg some hc.1.symm)⟩
      · obtain ⟨rfl, rfl⟩ : k = 18 ∧ j = 3 := by omega
        cases (show some ((2, 3, 0, 1) : ai_V) = some w from hw)
        exact ⟨⟨rfl, rfl⟩, (nv_lt (by decide)).trans (congrArg some hc.2.1.symm)⟩
      · obtain ⟨rfl, rfl⟩ : k = 22 ∧ j = 3 := by omega
        cases (show some ((2, 4, 0, 1) : ai_V) = some w from hw)
        exact ⟨⟨rfl, rfl⟩, (nv_lt (by decide)).trans (congrArg some hc.2.2.symm)⟩
    | false =>
      rw [hs, Bool.false_or] at g
      simp only [Bool.and_eq_true, Bool.or_eq_true, Bool.not_eq_true', beq_eq_false_iff_ne] at g
      unfold cg_sp at hs
      simp only [Bool.or_eq_false_iff, beq_eq_false_iff_ne] at hs
      exact bg_fanz (nv_kr hk) g.2.2 g.2.1 (bg_fdeq (hcf.1 _ hs.1 hs.2.1 hs.2.2.1 hs.2.2.2.1 hs.2.2.2.2) (cg_st zzw hws hq hw g.1))
theorem hx_vm {ad : List Nat} : ∀ xs : List Int32, ai_F2 (hs_vm ad) ((xs.map Int32.toInt).map fun z => ((0, z) : hs_V)) (xs.map Value.int)
  | [] => trivial
  | x :: r => ⟨⟨x, rfl, rfl⟩, hx_vm r⟩
theorem hx_av {ad : List Nat} {b : Nat} (hb : ad[0]? = some b) (xs : List Int32) : ai_F2 (hs_vm ad) (hx_as (xs.map Int32.toInt)) (.ref b :: xs.map Value.int) := by
  unfold hx_as
  exact ⟨⟨b, hb, rfl⟩, hx_vm xs⟩
def hx_b (K : Nat) : Bool := pf_b (ai_T K)
theorem hx_ba : (hx_c ++ hx_r).all hx_b = true := by decide +kernel
theorem hx_pf {K : Nat} (hK : K ∈ hx_c ∨ K ∈ hx_r) : pf_ok (ai_T K) (pk_np K) ∧ (ai_T K).2.2.2.2.2.2.1.cells = 0 ∧ (ai_T K).2.2.2.2.2.2.1.slots = 0 := by
  have h := List.all_eq_true.mp hx_ba K (List.mem_append.mpr hK)
  unfold hx_b pf_b pk_rm at h
  simp only [Bool.and_eq_true, beq_iff_eq, decide_eq_true_eq] at h
  obtain ⟨⟨r1, r2, r3, r4, -⟩, c1, c2⟩ := h
  exact ⟨⟨ai_hM K (by intro h3; rw [r4] at h3; cases h3), r4, ⟨r1, r2, r3⟩, rfl⟩, c1, c2⟩
/-- what the class does, by hand -/
def hx_W (K : Nat) (xs : List Int32) (n : Nat → Int) (T : Nat → Int) (z : Int32) (n' : Nat → Int) (R' : Nat → Int) : Prop := ∃ S0 : hs_S, tS S0 n T ∧ z.toInt = (cq K S0 n T (xs.map Int32.toInt)).1 ∧ n' = ab_n n (cq K S0 n T (xs.map Int32.toInt)).2 ∧ R' = ab_R T (cq K S0 n T (xs.map Int32.toInt)).2
theorem hxc_met {K : Nat} (hK : K ∈ hx_c) {n T : Nat → Int} (hn : ai_gok (nv n) nv_G) (hv : tvx n T) (sb : ai_SB) (l : Launch) (D : va_G) (ws : va_W) (tys : List (ClassId × FieldType)) (xs : List Int32) (b sz : Nat) (hl : xs.length = pk_np K) (hb : (ws.map Prod.fst)[0]? = some b) (hws : ai_ws (nv n) sb tys zz_WN ws) (hT : tx_cl (t_M ws 1) (n 2) (n 3) (n 4) T) : la_Mt (ai_T K) l D ws tys (.ref b :: xs.map .int) sz (fun z ws1 tys1 => ∃ (n' : Nat → Int) (R' : Nat → Int) (sb1 : ai_SB), hx_W K xs n T z n' R' ∧ (∀ t, 6 ≤ t → t < 18 → n' t = n t) ∧ ai_gok (nv n') nv_G ∧ tvx n' R' ∧ sb1.2 0 = sb.2 0 ∧ ai_ws (nv n') sb1 tys1 zz_WN ws1 ∧ tx_cl (t_M ws1 1) (n' 2) (n' 3) (n' 4) R') := by
  obtain ⟨-, h0, h1⟩ := hx_pf (Or.inl hK)
  obtain ⟨hu, hcn⟩ := cg_uT hn hws
  have htn := tn_of hn
  have hS : tS (cg_S ws) n T := ⟨hcn, tx_ccg htn.2.1.2 htn.2.2.1.2 (fun _ _ => rfl) (fun _ _ => rfl) (fun _ _ => rfl) (fun _ _ => rfl) hT⟩
  obtain ⟨t, hc, ht⟩ := hx_cls hK (xs := xs.map Int32.toInt) (by rw [List.length_map]; exact hl)
  have hok := cg_ok zzw hn hws
  have M := hc sb l D ws tys (.ref b :: xs.map .int) sz _ (cg_S ws) _ (ht _ n T htn hv hu hS) (hx_av hb xs) hok
  obtain ⟨k1, k2, k3⟩ := tnv_cq (K := K) (S := cg_S ws) htn hv (xs.map Int32.toInt)
  show Met _ _ _ _ _ _ _ _ _
  rw [h0, h1]
  refine MetFree.mono M (fun _ _ h => h) (fun _ _ _ _ _ h => h) (fun a st oc t' hP hQ => ⟨?_, hQ.2⟩)
  obtain ⟨⟨ro', S1, rv, ws1, tys1, f1, f2, f3, f4, f5, f6, f7, hro, hcf, ⟨hc1, hc2, hc3, hc4⟩, hts⟩, hFr⟩ := hQ.1
  subst hro
  obtain ⟨u, r, hrv, ⟨z, rfl, hz⟩, hnl⟩ := f3.cons
  rw [hnl.nil] at hrv
  refine ⟨⟨z, ws1, tys1, [], ?_, by rw [f2, List.append_nil], f4, f5, f6, _, _, sb, ⟨cg_S ws, hS, hz, rfl, rfl⟩, fun t a b => k1 t (by omega) (by omega) (by omega) (by omega), nv_gk' hn k1 k2, k3, rfl, cg_ret hn hws k1 f7 hcf ⟨hc2, hc3, hc4⟩, ?_⟩, hFr⟩
  · rw [f1]
    cases rv with
    | none => cases hrv
    | some w =>
      cases hrv
      rfl
  · exact tx_ccg k2.2.1.2 k2.2.2.1.2 (fun k hk => cg_ar f7 (k := 17) (n := 80) rfl k (by have := k2.2.1.2; omega)) (fun k hk => cg_ar f7 (k := 19) (n := 1000) rfl k (by have := k2.2.2.1.2; omega)) (fun k hk => cg_ar f7 (k := 23) (n := 1000) rfl k (by have := k2.2.2.2.2; omega)) (fun k hk => cg_ar f7 (k := 24) (n := 6) rfl k hk) hts
