/-! ===== what is proved by hand, of the reference ===== -/
theorem hs_ok9 {ex ex' : Nat → va_E} {tys : List (ClassId × FieldType)} {S : hs_S} {ws : va_W} (h0 : ex' 0 = ex 0) (h1 : ex' 1 = ex 1) (h : hs_ok ex hs_sh tys S ws) : hs_ok ex' hs_sh tys S ws := by
  refine ⟨h.1, h.2.1, fun k c hk hc => ?_⟩
  obtain ⟨a, e, ha, har⟩ := h.2.2 k c hk hc
  refine ⟨a, e, ha, ?_⟩
  have hc9 : c.1 = 9 → c.2 = 0 ∨ c.2 = 1 := (by decide : ∀ c ∈ hs_sh, c.1 = 9 → c.2 = 0 ∨ c.2 = 1) c (List.mem_of_getElem? hc)
  unfold hs_ar at har ⊢
  split at har
  · exact har
  · exact har
  · exact har
  · rename_i m
    have har : e = ex m := har
    show e = ex' m
    rcases hc9 rfl with g | g
    · have g : m = 0 := g
      rw [g] at har ⊢
      rw [har, h0]
    · have g : m = 1 := g
      rw [g] at har ⊢
      rw [har, h1]
  · exact har
def hx_sp (j : Nat) : Bool := Nat.blt j 2 || (j == 59 || (j == 60 || j == 61))
def hx_ft (j : Nat) : Bool := match (bg_fs ny_WN)[j]? with
  | some w => bif hx_sp j then (w == (0, 0, -2147483648, 2147483647) || w == (1, 0, -9223372036854775808, 9223372036854775807)) else bg_ft w && ((!(w.1 == 2) || Nat.ble 18 w.2.1) && !(w.1 == 3))
  | none => false
theorem hx_fta : (List.range 62).all hx_ft = true := by decide +kernel
theorem hxr_met {K : Nat} (hK : K ∈ hx_r) {n : Nat → Int} {T : Nat → Nat → Int} {sh : Nat} (hn : ai_gok (nv n) nv_G) (hv : tvx n (T 0)) (sb : ai_SB) (l : Launch) (D : va_G) (ws : va_W) (tys : List (ClassId × FieldType)) (xs : List Int32) (b sz : Nat) (hl : xs.length = pk_np K) (hb : (ws.map Prod.fst)[0]? = some b) (hws : ai_ws (nv n) sb tys ny_WN ws) (hr : lr_J sb tys sh n T) : la_Mt (ai_T K) l D ws tys (.ref b :: xs.map .int) sz (fun z ws1 tys1 => ∃ Q : Nat → Int, tR Q n (T 0) ∧ z.toInt = (rqq K Q n (T 0) (xs.map Int32.toInt)).1 ∧ ai_gok (nv (ab_n n (rqq K Q n (T 0) (xs.map Int32.toInt)).2)) nv_G ∧ tvx (ab_n n (rqq K Q n (T 0) (xs.map Int32.toInt)).2) (ab_R (T 0) (rqq K Q n (T 0) (xs.map Int32.toInt)).2) ∧ (∀ t, 6 ≤ t → t < 18 → ab_n n (rqq K Q n (T 0) (xs.map Int32.toInt)).2 t = n t) ∧ ∃ sb1 : ai_SB, ai_ws (nv (ab_n n (rqq K Q n (T 0) (xs.map Int32.toInt)).2)) sb1 tys1 ny_WN ws1 ∧ lr_J sb1 (tys ++ tys1) sh (ab_n n (rqq K Q n (T 0) (xs.map Int32.toInt)).2) (tup T (ab_R (T 0) (rqq K Q n (T 0) (xs.map Int32.toInt)).2))) := by
  obtain ⟨-, h0, h1⟩ := hx_pf (Or.inr hK)
  have htn := tn_of hn
  obtain ⟨hrow, hlv⟩ := lrn_live hn hws
  have hQ0 : tR ((bg_S ws).2 1) n (T 0) := ⟨⟨hlv 1 (by decide), hlv 2 (by decide), hlv 3 (by decide), hlv 4 (by decide)⟩, lrn_tq hn hws hr⟩
  obtain ⟨t, hc, ht⟩ := hx_ref hK (xs := xs.map Int32.toInt) (by rw [List.length_map]; exact hl)
  have hok := bg_ok lrn_w hn hws
  have M := hc sb l D ws tys (.ref b :: xs.map .int) sz _ (bg_S ws) _ (ht _ n (T 0) htn hv hrow hQ0) (hx_av hb xs) hok
  obtain ⟨k1, k2, k3⟩ := tnv_rq (K := K) (Q := (bg_S ws).2 1) htn hv (xs.map Int32.toInt)
  have hn' := nv_gk' hn k1 k2
  show Met _ _ _ _ _ _ _ _ _
  rw [h0, h1]
  refine MetFree.mono M (fun _ _ h => h) (fun _ _ _ _ _ h => h) (fun a st oc t' hP hQ => ⟨?_, hQ.2⟩)
  obtain ⟨⟨ro', S1, rv, ws1, tys1, f1, f2, f3, f4, f5, f6, f7, hro, ⟨r1, r2, r3, r4⟩, ⟨hc1, hc2, hc3, hc4⟩, hts⟩, hFr⟩ := hQ.1
  subst hro
  obtain ⟨q, hq⟩ : ∃ q, q = rqq K ((bg_S ws).2 1) n (T 0) (xs.map Int32.toInt) := ⟨_, rfl⟩
  rw [← hq] at k1 k2 k3 hn' hc1 hc2 hc3 hc4 hts
  obtain ⟨u, r, hrv, ⟨z, rfl, hz⟩, hnl⟩ := f3.cons
  rw [hnl.nil] at hrv
  rw [← hq] at hz
  obtain ⟨a1, q1, ha1, cC, f, t2, g1, i1, s1⟩ := f7.2.2 1 (0, 23016) (by decide) rfl
  have hxa : ∀ j, ai_xa 2 j = true → S1.2 1 j = ai_xn q1 j := fun j hj => by
    have := ni_xa hj
    rw [g1, ← s1 j (by omega)]
    rfl
  have hok1 : hs_ok (fun id => if id = 2 then q1 else sb.2 id) hs_sh tys1 S1 ws1 := hs_ok9 (if_neg (by decide)) (if_neg (by decide)) f7
  have hr8 : ∀ t z, 18 ≤ t → nv n t = some z → nv (ab_n n q.2) t = some z := fun t z h8 hz => nv_kr k1 t z (by
    unfold kr
    rw [beq_eq_false_iff_ne.mpr (show ¬ t = 2 by omega), beq_eq_false_iff_ne.mpr (show ¬ t = 3 by omega), beq_eq_false_iff_ne.mpr (show ¬ t = 4 by omega)]
    rfl) hz
  refine ⟨⟨z, ws1, tys1, [], ?_, by rw [f2, List.append_nil], f4, f5, f6, (bg_S ws).2 1, hQ0, ?_⟩, hFr⟩
  · rw [f1]
    cases rv with
    | none => cases hrv
    | some w =>
      cases hrv
      rfl
  rw [← hq]
  refine ⟨hz, hn', k3, fun t a b => k1 t (by omega) (by omega) (by omega) (by omega), (sb.1, fun id => if id = 2 then q1 else sb.2 id), ?_, ?_⟩
  · refine bh_bk (sb := (sb.1, fun id => if id = 2 then q1 else sb.2 id)) lrn_w hok1 (fun k x hk hx => ?_) (fun j w hj _ => ?_)
    · by_cases e1 : k = 1
      · subst e1
        rw [lrn_1] at hx
        cases hx
        refine ⟨fun p hp => ⟨Or.inl rfl, ?_⟩, Or.inr ⟨rfl, Or.inr ⟨rfl, rfl, fun j hj => hxa j hj⟩, rfl, r3⟩⟩
        obtain ⟨t, ht6, e2, e3⟩ := nyo_k p hp
        refine ⟨t, e2, ?_⟩
        rw [nv_lt (by omega), e3]
        congr 1
        match t, ht6 with
        | 0, _ => exact (k1 0 (by decide) (by decide) (by decide) (by decide)).trans ((hlv 0 (by decide)).symm.trans (r4 0 (by decide) (by decide) (by decide) (by decide)).symm)
        | 1, _ => exact hc1.symm
        | 2, _ => exact hc2.symm
        | 3, _ => exact hc3.symm
        | 4, _ => exact hc4.symm
        | 5, _ => exact (k1 5 (by decide) (by decide) (by decide) (by decide)).trans ((hlv 5 (by decide)).symm.trans (r4 7 (by decide) (by decide) (by decide) (by decide)).symm)
      · by_cases e2 : k = 2
        · subst e2
          rw [lrn_2] at hx
          cases hx
          trivial
        · by_cases e3 : k = 3
          · subst e3
            rw [lrn_3] at hx
            cases hx
            trivial
          · have hk33 : k < 33 := (List.getElem?_eq_some_iff.mp hx).1
            have g := List.all_eq_true.mp lrn_dka k (List.mem_range.mpr hk33)
            unfold lrn_dk at g
            rw [beq_eq_false_iff_ne.mpr (show ¬ k = 0 by omega), beq_eq_false_iff_ne.mpr e1, Bool.false_or, Bool.false_or, hx] at g
            dsimp only at g
            rw [Bool.and_eq_true] at g
            exact bh_any hr8 g.2 (bh_deq (r2 k e1) (bh_std hn hws hx g.1))
    · have hj62 : j < 62 := (List.getElem?_eq_some_iff.mp hj).1
      have g := List.all_eq_true.mp hx_fta j (List.mem_range.mpr hj62)
      unfold hx_ft at g
      rw [hj] at g
      have g : (bif hx_sp j then (w == (0, 0, -2147483648, 2147483647) || w == (1, 0, -9223372036854775808, 9223372036854775807)) else bg_ft w && ((!(w.1 == 2) || Nat.ble 18 w.2.1) && !(w.1 == 3))) = true := g
      cases hs : hx_sp j with
      | true =>
        rw [hs, cond_true, Bool.or_eq_true, beq_iff_eq, beq_iff_eq] at g
        rcases g with rfl | rfl
        · exact fun h => h
        · exact fun h => h
      | false =>
        rw [hs, cond_false] at g
        simp only [Bool.and_eq_true, Bool.or_eq_true, Bool.not_eq_true', beq_eq_false_iff_ne, Nat.ble_eq] at g
        obtain ⟨g1, g2, g3⟩ := g
        unfold hx_sp at hs
        simp only [Bool.or_eq_false_iff, beq_eq_false_iff_ne] at hs
        have h2 : ¬ j < 2 := fun q => by
          have z : Nat.blt j 2 = true := Nat.ble_eq.mpr q
          rw [z] at hs
          cases hs.1
        exact bg_fany hr8 g2 g3 (bg_fdeq (r1 j (by omega) (by omega) hs.2.1 hs.2.2.1 hs.2.2.2) (bg_st lrn_w hws j w hj g1))
  · obtain ⟨-, cA, f2', t0, cB, f3', t1, e1, e2, e3, e4, e5⟩ := lr_Jt (tys' := tys ++ tys1) la_tl hr
    have ke : ∀ t, 6 ≤ t → t < 18 → ab_n n q.2 t = n t := fun t a b => k1 t (by omega) (by omega) (by omega) (by omega)
    refine ⟨?_, cA, f2', t0, cB, f3', t1, e1, e2, e3, e4, fun i hi => ⟨(e5 i hi).1, fun hp => ⟨((e5 i hi).2 hp).1, fun t ht => ?_, ?_⟩⟩⟩
    · exact tx_qcx k2.2.1.2 k2.2.2.1.2 k2.2.2.2.2 (fun j hj => (hxa j hj).symm) hts
    · rw [((e5 i hi).2 hp).2.1 t ht, ke _ (by omega) (by omega)]
    · rw [ke (8 + 6 * i) (by omega) (by omega), ke (9 + 6 * i) (by omega) (by omega), ke (10 + 6 * i) (by omega) (by omega), show tup T (ab_R (T 0) q.2) (1 + i) = T (1 + i) from if_neg (by omega)]
      exact ((e5 i hi).2 hp).2.2
