/-! ===== counts: the reference's calls ===== -/
def pr_x : List Nat := [117, 39, 42, 63, 48, 114]
def pw_r : List Nat := [153, 47, 143, 146]
def px_r : List Nat := pr_x ++ pw_r
def prn_ok (q : Nat × Nat) : Bool := px_r.contains q.1 || la_chkN (ny_ctf q.2) (pk_np q.1) ny_WN ny_WN
set_option maxRecDepth 100000 in
theorem prn_all : pr_l.all prn_ok = true := by decide +kernel
def pb_ok (ctf : Nat → ai_Ct) (ctk : Nat → Nat) (N : Nat) (q : Nat × Nat) : Bool := ctk q.2 == q.1 && (Nat.blt q.2 N && pf_b (ai_sr' (ai_T q.1) (ctf q.2).2.2.2.2.2.2))
theorem pb_c : pc_l.all (pb_ok zz_ctf zz_ctk 226) = true := by decide +kernel
theorem pb_r : pr_l.all (pb_ok ny_ctf ny_ctk 75) = true := by decide +kernel
/-- one that keeps the counts, of the class -/
theorem pb_cm {q : Nat × Nat} (hq : q ∈ pc_l) (hx : px_c.contains q.1 = false) : (pf_ok (ai_sr' (ai_T q.1) (zz_ctf q.2).2.2.2.2.2.2) (pk_np q.1) ∧ (ai_sr' (ai_T q.1) (zz_ctf q.2).2.2.2.2.2.2).2.2.2.2.2.2.1.cells = 0 ∧ (ai_sr' (ai_T q.1) (zz_ctf q.2).2.2.2.2.2.2).2.2.2.2.2.2.1.slots = 0) ∧ la_CN (ai_sr' (ai_T q.1) (zz_ctf q.2).2.2.2.2.2.2) (pk_np q.1) zz_WN zz_WN := by
  have h1 := List.all_eq_true.mp pb_c q hq
  unfold pb_ok at h1
  simp only [Bool.and_eq_true, beq_iff_eq] at h1
  obtain ⟨e1, e2, e3⟩ := h1
  have h2 := List.all_eq_true.mp pcn_all q hq
  unfold pcn_ok at h2
  rw [hx, Bool.false_or] at h2
  have h3 := la_ctN (i := q.2) (fun sb => zl_226 (zz_op sb) q.2 (Nat.le_of_ble_eq_true e2)) h2
  rw [e1] at h3
  exact ⟨pf_bo e3 rfl, h3⟩
/-- one that keeps the counts, of the reference -/
theorem pb_rm {q : Nat × Nat} (hq : q ∈ pr_l) (hx : px_r.contains q.1 = false) : (pf_ok (ai_sr' (ai_T q.1) (ny_ctf q.2).2.2.2.2.2.2) (pk_np q.1) ∧ (ai_sr' (ai_T q.1) (ny_ctf q.2).2.2.2.2.2.2).2.2.2.2.2.2.1.cells = 0 ∧ (ai_sr' (ai_T q.1) (ny_ctf q.2).2.2.2.2.2.2).2.2.2.2.2.2.1.slots = 0) ∧ la_CN (ai_sr' (ai_T q.1) (ny_ctf q.2).2.2.2.2.2.2) (pk_np q.1) ny_WN ny_WN := by
  have h1 := List.all_eq_true.mp pb_r q hq
  unfold pb_ok at h1
  simp only [Bool.and_eq_true, beq_iff_eq] at h1
  obtain ⟨e1, e2, e3⟩ := h1
  have h2 := List.all_eq_true.mp prn_all q hq
  unfold prn_ok at h2
  rw [hx, Bool.false_or] at h2
  have h3 := la_ctN (i := q.2) (fun sb => nl_75 (sb := sb) q.2 (Nat.le_of_ble_eq_true e2)) h2
  rw [e1] at h3
  exact ⟨pf_bo e3 rfl, h3⟩
/-! the reference's six -/
noncomputable def qn_run (K : Nat) : Option (List ai_O) := af_ex (ai_Tr ai_T ny_fr) ai_B1 (ai_hr ny_fnd ny_ctf 75) ny_N 0 20000 K [] (ai_B1 K 0) (pn_G (pk_np K)) (ai_arg 0 (pn_as (pk_np K)), [], ny_WN, 0, 0)
noncomputable def qw_run (K : Nat) : Option (List ai_O) := af_ex (ai_Tr ai_T ny_fr) ai_B1 iw_h iw_N 0 20000 K [] (ai_B1 K 0) (pn_G (pk_np K)) (ai_arg 0 (pn_as (pk_np K)), [], ny_WN, 0, 0)
noncomputable def qn_all (K : Nat) : Option (List ai_O) := bif pw_r.contains K then qw_run K else qn_run K
def qn_six (W : ai_W) : List ai_V := [0, 3, 4, 5, 6, 7].map (pn_oj W 1) ++ pn_fj W 0 34 :: (List.range 7).map (pn_oj W 16)
set_option maxRecDepth 100000 in
theorem qn_k : pr_x.all (fun K => iw_all (qn_run K) fun o => pn_ec ny_WN (px_cv qn_six o) o) = true := by decide +kernel
set_option maxRecDepth 100000 in
theorem qw_k : pw_r.all (fun K => iw_all (qw_run K) fun o => pn_ec ny_WN (px_cv qn_six o) o) = true := by decide +kernel
theorem qn_six_ok (σ : ai_Rh) (sb : ai_SB) (tys : List (ClassId × FieldType)) (ws : va_W) (W : ai_W) (h : ai_ws σ sb tys W ws) : ∀ v ∈ qn_six W, (v.1 = 0 ∨ v.1 = 2) → ∃ u, ai_mt σ sb (ws.map Prod.fst) v u := by
  intro v hv h02
  unfold qn_six at hv
  rcases List.mem_append.mp hv with hv | hv
  · obtain ⟨k, -, rfl⟩ := List.mem_map.mp hv
    exact pn_ojo h _ _ h02
  · rcases List.mem_cons.mp hv with rfl | hv
    · exact pn_fjo h _ _ h02
    · obtain ⟨k, -, rfl⟩ := List.mem_map.mp hv
      exact pn_ojo h _ _ h02
theorem qn_sl (W : ai_W) : (qn_six W).length = 14 := by
  first | rfl | simp [qn_six]
noncomputable def qn_l (K : Nat) : List ai_O := iw_l (qn_all K)
def qn_b (K : Nat) : Bool := pf_b (ai_sr' (ai_T K) (ny_fr K)) && Nat.ble (((pn_as (pk_np K)).map ai_cat).sum) (ai_T K).2.2.2.1
theorem qn_ba : px_r.all qn_b = true := by decide +kernel
theorem qn_met {K : Nat} (hK : K ∈ px_r) {n : Nat → Int} (hn : ai_gok (nv n) nv_G) (sb : ai_SB) (l : Launch) (D : va_G) (ws : va_W) (tys : List (ClassId × FieldType)) (xs : List Int32) (b sz : Nat) (hk : xs.length = pk_np K) (hb : (ws.map Prod.fst)[0]? = some b) (hws : ai_ws (nv n) sb tys ny_WN ws) : la_Mt (ai_sr' (ai_T K) (ny_fr K)) l D ws tys (.ref b :: xs.map .int) sz (fun z ws1 tys1 => ∃ n' : Nat → Int, (∃ o ∈ qn_l K, pa_S (26 + pk_np K) (px_m n xs) (px_E qn_six o) z.toInt n') ∧ (∀ t, 6 ≤ t → t < 18 → n' t = n t) ∧ ai_gok (nv n') nv_G ∧ ai_ws (nv n') sb tys1 ny_WN ws1) := by
  have hb1 := List.all_eq_true.mp qn_ba K hK
  unfold qn_b at hb1
  rw [Bool.and_eq_true] at hb1
  obtain ⟨f1, -, -⟩ := pf_bo hb1.1 rfl
  have hkd : ¬ (ai_T K).2.2.2.2.2.2.2 = 3 := by
    rw [show (ai_T K).2.2.2.2.2.2.2 = 0 from f1.2.1]
    decide
  have key : ∃ outs, qn_all K = some outs ∧ (∀ o ∈ outs, pn_ec ny_WN (px_cv qn_six o) o = true) ∧ ai_cs (ai_sr' (ai_T K) (ny_fr K)) 0 sb (pn_G (pk_np K)) (pn_as (pk_np K)) ny_WN outs := by
    unfold qn_all
    cases hw : pw_r.contains K with
    | true =>
      rw [cond_true]
      obtain ⟨outs, h1, h2⟩ := iw_all_ok (List.all_eq_true.mp qw_k K (List.contains_iff_mem.mp hw))
      refine ⟨outs, h1, h2, ?_⟩
      unfold qw_run at h1
      rw [af_ex_eq] at h1
      exact ai_run_cs (T := ai_Tr ai_T ny_fr) (sb := sb) ai_clok_ok (fun M q => ⟨ai_codeok_sr (ai_hB M q).1, (ai_hB M q).2⟩) (fun K hk => ai_hM K hk) (fun _ _ _ _ _ _ h => by cases h) hkd (Nat.le_of_ble_eq_true hb1.2) h1
    | false =>
      rw [cond_false]
      have hx : K ∈ pr_x := by
        rcases List.mem_append.mp (show K ∈ pr_x ++ pw_r from hK) with h | h
        · exact h
        · rw [List.contains_iff_mem.mpr h] at hw
          cases hw
      obtain ⟨outs, h1, h2⟩ := iw_all_ok (List.all_eq_true.mp qn_k K hx)
      refine ⟨outs, h1, h2, ?_⟩
      unfold qn_run at h1
      rw [af_ex_eq] at h1
      exact ai_run_cs (T := ai_Tr ai_T ny_fr) (sb := sb) ai_clok_ok (fun M q => ⟨ai_codeok_sr (ai_hB M q).1, (ai_hB M q).2⟩) (fun K hk => ai_hM K hk) (fun K G as aw rm outs hh => ct_hr ny_hf (nl_75 (sb := sb)) K G as aw rm outs hh) hkd (Nat.le_of_ble_eq_true hb1.2) h1
  obtain ⟨outs, h1, h2, hc⟩ := key
  have e1 : qn_l K = outs := by
    unfold qn_l
    rw [h1]
    rfl
  rw [e1]
  exact px_of (six := qn_six) qn_sl qn_six_ok hc h2 hn l D ws tys xs b sz hk hb hws
/-! both sides' ends, two by two -/
def px_l : List (Nat × Nat) := [(343, 117), (307, 39), (309, 42), (322, 63), (315, 48), (342, 114), (360, 153), (313, 47), (351, 143), (354, 146)]
noncomputable def px_ok (q : Nat × Nat) : Bool := pk_np q.1 == pk_np q.2 && (match pn_all q.1, qn_all q.2 with
  | some o, some o' => o.all fun a => o'.all fun b => pa_ok (26 + pk_np q.1) (px_E pn_six a) (px_E qn_six b)
  | _, _ => false)
set_option maxRecDepth 100000 in
theorem px_all : px_l.all px_ok = true := by decide +kernel
theorem px_same {q : Nat × Nat} (hq : q ∈ px_l) {m : Nat → Int} {y z : Int} {n n' : Nat → Int} (h1 : ∃ o ∈ pn_l q.1, pa_S (26 + pk_np q.1) m (px_E pn_six o) y n) (h2 : ∃ o ∈ qn_l q.2, pa_S (26 + pk_np q.2) m (px_E qn_six o) z n') : y = z ∧ ∀ t, t < 26 → n t = n' t := by
  have h := List.all_eq_true.mp px_all q hq
  unfold px_ok at h
  rw [Bool.and_eq_true, beq_iff_eq] at h
  obtain ⟨e, h⟩ := h
  obtain ⟨o1, ho1, s1⟩ := h1
  obtain ⟨o2, ho2, s2⟩ := h2
  rw [← e] at s2
  unfold pn_l at ho1
  unfold qn_l at ho2
  split at h
  · rename_i a b ha hb
    rw [ha] at ho1
    rw [hb] at ho2
    have g := List.all_eq_true.mp (List.all_eq_true.mp h o1 ho1) o2 ho2
    obtain ⟨k1, k2⟩ := pa_ok_ok g s1 s2
    refine ⟨k1, fun t ht => ?_⟩
    have hl : ((px_E pn_six o1).2.2).length = 26 := (px_ct pn_sl o1).1
    exact k2 t _ (List.getElem?_eq_getElem (by omega))
  · cases h
theorem nv_cg {n n' : Nat → Int} (h : ∀ t, t < 26 → n t = n' t) : nv n = nv n' := by
  funext t
  unfold nv
  by_cases h26 : t < 26
  · rw [if_pos h26, if_pos h26, h t h26]
  · rw [if_neg h26, if_neg h26]
