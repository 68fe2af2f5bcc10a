/-! ===== counts: the reference's calls ===== -/
def pr_x : List Nat := [117, 39, 42, 63, 48, 114]
def prn_ok (q : Nat × Nat) : Bool := pr_x.contains q.1 || la_chkN (ny_ctf q.2) (pk_np q.1) ny_WN ny_WN
set_option maxRecDepth 100000 in
theorem prn_all : pr_l.all prn_ok = true := by decide +kernel
def pb_ok (ctf : Nat → ai_Ct) (ctk : Nat → Nat) (N : Nat) (q : Nat × Nat) : Bool := ctk q.2 == q.1 && (Nat.blt q.2 N && pf_b (ai_sr' (ai_T q.1) (ctf q.2).2.2.2.2.2.2))
theorem pb_c : pc_l.all (pb_ok zz_ctf zz_ctk 226) = true := by decide +kernel
theorem pb_r : pr_l.all (pb_ok ny_ctf ny_ctk 75) = true := by decide +kernel
/-- one that keeps the counts, of the class -/
theorem pb_cm {q : Nat × Nat} (hq : q ∈ pc_l) (hx : pc_x.contains q.1 = false) : (pf_ok (ai_sr' (ai_T q.1) (zz_ctf q.2).2.2.2.2.2.2) (pk_np q.1) ∧ (ai_sr' (ai_T q.1) (zz_ctf q.2).2.2.2.2.2.2).2.2.2.2.2.2.1.cells = 0 ∧ (ai_sr' (ai_T q.1) (zz_ctf q.2).2.2.2.2.2.2).2.2.2.2.2.2.1.slots = 0) ∧ la_CN (ai_sr' (ai_T q.1) (zz_ctf q.2).2.2.2.2.2.2) (pk_np q.1) zz_WN zz_WN := by
  have h1 := List.all_eq_true.mp pb_c q hq
  unfold pb_ok at h1
  simp only [Bool.and_eq_true, beq_iff_eq] at h1
  obtain ⟨e1, e2, e3⟩ := h1
  have h2 := List.all_eq_true.mp pcn_all q hq
  unfold pcn_ok at h2
  rw [hx, Bool.false_or] at h2
  have h3 := la_ctN (i := q.2) (fun sb => zl_226 (zz_op sb) q.2 (Nat.le_of_ble_eq_true e2)) h2
  rw [e1] at h3
  exact ⟨pf_bo e3 rfl, h3⟩
/-- one that keeps the counts, of the reference -/
theorem pb_rm {q : Nat × Nat} (hq : q ∈ pr_l) (hx : pr_x.contains q.1 = false) : (pf_ok (ai_sr' (ai_T q.1) (ny_ctf q.2).2.2.2.2.2.2) (pk_np q.1) ∧ (ai_sr' (ai_T q.1) (ny_ctf q.2).2.2.2.2.2.2).2.2.2.2.2.2.1.cells = 0 ∧ (ai_sr' (ai_T q.1) (ny_ctf q.2).2.2.2.2.2.2).2.2.2.2.2.2.1.slots = 0) ∧ la_CN (ai_sr' (ai_T q.1) (ny_ctf q.2).2.2.2.2.2.2) (pk_np q.1) ny_WN ny_WN := by
  have h1 := List.all_eq_true.mp pb_r q hq
  unfold pb_ok at h1
  simp only [Bool.and_eq_true, beq_iff_eq] at h1
  obtain ⟨e1, e2, e3⟩ := h1
  have h2 := List.all_eq_true.mp prn_all q hq
  unfold prn_ok at h2
  rw [hx, Bool.false_or] at h2
  have h3 := la_ctN (i := q.2) (fun sb => nl_75 (sb := sb) q.2 (Nat.le_of_ble_eq_true e2)) h2
  rw [e1] at h3
  exact ⟨pf_bo e3 rfl, h3⟩
/-! the reference's six -/
noncomputable def qn_run (K : Nat) : Option (List ai_O) := af_ex (ai_Tr ai_T ny_fr) ai_B1 (ai_hr ny_fnd ny_ctf 75) ny_N 0 20000 K [] (ai_B1 K 0) (pn_G (pk_np K)) (ai_arg 0 (pn_as (pk_np K)), [], ny_WN, 0, 0)
def qn_fd (W : ai_W) (p : Nat) : ai_V := match W[(1 : Nat)]? with
  | some (.inr (0, n, d, ov)) => bif Nat.blt p n then ai_look d ov p else (5, 0, 0, 0)
  | _ => (5, 0, 0, 0)
def qn_six (W : ai_W) : List ai_V := [0, 3, 4, 5, 6, 7].map (qn_fd W)
set_option maxRecDepth 100000 in
theorem qn_k : pr_x.all (fun K => iw_all (qn_run K) fun o => pn_ec ny_WN (px_cv qn_six o) o) = true := by decide +kernel
theorem qn_six_ok (σ : ai_Rh) (sb : ai_SB) (tys : List (ClassId × FieldType)) (ws : va_W) (W : ai_W) (h : ai_ws σ sb tys W ws) : ∀ v ∈ qn_six W, (v.1 = 0 ∨ v.1 = 2) → ∃ u, ai_mt σ sb (ws.map Prod.fst) v u := by
  intro v hv h02
  unfold qn_six at hv
  obtain ⟨k, -, rfl⟩ := List.mem_map.mp hv
  unfold qn_fd at h02 ⊢
  split
  · rename_i n d ov hk
    rw [hk] at h02
    change (bif Nat.blt k n then ai_look d ov k else ((5, 0, 0, 0) : ai_V)).1 = 0 ∨ (bif Nat.blt k n then ai_look d ov k else ((5, 0, 0, 0) : ai_V)).1 = 2 at h02
    obtain ⟨q, -, cA, f, t0, -, -, g, -⟩ := h.2 1 _ hk
    cases hb : Nat.blt k n with
    | true =>
      (try rw [hb] at h02)
      (try rw [hb])
      rw [cond_true] at h02 ⊢
      exact ⟨_, (g k (Nat.le_of_ble_eq_true hb)).to (by rcases h02 with h | h <;> rw [h] <;> decide)⟩
    | false =>
      (try rw [hb] at h02)
      rw [cond_false] at h02
      rcases h02 with h | h <;> cases h
  · rename_i hno
    exfalso
    split at h02
    · rename_i n d ov hk
      exact hno _ _ _ hk
    · rcases h02 with h | h <;> cases h
noncomputable def qn_l (K : Nat) : List ai_O := iw_l (qn_run K)
def qn_b (K : Nat) : Bool := pf_b (ai_sr' (ai_T K) (ny_fr K)) && Nat.ble (((pn_as (pk_np K)).map ai_cat).sum) (ai_T K).2.2.2.1
theorem qn_ba : pr_x.all qn_b = true := by decide +kernel
theorem qn_met {K : Nat} (hK : K ∈ pr_x) {n : Nat → Int} (hn : ai_gok (nv n) nv_G) (sb : ai_SB) (l : Launch) (D : va_G) (ws : va_W) (tys : List (ClassId × FieldType)) (xs : List Int32) (b sz : Nat) (hk : xs.length = pk_np K) (hb : (ws.map Prod.fst)[0]? = some b) (hws : ai_ws (nv n) sb tys ny_WN ws) : la_Mt (ai_sr' (ai_T K) (ny_fr K)) l D ws tys (.ref b :: xs.map .int) sz (fun z ws1 tys1 => ∃ n' : Nat → Int, (∃ o ∈ qn_l K, pa_S (18 + pk_np K) (px_m n xs) (px_E qn_six o) z.toInt n') ∧ (∀ t, 6 ≤ t → t < 18 → n' t = n t) ∧ ai_gok (nv n') nv_G ∧ ai_ws (nv n') sb tys1 ny_WN ws1) := by
  have hb1 := List.all_eq_true.mp qn_ba K hK
  unfold qn_b at hb1
  rw [Bool.and_eq_true] at hb1
  obtain ⟨f1, -, -⟩ := pf_bo hb1.1 rfl
  obtain ⟨outs, h1, h2⟩ := iw_all_ok (List.all_eq_true.mp qn_k K hK)
  have e1 : qn_l K = outs := by
    unfold qn_l
    rw [h1]
    rfl
  rw [e1]
  unfold qn_run at h1
  rw [af_ex_eq] at h1
  have hc := ai_run_cs (T := ai_Tr ai_T ny_fr) (sb := sb) ai_clok_ok (fun M q => ⟨ai_codeok_sr (ai_hB M q).1, (ai_hB M q).2⟩) (fun K hk => ai_hM K hk) (fun K G as aw rm outs hh => ct_hr ny_hf (nl_75 (sb := sb)) K G as aw rm outs hh) (show ¬ (ai_T K).2.2.2.2.2.2.2 = 3 from by rw [show (ai_T K).2.2.2.2.2.2.2 = 0 from f1.2.1]; decide) (Nat.le_of_ble_eq_true hb1.2) h1
  exact px_of (six := qn_six) (fun W => by unfold qn_six; rw [List.length_map]; rfl) qn_six_ok hc h2 hn l D ws tys xs b sz hk hb hws
/-! both sides' ends, two by two -/
def px_l : List (Nat × Nat) := [(343, 117), (307, 39), (309, 42), (322, 63), (315, 48), (342, 114)]
noncomputable def px_ok (q : Nat × Nat) : Bool := pk_np q.1 == pk_np q.2 && (match pn_run q.1, qn_run q.2 with
  | some o, some o' => o.all fun a => o'.all fun b => pa_ok (18 + pk_np q.1) (px_E pn_six a) (px_E qn_six b)
  | _, _ => false)
set_option maxRecDepth 100000 in
theorem px_all : px_l.all px_ok = true := by decide +kernel
theorem px_same {q : Nat × Nat} (hq : q ∈ px_l) {m : Nat → Int} {y z : Int} {n n' : Nat → Int} (h1 : ∃ o ∈ pn_l q.1, pa_S (18 + pk_np q.1) m (px_E pn_six o) y n) (h2 : ∃ o ∈ qn_l q.2, pa_S (18 + pk_np q.2) m (px_E qn_six o) z n') : y = z ∧ ∀ t, t < 18 → n t = n' t := by
  have h := List.all_eq_true.mp px_all q hq
  unfold px_ok at h
  rw [Bool.and_eq_true, beq_iff_eq] at h
  obtain ⟨e, h⟩ := h
  obtain ⟨o1, ho1, s1⟩ := h1
  obtain ⟨o2, ho2, s2⟩ := h2
  rw [← e] at s2
  unfold pn_l at ho1
  unfold qn_l at ho2
  split at h
  · rename_i a b ha hb
    rw [ha] at ho1
    rw [hb] at ho2
    have g := List.all_eq_true.mp (List.all_eq_true.mp h o1 ho1) o2 ho2
    obtain ⟨k1, k2⟩ := pa_ok_ok g s1 s2
    refine ⟨k1, fun t ht => ?_⟩
    have hl : ((px_E pn_six o1).2.2).length = 18 := by
      show (px_cv pn_six o1).length = 18
      unfold px_cv px_t pn_six
      rw [List.length_append, List.length_map, List.length_map, List.length_range]
      rfl
    exact k2 t _ (List.getElem?_eq_getElem (by omega))
  · cases h
theorem nv_cg {n n' : Nat → Int} (h : ∀ t, t < 18 → n t = n' t) : nv n = nv n' := by
  funext t
  unfold nv
  by_cases h18 : t < 18
  · rw [if_pos h18, if_pos h18, h t h18]
  · rw [if_neg h18, if_neg h18]
