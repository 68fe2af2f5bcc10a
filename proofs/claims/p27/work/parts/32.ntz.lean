/-! ===== Integer.numberOfTrailingZeros of 1 to 127: the walk at each number ===== -/
def nt_q : ai_G := zz_q0 ++ [(1, 127, 0)]
noncomputable def nt_run (k : Nat) : Option (List ai_O) := af_ex (ai_Tr ai_T (zz_fr zz_bo)) ai_B1 (fun _ _ _ _ => none) (fun _ _ => none, fun _ _ => none, fun _ => none) 0 200 10 [] (ai_B1 10 0) nt_q (ai_arg 0 [ai_lI ((k : Int) + 1)], [], zz_W0, 0, 0)
def nt_end (o : ai_O) : Bool := (match o.2.2.2.1 with
  | [v] => v.1 == 0 && (decide (0 ≤ v.2.2.1) && decide (v.2.2.2 ≤ 6))
  | _ => false) && ai_all2 (ai_sbc o.2.1 42 []) o.2.2.2.2.1 zz_W0
noncomputable def nt_chk (k : Nat) : Bool := match nt_run k with
  | some outs => outs.all nt_end
  | none => false
set_option maxRecDepth 100000 in
theorem nt_all : (List.range 127).all nt_chk = true := by decide +kernel
def nt_o : ai_O := (0, nt_q ++ [(0, 6, 0)], [], [(2, 42, 0, 1)], zz_W0, 0, 0)
theorem nt_ok (sb : ai_SB) : ct_ok zz_ctf zz_ctk sb 0 := by
  refine ⟨[nt_o], ?_, by decide +kernel⟩
  show ai_cs (ai_sr' (ai_T 10) zc_0.2.2.2.2.2.2) 0 sb nt_q [(2, 41, 0, 1)] zz_W0 [nt_o]
  intro ρ l D ws tys vs sz hrb hG has hws
  obtain ⟨v, r, rfl, ⟨x, z, rfl, hz, hx⟩, hn⟩ := has.cons
  have hr : r = [] := hn.nil
  subst hr
  obtain ⟨q, hq, b1, b2, -⟩ := hG.get hz
  have hq' : nt_q[41]? = some (1, 127, 0) := rfl
  rw [hq'] at hq
  cases hq
  dsimp only at b1 b2
  have hc := List.all_eq_true.mp nt_all (z.toNat - 1) (List.mem_range.mpr (by omega))
  unfold nt_chk at hc
  split at hc
  · rename_i outs ho
    unfold nt_run at ho
    rw [af_ex_eq] at ho
    have hM := ai_run_cs (T := ai_Tr ai_T (zz_fr zz_bo)) (sb := sb) ai_clok_ok (fun M q => ⟨ai_codeok_sr (ai_hB M q).1, (ai_hB M q).2⟩) (fun K hk => ai_hM K hk) (fun _ _ _ _ _ _ h => by cases h) (by decide +kernel) (Nat.le_of_ble_eq_true rfl) ho ρ l D ws tys [.int x] sz hrb hG ⟨⟨x, rfl, by omega, by omega⟩, trivial⟩ hws
    refine MetFree.mono hM (fun _ _ h => h) (fun _ _ _ _ _ h => h) (fun a st oc t hP hQ => ⟨?_, hQ.2⟩)
    obtain ⟨⟨o, ho', σ, d1, d2, rv, ws1, tys1, y, f1, f2, f3, f4, f5, f6, f7⟩, hFr⟩ := hQ.1
    have he := List.all_eq_true.mp hc o ho'
    unfold nt_end at he
    rw [Bool.and_eq_true] at he
    have he1 := he.1
    split at he1
    · rename_i w hw
      simp only [Bool.and_eq_true, beq_iff_eq, decide_eq_true_eq] at he1
      rw [hw] at f3
      obtain ⟨u, r, hrv, mu, hn2⟩ := f3.cons
      rw [hn2.nil] at hrv
      obtain ⟨n0, t0, l0, h0⟩ := w
      obtain ⟨g1, g2, g3⟩ := he1
      dsimp only at g1 g2 g3
      subst g1
      obtain ⟨yv, rfl, y1, y2⟩ := mu
      have hle := ai_more_le hG yv.toInt
      have hlen : nt_q.length = 42 := rfl
      have hW : ai_ws (ai_more ρ nt_q.length yv.toInt) sb tys1 zz_W0 ws1 := ai_sbw_ok (nG := 42) (cvs := []) (us := []) d2 (fun t z ht hz => by
        obtain ⟨z0, e0, -⟩ := hG.at (List.getElem?_eq_getElem (show t < nt_q.length by rw [hlen]; exact ht))
        have e1 := d1 _ _ e0
        rw [hz] at e1
        cases e1
        exact hle _ _ e0) trivial (fun j u hj => by simp at hj) he.2 f7
      exact ⟨⟨nt_o, List.mem_cons_self, ai_more ρ nt_q.length yv.toInt, hle, ai_more_ok (q := (0, 6, 0)) hG (by dsimp only; omega) (by dsimp only; omega) (ai_kp0 rfl), rv, ws1, tys1, y, f1, f2, by rw [hrv]; exact ⟨⟨yv, yv.toInt, rfl, ai_more_at, by omega⟩, trivial⟩, f4, f5, f6, hW⟩, hFr⟩
    · cases he1
  · cases hc
