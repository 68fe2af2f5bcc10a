/-! ===== contracts by rank ===== -/
def ct_ok (ctf : Nat → ai_Ct) (ctk : Nat → Nat) (sb : ai_SB) (i : Nat) : Prop := ∃ outs0, ai_cs (ai_sr' (ai_T (ctk i)) (ctf i).2.2.2.2.2.2) 0 sb (ctf i).2.1 (ctf i).2.2.1 (ctf i).2.2.2.1 outs0 ∧ outs0.all (ai_ce (ctf i).2.1.length (ctf i).2.2.2.2.1 (ctf i).2.2.2.2.2.1) = true
theorem ct_hr {fnd : Nat → List ai_V → Option Nat} {ctf : Nat → ai_Ct} {ctk : Nat → Nat} {sb : ai_SB} {r : Nat} (hf : ∀ K as i, fnd K as = some i → K = ctk i) (hr : ∀ i, i < r → ct_ok ctf ctk sb i) : ∀ K G as aw rm outs, ai_hr fnd ctf r K G as aw = some (rm, outs) → ai_cs (ai_sr' (ai_T K) rm) 0 sb G as aw outs := by
  intro K G as aw rm outs h
  unfold ai_hr at h
  split at h
  · rename_i i hi
    cases hb : Nat.blt i r with
    | false => rw [hb, cond_false] at h; cases h
    | true =>
      rw [hb, cond_true] at h
      obtain ⟨outs0, h1, h2⟩ := hr i (Nat.le_of_ble_eq_true hb)
      obtain ⟨e1, e2⟩ := ai_use_ok (by decide) h1 h2 h
      dsimp only at e1 e2
      rw [hf K as i hi, e1]
      exact e2
  · cases h
theorem ct_step {fnd : Nat → List ai_V → Option Nat} {ctf : Nat → ai_Ct} {ctk : Nat → Nat} {N : ai_Ns} {sb : ai_SB} {n i : Nat} (f : Nat → Room) (hf : ∀ K as i, fnd K as = some i → K = ctk i) (hr : ∀ j, j < i → ct_ok ctf ctk sb j) (hrm : f (ctk i) = (ctf i).2.2.2.2.2.2) (hkd : ¬ (ai_T (ctk i)).2.2.2.2.2.2.2 = 3) (hsum : ((ctf i).2.2.1.map ai_cat).sum ≤ (ai_T (ctk i)).2.2.2.1) (h : ai_shows fnd ctf ctk N ai_T ai_B1 n i f = true) : ct_ok ctf ctk sb i := by
  unfold ai_shows at h
  rw [af_ex_eq] at h
  split at h
  · rename_i outs ho
    refine ⟨outs, ?_, h⟩
    have := ai_run_cs (T := ai_Tr ai_T f) (sb := sb) ai_clok_ok (fun M q => ⟨ai_codeok_sr (ai_hB M q).1, (ai_hB M q).2⟩) (fun K hk => ai_hM K hk) (fun K G as aw rm outs hh => ct_hr hf hr K G as aw rm outs hh) hkd hsum ho
    rw [← hrm]
    exact this
  · cases h
theorem ct_more {ctf : Nat → ai_Ct} {ctk : Nat → Nat} {sb : ai_SB} {i : Nat} (h : ∀ j, j < i → ct_ok ctf ctk sb j) (hi : ct_ok ctf ctk sb i) : ∀ j, j < i + 1 → ct_ok ctf ctk sb j := fun j hj => by
  by_cases e : j = i
  · rw [e]; exact hi
  · exact h j (by omega)
