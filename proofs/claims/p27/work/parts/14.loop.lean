/-! ===== loops and ways that meet are as the machine goes ===== -/
def ai_rt (md : ai_MD) (o : ai_O) : Prop := (∃ ins, decode md.2.2.1 o.1 = .ok (ins, 1) ∧ ai_retB md ins o.2.1 o.2.2.2.1 = true) ∧ o.2.2.2.2.2.1 ≤ md.2.2.2.2.2.2.1.cells ∧ o.2.2.2.2.2.2 ≤ md.2.2.2.2.2.2.1.slots
section ASL
variable {p : Program} {l : Launch} {e : Env} {R : Room} {s : State} {m : MethodId} {args : Array Value} {below : List Frame} {meth : Method} {c : Code} {Q : State → Prop} {ρ ρb σ : ai_Rh} {sb : ai_SB} {D : va_G} {A : Nat → Prop} {nL : Nat} {ad : List Nat} {P : List ai_E → Prop} {md : ai_MD}
variable {f : ai_Fn} {an rg : Nat → Option ai_An} {B : Nat → List ai_E} {stops : List Nat} {code : List ai_E} {G : ai_G} {x : ai_S} {outs : List ai_O}
def ai_ms (dir : Nat) (qs : List (Int × Int × Nat)) (zs : List Int) : Nat := match qs, zs with
  | q :: _, z :: _ => bif dir == 0 then (q.2.1 - z).toNat else (z - q.1).toNat
  | _, _ => 0
theorem ai_lp_ok (hf : ∀ (stops : List Nat) (code : List ai_E) (G : ai_G) (x : ai_S) (outs : List ai_O), f stops code G x = some outs → P code → ∀ ρ, ai_le ρb ρ → ai_gok ρ G → (∀ o ∈ outs, (o.1 ∈ stops ∨ ai_rt md o) → ∀ σ, ai_le ρ σ → ai_gok σ o.2.1 → ai_K p l e R s m args below meth c Q σ sb D A nL ad o.1 o.2.2) → ∃ en rest, code = en :: rest ∧ ai_K p l e R s m args below meth c Q ρ sb D A nL ad en.1 x) (h : ai_lp f an stops code G x = some outs) (hP : P code) (hb : ai_le ρb ρ) (hG : ai_gok ρ G) (HO : ∀ o ∈ outs, (o.1 ∈ stops ∨ ai_rt md o) → ∀ σ, ai_le ρ σ → ai_gok σ o.2.1 → ai_K p l e R s m args below meth c Q σ sb D A nL ad o.1 o.2.2) : ∃ en rest, code = en :: rest ∧ ai_K p l e R s m args below meth c Q ρ sb D A nL ad en.1 x := by
  unfold ai_lp at h
  cases code with
  | nil => cases h
  | cons en r =>
    dsimp only at h
    cases ha : an en.1 with
    | none =>
      rw [ha] at h
      exact hf stops (en :: r) G x outs h hP ρ hb hG HO
    | some a =>
      rw [ha] at h
      dsimp only at h
      obtain ⟨iv, hiv, h1⟩ := ai_bd_ok h
      obtain ⟨cv0, hcv0, h2⟩ := ai_bd_ok h1
      obtain ⟨outs1, hrun, h3⟩ := ai_bd_ok h2
      obtain ⟨hall, h4⟩ := ai_gd_ok h3
      cases h4
      rw [List.all_eq_true] at hall
      refine ⟨en, r, rfl, ?_⟩
      have claim : ∀ (k : Nat) (zs : List Int), ai_F2 (fun (q : Int × Int × Nat) (z : Int) => q.1 ≤ z ∧ z ≤ q.2.1 ∧ q.2.2 = 0) a.2.2.1 zs → ai_ms a.1 a.2.2.1 zs < k → ai_K p l e R s m args below meth c Q (ai_mores ρ G.length zs) sb D A nL ad en.1 iv := by
        intro k
        induction k with
        | zero => intro zs _ h; omega
        | succ k ih =>
          intro zs hz hk
          obtain ⟨g1, g2, g3⟩ := ai_mores_le hG hz
          obtain ⟨en2, r2, e2, k2⟩ := hf (en.1 :: stops) (en :: r) (G ++ a.2.2.1) iv outs1 hrun hP _ (hb.tr g2) g1 (by
            intro o ho hor σ hσ hgσ
            by_cases eo : o.1 = en.1
            · have hback := hall o (List.mem_filter.mpr ⟨ho, by simpa using eo⟩)
              unfold ai_back at hback
              split at hback
              · rename_i cv cr hhd
                rw [eo]
                refine ai_hd_ok hG (g2.tr hσ) hgσ hhd (fun zs' hz' hrel => ih zs' hz' ?_)
                obtain ⟨z', zr', τ, rfl, hτ, hn, hn8⟩ := hrel cv cr rfl
                cases hq : a.2.2.1 with
                | nil => rw [hq] at hz'; exact hz'.elim
                | cons q qs =>
                rw [hq] at hz hz' hk
                obtain ⟨z, zr, rfl, b1, -⟩ := hz.cons
                have b2 := hz'.1
                have e3 := hτ _ _ (hσ _ _ (g3 0 z rfl))
                rw [Nat.add_zero] at e3
                have less : (a.1 == 0) = true ∧ z + 1 ≤ z' ∨ (a.1 == 0) = false ∧ z' + 1 ≤ z := by
                  rw [Bool.or_eq_true] at hback
                  rcases hback with hback | hback
                  · unfold ai_prog at hback
                    simp only [Bool.and_eq_true, Bool.or_eq_true, beq_iff_eq, decide_eq_true_eq] at hback
                    obtain ⟨p1, p2, p3, p4⟩ := hback
                    obtain ⟨z1, e1, e2⟩ := hn p1
                    rw [p2] at e1
                    cases e1.symm.trans e3
                    rw [p3, Int.one_mul] at e2
                    cases hd : (a.1 == 0) with
                    | true =>
                      rw [hd] at p4
                      simp only [cond_true, decide_eq_true_eq] at p4
                      exact Or.inl ⟨rfl, by omega⟩
                    | false =>
                      rw [hd] at p4
                      simp only [cond_false, decide_eq_true_eq] at p4
                      exact Or.inr ⟨rfl, by omega⟩
                  · split at hback
                    · rename_i w hw
                      have h89 := hn8 w hw
                      unfold ai_prog8 at hback
                      simp only [Bool.and_eq_true, Bool.or_eq_true, Bool.not_eq_true', beq_iff_eq, decide_eq_true_eq] at hback
                      obtain ⟨p2, ⟨p1, p4, p3⟩ | ⟨p1, p4, p3⟩⟩ := hback
                      · obtain ⟨z1, e1, e2⟩ := h89.1 p1
                        rw [p2] at e1
                        cases e1.symm.trans e3
                        exact Or.inr ⟨p4, by omega⟩
                      · obtain ⟨z1, e1, e2⟩ := h89.2 p1
                        rw [p2] at e1
                        cases e1.symm.trans e3
                        exact Or.inl ⟨by rw [p4]; rfl, by omega⟩
                    · cases hback
                unfold ai_ms at hk ⊢
                dsimp only at hk ⊢
                rcases less with ⟨hd, hl⟩ | ⟨hd, hl⟩
                · rw [hd] at hk ⊢
                  simp only [cond_true] at hk ⊢
                  omega
                · rw [hd] at hk ⊢
                  simp only [cond_false] at hk ⊢
                  omega
              · cases hback
            · refine HO o (List.mem_filter.mpr ⟨ho, by simpa using eo⟩) ?_ σ (g2.tr hσ) hgσ
              rcases hor with h | h
              · rcases List.mem_cons.mp h with h | h
                · exact absurd h eo
                · exact Or.inl h
              · exact Or.inr h)
          cases e2
          exact k2
      exact ai_hd_ok hG ai_le.rf hG hcv0 (fun zs hz _ => claim _ zs hz (Nat.lt_succ_self _))
theorem ai_to_ok (hf : ∀ (stops : List Nat) (code : List ai_E) (G : ai_G) (x : ai_S) (outs : List ai_O), f stops code G x = some outs → P code → ∀ ρ, ai_le ρb ρ → ai_gok ρ G → (∀ o ∈ outs, (o.1 ∈ stops ∨ ai_rt md o) → ∀ σ, ai_le ρ σ → ai_gok σ o.2.1 → ai_K p l e R s m args below meth c Q σ sb D A nL ad o.1 o.2.2) → ∃ en rest, code = en :: rest ∧ ai_K p l e R s m args below meth c Q ρ sb D A nL ad en.1 x) (hB : ∀ q, P (B q) ∧ ∀ en r, B q = en :: r → en.1 = q) (h : ai_to f B an rg stops code G x = some outs) (hP : P code) (hb : ai_le ρb ρ) (hG : ai_gok ρ G) (HO : ∀ o ∈ outs, (o.1 ∈ stops ∨ ai_rt md o) → ∀ σ, ai_le ρ σ → ai_gok σ o.2.1 → ai_K p l e R s m args below meth c Q σ sb D A nL ad o.1 o.2.2) : ∃ en rest, code = en :: rest ∧ ai_K p l e R s m args below meth c Q ρ sb D A nL ad en.1 x := by
  unfold ai_to at h
  cases code with
  | nil => cases h
  | cons en r =>
    dsimp only at h
    cases hs : stops.contains en.1 with
    | true =>
      rw [hs] at h
      cases h
      exact ⟨en, r, rfl, HO _ List.mem_cons_self (Or.inl (by simpa using hs)) ρ ai_le.rf hG⟩
    | false =>
      rw [hs, cond_false] at h
      cases ha : rg en.1 with
      | none =>
        rw [ha] at h
        exact ai_lp_ok hf h hP hb hG HO
      | some a =>
        rw [ha] at h
        dsimp only at h
        obtain ⟨j, hj, h1⟩ := ai_bd_ok h
        obtain ⟨outs1, hrun, h2⟩ := ai_bd_ok h1
        obtain ⟨hall, h3⟩ := ai_gd_ok h2
        obtain ⟨o1, o2, e1, h4, rfl⟩ := ai_join_ok h3
        cases e1
        rw [List.all_eq_true] at hall
        refine ai_lp_ok hf hrun hP hb hG (fun o ho hor σ hσ hgσ => ?_)
        by_cases eo : o.1 = a.1
        · have hh := hall o (List.mem_filter.mpr ⟨ho, by simpa using eo⟩)
          obtain ⟨cvs, hhd⟩ := Option.isSome_iff_exists.mp hh
          rw [eo]
          refine ai_hd_ok hG hσ hgσ hhd (fun zs hz _ => ?_)
          obtain ⟨g1, g2, g3⟩ := ai_mores_le hG hz
          cases hsa : stops.contains a.1 with
          | true =>
            rw [hsa] at h4
            cases h4
            exact HO (a.1, G ++ a.2.2.1, j) (List.mem_append_right _ List.mem_cons_self) (Or.inl (by simpa using hsa)) _ g2 g1
          | false =>
            rw [hsa, cond_false] at h4
            obtain ⟨en2, r2, q2, k2⟩ := ai_lp_ok hf h4 (hB a.1).1 (hb.tr g2) g1 (fun o ho hor σ hσ hgσ => HO o (List.mem_append_right _ ho) hor σ (g2.tr hσ) hgσ)
            rw [(hB a.1).2 en2 r2 q2] at k2
            exact k2
        · refine HO o (List.mem_append_left _ (List.mem_filter.mpr ⟨ho, by simpa using eo⟩)) ?_ σ hσ hgσ
          rcases hor with h | h
          · rcases List.mem_cons.mp h with h | h
            · exact absurd h eo
            · exact Or.inl h
          · exact Or.inr h
end ASL
