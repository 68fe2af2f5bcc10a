/-! ===== the bridge: a contract in whole numbers is one of the walk ===== -/
theorem bg_cs {K : Nat} {t : hs_T} {sb : ai_SB} {G : ai_G} {as : List ai_V} {aw : ai_W} {outs : List ai_O} (hc : hs_C hs_sh K t) (h0 : (ai_T K).2.2.2.2.2.2.1.cells = 0) (h1 : (ai_T K).2.2.2.2.2.2.1.slots = 0) (H : ∀ (ρ : ai_Rh) (tys : List (ClassId × FieldType)) (ws : va_W) (vs : List Value), ai_gok ρ G → ai_F2 (ai_mt ρ sb (ws.map Prod.fst)) as vs → ai_ws ρ sb tys aw ws → ∃ (ah : List hs_V) (S : hs_S) (post : hs_Q), t ah S post ∧ ai_F2 (hs_vm (ws.map Prod.fst)) ah vs ∧ hs_ok sb.2 hs_sh tys S ws ∧ ∀ (ro : List hs_V) (S1 : hs_S) (rv : Option Value) (ws1 : va_W) (tys1 : List (ClassId × FieldType)), ws1.map Prod.fst = ws.map Prod.fst → ai_F2 (hs_vm (ws1.map Prod.fst)) ro rv.toList → hs_ok sb.2 hs_sh tys1 S1 ws1 → post ro S1 → ∃ o ∈ outs, ∃ σ, ai_le ρ σ ∧ ai_gok σ o.2.1 ∧ ai_F2 (ai_mt σ sb (ws1.map Prod.fst)) o.2.2.2.1 rv.toList ∧ ai_ws σ sb tys1 o.2.2.2.2.1 ws1) : ai_cs (ai_T K) 0 sb G as aw outs := by
  intro ρ l D ws tys vs sz hrb hG has hws
  obtain ⟨ah, S, post, ht, h2, h3, h4⟩ := H ρ tys ws vs hG has hws
  have M := hc sb l D ws tys vs sz ah S post ht h2 h3
  rw [h0, h1]
  refine MetFree.mono M (fun _ _ h => h) (fun _ _ _ _ _ h => h) (fun a st oc t' hP hQ => ⟨?_, hQ.2⟩)
  obtain ⟨⟨ro, S1, rv, ws1, tys1, f1, f2, f3, f4, f5, f6, f7, f8⟩, hFr⟩ := hQ.1
  obtain ⟨o, ho, σ, g1, g2, g3, g4⟩ := h4 ro S1 rv ws1 tys1 f2 f3 f7 f8
  exact ⟨⟨o, ho, σ, g1, g2, rv, ws1, tys1, [], f1, by rw [f2, List.append_nil], g3, f4, f5, f6, g4⟩, hFr⟩
