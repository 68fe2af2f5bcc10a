section ASW
variable {p : Program} {l : Launch} {e : Env} {R : Room} {s : State} {m : MethodId} {args : Array Value} {below : List Frame} {meth : Method} {c : Code} {H : Heap} {locs : List Loc} {cs ss : Nat} {Q : State → Prop} {pc : Nat} {ls : Array Slot} {stk : List Value} {cc : ByteArray}
theorem ai_z32 : (0 : Int32).toInt = 0 := rfl
theorem ai_if {q : Jvm.ClassFile.Cond} {off : Int} {tgt : Nat} {y : Int32} (hx : p.tables.exec = Jvm.exec) (hb : c.code = cc) (hd : decode cc pc = .ok (.ifCond q off, 3)) (ht : (pc : Int) + off = (tgt : Int)) (kt : ai_cP (ai_op q) y.toInt 0 → W p l e R s m args below meth c H locs cs ss Q (F0 m tgt ls stk)) (kf : ¬ ai_cP (ai_op q) y.toInt 0 → W p l e R s m args below meth c H locs cs ss Q (F0 m (pc + 3) ls stk)) : W p l e R s m args below meth c H locs cs ss Q (F0 m pc ls (.int y :: stk)) := by
  have ez := ai_z32
  cases q with
  | eq => exact lv_if_eq hx hb hd ht (fun h => kt (by subst h; rfl)) (fun h => kf (fun g => h (Int32.toInt_inj.mp g)))
  | ne => exact lv_if_ne hx hb hd ht (fun h => kt (fun g => h (Int32.toInt_inj.mp g))) (fun h => kf (fun g => g (by subst h; rfl)))
  | lt => exact lv_if_lt hx hb hd ht (fun h => kt (Int32.lt_iff_toInt_lt.mp h)) (fun h => kf (fun g => h (Int32.lt_iff_toInt_lt.mpr g)))
  | ge => exact lv_if_ge hx hb hd ht (fun h => kt (by have := Int32.le_iff_toInt_le.mp h; simp only [ai_op, ai_cP]; omega)) (fun h => kf (fun g => h (Int32.le_iff_toInt_le.mpr (by simp only [ai_op, ai_cP] at g; omega))))
  | gt => exact lv_if_gt hx hb hd ht (fun h => kt (Int32.lt_iff_toInt_lt.mp h)) (fun h => kf (fun g => h (Int32.lt_iff_toInt_lt.mpr g)))
  | le => exact lv_if_le hx hb hd ht (fun h => kt (by have := Int32.le_iff_toInt_le.mp h; simp only [ai_op, ai_cP]; omega)) (fun h => kf (fun g => h (Int32.le_iff_toInt_le.mpr (by simp only [ai_op, ai_cP] at g; omega))))
theorem ai_icmp {q : Jvm.ClassFile.Cond} {off : Int} {tgt : Nat} {y z : Int32} (hx : p.tables.exec = Jvm.exec) (hb : c.code = cc) (hd : decode cc pc = .ok (.if_icmp q off, 3)) (ht : (pc : Int) + off = (tgt : Int)) (kt : ai_cP (ai_op q) z.toInt y.toInt → W p l e R s m args below meth c H locs cs ss Q (F0 m tgt ls stk)) (kf : ¬ ai_cP (ai_op q) z.toInt y.toInt → W p l e R s m args below meth c H locs cs ss Q (F0 m (pc + 3) ls stk)) : W p l e R s m args below meth c H locs cs ss Q (F0 m pc ls (.int y :: .int z :: stk)) := by
  cases q with
  | eq => exact lv_icmp_eq hx hb hd ht (fun h => kt (by subst h; rfl)) (fun h => kf (fun g => h (Int32.toInt_inj.mp g)))
  | ne => exact lv_icmp_ne hx hb hd ht (fun h => kt (fun g => h (Int32.toInt_inj.mp g))) (fun h => kf (fun g => g (by subst h; rfl)))
  | lt => exact lv_icmp_lt hx hb hd ht (fun h => kt (Int32.lt_iff_toInt_lt.mp h)) (fun h => kf (fun g => h (Int32.lt_iff_toInt_lt.mpr g)))
  | ge => exact lv_icmp_ge hx hb hd ht (fun h => kt (by have := Int32.le_iff_toInt_le.mp h; simp only [ai_op, ai_cP]; omega)) (fun h => kf (fun g => h (Int32.le_iff_toInt_le.mpr (by simp only [ai_op, ai_cP] at g; omega))))
  | gt => exact lv_icmp_gt hx hb hd ht (fun h => kt (Int32.lt_iff_toInt_lt.mp h)) (fun h => kf (fun g => h (Int32.lt_iff_toInt_lt.mpr g)))
  | le => exact lv_icmp_le hx hb hd ht (fun h => kt (by have := Int32.le_iff_toInt_le.mp h; simp only [ai_op, ai_cP]; omega)) (fun h => kf (fun g => h (Int32.le_iff_toInt_le.mpr (by simp only [ai_op, ai_cP] at g; omega))))
theorem ai_lgc {q : Jvm.ClassFile.Cond} {y z : Int64} : ai_cP (ai_op q) (lg_cmp z y).toInt 0 ↔ ai_cP (ai_op q) z.toInt y.toInt := by
  have ez := ai_z32
  have h0 : ((lg_cmp z y).toInt = 0) ↔ z.toInt = y.toInt := by rw [← ez, Int32.toInt_inj, lg_cmp_eq, ← Int64.toInt_inj]
  have h1 : ((lg_cmp z y).toInt < 0) ↔ z.toInt < y.toInt := by rw [← ez, ← Int32.lt_iff_toInt_lt, lg_cmp_lt, Int64.lt_iff_toInt_lt]
  have h2 : (0 < (lg_cmp z y).toInt) ↔ y.toInt < z.toInt := by rw [← ez, ← Int32.lt_iff_toInt_lt, lg_cmp_gt, Int64.lt_iff_toInt_lt]
  cases q <;> simp only [ai_op, ai_cP, h0, h1, h2]
end ASW
theorem ai_rtake {α : Type} {l r : List α} {a : α} {n : Nat} (h : l.drop n = a :: r) : (l.take (n + 1)).reverse = a :: (l.take n).reverse ∧ l.drop (n + 1) = r ∧ l = l.take n ++ a :: r := by
  have hl : l = l.take n ++ a :: r := by rw [← h]; exact (List.take_append_drop n l).symm
  have hn : n < l.length := by
    have := congrArg List.length h
    rw [List.length_drop, List.length_cons] at this
    omega
  have hg : l[n]? = some a := by
    have := congrArg (fun t => t[0]?) h
    simpa using this
  refine ⟨?_, ?_, hl⟩
  · rw [List.take_succ, hg]
    simp
  · have := congrArg (List.drop 1) h
    rw [List.drop_drop] at this
    simpa using this
theorem ai_swt_ok {f : ai_G → Int → Option (List ai_O)} {G : ai_G} {a : ai_V} : ∀ (offs : List Int) (j : Int) (outs : List ai_O), ai_swt f G a j offs = some outs → ∀ z : Int, ((ai_b G a).1 ≤ z ∧ z ≤ (ai_b G a).2) → j ≤ z → z < j + (offs.length : Int) → ∃ off outs', offs[(z - j).toNat]? = some off ∧ f (ai_ref2 G 0 a (ai_lI z)) off = some outs' ∧ ∀ o ∈ outs', o ∈ outs
  | [], j, outs, h, z, hz, h1, h2 => by simp at h2; omega
  | off :: r, j, outs, h, z, hz, h1, h2 => by
    unfold ai_swt at h
    rw [List.length_cons] at h2
    by_cases e : z = j
    · subst e
      have hc : (decide ((ai_b G a).1 ≤ z) && decide (z ≤ (ai_b G a).2)) = true := by simp [hz]
      rw [hc] at h
      obtain ⟨o1, o2, g1, g2, rfl⟩ := ai_join_ok h
      exact ⟨off, o1, by simp, g1, fun o ho => List.mem_append_left _ ho⟩
    · have e3 : (z - j).toNat = (z - (j + 1)).toNat + 1 := by omega
      cases hc : (decide ((ai_b G a).1 ≤ j) && decide (j ≤ (ai_b G a).2)) with
      | true =>
        rw [hc] at h
        obtain ⟨o1, o2, g1, g2, rfl⟩ := ai_join_ok h
        obtain ⟨off', o', q1, q2, q3⟩ := ai_swt_ok r (j + 1) o2 g2 z hz (by omega) (by omega)
        exact ⟨off', o', by rw [e3]; simpa using q1, q2, fun o ho => List.mem_append_right _ (q3 o ho)⟩
      | false =>
        rw [hc] at h
        obtain ⟨off', o', q1, q2, q3⟩ := ai_swt_ok r (j + 1) outs h z hz (by omega) (by omega)
        exact ⟨off', o', by rw [e3]; simpa using q1, q2, q3⟩
theorem ai_lks_ok {f : ai_G → Int → Option (List ai_O)} {G : ai_G} {a : ai_V} {dflt z : Int} (hz : (ai_b G a).1 ≤ z ∧ z ≤ (ai_b G a).2) : ∀ (ps : List (Int × Int)) (outs : List ai_O), ai_lks f G a ps = some outs → Op.lookupswitch.offset ps dflt z = dflt ∨ ∃ q outs', q ∈ ps ∧ Op.lookupswitch.offset ps dflt z = q.2 ∧ q.1 = z ∧ f (ai_ref2 G 0 a (ai_lI q.1)) q.2 = some outs' ∧ ∀ o ∈ outs', o ∈ outs
  | [], _, _ => Or.inl (Op.lookupswitch.offset_nil ..)
  | (k, o) :: r, outs, h => by
    unfold ai_lks at h
    rw [Op.lookupswitch.offset_cons]
    by_cases e : k = z
    · rw [if_pos e]
      subst e
      have hc : (decide ((ai_b G a).1 ≤ k) && decide (k ≤ (ai_b G a).2)) = true := by simp; exact hz
      rw [hc, cond_true] at h
      obtain ⟨o1, o2, g1, g2, rfl⟩ := ai_join_ok h
      exact Or.inr ⟨(k, o), o1, List.mem_cons_self, rfl, rfl, g1, fun o' ho' => List.mem_append_left _ ho'⟩
    · rw [if_neg e]
      have hr : ∃ o2, ai_lks f G a r = some o2 ∧ ∀ o' ∈ o2, o' ∈ outs := by
        cases hc : (decide ((ai_b G a).1 ≤ k) && decide (k ≤ (ai_b G a).2)) with
        | true =>
          rw [hc, cond_true] at h
          obtain ⟨o1, o2, g1, g2, rfl⟩ := ai_join_ok h
          exact ⟨o2, g2, fun o' ho' => List.mem_append_right _ ho'⟩
        | false =>
          rw [hc, cond_false] at h
          exact ⟨outs, h, fun _ h => h⟩
      obtain ⟨o2, g2, g3⟩ := hr
      rcases ai_lks_ok hz r o2 g2 with h1 | ⟨q, oo, q1, q2, q3, q4, q5⟩
      · exact Or.inl h1
      · exact Or.inr ⟨q, oo, List.mem_cons_of_mem _ q1, q2, q3, q4, fun o' ho' => g3 o' (q5 o' ho')⟩
theorem ai_got_ok {p : Program} {l : Launch} {e : Env} {R : Room} {s : State} {m : MethodId} {args : Array Value} {below : List Frame} {meth : Method} {c : Code} {Q : State → Prop} {σ : ai_Rh} {sb : ai_SB} {D : va_G} {A : Nat → Prop} {nL : Nat} {ad : List Nat} {pc : Nat} {o : ai_O} {als : ai_L} {r : List ai_V} {cs ss : Nat} (hg : ai_gok σ o.2.1) (K : ∀ τ, ai_le σ τ → ai_gok τ (ai_got o).2.1 → ai_K p l e R s m args below meth c Q τ sb D A nL ad pc (als, (ai_got o).2.2.2.1 ++ r, o.2.2.2.2.1, cs, ss)) : ai_K p l e R s m args below meth c Q σ sb D A nL ad pc (als, o.2.2.2.1 ++ r, o.2.2.2.2.1, cs, ss) := by
  obtain ⟨q, G, al, st, aw, cs0, ss0⟩ := o
  dsimp only at hg ⊢
  unfold ai_got at K
  dsimp only at K
  cases st with
  | nil => exact K σ ai_le.rf hg
  | cons v st =>
    dsimp only at K
    cases hm : ai_mat G v with
    | none =>
      rw [hm] at K
      exact K σ ai_le.rf hg
    | some q9 =>
      rw [hm] at K
      dsimp only at K
      intro ls stk H locs ws tys y hy hls hst hme
      obtain ⟨u, stk1, rfl, mu, hst1⟩ := hst.cons
      obtain ⟨τ, s1, s2, s3⟩ := ai_mat_ok hg mu hm
      exact K τ s1 s2 ls (u :: stk1) H locs ws tys y hy (hls.up s1) ⟨s3, ai_stk.up s1 hst1⟩ (hme.up s1)
section ASX
variable {T : Nat → ai_MD} {B : Nat → Nat → List ai_E} {hk : ai_H} {N : ai_Ns} {L : Nat} {sb : ai_SB}
theorem ai_snd (hcl : ai_clok) (hB : ∀ M q, ai_codeok T (T M) (B M q) ∧ ∀ en r, B M q = en :: r → en.1 = q) (hMo : ∀ K, ¬ (T K).2.2.2.2.2.2.2 = 3 → ai_mok (T K)) (hhk : ∀ K G as aw rm outs, hk K G as aw = some (rm, outs) → ai_cs (ai_sr' (T K) rm) L sb G as aw outs) : ∀ (n M : Nat) (stops : List Nat) (code : List ai_E) (G : ai_G) (x : ai_S) (outs : List ai_O), ai_ex T B hk N L n M stops code G x = some outs → ai_codeok T (T M) code → ∀ (ρ : ai_Rh), ai_gok ρ G → ∀ {p : Program} {l : Launch} {e : Env} {R : Room} {s : State} {m : MethodId} {args : Array Value} {below : List Frame} {meth : Method} {c : Code} {Q : State → Prop} {D : va_G} {A : Nat → Prop} {xs : Nat → Int32} {ad : List Nat}, ai_cx2 p s m args meth c R (T M) A sb L xs → (∀ σ, ai_le ρ σ → ai_rk (T M) L xs σ) → (∀ o ∈ outs, (o.1 ∈ stops ∨ ai_rt (T M) o) → ∀ σ, ai_le ρ σ → ai_gok σ o.2.1 → ai_K p l e R s m args below meth c Q σ sb D A (T M).2.2.2.1 ad o.1 o.2.2) → ∃ en rest, code = en :: rest ∧ ai_K p l e R s m args below meth c Q ρ sb D A (T M).2.2.2.1 ad en.1 x := by
  intro n
  induction n with
  | zero => intro M stops code G x outs h; cases h
  | succ n ih =>
    intro M stops code G x outs h hcode ρ hG p l e R s m args below meth c Q D A xs ad cx hrk HO
    cases code with
    | nil => cases h
    | cons en rest =>
      unfold ai_ex at h
      dsimp only at h
      have hcode0 := hcode
      obtain ⟨he, hnx, hcr⟩ := hcode
      refine ⟨en, rest, rfl, ?_⟩
      have to : ∀ (code' : List ai_E) (G' : ai_G) (x' : ai_S) (outs' : List ai_O) (q : Nat) (σ : ai_Rh), ai_le ρ σ → ai_to (ai_ex T B hk N L n M) (B M) (N.1 M) (N.2.1 M) stops code' G' x' = some outs' → (∀ o ∈ outs', o ∈ outs) → ai_codeok T (T M) code' → ai_gok σ G' → (∀ en r, code' = en :: r → en.1 = q) → ai_K p l e R s m args below meth c Q σ sb D A (T M).2.2.2.1 ad q x' := by
        intro code' G' x' outs' q σ hσ h' hsub hc' hG' hq
        obtain ⟨en2, r2, e2, k2⟩ := ai_to_ok (P := ai_codeok T (T M)) (md := T M) (ρb := ρ) (p := p) (l := l) (e := e) (R := R) (s := s) (m := m) (args := args) (below := below) (meth := meth) (c := c) (Q := Q) (sb := sb) (D := D) (A := A) (nL := (T M).2.2.2.1) (ad := ad) (fun stops' code2 G2 x2 outs2 h2 hc2 ρ2 hρ2 hG2 HO2 => ih M stops' code2 G2 x2 outs2 h2 hc2 ρ2 hG2 cx (fun σ' hσ' => hrk σ' (hρ2.tr hσ')) HO2) (hB M) h' hc' hσ hG' (fun o ho hor σ' hσ' hg => HO o (hsub o ho) hor σ' (hσ.tr hσ') hg)
        rw [hq en2 r2 e2] at k2
        exact k2
      cases hsim : ai_simp (T M) L en G x.1 x.2.1 x.2.2.1 x.2.2.2.1 x.2.2.2.2 with
      | some y =>
        rw [hsim] at h
        intro ls stk H locs ws tys y0 hy hls hst hm
        exact ai_simp_ok hcl he.1 cx.1 (hrk ρ ai_le.rf) hG hls hst hm hsim ((to rest G y outs _ ρ ai_le.rf h (fun _ h => h) hcr hG hnx).at hy)
      | none =>
        rw [hsim] at h
        dsimp only at h
        cases hrd : ai_rdm en G x.1 x.2.1 x.2.2.1 x.2.2.2.1 x.2.2.2.2 with
        | some y =>
        rw [hrd] at h
        intro ls stk H locs ws tys y0 hy hls hst hm
        obtain ⟨Gy, y⟩ := y
        exact ai_rdm_ok hcl he.1 cx.1 hG hls hst hm hrd (fun σ hσ hgσ => (to rest Gy y outs _ σ hσ h (fun _ h => h) hcr hgσ hnx).at hy)
        | none =>
        rw [hrd] at h
        dsimp only at h
        obtain ⟨pc, ins, len, na, nb, ni, nz⟩ := en
        obtain ⟨⟨hd, hlen, hw⟩, hj, hw2⟩ := he
        obtain ⟨⟨hx, hb, hml, hown, hts, hA, hini, hR, hao, hsc⟩, hnw, hsx⟩ := id cx
        dsimp only at hd hlen hw hj hw2 hnx ⊢
        have l1 : ai_len ins = 1 → len = 1 := fun q => by rcases hlen with h | h <;> omega
        have l3 : ai_len ins = 3 → len = 3 := fun q => by rcases hlen with h | h <;> omega
        have br : ∀ (op : Nat) (a b : ai_V) (tq fq : Nat) (tc fc : List ai_E) (x' : ai_S) (outs' : List ai_O) (zx zy : Int), ai_br (ai_to (ai_ex T B hk N L n M) (B M) (N.1 M) (N.2.1 M) stops) op a b tc fc G x' = some outs' → (∀ o ∈ outs', o ∈ outs) → ai_codeok T (T M) tc → ai_codeok T (T M) fc → (∀ en r, tc = en :: r → en.1 = tq) → (∀ en r, fc = en :: r → en.1 = fq) → ai_nm ρ a zx → ai_nm ρ b zy → ((ai_b G a).1 ≤ zx ∧ zx ≤ (ai_b G a).2) → ((ai_b G b).1 ≤ zy ∧ zy ≤ (ai_b G b).2) → (ai_cP op zx zy → ai_K p l e R s m args below meth c Q ρ sb D A (T M).2.2.2.1 ad tq x') ∧ (¬ ai_cP op zx zy → ai_K p l e R s m args below meth c Q ρ sb D A (T M).2.2.2.1 ad fq x') := by
          intro op a b tq fq tc fc x' outs' zx zy h' hsub ht hf hqt hqf nx ny bx by'
          unfold ai_br at h'
          split at h'
          · rename_i hdc
            have := ai_dc_ok hG nx ny bx by' hdc
            exact ⟨fun _ => to tc G x' outs' tq ρ ai_le.rf h' hsub ht hG hqt, fun hn => absurd (this.mpr rfl) hn⟩
          · rename_i hdc
            have := ai_dc_ok hG nx ny bx by' hdc
            exact ⟨fun hn => absurd (this.mp hn) (by decide), fun _ => to fc G x' outs' fq ρ ai_le.rf h' hsub hf hG hqf⟩
          · obtain ⟨o1, o2, h1, h2, rfl⟩ := ai_join_ok h'
            refine ⟨fun hc => ?_, fun hc => ?_⟩
            · obtain ⟨G', hG', σ, hσ, hg⟩ := ai_wy_ok hG nx ny bx by' hc
              obtain ⟨oo, g1, g2⟩ := ai_all_ok h1 G' hG'
              exact (to tc G' x' oo tq σ hσ g1 (fun o ho => hsub o (List.mem_append_left _ (g2 o ho))) ht hg hqt).up hσ
            · obtain ⟨G', hG', σ, hσ, hg⟩ := ai_wy_ok hG nx ny bx by' (ai_ng_ok.mpr hc)
              obtain ⟨oo, g1, g2⟩ := ai_all_ok h2 G' hG'
              exact (to fc G' x' oo fq σ hσ g1 (fun o ho => hsub o (List.mem_append_right _ (g2 o ho))) hf hg hqf).up hσ
        have z0 : ai_nm ρ (ai_lI 0) 0 := ai_nmL
        intro ls stk H locs ws tys y0 hy hls hst hm
        obtain ⟨hP, hD, hKk, hS, hW⟩ := id hm
        have call : ∀ (K tot : Nat), ai_call T hk N.2.2 (fun K G as aw => ai_ex T B hk N L n K [] (B K 0) G (ai_arg 0 as, [], aw, 0, 0)) (ai_to (ai_ex T B hk N L n M) (B M) (N.1 M) (N.2.1 M) stops rest) M K G x tot = some outs → ¬ (T K).2.2.2.2.2.2.2 = 3 → len = 3 → ∃ (rm : Room) (couts : List ai_O), ai_may (T M) (ai_sr' (T K) rm) tot x.2.1 x.2.2.2.1 x.2.2.2.2 = true ∧ ai_cs (ai_sr' (T K) rm) L sb G (x.2.1.take tot).reverse x.2.2.1 couts ∧ ∀ o ∈ couts, ∀ σ, ai_le ρ σ → ai_gok σ o.2.1 → ai_K p l e R s m args below meth c Q σ sb D A (T M).2.2.2.1 (ws.map Prod.fst) (pc + 3) (x.1, o.2.2.2.1 ++ x.2.1.drop tot, o.2.2.2.2.1, x.2.2.2.1 + rm.cells, x.2.2.2.2 + rm.slots) := by
          intro K tot h' hkd hl3
          subst hl3
          have goes : ∀ (rm : Room) (couts : List ai_O), ai_goes (ai_to (ai_ex T B hk N L n M) (B M) (N.1 M) (N.2.1 M) stops rest) rm x tot couts = some outs → ∀ o ∈ couts, ∀ σ, ai_le ρ σ → ai_gok σ o.2.1 → ai_K p l e R s m args below meth c Q σ sb D A (T M).2.2.2.1 (ws.map Prod.fst) (pc + 3) (x.1, o.2.2.2.1 ++ x.2.1.drop tot, o.2.2.2.2.1, x.2.2.2.1 + rm.cells, x.2.2.2.2 + rm.slots) := by
            intro rm couts hall o ho σ hσ hg
            unfold ai_goes at hall
            obtain ⟨o', g1, g2⟩ := ai_all_ok hall o ho
            exact ai_got_ok hg (fun τ hτ hgτ => (to rest _ _ o' _ τ (hσ.tr hτ) g1 g2 hcr hgτ hnx).at hy)
          unfold ai_call at h'
          split at h'
          · rename_i q hh
            obtain ⟨rm, couts⟩ := q
            obtain ⟨hmay, hall⟩ := ai_gd_ok h'
            exact ⟨rm, couts, hmay, hhk _ _ _ _ _ _ hh, goes rm couts hall⟩
          · obtain ⟨hmay, h1⟩ := ai_gd_ok h'
            obtain ⟨bouts, hbo, h2⟩ := ai_bd_ok h1
            obtain ⟨couts, hmeet, hall⟩ := ai_bd_ok h2
            refine ⟨(T K).2.2.2.2.2.2.1, couts, hmay, ?_, goes _ couts hall⟩
            have hsum : ((x.2.1.take tot).reverse.map ai_cat).sum ≤ (T K).2.2.2.1 := by
              unfold ai_may at hmay
              simp only [Bool.and_eq_true, decide_eq_true_eq] at hmay
              rw [List.map_reverse, List.sum_reverse]
              exact hmay.2.2.2.2.2.2
            refine ai_met (md := T K) (L := L) (jn := N.2.2 K) (hMo K hkd) hkd hmeet hsum (fun ρ' hG' hrb' {p l e R s m args below meth c Q D A xs ad} cx' HO' => ?_)
            obtain ⟨en, rest, hc, hk'⟩ := ih K [] (B K 0) G _ bouts hbo (hB K 0).1 ρ' hG' (l := l) (e := e) (below := below) (Q := Q) (D := D) (ad := ad) cx' (fun σ hσ => ⟨hrb' σ hσ, fun h => absurd h hkd⟩) (fun o ho hor σ hσ hg => HO' o ho (by rcases hor with h | h; cases h; exact h) σ hσ hg)
            have := (hB K 0).2 en rest hc
            rw [this] at hk'
            exact hk'
        unfold ai_ctl at h
        dsimp only at h
        split at h
        · -- goto
          rename_i off
          have ht : (pc : Int) + off = (((pc : Int) + off).toNat : Int) := by
            have : 0 ≤ (pc : Int) + off := hj
            omega
          cases l3 rfl
          exact lv_goto hx hb hd ht (to _ G x outs _ ρ ai_le.rf h (fun _ h => h) (hB M _).1 hG (hB M _).2 ls stk H locs ws tys y0 hy hls hst hm)
        · -- ifCond
          rename_i q off
          have ht : (pc : Int) + off = (((pc : Int) + off).toNat : Int) := by
            have : 0 ≤ (pc : Int) + off := hj
            omega
          cases l3 rfl
          obtain ⟨a, r, hxs, h1⟩ := ai_p1_ok h
          obtain ⟨hi, h2⟩ := ai_gd_ok h1
          rw [hxs] at hst
          obtain ⟨u, stk1, rfl, ma, hst1⟩ := hst.cons
          obtain ⟨z, rfl, bz, nz'⟩ := ai_int' hG ma hi
          obtain ⟨kt, kf⟩ := br _ a (ai_lI 0) _ (pc + 3) _ rest _ outs z.toInt 0 h2 (fun _ h => h) (hB M _).1 hcr (hB M _).2 hnx nz' z0 bz ⟨Int.le_refl _, Int.le_refl _⟩
          exact ai_if hx hb hd ht (fun hc => kt hc ls stk1 H locs ws tys y0 hy hls hst1 hm) (fun hc => kf hc ls stk1 H locs ws tys y0 hy hls hst1 hm)
        · -- if_icmp
          rename_i q off
          have ht : (pc : Int) + off = (((pc : Int) + off).toNat : Int) := by
            have : 0 ≤ (pc : Int) + off := hj
            omega
          cases l3 rfl
          obtain ⟨b, a, r, hxs, h1⟩ := ai_p2_ok h
          obtain ⟨hi, h2⟩ := ai_gd_ok h1
          rw [Bool.and_eq_true] at hi
          rw [hxs] at hst
          obtain ⟨u, stk0, rfl, mb, hst0⟩ := hst.cons
          obtain ⟨u2, stk1, rfl, ma, hst1⟩ := hst0.cons
          obtain ⟨y, rfl, b_y, n_y⟩ := ai_int' hG mb hi.2
          obtain ⟨z, rfl, bz, nz'⟩ := ai_int' hG ma hi.1
          obtain ⟨kt, kf⟩ := br _ a b _ (pc + 3) _ rest _ outs z.toInt y.toInt h2 (fun _ h => h) (hB M _).1 hcr (hB M _).2 hnx nz' n_y bz b_y
          exact ai_icmp hx hb hd ht (fun hc => kt hc ls stk1 H locs ws tys y0 hy hls hst1 hm) (fun hc => kf hc ls stk1 H locs ws tys y0 hy hls hst1 hm)
        · -- lcmp
          cases l1 rfl
          cases rest with
          | nil => cases h
          | cons en2 rest2 =>
            dsimp only at h
            obtain ⟨he2, hnx2, hcr2⟩ := hcr
            obtain ⟨pc2, ins2, len2, na2, nb2, ni2, nz2⟩ := en2
            obtain ⟨⟨hd2, hlen2, -⟩, hj2, -⟩ := he2
            dsimp only at h hd2 hlen2 hj2 hnx2
            have epc : pc2 = pc + 1 := hnx _ rest2 rfl
            subst epc
            split at h
            · rename_i q off
              have l3' : len2 = 3 := by rcases hlen2 with h | h; cases h; exact h
              subst l3'
              have ht : ((pc + 1 : Nat) : Int) + off = ((((pc + 1 : Nat) : Int) + off).toNat : Int) := by
                have : 0 ≤ ((pc + 1 : Nat) : Int) + off := hj2
                omega
              obtain ⟨b, a, r, hxs, h1⟩ := ai_p2_ok h
              obtain ⟨hi, h2⟩ := ai_gd_ok h1
              rw [Bool.and_eq_true] at hi
              rw [hxs] at hst
              obtain ⟨u, stk0, rfl, mb, hst0⟩ := hst.cons
              obtain ⟨u2, stk1, rfl, ma, hst1⟩ := hst0.cons
              obtain ⟨y, rfl, b_y, n_y⟩ := ai_lng' hG mb hi.2
              obtain ⟨z, rfl, bz, nz'⟩ := ai_lng' hG ma hi.1
              obtain ⟨kt, kf⟩ := br _ a b _ (pc + 1 + 3) _ rest2 _ outs z.toInt y.toInt h2 (fun _ h => h) (hB M _).1 hcr2 (hB M _).2 hnx2 nz' n_y bz b_y
              refine W.lcmp hx hb hd ?_
              exact ai_if hx hb hd2 ht (fun hc => kt (ai_lgc.mp hc) ls stk1 H locs ws tys y0 hy hls hst1 hm) (fun hc => kf (fun g => hc (ai_lgc.mpr g)) ls stk1 H locs ws tys y0 hy hls hst1 hm)
            · cases h
        · -- ifnonnull
          rename_i off
          have ht : (pc : Int) + off = (((pc : Int) + off).toNat : Int) := by
            have : 0 ≤ (pc : Int) + off := hj
            omega
          cases l3 rfl
          obtain ⟨a, r, hxs, h1⟩ := ai_p1_ok h
          rw [hxs] at hst
          obtain ⟨u, stk1, rfl, ma, hst1⟩ := hst.cons
          cases h5 : (a.1 == 5) with
          | true =>
            rw [h5] at h1
            obtain ⟨n5, t5, lo5, hi5⟩ := a
            have e5 : n5 = 5 := by simpa using h5
            subst e5
            cases ma
            exact lv_ifnonnullN hx hb hd (to _ G _ outs _ ρ ai_le.rf h1 (fun _ h => h) hcr hG hnx ls stk1 H locs ws tys y0 hy hls hst1 hm)
          | false =>
            rw [h5] at h1
            obtain ⟨hi, h2⟩ := ai_gd_ok h1
            obtain ⟨q, -, rfl⟩ := ai_ref ma hi
            exact lv_ifnonnull hx hb hd ht (to _ G _ outs _ ρ ai_le.rf h2 (fun _ h => h) (hB M _).1 hG (hB M _).2 ls stk1 H locs ws tys y0 hy hls hst1 hm)
        · -- tableswitch
          rename_i dflt lo hi offs
          obtain ⟨hjd, hjo⟩ := hj
          have ht : (pc : Int) + dflt = (((pc : Int) + dflt).toNat : Int) := by omega
          obtain ⟨a, r, hxs, h1⟩ := ai_p1_ok h
          obtain ⟨hi1, h2⟩ := ai_gd_ok h1
          simp only [Bool.and_eq_true, decide_eq_true_eq] at hi1
          rw [hxs] at hst
          obtain ⟨u, stk1, rfl, ma, hst1⟩ := hst.cons
          obtain ⟨z, rfl, bz, nz'⟩ := ai_int' hG ma hi1.1
          obtain ⟨o1, o23, g1, g23, rfl⟩ := ai_join_ok h2
          obtain ⟨o2, o3, g2, g3, rfl⟩ := ai_join_ok g23
          by_cases c1 : z.toInt < lo
          · have hc : decide ((ai_b G a).1 < lo) = true := by simp; omega
            rw [hc] at g1
            exact lv_tableOut hx hb hd (Or.inl c1) ht (to _ _ _ o1 _ ρ ai_le.rf g1 (fun o ho => List.mem_append_left _ ho) (hB M _).1 (ai_ref2_ok hG nz' ai_nmL bz ⟨Int.le_refl _, Int.le_refl _⟩ c1) (hB M _).2 ls stk1 H locs ws tys y0 hy hls hst1 hm)
          · by_cases c2 : hi < z.toInt
            · have hc : decide (hi < (ai_b G a).2) = true := by simp; omega
              rw [hc] at g2
              exact lv_tableOut hx hb hd (Or.inr c2) ht (to _ _ _ o2 _ ρ ai_le.rf g2 (fun o ho => List.mem_append_right _ (List.mem_append_left _ ho)) (hB M _).1 (ai_ref2_ok hG nz' ai_nmL bz ⟨Int.le_refl _, Int.le_refl _⟩ c2) (hB M _).2 ls stk1 H locs ws tys y0 hy hls hst1 hm)
            · obtain ⟨off, o4, q1, q2, q3⟩ := ai_swt_ok offs.toList lo o3 g3 z.toInt bz (by omega) (by omega)
              have hof : 0 ≤ (pc : Int) + off := hjo off (List.mem_of_getElem? q1)
              have ht2 : (pc : Int) + off = (((pc : Int) + off).toNat : Int) := by omega
              exact lv_tableIn hx hb hd c1 c2 (by rw [← Array.getElem?_toList]; exact q1) ht2 (to _ _ _ o4 _ ρ ai_le.rf q2 (fun o ho => List.mem_append_right _ (List.mem_append_right _ (q3 o ho))) (hB M _).1 (ai_ref2_ok hG nz' ai_nmL bz ⟨Int.le_refl _, Int.le_refl _⟩ rfl) (hB M _).2 ls stk1 H locs ws tys y0 hy hls hst1 hm)
        · -- lookupswitch
          rename_i dflt ps
          obtain ⟨hjd, hjo⟩ := hj
          have ht : (pc : Int) + dflt = (((pc : Int) + dflt).toNat : Int) := by omega
          obtain ⟨a, r, hxs, h1⟩ := ai_p1_ok h
          obtain ⟨hi1, h2⟩ := ai_gd_ok h1
          rw [Bool.and_eq_true] at hi1
          rw [hxs] at hst
          obtain ⟨u, stk1, rfl, ma, hst1⟩ := hst.cons
          obtain ⟨z, rfl, bz, nz'⟩ := ai_int' hG ma hi1.1
          obtain ⟨o1, o2, g1, g2, rfl⟩ := ai_join_ok h2
          rcases ai_lks_ok (dflt := dflt) bz ps.toList o2 g2 with h3 | ⟨q, o4, q1, q2, q3, q4, q5⟩
          · exact lv_lookup hx hb hd hi1.2 h3 ht (to _ _ _ o1 _ ρ ai_le.rf g1 (fun o ho => List.mem_append_left _ ho) (hB M _).1 hG (hB M _).2 ls stk1 H locs ws tys y0 hy hls hst1 hm)
          · have hof : 0 ≤ (pc : Int) + q.2 := hjo q q1
            have ht2 : (pc : Int) + q.2 = (((pc : Int) + q.2).toNat : Int) := by omega
            exact lv_lookup hx hb hd hi1.2 q2 ht2 (to _ _ _ o4 _ ρ ai_le.rf q4 (fun o ho => List.mem_append_right _ (q5 o ho)) (hB M _).1 (ai_ref2_ok hG nz' ai_nmL bz ⟨Int.le_refl _, Int.le_refl _⟩ q3.symm) (hB M _).2 ls stk1 H locs ws tys y0 hy hls hst1 hm)
        · -- aaload: a way for each place
          obtain ⟨i, a, r, hxs, h1⟩ := ai_p2_ok h
          obtain ⟨hi, h2⟩ := ai_gd_ok h1
          simp only [Bool.and_eq_true, decide_eq_true_eq] at hi
          have hst' := hst
          rw [hxs] at hst'
          obtain ⟨u, stk0, rfl, mi, hst0⟩ := hst'.cons
          obtain ⟨z, rfl, bz, nz'⟩ := ai_int' hG mi hi.1
          obtain ⟨off, o4, q1, q2, q3⟩ := ai_swt_ok _ _ outs h2 z.toInt bz bz.1 (by rw [List.length_replicate]; omega)
          obtain ⟨en2, r2, e2, k2⟩ := ih M stops _ _ x o4 q2 hcode0 ρ (ai_ref2_ok hG nz' ai_nmL bz ⟨Int.le_refl _, Int.le_refl _⟩ rfl) (l := l) (e := e) (below := below) (Q := Q) (D := D) (ad := ad) cx hrk (fun o ho => HO o (q3 o ho))
          cases e2
          exact k2 ls _ H locs ws tys y0 hy hls hst hm
        · cases l1 rfl
          obtain ⟨hr, h1⟩ := ai_gd_ok h
          cases h1
          simp only [Bool.and_eq_true, decide_eq_true_eq] at hr
          exact HO _ List.mem_cons_self (Or.inr ⟨⟨_, hd, hr.1⟩, hr.2.1, hr.2.2⟩) ρ ai_le.rf hG ls stk H locs ws tys y0 hy hls hst hm
        · cases l1 rfl
          obtain ⟨hr, h1⟩ := ai_gd_ok h
          cases h1
          simp only [Bool.and_eq_true, decide_eq_true_eq] at hr
          exact HO _ List.mem_cons_self (Or.inr ⟨⟨_, hd, hr.1⟩, hr.2.1, hr.2.2⟩) ρ ai_le.rf hG ls stk H locs ws tys y0 hy hls hst hm
        · cases l1 rfl
          obtain ⟨hr, h1⟩ := ai_gd_ok h
          cases h1
          simp only [Bool.and_eq_true, decide_eq_true_eq] at hr
          exact HO _ List.mem_cons_self (Or.inr ⟨⟨_, hd, hr.1⟩, hr.2.1, hr.2.2⟩) ρ ai_le.rf hG ls stk H locs ws tys y0 hy hls hst hm
        · -- invokestatic
          obtain ⟨hkd, h1⟩ := ai_gd_ok h
          simp only [Bool.and_eq_true, beq_iff_eq] at hkd
          obtain ⟨h990, ek⟩ := hkd
          have h997 : na < 900 := Nat.le_of_ble_eq_true h990
          have hk3 : ¬ (T na).2.2.2.2.2.2.2 = 3 := by omega
          have l3' := l3 rfl
          obtain ⟨rm, couts, hmay, hcs, hK⟩ := call na _ h1 hk3 l3'
          subst l3'
          unfold ai_may ai_sr' at hmay
          simp only [Bool.and_eq_true, decide_eq_true_eq] at hmay
          obtain ⟨y1, y2, y3, y4, y5, y6, y7⟩ := hmay
          obtain ⟨m1, m2, m3, m4, m5, m6, m7, m8⟩ := hMo na hk3
          obtain ⟨lv, hlv, -⟩ := id hls
          subst hR
          have hM := hcs ρ l D ws tys (stk.take (T na).2.2.2.2.2.1).reverse H.size (fun σ hσ => (hrk σ hσ).1) hG (hst.take _).rev hW
          have hpre : PreS s H (ai_Pc D ws tys (stk.take (T na).2.2.2.2.2.1).reverse H.size) (stk.take (T na).2.2.2.2.2.1).reverse := ⟨ai_Pc_blind _ _ _ _ _, fun U hU hWm => ⟨rfl, by rw [hU], by rw [hU]; exact hP, va_K.moved hWm.alike hKk, hD.weaken (fun _ _ _ _ => trivial), va_AO.moved hWm.alike hao, hnw.warm hWm, hsx.call hS hD hA hU hWm⟩⟩
          have hlen' : (stk.take (T na).2.2.2.2.2.1).reverse.length = (T na).2.2.2.2.2.1 := by rw [List.length_reverse, List.length_take, ← hst.len]; omega
          have hstk : stk = (stk.take (T na).2.2.2.2.2.1).reverse.reverse ++ stk.drop (T na).2.2.2.2.2.1 := by rw [List.reverse_reverse, List.take_append_drop]
          have hcat : 2 * (F0 m pc ls stk).monitorRoom + ((stk.drop (T na).2.2.2.2.2.1).map fun v => v.category).sum ≤ 8 := by
            rw [ai_cats (hst.drop _)]
            show 2 * 0 + _ ≤ 8
            omega
          refine ai_call_ok (a := (stk.take (T na).2.2.2.2.2.1).reverse.toArray) hA hm hls (hst.drop _) ?_ (fun o ho σ hσ hg => hK o ho σ hσ hg)
          rcases hw2 h997 with ⟨-, hl⟩ | ⟨-, hl⟩
          · exact va_runS (cc := (T M).2.2.1) (nL := (T M).2.2.2.1) (own := (T M).1) (Ts := ai_tb) ⟨hx, hb, hml, hown, hts⟩ hM ⟨callB_of (T na).2.2.2.2.2.1 hts (ai_good m3) rfl rfl rfl (hts _ m5) (hts _ hl) m4 ⟨y3, y4⟩, hts _ (m7 ek)⟩ hpre rfl hlen' hlv.1 hstk hcat hd ⟨y5, y6⟩
          · exact va_runSN (cc := (T M).2.2.1) (nL := (T M).2.2.2.1) (own := (T M).1) (Ts := ai_tb) ⟨hx, hb, hml, hown, hts⟩ hM ⟨va_cnB (T na).2.2.2.2.2.1 hts (ai_good m3) rfl rfl rfl (hnw _ hl) (hts _ m5) m4 ⟨y3, y4⟩, hts _ (m7 ek), trivial⟩ hpre rfl hlen' hlv.1 hstk hcat hd ⟨y5, y6⟩
        · -- invokespecial
          obtain ⟨hkd, h1⟩ := ai_gd_ok h
          simp only [Bool.and_eq_true, Bool.not_eq_true', beq_eq_false_iff_ne, beq_iff_eq] at hkd
          obtain ⟨h999, ek, hrc⟩ := hkd
          have hk3 : ¬ (T na).2.2.2.2.2.2.2 = 3 := by omega
          have l3' := l3 rfl
          obtain ⟨rm, couts, hmay, hcs, hK⟩ := call na _ h1 hk3 l3'
          subst l3'
          unfold ai_may ai_sr' at hmay
          simp only [Bool.and_eq_true, decide_eq_true_eq] at hmay
          obtain ⟨y1, y2, y3, y4, y5, y6, y7⟩ := hmay
          obtain ⟨m1, m2, m3, m4, m5, m6, m7, m8⟩ := hMo na hk3
          obtain ⟨lv, hlv, -⟩ := id hls
          subst hR
          split at hrc
          · rename_i a rA hdr
            have hdr2 := hst.drop (T na).2.2.2.2.2.1
            rw [hdr] at hdr2
            obtain ⟨u, S2, hS2, ma, hst2⟩ := hdr2.cons
            unfold ai_rcv at hrc
            rw [Bool.and_eq_true] at hrc
            obtain ⟨b, hbq, rfl⟩ := ai_ref ma hrc.1
            obtain ⟨t1, t2, t3⟩ := ai_rtake hdr
            obtain ⟨u1, u2, u3⟩ := ai_rtake hS2
            have hM := hcs ρ l D ws tys (.ref b :: (stk.take (T na).2.2.2.2.2.1).reverse) H.size (fun σ hσ => (hrk σ hσ).1) hG (by rw [t1]; exact ⟨ma, (hst.take _).rev⟩) hW
            dsimp only [ai_sr'] at hM
            have hpre : PreS s H (ai_Pc D ws tys (.ref b :: (stk.take (T na).2.2.2.2.2.1).reverse) H.size) (.ref b :: (stk.take (T na).2.2.2.2.2.1).reverse) := ⟨ai_Pc_blind _ _ _ _ _, fun U hU hWm => ⟨rfl, by rw [hU], by rw [hU]; exact hP, va_K.moved hWm.alike hKk, hD.weaken (fun _ _ _ _ => trivial), va_AO.moved hWm.alike hao, hnw.warm hWm, hsx.call hS hD hA hU hWm⟩⟩
            have hlen' : (stk.take (T na).2.2.2.2.2.1).reverse.length = (T na).2.2.2.2.2.1 := by rw [List.length_reverse, List.length_take, ← hst.len]; omega
            have hstk : stk = (stk.take (T na).2.2.2.2.2.1).reverse.reverse ++ .ref b :: S2 := by rw [List.reverse_reverse]; exact u3
            have hcat : 2 * (F0 m pc ls stk).monitorRoom + (S2.map fun v => v.category).sum ≤ 8 := by
              rw [ai_cats hst2]
              rw [t2] at y2
              show 2 * 0 + _ ≤ 8
              omega
            refine ai_call_ok (a := (Value.ref b :: (stk.take (T na).2.2.2.2.2.1).reverse).toArray) hA hm hls (rest := S2) (rA := rA) hst2 ?_ (fun o ho σ hσ hg => by have := hK o ho σ hσ hg; rw [t2] at this; exact this)
            have hrn := (m8 ek).2.2
            have m3' : Jvm.Cond.code (T na).2.1 (T na).2.2.1 (T na).2.2.2.1 none ∈ ai_tb := by rw [← hrn]; exact m3
            rcases hw2 h999 with ⟨-, hl⟩ | ⟨-, hl⟩
            · exact va_runI (cc := (T M).2.2.1) (nL := (T M).2.2.2.1) (own := (T M).1) (Ts := ai_tb) ⟨hx, hb, hml, hown, hts⟩ hM ⟨callB_of (T na).2.2.2.2.2.1 hts (ai_good m3) (by rw [hrn]) rfl rfl (hts _ m5) (hts _ hl) m4 ⟨y3, y4⟩, (m8 ek).1, hts _ (m8 ek).2.1⟩ hpre rfl hlen' hlv.1 hstk hcat hd ⟨y5, y6⟩
            · exact va_runIN (cc := (T M).2.2.1) (nL := (T M).2.2.2.1) (own := (T M).1) (Ts := ai_tb) ⟨hx, hb, hml, hown, hts⟩ hM ⟨va_cnB (T na).2.2.2.2.2.1 hts (ai_good m3) (by rw [hrn]) rfl rfl (hnw _ hl) (hts _ m5) m4 ⟨y3, y4⟩, (m8 ek).1, hts _ (m8 ek).2.1⟩ hpre rfl hlen' hlv.1 hstk hcat hd ⟨y5, y6⟩
          · cases hrc
        · -- invokevirtual
          obtain ⟨hkd, h1⟩ := ai_gd_ok h
          simp only [Bool.and_eq_true, beq_iff_eq] at hkd
          obtain ⟨ek, hrc⟩ := hkd
          have hk3 : ¬ (T na).2.2.2.2.2.2.2 = 3 := by omega
          have l3' := l3 rfl
          obtain ⟨rm, couts, hmay, hcs, hK⟩ := call na _ h1 hk3 l3'
          subst l3'
          unfold ai_may ai_sr' at hmay
          simp only [Bool.and_eq_true, decide_eq_true_eq] at hmay
          obtain ⟨y1, y2, y3, y4, y5, y6, y7⟩ := hmay
          obtain ⟨m1, m2, m3, m4, m5, m6, m7, m8⟩ := hMo na hk3
          obtain ⟨lv, hlv, -⟩ := id hls
          subst hR
          split at hrc
          · rename_i a rA hdr
            have hdr2 := hst.drop (T na).2.2.2.2.2.1
            rw [hdr] at hdr2
            obtain ⟨u, S2, hS2, ma, hst2⟩ := hdr2.cons
            unfold ai_rcv at hrc
            rw [Bool.and_eq_true] at hrc
            obtain ⟨b, hbq, rfl⟩ := ai_ref ma hrc.1
            have hrc2 := hrc.2
            obtain ⟨t1, t2, t3⟩ := ai_rtake hdr
            obtain ⟨u1, u2, u3⟩ := ai_rtake hS2
            split at hrc2
            · rename_i ci fs hcv
              have eci : ci = nb := by simpa using hrc2
              subst eci
              obtain ⟨ev, hev, vs9, rfl, -⟩ := ai_cell hW hcv hbq
              obtain ⟨hl, q9, hq9, hq8⟩ := hw2
              have hM := hcs ρ l D ws tys (.ref b :: (stk.take (T na).2.2.2.2.2.1).reverse) H.size (fun σ hσ => (hrk σ hσ).1) hG (by rw [t1]; exact ⟨ma, (hst.take _).rev⟩) hW
              have hpre : PreV s H (T na).2.1.cls b (ai_Pc D ws tys (.ref b :: (stk.take (T na).2.2.2.2.2.1).reverse) H.size) (stk.take (T na).2.2.2.2.2.1).reverse := ⟨ai_Pc_blind _ _ _ _ _, by rw [← hq8]; exact va_recv hKk hP hq9 hev, fun U hU hWm => ⟨rfl, by rw [hU], by rw [hU]; exact hP, va_K.moved hWm.alike hKk, hD.weaken (fun _ _ _ _ => trivial), va_AO.moved hWm.alike hao, hnw.warm hWm, hsx.call hS hD hA hU hWm⟩⟩
              have hlen' : (stk.take (T na).2.2.2.2.2.1).reverse.length = (T na).2.2.2.2.2.1 := by rw [List.length_reverse, List.length_take, ← hst.len]; omega
              have hstk : stk = (stk.take (T na).2.2.2.2.2.1).reverse.reverse ++ .ref b :: S2 := by rw [List.reverse_reverse]; exact u3
              have hcat : 2 * (F0 m pc ls stk).monitorRoom + (S2.map fun v => v.category).sum ≤ 8 := by
                rw [ai_cats hst2]
                rw [t2] at y2
                show 2 * 0 + _ ≤ 8
                omega
              refine ai_call_ok (a := (Value.ref b :: (stk.take (T na).2.2.2.2.2.1).reverse).toArray) hA hm hls (rest := S2) (rA := rA) hst2 ?_ (fun o ho σ hσ hg => by have := hK o ho σ hσ hg; rw [t2] at this; exact this)
              exact va_runV (cc := (T M).2.2.1) (nL := (T M).2.2.2.1) (own := (T M).1) (Ts := ai_tb) ⟨hx, hb, hml, hown, hts⟩ hM ⟨callB_of (T na).2.2.2.2.2.1 hts (ai_good m3) rfl rfl rfl (hts _ m5) (hts _ hl) m4 ⟨y3, y4⟩, hts _ (m6 ek).1, hts _ (m6 ek).2⟩ hpre rfl hlen' hlv.1 hstk hcat hd ⟨y5, y6⟩
            · cases hrc2
          · cases hrc
        · cases h
end ASX
