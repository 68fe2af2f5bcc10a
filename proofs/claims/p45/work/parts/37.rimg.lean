/-! ===== the reference: image and back ===== -/
theorem lr_w : bg_w [] yz_WB = true := by decide +kernel
def lr_dk (k : Nat) : Bool := match yz_WB[k]? with
  | some x => k == 0 || bg_dk x
  | none => false
theorem lr_dka : (List.range 33).all lr_dk = true := by decide +kernel
def lr_ft (j : Nat) : Bool := match (bg_fs yz_WB)[j]? with
  | some w => bg_ft w
  | none => false
theorem lr_fta : (List.range 62).all lr_ft = true := by decide +kernel
theorem lr_same : ∀ k, k < 33 → ¬ k = 2 → ¬ k = 3 → hs_sh[k]? = hs_sh2[k]? := by decide
theorem lr_ok {sb : ai_SB} {tys : List (ClassId × FieldType)} {ws : va_W} (hws : ai_ws la_e sb tys yz_WB ws) (hr : lr_I sb tys) : hs_ok sb.2 hs_sh2 tys (bg_S ws) ws ∧ ∀ i, i < 2 → ¬ (bg_S ws).2 3 i = 0 → ro (fun j => (bg_S ws).2 2 (23016 * i + j)) := by
  have h := bg_ok (G := []) lr_w la_nil hws
  obtain ⟨cA, f2, t0, cB, f3, t1, e2, i2, e3, i3, hro⟩ := hr
  obtain ⟨a2, q2, ha2, har2⟩ := h.2.2 2 (9, 0) (by decide) rfl
  obtain ⟨a3, q3, ha3, har3⟩ := h.2.2 3 (9, 1) (by decide) rfl
  have g2 : q2 = .inl (cA, 46032, .inl f2) := (show q2 = sb.2 0 from har2).trans e2
  have g3 : q3 = .inl (cB, 2, .inl f3) := (show q3 = sb.2 1 from har3).trans e3
  have s2 : ∀ j, (bg_S ws).2 2 j = (f2 j).toInt := fun j => by
    rw [bg_S2 ha2 j, g2]
    rfl
  have s3 : ∀ j, (bg_S ws).2 3 j = (f3 j).toInt := fun j => by
    rw [bg_S2 ha3 j, g3]
    rfl
  refine ⟨⟨h.1, h.2.1, fun k c hk hc => ?_⟩, fun i hi hn => ?_⟩
  · by_cases k2 : k = 2
    · subst k2
      cases (show some (0, 46032) = some c from hc)
      exact ⟨a2, q2, ha2, cA, f2, t0, g2, i2, fun j _ => (s2 j).symm⟩
    · by_cases k3 : k = 3
      · subst k3
        cases (show some (2, 2) = some c from hc)
        exact ⟨a3, q3, ha3, cB, f3, t1, g3, i3, fun j _ => (s3 j).symm⟩
      · have hk33 : k < 33 := (List.getElem?_eq_some_iff.mp hc).1
        exact h.2.2 k c hk ((lr_same k hk33 k2 k3).trans hc)
  · rw [s3] at hn
    have := hro i hi hn
    exact ro_congr (fun j _ => s2 _) this
theorem lr_un {ex : Nat → va_E} {tys1 : List (ClassId × FieldType)} {S1 : hs_S} {ws1 : va_W} (h : hs_ok ex hs_sh2 tys1 S1 ws1) (hro : ∀ i, i < 2 → ¬ S1.2 3 i = 0 → ro (fun j => S1.2 2 (23016 * i + j))) : ∃ sb : ai_SB, hs_ok sb.2 hs_sh tys1 S1 ws1 ∧ lr_I sb tys1 := by
  obtain ⟨a2, q2, ha2, cA, f2, t0, g2, i2, s2⟩ := h.2.2 2 (0, 46032) (by decide) rfl
  obtain ⟨a3, q3, ha3, cB, f3, t1, g3, i3, s3⟩ := h.2.2 3 (2, 2) (by decide) rfl
  refine ⟨(0, fun n => if n = 0 then q2 else q3), ⟨h.1, h.2.1, fun k c hk hc => ?_⟩, cA, f2, t0, cB, f3, t1, by show (if (0 : Nat) = 0 then q2 else q3) = _; rw [if_pos rfl]; exact g2, i2, by show (if (1 : Nat) = 0 then q2 else q3) = _; rw [if_neg (by decide)]; exact g3, i3, fun i hi hn => ?_⟩
  · by_cases k2 : k = 2
    · subst k2
      cases (show some (9, 0) = some c from hc)
      exact ⟨a2, q2, ha2, by show q2 = (if (0 : Nat) = 0 then q2 else q3); rw [if_pos rfl]⟩
    · by_cases k3 : k = 3
      · subst k3
        cases (show some (9, 1) = some c from hc)
        exact ⟨a3, q3, ha3, by show q3 = (if (1 : Nat) = 0 then q2 else q3); rw [if_neg (by decide)]⟩
      · have hk33 : k < 33 := (List.getElem?_eq_some_iff.mp hc).1
        obtain ⟨a, q, ha, har⟩ := h.2.2 k c hk ((lr_same k hk33 k2 k3).symm.trans hc)
        refine ⟨a, q, ha, ?_⟩
        unfold hs_ar at har ⊢
        split at har
        · exact har
        · exact har
        · exact har
        · rename_i n
          exfalso
          have key : ∀ k, k < 33 → ¬ k = 2 → ¬ k = 3 → ∀ n, ¬ hs_sh[k]? = some (9, n) := by
            intro k hk k2 k3 n hn
            have := (by decide : ∀ k, k < 33 → ¬ k = 2 → ¬ k = 3 → (match hs_sh[k]? with
              | some (9, _) => false
              | _ => true) = true) k hk k2 k3
            rw [hn] at this
            cases this
          exact key k hk33 k2 k3 n hc
        · exact har
  · rw [s3 i hi] at hn
    exact ro_congr (fun j hj => s2 _ (by omega)) (hro i hi hn)
/-- what image and back leave -/
def lr_P (S S1 : hs_S) : Prop := (∀ j, ¬ j = 0 → ¬ j = 1 → S1.1 j = S.1 j) ∧ (∀ k, ¬ k = 1 → ¬ k = 2 → ¬ k = 3 → S1.2 k = S.2 k) ∧ ro (S1.2 1) ∧ ∀ i, i < 2 → ¬ S1.2 3 i = 0 → ro (fun j => S1.2 2 (23016 * i + j))
def lr_G : Int32 → va_W → List (ClassId × FieldType) → Prop := fun _ ws1 tys1 => ∃ sb : ai_SB, ai_ws la_e sb tys1 yz_WB ws1 ∧ lr_I sb tys1
theorem lr_met {K : Nat} {t : hs_T} (hc : hs_C hs_sh2 K t) (h0 : (ai_T K).2.2.2.2.2.2.1.cells = 0) (h1 : (ai_T K).2.2.2.2.2.2.1.slots = 0) {sb : ai_SB} (l : Launch) (D : va_G) {ws : va_W} {tys : List (ClassId × FieldType)} {b : Nat} {x : Int32} (sz : Nat) (hb : (ws.map Prod.fst)[0]? = some b) (hws : ai_ws la_e sb tys yz_WB ws) (hr : lr_I sb tys) (H : ro ((bg_S ws).2 1) → (∀ i, i < 2 → ¬ (bg_S ws).2 3 i = 0 → ro (fun j => (bg_S ws).2 2 (23016 * i + j))) → t [(4, 0), (0, x.toInt)] (bg_S ws) (fun ro' S1 => (∃ v, ro' = [(0, v)]) ∧ lr_P (bg_S ws) S1)) : Met l (ai_T K).2.1 (Jvm.Cond.code (ai_T K).2.1 (ai_T K).2.2.1 (ai_T K).2.2.2.1 (ai_T K).2.2.2.2.1 :: ai_tb) (ai_T K).2.2.2.2.2.2.1 (ai_Pc D ws tys (.ref b :: [x].map .int) sz) (la_G D ws lr_G (va_A ws sz)) (ai_T K).2.2.2.2.2.2.1.cells (ai_T K).2.2.2.2.2.2.1.slots (va_A ws sz) := by
  obtain ⟨hok, hfl⟩ := lr_ok hws hr
  have hrow : ro ((bg_S ws).2 1) := bg_row (k := 1) (l := 0) (h := 0) hws rfl
  have M := hc sb l D ws tys [.ref b, .int x] sz [(4, 0), (0, x.toInt)] (bg_S ws) _ (H hrow hfl) ⟨⟨b, hb, rfl⟩, ⟨x, rfl, rfl⟩, trivial⟩ hok
  rw [h0, h1]
  refine MetFree.mono M (fun _ _ h => h) (fun _ _ _ _ _ h => h) (fun a st oc t' hP hQ => ⟨?_, hQ.2⟩)
  obtain ⟨⟨ro', S1, rv, ws1, tys1, f1, f2, f3, f4, f5, f6, f7, ⟨v, hv⟩, p1, p2, p3, p4⟩, hFr⟩ := hQ.1
  subst hv
  obtain ⟨u, r, hrv, ⟨z, rfl, hz⟩, hn⟩ := f3.cons
  rw [hn.nil] at hrv
  obtain ⟨sb', k1, k2⟩ := lr_un f7 p4
  refine ⟨⟨z, ws1, tys1, [], ?_, by rw [f2, List.append_nil], f4, f5, f6, sb', ?_, k2⟩, hFr⟩
  · rw [f1]
    cases rv with
    | none => cases hrv
    | some w =>
      cases hrv
      rfl
  · refine bg_bk (G := []) lr_w k1 (fun k x hk hx => ?_) (fun j w hj _ => ?_)
    · by_cases e1 : k = 1
      · subst e1
        cases (show some (Sum.inr (0, 23016, ((10, 1, 0, 0) : ai_V), [])) = some x from hx)
        exact ⟨rfl, Or.inr ⟨rfl, rfl, rfl, p3⟩⟩
      · by_cases e2 : k = 2
        · subst e2
          cases (show some (Sum.inr (5, 0, ((5, 0, 0, 0) : ai_V), [])) = some x from hx)
          trivial
        · by_cases e3 : k = 3
          · subst e3
            cases (show some (Sum.inr (5, 1, ((5, 0, 0, 0) : ai_V), [])) = some x from hx)
            trivial
          · have hk33 : k < 33 := (List.getElem?_eq_some_iff.mp hx).1
            have g := List.all_eq_true.mp lr_dka k (List.mem_range.mpr hk33)
            unfold lr_dk at g
            rw [hx] at g
            dsimp only at g
            rw [beq_eq_false_iff_ne.mpr (by omega), Bool.false_or] at g
            exact bg_deq (p2 k e1 e2 e3) (bg_std hws hx g)
    · by_cases e0 : j = 0
      · subst e0
        cases (show some ((0, 0, -2147483648, 2147483647) : ai_V) = some w from hj)
        exact fun h => h
      · by_cases e1 : j = 1
        · subst e1
          cases (show some ((0, 0, -2147483648, 2147483647) : ai_V) = some w from hj)
          exact fun h => h
        · have hj62 : j < 62 := (List.getElem?_eq_some_iff.mp hj).1
          have g := List.all_eq_true.mp lr_fta j (List.mem_range.mpr hj62)
          unfold lr_ft at g
          rw [hj] at g
          exact bg_fdeq (p1 j e0 e1) (bg_st lr_w hws j w hj g)
theorem lr_up {S : hs_S} {w : Int} {j : Nat} (h0 : ¬ j = 0) (h1 : ¬ j = 1) : hs_up (hs_up S.1 0 0) 1 w j = S.1 j := by rw [hs_up_ne h1, hs_up_ne h0]
theorem lr_image {sb : ai_SB} (l : Launch) (D : va_G) {ws : va_W} {tys : List (ClassId × FieldType)} {b : Nat} (x : Int32) (sz : Nat) (hb : (ws.map Prod.fst)[0]? = some b) (hws : ai_ws la_e sb tys yz_WB ws) (hr : lr_I sb tys) : Met l (ai_T 69).2.1 (Jvm.Cond.code (ai_T 69).2.1 (ai_T 69).2.2.1 (ai_T 69).2.2.2.1 (ai_T 69).2.2.2.2.1 :: ai_tb) (ai_T 69).2.2.2.2.2.2.1 (ai_Pc D ws tys (.ref b :: [x].map .int) sz) (la_G D ws lr_G (va_A ws sz)) (ai_T 69).2.2.2.2.2.2.1.cells (ai_T 69).2.2.2.2.2.2.1.slots (va_A ws sz) := by
  refine lr_met c_image (by decide +kernel) (by decide +kernel) l D sz hb hws hr (fun r0 r1 => ⟨rfl, fun _ w => ⟨⟨_, rfl⟩, fun j h0 h1 => lr_up h0 h1, fun _ _ _ _ => rfl, r0, r1⟩, fun i0 i1 w A hA => ⟨⟨_, rfl⟩, fun j h0 h1 => lr_up h0 h1, fun k _ k2 k3 => hA.1 k k2 k3, ?_, fun i hi hn => ?_⟩⟩)
  · show ro (A 1)
    rw [hA.1 1 (by decide) (by decide)]
    exact r0
  · show ro (fun j => A 2 (23016 * i + j))
    have hn' : ¬ A 3 i = 0 := hn
    by_cases e : i = x.toInt.toNat
    · rw [e]
      exact ro_congr (fun j hj => hA.2.1 j hj) r0
    · rw [hA.2.2.2.2 i e] at hn'
      exact ro_congr (fun j hj => hA.2.2.1 _ (by omega)) (r1 i hi hn')
theorem lr_back {sb : ai_SB} (l : Launch) (D : va_G) {ws : va_W} {tys : List (ClassId × FieldType)} {b : Nat} (x : Int32) (sz : Nat) (hb : (ws.map Prod.fst)[0]? = some b) (hws : ai_ws la_e sb tys yz_WB ws) (hr : lr_I sb tys) : Met l (ai_T 34).2.1 (Jvm.Cond.code (ai_T 34).2.1 (ai_T 34).2.2.1 (ai_T 34).2.2.2.1 (ai_T 34).2.2.2.2.1 :: ai_tb) (ai_T 34).2.2.2.2.2.2.1 (ai_Pc D ws tys (.ref b :: [x].map .int) sz) (la_G D ws lr_G (va_A ws sz)) (ai_T 34).2.2.2.2.2.2.1.cells (ai_T 34).2.2.2.2.2.2.1.slots (va_A ws sz) := by
  refine lr_met c_back (by decide +kernel) (by decide +kernel) l D sz hb hws hr (fun r0 r1 => ⟨rfl, fun v w => ⟨⟨_, rfl⟩, fun j h0 h1 => lr_up h0 h1, fun _ _ _ _ => rfl, r0, r1⟩, fun i0 i1 hk w A hA => ⟨⟨_, rfl⟩, fun j h0 h1 => lr_up h0 h1, fun k k1 _ _ => hA.1 k k1, ?_, fun i hi hn => ?_⟩⟩)
  · show ro (A 1)
    exact ro_congr (fun j hj => hA.2.1 j (by omega)) (r1 x.toInt.toNat (by omega) hk)
  · show ro (fun j => A 2 (23016 * i + j))
    have hn' : ¬ A 3 i = 0 := hn
    rw [hA.1 3 (by decide)] at hn'
    rw [hA.1 2 (by decide)]
    exact r1 i hi hn'
section LRC
variable {p : Program} {l : Launch} {e : Env} {R : Room} {s : State} {m : MethodId} {args : Array Value} {below : List Frame} {meth : Method} {c : Code} {H : Heap} {locs : List Loc} {cs ss : Nat} {Q : State → Prop} {D : va_G} {own : String} {cc : ByteArray} {ls : Array Slot} {pc : Nat}
theorem la_rim {K bC bR sh idx : Nat} {x : Int32} {rest : List Value} (hK2 : K = 69 ∨ K = 34) (cx : la_cx p s m args c R own cc) (hI : la_I D s bC bR sh H locs) (hlk : Jvm.Cond.methodLink own idx (ai_T K).2.1 ∈ ai_tb) (hls : ls.size = 4) (hcs : cs ≤ R.cells ∧ ss ≤ R.slots) (hcat : (rest.map fun v => v.category).sum ≤ 8) (hdg : decode cc pc = .ok (.invokevirtual idx, 3))
    (kk : ∀ (z : Int32) (H1 : Heap) (Lc : List Loc), la_I D s bC bR sh H1 (locs ++ Lc) → W p l e R s m args below meth c H1 (locs ++ Lc) cs ss Q (F0 m (pc + 3) ls (.int z :: rest))) : W p l e R s m args below meth c H locs cs ss Q (F0 m pc ls ([.int x] ++ .ref bR :: rest)) := by
  obtain ⟨hsh, wC, wR, tys, sbC, sbR, hP, hD, hK, hS, hC1, hR1, hr, hbC, hbR⟩ := hI
  obtain ⟨vs, hev⟩ := la_head hR1 (ci := 10) rfl hbR
  have hkd : ∀ K, K = 69 ∨ K = 34 → (ai_T K).2.2.2.2.2.2.2 = 0 ∧ ((ai_T K).2.2.2.2.2.2.1.frames ≤ 2000 ∧ (ai_T K).2.2.2.2.2.2.1.locals ≤ 30000 ∧ (ai_T K).2.2.2.1 ≤ 100) ∧ (ai_T K).2.2.2.2.2.1 = 1 ∧ RX10 = (ai_T K).2.1.cls ∧ (ai_T K).2.2.2.2.2.2.1.cells = 0 ∧ (ai_T K).2.2.2.2.2.2.1.slots = 0 := by
    intro K h
    rcases h with rfl | rfl
    · decide +kernel
    · decide +kernel
  obtain ⟨d1, d2, d3, d4, d5, d6⟩ := hkd K hK2
  have hM : Met l (ai_T K).2.1 (Jvm.Cond.code (ai_T K).2.1 (ai_T K).2.2.1 (ai_T K).2.2.2.1 (ai_T K).2.2.2.2.1 :: ai_tb) (ai_T K).2.2.2.2.2.2.1 (ai_Pc D wR tys (.ref bR :: [x].map .int) H.size) (la_G D wR lr_G (va_A wR H.size)) (ai_T K).2.2.2.2.2.2.1.cells (ai_T K).2.2.2.2.2.2.1.slots (va_A wR H.size) := by
    rcases hK2 with rfl | rfl
    · exact lr_image l D x H.size hbR hR1 hr
    · exact lr_back l D x H.size hbR hR1 hr
  refine la_call (md := ai_T K) (Φ := lr_G) (xs := [x]) (X := wR) (Y := wC) (ci := 10) (q9 := (RX10, TX10, 62)) cx (ai_hM K (by omega)) d1 d2 d3 hlk hls (la_Psw hP) (la_Dsw hD) hK hS hev rfl d4 hM (by rw [d5, d6]; exact hcs) hcat hdg ?_
  intro z X1 tys1 y H1 Lc e2 g1 g2 g3 g4 g5
  obtain ⟨sb', g6, g7⟩ := g5
  obtain ⟨-, e3⟩ := la_y hR1 g6 e2
  have := kk z H1 Lc ⟨hsh, wC, X1, tys ++ tys1, sbC, sb', la_Psw g1, la_Dsw g2, la_Kapp hK g3, g4, la_wst la_tl hC1, la_wst la_tr g6, lr_It la_tr g7, hbC, by rw [e3]; exact hbR⟩
  rw [d5, d6]
  exact this
end LRC
