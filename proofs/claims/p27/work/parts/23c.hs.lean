/-! ===== it is as the machine goes: instructions ===== -/
section HSI
variable {p : Program} {l : Launch} {e : Env} {R : Room} {s : State} {m : MethodId} {args : Array Value} {below : List Frame} {meth : Method} {c : Code} {Q : State → Prop} {D : va_G} {A : Nat → Prop} {nL : Nat} {sb : ai_SB} {sh : List (Nat × Nat)} {ad : List Nat} {xs : Nat → Int32} {M : Nat} {lv : hs_L} {st : List hs_V} {S : hs_S} {E : hs_E} {wl : List Nat} {P : hs_Q} {f : List ai_E → hs_L → List hs_V → hs_S → Prop}
theorem hs_swi_ok {g : Int → Prop} {x : Int} : ∀ (offs : List Int) (j : Int), hs_swi g x j offs → j ≤ x → x < j + (offs.length : Int) → ∃ off, offs[(x - j).toNat]? = some off ∧ g off
  | [], j, _, h1, h2 => by simp at h2; omega
  | off :: r, j, h, h1, h2 => by
    rw [List.length_cons] at h2
    by_cases e : x = j
    · subst e
      exact ⟨off, by simp, h.1 rfl⟩
    · obtain ⟨o, q1, q2⟩ := hs_swi_ok r (j + 1) h.2 (by omega) (by omega)
      refine ⟨o, ?_, q2⟩
      rw [show (x - j).toNat = (x - (j + 1)).toNat + 1 by omega]
      simpa using q1
theorem hs_cd_ok {q : Jvm.ClassFile.Cond} {x y : Int} {a b : Prop} (h : hs_cd q x y a b) : (ai_cP (ai_op q) x y → a) ∧ (¬ ai_cP (ai_op q) x y → b) := by
  cases q with
  | eq => exact h
  | ne => exact ⟨fun g => h.1 g, fun g => h.2 (Decidable.not_not.mp g)⟩
  | lt => exact h
  | ge => exact ⟨fun g => h.1 (Int.not_lt.mp g), fun g => h.2 (fun g2 => g (Int.not_lt.mpr g2))⟩
  | gt => exact h
  | le => exact ⟨fun g => h.1 (Int.not_lt.mp g), fun g => h.2 (fun g2 => g (Int.not_lt.mpr g2))⟩
theorem hs_in_ok {en : ai_E} {r : List ai_E} (hnL : (ai_T M).2.2.2.1 = nL) (cx : ai_cx2 p s m args meth c R (ai_T M) A sb 0 xs) (hcode : ai_codeok ai_T (ai_T M) (en :: r)) (hE : ∀ K, hs_C sh K (E K)) (hf : ∀ code' lv' st' S', f code' lv' st' S' → ai_codeok ai_T (ai_T M) code' → ∃ en r, code' = en :: r ∧ hs_K p l e R s m args below meth c Q D A nL sb sh ad en.1 lv' st' S') (hret : ∀ pc lv' ro S', hs_rv (ai_T M) pc ro → P ro S' → hs_K p l e R s m args below meth c Q D A nL sb sh ad pc lv' ro S') (h : hs_in E wl sh P nL f M en r lv st S) : hs_K p l e R s m args below meth c Q D A nL sb sh ad en.1 lv st S := by
  intro ls stk H locs ws tys ha hls hst hP hD hKk hS hW
  obtain ⟨⟨⟨hd, hlen, hw⟩, hj, hw2⟩, hnx, hcr⟩ := hcode
  have nx : ∀ lv' st' S', f r lv' st' S' → hs_K p l e R s m args below meth c Q D A nL sb sh ad (en.1 + en.2.2.1) lv' st' S' := by
    intro lv' st' S' g
    obtain ⟨en2, r2, e2, k2⟩ := hf r lv' st' S' g hcr
    rw [hnx en2 r2 e2] at k2
    exact k2
  have jp : ∀ q lv' st' S', f (ai_B1 M q) lv' st' S' → hs_K p l e R s m args below meth c Q D A nL sb sh ad q lv' st' S' := by
    intro q lv' st' S' g
    obtain ⟨en2, r2, e2, k2⟩ := hf _ lv' st' S' g (ai_hB M q).1
    rw [(ai_hB M q).2 en2 r2 e2] at k2
    exact k2
  have cx0 := cx
  obtain ⟨⟨hx, hb, hml, hown, hts, hA, hini, hR, hao, hsc⟩, hnw, hsx⟩ := cx
  obtain ⟨pc, ins, len, na, nb, ni, nz⟩ := en
  unfold hs_in at h
  dsimp only at hd hlen hw hj hw2 hnx nx h ⊢
  have l1 : ai_len ins = 1 → len = 1 := fun q => by rcases hlen with h | h <;> omega
  have l2 : ai_len ins = 2 → len = 2 := fun q => by rcases hlen with h | h <;> omega
  have l3 : ai_len ins = 3 → len = 3 := fun q => by rcases hlen with h | h <;> omega
  have go : ∀ {pc' : Nat} {lv' : hs_L} {st' : List hs_V} {stk' : List Value} {S' : hs_S}, hs_K p l e R s m args below meth c Q D A nL sb sh ad pc' lv' st' S' → hs_lv ad lv' nL ls → ai_F2 (hs_vm ad) st' stk' → hs_ok sb.2 sh tys S' ws → W p l e R s m args below meth c H locs 0 0 Q (F0 m pc' ls stk') := fun k q1 q2 q3 => k ls _ H locs ws tys ha q1 q2 hP hD hKk hS q3
  have stor : ∀ {pc' i : Nat} {v : hs_V} {u : Value} {st' : List hs_V} {stk' : List Value} {ls' : Array Slot} {l' : List (Nat × Value)}, hs_K p l e R s m args below meth c Q D A nL sb sh ad pc' (hs_s1 lv i v) st' S → ai_F2 (fun (a : Nat × hs_V) (q : Nat × Value) => a.1 = q.1 ∧ hs_vm ad a.2 q.2) lv l' → hs_vm ad v u → ai_F2 (hs_vm ad) st' stk' → lv_has ls' nL ((i, u) :: l'.filter (fun q => !(q.1 == i) && !(q.1 + 1 == i && q.2.category == 2))) → W p l e R s m args below meth c H locs 0 0 Q (F0 m pc' ls' stk') := fun k q1 q2 q3 q4 => k _ _ H locs ws tys ha ⟨_, q4, ⟨rfl, q2⟩, q1.filt hs_cat_f⟩ q3 hP hD hKk hS hW
  have cell : ∀ {k q : Nat} {c0 : Nat × Nat}, 0 < k → sh[k]? = some c0 → ad[k]? = some q → ∃ e0, ws[k]? = some (q, e0) ∧ hs_ar sb.2 tys S k c0 e0 := by
    intro k q c0 h1 h2 h3
    obtain ⟨a, e0, g1, g2⟩ := hW.2.2 k c0 h1 h2
    rw [← ha, List.getElem?_map, g1] at h3
    cases h3
    exact ⟨e0, g1, g2⟩
  have ix : ∀ {i n : Nat} {x : Int32}, 0 ≤ x.toInt ∧ x.toInt < (n : Int) → vp_in x n ∧ x.toNatClampNeg < n ∧ x.toNatClampNeg = x.toInt.toNat := fun {i n x} h => ⟨vp_in_iff.mpr h, Nat.not_le.mp fun q => vp_in_iff.mpr h (Or.inr q), rfl⟩
  have putA : ∀ {k q i pc' : Nat} {v : Int} {e0 e1 : va_E} {c0 : Nat × Nat} {lv' : hs_L} {st' : List hs_V} {stk' : List Value} {H1 : Heap} {locs1 : List Loc}, 0 < k → sh[k]? = some c0 → ws[k]? = some (q, e0) → hs_ar sb.2 tys (S.1, hs_ua S.2 k i v) k c0 e1 → hs_K p l e R s m args below meth c Q D A nL sb sh ad pc' lv' st' (S.1, hs_ua S.2 k i v) → hs_lv ad lv' nL ls → ai_F2 (hs_vm ad) st' stk' → va_P D vwCl (ws.set k (q, e1)) H1 → va_D A (ws.set k (q, e1)) → va_S A s.heap H1 locs1 → W p l e R s m args below meth c H1 locs1 0 0 Q (F0 m pc' ls stk') := by
    intro k q i pc' v e0 e1 c0 lv' st' stk' H1 locs1 h1 h2 h3 h4 kk q1 q2 g1 g2 g3
    exact kk ls _ H1 locs1 _ tys (by rw [ai_fst_set h3]; exact ha) q1 q2 g1 g2 hKk g3 (hW.arr h1 h2 h3 h4)
  split at h
  -- constants
  · cases l1 rfl
    obtain ⟨h1, h2⟩ := hs_lit_ok h
    exact lv_iconst hx hb hd rfl (go (nx _ _ _ h2) hls ⟨⟨_, rfl, hs_int32 h1.1 h1.2⟩, hst⟩ hW)
  · cases l2 rfl
    obtain ⟨h1, h2⟩ := hs_lit_ok h
    exact lv_bipush hx hb hd rfl (go (nx _ _ _ h2) hls ⟨⟨_, rfl, hs_int8 h1.1 h1.2⟩, hst⟩ hW)
  · cases l3 rfl
    obtain ⟨h1, h2⟩ := hs_lit_ok h
    exact lv_sipush hx hb hd rfl (go (nx _ _ _ h2) hls ⟨⟨_, rfl, hs_int16 h1.1 h1.2⟩, hst⟩ hW)
  · rename_i z
    cases l1 rfl
    obtain ⟨h1, h2⟩ := hs_if_ok h
    have h1' : (z : Nat) ≤ 1 := Nat.le_of_ble_eq_true h1
    refine lv_lconst hx hb hd rfl (go (nx _ _ _ h2) hls ⟨⟨_, rfl, ?_⟩, hst⟩ hW)
    rcases (show (z : Nat) = 0 ∨ (z : Nat) = 1 by omega) with e | e <;> rw [e] <;> rfl
  · cases l3 rfl
    obtain ⟨h1, h2⟩ := hs_lit_ok h
    exact lv_ldc2 hx hb hown (hts _ hw) hd (go (nx _ _ _ h2) hls ⟨⟨_, rfl, hs_int64 h1.1 h1.2⟩, hst⟩ hW)
  -- loads
  · cases l2 rfl
    obtain ⟨x, h1, h2⟩ := hs_oI_ok h
    obtain ⟨u, g1, y, rfl, g2⟩ := hs_at_ls hls h1
    exact lv_iload hx hb hd g1 (go (nx _ _ _ h2) hls ⟨⟨_, rfl, g2⟩, hst⟩ hW)
  · cases l1 rfl
    obtain ⟨x, h1, h2⟩ := hs_oI_ok h
    obtain ⟨u, g1, y, rfl, g2⟩ := hs_at_ls hls h1
    exact lv_iload_n hx hb hd rfl g1 (go (nx _ _ _ h2) hls ⟨⟨_, rfl, g2⟩, hst⟩ hW)
  · cases l2 rfl
    obtain ⟨x, h1, h2⟩ := hs_oL_ok h
    obtain ⟨u, g1, y, rfl, g2⟩ := hs_at_ls hls h1
    exact lv_lload hx hb hd g1 (go (nx _ _ _ h2) hls ⟨⟨_, rfl, g2⟩, hst⟩ hW)
  · cases l1 rfl
    obtain ⟨x, h1, h2⟩ := hs_oL_ok h
    obtain ⟨u, g1, y, rfl, g2⟩ := hs_at_ls hls h1
    exact lv_lload_n hx hb hd rfl g1 (go (nx _ _ _ h2) hls ⟨⟨_, rfl, g2⟩, hst⟩ hW)
  · cases l1 rfl
    obtain ⟨x, h1, h2⟩ := hs_oR_ok h
    obtain ⟨u, g1, q, g2, rfl⟩ := hs_at_ls hls h1
    exact lv_aload_n hx hb hd rfl g1 (go (nx _ _ _ h2) hls ⟨⟨_, g2, rfl⟩, hst⟩ hW)
  -- stores
  · cases l2 rfl
    obtain ⟨x, q, rfl, h1⟩ := hs_sI_ok h
    obtain ⟨h2, h3⟩ := hs_if_ok h1
    obtain ⟨u, stk1, rfl, ⟨y, rfl, g2⟩, hst1⟩ := hst.cons
    obtain ⟨l', k1, k2⟩ := hls
    exact lv_istore hx hb hd k1 (hs_lt h2) rfl (fun ls' k3 => stor (nx _ _ _ h3) k2 ⟨_, rfl, g2⟩ hst1 k3)
  · cases l1 rfl
    obtain ⟨x, q, rfl, h1⟩ := hs_sI_ok h
    obtain ⟨h2, h3⟩ := hs_if_ok h1
    obtain ⟨u, stk1, rfl, ⟨y, rfl, g2⟩, hst1⟩ := hst.cons
    obtain ⟨l', k1, k2⟩ := hls
    exact lv_istore_n hx hb hd rfl k1 (hs_lt h2) rfl (fun ls' k3 => stor (nx _ _ _ h3) k2 ⟨_, rfl, g2⟩ hst1 k3)
  · cases l2 rfl
    obtain ⟨x, q, rfl, h1⟩ := hs_sL_ok h
    obtain ⟨h2, h3⟩ := hs_if_ok h1
    obtain ⟨u, stk1, rfl, ⟨y, rfl, g2⟩, hst1⟩ := hst.cons
    obtain ⟨l', k1, k2⟩ := hls
    exact lv_lstore hx hb hd k1 (hs_lt h2) rfl (fun ls' k3 => nx _ _ _ h3 _ _ H locs ws tys ha ⟨_, k3, ⟨rfl, ⟨_, rfl, g2⟩⟩, k2.filt hs_cat_f2⟩ hst1 hP hD hKk hS hW)
  -- iinc
  · rename_i ii zz
    cases l3 rfl
    obtain ⟨x, h1, h2⟩ := hs_oI_ok h
    obtain ⟨h3, h4⟩ := hs_if_ok h2
    obtain ⟨h5, h6⟩ := hs_lit_ok h4
    obtain ⟨l', k1, k2⟩ := hls
    obtain ⟨k, u, g1, y, rfl, g2⟩ := hs_lk_ok h1 k2
    have h7 := hs_n32_ok (y := y + Int32.ofInt zz) h6 (by rw [Int32.toInt_add, g2, hs_int32 (z := zz) (by omega) (by omega)])
    exact lv_iinc hx hb hd k1 g1 rfl (hs_lt h3) rfl (fun ls' k3 => stor (nx _ _ _ h7) k2 ⟨_, rfl, rfl⟩ hst k3)
  -- two ints
  · cases l1 rfl
    obtain ⟨y, q, rfl, h1⟩ := hs_sI_ok h
    obtain ⟨x, q, rfl, h2⟩ := hs_sI_ok h1
    obtain ⟨u, stk1, rfl, ⟨y', rfl, g1⟩, hst1⟩ := hst.cons
    obtain ⟨u, stk2, rfl, ⟨x', rfl, g2⟩, hst2⟩ := hst1.cons
    exact lv_iadd hx hb hd (go (nx _ _ _ (hs_n32_ok h2 (by rw [Int32.toInt_add, g1, g2]))) hls ⟨⟨_, rfl, rfl⟩, hst2⟩ hW)
  · cases l1 rfl
    obtain ⟨y, q, rfl, h1⟩ := hs_sI_ok h
    obtain ⟨x, q, rfl, h2⟩ := hs_sI_ok h1
    obtain ⟨u, stk1, rfl, ⟨y', rfl, g1⟩, hst1⟩ := hst.cons
    obtain ⟨u, stk2, rfl, ⟨x', rfl, g2⟩, hst2⟩ := hst1.cons
    exact lv_isub hx hb hd (go (nx _ _ _ (hs_n32_ok h2 (by rw [Int32.toInt_sub, g1, g2]))) hls ⟨⟨_, rfl, rfl⟩, hst2⟩ hW)
  · cases l1 rfl
    obtain ⟨y, q, rfl, h1⟩ := hs_sI_ok h
    obtain ⟨x, q, rfl, h2⟩ := hs_sI_ok h1
    obtain ⟨u, stk1, rfl, ⟨y', rfl, g1⟩, hst1⟩ := hst.cons
    obtain ⟨u, stk2, rfl, ⟨x', rfl, g2⟩, hst2⟩ := hst1.cons
    exact lv_imul hx hb hd (go (nx _ _ _ (hs_n32_ok h2 (by rw [Int32.toInt_mul, g1, g2]))) hls ⟨⟨_, rfl, rfl⟩, hst2⟩ hW)
  · cases l1 rfl
    obtain ⟨x, q, rfl, h1⟩ := hs_sI_ok h
    obtain ⟨u, stk1, rfl, ⟨x', rfl, g1⟩, hst1⟩ := hst.cons
    exact lv_ineg hx hb hd (go (nx _ _ _ (hs_n32_ok h1 (by rw [Int32.toInt_neg, g1]))) hls ⟨⟨_, rfl, rfl⟩, hst1⟩ hW)
  · cases l1 rfl
    obtain ⟨y, q, rfl, h1⟩ := hs_sI_ok h
    obtain ⟨x, q, rfl, h2, h3⟩ := hs_sI_ok h1
    obtain ⟨u, stk1, rfl, ⟨y', rfl, g1⟩, hst1⟩ := hst.cons
    obtain ⟨u, stk2, rfl, ⟨x', rfl, g2⟩, hst2⟩ := hst1.cons
    refine lv_idiv hx hb hd (fun g => h2 (by rw [← g1, g]; rfl)) (go (nx _ _ _ (h3 (x' / y').toInt (fun z1 z2 => ?_))) hls ⟨⟨_, rfl, rfl⟩, hst2⟩ hW)
    rw [Int32.toInt_div, g1, g2, Int.tdiv_eq_ediv_of_nonneg z1]
    refine ai_bm32 ?_ ?_
    · have := Int.ediv_nonneg z1 (Int.le_of_lt z2); omega
    · have h8 := Int.ediv_le_self y z1
      have h9 := (ai_i32 x').2
      omega
  · cases l1 rfl
    obtain ⟨y, q, rfl, h1⟩ := hs_sI_ok h
    obtain ⟨x, q, rfl, h2⟩ := hs_sI_ok h1
    obtain ⟨u, stk1, rfl, ⟨y', rfl, g1⟩, hst1⟩ := hst.cons
    obtain ⟨u, stk2, rfl, ⟨x', rfl, g2⟩, hst2⟩ := hst1.cons
    exact lv_iand hx hb hd (go (nx _ _ _ (h2 (x' &&& y').toInt (fun z1 => by rw [← g1]; exact ai_and_le (by rw [g1]; exact z1)))) hls ⟨⟨_, rfl, rfl⟩, hst2⟩ hW)
  · cases l1 rfl
    obtain ⟨y, q, rfl, h1⟩ := hs_sI_ok h
    obtain ⟨x, q, rfl, h2⟩ := hs_sI_ok h1
    obtain ⟨u, stk1, rfl, ⟨y', rfl, g1⟩, hst1⟩ := hst.cons
    obtain ⟨u, stk2, rfl, ⟨x', rfl, g2⟩, hst2⟩ := hst1.cons
    exact lv_ior hx hb hd (go (nx _ _ _ (h2 (x' ||| y').toInt)) hls ⟨⟨_, rfl, rfl⟩, hst2⟩ hW)
  · cases l1 rfl
    obtain ⟨y, q, rfl, h1⟩ := hs_sI_ok h
    obtain ⟨x, q, rfl, h2⟩ := hs_sI_ok h1
    obtain ⟨u, stk1, rfl, ⟨y', rfl, g1⟩, hst1⟩ := hst.cons
    obtain ⟨u, stk2, rfl, ⟨x', rfl, g2⟩, hst2⟩ := hst1.cons
    exact lv_ishl hx hb hd (go (nx _ _ _ (h2 _)) hls ⟨⟨_, rfl, rfl⟩, hst2⟩ hW)
  · cases l1 rfl
    obtain ⟨y, q, rfl, h1⟩ := hs_sI_ok h
    obtain ⟨x, q, rfl, h2⟩ := hs_sI_ok h1
    obtain ⟨u, stk1, rfl, ⟨y', rfl, g1⟩, hst1⟩ := hst.cons
    obtain ⟨u, stk2, rfl, ⟨x', rfl, g2⟩, hst2⟩ := hst1.cons
    exact lv_ishr hx hb hd (go (nx _ _ _ (h2 _)) hls ⟨⟨_, rfl, rfl⟩, hst2⟩ hW)
  -- i2l, l2i
  · cases l1 rfl
    obtain ⟨x, q, rfl, h1⟩ := hs_sI_ok h
    obtain ⟨u, stk1, rfl, ⟨x', rfl, g1⟩, hst1⟩ := hst.cons
    exact lv_i2l hx hb hd rfl (go (nx _ _ _ h1) hls ⟨⟨_, rfl, by rw [Int32.toInt_toInt64]; exact g1⟩, hst1⟩ hW)
  · cases l1 rfl
    obtain ⟨x, q, rfl, h1⟩ := hs_sL_ok h
    obtain ⟨u, stk1, rfl, ⟨x', rfl, g1⟩, hst1⟩ := hst.cons
    exact lv_l2i hx hb hd rfl (go (nx _ _ _ (h1 x'.toInt32.toInt (fun z1 z2 => by rw [Int64.toInt_toInt32, g1]; exact ai_bm32 z1 z2))) hls ⟨⟨_, rfl, rfl⟩, hst1⟩ hW)
  -- two longs
  · cases l1 rfl
    obtain ⟨y, q, rfl, h1⟩ := hs_sL_ok h
    obtain ⟨x, q, rfl, h2⟩ := hs_sL_ok h1
    obtain ⟨u, stk1, rfl, ⟨y', rfl, g1⟩, hst1⟩ := hst.cons
    obtain ⟨u, stk2, rfl, ⟨x', rfl, g2⟩, hst2⟩ := hst1.cons
    exact lv_ladd hx hb hd (go (nx _ _ _ (hs_w64_ok h2 (by rw [Int64.toInt_add, g1, g2]))) hls ⟨⟨_, rfl, rfl⟩, hst2⟩ hW)
  · cases l1 rfl
    obtain ⟨y, q, rfl, h1⟩ := hs_sL_ok h
    obtain ⟨x, q, rfl, h2⟩ := hs_sL_ok h1
    obtain ⟨u, stk1, rfl, ⟨y', rfl, g1⟩, hst1⟩ := hst.cons
    obtain ⟨u, stk2, rfl, ⟨x', rfl, g2⟩, hst2⟩ := hst1.cons
    exact lv_lsub hx hb hd (go (nx _ _ _ (hs_w64_ok h2 (by rw [Int64.toInt_sub, g1, g2]))) hls ⟨⟨_, rfl, rfl⟩, hst2⟩ hW)
  · cases l1 rfl
    obtain ⟨y, q, rfl, h1⟩ := hs_sL_ok h
    obtain ⟨x, q, rfl, h2⟩ := hs_sL_ok h1
    obtain ⟨u, stk1, rfl, ⟨y', rfl, g1⟩, hst1⟩ := hst.cons
    obtain ⟨u, stk2, rfl, ⟨x', rfl, g2⟩, hst2⟩ := hst1.cons
    exact lv_lmul hx hb hd (go (nx _ _ _ (hs_w64_ok h2 (by rw [Int64.toInt_mul, g1, g2]))) hls ⟨⟨_, rfl, rfl⟩, hst2⟩ hW)
  · cases l1 rfl
    obtain ⟨y, q, rfl, h1⟩ := hs_sL_ok h
    obtain ⟨x, q, rfl, h2, h3⟩ := hs_sL_ok h1
    obtain ⟨u, stk1, rfl, ⟨y', rfl, g1⟩, hst1⟩ := hst.cons
    obtain ⟨u, stk2, rfl, ⟨x', rfl, g2⟩, hst2⟩ := hst1.cons
    exact lv_ldiv hx hb hd (fun g => h2 (by rw [← g1, g]; rfl)) (go (nx _ _ _ (h3 _)) hls ⟨⟨_, rfl, rfl⟩, hst2⟩ hW)
  · cases l1 rfl
    obtain ⟨y, q, rfl, h1⟩ := hs_sL_ok h
    obtain ⟨x, q, rfl, h2⟩ := hs_sL_ok h1
    obtain ⟨u, stk1, rfl, ⟨y', rfl, g1⟩, hst1⟩ := hst.cons
    obtain ⟨u, stk2, rfl, ⟨x', rfl, g2⟩, hst2⟩ := hst1.cons
    refine W.lcmp hx hb hd (go (nx _ _ _ (h2 (lg_cmp x' y').toInt ?_ ?_ ?_)) hls ⟨⟨_, rfl, rfl⟩, hst2⟩ hW)
    · intro g
      rw [← g1, ← g2] at g
      exact hs_cmpL g
    · intro g
      rw [← g1, ← g2] at g
      exact hs_cmpE g
    · intro g
      rw [← g1, ← g2] at g
      exact hs_cmpG g
  -- dup
  · cases l1 rfl
    split at h
    · obtain ⟨u, stk1, rfl, g1, hst1⟩ := hst.cons
      exact lv_dup hx hb hd (by rw [g1.cat]; rfl) (go (nx _ _ _ h) hls ⟨g1, g1, hst1⟩ hW)
    · obtain ⟨u, stk1, rfl, g1, hst1⟩ := hst.cons
      exact lv_dup hx hb hd (by rw [g1.cat]; rfl) (go (nx _ _ _ h) hls ⟨g1, g1, hst1⟩ hW)
    · cases h
  · cases l1 rfl
    split at h
    · obtain ⟨u, stk1, rfl, g1, hst1⟩ := hst.cons
      obtain ⟨u, stk2, rfl, g2, hst2⟩ := hst1.cons
      exact lv_dup2_11 hx hb hd (by rw [g1.cat]; rfl) (by rw [g2.cat]; rfl) (go (nx _ _ _ h) hls ⟨g1, g2, g1, g2, hst2⟩ hW)
    · cases h
  -- fields
  · cases l3 rfl
    obtain ⟨z, q, rfl, h1⟩ := hs_sR_ok h
    obtain ⟨h2, h3⟩ := hs_if_ok h1
    rw [Bool.and_eq_true, beq_iff_eq, beq_iff_eq] at h2
    obtain ⟨h2, rfl⟩ := h2
    obtain ⟨fk, hfk, h4⟩ := hs_gf_ok h3
    obtain ⟨u, stk1, rfl, ⟨a, g1, rfl⟩, hst1⟩ := hst.cons
    obtain ⟨-, ⟨a0, e0, k1, vs, rfl, k3, k4⟩, -⟩ := id hW
    rw [h2, ← ha, List.getElem?_map, k1] at g1
    cases g1
    obtain ⟨u, k5, k6, -⟩ := k4 nb fk hfk
    obtain ⟨q9, hq, hk, hl⟩ := hw
    exact va_get (C := q9.1) (T := q9.2.1) (N := q9.2.2) hx hb hts (ai_clok_ok 10 q9 hq).1 hown hKk hP 0 k1 hq nb hk (hts _ hl) (fun _ h => h) k5 hd (go (nx _ _ _ h4) hls ⟨by rw [← ha]; exact k6, hst1⟩ hW)
  · cases l3 rfl
    split at h
    · rename_i vt vz q0
      obtain ⟨z, q, rfl, h1⟩ := hs_sR_ok h
      obtain ⟨h2, h3⟩ := hs_if_ok h1
      rw [Bool.and_eq_true, beq_iff_eq, beq_iff_eq] at h2
      obtain ⟨h2, rfl⟩ := h2
      obtain ⟨uv, stk0, rfl, gv, hst0⟩ := hst.cons
      obtain ⟨u, stk1, rfl, ⟨a, g1, rfl⟩, hst1⟩ := hst0.cons
      obtain ⟨-, ⟨a0, e0, k1, vs, rfl, k3, k4⟩, -⟩ := id hW
      rw [h2, ← ha, List.getElem?_map, k1] at g1
      cases g1
      obtain ⟨q9, hq, hk, hl, hfin⟩ := hw
      have eq9 : q9 = (RX10, TX10, 62) := by
        have e9 : vwCl[10]? = some (RX10, TX10, 62) := rfl
        rw [e9] at hq
        cases hq
        rfl
      subst eq9
      have hk' : nb < 62 := hk
      have hty := hs_ty hk'
      have fin : (TX10 nb).2.2.2 = false := by
        rcases hfin with h | ⟨h, h9, -⟩
        · exact h
        · exfalso
          unfold hs_pf at h3
          have := hs_fin hk'
          unfold hs_finc at this
          split at h3
          · rename_i hfk; rw [hfk, h] at this; cases this
          · rename_i hfk; rw [hfk, h] at this; cases this
          · rename_i hfk; rw [hfk, h] at this; cases this
          · cases h3
      obtain ⟨c1, c2, c3⟩ := ai_clok_ok 10 _ hq
      have put : ∀ (fk : Nat × Int), hs_fk[nb]? = some fk → hs_vm ad (hs_fv fk vz) uv → (fk.1 = 2 → vz = 0 ∨ vz = 1) → narrow (ai_ty 10 nb) uv = uv → fits (ai_ty 10 nb) uv = true → f r lv q (hs_up S.1 nb vz, S.2) → W p l e R s m args below meth c H locs 0 0 Q (F0 m pc ls (uv :: .ref a0 :: stk1)) := by
        intro fk hfk hm hbl hn hf9 kk
        refine va_put (C := RX10) (T := TX10) (N := 62) hx hb hts c1 (ai_ty 10) c2 c3 hown hKk hP hD hS 0 k1 hq nb hk (hts _ hl) (fun _ h => h) fin (c2 nb hk) hn hf9 (by rw [k3]; exact hk') hd (fun H1 locs1 g1 g2 g3 => ?_)
        exact nx _ _ _ kk ls _ H1 locs1 _ tys (by rw [ai_fst_set k1]; exact ha) hls hst1 g1 g2 hKk g3 (hW.fld k1 hfk (by rw [ha]; exact hm) hbl)
      unfold hs_pf at h3
      unfold hs_tyc at hty
      split at h3
      · rename_i hfk
        obtain ⟨h4, h5⟩ := hs_if_ok h3
        have e0 : vt = 0 := by simpa using h4
        subst e0
        rw [hfk] at hty
        obtain ⟨x, rfl, gx⟩ := gv
        have ety : ai_ty 10 nb = .int := by
          revert hty
          generalize ai_ty 10 nb = t
          intro hty
          cases t <;> first | rfl | cases hty
        exact put (0, _) hfk ⟨x, rfl, gx⟩ (fun h => by cases h) (by rw [ety]; rfl) (by rw [ety]; rfl) h5
      · rename_i hfk
        obtain ⟨h4, h5⟩ := hs_if_ok h3
        have e0 : vt = 1 := by simpa using h4
        subst e0
        rw [hfk] at hty
        obtain ⟨x, rfl, gx⟩ := gv
        have ety : ai_ty 10 nb = .long := by
          revert hty
          generalize ai_ty 10 nb = t
          intro hty
          cases t <;> first | rfl | cases hty
        exact put (1, _) hfk ⟨x, rfl, gx⟩ (fun h => by cases h) (by rw [ety]; rfl) (by rw [ety]; rfl) h5
      · rename_i hfk
        obtain ⟨h4, h5, h6⟩ := hs_if_ok h3
        have e0 : vt = 0 := by simpa using h4
        subst e0
        rw [hfk] at hty
        obtain ⟨x, rfl, gx⟩ := gv
        have ety : ai_ty 10 nb = .boolean := by
          revert hty
          generalize ai_ty 10 nb = t
          intro hty
          cases t <;> first | rfl | cases hty
        have gx' : x.toInt = vz := gx
        have h5' : vz = 0 ∨ vz = 1 := h5
        have hb01 := ai_bool (y := x) (by omega)
        refine put (2, _) hfk ⟨x, rfl, gx⟩ (fun _ => h5) ?_ ?_ h6
        · rw [ety]; rcases hb01 with rfl | rfl <;> decide +kernel
        · rw [ety]; rcases hb01 with rfl | rfl <;> decide +kernel
      · cases h3
    · cases h
  -- arrays
  · cases l1 rfl
    obtain ⟨i, q, rfl, h1⟩ := hs_sI_ok h
    obtain ⟨z, q, rfl, h2⟩ := hs_sR_ok h1
    obtain ⟨h3, h4⟩ := hs_if_ok h2
    unfold hs_at at h4
    split at h4
    · rename_i t n hsh
      obtain ⟨h5, h6, h7⟩ := hs_if_ok h4
      obtain ⟨ui, stk1, rfl, ⟨i', rfl, g1⟩, hst1⟩ := hst.cons
      obtain ⟨ua, stk2, rfl, ⟨a, g2, rfl⟩, hst2⟩ := hst1.cons
      obtain ⟨e0, g3, g4⟩ := cell (hs_lt h3) hsh g2
      have et : t = 0 := by simpa using h5
      subst et
      obtain ⟨cA, ff, t0, rfl, ht, hel⟩ := g4
      obtain ⟨v1, v2, v3⟩ := ix (i := 0) (n := n) (x := i') (by rw [g1]; exact h6)
      exact va_iald hx hb hKk hP z.toNat t0 g3 ht v1 hd (go (nx _ _ _ h7) hls ⟨⟨_, rfl, by rw [hel _ v2, v3, g1]⟩, hst2⟩ hW)
    · cases h4
  · cases l1 rfl
    obtain ⟨i, q, rfl, h1⟩ := hs_sI_ok h
    obtain ⟨z, q, rfl, h2⟩ := hs_sR_ok h1
    obtain ⟨h3, h4⟩ := hs_if_ok h2
    unfold hs_at at h4
    split at h4
    · rename_i t n hsh
      obtain ⟨h5, h6, h7⟩ := hs_if_ok h4
      obtain ⟨ui, stk1, rfl, ⟨i', rfl, g1⟩, hst1⟩ := hst.cons
      obtain ⟨ua, stk2, rfl, ⟨a, g2, rfl⟩, hst2⟩ := hst1.cons
      obtain ⟨e0, g3, g4⟩ := cell (hs_lt h3) hsh g2
      have et : t = 2 := by simpa using h5
      subst et
      obtain ⟨cA, ff, t0, rfl, ht, hel⟩ := g4
      obtain ⟨v1, v2, v3⟩ := ix (i := 0) (n := n) (x := i') (by rw [g1]; exact h6)
      exact va_zald hx hb hKk hP z.toNat t0 g3 ht v1 hd (go (nx _ _ _ h7) hls ⟨⟨_, rfl, by rw [hel _ v2, v3, g1]⟩, hst2⟩ hW)
    · cases h4
  · cases l1 rfl
    obtain ⟨i, q, rfl, h1⟩ := hs_sI_ok h
    obtain ⟨z, q, rfl, h2⟩ := hs_sR_ok h1
    obtain ⟨h3, h4⟩ := hs_if_ok h2
    unfold hs_at at h4
    split at h4
    · rename_i t n hsh
      obtain ⟨h5, h6, h7⟩ := hs_if_ok h4
      obtain ⟨ui, stk1, rfl, ⟨i', rfl, g1⟩, hst1⟩ := hst.cons
      obtain ⟨ua, stk2, rfl, ⟨a, g2, rfl⟩, hst2⟩ := hst1.cons
      obtain ⟨e0, g3, g4⟩ := cell (hs_lt h3) hsh g2
      have et : t = 1 := by simpa using h5
      subst et
      obtain ⟨cA, ff, t0, rfl, ht, hel⟩ := g4
      obtain ⟨v1, v2, v3⟩ := ix (i := 0) (n := n) (x := i') (by rw [g1]; exact h6)
      exact va_lald hx hb hKk hP z.toNat t0 g3 ht v1 hd (go (nx _ _ _ h7) hls ⟨⟨_, rfl, by rw [hel _ v2, v3, g1]⟩, hst2⟩ hW)
    · cases h4
  · cases l1 rfl
    obtain ⟨v, q, rfl, h0⟩ := hs_sI_ok h
    obtain ⟨i, q, rfl, h1⟩ := hs_sI_ok h0
    obtain ⟨z, q, rfl, h2⟩ := hs_sR_ok h1
    obtain ⟨h3, h4⟩ := hs_if_ok h2
    unfold hs_at at h4
    split at h4
    · rename_i t n hsh
      obtain ⟨h5, h6, h7⟩ := hs_if_ok h4
      obtain ⟨uv, stk0, rfl, ⟨v', rfl, g0⟩, hst0⟩ := hst.cons
      obtain ⟨ui, stk1, rfl, ⟨i', rfl, g1⟩, hst1⟩ := hst0.cons
      obtain ⟨ua, stk2, rfl, ⟨a, g2, rfl⟩, hst2⟩ := hst1.cons
      obtain ⟨e0, g3, g4⟩ := cell (hs_lt h3) hsh g2
      have et : t = 0 := by simpa using h5
      subst et
      obtain ⟨cA, ff, t0, rfl, ht, hel⟩ := g4
      obtain ⟨v1, v2, v3⟩ := ix (i := 0) (n := n) (x := i') (by rw [g1]; exact h6)
      refine va_iast hx hb hKk hP hD hS z.toNat t0 g3 ht v1 hd (fun H1 locs1 q1 q2 q3 => putA (hs_lt h3) hsh g3 ⟨cA, _, t0, rfl, ht, fun j hj => ?_⟩ (nx _ _ _ h7) hls hst2 q1 q2 q3)
      show (upd ff i'.toNatClampNeg v' j).toInt = hs_ua S.2 z.toNat i.toNat v z.toNat j
      rw [hs_ua_k, v3, g1]
      by_cases ej : j = i.toNat
      · rw [if_pos ej, ej, pk_us, g0]
      · rw [if_neg ej, pk_un ej, hel j hj]
    · cases h4
  · cases l1 rfl
    obtain ⟨v, q, rfl, h0⟩ := hs_sI_ok h
    obtain ⟨i, q, rfl, h1⟩ := hs_sI_ok h0
    obtain ⟨z, q, rfl, h2⟩ := hs_sR_ok h1
    obtain ⟨h3, h4⟩ := hs_if_ok h2
    unfold hs_at at h4
    split at h4
    · rename_i t n hsh
      obtain ⟨h5, h6, h8, h7⟩ := hs_if_ok h4
      obtain ⟨uv, stk0, rfl, ⟨v', rfl, g0⟩, hst0⟩ := hst.cons
      obtain ⟨ui, stk1, rfl, ⟨i', rfl, g1⟩, hst1⟩ := hst0.cons
      obtain ⟨ua, stk2, rfl, ⟨a, g2, rfl⟩, hst2⟩ := hst1.cons
      obtain ⟨e0, g3, g4⟩ := cell (hs_lt h3) hsh g2
      have et : t = 2 := by simpa using h5
      subst et
      obtain ⟨cA, ff, t0, rfl, ht, hel⟩ := g4
      obtain ⟨v1, v2, v3⟩ := ix (i := 0) (n := n) (x := i') (by rw [g1]; exact h6)
      have hn : vp_nar .boolean v' = v' := by
        rcases ai_bool (y := v') (by omega) with rfl | rfl <;> decide +kernel
      refine va_zast hx hb hKk hP hD hS z.toNat t0 g3 ht v1 hd (fun H1 locs1 q1 q2 q3 => putA (hs_lt h3) hsh g3 ⟨cA, _, t0, rfl, ht, fun j hj => ?_⟩ (nx _ _ _ h7) hls hst2 q1 q2 q3)
      show (upd ff i'.toNatClampNeg (vp_nar .boolean v') j).toInt = hs_ua S.2 z.toNat i.toNat v z.toNat j
      rw [hs_ua_k, v3, g1, hn]
      by_cases ej : j = i.toNat
      · rw [if_pos ej, ej, pk_us, g0]
      · rw [if_neg ej, pk_un ej, hel j hj]
    · cases h4
  · cases l1 rfl
    obtain ⟨v, q, rfl, h0⟩ := hs_sL_ok h
    obtain ⟨i, q, rfl, h1⟩ := hs_sI_ok h0
    obtain ⟨z, q, rfl, h2⟩ := hs_sR_ok h1
    obtain ⟨h3, h4⟩ := hs_if_ok h2
    unfold hs_at at h4
    split at h4
    · rename_i t n hsh
      obtain ⟨h5, h6, h7⟩ := hs_if_ok h4
      obtain ⟨uv, stk0, rfl, ⟨v', rfl, g0⟩, hst0⟩ := hst.cons
      obtain ⟨ui, stk1, rfl, ⟨i', rfl, g1⟩, hst1⟩ := hst0.cons
      obtain ⟨ua, stk2, rfl, ⟨a, g2, rfl⟩, hst2⟩ := hst1.cons
      obtain ⟨e0, g3, g4⟩ := cell (hs_lt h3) hsh g2
      have et : t = 1 := by simpa using h5
      subst et
      obtain ⟨cA, ff, t0, rfl, ht, hel⟩ := g4
      obtain ⟨v1, v2, v3⟩ := ix (i := 0) (n := n) (x := i') (by rw [g1]; exact h6)
      refine va_last hx hb hKk hP hD hS z.toNat t0 g3 ht v1 hd (fun H1 locs1 q1 q2 q3 => putA (hs_lt h3) hsh g3 ⟨cA, _, t0, rfl, ht, fun j hj => ?_⟩ (nx _ _ _ h7) hls hst2 q1 q2 q3)
      show (vp_updL ff i'.toNatClampNeg v' j).toInt = hs_ua S.2 z.toNat i.toNat v z.toNat j
      rw [hs_ua_k, v3, g1]
      by_cases ej : j = i.toNat
      · rw [if_pos ej, ej, pk_uLs, g0]
      · rw [if_neg ej, pk_uLn ej, hel j hj]
    · cases h4
  -- jumps
  · rename_i off
    cases l3 rfl
    have hj' : 0 ≤ (pc : Int) + off := hj
    exact lv_goto hx hb hd (by omega : (pc : Int) + off = (((pc : Int) + off).toNat : Int)) (go (jp _ _ _ _ h) hls hst hW)
  · rename_i q off
    cases l3 rfl
    have hj' : 0 ≤ (pc : Int) + off := hj
    obtain ⟨x, qq, rfl, h1⟩ := hs_sI_ok h
    obtain ⟨u, stk1, rfl, ⟨x', rfl, g1⟩, hst1⟩ := hst.cons
    rw [← g1] at h1
    obtain ⟨h2, h3⟩ := hs_cd_ok h1
    exact ai_if hx hb hd (by omega : (pc : Int) + off = (((pc : Int) + off).toNat : Int)) (fun g => go (jp _ _ _ _ (h2 g)) hls hst1 hW) (fun g => go (nx _ _ _ (h3 g)) hls hst1 hW)
  · rename_i q off
    cases l3 rfl
    have hj' : 0 ≤ (pc : Int) + off := hj
    obtain ⟨y, qq, rfl, h1⟩ := hs_sI_ok h
    obtain ⟨x, qq, rfl, h1⟩ := hs_sI_ok h1
    obtain ⟨u, stk1, rfl, ⟨y', rfl, g1⟩, hst1⟩ := hst.cons
    obtain ⟨u, stk2, rfl, ⟨x', rfl, g2⟩, hst2⟩ := hst1.cons
    rw [← g1, ← g2] at h1
    obtain ⟨h2, h3⟩ := hs_cd_ok h1
    exact ai_icmp hx hb hd (by omega : (pc : Int) + off = (((pc : Int) + off).toNat : Int)) (fun g => go (jp _ _ _ _ (h2 g)) hls hst2 hW) (fun g => go (nx _ _ _ (h3 g)) hls hst2 hW)
  · rename_i dflt lo hi offs
    obtain ⟨x, qq, rfl, h1⟩ := hs_sI_ok h
    obtain ⟨h2, h3, h4⟩ := hs_if_ok h1
    rw [decide_eq_true_eq] at h2
    obtain ⟨u, stk1, rfl, ⟨x', rfl, g1⟩, hst1⟩ := hst.cons
    have hj' : 0 ≤ (pc : Int) + dflt ∧ ∀ off ∈ offs.toList, 0 ≤ (pc : Int) + off := hj
    by_cases hin : x < lo ∨ hi < x
    · exact lv_tableOut hx hb hd (by rw [g1]; exact hin) (by omega : (pc : Int) + dflt = (((pc : Int) + dflt).toNat : Int)) (go (jp _ _ _ _ (h3 hin)) hls hst1 hW)
    · obtain ⟨off, k1, k2⟩ := hs_swi_ok _ _ h4 (by omega) (by omega)
      have h9 := hj'.2 off (List.mem_of_getElem? k1)
      exact lv_tableIn hx hb hd (by rw [g1]; omega) (by rw [g1]; omega) (by rw [← Array.getElem?_toList, g1]; exact k1) (by omega : (pc : Int) + off = (((pc : Int) + off).toNat : Int)) (go (jp _ _ _ _ k2) hls hst1 hW)
  -- calls
  · cases l3 rfl
    obtain ⟨h1, h2⟩ := hs_if_ok h
    simp only [Bool.and_eq_true, beq_iff_eq] at h1
    obtain ⟨h3, h4, ek, h5⟩ := h1
    have h997 : na < 900 := Nat.le_of_ble_eq_true h3
    unfold hs_may at h5
    simp only [Bool.and_eq_true, Nat.ble_eq, beq_iff_eq] at h5
    obtain ⟨y1, y2, y3, y4, y7, y8, y9⟩ := h5
    have hk3 : ¬ (ai_T na).2.2.2.2.2.2.2 = 3 := by omega
    obtain ⟨m1, m2, m3, m4, m5, m6, m7, m8⟩ := ai_hM na hk3
    obtain ⟨lvl, hlv, -⟩ := id hls
    have hM := hE na sb l D ws tys (stk.take (ai_T na).2.2.2.2.2.1).reverse H.size _ S _ h2 (by rw [ha]; exact (hst.take _).rev) hW
    have hpre : PreS s H (ai_Pc D ws tys (stk.take (ai_T na).2.2.2.2.2.1).reverse H.size) (stk.take (ai_T na).2.2.2.2.2.1).reverse := ⟨ai_Pc_blind _ _ _ _ _, fun U hU hWm => ⟨rfl, by rw [hU], by rw [hU]; exact hP, va_K.moved hWm.alike hKk, hD.weaken (fun _ _ _ _ => trivial), va_AO.moved hWm.alike hao, hnw.warm hWm, hsx.call hS hD hA hU hWm⟩⟩
    have hlen' : (stk.take (ai_T na).2.2.2.2.2.1).reverse.length = (ai_T na).2.2.2.2.2.1 := by rw [List.length_reverse, List.length_take, ← hst.len]; omega
    have hstk : stk = (stk.take (ai_T na).2.2.2.2.2.1).reverse.reverse ++ stk.drop (ai_T na).2.2.2.2.2.1 := by rw [List.reverse_reverse, List.take_append_drop]
    have hcat : 2 * (F0 m pc ls stk).monitorRoom + ((stk.drop (ai_T na).2.2.2.2.2.1).map fun v => v.category).sum ≤ 8 := by
      rw [hs_cats (hst.drop _)]
      show 2 * 0 + _ ≤ 8
      omega
    subst hR
    refine hs_call_ok (a := (stk.take (ai_T na).2.2.2.2.2.1).reverse.toArray) hA ha hP hD hKk hS hls (rest := stk.drop (ai_T na).2.2.2.2.2.1) (rA := st.drop (ai_T na).2.2.2.2.2.1) (hst.drop _) ?_ (fun ro S1 hq => nx _ _ _ hq)
    rcases hw2 h997 with ⟨-, hl⟩ | ⟨h9, hl⟩
    · exact va_runS (cc := (ai_T M).2.2.1) (nL := (ai_T M).2.2.2.1) (own := (ai_T M).1) (Ts := ai_tb) ⟨hx, hb, hml, hown, hts⟩ hM ⟨callB_of (ai_T na).2.2.2.2.2.1 hts (ai_good m3) rfl y8 y9 (hts _ m5) (hts _ hl) m4 ⟨y3, y4⟩, hts _ (m7 ek)⟩ hpre rfl hlen' (by rw [hnL]; exact hlv.1) hstk hcat hd ⟨Nat.zero_le _, Nat.zero_le _⟩
    · omega
  · cases l3 rfl
    obtain ⟨h1, h2⟩ := hs_if_ok h
    simp only [Bool.and_eq_true, beq_iff_eq] at h1
    obtain ⟨ek, enb, h5, h6⟩ := h1
    subst enb
    unfold hs_may at h5
    simp only [Bool.and_eq_true, Nat.ble_eq, beq_iff_eq] at h5
    obtain ⟨y1, y2, y3, y4, y7, y8, y9⟩ := h5
    have hk3 : ¬ (ai_T na).2.2.2.2.2.2.2 = 3 := by omega
    obtain ⟨m1, m2, m3, m4, m5, m6, m7, m8⟩ := ai_hM na hk3
    obtain ⟨lvl, hlv, -⟩ := id hls
    split at h6
    · rename_i a rA hdr
      have hdr2 := hst.drop (ai_T na).2.2.2.2.2.1
      rw [hdr] at hdr2
      obtain ⟨u, S2, hS2, ma, hst2⟩ := hdr2.cons
      obtain ⟨at', az⟩ := a
      simp only [Bool.and_eq_true, beq_iff_eq] at h6
      obtain ⟨e4, e0⟩ := h6
      subst e4
      have ma0 := ma
      obtain ⟨b, hbq, rfl⟩ := ma
      obtain ⟨t1, t2, t3⟩ := ai_rtake hdr
      obtain ⟨u1, u2, u3⟩ := ai_rtake hS2
      obtain ⟨-, ⟨a0, e9, k1, vs9, rfl, k3, k4⟩, -⟩ := id hW
      rw [e0, ← ha, List.getElem?_map, k1] at hbq
      cases hbq
      obtain ⟨hl, q9, hq9, hq8⟩ := hw2
      rw [t2] at h2
      have hM := hE na sb l D ws tys (.ref a0 :: (stk.take (ai_T na).2.2.2.2.2.1).reverse) H.size _ S _ h2 (by rw [ha, t1]; exact ⟨ma0, (hst.take _).rev⟩) hW
      have hpre : PreV s H (ai_T na).2.1.cls a0 (ai_Pc D ws tys (.ref a0 :: (stk.take (ai_T na).2.2.2.2.2.1).reverse) H.size) (stk.take (ai_T na).2.2.2.2.2.1).reverse := ⟨ai_Pc_blind _ _ _ _ _, by rw [← hq8]; exact va_recv hKk hP hq9 k1, fun U hU hWm => ⟨rfl, by rw [hU], by rw [hU]; exact hP, va_K.moved hWm.alike hKk, hD.weaken (fun _ _ _ _ => trivial), va_AO.moved hWm.alike hao, hnw.warm hWm, hsx.call hS hD hA hU hWm⟩⟩
      have hlen' : (stk.take (ai_T na).2.2.2.2.2.1).reverse.length = (ai_T na).2.2.2.2.2.1 := by rw [List.length_reverse, List.length_take, ← hst.len]; omega
      have hstk : stk = (stk.take (ai_T na).2.2.2.2.2.1).reverse.reverse ++ .ref a0 :: S2 := by rw [List.reverse_reverse]; exact u3
      have hcat : 2 * (F0 m pc ls stk).monitorRoom + (S2.map fun v => v.category).sum ≤ 8 := by
        rw [hs_cats hst2]
        rw [t2] at y2
        show 2 * 0 + _ ≤ 8
        omega
      subst hR
      refine hs_call_ok (a := (Value.ref a0 :: (stk.take (ai_T na).2.2.2.2.2.1).reverse).toArray) hA ha hP hD hKk hS hls (rest := S2) (rA := rA) hst2 ?_ (fun ro S1 hq => nx _ _ _ hq)
      exact va_runV (cc := (ai_T M).2.2.1) (nL := (ai_T M).2.2.2.1) (own := (ai_T M).1) (Ts := ai_tb) ⟨hx, hb, hml, hown, hts⟩ hM ⟨callB_of (ai_T na).2.2.2.2.2.1 hts (ai_good m3) rfl y8 y9 (hts _ m5) (hts _ hl) m4 ⟨y3, y4⟩, hts _ (m6 ek).1, hts _ (m6 ek).2⟩ hpre rfl hlen' (by rw [hnL]; exact hlv.1) hstk hcat hd ⟨Nat.zero_le _, Nat.zero_le _⟩
    · cases h6
  -- ends
  · cases l1 rfl
    split at h
    · rename_i z
      unfold hs_rI at h
      split at h
      · rename_i hrt
        exact hret pc lv _ S (Or.inl ⟨hd, z, rfl, Or.inl hrt⟩) h ls _ H locs ws tys ha hls hst hP hD hKk hS hW
      · rename_i hrt
        exact hret pc lv _ S (Or.inl ⟨hd, z, rfl, Or.inr ⟨hrt, h.1⟩⟩) h.2 ls _ H locs ws tys ha hls hst hP hD hKk hS hW
      · cases h
    · cases h
  · cases l1 rfl
    split at h
    · rename_i z
      unfold hs_rL at h
      split at h
      · rename_i hrt
        exact hret pc lv _ S (Or.inr (Or.inl ⟨hd, z, rfl, hrt⟩)) h ls _ H locs ws tys ha hls hst hP hD hKk hS hW
      · cases h
    · cases h
  · cases l1 rfl
    split at h
    · unfold hs_rV at h
      split at h
      · rename_i hrt
        exact hret pc lv _ S (Or.inr (Or.inr ⟨hd, rfl, hrt⟩)) h ls _ H locs ws tys ha hls hst hP hD hKk hS hW
      · cases h
    · cases h
  · cases h
end HSI
