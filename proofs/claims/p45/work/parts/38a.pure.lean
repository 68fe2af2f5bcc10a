/-! ===== methods that touch no cell: what must hold ahead of a piece of code, in plain words ===== -/
abbrev pu_L : Type := List (Nat × Value)
def pu_lk : pu_L → Nat → Option Value
  | [], _ => none
  | (k, v) :: r, i => bif k == i then some v else pu_lk r i
def pu_ldi (o : Option Value) (k : Int32 → Prop) : Prop := match o with
  | some (.int x) => k x
  | _ => False
def pu_ldl (o : Option Value) (k : Int64 → Prop) : Prop := match o with
  | some (.long x) => k x
  | _ => False
def pu_sI (st : List Value) (k : Int32 → List Value → Prop) : Prop := match st with
  | .int x :: r => k x r
  | _ => False
def pu_sL (st : List Value) (k : Int64 → List Value → Prop) : Prop := match st with
  | .long x :: r => k x r
  | _ => False
def pu_s1 (lv : pu_L) (i : Nat) (v : Value) : pu_L := (i, v) :: lv.filter (fun q => !(q.1 == i) && !(q.1 + 1 == i && q.2.category == 2))
def pu_s2 (lv : pu_L) (i : Nat) (v : Value) : pu_L := (i, v) :: lv.filter (fun q => !(q.1 == i) && (!(q.1 == i + 1) && !(q.1 + 1 == i && q.2.category == 2)))
def pu_if (b : Bool) (k : Prop) : Prop := match b with
  | true => k
  | false => False
/-- a method that touches no cell and answers so -/
def pu_C (K : Nat) (vs : List Value) (r : Value) : Prop := ∀ l : Launch, Met l (ai_T K).2.1 (Jvm.Cond.code (ai_T K).2.1 (ai_T K).2.2.1 (ai_T K).2.2.2.1 (ai_T K).2.2.2.2.1 :: ai_tb) (ai_T K).2.2.2.2.2.2.1 (fun a _ => a = vs.toArray) (fun _ st oc t => oc = .returned (some r) ∧ t.heap = st.heap) 0 0 (fun _ => False)
def pu_may (mM mK : ai_MD) (na ni : Nat) (st : List Value) : Bool := Nat.blt na 900 && (ni == 0 && (mK.2.2.2.2.2.2.2 == 1 && (Nat.ble (mK.2.2.2.2.2.2.1.frames + 1) mM.2.2.2.2.2.2.1.frames && (Nat.ble (8 + (mK.2.2.2.1 + 11) + mK.2.2.2.2.2.2.1.locals) mM.2.2.2.2.2.2.1.locals && (mK.2.2.2.2.2.2.1.cells == 0 && (mK.2.2.2.2.2.2.1.slots == 0 && (Nat.ble mK.2.2.2.2.2.1 st.length && Nat.ble ((st.drop mK.2.2.2.2.2.1).map (fun v => v.category)).sum 8)))))))
def pu_in (P : Value → Prop) (nL : Nat) (f : List ai_E → pu_L → List Value → Prop) (M : Nat) (en : ai_E) (r : List ai_E) (lv : pu_L) (st : List Value) : Prop := match en.2.1 with
  | .iconst z => f r lv (.int (Int32.ofInt z) :: st)
  | .bipush z => f r lv (.int (Int8.ofInt z).toInt32 :: st)
  | .lconst z => f r lv (.long (Int64.ofNat z) :: st)
  | .ldc2_w _ => f r lv (.long (Int64.ofInt en.2.2.2.2.2.2) :: st)
  | .iload_n k => pu_ldi (pu_lk lv k) fun x => f r lv (.int x :: st)
  | .iload k => pu_ldi (pu_lk lv k) fun x => f r lv (.int x :: st)
  | .lload_n k => pu_ldl (pu_lk lv k) fun x => f r lv (.long x :: st)
  | .lload k => pu_ldl (pu_lk lv k) fun x => f r lv (.long x :: st)
  | .istore i => pu_sI st fun x q => pu_if (Nat.blt i nL) (f r (pu_s1 lv i (.int x)) q)
  | .lstore_n i => pu_sL st fun x q => pu_if (Nat.blt (i + 1) nL) (f r (pu_s2 lv i (.long x)) q)
  | .lstore i => pu_sL st fun x q => pu_if (Nat.blt (i + 1) nL) (f r (pu_s2 lv i (.long x)) q)
  | .iinc i z => pu_ldi (pu_lk lv i) fun x => pu_if (Nat.blt i nL) (f r (pu_s1 lv i (.int (x + Int32.ofInt z))) st)
  | .iadd => pu_sI st fun y q => pu_sI q fun x q => f r lv (.int (x + y) :: q)
  | .isub => pu_sI st fun y q => pu_sI q fun x q => f r lv (.int (x - y) :: q)
  | .i2l => pu_sI st fun x q => f r lv (.long x.toInt64 :: q)
  | .ladd => pu_sL st fun y q => pu_sL q fun x q => f r lv (.long (x + y) :: q)
  | .lmul => pu_sL st fun y q => pu_sL q fun x q => f r lv (.long (x * y) :: q)
  | .ldiv => pu_sL st fun y q => pu_sL q fun x q => ¬ y = 0 ∧ f r lv (.long (x / y) :: q)
  | .lcmp => pu_sL st fun y q => pu_sL q fun x q => f r lv (.int (lg_cmp x y) :: q)
  | .goto off => f (ai_B1 M ((en.1 : Int) + off).toNat) lv st
  | .ifCond c off => pu_sI st fun x q => (ai_cP (ai_op c) x.toInt 0 → f (ai_B1 M ((en.1 : Int) + off).toNat) lv q) ∧ (¬ ai_cP (ai_op c) x.toInt 0 → f r lv q)
  | .if_icmp c off => pu_sI st fun y q => pu_sI q fun x q => (ai_cP (ai_op c) x.toInt y.toInt → f (ai_B1 M ((en.1 : Int) + off).toNat) lv q) ∧ (¬ ai_cP (ai_op c) x.toInt y.toInt → f r lv q)
  | .invokestatic _ => pu_may (ai_T M) (ai_T en.2.2.2.1) en.2.2.2.1 en.2.2.2.2.2.1 st = true ∧ ∃ v, pu_C en.2.2.2.1 (st.take (ai_T en.2.2.2.1).2.2.2.2.2.1).reverse v ∧ f r lv (v :: st.drop (ai_T en.2.2.2.1).2.2.2.2.2.1)
  | .ireturn => pu_sI st fun x q => (q = [] ∧ ∃ ty, (ai_T M).2.2.2.2.1 = some ty ∧ narrow ty (.int x) = .int x) ∧ P (.int x)
  | .lreturn => pu_sL st fun x q => (q = [] ∧ (ai_T M).2.2.2.2.1 = some .long) ∧ P (.long x)
  | _ => False
def pu_to (f : List ai_E → pu_L → List Value → Prop) (h : Nat) (J : pu_L → List Value → Prop) (c : List ai_E) (lv : pu_L) (st : List Value) : Prop := match c with
  | [] => False
  | en :: _ => match en.1 == h with
    | true => J lv st
    | false => f c lv st
def pu_wp (P : Value → Prop) (nL h : Nat) (J : pu_L → List Value → Prop) (M : Nat) : Nat → List ai_E → pu_L → List Value → Prop
  | 0, _, _, _ => False
  | n + 1, code, lv, st => match code with
    | [] => False
    | en :: r => pu_in P nL (pu_to (pu_wp P nL h J M n) h J) M en r lv st
theorem pu_ldi_ok {o : Option Value} {k : Int32 → Prop} (h : pu_ldi o k) : ∃ x, o = some (.int x) ∧ k x := by
  unfold pu_ldi at h
  split at h
  · exact ⟨_, rfl, h⟩
  · cases h
theorem pu_ldl_ok {o : Option Value} {k : Int64 → Prop} (h : pu_ldl o k) : ∃ x, o = some (.long x) ∧ k x := by
  unfold pu_ldl at h
  split at h
  · exact ⟨_, rfl, h⟩
  · cases h
theorem pu_sI_ok {st : List Value} {k : Int32 → List Value → Prop} (h : pu_sI st k) : ∃ x r, st = .int x :: r ∧ k x r := by
  unfold pu_sI at h
  split at h
  · exact ⟨_, _, rfl, h⟩
  · cases h
theorem pu_sL_ok {st : List Value} {k : Int64 → List Value → Prop} (h : pu_sL st k) : ∃ x r, st = .long x :: r ∧ k x r := by
  unfold pu_sL at h
  split at h
  · exact ⟨_, _, rfl, h⟩
  · cases h
theorem pu_if_ok {b : Bool} {k : Prop} (h : pu_if b k) : b = true ∧ k := by
  unfold pu_if at h
  split at h
  · exact ⟨rfl, h⟩
  · cases h
theorem pu_lk_ok {i : Nat} {v : Value} : ∀ {lv : pu_L}, pu_lk lv i = some v → (i, v) ∈ lv
  | [], h => by cases h
  | (k, u) :: r, h => by
    unfold pu_lk at h
    cases e : k == i with
    | true =>
      rw [e] at h
      cases h
      rw [beq_iff_eq] at e
      subst e
      exact List.mem_cons_self
    | false =>
      rw [e] at h
      exact List.mem_cons_of_mem _ (pu_lk_ok h)
def pu_cx (p : Program) (s : State) (m : MethodId) (args : Array Value) (c : Code) (R : Room) (md : ai_MD) : Prop := p.tables.exec = Jvm.exec ∧ c.code = md.2.2.1 ∧ c.maxLocals = md.2.2.2.1 ∧ s.vm.findClass md.1 = some m.cls ∧ (∀ w ∈ ai_tb, w.before args s = true) ∧ R = md.2.2.2.2.2.2.1
section PUA
variable {p : Program} {l : Launch} {e : Env} {R : Room} {s : State} {m : MethodId} {args : Array Value} {below : List Frame} {meth : Method} {c : Code} {H : Heap} {locs : List Loc} {Q : State → Prop} {M nL : Nat} {P : Value → Prop} {f : List ai_E → pu_L → List Value → Prop}
theorem pu_call {na pc : Nat} {idx ni : Nat} {ls : Array Slot} {st : List Value} {v : Value} (cx : pu_cx p s m args c R (ai_T M)) (hd : decode (ai_T M).2.2.1 pc = .ok (.invokestatic idx, 3)) (hl : ai_link (ai_T M) (ai_T na) idx ni) (hnL : ls.size = (ai_T M).2.2.2.1) (hmay : pu_may (ai_T M) (ai_T na) na ni st = true) (hC : pu_C na (st.take (ai_T na).2.2.2.2.2.1).reverse v) (kk : W p l e R s m args below meth c H locs 0 0 Q (F0 m (pc + 3) ls (v :: st.drop (ai_T na).2.2.2.2.2.1))) : W p l e R s m args below meth c H locs 0 0 Q (F0 m pc ls st) := by
  obtain ⟨hx, hb, hml, hown, hts, hR⟩ := cx
  unfold pu_may at hmay
  simp only [Bool.and_eq_true, beq_iff_eq, Nat.ble_eq] at hmay
  obtain ⟨y0, yn, y1, y2, y3, y4, y5, y6, y7⟩ := hmay
  obtain ⟨m1, m2, m3, m4, m5, m6, m7, m8⟩ := ai_hM na (by omega)
  subst hR
  have hlen' : (st.take (ai_T na).2.2.2.2.2.1).reverse.length = (ai_T na).2.2.2.2.2.1 := by rw [List.length_reverse, List.length_take]; omega
  have hstk : st = (st.take (ai_T na).2.2.2.2.2.1).reverse.reverse ++ st.drop (ai_T na).2.2.2.2.2.1 := by rw [List.reverse_reverse, List.take_append_drop]
  have hcat : 2 * (F0 m pc ls st).monitorRoom + ((st.drop (ai_T na).2.2.2.2.2.1).map fun v => v.category).sum ≤ 8 := by
    show 2 * 0 + _ ≤ 8
    omega
  have hpre : PreS s H (fun a _ => a = (st.take (ai_T na).2.2.2.2.2.1).reverse.toArray) (st.take (ai_T na).2.2.2.2.2.1).reverse := ⟨fun _ _ _ _ h => h, fun _ _ _ => rfl⟩
  have run : va_Run p l e (ai_T M).2.2.2.2.2.2.1 s m args below meth c H locs 0 0 0 0 (F0 m pc ls st) (st.drop (ai_T na).2.2.2.2.2.1) (fun st oc t => oc = .returned (some v) ∧ t.heap = st.heap) (fun _ => False) := by
    have hl' : Jvm.Cond.methodLink (ai_T M).1 idx (ai_T na).2.1 ∈ ai_tb := by
      rcases hl with ⟨-, hl⟩ | ⟨e1, -⟩
      · exact hl
      · omega
    exact va_runS (cc := (ai_T M).2.2.1) (nL := (ai_T M).2.2.2.1) (own := (ai_T M).1) (Ts := ai_tb) ⟨hx, hb, hml, hown, hts⟩ (hC l) ⟨callB_of (ai_T na).2.2.2.2.2.1 hts (ai_good m3) rfl y4 y5 (hts _ m5) (hts _ hl') m4 ⟨y2, y3⟩, hts _ (m7 y1)⟩ hpre rfl hlen' hnL hstk hcat hd ⟨Nat.zero_le _, Nat.zero_le _⟩
  refine ai_run run (fun v' st' t H1 L h0 h1 _ hq hL => ?_)
  obtain ⟨e1, e2⟩ := hq
  cases e1
  have eL : L = [] := by
    cases L with
    | nil => rfl
    | cons q L => exact absurd (hL q List.mem_cons_self) (fun h => h)
  subst eL
  rw [List.append_nil, ← h1, e2, h0]
  exact kk
def pu_rv (md : ai_MD) (pc : Nat) (v : Value) : Prop := (decode md.2.2.1 pc = .ok (.ireturn, 1) ∧ ∃ x ty, v = .int x ∧ md.2.2.2.2.1 = some ty ∧ narrow ty (.int x) = .int x) ∨ (decode md.2.2.1 pc = .ok (.lreturn, 1) ∧ ∃ x, v = .long x ∧ md.2.2.2.2.1 = some .long)
theorem pu_in_ok {en : ai_E} {r : List ai_E} {lv : pu_L} {st : List Value} (hnL : (ai_T M).2.2.2.1 = nL) (cx : pu_cx p s m args c R (ai_T M)) (hcode : ai_codeok ai_T (ai_T M) (en :: r)) (hf : ∀ code' lv' st', f code' lv' st' → ai_codeok ai_T (ai_T M) code' → ∃ en r, code' = en :: r ∧ ∀ ls, lv_has ls nL lv' → W p l e R s m args below meth c H locs 0 0 Q (F0 m en.1 ls st')) (hret : ∀ pc ls v, pu_rv (ai_T M) pc v → P v → W p l e R s m args below meth c H locs 0 0 Q (F0 m pc ls [v])) (h : pu_in P nL f M en r lv st) : ∀ ls, lv_has ls nL lv → W p l e R s m args below meth c H locs 0 0 Q (F0 m en.1 ls st) := by
  intro ls hls
  obtain ⟨⟨⟨hd, hlen, hw⟩, hj, hw2⟩, hnx, hcr⟩ := hcode
  have nx : ∀ lv' st', f r lv' st' → ∀ ls', lv_has ls' nL lv' → W p l e R s m args below meth c H locs 0 0 Q (F0 m (en.1 + en.2.2.1) ls' st') := by
    intro lv' st' g ls' h'
    obtain ⟨en2, r2, e2, k2⟩ := hf r lv' st' g hcr
    have := k2 ls' h'
    rw [hnx en2 r2 e2] at this
    exact this
  have jp : ∀ q lv' st', f (ai_B1 M q) lv' st' → ∀ ls', lv_has ls' nL lv' → W p l e R s m args below meth c H locs 0 0 Q (F0 m q ls' st') := by
    intro q lv' st' g ls' h'
    obtain ⟨en2, r2, e2, k2⟩ := hf _ lv' st' g (ai_hB M q).1
    have := k2 ls' h'
    rw [(ai_hB M q).2 en2 r2 e2] at this
    exact this
  have cx0 := cx
  obtain ⟨hx, hb, hml, hown, hts, hR⟩ := cx
  obtain ⟨pc, ins, len, na, nb, ni, nz⟩ := en
  unfold pu_in at h
  dsimp only at hd hlen hw hj hw2 hnx nx h ⊢
  have l1 : ai_len ins = 1 → len = 1 := fun q => by rcases hlen with h | h <;> omega
  have l2 : ai_len ins = 2 → len = 2 := fun q => by rcases hlen with h | h <;> omega
  have l3 : ai_len ins = 3 → len = 3 := fun q => by rcases hlen with h | h <;> omega
  have at' : ∀ (i : Nat) (v : Value), pu_lk lv i = some v → ls[i]? = some (.val v) := fun i v g => hls.2.2 (i, v) (pu_lk_ok g)
  have lt' : ∀ (a b : Nat), Nat.blt a b = true → a < b := fun a b g => Nat.le_of_ble_eq_true g
  split at h
  · cases l1 rfl
    exact lv_iconst hx hb hd rfl (nx _ _ h ls hls)
  · cases l2 rfl
    exact lv_bipush hx hb hd rfl (nx _ _ h ls hls)
  · cases l1 rfl
    exact lv_lconst hx hb hd rfl (nx _ _ h ls hls)
  · cases l3 rfl
    exact lv_ldc2 hx hb hown (hts _ hw) hd (nx _ _ h ls hls)
  · cases l1 rfl
    obtain ⟨x, h1, h2⟩ := pu_ldi_ok h
    exact lv_iload_n hx hb hd rfl (at' _ _ h1) (nx _ _ h2 ls hls)
  · cases l2 rfl
    obtain ⟨x, h1, h2⟩ := pu_ldi_ok h
    exact lv_iload hx hb hd (at' _ _ h1) (nx _ _ h2 ls hls)
  · cases l1 rfl
    obtain ⟨x, h1, h2⟩ := pu_ldl_ok h
    exact lv_lload_n hx hb hd rfl (at' _ _ h1) (nx _ _ h2 ls hls)
  · cases l2 rfl
    obtain ⟨x, h1, h2⟩ := pu_ldl_ok h
    exact lv_lload hx hb hd (at' _ _ h1) (nx _ _ h2 ls hls)
  · cases l2 rfl
    obtain ⟨x, q, rfl, h1⟩ := pu_sI_ok h
    obtain ⟨h2, h3⟩ := pu_if_ok h1
    exact lv_istore hx hb hd hls (lt' _ _ h2) rfl (fun ls' g => nx _ _ h3 ls' g)
  · cases l1 rfl
    obtain ⟨x, q, rfl, h1⟩ := pu_sL_ok h
    obtain ⟨h2, h3⟩ := pu_if_ok h1
    exact lv_lstore_n hx hb hd rfl hls (lt' _ _ h2) rfl (fun ls' g => nx _ _ h3 ls' g)
  · cases l2 rfl
    obtain ⟨x, q, rfl, h1⟩ := pu_sL_ok h
    obtain ⟨h2, h3⟩ := pu_if_ok h1
    exact lv_lstore hx hb hd hls (lt' _ _ h2) rfl (fun ls' g => nx _ _ h3 ls' g)
  · cases l3 rfl
    obtain ⟨x, h1, h2⟩ := pu_ldi_ok h
    obtain ⟨h3, h4⟩ := pu_if_ok h2
    obtain ⟨k, hk⟩ := List.mem_iff_getElem?.mp (pu_lk_ok h1)
    exact lv_iinc hx hb hd hls hk rfl (lt' _ _ h3) rfl (fun ls' g => nx _ _ h4 ls' g)
  · cases l1 rfl
    obtain ⟨y, q, rfl, h1⟩ := pu_sI_ok h
    obtain ⟨x, q, rfl, h2⟩ := pu_sI_ok h1
    exact lv_iadd hx hb hd (nx _ _ h2 ls hls)
  · cases l1 rfl
    obtain ⟨y, q, rfl, h1⟩ := pu_sI_ok h
    obtain ⟨x, q, rfl, h2⟩ := pu_sI_ok h1
    exact lv_isub hx hb hd (nx _ _ h2 ls hls)
  · cases l1 rfl
    obtain ⟨y, q, rfl, h1⟩ := pu_sI_ok h
    exact lv_i2l hx hb hd rfl (nx _ _ h1 ls hls)
  · cases l1 rfl
    obtain ⟨y, q, rfl, h1⟩ := pu_sL_ok h
    obtain ⟨x, q, rfl, h2⟩ := pu_sL_ok h1
    exact lv_ladd hx hb hd (nx _ _ h2 ls hls)
  · cases l1 rfl
    obtain ⟨y, q, rfl, h1⟩ := pu_sL_ok h
    obtain ⟨x, q, rfl, h2⟩ := pu_sL_ok h1
    exact lv_lmul hx hb hd (nx _ _ h2 ls hls)
  · cases l1 rfl
    obtain ⟨y, q, rfl, h1⟩ := pu_sL_ok h
    obtain ⟨x, q, rfl, h2, h3⟩ := pu_sL_ok h1
    exact lv_ldiv hx hb hd h2 (nx _ _ h3 ls hls)
  · cases l1 rfl
    obtain ⟨y, q, rfl, h1⟩ := pu_sL_ok h
    obtain ⟨x, q, rfl, h2⟩ := pu_sL_ok h1
    exact W.lcmp hx hb hd (nx _ _ h2 ls hls)
  · rename_i off
    cases l3 rfl
    have hj' : 0 ≤ (pc : Int) + off := hj
    exact lv_goto hx hb hd (by omega : (pc : Int) + off = (((pc : Int) + off).toNat : Int)) (jp _ _ _ h ls hls)
  · rename_i q off
    cases l3 rfl
    have hj' : 0 ≤ (pc : Int) + off := hj
    obtain ⟨x, qq, rfl, h1, h2⟩ := pu_sI_ok h
    exact ai_if hx hb hd (by omega : (pc : Int) + off = (((pc : Int) + off).toNat : Int)) (fun g => jp _ _ _ (h1 g) ls hls) (fun g => nx _ _ (h2 g) ls hls)
  · rename_i q off
    cases l3 rfl
    have hj' : 0 ≤ (pc : Int) + off := hj
    obtain ⟨y, qq, rfl, h1⟩ := pu_sI_ok h
    obtain ⟨x, qq, rfl, h2, h3⟩ := pu_sI_ok h1
    exact ai_icmp hx hb hd (by omega : (pc : Int) + off = (((pc : Int) + off).toNat : Int)) (fun g => jp _ _ _ (h2 g) ls hls) (fun g => nx _ _ (h3 g) ls hls)
  · cases l3 rfl
    obtain ⟨h1, v, h2, h3⟩ := h
    have h9 : na < 900 := by
      unfold pu_may at h1
      rw [Bool.and_eq_true] at h1
      exact Nat.le_of_ble_eq_true h1.1
    exact pu_call cx0 hd (hw2 h9) (hls.1.trans hnL.symm) h1 h2 (nx _ _ h3 ls hls)
  · cases l1 rfl
    obtain ⟨x, q, rfl, ⟨rfl, ty, h1, h2⟩, h3⟩ := pu_sI_ok h
    exact hret _ _ _ (Or.inl ⟨hd, x, ty, rfl, h1, h2⟩) h3
  · cases l1 rfl
    obtain ⟨x, q, rfl, ⟨rfl, h1⟩, h3⟩ := pu_sL_ok h
    exact hret _ _ _ (Or.inr ⟨hd, x, rfl, h1⟩) h3
  · cases h
theorem pu_snd {h : Nat} {J : pu_L → List Value → Prop} (hnL : (ai_T M).2.2.2.1 = nL) (cx : pu_cx p s m args c R (ai_T M)) (hret : ∀ pc ls v, pu_rv (ai_T M) pc v → P v → W p l e R s m args below meth c H locs 0 0 Q (F0 m pc ls [v])) (head : ∀ lv st, J lv st → ∀ ls, lv_has ls nL lv → W p l e R s m args below meth c H locs 0 0 Q (F0 m h ls st)) : ∀ (n : Nat) (code : List ai_E) (lv : pu_L) (st : List Value), pu_wp P nL h J M n code lv st → ai_codeok ai_T (ai_T M) code → ∃ en r, code = en :: r ∧ ∀ ls, lv_has ls nL lv → W p l e R s m args below meth c H locs 0 0 Q (F0 m en.1 ls st)
  | 0, _, _, _, hw, _ => by cases hw
  | n + 1, [], _, _, hw, _ => by cases hw
  | n + 1, en :: r, lv, st, hw, hc => by
    refine ⟨en, r, rfl, pu_in_ok hnL cx hc (f := pu_to (pu_wp P nL h J M n) h J) ?_ hret hw⟩
    intro code' lv' st' g hc'
    cases code' with
    | nil => cases g
    | cons en' r' =>
      unfold pu_to at g
      dsimp only at g
      split at g
      · rename_i e1
        rw [beq_iff_eq] at e1
        exact ⟨en', r', rfl, fun ls h' => by rw [e1]; exact head _ _ g ls h'⟩
      · exact pu_snd hnL cx hret head n _ _ _ g hc'
/-- where a loop's head stands -/
def pu_J (ok Inv : Prop) (g : pu_L) (bb : Nat) : pu_L → List Value → Prop := fun lv st => ok ∧ Inv ∧ lv.filter (fun q => Nat.blt q.1 bb) = g ∧ st = []
theorem pu_fl {ls : Array Slot} {lv : pu_L} {bb : Nat} (h : lv_has ls nL lv) : lv_has ls nL (lv.filter (fun q => Nat.blt q.1 bb)) := ⟨h.1, h.2.1, fun q hq => h.2.2 q (List.mem_filter.mp hq).1⟩
theorem pu_loop {h N n bb : Nat} {g : Nat → pu_L} {Inv : Nat → Prop} (hnL : (ai_T M).2.2.2.1 = nL) (cx : pu_cx p s m args c R (ai_T M)) (hret : ∀ pc ls v, pu_rv (ai_T M) pc v → P v → W p l e R s m args below meth c H locs 0 0 Q (F0 m pc ls [v])) (step : ∀ i, i ≤ N → Inv i → pu_wp P nL h (pu_J (i < N) (Inv (i + 1)) (g (i + 1)) bb) M n (ai_B1 M h) (g i) []) : ∀ (k i : Nat), i + k = N → Inv i → ∀ ls, lv_has ls nL (g i) → W p l e R s m args below meth c H locs 0 0 Q (F0 m h ls []) := by
  intro k
  induction k with
  | zero =>
    intro i hi hv ls hls
    obtain ⟨en, r, e1, k1⟩ := pu_snd hnL cx hret (fun lv st hJ => by exact absurd hJ.1 (by omega)) n _ _ _ (step i (by omega) hv) (ai_hB M h).1
    have := k1 ls hls
    rw [(ai_hB M h).2 en r e1] at this
    exact this
  | succ k ih =>
    intro i hi hv ls hls
    obtain ⟨en, r, e1, k1⟩ := pu_snd hnL cx hret (fun lv st hJ ls' h' => by
      obtain ⟨j1, j2, j3, rfl⟩ := hJ
      have h2 := pu_fl (bb := bb) h'
      rw [j3] at h2
      exact ih (i + 1) (by omega) j2 ls' h2) n _ _ _ (step i (by omega) hv) (ai_hB M h).1
    have := k1 ls hls
    rw [(ai_hB M h).2 en r e1] at this
    exact this
theorem pu_body {h N n n0 bb : Nat} {g : Nat → pu_L} {Inv : Nat → Prop} {code : List ai_E} {lv0 : pu_L} {st0 : List Value} (hnL : (ai_T M).2.2.2.1 = nL) (cx : pu_cx p s m args c R (ai_T M)) (hcode : ai_codeok ai_T (ai_T M) code) (hret : ∀ pc ls v, pu_rv (ai_T M) pc v → P v → W p l e R s m args below meth c H locs 0 0 Q (F0 m pc ls [v])) (start : pu_wp P nL h (pu_J True (Inv 0) (g 0) bb) M n0 code lv0 st0) (step : ∀ i, i ≤ N → Inv i → pu_wp P nL h (pu_J (i < N) (Inv (i + 1)) (g (i + 1)) bb) M n (ai_B1 M h) (g i) []) : ∃ en r, code = en :: r ∧ ∀ ls, lv_has ls nL lv0 → W p l e R s m args below meth c H locs 0 0 Q (F0 m en.1 ls st0) := by
  refine pu_snd hnL cx hret (fun lv st hJ ls' h' => ?_) n0 _ _ _ start hcode
  obtain ⟨j1, j2, j3, rfl⟩ := hJ
  have h2 := pu_fl (bb := bb) h'
  rw [j3] at h2
  exact pu_loop hnL cx hret step N 0 (by omega) j2 ls' h2
end PUA
theorem pu_ret {p : Program} {l : Launch} {e : Env} {R : Room} {s : State} {m : MethodId} {args : Array Value} {below : List Frame} {meth : Method} {c : Code} {H : Heap} {locs : List Loc} {md : ai_MD} {Qc : Array Value → State → Outcome → State → Prop} {free : Addr → Prop} {mc ms : Nat} {v : Value} (hx : p.tables.exec = Jvm.exec) (hb : c.code = md.2.2.1) (hr : meth.sig.returnType = md.2.2.2.2.1) (hlocks : meth.locks = false) (hq : ∀ t : State, t.heap = H → s.WarmedH t.vm → Qc args s (.returned (some v)) t) (hf : ∀ q ∈ locs, free q.base) {pc : Nat} {ls : Array Slot} (h : pu_rv md pc v) : W p l e R s m args below meth c H locs 0 0 (MQ below Qc args s mc ms free) (F0 m pc ls [v]) := by
  refine W.widen (Nat.zero_le mc) (Nat.zero_le ms) ?_
  rcases h with ⟨hd, x, ty, rfl, h1, h2⟩ | ⟨hd, x, rfl, h1⟩
  · exact W.zret hx hb (hr.trans h1) h2 hq hf hd
  · exact W.lret hx hb (hr.trans h1) hq hf hd
theorem pu_met {M nL h N n n0 bb : Nat} {g : Nat → pu_L} {Inv : Nat → Prop} {vs : List Value} {r : Value} (hnL : (ai_T M).2.2.2.1 = nL) (hkd : ¬ (ai_T M).2.2.2.2.2.2.2 = 3) (hlen : (lg_sl vs).length ≤ nL) (hne : (ai_B1 M 0).isEmpty = false) (start : pu_wp (fun v => v = r) nL h (pu_J True (Inv 0) (g 0) bb) M n0 (ai_B1 M 0) (lv_args 0 vs) []) (step : ∀ i, i ≤ N → Inv i → pu_wp (fun v => v = r) nL h (pu_J (i < N) (Inv (i + 1)) (g (i + 1)) bb) M n (ai_B1 M h) (g i) []) : pu_C M vs r := by
  intro l
  have hmo := ai_hM M hkd
  refine Met.ofW (cc := (ai_T M).2.2.1) (maxL := (ai_T M).2.2.2.1) (ret := (ai_T M).2.2.2.2.1) hmo.2.1 rfl ?_
  intro p e s m args below meth c s₁ B hml hv
  subst hv
  have hts := atoms_spec (ws := Jvm.Cond.code (ai_T M).2.1 (ai_T M).2.2.1 (ai_T M).2.2.2.1 (ai_T M).2.2.2.2.1 :: ai_tb) B.pre
  have hown : s.vm.findClass (ai_T M).1 = some m.cls := by rw [hmo.1]; exact findClass_of_methodNamed B.named
  have hl := lv_entry vs (n := (ai_T M).2.2.2.1) (by rw [hnL]; exact hlen)
  rw [lg_entry_eq]
  obtain ⟨en, rr, e1, k1⟩ := pu_body (p := p) (l := l) (e := e) (R := (headSpec (Jvm.Cond.code (ai_T M).2.1 (ai_T M).2.2.1 (ai_T M).2.2.2.1 (ai_T M).2.2.2.2.1 :: ai_tb) (ai_T M).2.2.2.2.2.2.1).room) (s := s) (m := m) (args := vs.toArray) (below := below) (meth := meth) (c := c) (H := s.heap) (locs := []) (Q := MQ below (fun _ st oc t => oc = .returned (some r) ∧ t.heap = st.heap) vs.toArray s 0 0 (fun _ => False)) (P := fun v => v = r) hnL ⟨B.exec, B.bytes, hml, hown, fun w hw => hts w (List.mem_cons_of_mem _ hw), rfl⟩ (ai_hB M 0).1 (fun pc ls v hv hP => by
    subst hP
    exact pu_ret B.exec B.bytes B.returns B.notSynchronized (fun t ht _ => ⟨rfl, ht⟩) (fun q hq => by cases hq) hv) start step
  have := k1 _ (by rw [← hnL]; exact hl)
  rw [(ai_hB M 0).2 en rr e1] at this
  exact this
