/-! ===== the tables' facts, by checks ===== -/
def ai_hit (n : Nat) (w : Jvm.Cond) : Bool := match lw_tbl[n]? with
  | some c => decide (c = w) && goodWord c
  | none => false
theorem ai_hit_ok {n : Nat} {w : Jvm.Cond} (h : ai_hit n w = true) : w ∈ ai_tb := by
  unfold ai_hit at h
  split at h
  · rename_i c hc
    rw [Bool.and_eq_true] at h
    have e := of_decide_eq_true h.1
    subst e
    exact List.mem_filter.mpr ⟨List.mem_of_getElem? hc, h.2⟩
  · cases h
def ai_hit2 (tbl : List Jvm.Cond) (n : Nat) (w : Jvm.Cond) : Bool := match tbl[n]? with
  | some c => decide (c = w) && goodWord c
  | none => false
theorem ai_hit2_ok {tbl : List Jvm.Cond} (hs : ∀ w ∈ tbl, w ∈ lw_tbl) {n : Nat} {w : Jvm.Cond} (h : ai_hit2 tbl n w = true) : w ∈ ai_tb := by
  unfold ai_hit2 at h
  split at h
  · rename_i c hc
    rw [Bool.and_eq_true] at h
    have e := of_decide_eq_true h.1
    subst e
    exact List.mem_filter.mpr ⟨hs _ (List.mem_of_getElem? hc), h.2⟩
  · cases h
theorem tk_0 : ∀ w ∈ k2_sels lw_privs, w ∈ lw_tbl := fun _ h => List.mem_append_left _ h
theorem tk_1 : ∀ w ∈ tables_1_1, w ∈ lw_tbl := fun _ h => List.mem_append_right _ (List.mem_append_left _ h)
theorem tk_2 : ∀ w ∈ tables_1_2, w ∈ lw_tbl := fun _ h => List.mem_append_right _ (List.mem_append_right _ (List.mem_append_left _ h))
theorem tk_3 : ∀ w ∈ tables_1_3, w ∈ lw_tbl := fun _ h => List.mem_append_right _ (List.mem_append_right _ (List.mem_append_right _ (List.mem_append_left _ h)))
theorem tk_4 : ∀ w ∈ tables_1_4, w ∈ lw_tbl := fun _ h => List.mem_append_right _ (List.mem_append_right _ (List.mem_append_right _ (List.mem_append_right _ (List.mem_append_left _ h))))
theorem tk_5 : ∀ w ∈ tables_1_5, w ∈ lw_tbl := fun _ h => List.mem_append_right _ (List.mem_append_right _ (List.mem_append_right _ (List.mem_append_right _ (List.mem_append_right _ (List.mem_append_left _ h)))))
theorem tk_6 : ∀ w ∈ tables_1_6, w ∈ lw_tbl := fun _ h => List.mem_append_right _ (List.mem_append_right _ (List.mem_append_right _ (List.mem_append_right _ (List.mem_append_right _ (List.mem_append_right _ (List.mem_append_left _ h))))))
theorem tk_7 : ∀ w ∈ tables_1_7, w ∈ lw_tbl := fun _ h => List.mem_append_right _ (List.mem_append_right _ (List.mem_append_right _ (List.mem_append_right _ (List.mem_append_right _ (List.mem_append_right _ (List.mem_append_right _ (List.mem_append_left _ h)))))))
theorem tk_8 : ∀ w ∈ tables_1_8, w ∈ lw_tbl := fun _ h => List.mem_append_right _ (List.mem_append_right _ (List.mem_append_right _ (List.mem_append_right _ (List.mem_append_right _ (List.mem_append_right _ (List.mem_append_right _ (List.mem_append_right _ (List.mem_append_left _ h))))))))
theorem tk_9 : ∀ w ∈ tables_1_9, w ∈ lw_tbl := fun _ h => List.mem_append_right _ (List.mem_append_right _ (List.mem_append_right _ (List.mem_append_right _ (List.mem_append_right _ (List.mem_append_right _ (List.mem_append_right _ (List.mem_append_right _ (List.mem_append_right _ h))))))))
def ai_hitl : List Nat → List Jvm.Cond → Bool
  | [], [] => true
  | n :: ns, w :: ws => ai_hit n w && ai_hitl ns ws
  | _, _ => false
theorem ai_hitl_ok : ∀ (ns : List Nat) (ws : List Jvm.Cond), ai_hitl ns ws = true → ∀ w ∈ ws, w ∈ ai_tb
  | [], [], _, w, hw => by cases hw
  | n :: ns, v :: ws, h, w, hw => by
    unfold ai_hitl at h
    rw [Bool.and_eq_true] at h
    rcases List.mem_cons.mp hw with rfl | hw
    · exact ai_hit_ok h.1
    · exact ai_hitl_ok ns ws h.2 w hw
  | [], _ :: _, h, _, _ => by cases h
  | _ :: _, [], h, _, _ => by cases h
def ai_hn (h : List Nat) (k : Nat) : Nat := h.getD k 99999
/-- the words of an instruction -/
def ai_eW (T : Nat → ai_MD) (md : ai_MD) (en : ai_E) : Prop := match en.2.1 with
  | .ldc i => Jvm.Cond.constant md.1 i (Int32.ofInt en.2.2.2.2.2.2) ∈ ai_tb
  | .ldc_w i => Jvm.Cond.constant md.1 i (Int32.ofInt en.2.2.2.2.2.2) ∈ ai_tb
  | .ldc2_w i => Jvm.Cond.constantLong md.1 i (Int64.ofInt en.2.2.2.2.2.2) ∈ ai_tb
  | .getfield i => ∃ q, vwCl[en.2.2.2.1]? = some q ∧ en.2.2.2.2.1 < q.2.2 ∧ Jvm.Cond.fieldLink md.1 i (q.2.1 en.2.2.2.2.1).1 (q.2.1 en.2.2.2.2.1).2.1 (q.2.1 en.2.2.2.2.1).2.2.1 ∈ ai_tb
  | .putfield i => ∃ q, vwCl[en.2.2.2.1]? = some q ∧ en.2.2.2.2.1 < q.2.2 ∧ Jvm.Cond.fieldLink md.1 i (q.2.1 en.2.2.2.2.1).1 (q.2.1 en.2.2.2.2.1).2.1 (q.2.1 en.2.2.2.2.1).2.2.1 ∈ ai_tb ∧ ((q.2.1 en.2.2.2.2.1).2.2.2 = false ∨ ((q.2.1 en.2.2.2.2.1).2.2.2 = true ∧ md.2.1.name = "<init>" ∧ (q.2.1 en.2.2.2.2.1).1 = md.1))
  | .new i => ∃ q, vwCl[en.2.2.2.1]? = some q ∧ Jvm.Cond.classLink md.1 i q.1 ∈ ai_tb ∧ Jvm.Cond.instantiable q.1 q.2.2 ∈ ai_tb ∧ Jvm.Cond.initialized q.1 ∈ ai_tb
  | .newarray t => Jvm.Cond.arrayClass (newarray.typeOf t) ∈ ai_tb
  | .anewarray i => Jvm.Cond.classLink md.1 i "FirstPolls$Land" ∈ ai_tb
  | .invokestatic i => ((en.2.2.2.1 = 997 → (Jvm.Cond.methodLink md.1 i arraycopyName ∈ ai_tb ∧ Jvm.Cond.native arraycopyName ∈ ai_tb ∧ Jvm.Cond.static arraycopyName ∈ ai_tb ∧ Jvm.Cond.initialized "java/lang/System" ∈ ai_tb)) ∧ (en.2.2.2.1 = 996 → ai_mw md i Lib.Math.min.name Lib.Math.min.code 2 .int) ∧ (en.2.2.2.1 = 995 → ai_mw md i Lib.Math.max.name Lib.Math.max.code 2 .int) ∧ (en.2.2.2.1 = 994 → ai_mw md i Lib.Math.abs.name Lib.Math.abs.code 1 .int) ∧ (en.2.2.2.1 = 993 → ai_mw md i Lib.MathLoose.min_long.x Lib.MathLoose.min_long.code 4 .long)) ∧ (en.2.2.2.1 < 900 → ai_link md (T en.2.2.2.1) i en.2.2.2.2.2.1)
  | .invokespecial i => (en.2.2.2.1 = 999 → (Jvm.Cond.methodLink md.1 i Lib.objectInit ∈ ai_tb ∧ Jvm.Cond.instanceMethod Lib.objectInit ∈ ai_tb ∧ Jvm.Cond.code Lib.objectInit ⟨#[0xb1]⟩ 1 none ∈ ai_tb)) ∧ (¬ en.2.2.2.1 = 999 → ai_link md (T en.2.2.2.1) i en.2.2.2.2.2.1)
  | .invokevirtual i => Jvm.Cond.methodLink md.1 i (T en.2.2.2.1).2.1 ∈ ai_tb ∧ ∃ q, vwCl[en.2.2.2.2.1]? = some q ∧ q.1 = (T en.2.2.2.1).2.1.cls
  | _ => True
/-- what a program decides of an instruction -/
def ai_dkB (md : ai_MD) (en : ai_E) : Bool := decide (decode md.2.2.1 en.1 = .ok (en.2.1, en.2.2.1)) && ((ai_len en.2.1 == 0 || en.2.2.1 == ai_len en.2.1) && match en.2.1 with
  | .goto off => decide (0 ≤ (en.1 : Int) + off)
  | .ifCond _ off => decide (0 ≤ (en.1 : Int) + off)
  | .if_icmp _ off => decide (0 ≤ (en.1 : Int) + off)
  | .ifnonnull off => decide (0 ≤ (en.1 : Int) + off)
  | .tableswitch dflt _ _ offs => decide (0 ≤ (en.1 : Int) + dflt) && offs.toList.all (fun off => decide (0 ≤ (en.1 : Int) + off))
  | .lookupswitch dflt ps => decide (0 ≤ (en.1 : Int) + dflt) && ps.toList.all (fun q => decide (0 ≤ (en.1 : Int) + q.2))
  | _ => true)
theorem ai_dkB_ok {T : Nat → ai_MD} {md : ai_MD} {en : ai_E} (hh : ai_dkB md en = true) (hw : ai_eW T md en) : ai_eok2 T md en := by
  obtain ⟨pc, ins, len, na, nb, ni, nz⟩ := en
  unfold ai_dkB at hh
  rw [Bool.and_eq_true, Bool.and_eq_true] at hh
  obtain ⟨hd, hl, hj⟩ := hh
  have hd' := of_decide_eq_true hd
  have hl' : ai_len ins = 0 ∨ len = ai_len ins := by simpa using hl
  unfold ai_eok2 ai_eok ai_jok
  unfold ai_eW at hw
  dsimp only at hw hj hd' ⊢
  cases ins with
  | ldc i => exact ⟨⟨hd', hl', hw⟩, trivial, trivial⟩
  | ldc_w i => exact ⟨⟨hd', hl', hw⟩, trivial, trivial⟩
  | ldc2_w i => exact ⟨⟨hd', hl', hw⟩, trivial, trivial⟩
  | getfield i => exact ⟨⟨hd', hl', hw⟩, trivial, trivial⟩
  | putfield i => exact ⟨⟨hd', hl', hw⟩, trivial, trivial⟩
  | new i => exact ⟨⟨hd', hl', hw⟩, trivial, trivial⟩
  | newarray t => exact ⟨⟨hd', hl', hw⟩, trivial, trivial⟩
  | anewarray i => exact ⟨⟨hd', hl', hw⟩, trivial, trivial⟩
  | invokestatic i => exact ⟨⟨hd', hl', hw.1⟩, trivial, hw.2⟩
  | invokespecial i => exact ⟨⟨hd', hl', hw.1⟩, trivial, hw.2⟩
  | invokevirtual i => exact ⟨⟨hd', hl', trivial⟩, trivial, hw⟩
  | goto off => exact ⟨⟨hd', hl', trivial⟩, of_decide_eq_true hj, trivial⟩
  | ifCond q off => exact ⟨⟨hd', hl', trivial⟩, of_decide_eq_true hj, trivial⟩
  | if_icmp q off => exact ⟨⟨hd', hl', trivial⟩, of_decide_eq_true hj, trivial⟩
  | ifnonnull off => exact ⟨⟨hd', hl', trivial⟩, of_decide_eq_true hj, trivial⟩
  | tableswitch dflt lo hi offs =>
    dsimp only at hj ⊢
    rw [Bool.and_eq_true] at hj
    exact ⟨⟨hd', hl', trivial⟩, ⟨of_decide_eq_true hj.1, fun off ho => of_decide_eq_true (List.all_eq_true.mp hj.2 off ho)⟩, trivial⟩
  | lookupswitch dflt ps =>
    dsimp only at hj ⊢
    rw [Bool.and_eq_true] at hj
    exact ⟨⟨hd', hl', trivial⟩, ⟨of_decide_eq_true hj.1, fun q ho => of_decide_eq_true (List.all_eq_true.mp hj.2 q ho)⟩, trivial⟩
  | _ => exact ⟨⟨hd', hl', trivial⟩, trivial, trivial⟩
def ai_ckn (md : ai_MD) : Nat → List ai_E → Bool
  | 0, _ => true
  | k + 1, en :: rest => ai_dkB md en && ((match rest with
    | en2 :: _ => en2.1 == en.1 + en.2.2.1
    | [] => true) && ai_ckn md k rest)
  | _ + 1, [] => false
def ai_wds (T : Nat → ai_MD) (md : ai_MD) : Nat → List ai_E → Prop
  | 0, _ => True
  | k + 1, en :: rest => ai_eW T md en ∧ ai_wds T md k rest
  | _ + 1, [] => False
theorem ai_ckn_ok {T : Nat → ai_MD} {md : ai_MD} : ∀ (k : Nat) (l : List ai_E), ai_ckn md k l = true → ai_wds T md k l → ai_codeok T md (l.drop k) → ai_codeok T md l
  | 0, l, _, _, h => h
  | k + 1, en :: rest, hc, hw, hr => by
    unfold ai_ckn at hc
    rw [Bool.and_eq_true, Bool.and_eq_true] at hc
    refine ⟨ai_dkB_ok hc.1 hw.1, fun en2 r e => ?_, ai_ckn_ok k rest hc.2.2 hw.2 hr⟩
    subst e
    simpa using hc.2.1
  | _ + 1, [], hc, _, _ => by cases hc
/-- words as terms -/
theorem ai_Wis {md : ai_MD} {i na ni : Nat} {mK : ai_MD} (hlt : Nat.blt na 900 = true) (hl : ai_link md mK i ni) : ((na = 997 → (Jvm.Cond.methodLink md.1 i arraycopyName ∈ ai_tb ∧ Jvm.Cond.native arraycopyName ∈ ai_tb ∧ Jvm.Cond.static arraycopyName ∈ ai_tb ∧ Jvm.Cond.initialized "java/lang/System" ∈ ai_tb)) ∧ (na = 996 → ai_mw md i Lib.Math.min.name Lib.Math.min.code 2 .int) ∧ (na = 995 → ai_mw md i Lib.Math.max.name Lib.Math.max.code 2 .int) ∧ (na = 994 → ai_mw md i Lib.Math.abs.name Lib.Math.abs.code 1 .int) ∧ (na = 993 → ai_mw md i Lib.MathLoose.min_long.x Lib.MathLoose.min_long.code 4 .long)) ∧ (na < 900 → ai_link md mK i ni) := by
  have h : na < 900 := Nat.le_of_ble_eq_true hlt
  exact ⟨⟨fun e => by omega, fun e => by omega, fun e => by omega, fun e => by omega, fun e => by omega⟩, fun _ => hl⟩
theorem ai_Wip {md : ai_MD} {i na ni : Nat} {mK : ai_MD} (hlt : Nat.blt na 900 = true) (hl : ai_link md mK i ni) : (na = 999 → (Jvm.Cond.methodLink md.1 i Lib.objectInit ∈ ai_tb ∧ Jvm.Cond.instanceMethod Lib.objectInit ∈ ai_tb ∧ Jvm.Cond.code Lib.objectInit ⟨#[0xb1]⟩ 1 none ∈ ai_tb)) ∧ (¬ na = 999 → ai_link md mK i ni) := by
  have h : na < 900 := Nat.le_of_ble_eq_true hlt
  exact ⟨fun e => by omega, fun _ => hl⟩
/-- code at a place -/
def ai_Pq (T : Nat → ai_MD) (md : ai_MD) (q : Nat) (l : List ai_E) : Prop := ai_codeok T md l ∧ ∀ en r, l = en :: r → en.1 = q
def ai_hpb (p : Nat) (l : List ai_E) : Bool := match l with
  | en :: _ => en.1 == p
  | [] => true
theorem ai_tnil {T : Nat → ai_MD} {md : ai_MD} {q : Nat} : ai_Pq T md q [] := ⟨trivial, fun _ _ h => by cases h⟩
theorem ai_tlf {T : Nat → ai_MD} {md : ai_MD} {q p : Nat} {l : List ai_E} (h : ai_codeok T md l) (hp : ai_hpb p l = true) : ai_Pq T md q (bif q == p then l else []) := by
  cases e : (q == p) with
  | false => exact ai_tnil
  | true =>
    refine ⟨h, fun en r el => ?_⟩
    have e1 : q = p := by simpa using e
    subst e1
    rw [cond_true] at el
    subst el
    simpa [ai_hpb] using hp
theorem ai_tnd {T : Nat → ai_MD} {md : ai_MD} {q : Nat} {c : Bool} {x y : List ai_E} (hx : ai_Pq T md q x) (hy : ai_Pq T md q y) : ai_Pq T md q (bif c then x else y) := by
  cases c <;> assumption
theorem ai_tn2 {T : Nat → ai_MD} {x1 x2 : ai_MD} {q : Nat} {c : Bool} {y1 y2 : List ai_E} (h1 : ai_Pq T x1 q y1) (h2 : ai_Pq T x2 q y2) : ai_Pq T (bif c then x1 else x2) q (bif c then y1 else y2) := by
  cases c <;> assumption
def ai_Pm (md : ai_MD) : Prop := ¬ md.2.2.2.2.2.2.2 = 3 → ai_mok md
theorem ai_tm {c : Bool} {x y : ai_MD} (hx : ai_Pm x) (hy : ai_Pm y) : ai_Pm (bif c then x else y) := by
  cases c <;> assumption
def ai_mkB (md : ai_MD) (h : List Nat) : Bool := decide (md.1 = md.2.1.cls) && (plainName md.2.1.cls && (ai_hit (ai_hn h 0) (.code md.2.1 md.2.2.1 md.2.2.2.1 md.2.2.2.2.1) && ((decide (md.2.1.cls ≠ "java/lang/invoke/MethodHandle") && (decide (md.2.1.cls ≠ "java/lang/invoke/VarHandle") && decide ((parseMethodDescriptor md.2.1.desc).map (fun d => d.parameters.length) = some md.2.2.2.2.2.1))) && (ai_hit (ai_hn h 1) (.initialized md.2.1.cls) && (bif md.2.2.2.2.2.2.2 == 0 then ai_hit (ai_hn h 2) (.instanceMethod md.2.1) && ai_hit (ai_hn h 3) (.selects md.2.1.cls md.2.1 md.2.1) else bif md.2.2.2.2.2.2.2 == 1 then ai_hit (ai_hn h 2) (.static md.2.1) else bif md.2.2.2.2.2.2.2 == 2 then decide (md.2.1.name = "<init>") && (ai_hit (ai_hn h 2) (.instanceMethod md.2.1) && md.2.2.2.2.1.isNone) else true)))))
theorem ai_mkB_ok {md : ai_MD} {h : List Nat} (hh : ai_mkB md h = true) : ai_mok md := by
  unfold ai_mkB at hh
  rw [Bool.and_eq_true, Bool.and_eq_true, Bool.and_eq_true, Bool.and_eq_true, Bool.and_eq_true, Bool.and_eq_true, Bool.and_eq_true] at hh
  obtain ⟨h1, h2, h3, ⟨h4, h5, h6⟩, h7, h8⟩ := hh
  refine ⟨of_decide_eq_true h1, h2, ai_hit_ok h3, ⟨of_decide_eq_true h4, of_decide_eq_true h5, of_decide_eq_true h6⟩, ai_hit_ok h7, fun e => ?_, fun e => ?_, fun e => ?_⟩
  · rw [e] at h8
    have h9 : (ai_hit (ai_hn h 2) (.instanceMethod md.2.1) && ai_hit (ai_hn h 3) (.selects md.2.1.cls md.2.1 md.2.1)) = true := h8
    rw [Bool.and_eq_true] at h9
    exact ⟨ai_hit_ok h9.1, ai_hit_ok h9.2⟩
  · rw [e] at h8
    have h9 : ai_hit (ai_hn h 2) (.static md.2.1) = true := h8
    exact ai_hit_ok h9
  · rw [e] at h8
    have h9 : (decide (md.2.1.name = "<init>") && (ai_hit (ai_hn h 2) (.instanceMethod md.2.1) && md.2.2.2.2.1.isNone)) = true := h8
    rw [Bool.and_eq_true, Bool.and_eq_true] at h9
    exact ⟨of_decide_eq_true h9.1, ai_hit_ok h9.2.1, Option.isNone_iff_eq_none.mp h9.2.2⟩
