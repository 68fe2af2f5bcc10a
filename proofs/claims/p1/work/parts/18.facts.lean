/-! ===== the tables' facts, by checks ===== -/
def ai_hit (n : Nat) (w : Jvm.Cond) : Bool := match lw_tbl[n]? with
  | some c => decide (c = w) && goodWord c
  | none => false
theorem ai_hit_ok {n : Nat} {w : Jvm.Cond} (h : ai_hit n w = true) : w ∈ ai_tb := by
  unfold ai_hit at h
  split at h
  · rename_i c hc
    rw [Bool.and_eq_true] at h
    have e := of_decide_eq_true h.1
    subst e
    exact List.mem_filter.mpr ⟨List.mem_of_getElem? hc, h.2⟩
  · cases h
def ai_hitl : List Nat → List Jvm.Cond → Bool
  | [], [] => true
  | n :: ns, w :: ws => ai_hit n w && ai_hitl ns ws
  | _, _ => false
theorem ai_hitl_ok : ∀ (ns : List Nat) (ws : List Jvm.Cond), ai_hitl ns ws = true → ∀ w ∈ ws, w ∈ ai_tb
  | [], [], _, w, hw => by cases hw
  | n :: ns, v :: ws, h, w, hw => by
    unfold ai_hitl at h
    rw [Bool.and_eq_true] at h
    rcases List.mem_cons.mp hw with rfl | hw
    · exact ai_hit_ok h.1
    · exact ai_hitl_ok ns ws h.2 w hw
  | [], _ :: _, h, _, _ => by cases h
  | _ :: _, [], h, _, _ => by cases h
def ai_hn (h : List Nat) (k : Nat) : Nat := h.getD k 99999
def ai_lkB (md mK : ai_MD) (i ni n : Nat) : Bool := bif ni == 0 then ai_hit n (.methodLink md.1 i mK.2.1) else (ni == 1 && decide ((md.1, i, mK.2.1) ∈ ai_nest))
theorem ai_lkB_ok {md mK : ai_MD} {i ni n : Nat} (h : ai_lkB md mK i ni n = true) : ai_link md mK i ni := by
  unfold ai_lkB at h
  cases h0 : (ni == 0) with
  | true => rw [h0] at h; exact Or.inl ⟨by simpa using h0, ai_hit_ok h⟩
  | false =>
    rw [h0, cond_false, Bool.and_eq_true] at h
    exact Or.inr ⟨by simpa using h.1, of_decide_eq_true h.2⟩
def ai_wB (T : Nat → ai_MD) (md : ai_MD) (en : ai_E) (h : List Nat) : Bool := match en.2.1 with
  | .ldc i => ai_hit (ai_hn h 0) (.constant md.1 i (Int32.ofInt en.2.2.2.2.2.2))
  | .ldc_w i => ai_hit (ai_hn h 0) (.constant md.1 i (Int32.ofInt en.2.2.2.2.2.2))
  | .ldc2_w i => ai_hit (ai_hn h 0) (.constantLong md.1 i (Int64.ofInt en.2.2.2.2.2.2))
  | .getfield i => match vwCl[en.2.2.2.1]? with
    | some q => decide (en.2.2.2.2.1 < q.2.2) && ai_hit (ai_hn h 0) (.fieldLink md.1 i (q.2.1 en.2.2.2.2.1).1 (q.2.1 en.2.2.2.2.1).2.1 (q.2.1 en.2.2.2.2.1).2.2.1)
    | none => false
  | .putfield i => match vwCl[en.2.2.2.1]? with
    | some q => decide (en.2.2.2.2.1 < q.2.2) && (ai_hit (ai_hn h 0) (.fieldLink md.1 i (q.2.1 en.2.2.2.2.1).1 (q.2.1 en.2.2.2.2.1).2.1 (q.2.1 en.2.2.2.2.1).2.2.1) && (!(q.2.1 en.2.2.2.2.1).2.2.2 || (decide (md.2.1.name = "<init>") && decide ((q.2.1 en.2.2.2.2.1).1 = md.1))))
    | none => false
  | .new i => match vwCl[en.2.2.2.1]? with
    | some q => ai_hit (ai_hn h 0) (.classLink md.1 i q.1) && (ai_hit (ai_hn h 1) (.instantiable q.1 q.2.2) && ai_hit (ai_hn h 2) (.initialized q.1))
    | none => false
  | .newarray t => ai_hit (ai_hn h 0) (.arrayClass (newarray.typeOf t))
  | .anewarray i => ai_hit (ai_hn h 0) (.classLink md.1 i "FirstPolls$Land")
  | .invokestatic i => bif en.2.2.2.1 == 997 then ai_hit (ai_hn h 0) (.methodLink md.1 i arraycopyName) && (ai_hit (ai_hn h 1) (.native arraycopyName) && (ai_hit (ai_hn h 2) (.static arraycopyName) && ai_hit (ai_hn h 3) (.initialized "java/lang/System"))) else ai_lkB md (T en.2.2.2.1) i en.2.2.2.2.2.1 (ai_hn h 0)
  | .invokespecial i => bif en.2.2.2.1 == 999 then ai_hit (ai_hn h 0) (.methodLink md.1 i Lib.objectInit) && (ai_hit (ai_hn h 1) (.instanceMethod Lib.objectInit) && ai_hit (ai_hn h 2) (.code Lib.objectInit ⟨#[0xb1]⟩ 1 none)) else ai_lkB md (T en.2.2.2.1) i en.2.2.2.2.2.1 (ai_hn h 0)
  | .invokevirtual i => ai_hit (ai_hn h 0) (.methodLink md.1 i (T en.2.2.2.1).2.1) && (match vwCl[en.2.2.2.2.1]? with
    | some q => decide (q.1 = (T en.2.2.2.1).2.1.cls)
    | none => false)
  | .goto off => decide (0 ≤ (en.1 : Int) + off)
  | .ifCond _ off => decide (0 ≤ (en.1 : Int) + off)
  | .if_icmp _ off => decide (0 ≤ (en.1 : Int) + off)
  | .ifnonnull off => decide (0 ≤ (en.1 : Int) + off)
  | .tableswitch dflt _ _ offs => decide (0 ≤ (en.1 : Int) + dflt) && offs.toList.all (fun off => decide (0 ≤ (en.1 : Int) + off))
  | _ => true
def ai_ekB (T : Nat → ai_MD) (md : ai_MD) (en : ai_E) (h : List Nat) : Bool := decide (decode md.2.2.1 en.1 = .ok (en.2.1, en.2.2.1)) && ((ai_len en.2.1 == 0 || en.2.2.1 == ai_len en.2.1) && ai_wB T md en h)
theorem ai_ekB_ok {T : Nat → ai_MD} {md : ai_MD} {en : ai_E} {h : List Nat} (hh : ai_ekB T md en h = true) : ai_eok2 T md en := by
  obtain ⟨pc, ins, len, na, nb, ni, nz⟩ := en
  unfold ai_ekB at hh
  rw [Bool.and_eq_true, Bool.and_eq_true] at hh
  obtain ⟨hd, hl, hw⟩ := hh
  have hd' := of_decide_eq_true hd
  have hl' : ai_len ins = 0 ∨ len = ai_len ins := by simpa using hl
  unfold ai_eok2 ai_eok ai_jok
  unfold ai_wB at hw
  dsimp only at hw hd' ⊢
  cases ins with
  | ldc i => exact ⟨⟨hd', hl', ai_hit_ok hw⟩, trivial, trivial⟩
  | ldc_w i => exact ⟨⟨hd', hl', ai_hit_ok hw⟩, trivial, trivial⟩
  | ldc2_w i => exact ⟨⟨hd', hl', ai_hit_ok hw⟩, trivial, trivial⟩
  | getfield i =>
    dsimp only at hw ⊢
    split at hw
    · rename_i q hq
      rw [Bool.and_eq_true] at hw
      exact ⟨⟨hd', hl', q, hq, of_decide_eq_true hw.1, ai_hit_ok hw.2⟩, trivial, trivial⟩
    · cases hw
  | putfield i =>
    dsimp only at hw ⊢
    split at hw
    · rename_i q hq
      rw [Bool.and_eq_true, Bool.and_eq_true, Bool.or_eq_true, Bool.and_eq_true] at hw
      obtain ⟨w1, w2, w3⟩ := hw
      refine ⟨⟨hd', hl', q, hq, of_decide_eq_true w1, ai_hit_ok w2, ?_⟩, trivial, trivial⟩
      cases hf : (q.2.1 nb).2.2.2 with
      | false => exact Or.inl rfl
      | true =>
        rcases w3 with w3 | w3
        · rw [hf] at w3; cases w3
        · exact Or.inr ⟨rfl, of_decide_eq_true w3.1, of_decide_eq_true w3.2⟩
    · cases hw
  | new i =>
    dsimp only at hw ⊢
    split at hw
    · rename_i q hq
      rw [Bool.and_eq_true, Bool.and_eq_true] at hw
      exact ⟨⟨hd', hl', q, hq, ai_hit_ok hw.1, ai_hit_ok hw.2.1, ai_hit_ok hw.2.2⟩, trivial, trivial⟩
    · cases hw
  | newarray t => exact ⟨⟨hd', hl', ai_hit_ok hw⟩, trivial, trivial⟩
  | anewarray i => exact ⟨⟨hd', hl', ai_hit_ok hw⟩, trivial, trivial⟩
  | invokestatic i =>
    dsimp only at hw ⊢
    cases h9 : (na == 997) with
    | true =>
      have e9 : na = 997 := by simpa using h9
      rw [h9, cond_true, Bool.and_eq_true, Bool.and_eq_true, Bool.and_eq_true] at hw
      exact ⟨⟨hd', hl', fun _ => ⟨ai_hit_ok hw.1, ai_hit_ok hw.2.1, ai_hit_ok hw.2.2.1, ai_hit_ok hw.2.2.2⟩⟩, trivial, fun hn => absurd e9 hn⟩
    | false =>
      have e9 : ¬ na = 997 := by simpa using h9
      rw [h9, cond_false] at hw
      exact ⟨⟨hd', hl', fun hn => absurd hn e9⟩, trivial, fun _ => ai_lkB_ok hw⟩
  | invokespecial i =>
    dsimp only at hw ⊢
    cases h9 : (na == 999) with
    | true =>
      have e9 : na = 999 := by simpa using h9
      rw [h9, cond_true, Bool.and_eq_true, Bool.and_eq_true] at hw
      exact ⟨⟨hd', hl', fun _ => ⟨ai_hit_ok hw.1, ai_hit_ok hw.2.1, ai_hit_ok hw.2.2⟩⟩, trivial, fun hn => absurd e9 hn⟩
    | false =>
      have e9 : ¬ na = 999 := by simpa using h9
      rw [h9, cond_false] at hw
      exact ⟨⟨hd', hl', fun hn => absurd hn e9⟩, trivial, fun _ => ai_lkB_ok hw⟩
  | invokevirtual i =>
    dsimp only at hw ⊢
    rw [Bool.and_eq_true] at hw
    obtain ⟨w1, w2⟩ := hw
    split at w2
    · rename_i q hq
      exact ⟨⟨hd', hl', trivial⟩, trivial, ai_hit_ok w1, q, hq, of_decide_eq_true w2⟩
    · cases w2
  | goto off => exact ⟨⟨hd', hl', trivial⟩, of_decide_eq_true hw, trivial⟩
  | ifCond q off => exact ⟨⟨hd', hl', trivial⟩, of_decide_eq_true hw, trivial⟩
  | if_icmp q off => exact ⟨⟨hd', hl', trivial⟩, of_decide_eq_true hw, trivial⟩
  | ifnonnull off => exact ⟨⟨hd', hl', trivial⟩, of_decide_eq_true hw, trivial⟩
  | tableswitch dflt lo hi offs =>
    dsimp only at hw ⊢
    rw [Bool.and_eq_true] at hw
    exact ⟨⟨hd', hl', trivial⟩, ⟨of_decide_eq_true hw.1, fun off ho => of_decide_eq_true (List.all_eq_true.mp hw.2 off ho)⟩, trivial⟩
  | _ => exact ⟨⟨hd', hl', trivial⟩, trivial, trivial⟩
def ai_ckn (T : Nat → ai_MD) (md : ai_MD) : List (List Nat) → List ai_E → Bool
  | [], _ => true
  | h :: hs, en :: rest => ai_ekB T md en h && ((match rest with
    | en2 :: _ => en2.1 == en.1 + en.2.2.1
    | [] => true) && ai_ckn T md hs rest)
  | _ :: _, [] => false
theorem ai_ckn_ok {T : Nat → ai_MD} {md : ai_MD} : ∀ (hs : List (List Nat)) (l : List ai_E), ai_ckn T md hs l = true → ai_codeok T md (l.drop hs.length) → ai_codeok T md l
  | [], l, _, h => h
  | h :: hs, en :: rest, hc, hr => by
    unfold ai_ckn at hc
    rw [Bool.and_eq_true, Bool.and_eq_true] at hc
    refine ⟨ai_ekB_ok hc.1, fun en2 r e => ?_, ai_ckn_ok hs rest hc.2.2 hr⟩
    subst e
    simpa using hc.2.1
  | _ :: _, [], hc, _ => by cases hc
/-- code at a place -/
def ai_Pq (T : Nat → ai_MD) (md : ai_MD) (q : Nat) (l : List ai_E) : Prop := ai_codeok T md l ∧ ∀ en r, l = en :: r → en.1 = q
def ai_hpb (p : Nat) (l : List ai_E) : Bool := match l with
  | en :: _ => en.1 == p
  | [] => true
theorem ai_tnil {T : Nat → ai_MD} {md : ai_MD} {q : Nat} : ai_Pq T md q [] := ⟨trivial, fun _ _ h => by cases h⟩
theorem ai_tlf {T : Nat → ai_MD} {md : ai_MD} {q p : Nat} {l : List ai_E} (h : ai_codeok T md l) (hp : ai_hpb p l = true) : ai_Pq T md q (bif q == p then l else []) := by
  cases e : (q == p) with
  | false => exact ai_tnil
  | true =>
    refine ⟨h, fun en r el => ?_⟩
    have e1 : q = p := by simpa using e
    subst e1
    rw [cond_true] at el
    subst el
    simpa [ai_hpb] using hp
theorem ai_tnd {T : Nat → ai_MD} {md : ai_MD} {q : Nat} {c : Bool} {x y : List ai_E} (hx : ai_Pq T md q x) (hy : ai_Pq T md q y) : ai_Pq T md q (bif c then x else y) := by
  cases c <;> assumption
theorem ai_tn2 {T : Nat → ai_MD} {x1 x2 : ai_MD} {q : Nat} {c : Bool} {y1 y2 : List ai_E} (h1 : ai_Pq T x1 q y1) (h2 : ai_Pq T x2 q y2) : ai_Pq T (bif c then x1 else x2) q (bif c then y1 else y2) := by
  cases c <;> assumption
def ai_Pm (md : ai_MD) : Prop := ¬ md.2.2.2.2.2.2.2 = 3 → ai_mok md
theorem ai_tm {c : Bool} {x y : ai_MD} (hx : ai_Pm x) (hy : ai_Pm y) : ai_Pm (bif c then x else y) := by
  cases c <;> assumption
def ai_mkB (md : ai_MD) (h : List Nat) : Bool := decide (md.1 = md.2.1.cls) && (plainName md.2.1.cls && (ai_hit (ai_hn h 0) (.code md.2.1 md.2.2.1 md.2.2.2.1 md.2.2.2.2.1) && ((decide (md.2.1.cls ≠ "java/lang/invoke/MethodHandle") && (decide (md.2.1.cls ≠ "java/lang/invoke/VarHandle") && decide ((parseMethodDescriptor md.2.1.desc).map (fun d => d.parameters.length) = some md.2.2.2.2.2.1))) && (ai_hit (ai_hn h 1) (.initialized md.2.1.cls) && (bif md.2.2.2.2.2.2.2 == 0 then ai_hit (ai_hn h 2) (.instanceMethod md.2.1) && ai_hit (ai_hn h 3) (.selects md.2.1.cls md.2.1 md.2.1) else bif md.2.2.2.2.2.2.2 == 1 then ai_hit (ai_hn h 2) (.static md.2.1) else bif md.2.2.2.2.2.2.2 == 2 then decide (md.2.1.name = "<init>") && (ai_hit (ai_hn h 2) (.instanceMethod md.2.1) && md.2.2.2.2.1.isNone) else true)))))
theorem ai_mkB_ok {md : ai_MD} {h : List Nat} (hh : ai_mkB md h = true) : ai_mok md := by
  unfold ai_mkB at hh
  rw [Bool.and_eq_true, Bool.and_eq_true, Bool.and_eq_true, Bool.and_eq_true, Bool.and_eq_true, Bool.and_eq_true, Bool.and_eq_true] at hh
  obtain ⟨h1, h2, h3, ⟨h4, h5, h6⟩, h7, h8⟩ := hh
  refine ⟨of_decide_eq_true h1, h2, ai_hit_ok h3, ⟨of_decide_eq_true h4, of_decide_eq_true h5, of_decide_eq_true h6⟩, ai_hit_ok h7, fun e => ?_, fun e => ?_, fun e => ?_⟩
  · rw [e] at h8
    have h9 : (ai_hit (ai_hn h 2) (.instanceMethod md.2.1) && ai_hit (ai_hn h 3) (.selects md.2.1.cls md.2.1 md.2.1)) = true := h8
    rw [Bool.and_eq_true] at h9
    exact ⟨ai_hit_ok h9.1, ai_hit_ok h9.2⟩
  · rw [e] at h8
    have h9 : ai_hit (ai_hn h 2) (.static md.2.1) = true := h8
    exact ai_hit_ok h9
  · rw [e] at h8
    have h9 : (decide (md.2.1.name = "<init>") && (ai_hit (ai_hn h 2) (.instanceMethod md.2.1) && md.2.2.2.2.1.isNone)) = true := h8
    rw [Bool.and_eq_true, Bool.and_eq_true] at h9
    exact ⟨of_decide_eq_true h9.1, ai_hit_ok h9.2.1, Option.isNone_iff_eq_none.mp h9.2.2⟩
