/-! ===== String.charAt and what it calls ===== -/
def jd_N : Nat → Prop := fun _ => False
theorem jw_14 : (Jvm.Cond.initialized "java/lang/String" : Jvm.Cond) ∈ ai_tb := ai_hit2_ok tk_1 (n := 14) (by decide +kernel)
theorem jw_15 : (Jvm.Cond.initialized "java/lang/StringLatin1" : Jvm.Cond) ∈ ai_tb := ai_hit2_ok tk_1 (n := 15) (by decide +kernel)
theorem jw_16 : (Jvm.Cond.initialized "jdk/internal/util/Preconditions" : Jvm.Cond) ∈ ai_tb := ai_hit2_ok tk_1 (n := 16) (by decide +kernel)
theorem jw_699 : (Jvm.Cond.methodLink "FirstPolls$Reader" 117 yJ0_charAt_5068e : Jvm.Cond) ∈ ai_tb := ai_hit2_ok tk_3 (n := 219) (by decide +kernel)
theorem jw_700 : (Jvm.Cond.instanceMethod yJ0_charAt_5068e : Jvm.Cond) ∈ ai_tb := ai_hit2_ok tk_3 (n := 220) (by decide +kernel)
theorem jw_701 : (Jvm.Cond.selects "java/lang/String" yJ0_charAt_5068e yJ0_charAt_5068e : Jvm.Cond) ∈ ai_tb := ai_hit2_ok tk_3 (n := 221) (by decide +kernel)
theorem jw_702 : (Jvm.Cond.code yJ0_charAt_5068e cJ0_charAt_5068e 2 (some .char) : Jvm.Cond) ∈ ai_tb := ai_hit2_ok tk_3 (n := 222) (by decide +kernel)
theorem jw_703 : (Jvm.Cond.methodLink "java/lang/String" 492 yJ0_isLatin1_aae02 : Jvm.Cond) ∈ ai_tb := ai_hit2_ok tk_3 (n := 223) (by decide +kernel)
theorem jw_704 : (Jvm.Cond.instanceMethod yJ0_isLatin1_aae02 : Jvm.Cond) ∈ ai_tb := ai_hit2_ok tk_3 (n := 224) (by decide +kernel)
theorem jw_705 : (Jvm.Cond.selects "java/lang/String" yJ0_isLatin1_aae02 yJ0_isLatin1_aae02 : Jvm.Cond) ∈ ai_tb := ai_hit2_ok tk_3 (n := 225) (by decide +kernel)
theorem jw_706 : (Jvm.Cond.code yJ0_isLatin1_aae02 cJ0_isLatin1_aae02 1 (some .boolean) : Jvm.Cond) ∈ ai_tb := ai_hit2_ok tk_3 (n := 226) (by decide +kernel)
theorem jw_707 : (Jvm.Cond.fieldLink "java/lang/String" 38 "java/lang/String" "COMPACT_STRINGS" "Z" : Jvm.Cond) ∈ ai_tb := ai_hit2_ok tk_3 (n := 227) (by decide +kernel)
theorem jw_709 : (Jvm.Cond.methodLink "java/lang/String" 495 yJ1_charAt_3b067 : Jvm.Cond) ∈ ai_tb := ai_hit2_ok tk_3 (n := 229) (by decide +kernel)
theorem jw_710 : (Jvm.Cond.static yJ1_charAt_3b067 : Jvm.Cond) ∈ ai_tb := ai_hit2_ok tk_3 (n := 230) (by decide +kernel)
theorem jw_711 : (Jvm.Cond.code yJ1_charAt_3b067 cJ1_charAt_3b067 2 (some .char) : Jvm.Cond) ∈ ai_tb := ai_hit2_ok tk_3 (n := 231) (by decide +kernel)
theorem jw_712 : (Jvm.Cond.methodLink "java/lang/StringLatin1" 9 yJ0_checkIndex_df160 : Jvm.Cond) ∈ ai_tb := ai_hit2_ok tk_3 (n := 232) (by decide +kernel)
theorem jw_713 : (Jvm.Cond.static yJ0_checkIndex_df160 : Jvm.Cond) ∈ ai_tb := ai_hit2_ok tk_3 (n := 233) (by decide +kernel)
theorem jw_714 : (Jvm.Cond.code yJ0_checkIndex_df160 cJ0_checkIndex_df160 2 none : Jvm.Cond) ∈ ai_tb := ai_hit2_ok tk_3 (n := 234) (by decide +kernel)
theorem jw_715 : (Jvm.Cond.fieldLink "java/lang/String" 1053 "jdk/internal/util/Preconditions" "SIOOBE_FORMATTER" "Ljava/util/function/BiFunction;" : Jvm.Cond) ∈ ai_tb := ai_hit2_ok tk_3 (n := 235) (by decide +kernel)
theorem jw_717 : (Jvm.Cond.methodLink "java/lang/String" 1059 yJ3_checkIndex_8e157 : Jvm.Cond) ∈ ai_tb := ai_hit2_ok tk_3 (n := 237) (by decide +kernel)
theorem jw_718 : (Jvm.Cond.static yJ3_checkIndex_8e157 : Jvm.Cond) ∈ ai_tb := ai_hit2_ok tk_3 (n := 238) (by decide +kernel)
theorem jw_719 : (Jvm.Cond.code yJ3_checkIndex_8e157 cJ3_checkIndex_8e157 3 (some .int) : Jvm.Cond) ∈ ai_tb := ai_hit2_ok tk_3 (n := 239) (by decide +kernel)
theorem jw_935 : (Jvm.Cond.fieldLink "FirstPolls$Siting" 105 "FirstPolls$Siting" "DIGITS" "[I" : Jvm.Cond) ∈ ai_tb := ai_hit2_ok tk_4 (n := 215) (by decide +kernel)
theorem jw_2116 : (Jvm.Cond.fieldLink "java/lang/String" 15 "java/lang/String" "coder" "B" : Jvm.Cond) ∈ ai_tb := ai_hit2_ok tk_9 (n := 196) (by decide +kernel)
theorem jw_2117 : (Jvm.Cond.fieldLink "java/lang/String" 9 "java/lang/String" "value" "[B" : Jvm.Cond) ∈ ai_tb := ai_hit2_ok tk_9 (n := 197) (by decide +kernel)
theorem jdd_1_0 : decode cJ0_charAt_5068e 0 = .ok (.aload_n 0, 1) := by decide +kernel
theorem jdd_1_1 : decode cJ0_charAt_5068e 1 = .ok (.invokevirtual 492, 3) := by decide +kernel
theorem jdd_1_4 : decode cJ0_charAt_5068e 4 = .ok (.ifCond .eq 12, 3) := by decide +kernel
theorem jdd_1_7 : decode cJ0_charAt_5068e 7 = .ok (.aload_n 0, 1) := by decide +kernel
theorem jdd_1_8 : decode cJ0_charAt_5068e 8 = .ok (.getfield 9, 3) := by decide +kernel
theorem jdd_1_11 : decode cJ0_charAt_5068e 11 = .ok (.iload_n 1, 1) := by decide +kernel
theorem jdd_1_12 : decode cJ0_charAt_5068e 12 = .ok (.invokestatic 495, 3) := by decide +kernel
theorem jdd_1_15 : decode cJ0_charAt_5068e 15 = .ok (.ireturn, 1) := by decide +kernel
theorem jdd_2_0 : decode cJ0_checkIndex_df160 0 = .ok (.iload_n 0, 1) := by decide +kernel
theorem jdd_2_1 : decode cJ0_checkIndex_df160 1 = .ok (.iload_n 1, 1) := by decide +kernel
theorem jdd_2_2 : decode cJ0_checkIndex_df160 2 = .ok (.getstatic 1053, 3) := by decide +kernel
theorem jdd_2_5 : decode cJ0_checkIndex_df160 5 = .ok (.invokestatic 1059, 3) := by decide +kernel
theorem jdd_2_8 : decode cJ0_checkIndex_df160 8 = .ok (.pop, 1) := by decide +kernel
theorem jdd_2_9 : decode cJ0_checkIndex_df160 9 = .ok (.return_, 1) := by decide +kernel
theorem jdd_3_0 : decode cJ0_isLatin1_aae02 0 = .ok (.getstatic 38, 3) := by decide +kernel
theorem jdd_3_3 : decode cJ0_isLatin1_aae02 3 = .ok (.ifCond .eq 14, 3) := by decide +kernel
theorem jdd_3_6 : decode cJ0_isLatin1_aae02 6 = .ok (.aload_n 0, 1) := by decide +kernel
theorem jdd_3_7 : decode cJ0_isLatin1_aae02 7 = .ok (.getfield 15, 3) := by decide +kernel
theorem jdd_3_10 : decode cJ0_isLatin1_aae02 10 = .ok (.ifCond .ne 7, 3) := by decide +kernel
theorem jdd_3_13 : decode cJ0_isLatin1_aae02 13 = .ok (.iconst 1, 1) := by decide +kernel
theorem jdd_3_14 : decode cJ0_isLatin1_aae02 14 = .ok (.goto 4, 3) := by decide +kernel
theorem jdd_3_18 : decode cJ0_isLatin1_aae02 18 = .ok (.ireturn, 1) := by decide +kernel
theorem jdd_4_0 : decode cJ1_charAt_3b067 0 = .ok (.iload_n 1, 1) := by decide +kernel
theorem jdd_4_1 : decode cJ1_charAt_3b067 1 = .ok (.aload_n 0, 1) := by decide +kernel
theorem jdd_4_2 : decode cJ1_charAt_3b067 2 = .ok (.arraylength, 1) := by decide +kernel
theorem jdd_4_3 : decode cJ1_charAt_3b067 3 = .ok (.invokestatic 9, 3) := by decide +kernel
theorem jdd_4_6 : decode cJ1_charAt_3b067 6 = .ok (.aload_n 0, 1) := by decide +kernel
theorem jdd_4_7 : decode cJ1_charAt_3b067 7 = .ok (.iload_n 1, 1) := by decide +kernel
theorem jdd_4_8 : decode cJ1_charAt_3b067 8 = .ok (.baload, 1) := by decide +kernel
theorem jdd_4_9 : decode cJ1_charAt_3b067 9 = .ok (.sipush 255, 3) := by decide +kernel
theorem jdd_4_12 : decode cJ1_charAt_3b067 12 = .ok (.iand, 1) := by decide +kernel
theorem jdd_4_13 : decode cJ1_charAt_3b067 13 = .ok (.i2c, 1) := by decide +kernel
theorem jdd_4_14 : decode cJ1_charAt_3b067 14 = .ok (.ireturn, 1) := by decide +kernel
theorem jdd_9_0 : decode cJ3_checkIndex_8e157 0 = .ok (.iload_n 0, 1) := by decide +kernel
theorem jdd_9_1 : decode cJ3_checkIndex_8e157 1 = .ok (.ifCond .lt 8, 3) := by decide +kernel
theorem jdd_9_4 : decode cJ3_checkIndex_8e157 4 = .ok (.iload_n 0, 1) := by decide +kernel
theorem jdd_9_5 : decode cJ3_checkIndex_8e157 5 = .ok (.iload_n 1, 1) := by decide +kernel
theorem jdd_9_6 : decode cJ3_checkIndex_8e157 6 = .ok (.if_icmp .lt 10, 3) := by decide +kernel
theorem jdd_9_16 : decode cJ3_checkIndex_8e157 16 = .ok (.iload_n 0, 1) := by decide +kernel
theorem jdd_9_17 : decode cJ3_checkIndex_8e157 17 = .ok (.ireturn, 1) := by decide +kernel
theorem jd_good {w : Jvm.Cond} (h : w ∈ ai_tb) : GoodIn ai_tb (w :: ai_tb) := by
  intro w' hw
  rcases List.mem_cons.mp hw with rfl | hw
  · exact ⟨h, ai_tb_good h⟩
  · exact ⟨hw, ai_tb_good hw⟩
def jd_Q (r : Option Value) : Array Value → State → Outcome → State → Prop := fun _ st oc t => oc = .returned r ∧ t.heap = st.heap
section JDS
variable {p : Program} {l : Launch} {e : Env} {R : Room} {s : State} {m : MethodId} {args : Array Value} {below : List Frame} {meth : Method} {c : Code} {H : Heap} {locs : List Loc} {Q : State → Prop} {cs ss : Nat}
theorem jd_static {y : MethodName} {bytes cc : ByteArray} {maxL n index pc : Nat} {ret : Option FieldType} {rm : Room} {Pc : Array Value → State → Prop} {r : Option Value} {own : String} {vs rest : List Value} {ls : Array Slot} (hx : p.tables.exec = Jvm.exec) (hb : c.code = cc) (hml : c.maxLocals = ls.size) (hown : s.vm.findClass own = some m.cls) (hts : ∀ w ∈ ai_tb, w.before args s = true) (hM : Met l y (Jvm.Cond.code y bytes maxL ret :: ai_tb) rm Pc (jd_Q r) 0 0 (fun _ => False)) (hcd : Jvm.Cond.code y bytes maxL ret ∈ ai_tb) (hc0 : rm.cells = 0) (hs0 : rm.slots = 0) (hini : Jvm.Cond.initialized y.cls ∈ ai_tb) (hlk : Jvm.Cond.methodLink own index y ∈ ai_tb) (hst : Jvm.Cond.static y ∈ ai_tb) (hd : y.cls ≠ "java/lang/invoke/MethodHandle" ∧ y.cls ≠ "java/lang/invoke/VarHandle" ∧ (parseMethodDescriptor y.desc).map (fun d => d.parameters.length) = some n) (hR : rm.frames + 1 ≤ R.frames ∧ 8 + (maxL + 11) + rm.locals ≤ R.locals) (hp : PreS s H Pc vs) (hn : vs.length = n) (hW : (rest.map fun v => v.category).sum ≤ 8) (hcs : cs ≤ R.cells ∧ ss ≤ R.slots) (hdg : decode cc pc = .ok (.invokestatic index, 3)) (kk : W p l e R s m args below meth c H locs cs ss Q (F0 m (pc + 3) ls (r.toList ++ rest))) : W p l e R s m args below meth c H locs cs ss Q (F0 m pc ls (vs.reverse ++ rest)) := by
  have run : va_Run p l e R s m args below meth c H locs cs ss 0 0 (F0 m pc ls (vs.reverse ++ rest)) rest (fun st oc t => oc = .returned r ∧ t.heap = st.heap) (fun _ => False) :=
    va_runS (cc := cc) (nL := ls.size) (own := own) (Ts := ai_tb) ⟨hx, hb, hml, hown, hts⟩ hM ⟨callB_of n hts (jd_good hcd) rfl hc0 hs0 (hts _ hini) (hts _ hlk) hd hR, hts _ hst⟩ hp rfl hn rfl rfl (by show 2 * 0 + _ ≤ 8; omega) hdg hcs
  refine ai_run run (fun v' st' t H1 L h0 h1 _ hq hL => ?_)
  obtain ⟨e1, e2⟩ := hq
  cases e1
  have eL : L = [] := by
    cases L with
    | nil => rfl
    | cons q L => exact absurd (hL q List.mem_cons_self) (fun h => h)
  subst eL
  rw [List.append_nil, ← h1, e2, h0]
  exact kk
theorem jd_virt {C : String} {b : Addr} {y : MethodName} {bytes cc : ByteArray} {maxL n index pc : Nat} {ret : Option FieldType} {rm : Room} {Pc : Array Value → State → Prop} {r : Option Value} {own : String} {vs rest : List Value} {ls : Array Slot} (hx : p.tables.exec = Jvm.exec) (hb : c.code = cc) (hml : c.maxLocals = ls.size) (hown : s.vm.findClass own = some m.cls) (hts : ∀ w ∈ ai_tb, w.before args s = true) (hM : Met l y (Jvm.Cond.code y bytes maxL ret :: ai_tb) rm Pc (jd_Q r) 0 0 (fun _ => False)) (hcd : Jvm.Cond.code y bytes maxL ret ∈ ai_tb) (hc0 : rm.cells = 0) (hs0 : rm.slots = 0) (hini : Jvm.Cond.initialized y.cls ∈ ai_tb) (hlk : Jvm.Cond.methodLink own index y ∈ ai_tb) (hin : Jvm.Cond.instanceMethod y ∈ ai_tb) (hse : Jvm.Cond.selects C y y ∈ ai_tb) (hd : y.cls ≠ "java/lang/invoke/MethodHandle" ∧ y.cls ≠ "java/lang/invoke/VarHandle" ∧ (parseMethodDescriptor y.desc).map (fun d => d.parameters.length) = some n) (hR : rm.frames + 1 ≤ R.frames ∧ 8 + (maxL + 11) + rm.locals ≤ R.locals) (hp : PreV s H C b Pc vs) (hn : vs.length = n) (hW : (rest.map fun v => v.category).sum ≤ 8) (hcs : cs ≤ R.cells ∧ ss ≤ R.slots) (hdg : decode cc pc = .ok (.invokevirtual index, 3)) (kk : W p l e R s m args below meth c H locs cs ss Q (F0 m (pc + 3) ls (r.toList ++ rest))) : W p l e R s m args below meth c H locs cs ss Q (F0 m pc ls (vs.reverse ++ .ref b :: rest)) := by
  have run : va_Run p l e R s m args below meth c H locs cs ss 0 0 (F0 m pc ls (vs.reverse ++ .ref b :: rest)) rest (fun st oc t => oc = .returned r ∧ t.heap = st.heap) (fun _ => False) :=
    va_runV (cc := cc) (nL := ls.size) (own := own) (Ts := ai_tb) ⟨hx, hb, hml, hown, hts⟩ hM ⟨callB_of n hts (jd_good hcd) rfl hc0 hs0 (hts _ hini) (hts _ hlk) hd hR, hts _ hin, hts _ hse⟩ hp rfl hn rfl rfl (by show 2 * 0 + _ ≤ 8; omega) hdg hcs
  refine ai_run run (fun v' st' t H1 L h0 h1 _ hq hL => ?_)
  obtain ⟨e1, e2⟩ := hq
  cases e1
  have eL : L = [] := by
    cases L with
    | nil => rfl
    | cons q L => exact absurd (hL q List.mem_cons_self) (fun h => h)
  subst eL
  rw [List.append_nil, ← h1, e2, h0]
  exact kk
end JDS
/-- Preconditions.checkIndex of a place within -/
theorem jd_ck3 {i n : Int32} {f : Value} (h0 : 0 ≤ i.toInt) (h1 : i.toInt < n.toInt) (hf : f = .null ∨ ∃ t, f = .ref t) (l : Launch) : Met l yJ3_checkIndex_8e157 (Jvm.Cond.code yJ3_checkIndex_8e157 cJ3_checkIndex_8e157 3 (some .int) :: ai_tb) { frames := 1, cells := 0, slots := 0, locals := 24 } (fun a _ => a = ([.int i, .int n, f] : List Value).toArray) (jd_Q (some (.int i))) 0 0 (fun _ => False) := by
  refine Met.ofW (cc := cJ3_checkIndex_8e157) (maxL := 3) (ret := some .int) (by decide) rfl ?_
  intro p e s m args below meth c s₁ B hml hv
  subst hv
  have hx := B.exec
  have hb := B.bytes
  have hl := lv_entry ([.int i, .int n, f]) (n := 3) (by rcases hf with rfl | ⟨t, rfl⟩ <;> exact Nat.le_of_ble_eq_true rfl)
  rw [lg_entry_eq]
  generalize (lg_sl ([.int i, .int n, f]) ++ List.replicate (3 - (lg_sl ([.int i, .int n, f])).length) Slot.unset).toArray = ls at hl ⊢
  have hl : lv_has ls 3 [(0, .int i), (1, .int n), (2, f)] := hl
  refine lv_iload_n hx hb jdd_9_0 rfl (lv_at hl 0 rfl) ?_
  refine ai_if hx hb (q := .lt) (off := 8) (tgt := 9) jdd_9_1 (by decide) (fun g => absurd (show i.toInt < 0 from g) (by omega)) (fun _ => ?_)
  refine lv_iload_n hx hb jdd_9_4 rfl (lv_at hl 0 rfl) ?_
  refine lv_iload_n hx hb jdd_9_5 rfl (lv_at hl 1 rfl) ?_
  refine ai_icmp hx hb (q := .lt) (off := 10) (tgt := 16) jdd_9_6 (by decide) (fun _ => ?_) (fun g => absurd (show i.toInt < n.toInt from h1) g)
  refine lv_iload_n hx hb jdd_9_16 rfl (lv_at hl 0 rfl) ?_
  exact W.iret hx hb B.returns (fun t ht _ => ⟨rfl, ht⟩) (fun q hq => by cases hq) jdd_9_17
abbrev jd_Z (U : State) (H : Heap) : Prop := va_Zq "jdk/internal/util/Preconditions" "SIOOBE_FORMATTER" "Ljava/util/function/BiFunction;" jd_N U H
/-- String.checkIndex of a place within -/
theorem jd_ck2 {i n : Int32} (h0 : 0 ≤ i.toInt) (h1 : i.toInt < n.toInt) (l : Launch) : Met l yJ0_checkIndex_df160 (Jvm.Cond.code yJ0_checkIndex_df160 cJ0_checkIndex_df160 2 none :: ai_tb) { frames := 2, cells := 0, slots := 0, locals := 46 } (fun a U => a = ([.int i, .int n] : List Value).toArray ∧ jd_Z U U.heap) (jd_Q none) 0 0 (fun _ => False) := by
  refine Met.ofW (cc := cJ0_checkIndex_df160) (maxL := 2) (ret := none) (by decide) rfl ?_
  intro p e s m args below meth c s₁ B hml hv
  obtain ⟨rfl, hz⟩ := hv
  have hx := B.exec
  have hb := B.bytes
  have hts0 := atoms_spec (ws := Jvm.Cond.code yJ0_checkIndex_df160 cJ0_checkIndex_df160 2 none :: ai_tb) B.pre
  have hts : ∀ w ∈ ai_tb, w.before ([.int i, .int n] : List Value).toArray s = true := fun w hw => hts0 w (List.mem_cons_of_mem _ hw)
  have hown : s.vm.findClass "java/lang/String" = some m.cls := findClass_of_methodNamed B.named
  have hl := lv_entry ([.int i, .int n]) (n := 2) (Nat.le_of_ble_eq_true rfl)
  rw [lg_entry_eq]
  generalize (lg_sl ([.int i, .int n]) ++ List.replicate (2 - (lg_sl ([.int i, .int n])).length) Slot.unset).toArray = ls at hl ⊢
  have hl : lv_has ls 2 [(0, .int i), (1, .int n)] := hl
  obtain ⟨f, hf, hzf⟩ : ∃ f, (f = .null ∨ ∃ t, f = .ref t) ∧ va_Z "jdk/internal/util/Preconditions" "SIOOBE_FORMATTER" "Ljava/util/function/BiFunction;" f jd_N s s.heap := by
    rcases hz with hz | ⟨t, hz⟩
    · exact ⟨_, Or.inl rfl, hz⟩
    · exact ⟨_, Or.inr ⟨t, rfl⟩, hz⟩
  refine lv_iload_n hx hb jdd_2_0 rfl (lv_at hl 0 rfl) ?_
  refine lv_iload_n hx hb jdd_2_1 rfl (lv_at hl 1 rfl) ?_
  refine va_gets hx hb hzf va_S.rf hown (hts _ jw_715) (fun _ h => h) jdd_2_2 ?_
  refine jd_static (vs := [.int i, .int n, f]) (rest := []) (index := 1059) (n := 3) hx hb (hml.trans hl.1.symm) hown hts (jd_ck3 h0 h1 hf l) jw_719 rfl rfl jw_16 jw_717 jw_718 (by decide +kernel) (by decide) ⟨fun _ _ _ _ h => h, fun _ _ _ => rfl⟩ rfl (by decide) ⟨Nat.zero_le _, Nat.zero_le _⟩ jdd_2_5 ?_
  refine lv_pop hx hb jdd_2_8 rfl ?_
  exact W.vret hx hb B.returns (fun t ht _ => ⟨rfl, ht⟩) (fun q hq => by cases hq) jdd_2_9
def jd_ch (b : Int32) : Int32 := ((b &&& 255).toUInt32 % 65536).toInt32
def jd_chk (j : Nat) : Bool := decide (narrow .char (.int (jd_ch (sx_by.getD j 0))) = .int (jd_ch (sx_by.getD j 0))) && (decide (0 ≤ (jd_ch (sx_by.getD j 0)).toInt) && decide ((jd_ch (sx_by.getD j 0)).toInt ≤ 127))
theorem jd_cha : (List.range 174).all jd_chk = true := by decide +kernel
theorem jd_chb {j : Nat} (h : j < 174) : narrow .char (.int (jd_ch (sx_by.getD j 0))) = .int (jd_ch (sx_by.getD j 0)) ∧ 0 ≤ (jd_ch (sx_by.getD j 0)).toInt ∧ (jd_ch (sx_by.getD j 0)).toInt ≤ 127 := by
  have := List.all_eq_true.mp jd_cha j (List.mem_range.mpr h)
  unfold jd_chk at this
  simp only [Bool.and_eq_true, decide_eq_true_eq] at this
  exact this
abbrev jd_T (d : Nat) (U : State) (H : Heap) : Prop := va_T .byte d 174 (fun j => .int (sx_by.getD j 0)) jd_N U H
theorem jd_in {i : Int32} (h0 : 0 ≤ i.toInt) (h1 : i.toInt < 174) : vp_in i 174 ∧ i.toNatClampNeg < 174 := by
  have hv : vp_in i 174 := vp_in_iff.mpr ⟨h0, by omega⟩
  exact ⟨hv, Nat.not_le.mp fun q => hv (Or.inr q)⟩
/-- StringLatin1.charAt over the words' text -/
theorem jd_ch1 {d : Nat} {i : Int32} (h0 : 0 ≤ i.toInt) (h1 : i.toInt < 174) (l : Launch) : Met l yJ1_charAt_3b067 (Jvm.Cond.code yJ1_charAt_3b067 cJ1_charAt_3b067 2 (some .char) :: ai_tb) { frames := 3, cells := 0, slots := 0, locals := 67 } (fun a U => a = ([.ref d, .int i] : List Value).toArray ∧ jd_T d U U.heap ∧ jd_Z U U.heap) (jd_Q (some (.int (jd_ch (sx_by.getD i.toNatClampNeg 0))))) 0 0 (fun _ => False) := by
  refine Met.ofW (cc := cJ1_charAt_3b067) (maxL := 2) (ret := some .char) (by decide) rfl ?_
  intro p e s m args below meth c s₁ B hml hv
  obtain ⟨rfl, hT, hz⟩ := hv
  have hx := B.exec
  have hb := B.bytes
  have hts0 := atoms_spec (ws := Jvm.Cond.code yJ1_charAt_3b067 cJ1_charAt_3b067 2 (some .char) :: ai_tb) B.pre
  have hts : ∀ w ∈ ai_tb, w.before ([.ref d, .int i] : List Value).toArray s = true := fun w hw => hts0 w (List.mem_cons_of_mem _ hw)
  have hown : s.vm.findClass "java/lang/StringLatin1" = some m.cls := findClass_of_methodNamed B.named
  have hl := lv_entry ([.ref d, .int i]) (n := 2) (Nat.le_of_ble_eq_true rfl)
  rw [lg_entry_eq]
  generalize (lg_sl ([.ref d, .int i]) ++ List.replicate (2 - (lg_sl ([.ref d, .int i])).length) Slot.unset).toArray = ls at hl ⊢
  have hl : lv_has ls 2 [(0, .ref d), (1, .int i)] := hl
  have hin := jd_in h0 h1
  refine lv_iload_n hx hb jdd_4_0 rfl (lv_at hl 1 rfl) ?_
  refine lv_aload_n hx hb jdd_4_1 rfl (lv_at hl 0 rfl) ?_
  refine va_tlen hx hb hT va_S.rf (v := 174) rfl jdd_4_2 ?_
  refine jd_static (vs := [.int i, .int 174]) (rest := []) (index := 9) (n := 2) hx hb (hml.trans hl.1.symm) hown hts (jd_ck2 (n := 174) h0 (by rw [show (174 : Int32).toInt = 174 from rfl]; exact h1) l) jw_714 rfl rfl jw_14 jw_712 jw_713 (by decide +kernel) (by decide) ⟨fun a U g mk h => ⟨h.1, va_Zq.moved (u := U) (U := U.calling g mk a) (Vm.Alike.refl U.vm) h.2⟩, fun U hU hW => ⟨rfl, by rw [hU]; exact va_Zq.moved hW.alike hz⟩⟩ rfl (by decide) ⟨Nat.zero_le _, Nat.zero_le _⟩ jdd_4_3 ?_
  refine lv_aload_n hx hb jdd_4_6 rfl (lv_at hl 0 rfl) ?_
  refine lv_iload_n hx hb jdd_4_7 rfl (lv_at hl 1 rfl) ?_
  refine va_tb hx hb hT va_S.rf hin.1 rfl jdd_4_8 ?_
  refine lv_sipush hx hb (n := 255) (v := 255) jdd_4_9 (by decide +kernel) ?_
  refine lv_iand hx hb jdd_4_12 ?_
  refine lv_i2c hx hb jdd_4_13 (v := jd_ch (sx_by.getD i.toNatClampNeg 0)) rfl ?_
  exact W.zret hx hb B.returns (jd_chb hin.2).1 (fun t ht _ => ⟨rfl, ht⟩) (fun q hq => by cases hq) jdd_4_14
/-- String.isLatin1 -/
theorem jd_lat {q : Nat} (l : Launch) : Met l yJ0_isLatin1_aae02 (Jvm.Cond.code yJ0_isLatin1_aae02 cJ0_isLatin1_aae02 1 (some .boolean) :: ai_tb) { frames := 1, cells := 0, slots := 0, locals := 24 } (fun a U => a = ([.ref q] : List Value).toArray ∧ va_Z "java/lang/String" "COMPACT_STRINGS" "Z" (.int 1) jd_N U U.heap ∧ va_OF "java/lang/String" "coder" "B" (.int 0) q jd_N U U.heap) (jd_Q (some (.int 1))) 0 0 (fun _ => False) := by
  refine Met.ofW (cc := cJ0_isLatin1_aae02) (maxL := 1) (ret := some .boolean) (by decide) rfl ?_
  intro p e s m args below meth c s₁ B hml hv
  obtain ⟨rfl, hz, hc⟩ := hv
  have hx := B.exec
  have hb := B.bytes
  have hts0 := atoms_spec (ws := Jvm.Cond.code yJ0_isLatin1_aae02 cJ0_isLatin1_aae02 1 (some .boolean) :: ai_tb) B.pre
  have hts : ∀ w ∈ ai_tb, w.before ([.ref q] : List Value).toArray s = true := fun w hw => hts0 w (List.mem_cons_of_mem _ hw)
  have hown : s.vm.findClass "java/lang/String" = some m.cls := findClass_of_methodNamed B.named
  have hl := lv_entry ([.ref q]) (n := 1) (Nat.le_of_ble_eq_true rfl)
  rw [lg_entry_eq]
  generalize (lg_sl ([.ref q]) ++ List.replicate (1 - (lg_sl ([.ref q])).length) Slot.unset).toArray = ls at hl ⊢
  have hl : lv_has ls 1 [(0, .ref q)] := hl
  refine va_gets hx hb hz va_S.rf hown (hts _ jw_707) (fun _ h => h) jdd_3_0 ?_
  refine ai_if hx hb (q := .eq) (off := 14) (tgt := 17) jdd_3_3 (by decide) (fun g => absurd (show (1 : Int32).toInt = 0 from g) (by decide)) (fun _ => ?_)
  refine lv_aload_n hx hb jdd_3_6 rfl (lv_at hl 0 rfl) ?_
  refine vk_getf hx hb hc va_S.rf hown (hts _ jw_2116) (fun _ h => h) jdd_3_7 ?_
  refine ai_if hx hb (q := .ne) (off := 7) (tgt := 17) jdd_3_10 (by decide) (fun g => absurd rfl (show ¬ ((0 : Int32).toInt = 0) from g)) (fun _ => ?_)
  refine lv_iconst hx hb jdd_3_13 rfl ?_
  refine lv_goto hx hb (tgt := 18) jdd_3_14 (by decide) ?_
  exact W.zret hx hb B.returns (by decide) (fun t ht _ => ⟨rfl, ht⟩) (fun q hq => by cases hq) jdd_3_18
def jd_S (q d : Nat) (U : State) (H : Heap) : Prop := va_Z "java/lang/String" "COMPACT_STRINGS" "Z" (.int 1) jd_N U H ∧ va_O "java/lang/String" q jd_N U H ∧ va_OF "java/lang/String" "coder" "B" (.int 0) q jd_N U H ∧ va_OF "java/lang/String" "value" "[B" (.ref d) q jd_N U H ∧ jd_T d U H ∧ jd_Z U H
theorem jd_Smoved {q d : Nat} {u U : State} {H : Heap} (al : u.vm.Alike U.vm) (h : jd_S q d u H) : jd_S q d U H := ⟨va_Z.moved al h.1, va_O.moved al h.2.1, va_OF.moved al h.2.2.1, va_OF.moved al h.2.2.2.1, va_T.moved al h.2.2.2.2.1, va_Zq.moved al h.2.2.2.2.2⟩
/-- String.charAt of the words' text -/
theorem jd_char {q d : Nat} {i : Int32} (h0 : 0 ≤ i.toInt) (h1 : i.toInt < 174) (l : Launch) : Met l yJ0_charAt_5068e (Jvm.Cond.code yJ0_charAt_5068e cJ0_charAt_5068e 2 (some .char) :: ai_tb) { frames := 4, cells := 0, slots := 0, locals := 88 } (fun a U => a = ([.ref q, .int i] : List Value).toArray ∧ jd_S q d U U.heap) (jd_Q (some (.int (jd_ch (sx_by.getD i.toNatClampNeg 0))))) 0 0 (fun _ => False) := by
  refine Met.ofW (cc := cJ0_charAt_5068e) (maxL := 2) (ret := some .char) (by decide) rfl ?_
  intro p e s m args below meth c s₁ B hml hv
  obtain ⟨rfl, hc, hO, hcd, hvl, hT, hz⟩ := hv
  have hx := B.exec
  have hb := B.bytes
  have hts0 := atoms_spec (ws := Jvm.Cond.code yJ0_charAt_5068e cJ0_charAt_5068e 2 (some .char) :: ai_tb) B.pre
  have hts : ∀ w ∈ ai_tb, w.before ([.ref q, .int i] : List Value).toArray s = true := fun w hw => hts0 w (List.mem_cons_of_mem _ hw)
  have hown : s.vm.findClass "java/lang/String" = some m.cls := findClass_of_methodNamed B.named
  have hl := lv_entry ([.ref q, .int i]) (n := 2) (Nat.le_of_ble_eq_true rfl)
  rw [lg_entry_eq]
  generalize (lg_sl ([.ref q, .int i]) ++ List.replicate (2 - (lg_sl ([.ref q, .int i])).length) Slot.unset).toArray = ls at hl ⊢
  have hl : lv_has ls 2 [(0, .ref q), (1, .int i)] := hl
  have hin := jd_in h0 h1
  refine lv_aload_n hx hb jdd_1_0 rfl (lv_at hl 0 rfl) ?_
  refine jd_virt (C := "java/lang/String") (b := q) (vs := []) (rest := []) (index := 492) (n := 0) hx hb (hml.trans hl.1.symm) hown hts (jd_lat (q := q) l) jw_706 rfl rfl jw_14 jw_703 jw_704 jw_705 (by decide +kernel) (by decide) ⟨fun a U g mk h => ⟨h.1, va_Z.moved (u := U) (U := U.calling g mk a) (Vm.Alike.refl U.vm) h.2.1, va_OF.moved (u := U) (U := U.calling g mk a) (Vm.Alike.refl U.vm) h.2.2⟩, (by obtain ⟨cell, g1, g2, g3, -⟩ := hO; exact ⟨cell, g1, g2, g3⟩), fun U hU hW => ⟨rfl, by rw [hU]; exact va_Z.moved hW.alike hc, by rw [hU]; exact va_OF.moved hW.alike hcd⟩⟩ rfl (by decide) ⟨Nat.zero_le _, Nat.zero_le _⟩ jdd_1_1 ?_
  refine ai_if hx hb (q := .eq) (off := 12) (tgt := 16) jdd_1_4 (by decide) (fun g => absurd (show (1 : Int32).toInt = 0 from g) (by decide)) (fun _ => ?_)
  refine lv_aload_n hx hb jdd_1_7 rfl (lv_at hl 0 rfl) ?_
  refine vk_getf hx hb hvl va_S.rf hown (hts _ jw_2117) (fun _ h => h) jdd_1_8 ?_
  refine lv_iload_n hx hb jdd_1_11 rfl (lv_at hl 1 rfl) ?_
  refine jd_static (vs := [.ref d, .int i]) (rest := []) (index := 495) (n := 2) hx hb (hml.trans hl.1.symm) hown hts (jd_ch1 h0 h1 l) jw_711 rfl rfl jw_15 jw_709 jw_710 (by decide +kernel) (by decide) ⟨fun a U g mk h => ⟨h.1, va_T.moved (u := U) (U := U.calling g mk a) (Vm.Alike.refl U.vm) h.2.1, va_Zq.moved (u := U) (U := U.calling g mk a) (Vm.Alike.refl U.vm) h.2.2⟩, fun U hU hW => ⟨rfl, by rw [hU]; exact va_T.moved hW.alike hT, by rw [hU]; exact va_Zq.moved hW.alike hz⟩⟩ rfl (by decide) ⟨Nat.zero_le _, Nat.zero_le _⟩ jdd_1_12 ?_
  exact W.zret hx hb B.returns (jd_chb hin.2).1 (fun t ht _ => ⟨rfl, ht⟩) (fun q hq => by cases hq) jdd_1_15
/-- what the machine's own facts tell of the words' text -/
theorem jd_of {A : Nat → Prop} {s : State} {H : Heap} {locs : List Loc} (hsx : ai_sx A s s.heap) (hS : va_S A s.heap H locs) : ∃ q d, vk_R "FirstPolls$Reader" 115 sx_tx q s ∧ jd_S q d s H := by
  obtain ⟨h1, ⟨adK, adV, h2, h3⟩, -, h6⟩ := hsx
  have hn : ∀ q, jd_N q → A q := fun q h => h.elim
  obtain ⟨o1, o2, o3, o4⟩ := h3.1 0 (by decide)
  exact ⟨adK 0, adV 0, h2, (h1.kept hS.2.1).narrow hn, (o1.kept hS.2.1).narrow hn, (o2.kept hS.2.1).narrow hn, (o3.kept hS.2.1).narrow hn, (o4.kept hS.2.1).narrow hn, (h6.kept hS.2.1).narrow hn⟩
