/-! ===== the law's entry ===== -/
def R_law : String := "FirstPollsLaw"
def lw_P (b : Addr) (xs : List Int32) (args : Array Value) (s : State) : Prop := args = #[.ref b] ∧ s.IntsAt b xs ∧ xs.length ≤ 3584 ∧ (Jvm.Cond.and given_1 narrow_1).before args s = true
def lw_Q (_ : Array Value) (s : State) (o : Outcome) (t : State) : Prop := o = .returned (some (.int 1)) ∧ Framed s o t [] 600000 7302250
def lw_Z (below : List Frame) (a : Array Value) (s : State) : State → Prop := fun t => ∃ o, t.status = .running ∧ Ended t below o ∧ lw_Q a s o t
/-- the law's own end, with 1 on the stack, nothing written that was there before, its room as the claim has it -/
theorem lw_ret {p : Program} {l : Launch} {e : Env} {s : State} {m : MethodId} {below : List Frame} {meth : Method} {c : Code} {b : Nat} (hx : p.tables.exec = Jvm.exec) (hb : c.code = code) (hr : meth.sig.returnType = ret) (hlocks : meth.locks = false) {pc : Nat} {H : Heap} {ls : Array Slot} (hdg : decode code pc = .ok (.ireturn, 1)) : W p l e room_1 s m #[Value.ref b] below meth c H [] 600000 7302250 (lw_Z below #[Value.ref b] s) (F0 m pc ls [.int 1]) := by
  intro T hT X
  obtain ⟨fs, hret, hrun, hended, hW, hframe⟩ := X.leave (v := some (.int 1)) (hlocks := hlocks) (fun h => by rw [hr] at h; cases h)
  have hmeth' : T.vm.method? m = some meth := X.method'
  refine ⟨T.setFrames fs, ?_, .returned (some (.int 1)), hrun, hended, rfl, ⟨_, rfl⟩, hW, hframe⟩
  jvm_step X.here [X.here.top, hx, hb, hdg, hmeth', hr, ret, narrow_b1]
  (try refine ⟨rfl, ?_⟩); (try refine ⟨rfl, ?_⟩)
  first | (intro acts; rw [hret _ acts rfl rfl rfl]) | rw [hret _ _ rfl rfl rfl]
  exact Steps.refl _
/-- what holds at the law's entry: the machine, the code, the tables' words (any of lw_tbl by 'hts w (by decide +kernel)'), the script of L ints xs at the cell b, what the Statement gives of the start (any of its parts by flat_of_before) -/
def lw_At (p : Program) (s : State) (m : MethodId) (meth : Method) (c : Code) (b L : Nat) (xs : Nat → Int32) : Prop :=
  p.tables.exec = Jvm.exec ∧ c.code = code ∧ meth.sig.returnType = ret ∧ c.maxLocals = 4 ∧ s.vm.findClass R_law = some m.cls ∧ (∀ w ∈ lw_tbl, w.before #[Value.ref b] s = true) ∧ va_X b L xs s s.heap ∧ b < s.heap.size ∧ meth.locks = false ∧ (Jvm.Cond.and given_1 narrow_1).before #[Value.ref b] s = true
def lw_in (tbl : List Jvm.Cond) (n : Nat) (w : Jvm.Cond) : Bool := match tbl[n]? with
  | some c => decide (c = w)
  | none => false
theorem lw_in_ok {tbl : List Jvm.Cond} (hs : ∀ w ∈ tbl, w ∈ lw_tbl) {n : Nat} {w : Jvm.Cond} (h : lw_in tbl n w = true) : w ∈ lw_tbl := by
  unfold lw_in at h
  split at h
  · rename_i c hc
    cases of_decide_eq_true h
    exact hs _ (List.mem_of_getElem? hc)
  · cases h
theorem lw_ao : Jvm.Cond.arrayOver (.object "FirstPolls$Land") ∈ lw_tbl := lw_in_ok tk_1 (n := 126) (by decide +kernel)
theorem lw_ne : ∀ q ∈ ai_nest, Jvm.Cond.methodLinkNest q.1 q.2.1 q.2.2 "FirstPolls" ∈ lw_tbl := List.forall_mem_cons.mpr ⟨lw_in_ok tk_1 (n := 30) (by decide +kernel), List.forall_mem_cons.mpr ⟨lw_in_ok tk_3 (n := 44) (by decide +kernel), List.forall_mem_cons.mpr ⟨lw_in_ok tk_3 (n := 205) (by decide +kernel), List.forall_mem_cons.mpr ⟨lw_in_ok tk_3 (n := 206) (by decide +kernel), List.forall_mem_cons.mpr ⟨lw_in_ok tk_5 (n := 122) (by decide +kernel), fun _ h => by cases h⟩⟩⟩⟩⟩
theorem lw_i9 : Jvm.Cond.initialized "FirstPolls$Siting" ∈ lw_tbl := lw_in_ok tk_1 (n := 9) (by decide +kernel)
theorem lw_i14 : Jvm.Cond.initialized "java/lang/String" ∈ lw_tbl := lw_in_ok tk_1 (n := 14) (by decide +kernel)
theorem lw_i16 : Jvm.Cond.initialized "jdk/internal/util/Preconditions" ∈ lw_tbl := lw_in_ok tk_1 (n := 16) (by decide +kernel)
theorem lw_s698 : Jvm.Cond.stringRef "FirstPolls$Reader" 115 sx_tx ∈ lw_tbl := lw_in_ok tk_3 (n := 218) (by decide +kernel)
theorem lw_l708 : Jvm.Cond.laysStatic "java/lang/String" "COMPACT_STRINGS" "Z" ∈ lw_tbl := lw_in_ok tk_3 (n := 228) (by decide +kernel)
theorem lw_l716 : Jvm.Cond.laysStatic "jdk/internal/util/Preconditions" "SIOOBE_FORMATTER" "Ljava/util/function/BiFunction;" ∈ lw_tbl := lw_in_ok tk_3 (n := 236) (by decide +kernel)
theorem lw_l936 : Jvm.Cond.laysStatic "FirstPolls$Siting" "DIGITS" "[I" ∈ lw_tbl := lw_in_ok tk_4 (n := 216) (by decide +kernel)
def lw_fl : List Jvm.Cond := flatC (Jvm.Cond.and given_1 narrow_1)
theorem lw_fi {n : Nat} {w : Jvm.Cond} (h : lw_in lw_fl n w = true) : w ∈ lw_fl := by
  unfold lw_in at h
  split at h
  · rename_i c hc
    cases of_decide_eq_true h
    exact List.mem_of_getElem? hc
  · cases h
def lw_tm : Term := .string "FirstPolls$Reader" 115
def lw_bc (j : Nat) : Jvm.Cond := .eq (.elem (.field lw_tm "java/lang/String" "value" "[B") (.int (Int32.ofNat j))) (.int (sx_by.getD j 0))
theorem lw_bca : (List.range 174).all (fun j => lw_in lw_fl (23 + j) (lw_bc j)) = true := by decide +kernel
def lw_dc (j : Nat) : Jvm.Cond := .eq (.elem (.static "FirstPolls$Siting" "DIGITS" "[I") (.int (Int32.ofNat j))) (.int (sx_dg.getD j 0))
theorem lw_dca : (List.range 7).all (fun j => lw_in lw_fl (12 + j) (lw_dc j)) = true := by decide +kernel
section LWA
variable {p : Program} {l : Launch} {e : Env} {s : State} {m : MethodId} {below : List Frame} {meth : Method} {c : Code} {b L : Nat} {xs : Nat → Int32} {D : va_G}
theorem lw_sx (C0 : lw_At p s m meth c b L xs) : ai_sx (lw_A s) s s.heap := by
  obtain ⟨hx, hb, hr, hml, hown, hts, hX, hbl, hlocks, hgv⟩ := C0
  have hs : ∀ w ∈ lw_fl, w.before #[Value.ref b] s = true := flat_of_before _ hgv
  have hA : ∀ a : Nat, a < s.heap.size → ¬ lw_A s a := fun a h => Nat.not_le.mpr h
  have z1 : va_Z "java/lang/String" "COMPACT_STRINGS" "Z" (.int 1) (lw_A s) s s.heap := va_Zof (hts _ lw_l708) (hts _ lw_i14) (va_eqi (hs _ (lw_fi (n := 4) (by decide +kernel)))) hA
  have z4 : va_Zq "jdk/internal/util/Preconditions" "SIOOBE_FORMATTER" "Ljava/util/function/BiFunction;" (lw_A s) s s.heap := va_Zqof (hts _ lw_l716) (hts _ lw_i16) (hs _ (lw_fi (n := 5) (by decide +kernel))) hA
  obtain ⟨t, ht, hT⟩ := va_Tof (tm := .static "FirstPolls$Siting" "DIGITS" "[I") (ty := .int) (N := 7) (f := fun j => .int (sx_dg.getD j 0)) (A := lw_A s) (by decide) (hs _ (lw_fi (n := 10) (by decide +kernel))) (va_eqt (hs _ (lw_fi (n := 11) (by decide +kernel)))) (fun j hj => va_eqt (hs _ (lw_fi (List.all_eq_true.mp lw_dca j (List.mem_range.mpr hj))))) hA
  have z3 : va_Z "FirstPolls$Siting" "DIGITS" "[I" (.ref t) (lw_A s) s s.heap := va_Zof (hts _ lw_l936) (hts _ lw_i9) ht hA
  obtain ⟨adK, adV, hS, hR⟩ := vk_Sof (args := #[Value.ref b]) (s := s) (N := 1) (tm := fun _ => lw_tm) (len := [174]) (byt := [sx_by]) (A := lw_A s)
    (fun i hi => by
      have : i = 0 := by omega
      subst this
      decide)
    (fun i _ => hs _ (lw_fi (n := 19) (by decide +kernel)))
    (fun i _ => hs _ (lw_fi (n := 20) (by decide +kernel)))
    (fun i _ => hs _ (lw_fi (n := 21) (by decide +kernel)))
    (fun i hi => by
      have : i = 0 := by omega
      subst this
      exact hs _ (lw_fi (n := 22) (by decide +kernel)))
    (fun i hi j hj => by
      have : i = 0 := by omega
      subst this
      exact hs _ (lw_fi (List.all_eq_true.mp lw_bca j (List.mem_range.mpr hj))))
    (fun i j hi hj hij => absurd (by omega) hij) hA
  exact ⟨z1, ⟨adK, adV, vk_R.of (hts _ lw_s698) (hR 0 (by decide)), hS⟩, ⟨t, z3, hT⟩, z4⟩
theorem lw_tb (C0 : lw_At p s m meth c b L xs) : ∀ w ∈ ai_tb, w.before #[Value.ref b] s = true := fun w hw => C0.2.2.2.2.2.1 w (List.mem_filter.mp hw).1
theorem lw_cx (C0 : lw_At p s m meth c b L xs) : la_cx p s m #[Value.ref b] c room_1 (ai_T 0).1 (ai_T 0).2.2.1 := by
  have hT := lw_tb C0
  have hsx := lw_sx C0
  obtain ⟨hx, hb, hr, hml, hown, hts, hX, hbl, hlocks, hgv⟩ := id C0
  exact ⟨hx, hb, hml, hown, hT, va_AO.of (hts _ lw_ao), fun q hq => va_Nw.of rfl (hts _ (lw_ne q hq)), hsx, rfl, rfl⟩
theorem lw_cls (C0 : lw_At p s m meth c b L xs) : ∃ D : va_G, va_K D vwCl [] s := by
  have hT := lw_tb C0
  obtain ⟨c0, i0, k0⟩ := u_known (C := RX0) (T := TX0) (N := 3) (n := 3) hT clw0 (hT _ tb1329)
  obtain ⟨c1, i1, k1⟩ := u_known (C := RX1) (T := TX1) (N := 10) (n := 10) hT clw1 (hT _ tb1600)
  obtain ⟨c2, i2, k2⟩ := u_known (C := RX2) (T := TX2) (N := 14) (n := 14) hT clw2 (hT _ tb1578)
  obtain ⟨c3, i3, k3⟩ := u_known (C := RX3) (T := TX3) (N := 12) (n := 12) hT clw3 (hT _ tb1585)
  obtain ⟨c4, i4, k4⟩ := u_known (C := RX4) (T := TX4) (N := 12) (n := 12) hT clw4 (hT _ tb1597)
  obtain ⟨c5, i5, k5⟩ := u_known (C := RX5) (T := TX5) (N := 4) (n := 4) hT clw5 (hT _ tb816)
  obtain ⟨c6, i6, k6⟩ := u_known (C := RX6) (T := TX6) (N := 15) (n := 15) hT clw6 (hT _ tb1591)
  obtain ⟨c7, i7, k7⟩ := u_known (C := RX7) (T := TX7) (N := 14) (n := 14) hT clw7 (hT _ tb1588)
  obtain ⟨c8, i8, k8⟩ := u_known (C := RX8) (T := TX8) (N := 5) (n := 5) hT clw8 (hT _ tb1594)
  obtain ⟨c9, i9, k9⟩ := u_known (C := RX9) (T := TX9) (N := 9) (n := 9) hT clw9 (hT _ tb95)
  obtain ⟨c10, i10, k10⟩ := u_known (C := RX10) (T := TX10) (N := 62) (n := 62) hT clw10 (hT _ tb99)
  refine ⟨(fun k => [c0, c1, c2, c3, c4, c5, c6, c7, c8, c9, c10].getD k c0, fun k => [i0, i1, i2, i3, i4, i5, i6, i7, i8, i9, i10].getD k i0), ?_, fun k q h => by cases h⟩
  intro k q hq
  match k, hq with
  | 0, hq => cases hq; exact k0
  | 1, hq => cases hq; exact k1
  | 2, hq => cases hq; exact k2
  | 3, hq => cases hq; exact k3
  | 4, hq => cases hq; exact k4
  | 5, hq => cases hq; exact k5
  | 6, hq => cases hq; exact k6
  | 7, hq => cases hq; exact k7
  | 8, hq => cases hq; exact k8
  | 9, hq => cases hq; exact k9
  | 10, hq => cases hq; exact k10
  | k + 11, hq => cases hq
theorem ld_2045 : decode code 2045 = .ok (.iconst 1, 1) := by decide +kernel
theorem ld_2046 : decode code 2046 = .ok (.ireturn, 1) := by decide +kernel
end LWA
/-- from the entry, for every script of at most 3584 ints, the law comes to its end with true -/
theorem whole_start {p : Program} {e : Env} {s : State} {m : MethodId} {below : List Frame} {meth : Method} {c : Code} (l : Launch) {b L : Nat} {xs : Nat → Int32} (hL : L ≤ 3584) (C0 : lw_At p s m meth c b L xs) : W p l e room_1 s m #[Value.ref b] below meth c s.heap [] 0 0 (lw_Z below #[Value.ref b] s) (entryFrame m ([Value.ref b] : List Value).toArray 4) := by
  obtain ⟨D, hK⟩ := lw_cls C0
  have cx := lw_cx C0
  obtain ⟨hx, hb, hr, hml, hown, hts, hX, hbl, hlocks, hgv⟩ := id C0
  have hl := lv_entry ([.ref b]) (n := 4) (Nat.le_of_ble_eq_true rfl)
  rw [lg_entry_eq]
  generalize (lg_sl ([.ref b]) ++ List.replicate (4 - (lg_sl ([.ref b])).length) Slot.unset).toArray = ls at hl ⊢
  have hl : lv_has ls 4 [(0, .ref b)] := hl
  refine ln_start (D := D) cx hK ⟨by decide, by decide⟩ hl (fun H1 locs ls' bC bR hls' hI => ?_)
  refine ln_loop (cs0 := 105) (ss0 := 142161) cx hX hbl hL ⟨by decide, by decide⟩ (fun sh nC H2 locs2 ls2 hI2 => ?_) (L + 1) 0 ls' (by omega) (Nat.zero_le _) hls' 0 sn_0 H1 locs hI
  have hS : va_S (lw_A s) s.heap H2 locs2 := la_JS hI2
  have hn := ln_n2 sh
  refine lv_iconst hx hb ld_2045 (v := 1) rfl ?_
  exact va_forget (fun q hq => hS.2.2 q hq) (W.widen (by omega) (by omega) (lw_ret hx hb hr hlocks ld_2046))
set_option maxHeartbeats 4000000 in
theorem lw_walk (l : Launch) (b : Addr) (xs : List Int32) : MetFree l x (headSpec (Jvm.Cond.code x code maxLocals ret :: tables_1) room_1) (lw_P b xs) (fun _ _ _ _ _ => True) lw_Q := by
  refine MetFree.of_bodyS (code := code) (maxLocals := maxLocals) (ret := ret) (by decide) ?_ ?_
  · intro args s m h hn
    obtain ⟨meth, c, h1, h2, h3, h4, h5, h6, -, -⟩ := Cond.code_spec hn (atoms_spec (ws := Jvm.Cond.code x code maxLocals ret :: tables_1) h _ List.mem_cons_self)
    exact ⟨meth, c, h1, h2, h3, h4, h5, h6⟩
  · intro p e s m args below meth c s₁ B hml0 hP _
    obtain ⟨rfl, hx, hbd, hgv⟩ := hP
    obtain ⟨scr, harrAt, hlist, hof, hsmall⟩ := hx
    obtain ⟨hcb, hkn, -, -⟩ := State.arrayAt?_spec harrAt
    have hown : s.vm.findClass R_law = some m.cls := findClass_of_methodNamed B.named
    have hts0 : ∀ c ∈ (Jvm.Cond.code x code maxLocals ret :: tables_1), c.before #[Value.ref b] s = true := atoms_spec (ws := Jvm.Cond.code x code maxLocals ret :: tables_1) B.pre
    have hts : ∀ w ∈ lw_tbl, w.before #[Value.ref b] s = true := k2_hts_sels lw_privs (fun w hw => hts0 w (List.mem_cons_of_mem _ hw)) lw_privs_ok
    have hml : c.maxLocals = 4 := B.maxLocals_eq (hts0 _ List.mem_cons_self)
    have X₀ : Stand p l e room_1 s m #[Value.ref b] below meth c s₁ [] 0 0 := Stand.of_body B
    have hh0 : s₁.heap = s.heap := by rw [B.state]; rfl
    have hsz : scr.slots.size = xs.length := by rw [← Array.length_toList, hlist, List.length_map]
    have hval : ∀ j : Nat, j < xs.length → scr.slots[j]? = some (.int (xs.getD j 0)) := fun j hj => by
      rw [← Array.getElem?_toList, hlist]
      simp [hj]
    have hbl : b < s.heap.size := (Array.getElem?_eq_some_iff.mp hcb).1
    have hX : va_X b xs.length (fun j => xs.getD j 0) s s.heap := ⟨scr, hcb, hof, hkn, hsz, hval⟩
    have K : W p l e room_1 s m #[Value.ref b] below meth c s₁.heap [] 0 0 (lw_Z below #[Value.ref b] s) (entryFrame m ([Value.ref b] : List Value).toArray 4) := by
      rw [hh0]
      exact whole_start l hbd ⟨B.exec, B.bytes, B.returns, hml, hown, hts, hX, hbl, B.notSynchronized, hgv⟩
    obtain ⟨t, a1, o, b1, b2, b3⟩ := K s₁ rfl X₀
    exact ⟨t, o, a1, b1, b2, b3⟩
theorem lw_pre_spec {args : Array Value} {s : State} (h : (Jvm.Cond.and given_1 narrow_1).before args s = true) (hr : rest_1_c.before args s = true) : ∃ (b : Addr) (xs : List Int32), lw_P b xs args s := by
  have hs := flat_of_before _ h
  have hq := flat_of_before _ hr
  have hc : (Cond.count 1).before args s = true := hs _ (by decide +kernel)
  have harr : (Cond.arrayOf (.arg 0) .int).before args s = true := hs _ (by decide +kernel)
  have hle : (Cond.le (.length (.arg 0)) (.int 3584)).before args s = true := hs _ (by decide +kernel)
  have hlen : (Cond.isInt (.length (.arg 0))).before args s = true := hq _ (by decide +kernel)
  have hall : (Cond.all (.arg 0) (.isInt (.elem (.arg 0) (.index 0)))).before args s = true := hq _ (by decide +kernel)
  obtain ⟨b, xs, hb, hx⟩ := State.ints_of_pre rfl harr hlen hall
  have hsm : xs.length < 2 ^ 31 := hx.choose_spec.2.2.2
  have hev : (Term.length (.arg 0)).eval args s none [] s = some (.int xs.length.toInt32) := hx.length_eval hb
  have hv := Cond.le_ints hev (show (Term.int 3584).eval args s none [] s = some (.int 3584) from rfl)
  have hd : xs.length.toInt32 ≤ 3584 := by
    simpa [Cond.before, Cond.holds, hv] using hle
  have hN : xs.length ≤ 3584 := (Int32.ofNat_le_ofNat hsm (by decide)).mp (show Int32.ofNat xs.length ≤ Int32.ofNat 3584 from hd)
  exact ⟨b, xs, Cond.one_arg hc (show args[0]? = some (.ref b) from hb), hx, hN, h⟩
theorem lw_comes (l : Launch) : Comes l x (Jvm.Cond.code x code maxLocals ret :: tables_1) room_1 (fun tb e args s => Calls_1 tb e args s ∧ rest_1 tb e args s ∧ Pre_1 tb e args s)
    (fun _ _ args s o t => lw_Q args s o t) := by
  intro p e ha hc hk s m args below hf hfit hheap happ hpre
  obtain ⟨b, xs, hP⟩ := lw_pre_spec hpre.2.2 hpre.2.1
  obtain ⟨k, o, h1, h2, h3, hQ⟩ := lw_walk l b xs p e ha hc hk s m args below hf ((Spec.applies_iff_loose hf).mp happ).1 hP trivial
  exact ⟨k, o, h1, h2, h3, hQ⟩
theorem lw_frame {s t : State} {o : Outcome} {args : Array Value} (h : Framed s o t [] 600000 7302250) :
    Framed s o t (fieldLocs frame_1_writes args s ++ arrayLocs frame_1_arrays args s ++ staticLocs frame_1_statics s) 600000 7302250 := h
theorem lw_limb (L : Cond) (hL : ∀ (args : Array Value) (s t : State), L.after args s (.returned (some (.int 1))) t = true) :
    ArmFor flags0 classFile x code maxLocals ret World_1 tables_1 room_1 Calls_1 rest_1 Pre_1
      (fun tb e a s o t => postC L tb e a s o t ∧ Framed s o t (fieldLocs frame_1_writes a s ++ arrayLocs frame_1_arrays a s ++ staticLocs frame_1_statics s) 600000 7302250) := by
  intro l _ _ _ p e ha hc hk s m args below hf hfit hheap happ hpre
  obtain ⟨k, o, h1, h2, h3, rfl, hF⟩ := lw_comes l p e ha hc hk s m args below hf hfit hheap happ hpre
  exact ⟨k, _, h1, h2, h3, hL args s _, lw_frame hF⟩
theorem i_vc : Claimed_1_1 ∧ Claimed_1_2 := ⟨lw_limb limb_1_1 (fun args s t => by simp [limb_1_1, Cond.after, Cond.holds, Cond.value]), lw_limb limb_1_2 (fun args s t => Cond.after_iff.mpr (by
  first | (rw [show limb_1_2 = Cond.eq .result (.int 1) from rfl, Cond.eq_ints (x := 1) (y := 1) rfl rfl]; simp; done) | (simp [limb_1_2, Cond.value, Term.eval]; done)))⟩
