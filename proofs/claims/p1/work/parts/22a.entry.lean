/-! ===== rows of laws/BITS.to-paste ===== -/
def bt (x : Int32) (i : Nat) : Bool := x.toBitVec.getLsbD i
theorem b_ext {x y : Int32} (h : ∀ i, i < 32 → bt x i = bt y i) : x = y := Int32.toBitVec_inj.mp (BitVec.eq_of_getLsbD_eq (fun i hi => h i hi))
theorem b_and (x y : Int32) (i : Nat) : bt (x &&& y) i = (bt x i && bt y i) := by unfold bt; rw [Int32.toBitVec_and, BitVec.getLsbD_and]
theorem b_big {x : Int32} {i : Nat} (h : 32 ≤ i) : bt x i = false := BitVec.getLsbD_of_ge _ _ h
theorem b_255 (i : Nat) : bt 255 i = decide (i < 8) := by
  rcases Nat.lt_or_ge i 32 with h | h
  · exact (by decide +kernel : ∀ i, i < 32 → bt 255 i = decide (i < 8)) i h
  · rw [b_big h, decide_eq_false (by omega)]
theorem s_l : ∀ n, n < 32 → ((nI n &&& 31).toBitVec.smod 32).toNat = n := by decide +kernel
theorem s_u : ∀ n, n < 32 → (((nI n).toUInt32 &&& Int32.toUInt32 31).toBitVec % 32).toNat = n := by decide +kernel
theorem b_ushr (n : Nat) (hn : n < 32) (x : Int32) (i : Nat) : bt ((x.toUInt32 >>> ((nI n).toUInt32 &&& Int32.toUInt32 31)).toInt32) i = bt x (n + i) := by
  show (x.toUInt32 >>> ((nI n).toUInt32 &&& Int32.toUInt32 31)).toBitVec.getLsbD i = x.toUInt32.toBitVec.getLsbD (n + i)
  rw [UInt32.toBitVec_shiftRight]
  show (x.toUInt32.toBitVec >>> (((nI n).toUInt32 &&& Int32.toUInt32 31).toBitVec % 32).toNat).getLsbD i = _
  rw [s_u n hn, BitVec.getLsbD_ushiftRight]
theorem b_sshr (n : Nat) (hn : n < 32) (x : Int32) {i : Nat} (hi : i < 32) : bt (x >>> (nI n &&& 31)) i = if n + i < 32 then bt x (n + i) else bt x 31 := by
  unfold bt
  rw [Int32.toBitVec_shiftRight]
  show (x.toBitVec.sshiftRight ((nI n &&& 31).toBitVec.smod 32).toNat).getLsbD i = _
  rw [s_l n hn, BitVec.getLsbD_sshiftRight, BitVec.msb_eq_getLsbD_last]
  simp [hi]
def R_law : String := "FirstPollsLaw"
def lw_P (b : Addr) (xs : List Int32) (args : Array Value) (s : State) : Prop := args = #[.ref b] ∧ s.IntsAt b xs ∧ xs.length ≤ 7 ∧ (Jvm.Cond.and given_1 narrow_1).before args s = true
def lw_Q (_ : Array Value) (s : State) (o : Outcome) (t : State) : Prop := o = .returned (some (.int 1)) ∧ Framed s o t [] 600000 7302250
def lw_Z (below : List Frame) (a : Array Value) (s : State) : State → Prop := fun t => ∃ o, t.status = .running ∧ Ended t below o ∧ lw_Q a s o t
/-- the law's own end, with 1 on the stack, nothing written that was there before, its room as the claim has it -/
theorem lw_ret {p : Program} {l : Launch} {e : Env} {s : State} {m : MethodId} {below : List Frame} {meth : Method} {c : Code} {b : Nat} (hx : p.tables.exec = Jvm.exec) (hb : c.code = code) (hr : meth.sig.returnType = ret) (hlocks : meth.locks = false) {pc : Nat} {H : Heap} {ls : Array Slot} (hdg : decode code pc = .ok (.ireturn, 1)) : W p l e room_1 s m #[Value.ref b] below meth c H [] 600000 7302250 (lw_Z below #[Value.ref b] s) (F0 m pc ls [.int 1]) := by
  intro T hT X
  obtain ⟨fs, hret, hrun, hended, hW, hframe⟩ := X.leave (v := some (.int 1)) (hlocks := hlocks) (fun h => by rw [hr] at h; cases h)
  have hmeth' : T.vm.method? m = some meth := X.method'
  refine ⟨T.setFrames fs, ?_, .returned (some (.int 1)), hrun, hended, rfl, ⟨_, rfl⟩, hW, hframe⟩
  jvm_step X.here [X.here.top, hx, hb, hdg, hmeth', hr, ret, narrow_b1]
  (try refine ⟨rfl, ?_⟩); (try refine ⟨rfl, ?_⟩)
  first | (intro acts; rw [hret _ acts rfl rfl rfl]) | rw [hret _ _ rfl rfl rfl]
  exact Steps.refl _
/-- what holds at the law's entry: the machine, the code, the tables' words (any of lw_tbl by 'hts w (by decide +kernel)'), the script of L ints xs at the cell b, what the Statement gives of the start (any of its parts by flat_of_before) -/
def lw_At (p : Program) (s : State) (m : MethodId) (meth : Method) (c : Code) (b L : Nat) (xs : Nat → Int32) : Prop :=
  p.tables.exec = Jvm.exec ∧ c.code = code ∧ meth.sig.returnType = ret ∧ c.maxLocals = 4 ∧ s.vm.findClass R_law = some m.cls ∧ (∀ w ∈ lw_tbl, w.before #[Value.ref b] s = true) ∧ va_X b L xs s s.heap ∧ b < s.heap.size ∧ meth.locks = false ∧ (Jvm.Cond.and given_1 narrow_1).before #[Value.ref b] s = true
/-! ===== the script's numbers and their bytes as tokens ===== -/
theorem zz_sh (n : Nat) (hn : n ≤ 24) (x : Int32) : ((x.toUInt32 >>> ((nI n).toUInt32 &&& Int32.toUInt32 31)).toInt32) &&& 255 = (x >>> (nI n &&& 31)) &&& 255 := b_ext (fun i hi => by
  rw [b_and, b_and, b_255, b_ushr n (by omega), b_sshr n (by omega) x hi]
  by_cases h : i < 8
  · rw [if_pos (by omega)]
  · rw [decide_eq_false h, Bool.and_false, Bool.and_false])
def zz_by (x : Int32) (k : Nat) : Int32 := (x >>> (nI (8 * k) &&& 31)) &&& 255
theorem zz_by_ok (x : Int32) (k : Nat) : 0 ≤ (zz_by x k).toInt ∧ (zz_by x k).toInt ≤ 255 := ai_and_le (y := 255) (by decide +kernel)
def zz_r7 (xs : Nat → Int32) : ai_Rh := fun t => if t < 7 then some (xs t).toInt else if t < 35 then some (zz_by (xs ((t - 7) / 4)) ((t - 7) % 4)).toInt else none
def zz_rL (L : Nat) (xs : Nat → Int32) : ai_Rh := fun t => if t < L then some (xs t).toInt else none
theorem zz_gL (L : Nat) (xs : Nat → Int32) : ai_gok (zz_rL L xs) (zz_GL L) := by
  intro t
  unfold zz_GL
  by_cases h : t < L
  · rw [List.getElem?_replicate, if_pos h]
    exact ⟨(xs t).toInt, if_pos h, (ai_i32 _).1, (ai_i32 _).2, ai_kp0 rfl⟩
  · rw [List.getElem?_replicate, if_neg h]
    exact if_neg h
theorem zz_Ge : zz_G = List.replicate 7 (-2147483648, 2147483647, 0) ++ List.replicate 28 (0, 255, 0) := by decide +kernel
theorem zz_g7 (xs : Nat → Int32) : ai_gok (zz_r7 xs) zz_G := by
  intro t
  rw [zz_Ge]
  by_cases h : t < 7
  · rw [List.getElem?_append_left (by rw [List.length_replicate]; exact h), List.getElem?_replicate, if_pos h]
    exact ⟨(xs t).toInt, if_pos h, (ai_i32 _).1, (ai_i32 _).2, ai_kp0 rfl⟩
  · rw [List.getElem?_append_right (by rw [List.length_replicate]; omega), List.getElem?_replicate]
    by_cases h2 : t < 35
    · rw [if_pos (by rw [List.length_replicate]; omega)]
      have hb := zz_by_ok (xs ((t - 7) / 4)) ((t - 7) % 4)
      exact ⟨(zz_by (xs ((t - 7) / 4)) ((t - 7) % 4)).toInt, by unfold zz_r7; rw [if_neg h, if_pos h2], hb.1, hb.2, ai_kp0 rfl⟩
    · rw [if_neg (by rw [List.length_replicate]; omega)]
      show zz_r7 xs t = none
      unfold zz_r7
      rw [if_neg h, if_neg h2]
theorem zz_b7 (xs : Nat → Int32) : ai_rb 7 (zz_r7 xs) := by
  intro _ t s u x y ht hx hs hy hu
  have h1 : zz_r7 xs t = some (xs t).toInt := if_pos (by omega)
  have ex : x = xs t := Int32.toInt_inj.mp (Option.some.inj (hx.symm.trans h1))
  have ey : y = nI s := Int32.toInt_inj.mp (hy.trans (pu_of (by omega)).symm)
  have e8 : 8 * (s / 8) = s := by omega
  have h2 : zz_r7 xs u = some ((xs t >>> (nI s &&& 31)) &&& 255).toInt := by
    unfold zz_r7
    rw [if_neg (by omega), if_pos (by omega), show (u - 7) / 4 = t by omega, show (u - 7) % 4 = s / 8 by omega]
    unfold zz_by
    rw [e8]
  rw [ex, ey]
  exact ⟨h2, by rw [zz_sh s (by omega)]; exact h2, by omega, by omega⟩
theorem zz_k7 (xs : Nat → Int32) (σ : ai_Rh) (hσ : ai_le (zz_r7 xs) σ) : ai_rk (ai_T 0) 7 xs σ := ⟨ai_rb.up (zz_g7 xs) (fun _ => Nat.le_of_ble_eq_true rfl) hσ (zz_b7 xs), fun _ j hj => hσ _ _ (if_pos hj)⟩
theorem zz_kL {L : Nat} (hL : L < 7) (xs : Nat → Int32) (σ : ai_Rh) (hσ : ai_le (zz_rL L xs) σ) : ai_rk (ai_T 0) L xs σ := ⟨fun h => by omega, fun _ j hj => hσ _ _ (if_pos hj)⟩
/-! ===== the law's entry ===== -/
def zz_in (n : Nat) (w : Jvm.Cond) : Bool := match lw_tbl[n]? with
  | some c => decide (c = w)
  | none => false
theorem zz_in_ok {n : Nat} {w : Jvm.Cond} (h : zz_in n w = true) : w ∈ lw_tbl := by
  unfold zz_in at h
  split at h
  · rename_i c hc
    cases of_decide_eq_true h
    exact List.mem_of_getElem? hc
  · cases h
theorem zz_ao : Jvm.Cond.arrayOver (.object "FirstPolls$Land") ∈ lw_tbl := zz_in_ok (n := 261) (by decide +kernel)
theorem zz_ne : ∀ q ∈ ai_nest, Jvm.Cond.methodLinkNest q.1 q.2.1 q.2.2 "FirstPolls" ∈ lw_tbl := List.forall_mem_cons.mpr ⟨zz_in_ok (n := 165) (by decide +kernel), List.forall_mem_cons.mpr ⟨zz_in_ok (n := 659) (by decide +kernel), List.forall_mem_cons.mpr ⟨zz_in_ok (n := 820) (by decide +kernel), List.forall_mem_cons.mpr ⟨zz_in_ok (n := 821) (by decide +kernel), List.forall_mem_cons.mpr ⟨zz_in_ok (n := 1217) (by decide +kernel), fun _ h => by cases h⟩⟩⟩⟩⟩
section ZZA
variable {p : Program} {l : Launch} {e : Env} {s : State} {m : MethodId} {below : List Frame} {meth : Method} {c : Code} {b L : Nat} {xs : Nat → Int32} {D : va_G}
theorem zz_tb (C0 : lw_At p s m meth c b L xs) : ∀ w ∈ ai_tb, w.before #[Value.ref b] s = true := fun w hw => C0.2.2.2.2.2.1 w (List.mem_filter.mp hw).1
theorem zz_cx (C0 : lw_At p s m meth c b L xs) : ai_cx2 p s m #[Value.ref b] meth c room_1 (ai_T 0) (fun q => s.heap.size ≤ q) b L xs := by
  have hT := zz_tb C0
  obtain ⟨hx, hb, hr, hml, hown, hts, hX, hbl, hlocks, hgv⟩ := id C0
  refine ⟨⟨hx, hb, hml, hown, hT, fun _ h => h, fun h => absurd h (by decide +kernel), rfl, va_AO.of (hts _ zz_ao), fun _ => ⟨hX, hbl, Nat.not_le.mpr hbl⟩⟩, fun q hq => va_Nw.of rfl (hts _ (zz_ne q hq))⟩
theorem zz_cls (C0 : lw_At p s m meth c b L xs) : ∃ D : va_G, va_K D vwCl [] s := by
  have hT := zz_tb C0
  obtain ⟨c0, i0, k0⟩ := u_known (C := RX0) (T := TX0) (N := 3) (n := 3) hT clw0 (hT _ tb1329)
  obtain ⟨c1, i1, k1⟩ := u_known (C := RX1) (T := TX1) (N := 10) (n := 10) hT clw1 (hT _ tb1600)
  obtain ⟨c2, i2, k2⟩ := u_known (C := RX2) (T := TX2) (N := 14) (n := 14) hT clw2 (hT _ tb1578)
  obtain ⟨c3, i3, k3⟩ := u_known (C := RX3) (T := TX3) (N := 12) (n := 12) hT clw3 (hT _ tb1585)
  obtain ⟨c4, i4, k4⟩ := u_known (C := RX4) (T := TX4) (N := 12) (n := 12) hT clw4 (hT _ tb1597)
  obtain ⟨c5, i5, k5⟩ := u_known (C := RX5) (T := TX5) (N := 4) (n := 4) hT clw5 (hT _ tb816)
  obtain ⟨c6, i6, k6⟩ := u_known (C := RX6) (T := TX6) (N := 15) (n := 15) hT clw6 (hT _ tb1591)
  obtain ⟨c7, i7, k7⟩ := u_known (C := RX7) (T := TX7) (N := 14) (n := 14) hT clw7 (hT _ tb1588)
  obtain ⟨c8, i8, k8⟩ := u_known (C := RX8) (T := TX8) (N := 5) (n := 5) hT clw8 (hT _ tb1594)
  obtain ⟨c9, i9, k9⟩ := u_known (C := RX9) (T := TX9) (N := 9) (n := 9) hT clw9 (hT _ tb95)
  obtain ⟨c10, i10, k10⟩ := u_known (C := RX10) (T := TX10) (N := 62) (n := 62) hT clw10 (hT _ tb99)
  refine ⟨(fun k => [c0, c1, c2, c3, c4, c5, c6, c7, c8, c9, c10].getD k c0, fun k => [i0, i1, i2, i3, i4, i5, i6, i7, i8, i9, i10].getD k i0), ?_, fun k q h => by cases h⟩
  intro k q hq
  match k, hq with
  | 0, hq => cases hq; exact k0
  | 1, hq => cases hq; exact k1
  | 2, hq => cases hq; exact k2
  | 3, hq => cases hq; exact k3
  | 4, hq => cases hq; exact k4
  | 5, hq => cases hq; exact k5
  | 6, hq => cases hq; exact k6
  | 7, hq => cases hq; exact k7
  | 8, hq => cases hq; exact k8
  | 9, hq => cases hq; exact k9
  | 10, hq => cases hq; exact k10
  | k + 11, hq => cases hq
theorem zz_d2046 : decode code 2046 = .ok (.ireturn, 1) := by decide +kernel
/-- a way that has come to the law's end with 1 -/
theorem zz_fin {σ : ai_Rh} {o : ai_O} (C0 : lw_At p s m meth c b L xs) (h : zz_end o = true) (hrt : ai_rt (ai_T 0) o) : ai_K p l e room_1 s m #[Value.ref b] below meth c (lw_Z below #[Value.ref b] s) σ b D (fun q => s.heap.size ≤ q) (ai_T 0).2.2.2.1 [] o.1 o.2.2 := by
  obtain ⟨hx, hb, hr, hml, hown, hts, hX, hbl, hlocks, hgv⟩ := id C0
  unfold zz_end at h
  rw [Bool.and_eq_true, beq_iff_eq, beq_iff_eq] at h
  intro ls stk H locs ws tys y hy hls hst hm
  rw [h.2] at hst
  obtain ⟨v, r, rfl, ⟨z, rfl, z1, z2⟩, hn⟩ := hst.cons
  have hn' : r = [] := hn.nil
  subst hn'
  have ez : z = 1 := Int32.toInt_inj.mp (by
    have : (1 : Int32).toInt = 1 := rfl
    omega)
  subst ez
  rw [h.1]
  exact va_forget (fun q hq => hm.2.2.2.1.2.2 q hq) (W.widen hrt.2.1 hrt.2.2 (lw_ret hx hb hr hlocks zz_d2046))
theorem zz_last {n pc : Nat} {hk : ai_H} {N : ai_Ns} {G : ai_G} {x : ai_S} {σ : ai_Rh} (C0 : lw_At p s m meth c b L xs) (hhk : ∀ K G as aw outs, hk K G as aw = some outs → ai_cs (ai_T K) L b G as aw outs) (h : zz_good (af_ex ai_T ai_B1 hk N L n 0 [] (ai_B1 0 pc) G x) = true) (hG : ai_gok σ G) (hrk : ∀ τ, ai_le σ τ → ai_rk (ai_T 0) L xs τ) : ai_K p l e room_1 s m #[Value.ref b] below meth c (lw_Z below #[Value.ref b] s) σ b D (fun q => s.heap.size ≤ q) (ai_T 0).2.2.2.1 [] pc x := by
  rw [af_ex_eq] at h
  cases hr : ai_ex ai_T ai_B1 hk N L n 0 [] (ai_B1 0 pc) G x with
  | none => rw [hr] at h; cases h
  | some outs =>
    rw [hr] at h
    have ha : ∀ o ∈ outs, zz_end o = true := List.all_eq_true.mp h
    obtain ⟨en, rest, ee, kk⟩ := ai_snd (l := l) (e := e) (below := below) (Q := lw_Z below #[Value.ref b] s) (D := D) (ad := []) ai_clok_ok ai_hB ai_hM hhk n 0 [] (ai_B1 0 pc) G x outs hr (ai_hB 0 pc).1 σ hG (zz_cx C0) hrk (fun o ho hor τ _ _ => by
      rcases hor with h1 | h1
      · cases h1
      · exact zz_fin C0 (ha o ho) h1)
    rw [(ai_hB 0 pc).2 en rest ee] at kk
    exact kk
/-- from a place to others, in the same state -/
theorem zz_next {n pc : Nat} {hk : ai_H} {N : ai_Ns} {G G' : ai_G} {x x' : ai_S} {σ : ai_Rh} {ps : List Nat} (C0 : lw_At p s m meth c b L xs) (hhk : ∀ K G as aw outs, hk K G as aw = some outs → ai_cs (ai_T K) L b G as aw outs) (h : zz_all ps G' x' (af_ex ai_T ai_B1 hk N L n 0 ps (ai_B1 0 pc) G x) = true) (hG : ai_gok σ G) (hrk : ∀ τ, ai_le σ τ → ai_rk (ai_T 0) L xs τ) (hn : ∀ q ∈ ps, ∀ τ, ai_le σ τ → ai_gok τ G' → ai_K p l e room_1 s m #[Value.ref b] below meth c (lw_Z below #[Value.ref b] s) τ b D (fun q => s.heap.size ≤ q) (ai_T 0).2.2.2.1 [] q x') : ai_K p l e room_1 s m #[Value.ref b] below meth c (lw_Z below #[Value.ref b] s) σ b D (fun q => s.heap.size ≤ q) (ai_T 0).2.2.2.1 [] pc x := by
  rw [af_ex_eq] at h
  cases hr : ai_ex ai_T ai_B1 hk N L n 0 ps (ai_B1 0 pc) G x with
  | none => rw [hr] at h; cases h
  | some outs =>
    rw [hr] at h
    have ha : ∀ o ∈ outs, zz_at ps G' x' o = true := List.all_eq_true.mp h
    obtain ⟨en, rest, ee, kk⟩ := ai_snd (l := l) (e := e) (below := below) (Q := lw_Z below #[Value.ref b] s) (D := D) (ad := []) ai_clok_ok ai_hB ai_hM hhk n 0 ps (ai_B1 0 pc) G x outs hr (ai_hB 0 pc).1 σ hG (zz_cx C0) hrk (fun o ho _ τ hτ hg => by
      obtain ⟨h1, h2, h3⟩ := zz_at_ok (ha o ho)
      rw [h2] at hg
      rw [h3]
      exact hn o.1 h1 τ hτ hg)
    rw [(ai_hB 0 pc).2 en rest ee] at kk
    exact kk
end ZZA
theorem zz_all47 : ∀ pc ∈ zz_ps, zz_good (af_ex ai_T ai_B1 zz_hk zz_N 7 100000 0 [] (ai_B1 0 pc) zz_G zz_x0) = true := List.forall_mem_cons.mpr ⟨zz_c236, List.forall_mem_cons.mpr ⟨zz_c279, List.forall_mem_cons.mpr ⟨zz_c354, List.forall_mem_cons.mpr ⟨zz_c387, List.forall_mem_cons.mpr ⟨zz_c430, List.forall_mem_cons.mpr ⟨zz_c483, List.forall_mem_cons.mpr ⟨zz_c516, List.forall_mem_cons.mpr ⟨zz_c559, List.forall_mem_cons.mpr ⟨zz_c602, List.forall_mem_cons.mpr ⟨zz_c645, List.forall_mem_cons.mpr ⟨zz_c678, List.forall_mem_cons.mpr ⟨zz_c711, List.forall_mem_cons.mpr ⟨zz_c754, List.forall_mem_cons.mpr ⟨zz_c817, List.forall_mem_cons.mpr ⟨zz_c840, List.forall_mem_cons.mpr ⟨zz_c863, List.forall_mem_cons.mpr ⟨zz_c876, List.forall_mem_cons.mpr ⟨zz_c919, List.forall_mem_cons.mpr ⟨zz_c972, List.forall_mem_cons.mpr ⟨zz_c995, List.forall_mem_cons.mpr ⟨zz_c1008, List.forall_mem_cons.mpr ⟨zz_c1041, List.forall_mem_cons.mpr ⟨zz_c1064, List.forall_mem_cons.mpr ⟨zz_c1107, List.forall_mem_cons.mpr ⟨zz_c1130, List.forall_mem_cons.mpr ⟨zz_c1163, List.forall_mem_cons.mpr ⟨zz_c1226, List.forall_mem_cons.mpr ⟨zz_c1269, List.forall_mem_cons.mpr ⟨zz_c1312, List.forall_mem_cons.mpr ⟨zz_c1365, List.forall_mem_cons.mpr ⟨zz_c1428, List.forall_mem_cons.mpr ⟨zz_c1481, List.forall_mem_cons.mpr ⟨zz_c1514, List.forall_mem_cons.mpr ⟨zz_c1567, List.forall_mem_cons.mpr ⟨zz_c1630, List.forall_mem_cons.mpr ⟨zz_c1683, List.forall_mem_cons.mpr ⟨zz_c1716, List.forall_mem_cons.mpr ⟨zz_c1759, List.forall_mem_cons.mpr ⟨zz_c1792, List.forall_mem_cons.mpr ⟨zz_c1825, List.forall_mem_cons.mpr ⟨zz_c1878, List.forall_mem_cons.mpr ⟨zz_c1901, List.forall_mem_cons.mpr ⟨zz_c1934, List.forall_mem_cons.mpr ⟨zz_c1957, List.forall_mem_cons.mpr ⟨zz_c1980, List.forall_mem_cons.mpr ⟨zz_c2003, List.forall_mem_cons.mpr ⟨zz_c2026, List.forall_mem_cons.mpr ⟨zz_c2039, fun _ h => by cases h⟩⟩⟩⟩⟩⟩⟩⟩⟩⟩⟩⟩⟩⟩⟩⟩⟩⟩⟩⟩⟩⟩⟩⟩⟩⟩⟩⟩⟩⟩⟩⟩⟩⟩⟩⟩⟩⟩⟩⟩⟩⟩⟩⟩⟩⟩⟩⟩
theorem zz_short : ∀ L, L < 7 → zz_good (af_ex ai_T ai_B1 zz_h0 zz_N0 L 3000 0 [] (ai_B1 0 0) (zz_GL L) ([(0, (7, 0, 0, 0))], [], [], 0, 0)) = true
  | 0, _ => zz_e0
  | 1, _ => zz_e1
  | 2, _ => zz_e2
  | 3, _ => zz_e3
  | 4, _ => zz_e4
  | 5, _ => zz_e5
  | 6, _ => zz_e6
  | L + 7, h => absurd h (by omega)
