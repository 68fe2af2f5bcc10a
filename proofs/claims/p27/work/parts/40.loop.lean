/-! ===== the law: its loop ===== -/
def nd_offs : Array Int := #[203, 246, 321, 354, 397, 450, 483, 526, 569, 612, 645, 678, 721, 784, 807, 830, 843, 886, 939, 962, 975, 1008, 1031, 1074, 1097, 1130, 1193, 1236, 1279, 1332, 1395, 1448, 1481, 1534, 1597, 1650, 1683, 1726, 1759, 1792, 1845, 1868, 1901, 1924, 1947, 1970, 1993]
theorem nd_18 : decode (ai_T 0).2.2.1 18 = .ok (.iload_n 3, 1) := by decide +kernel
theorem nd_19 : decode (ai_T 0).2.2.1 19 = .ok (.aload_n 0, 1) := by decide +kernel
theorem nd_20 : decode (ai_T 0).2.2.1 20 = .ok (.arraylength, 1) := by decide +kernel
theorem nd_21 : decode (ai_T 0).2.2.1 21 = .ok (.bipush 7, 2) := by decide +kernel
theorem nd_23 : decode (ai_T 0).2.2.1 23 = .ok (.isub, 1) := by decide +kernel
theorem nd_24 : decode (ai_T 0).2.2.1 24 = .ok (.if_icmp .gt 2021, 3) := by decide +kernel
theorem nd_27 : decode (ai_T 0).2.2.1 27 = .ok (.aload_n 0, 1) := by decide +kernel
theorem nd_28 : decode (ai_T 0).2.2.1 28 = .ok (.iload_n 3, 1) := by decide +kernel
theorem nd_29 : decode (ai_T 0).2.2.1 29 = .ok (.iaload, 1) := by decide +kernel
theorem nd_30 : decode (ai_T 0).2.2.1 30 = .ok (.bipush 63, 2) := by decide +kernel
theorem nd_32 : decode (ai_T 0).2.2.1 32 = .ok (.iand, 1) := by decide +kernel
theorem nd_33 : decode (ai_T 0).2.2.1 33 = .ok (.tableswitch 2006 0 46 nd_offs, 203) := by decide +kernel
theorem nd_2039 : decode (ai_T 0).2.2.1 2039 = .ok (.iinc 3 7, 3) := by decide +kernel
theorem nd_2042 : decode (ai_T 0).2.2.1 2042 = .ok (.goto (-2024), 3) := by decide +kernel
def ln_ok (j : Nat) : Bool := match nd_offs[j]? with
  | some off => decide (0 ≤ 33 + off) && ln_w 100 (ai_B1 0 (33 + off).toNat) none []
  | none => false
set_option maxRecDepth 100000 in
theorem ln_oka : (List.range 47).all ln_ok = true := by decide +kernel
section LNL
variable {p : Program} {l : Launch} {e : Env} {R : Room} {s : State} {m : MethodId} {args : Array Value} {below : List Frame} {meth : Method} {c : Code} {Q : State → Prop} {D : va_G} {bX bC bR L cs0 ss0 : Nat} {xs : Nat → Int32}
theorem ln_loop (cx : la_cx p s m args c R (ai_T 0).1 (ai_T 0).2.2.1) (hX : va_X bX L xs s s.heap) (hbX : bX < s.heap.size) (hL : L ≤ 3584) (hR : cs0 + 48 ≤ R.cells ∧ ss0 + 105728 ≤ R.slots) (hfin : ∀ (sh : Nat) (nC : Nat → Int) (H : Heap) (locs : List Loc) (ls : Array Slot), la_J D s bC bR sh nC sh nC H locs → W p l e R s m args below meth c H locs (cs0 + 24 * ln_n sh) (ss0 + 52864 * ln_n sh) Q (F0 m 2045 ls [])) : ∀ (k i : Nat) (ls : Array Slot), L < i + k → i ≤ L → lv_has ls 4 [(0, .ref bX), (1, .ref bC), (2, .ref bR), (3, .int (nI i))] → ∀ (sh : Nat) (nC : Nat → Int) (H : Heap) (locs : List Loc), la_J D s bC bR sh nC sh nC H locs → W p l e R s m args below meth c H locs (cs0 + 24 * ln_n sh) (ss0 + 52864 * ln_n sh) Q (F0 m 18 ls []) := by
  intro k
  induction k with
  | zero => intro i ls h1 h2; omega
  | succ k ih =>
    intro i ls hk hi hls sh nC H locs hI
    have cx0 := cx
    obtain ⟨hx, hb, hml, hown, hts, hao, hnw, hsx, hRf, hRl⟩ := cx
    have hS : va_S (lw_A s) s.heap H locs := la_JS hI
    have hnA : ¬ lw_A s bX := Nat.not_le.mpr hbX
    have hLi : (Int32.ofNat L - 7).toInt = (L : Int) - 7 := by
      have h7 : (7 : Int32).toInt = 7 := rfl
      have hl := nI_toInt (n := L) (by omega)
      have g := ai_bm32 (z := (L : Int) - 7) (by omega) (by omega)
      rw [Int32.toInt_sub, h7]
      show ((nI L).toInt - 7).bmod 4294967296 = _
      rw [hl, g]
    refine lv_iload_n hx hb nd_18 rfl (lv_at hls 3 rfl) ?_
    refine lv_aload_n hx hb nd_19 rfl (lv_at hls 0 rfl) ?_
    refine va_slen hx hb hX hbX hnA hS nd_20 ?_
    refine lv_bipush hx hb nd_21 (v := 7) (by decide +kernel) ?_
    refine lv_isub hx hb nd_23 ?_
    refine ai_icmp hx hb nd_24 (tgt := 2045) (by decide) (fun _ => hfin sh nC H locs ls hI) (fun g => ?_)
    have gi := nI_toInt (n := i) (by omega)
    have gt : ¬ (Int32.ofNat L - 7).toInt < (nI i).toInt := g
    have hi7 : i + 7 ≤ L := by omega
    refine lv_aload_n hx hb nd_27 rfl (lv_at hls 0 rfl) ?_
    refine lv_iload_n hx hb nd_28 rfl (lv_at hls 3 rfl) ?_
    refine va_sld hx hb hX hbX hnA hS (vp_in_nI (by omega) (by omega)) nd_29 ?_
    refine lv_bipush hx hb nd_30 (v := 63) (by decide +kernel) ?_
    refine lv_iand hx hb nd_32 ?_
    rw [nI_clamp (by omega)]
    have hx63 : 0 ≤ (xs i &&& 63).toInt ∧ (xs i &&& 63).toInt ≤ 63 := ai_and_le (y := 63) (by decide +kernel)
    have hend : ∀ (sh : Nat) (nC : Nat → Int) (H : Heap) (locs : List Loc), la_J D s bC bR sh nC sh nC H locs → W p l e R s m args below meth c H locs (cs0 + 24 * ln_n sh) (ss0 + 52864 * ln_n sh) Q (F0 m 2039 ls []) := by
      intro sh nC H locs hI
      refine lv_iinc hx hb nd_2039 hls (k := 3) rfl (v := nI (i + 7)) ?_ (by decide) rfl (fun ls' hls' => ?_)
      · rw [← nI_add]
        rfl
      · refine lv_goto hx hb nd_2042 (tgt := 18) (by decide) ?_
        exact ih (i + 7) ls' (by omega) hi7 (lv_sub hls' [1, 2, 3, 0] rfl) sh nC H locs hI
    by_cases c2 : 46 < (xs i &&& 63).toInt
    · exact lv_tableOut hx hb nd_33 (Or.inr c2) (tgt := 2039) (by decide) (hend sh nC H locs hI)
    · generalize hn : (xs i &&& 63).toInt.toNat = j at *
      have hj : j < 47 := by omega
      have ho := List.all_eq_true.mp ln_oka j (List.mem_range.mpr hj)
      unfold ln_ok at ho
      split at ho
      · rename_i off hoff
        rw [Bool.and_eq_true, decide_eq_true_eq] at ho
        refine lv_tableIn hx hb nd_33 (by omega) c2 (off := off) (tgt := (33 + off).toNat) ?_ (by omega) ?_
        · rw [show ((xs i &&& 63).toInt - 0).toNat = j by omega]
          exact hoff
        · obtain ⟨en, r, e1, k1⟩ := ln_snd (l := l) (e := e) (below := below) (meth := meth) (Q := Q) (ls := ls) (i := i) cx0 hX hbX hi7 hL hls hR hend 100 _ none [] ho.2 (ai_hB 0 (33 + off).toNat).1
          have := k1 0 sh nC H locs [] hI trivial
          rw [(ai_hB 0 (33 + off).toNat).2 en r e1] at this
          exact this
      · cases ho
end LNL
