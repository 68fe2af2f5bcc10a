/-! ===== decoding, in one walk over the bytes (by wip/gen/fz.py) ===== -/
def fz_R (f : Nat → Nat → Decoder Instr) : Prop := (∀ pc, Decoder.instr pc = (Reader.u1 >>= f pc)) ∧ (∀ pc, f pc 50 = (Pure.pure Instr.aaload : Decoder Instr)) ∧ (∀ pc, f pc 83 = (Pure.pure Instr.aastore : Decoder Instr)) ∧ (∀ pc, f pc 190 = (Pure.pure Instr.arraylength : Decoder Instr)) ∧ (∀ pc, f pc 51 = (Pure.pure Instr.baload : Decoder Instr)) ∧ (∀ pc, f pc 84 = (Pure.pure Instr.bastore : Decoder Instr)) ∧ (∀ pc, f pc 89 = (Pure.pure Instr.dup : Decoder Instr)) ∧ (∀ pc, f pc 92 = (Pure.pure Instr.dup2 : Decoder Instr)) ∧ (∀ pc, f pc 146 = (Pure.pure Instr.i2c : Decoder Instr)) ∧ (∀ pc, f pc 133 = (Pure.pure Instr.i2l : Decoder Instr)) ∧ (∀ pc, f pc 96 = (Pure.pure Instr.iadd : Decoder Instr)) ∧ (∀ pc, f pc 46 = (Pure.pure Instr.iaload : Decoder Instr)) ∧ (∀ pc, f pc 126 = (Pure.pure Instr.iand : Decoder Instr)) ∧ (∀ pc, f pc 79 = (Pure.pure Instr.iastore : Decoder Instr)) ∧ (∀ pc, f pc 108 = (Pure.pure Instr.idiv : Decoder Instr)) ∧ (∀ pc, f pc 104 = (Pure.pure Instr.imul : Decoder Instr)) ∧ (∀ pc, f pc 116 = (Pure.pure Instr.ineg : Decoder Instr)) ∧ (∀ pc, f pc 128 = (Pure.pure Instr.ior : Decoder Instr)) ∧ (∀ pc, f pc 112 = (Pure.pure Instr.irem : Decoder Instr)) ∧ (∀ pc, f pc 172 = (Pure.pure Instr.ireturn : Decoder Instr)) ∧ (∀ pc, f pc 120 = (Pure.pure Instr.ishl : Decoder Instr)) ∧ (∀ pc, f pc 122 = (Pure.pure Instr.ishr : Decoder Instr)) ∧ (∀ pc, f pc 100 = (Pure.pure Instr.isub : Decoder Instr)) ∧ (∀ pc, f pc 124 = (Pure.pure Instr.iushr : Decoder Instr)) ∧ (∀ pc, f pc 130 = (Pure.pure Instr.ixor : Decoder Instr)) ∧ (∀ pc, f pc 136 = (Pure.pure Instr.l2i : Decoder Instr)) ∧ (∀ pc, f pc 97 = (Pure.pure Instr.ladd : Decoder Instr)) ∧ (∀ pc, f pc 47 = (Pure.pure Instr.laload : Decoder Instr)) ∧ (∀ pc, f pc 80 = (Pure.pure Instr.lastore : Decoder Instr)) ∧ (∀ pc, f pc 148 = (Pure.pure Instr.lcmp : Decoder Instr)) ∧ (∀ pc, f pc 109 = (Pure.pure Instr.ldiv : Decoder Instr)) ∧ (∀ pc, f pc 105 = (Pure.pure Instr.lmul : Decoder Instr)) ∧ (∀ pc, f pc 113 = (Pure.pure Instr.lrem : Decoder Instr)) ∧ (∀ pc, f pc 173 = (Pure.pure Instr.lreturn : Decoder Instr)) ∧ (∀ pc, f pc 121 = (Pure.pure Instr.lshl : Decoder Instr)) ∧ (∀ pc, f pc 101 = (Pure.pure Instr.lsub : Decoder Instr)) ∧ (∀ pc, f pc 87 = (Pure.pure Instr.pop : Decoder Instr)) ∧ (∀ pc, f pc 177 = (Pure.pure Instr.return_ : Decoder Instr)) ∧ (∀ pc, f pc 42 = (Pure.pure (Instr.aload_n 0) : Decoder Instr)) ∧ (∀ pc, f pc 43 = (Pure.pure (Instr.aload_n 1) : Decoder Instr)) ∧ (∀ pc, f pc 44 = (Pure.pure (Instr.aload_n 2) : Decoder Instr)) ∧ (∀ pc, f pc 45 = (Pure.pure (Instr.aload_n 3) : Decoder Instr)) ∧ (∀ pc, f pc 75 = (Pure.pure (Instr.astore_n 0) : Decoder Instr)) ∧ (∀ pc, f pc 76 = (Pure.pure (Instr.astore_n 1) : Decoder Instr)) ∧ (∀ pc, f pc 77 = (Pure.pure (Instr.astore_n 2) : Decoder Instr)) ∧ (∀ pc, f pc 78 = (Pure.pure (Instr.astore_n 3) : Decoder Instr)) ∧ (∀ pc, f pc 26 = (Pure.pure (Instr.iload_n 0) : Decoder Instr)) ∧ (∀ pc, f pc 27 = (Pure.pure (Instr.iload_n 1) : Decoder Instr)) ∧ (∀ pc, f pc 28 = (Pure.pure (Instr.iload_n 2) : Decoder Instr)) ∧ (∀ pc, f pc 29 = (Pure.pure (Instr.iload_n 3) : Decoder Instr)) ∧ (∀ pc, f pc 59 = (Pure.pure (Instr.istore_n 0) : Decoder Instr)) ∧ (∀ pc, f pc 60 = (Pure.pure (Instr.istore_n 1) : Decoder Instr)) ∧ (∀ pc, f pc 61 = (Pure.pure (Instr.istore_n 2) : Decoder Instr)) ∧ (∀ pc, f pc 62 = (Pure.pure (Instr.istore_n 3) : Decoder Instr)) ∧ (∀ pc, f pc 30 = (Pure.pure (Instr.lload_n 0) : Decoder Instr)) ∧ (∀ pc, f pc 31 = (Pure.pure (Instr.lload_n 1) : Decoder Instr)) ∧ (∀ pc, f pc 32 = (Pure.pure (Instr.lload_n 2) : Decoder Instr)) ∧ (∀ pc, f pc 33 = (Pure.pure (Instr.lload_n 3) : Decoder Instr)) ∧ (∀ pc, f pc 63 = (Pure.pure (Instr.lstore_n 0) : Decoder Instr)) ∧ (∀ pc, f pc 64 = (Pure.pure (Instr.lstore_n 1) : Decoder Instr)) ∧ (∀ pc, f pc 65 = (Pure.pure (Instr.lstore_n 2) : Decoder Instr)) ∧ (∀ pc, f pc 66 = (Pure.pure (Instr.lstore_n 3) : Decoder Instr)) ∧ (∀ pc, f pc 9 = (Pure.pure (Instr.lconst 0) : Decoder Instr)) ∧ (∀ pc, f pc 10 = (Pure.pure (Instr.lconst 1) : Decoder Instr)) ∧ (∀ pc, f pc 2 = (Pure.pure (Instr.iconst (-1)) : Decoder Instr)) ∧ (∀ pc, f pc 3 = (Pure.pure (Instr.iconst (0)) : Decoder Instr)) ∧ (∀ pc, f pc 4 = (Pure.pure (Instr.iconst (1)) : Decoder Instr)) ∧ (∀ pc, f pc 5 = (Pure.pure (Instr.iconst (2)) : Decoder Instr)) ∧ (∀ pc, f pc 6 = (Pure.pure (Instr.iconst (3)) : Decoder Instr)) ∧ (∀ pc, f pc 7 = (Pure.pure (Instr.iconst (4)) : Decoder Instr)) ∧ (∀ pc, f pc 8 = (Pure.pure (Instr.iconst (5)) : Decoder Instr)) ∧ (∀ pc, f pc 21 = (Reader.u1 >>= fun x => Pure.pure (Instr.iload x) : Decoder Instr)) ∧ (∀ pc, f pc 22 = (Reader.u1 >>= fun x => Pure.pure (Instr.lload x) : Decoder Instr)) ∧ (∀ pc, f pc 25 = (Reader.u1 >>= fun x => Pure.pure (Instr.aload x) : Decoder Instr)) ∧ (∀ pc, f pc 54 = (Reader.u1 >>= fun x => Pure.pure (Instr.istore x) : Decoder Instr)) ∧ (∀ pc, f pc 55 = (Reader.u1 >>= fun x => Pure.pure (Instr.lstore x) : Decoder Instr)) ∧ (∀ pc, f pc 58 = (Reader.u1 >>= fun x => Pure.pure (Instr.astore x) : Decoder Instr)) ∧ (∀ pc, f pc 18 = (Reader.u1 >>= fun x => Pure.pure (Instr.ldc x) : Decoder Instr)) ∧ (∀ pc, f pc 19 = (Reader.u2 >>= fun x => Pure.pure (Instr.ldc_w x) : Decoder Instr)) ∧ (∀ pc, f pc 20 = (Reader.u2 >>= fun x => Pure.pure (Instr.ldc2_w x) : Decoder Instr)) ∧ (∀ pc, f pc 178 = (Reader.u2 >>= fun x => Pure.pure (Instr.getstatic x) : Decoder Instr)) ∧ (∀ pc, f pc 180 = (Reader.u2 >>= fun x => Pure.pure (Instr.getfield x) : Decoder Instr)) ∧ (∀ pc, f pc 181 = (Reader.u2 >>= fun x => Pure.pure (Instr.putfield x) : Decoder Instr)) ∧ (∀ pc, f pc 182 = (Reader.u2 >>= fun x => Pure.pure (Instr.invokevirtual x) : Decoder Instr)) ∧ (∀ pc, f pc 183 = (Reader.u2 >>= fun x => Pure.pure (Instr.invokespecial x) : Decoder Instr)) ∧ (∀ pc, f pc 184 = (Reader.u2 >>= fun x => Pure.pure (Instr.invokestatic x) : Decoder Instr)) ∧ (∀ pc, f pc 187 = (Reader.u2 >>= fun x => Pure.pure (Instr.new x) : Decoder Instr)) ∧ (∀ pc, f pc 189 = (Reader.u2 >>= fun x => Pure.pure (Instr.anewarray x) : Decoder Instr)) ∧ (∀ pc, f pc 17 = (Reader.s2 >>= fun x => Pure.pure (Instr.sipush x) : Decoder Instr)) ∧ (∀ pc, f pc 167 = (Reader.s2 >>= fun x => Pure.pure (Instr.goto x) : Decoder Instr)) ∧ (∀ pc, f pc 199 = (Reader.s2 >>= fun x => Pure.pure (Instr.ifnonnull x) : Decoder Instr)) ∧ (∀ pc, f pc 153 = (Reader.s2 >>= fun x => Pure.pure (Instr.ifCond .eq x) : Decoder Instr)) ∧ (∀ pc, f pc 159 = (Reader.s2 >>= fun x => Pure.pure (Instr.if_icmp .eq x) : Decoder Instr)) ∧ (∀ pc, f pc 154 = (Reader.s2 >>= fun x => Pure.pure (Instr.ifCond .ne x) : Decoder Instr)) ∧ (∀ pc, f pc 160 = (Reader.s2 >>= fun x => Pure.pure (Instr.if_icmp .ne x) : Decoder Instr)) ∧ (∀ pc, f pc 155 = (Reader.s2 >>= fun x => Pure.pure (Instr.ifCond .lt x) : Decoder Instr)) ∧ (∀ pc, f pc 161 = (Reader.s2 >>= fun x => Pure.pure (Instr.if_icmp .lt x) : Decoder Instr)) ∧ (∀ pc, f pc 156 = (Reader.s2 >>= fun x => Pure.pure (Instr.ifCond .ge x) : Decoder Instr)) ∧ (∀ pc, f pc 162 = (Reader.s2 >>= fun x => Pure.pure (Instr.if_icmp .ge x) : Decoder Instr)) ∧ (∀ pc, f pc 157 = (Reader.s2 >>= fun x => Pure.pure (Instr.ifCond .gt x) : Decoder Instr)) ∧ (∀ pc, f pc 163 = (Reader.s2 >>= fun x => Pure.pure (Instr.if_icmp .gt x) : Decoder Instr)) ∧ (∀ pc, f pc 158 = (Reader.s2 >>= fun x => Pure.pure (Instr.ifCond .le x) : Decoder Instr)) ∧ (∀ pc, f pc 164 = (Reader.s2 >>= fun x => Pure.pure (Instr.if_icmp .le x) : Decoder Instr)) ∧ (∀ pc, f pc 16 = (Reader.s1 >>= fun x => Pure.pure (Instr.bipush x) : Decoder Instr)) ∧ (∀ pc, f pc 132 = (Reader.u1 >>= fun x => Reader.s1 >>= fun y => Pure.pure (Instr.iinc x y) : Decoder Instr))
theorem fz_ex : ∃ f, fz_R f := ⟨_, fun pc => rfl, fun _ => rfl, fun _ => rfl, fun _ => rfl, fun _ => rfl, fun _ => rfl, fun _ => rfl, fun _ => rfl, fun _ => rfl, fun _ => rfl, fun _ => rfl, fun _ => rfl, fun _ => rfl, fun _ => rfl, fun _ => rfl, fun _ => rfl, fun _ => rfl, fun _ => rfl, fun _ => rfl, fun _ => rfl, fun _ => rfl, fun _ => rfl, fun _ => rfl, fun _ => rfl, fun _ => rfl, fun _ => rfl, fun _ => rfl, fun _ => rfl, fun _ => rfl, fun _ => rfl, fun _ => rfl, fun _ => rfl, fun _ => rfl, fun _ => rfl, fun _ => rfl, fun _ => rfl, fun _ => rfl, fun _ => rfl, fun _ => rfl, fun _ => rfl, fun _ => rfl, fun _ => rfl, fun _ => rfl, fun _ => rfl, fun _ => rfl, fun _ => rfl, fun _ => rfl, fun _ => rfl, fun _ => rfl, fun _ => rfl, fun _ => rfl, fun _ => rfl, fun _ => rfl, fun _ => rfl, fun _ => rfl, fun _ => rfl, fun _ => rfl, fun _ => rfl, fun _ => rfl, fun _ => rfl, fun _ => rfl, fun _ => rfl, fun _ => rfl, fun _ => rfl, fun _ => rfl, fun _ => rfl, fun _ => rfl, fun _ => rfl, fun _ => rfl, fun _ => rfl, fun _ => rfl, fun _ => rfl, fun _ => rfl, fun _ => rfl, fun _ => rfl, fun _ => rfl, fun _ => rfl, fun _ => rfl, fun _ => rfl, fun _ => rfl, fun _ => rfl, fun _ => rfl, fun _ => rfl, fun _ => rfl, fun _ => rfl, fun _ => rfl, fun _ => rfl, fun _ => rfl, fun _ => rfl, fun _ => rfl, fun _ => rfl, fun _ => rfl, fun _ => rfl, fun _ => rfl, fun _ => rfl, fun _ => rfl, fun _ => rfl, fun _ => rfl, fun _ => rfl, fun _ => rfl, fun _ => rfl, fun _ => rfl, fun _ => rfl, fun _ => rfl, fun _ => rfl⟩
theorem fz_u1 {cc : ByteArray} {pc : Nat} {b : UInt8} {r : List UInt8} (h : cc.data.toList.drop pc = b :: r) : (Reader.u1 : Decoder Nat) cc pc = .ok (b.toNat, pc + 1) := by
  have hl : pc < cc.data.toList.length := by
    have := congrArg List.length h
    rw [List.length_drop, List.length_cons] at this
    omega
  have h1 : pc < cc.size := hl
  have h2 : cc.data.toList[pc]'hl = b := by
    have := congrArg (fun l => l[0]?) h
    simp only [List.getElem?_drop, Nat.add_zero, List.getElem?_cons_zero] at this
    exact (List.getElem?_eq_some_iff.mp this).2
  have h3 : cc[pc]'h1 = b := h2
  show (dite (pc < cc.size) (fun h => (set (pc + 1) >>= fun _ => Pure.pure (cc[pc]'h).toNat : Decoder Nat)) (fun _ => throw (HasTruncated.truncated pc))) cc pc = _
  rw [dif_pos h1, h3]
  rfl
theorem fz_dr {l : List UInt8} {pc : Nat} {b : UInt8} {r : List UInt8} (h : l.drop pc = b :: r) : l.drop (pc + 1) = r := by
  rw [← List.drop_drop, h]
  rfl
theorem fz_bd {α β : Type} {x : Decoder α} {g : α → Decoder β} {cc : ByteArray} {pc n : Nat} {a : α} (h : x cc pc = .ok (a, n)) : (x >>= g) cc pc = g a cc n := by
  show (Except.bind (x cc pc) _ : Except DecodeError (β × Nat)) = _
  rw [h]
  rfl
theorem fz_u2 {cc : ByteArray} {pc : Nat} {b c : UInt8} {r : List UInt8} (h : cc.data.toList.drop pc = b :: c :: r) : (Reader.u2 : Decoder Nat) cc pc = .ok (b.toNat * 256 + c.toNat, pc + 1 + 1) := by
  show (Reader.u1 >>= fun hi => Reader.u1 >>= fun lo => Pure.pure (hi * 256 + lo) : Decoder Nat) cc pc = _
  rw [fz_bd (fz_u1 h), fz_bd (fz_u1 (fz_dr h))]
  rfl
theorem fz_mp {α β : Type} {x : Decoder α} {g : α → β} {cc : ByteArray} {pc n : Nat} {a : α} (h : x cc pc = .ok (a, n)) : (g <$> x) cc pc = .ok (g a, n) := by
  show (Except.bind (x cc pc) _ : Except DecodeError (β × Nat)) = _
  rw [h]
  rfl
theorem fz_s1 {cc : ByteArray} {pc : Nat} {b : UInt8} {r : List UInt8} (h : cc.data.toList.drop pc = b :: r) : (Reader.s1 : Decoder Int) cc pc = .ok (Reader.signed 8 b.toNat, pc + 1) := fz_mp (fz_u1 h)
theorem fz_s2 {cc : ByteArray} {pc : Nat} {b c : UInt8} {r : List UInt8} (h : cc.data.toList.drop pc = b :: c :: r) : (Reader.s2 : Decoder Int) cc pc = .ok (Reader.signed 16 (b.toNat * 256 + c.toNat), pc + 1 + 1) := fz_mp (fz_u2 h)
theorem fz_dec {f : Nat → Nat → Decoder Instr} (hf : fz_R f) {cc : ByteArray} {pc n : Nat} {b : UInt8} {r : List UInt8} {i : Instr} (h : cc.data.toList.drop pc = b :: r) (hi : f pc b.toNat cc (pc + 1) = .ok (i, pc + n)) : decode cc pc = .ok (i, n) := by
  have e : Decoder.instr pc cc pc = .ok (i, pc + n) := by
    rw [hf.1, fz_bd (fz_u1 h), hi]
  show (Except.bind (Decoder.instr pc cc pc) _ : Except DecodeError (Instr × Nat)) = _
  rw [e]
  show (Except.ok (i, pc + n - pc) : Except DecodeError (Instr × Nat)) = _
  rw [Nat.add_sub_cancel_left]
def fz_o (q : Jvm.ClassFile.Cond) : Nat := match q with
  | .eq => 0
  | .ne => 1
  | .lt => 2
  | .ge => 3
  | .gt => 4
  | .le => 5
def fz_1 (op : Nat) (bs : List UInt8) (len : Nat) : Bool := match bs with
  | b :: _ => b.toNat == op && len == 1
  | [] => false
def fz_2 (op : Nat) (v : Nat → Bool) (bs : List UInt8) (len : Nat) : Bool := match bs with
  | b :: c :: _ => b.toNat == op && (v c.toNat && len == 2)
  | _ => false
def fz_3 (op : Nat) (v : Nat → Bool) (bs : List UInt8) (len : Nat) : Bool := match bs with
  | b :: c :: d :: _ => b.toNat == op && (v (c.toNat * 256 + d.toNat) && len == 3)
  | _ => false
section FZ
variable {f : Nat → Nat → Decoder Instr} {cc : ByteArray} {pc len op : Nat} {bs : List UInt8} {ins : Instr} {v : Nat → Bool}
theorem fz_1k (hf : fz_R f) (hb : cc.data.toList.drop pc = bs) (h : fz_1 op bs len = true) (hr : f pc op = (Pure.pure ins : Decoder Instr)) : decode cc pc = .ok (ins, len) := by
  unfold fz_1 at h
  split at h
  · rename_i b r
    rw [Bool.and_eq_true, beq_iff_eq, beq_iff_eq] at h
    obtain ⟨rfl, rfl⟩ := h
    exact fz_dec hf hb (by rw [hr]; rfl)
  · cases h
theorem fz_2k {C : Nat → Instr} (hf : fz_R f) (hb : cc.data.toList.drop pc = bs) (h : fz_2 op v bs len = true) (hr : f pc op = (Reader.u1 >>= fun x => Pure.pure (C x) : Decoder Instr)) (hv : ∀ n, v n = true → C n = ins) : decode cc pc = .ok (ins, len) := by
  unfold fz_2 at h
  split at h
  · rename_i b c r
    simp only [Bool.and_eq_true, beq_iff_eq] at h
    obtain ⟨rfl, h2, rfl⟩ := h
    rw [← hv _ h2]
    refine fz_dec hf hb ?_
    rw [hr, fz_bd (fz_u1 (fz_dr hb))]
    rfl
  · cases h
theorem fz_2s {C : Int → Instr} (hf : fz_R f) (hb : cc.data.toList.drop pc = bs) (h : fz_2 op v bs len = true) (hr : f pc op = (Reader.s1 >>= fun x => Pure.pure (C x) : Decoder Instr)) (hv : ∀ n, v n = true → C (Reader.signed 8 n) = ins) : decode cc pc = .ok (ins, len) := by
  unfold fz_2 at h
  split at h
  · rename_i b c r
    simp only [Bool.and_eq_true, beq_iff_eq] at h
    obtain ⟨rfl, h2, rfl⟩ := h
    rw [← hv _ h2]
    refine fz_dec hf hb ?_
    rw [hr, fz_bd (fz_s1 (fz_dr hb))]
    rfl
  · cases h
theorem fz_3k {C : Nat → Instr} (hf : fz_R f) (hb : cc.data.toList.drop pc = bs) (h : fz_3 op v bs len = true) (hr : f pc op = (Reader.u2 >>= fun x => Pure.pure (C x) : Decoder Instr)) (hv : ∀ n, v n = true → C n = ins) : decode cc pc = .ok (ins, len) := by
  unfold fz_3 at h
  split at h
  · rename_i b c d r
    simp only [Bool.and_eq_true, beq_iff_eq] at h
    obtain ⟨rfl, h2, rfl⟩ := h
    rw [← hv _ h2]
    refine fz_dec hf hb ?_
    rw [hr, fz_bd (fz_u2 (fz_dr hb))]
    rfl
  · cases h
theorem fz_3s {C : Int → Instr} (hf : fz_R f) (hb : cc.data.toList.drop pc = bs) (h : fz_3 op v bs len = true) (hr : f pc op = (Reader.s2 >>= fun x => Pure.pure (C x) : Decoder Instr)) (hv : ∀ n, v n = true → C (Reader.signed 16 n) = ins) : decode cc pc = .ok (ins, len) := by
  unfold fz_3 at h
  split at h
  · rename_i b c d r
    simp only [Bool.and_eq_true, beq_iff_eq] at h
    obtain ⟨rfl, h2, rfl⟩ := h
    rw [← hv _ h2]
    refine fz_dec hf hb ?_
    rw [hr, fz_bd (fz_s2 (fz_dr hb))]
    rfl
  · cases h
def fz_4 (i : Nat) (z : Int) (bs : List UInt8) (len : Nat) : Bool := match bs with
  | b :: c :: d :: _ => b.toNat == 132 && (c.toNat == i && (decide (Reader.signed 8 d.toNat = z) && len == 3))
  | _ => false
theorem fz_4k {i : Nat} {z : Int} (hf : fz_R f) (hb : cc.data.toList.drop pc = bs) (h : fz_4 i z bs len = true) : decode cc pc = .ok (.iinc i z, len) := by
  unfold fz_4 at h
  split at h
  · rename_i b c d r
    simp only [Bool.and_eq_true, beq_iff_eq, decide_eq_true_eq] at h
    obtain ⟨h0, rfl, rfl, rfl⟩ := h
    refine fz_dec hf hb ?_
    rw [h0, hf.2.2.2.2.2.2.2.2.2.2.2.2.2.2.2.2.2.2.2.2.2.2.2.2.2.2.2.2.2.2.2.2.2.2.2.2.2.2.2.2.2.2.2.2.2.2.2.2.2.2.2.2.2.2.2.2.2.2.2.2.2.2.2.2.2.2.2.2.2.2.2.2.2.2.2.2.2.2.2.2.2.2.2.2.2.2.2.2.2.2.2.2.2.2.2.2.2.2.2.2.2.2.2.2]
    rw [fz_bd (fz_u1 (fz_dr hb)), fz_bd (fz_s1 (fz_dr (fz_dr hb)))]
    rfl
  · cases h
end FZ
def fz_i (cc : ByteArray) (pc : Nat) (ins : Instr) (bs : List UInt8) (len : Nat) : Bool := match ins with
  | .aaload => fz_1 50 bs len
  | .aastore => fz_1 83 bs len
  | .arraylength => fz_1 190 bs len
  | .baload => fz_1 51 bs len
  | .bastore => fz_1 84 bs len
  | .dup => fz_1 89 bs len
  | .dup2 => fz_1 92 bs len
  | .i2c => fz_1 146 bs len
  | .i2l => fz_1 133 bs len
  | .iadd => fz_1 96 bs len
  | .iaload => fz_1 46 bs len
  | .iand => fz_1 126 bs len
  | .iastore => fz_1 79 bs len
  | .idiv => fz_1 108 bs len
  | .imul => fz_1 104 bs len
  | .ineg => fz_1 116 bs len
  | .ior => fz_1 128 bs len
  | .irem => fz_1 112 bs len
  | .ireturn => fz_1 172 bs len
  | .ishl => fz_1 120 bs len
  | .ishr => fz_1 122 bs len
  | .isub => fz_1 100 bs len
  | .iushr => fz_1 124 bs len
  | .ixor => fz_1 130 bs len
  | .l2i => fz_1 136 bs len
  | .ladd => fz_1 97 bs len
  | .laload => fz_1 47 bs len
  | .lastore => fz_1 80 bs len
  | .lcmp => fz_1 148 bs len
  | .ldiv => fz_1 109 bs len
  | .lmul => fz_1 105 bs len
  | .lrem => fz_1 113 bs len
  | .lreturn => fz_1 173 bs len
  | .lshl => fz_1 121 bs len
  | .lsub => fz_1 101 bs len
  | .pop => fz_1 87 bs len
  | .return_ => fz_1 177 bs len
  | .aload_n k => fz_1 (42 + (k : Nat)) bs len
  | .astore_n k => fz_1 (75 + (k : Nat)) bs len
  | .iload_n k => fz_1 (26 + (k : Nat)) bs len
  | .istore_n k => fz_1 (59 + (k : Nat)) bs len
  | .lload_n k => fz_1 (30 + (k : Nat)) bs len
  | .lstore_n k => fz_1 (63 + (k : Nat)) bs len
  | .lconst k => fz_1 (9 + (k : Nat)) bs len
  | .iconst z => decide (-1 ≤ z) && (decide (z ≤ 5) && fz_1 (z + 3).toNat bs len)
  | .iload i => fz_2 21 (fun n => n == i) bs len
  | .lload i => fz_2 22 (fun n => n == i) bs len
  | .aload i => fz_2 25 (fun n => n == i) bs len
  | .istore i => fz_2 54 (fun n => n == i) bs len
  | .lstore i => fz_2 55 (fun n => n == i) bs len
  | .astore i => fz_2 58 (fun n => n == i) bs len
  | .ldc i => fz_2 18 (fun n => n == i) bs len
  | .ldc_w i => fz_3 19 (fun n => n == i) bs len
  | .ldc2_w i => fz_3 20 (fun n => n == i) bs len
  | .getstatic i => fz_3 178 (fun n => n == i) bs len
  | .getfield i => fz_3 180 (fun n => n == i) bs len
  | .putfield i => fz_3 181 (fun n => n == i) bs len
  | .invokevirtual i => fz_3 182 (fun n => n == i) bs len
  | .invokespecial i => fz_3 183 (fun n => n == i) bs len
  | .invokestatic i => fz_3 184 (fun n => n == i) bs len
  | .new i => fz_3 187 (fun n => n == i) bs len
  | .anewarray i => fz_3 189 (fun n => n == i) bs len
  | .sipush z => fz_3 17 (fun n => decide (Reader.signed 16 n = z)) bs len
  | .goto z => fz_3 167 (fun n => decide (Reader.signed 16 n = z)) bs len
  | .ifnonnull z => fz_3 199 (fun n => decide (Reader.signed 16 n = z)) bs len
  | .ifCond q z => fz_3 (153 + fz_o q) (fun n => decide (Reader.signed 16 n = z)) bs len
  | .if_icmp q z => fz_3 (159 + fz_o q) (fun n => decide (Reader.signed 16 n = z)) bs len
  | .bipush z => fz_2 16 (fun n => decide (Reader.signed 8 n = z)) bs len
  | .iinc i z => fz_4 i z bs len
  | _ => decide (decode cc pc = .ok (ins, len))
theorem fz_ok {cc : ByteArray} {pc len : Nat} {ins : Instr} {bs : List UInt8} (hb : cc.data.toList.drop pc = bs) (h : fz_i cc pc ins bs len = true) : decode cc pc = .ok (ins, len) := by
  obtain ⟨f, hf⟩ := fz_ex
  unfold fz_i at h
  split at h
  · exact fz_1k hf hb h (hf.2.1 pc)
  · exact fz_1k hf hb h (hf.2.2.1 pc)
  · exact fz_1k hf hb h (hf.2.2.2.1 pc)
  · exact fz_1k hf hb h (hf.2.2.2.2.1 pc)
  · exact fz_1k hf hb h (hf.2.2.2.2.2.1 pc)
  · exact fz_1k hf hb h (hf.2.2.2.2.2.2.1 pc)
  · exact fz_1k hf hb h (hf.2.2.2.2.2.2.2.1 pc)
  · exact fz_1k hf hb h (hf.2.2.2.2.2.2.2.2.1 pc)
  · exact fz_1k hf hb h (hf.2.2.2.2.2.2.2.2.2.1 pc)
  · exact fz_1k hf hb h (hf.2.2.2.2.2.2.2.2.2.2.1 pc)
  · exact fz_1k hf hb h (hf.2.2.2.2.2.2.2.2.2.2.2.1 pc)
  · exact fz_1k hf hb h (hf.2.2.2.2.2.2.2.2.2.2.2.2.1 pc)
  · exact fz_1k hf hb h (hf.2.2.2.2.2.2.2.2.2.2.2.2.2.1 pc)
  · exact fz_1k hf hb h (hf.2.2.2.2.2.2.2.2.2.2.2.2.2.2.1 pc)
  · exact fz_1k hf hb h (hf.2.2.2.2.2.2.2.2.2.2.2.2.2.2.2.1 pc)
  · exact fz_1k hf hb h (hf.2.2.2.2.2.2.2.2.2.2.2.2.2.2.2.2.1 pc)
  · exact fz_1k hf hb h (hf.2.2.2.2.2.2.2.2.2.2.2.2.2.2.2.2.2.1 pc)
  · exact fz_1k hf hb h (hf.2.2.2.2.2.2.2.2.2.2.2.2.2.2.2.2.2.2.1 pc)
  · exact fz_1k hf hb h (hf.2.2.2.2.2.2.2.2.2.2.2.2.2.2.2.2.2.2.2.1 pc)
  · exact fz_1k hf hb h (hf.2.2.2.2.2.2.2.2.2.2.2.2.2.2.2.2.2.2.2.2.1 pc)
  · exact fz_1k hf hb h (hf.2.2.2.2.2.2.2.2.2.2.2.2.2.2.2.2.2.2.2.2.2.1 pc)
  · exact fz_1k hf hb h (hf.2.2.2.2.2.2.2.2.2.2.2.2.2.2.2.2.2.2.2.2.2.2.1 pc)
  · exact fz_1k hf hb h (hf.2.2.2.2.2.2.2.2.2.2.2.2.2.2.2.2.2.2.2.2.2.2.2.1 pc)
  · exact fz_1k hf hb h (hf.2.2.2.2.2.2.2.2.2.2.2.2.2.2.2.2.2.2.2.2.2.2.2.2.1 pc)
  · exact fz_1k hf hb h (hf.2.2.2.2.2.2.2.2.2.2.2.2.2.2.2.2.2.2.2.2.2.2.2.2.2.1 pc)
  · exact fz_1k hf hb h (hf.2.2.2.2.2.2.2.2.2.2.2.2.2.2.2.2.2.2.2.2.2.2.2.2.2.2.1 pc)
  · exact fz_1k hf hb h (hf.2.2.2.2.2.2.2.2.2.2.2.2.2.2.2.2.2.2.2.2.2.2.2.2.2.2.2.1 pc)
  · exact fz_1k hf hb h (hf.2.2.2.2.2.2.2.2.2.2.2.2.2.2.2.2.2.2.2.2.2.2.2.2.2.2.2.2.1 pc)
  · exact fz_1k hf hb h (hf.2.2.2.2.2.2.2.2.2.2.2.2.2.2.2.2.2.2.2.2.2.2.2.2.2.2.2.2.2.1 pc)
  · exact fz_1k hf hb h (hf.2.2.2.2.2.2.2.2.2.2.2.2.2.2.2.2.2.2.2.2.2.2.2.2.2.2.2.2.2.2.1 pc)
  · exact fz_1k hf hb h (hf.2.2.2.2.2.2.2.2.2.2.2.2.2.2.2.2.2.2.2.2.2.2.2.2.2.2.2.2.2.2.2.1 pc)
  · exact fz_1k hf hb h (hf.2.2.2.2.2.2.2.2.2.2.2.2.2.2.2.2.2.2.2.2.2.2.2.2.2.2.2.2.2.2.2.2.1 pc)
  · exact fz_1k hf hb h (hf.2.2.2.2.2.2.2.2.2.2.2.2.2.2.2.2.2.2.2.2.2.2.2.2.2.2.2.2.2.2.2.2.2.1 pc)
  · exact fz_1k hf hb h (hf.2.2.2.2.2.2.2.2.2.2.2.2.2.2.2.2.2.2.2.2.2.2.2.2.2.2.2.2.2.2.2.2.2.2.1 pc)
  · exact fz_1k hf hb h (hf.2.2.2.2.2.2.2.2.2.2.2.2.2.2.2.2.2.2.2.2.2.2.2.2.2.2.2.2.2.2.2.2.2.2.2.1 pc)
  · exact fz_1k hf hb h (hf.2.2.2.2.2.2.2.2.2.2.2.2.2.2.2.2.2.2.2.2.2.2.2.2.2.2.2.2.2.2.2.2.2.2.2.2.1 pc)
  · exact fz_1k hf hb h (hf.2.2.2.2.2.2.2.2.2.2.2.2.2.2.2.2.2.2.2.2.2.2.2.2.2.2.2.2.2.2.2.2.2.2.2.2.2.1 pc)
  · rename_i k
    match k, h with
    | 0, h => exact fz_1k hf hb h (hf.2.2.2.2.2.2.2.2.2.2.2.2.2.2.2.2.2.2.2.2.2.2.2.2.2.2.2.2.2.2.2.2.2.2.2.2.2.2.1 pc)
    | 1, h => exact fz_1k hf hb h (hf.2.2.2.2.2.2.2.2.2.2.2.2.2.2.2.2.2.2.2.2.2.2.2.2.2.2.2.2.2.2.2.2.2.2.2.2.2.2.2.1 pc)
    | 2, h => exact fz_1k hf hb h (hf.2.2.2.2.2.2.2.2.2.2.2.2.2.2.2.2.2.2.2.2.2.2.2.2.2.2.2.2.2.2.2.2.2.2.2.2.2.2.2.2.1 pc)
    | 3, h => exact fz_1k hf hb h (hf.2.2.2.2.2.2.2.2.2.2.2.2.2.2.2.2.2.2.2.2.2.2.2.2.2.2.2.2.2.2.2.2.2.2.2.2.2.2.2.2.2.1 pc)
  · rename_i k
    match k, h with
    | 0, h => exact fz_1k hf hb h (hf.2.2.2.2.2.2.2.2.2.2.2.2.2.2.2.2.2.2.2.2.2.2.2.2.2.2.2.2.2.2.2.2.2.2.2.2.2.2.2.2.2.2.1 pc)
    | 1, h => exact fz_1k hf hb h (hf.2.2.2.2.2.2.2.2.2.2.2.2.2.2.2.2.2.2.2.2.2.2.2.2.2.2.2.2.2.2.2.2.2.2.2.2.2.2.2.2.2.2.2.1 pc)
    | 2, h => exact fz_1k hf hb h (hf.2.2.2.2.2.2.2.2.2.2.2.2.2.2.2.2.2.2.2.2.2.2.2.2.2.2.2.2.2.2.2.2.2.2.2.2.2.2.2.2.2.2.2.2.1 pc)
    | 3, h => exact fz_1k hf hb h (hf.2.2.2.2.2.2.2.2.2.2.2.2.2.2.2.2.2.2.2.2.2.2.2.2.2.2.2.2.2.2.2.2.2.2.2.2.2.2.2.2.2.2.2.2.2.1 pc)
  · rename_i k
    match k, h with
    | 0, h => exact fz_1k hf hb h (hf.2.2.2.2.2.2.2.2.2.2.2.2.2.2.2.2.2.2.2.2.2.2.2.2.2.2.2.2.2.2.2.2.2.2.2.2.2.2.2.2.2.2.2.2.2.2.1 pc)
    | 1, h => exact fz_1k hf hb h (hf.2.2.2.2.2.2.2.2.2.2.2.2.2.2.2.2.2.2.2.2.2.2.2.2.2.2.2.2.2.2.2.2.2.2.2.2.2.2.2.2.2.2.2.2.2.2.2.1 pc)
    | 2, h => exact fz_1k hf hb h (hf.2.2.2.2.2.2.2.2.2.2.2.2.2.2.2.2.2.2.2.2.2.2.2.2.2.2.2.2.2.2.2.2.2.2.2.2.2.2.2.2.2.2.2.2.2.2.2.2.1 pc)
    | 3, h => exact fz_1k hf hb h (hf.2.2.2.2.2.2.2.2.2.2.2.2.2.2.2.2.2.2.2.2.2.2.2.2.2.2.2.2.2.2.2.2.2.2.2.2.2.2.2.2.2.2.2.2.2.2.2.2.2.1 pc)
  · rename_i k
    match k, h with
    | 0, h => exact fz_1k hf hb h (hf.2.2.2.2.2.2.2.2.2.2.2.2.2.2.2.2.2.2.2.2.2.2.2.2.2.2.2.2.2.2.2.2.2.2.2.2.2.2.2.2.2.2.2.2.2.2.2.2.2.2.1 pc)
    | 1, h => exact fz_1k hf hb h (hf.2.2.2.2.2.2.2.2.2.2.2.2.2.2.2.2.2.2.2.2.2.2.2.2.2.2.2.2.2.2.2.2.2.2.2.2.2.2.2.2.2.2.2.2.2.2.2.2.2.2.2.1 pc)
    | 2, h => exact fz_1k hf hb h (hf.2.2.2.2.2.2.2.2.2.2.2.2.2.2.2.2.2.2.2.2.2.2.2.2.2.2.2.2.2.2.2.2.2.2.2.2.2.2.2.2.2.2.2.2.2.2.2.2.2.2.2.2.1 pc)
    | 3, h => exact fz_1k hf hb h (hf.2.2.2.2.2.2.2.2.2.2.2.2.2.2.2.2.2.2.2.2.2.2.2.2.2.2.2.2.2.2.2.2.2.2.2.2.2.2.2.2.2.2.2.2.2.2.2.2.2.2.2.2.2.1 pc)
  · rename_i k
    match k, h with
    | 0, h => exact fz_1k hf hb h (hf.2.2.2.2.2.2.2.2.2.2.2.2.2.2.2.2.2.2.2.2.2.2.2.2.2.2.2.2.2.2.2.2.2.2.2.2.2.2.2.2.2.2.2.2.2.2.2.2.2.2.2.2.2.2.1 pc)
    | 1, h => exact fz_1k hf hb h (hf.2.2.2.2.2.2.2.2.2.2.2.2.2.2.2.2.2.2.2.2.2.2.2.2.2.2.2.2.2.2.2.2.2.2.2.2.2.2.2.2.2.2.2.2.2.2.2.2.2.2.2.2.2.2.2.1 pc)
    | 2, h => exact fz_1k hf hb h (hf.2.2.2.2.2.2.2.2.2.2.2.2.2.2.2.2.2.2.2.2.2.2.2.2.2.2.2.2.2.2.2.2.2.2.2.2.2.2.2.2.2.2.2.2.2.2.2.2.2.2.2.2.2.2.2.2.1 pc)
    | 3, h => exact fz_1k hf hb h (hf.2.2.2.2.2.2.2.2.2.2.2.2.2.2.2.2.2.2.2.2.2.2.2.2.2.2.2.2.2.2.2.2.2.2.2.2.2.2.2.2.2.2.2.2.2.2.2.2.2.2.2.2.2.2.2.2.2.1 pc)
  · rename_i k
    match k, h with
    | 0, h => exact fz_1k hf hb h (hf.2.2.2.2.2.2.2.2.2.2.2.2.2.2.2.2.2.2.2.2.2.2.2.2.2.2.2.2.2.2.2.2.2.2.2.2.2.2.2.2.2.2.2.2.2.2.2.2.2.2.2.2.2.2.2.2.2.2.1 pc)
    | 1, h => exact fz_1k hf hb h (hf.2.2.2.2.2.2.2.2.2.2.2.2.2.2.2.2.2.2.2.2.2.2.2.2.2.2.2.2.2.2.2.2.2.2.2.2.2.2.2.2.2.2.2.2.2.2.2.2.2.2.2.2.2.2.2.2.2.2.2.1 pc)
    | 2, h => exact fz_1k hf hb h (hf.2.2.2.2.2.2.2.2.2.2.2.2.2.2.2.2.2.2.2.2.2.2.2.2.2.2.2.2.2.2.2.2.2.2.2.2.2.2.2.2.2.2.2.2.2.2.2.2.2.2.2.2.2.2.2.2.2.2.2.2.1 pc)
    | 3, h => exact fz_1k hf hb h (hf.2.2.2.2.2.2.2.2.2.2.2.2.2.2.2.2.2.2.2.2.2.2.2.2.2.2.2.2.2.2.2.2.2.2.2.2.2.2.2.2.2.2.2.2.2.2.2.2.2.2.2.2.2.2.2.2.2.2.2.2.2.1 pc)
  · rename_i k
    match k, h with
    | 0, h => exact fz_1k hf hb h (hf.2.2.2.2.2.2.2.2.2.2.2.2.2.2.2.2.2.2.2.2.2.2.2.2.2.2.2.2.2.2.2.2.2.2.2.2.2.2.2.2.2.2.2.2.2.2.2.2.2.2.2.2.2.2.2.2.2.2.2.2.2.2.1 pc)
    | 1, h => exact fz_1k hf hb h (hf.2.2.2.2.2.2.2.2.2.2.2.2.2.2.2.2.2.2.2.2.2.2.2.2.2.2.2.2.2.2.2.2.2.2.2.2.2.2.2.2.2.2.2.2.2.2.2.2.2.2.2.2.2.2.2.2.2.2.2.2.2.2.2.1 pc)
  · rename_i z
    rw [Bool.and_eq_true, Bool.and_eq_true, decide_eq_true_eq, decide_eq_true_eq] at h
    obtain ⟨z1, z2, h⟩ := h
    have hz : z = -1 ∨ z = 0 ∨ z = 1 ∨ z = 2 ∨ z = 3 ∨ z = 4 ∨ z = 5 := by omega
    rcases hz with rfl | rfl | rfl | rfl | rfl | rfl | rfl
    · exact fz_1k hf hb h (hf.2.2.2.2.2.2.2.2.2.2.2.2.2.2.2.2.2.2.2.2.2.2.2.2.2.2.2.2.2.2.2.2.2.2.2.2.2.2.2.2.2.2.2.2.2.2.2.2.2.2.2.2.2.2.2.2.2.2.2.2.2.2.2.2.1 pc)
    · exact fz_1k hf hb h (hf.2.2.2.2.2.2.2.2.2.2.2.2.2.2.2.2.2.2.2.2.2.2.2.2.2.2.2.2.2.2.2.2.2.2.2.2.2.2.2.2.2.2.2.2.2.2.2.2.2.2.2.2.2.2.2.2.2.2.2.2.2.2.2.2.2.1 pc)
    · exact fz_1k hf hb h (hf.2.2.2.2.2.2.2.2.2.2.2.2.2.2.2.2.2.2.2.2.2.2.2.2.2.2.2.2.2.2.2.2.2.2.2.2.2.2.2.2.2.2.2.2.2.2.2.2.2.2.2.2.2.2.2.2.2.2.2.2.2.2.2.2.2.2.1 pc)
    · exact fz_1k hf hb h (hf.2.2.2.2.2.2.2.2.2.2.2.2.2.2.2.2.2.2.2.2.2.2.2.2.2.2.2.2.2.2.2.2.2.2.2.2.2.2.2.2.2.2.2.2.2.2.2.2.2.2.2.2.2.2.2.2.2.2.2.2.2.2.2.2.2.2.2.1 pc)
    · exact fz_1k hf hb h (hf.2.2.2.2.2.2.2.2.2.2.2.2.2.2.2.2.2.2.2.2.2.2.2.2.2.2.2.2.2.2.2.2.2.2.2.2.2.2.2.2.2.2.2.2.2.2.2.2.2.2.2.2.2.2.2.2.2.2.2.2.2.2.2.2.2.2.2.2.1 pc)
    · exact fz_1k hf hb h (hf.2.2.2.2.2.2.2.2.2.2.2.2.2.2.2.2.2.2.2.2.2.2.2.2.2.2.2.2.2.2.2.2.2.2.2.2.2.2.2.2.2.2.2.2.2.2.2.2.2.2.2.2.2.2.2.2.2.2.2.2.2.2.2.2.2.2.2.2.2.1 pc)
    · exact fz_1k hf hb h (hf.2.2.2.2.2.2.2.2.2.2.2.2.2.2.2.2.2.2.2.2.2.2.2.2.2.2.2.2.2.2.2.2.2.2.2.2.2.2.2.2.2.2.2.2.2.2.2.2.2.2.2.2.2.2.2.2.2.2.2.2.2.2.2.2.2.2.2.2.2.2.1 pc)
  · exact fz_2k (C := .iload) hf hb h (hf.2.2.2.2.2.2.2.2.2.2.2.2.2.2.2.2.2.2.2.2.2.2.2.2.2.2.2.2.2.2.2.2.2.2.2.2.2.2.2.2.2.2.2.2.2.2.2.2.2.2.2.2.2.2.2.2.2.2.2.2.2.2.2.2.2.2.2.2.2.2.2.1 pc) (fun n e => by rw [beq_iff_eq] at e; rw [e])
  · exact fz_2k (C := .lload) hf hb h (hf.2.2.2.2.2.2.2.2.2.2.2.2.2.2.2.2.2.2.2.2.2.2.2.2.2.2.2.2.2.2.2.2.2.2.2.2.2.2.2.2.2.2.2.2.2.2.2.2.2.2.2.2.2.2.2.2.2.2.2.2.2.2.2.2.2.2.2.2.2.2.2.2.1 pc) (fun n e => by rw [beq_iff_eq] at e; rw [e])
  · exact fz_2k (C := .aload) hf hb h (hf.2.2.2.2.2.2.2.2.2.2.2.2.2.2.2.2.2.2.2.2.2.2.2.2.2.2.2.2.2.2.2.2.2.2.2.2.2.2.2.2.2.2.2.2.2.2.2.2.2.2.2.2.2.2.2.2.2.2.2.2.2.2.2.2.2.2.2.2.2.2.2.2.2.1 pc) (fun n e => by rw [beq_iff_eq] at e; rw [e])
  · exact fz_2k (C := .istore) hf hb h (hf.2.2.2.2.2.2.2.2.2.2.2.2.2.2.2.2.2.2.2.2.2.2.2.2.2.2.2.2.2.2.2.2.2.2.2.2.2.2.2.2.2.2.2.2.2.2.2.2.2.2.2.2.2.2.2.2.2.2.2.2.2.2.2.2.2.2.2.2.2.2.2.2.2.2.1 pc) (fun n e => by rw [beq_iff_eq] at e; rw [e])
  · exact fz_2k (C := .lstore) hf hb h (hf.2.2.2.2.2.2.2.2.2.2.2.2.2.2.2.2.2.2.2.2.2.2.2.2.2.2.2.2.2.2.2.2.2.2.2.2.2.2.2.2.2.2.2.2.2.2.2.2.2.2.2.2.2.2.2.2.2.2.2.2.2.2.2.2.2.2.2.2.2.2.2.2.2.2.2.1 pc) (fun n e => by rw [beq_iff_eq] at e; rw [e])
  · exact fz_2k (C := .astore) hf hb h (hf.2.2.2.2.2.2.2.2.2.2.2.2.2.2.2.2.2.2.2.2.2.2.2.2.2.2.2.2.2.2.2.2.2.2.2.2.2.2.2.2.2.2.2.2.2.2.2.2.2.2.2.2.2.2.2.2.2.2.2.2.2.2.2.2.2.2.2.2.2.2.2.2.2.2.2.2.1 pc) (fun n e => by rw [beq_iff_eq] at e; rw [e])
  · exact fz_2k (C := .ldc) hf hb h (hf.2.2.2.2.2.2.2.2.2.2.2.2.2.2.2.2.2.2.2.2.2.2.2.2.2.2.2.2.2.2.2.2.2.2.2.2.2.2.2.2.2.2.2.2.2.2.2.2.2.2.2.2.2.2.2.2.2.2.2.2.2.2.2.2.2.2.2.2.2.2.2.2.2.2.2.2.2.1 pc) (fun n e => by rw [beq_iff_eq] at e; rw [e])
  · exact fz_3k (C := .ldc_w) hf hb h (hf.2.2.2.2.2.2.2.2.2.2.2.2.2.2.2.2.2.2.2.2.2.2.2.2.2.2.2.2.2.2.2.2.2.2.2.2.2.2.2.2.2.2.2.2.2.2.2.2.2.2.2.2.2.2.2.2.2.2.2.2.2.2.2.2.2.2.2.2.2.2.2.2.2.2.2.2.2.2.1 pc) (fun n e => by rw [beq_iff_eq] at e; rw [e])
  · exact fz_3k (C := .ldc2_w) hf hb h (hf.2.2.2.2.2.2.2.2.2.2.2.2.2.2.2.2.2.2.2.2.2.2.2.2.2.2.2.2.2.2.2.2.2.2.2.2.2.2.2.2.2.2.2.2.2.2.2.2.2.2.2.2.2.2.2.2.2.2.2.2.2.2.2.2.2.2.2.2.2.2.2.2.2.2.2.2.2.2.2.1 pc) (fun n e => by rw [beq_iff_eq] at e; rw [e])
  · exact fz_3k (C := .getstatic) hf hb h (hf.2.2.2.2.2.2.2.2.2.2.2.2.2.2.2.2.2.2.2.2.2.2.2.2.2.2.2.2.2.2.2.2.2.2.2.2.2.2.2.2.2.2.2.2.2.2.2.2.2.2.2.2.2.2.2.2.2.2.2.2.2.2.2.2.2.2.2.2.2.2.2.2.2.2.2.2.2.2.2.2.1 pc) (fun n e => by rw [beq_iff_eq] at e; rw [e])
  · exact fz_3k (C := .getfield) hf hb h (hf.2.2.2.2.2.2.2.2.2.2.2.2.2.2.2.2.2.2.2.2.2.2.2.2.2.2.2.2.2.2.2.2.2.2.2.2.2.2.2.2.2.2.2.2.2.2.2.2.2.2.2.2.2.2.2.2.2.2.2.2.2.2.2.2.2.2.2.2.2.2.2.2.2.2.2.2.2.2.2.2.2.1 pc) (fun n e => by rw [beq_iff_eq] at e; rw [e])
  · exact fz_3k (C := .putfield) hf hb h (hf.2.2.2.2.2.2.2.2.2.2.2.2.2.2.2.2.2.2.2.2.2.2.2.2.2.2.2.2.2.2.2.2.2.2.2.2.2.2.2.2.2.2.2.2.2.2.2.2.2.2.2.2.2.2.2.2.2.2.2.2.2.2.2.2.2.2.2.2.2.2.2.2.2.2.2.2.2.2.2.2.2.2.1 pc) (fun n e => by rw [beq_iff_eq] at e; rw [e])
  · exact fz_3k (C := .invokevirtual) hf hb h (hf.2.2.2.2.2.2.2.2.2.2.2.2.2.2.2.2.2.2.2.2.2.2.2.2.2.2.2.2.2.2.2.2.2.2.2.2.2.2.2.2.2.2.2.2.2.2.2.2.2.2.2.2.2.2.2.2.2.2.2.2.2.2.2.2.2.2.2.2.2.2.2.2.2.2.2.2.2.2.2.2.2.2.2.1 pc) (fun n e => by rw [beq_iff_eq] at e; rw [e])
  · exact fz_3k (C := .invokespecial) hf hb h (hf.2.2.2.2.2.2.2.2.2.2.2.2.2.2.2.2.2.2.2.2.2.2.2.2.2.2.2.2.2.2.2.2.2.2.2.2.2.2.2.2.2.2.2.2.2.2.2.2.2.2.2.2.2.2.2.2.2.2.2.2.2.2.2.2.2.2.2.2.2.2.2.2.2.2.2.2.2.2.2.2.2.2.2.2.1 pc) (fun n e => by rw [beq_iff_eq] at e; rw [e])
  · exact fz_3k (C := .invokestatic) hf hb h (hf.2.2.2.2.2.2.2.2.2.2.2.2.2.2.2.2.2.2.2.2.2.2.2.2.2.2.2.2.2.2.2.2.2.2.2.2.2.2.2.2.2.2.2.2.2.2.2.2.2.2.2.2.2.2.2.2.2.2.2.2.2.2.2.2.2.2.2.2.2.2.2.2.2.2.2.2.2.2.2.2.2.2.2.2.2.1 pc) (fun n e => by rw [beq_iff_eq] at e; rw [e])
  · exact fz_3k (C := .new) hf hb h (hf.2.2.2.2.2.2.2.2.2.2.2.2.2.2.2.2.2.2.2.2.2.2.2.2.2.2.2.2.2.2.2.2.2.2.2.2.2.2.2.2.2.2.2.2.2.2.2.2.2.2.2.2.2.2.2.2.2.2.2.2.2.2.2.2.2.2.2.2.2.2.2.2.2.2.2.2.2.2.2.2.2.2.2.2.2.2.1 pc) (fun n e => by rw [beq_iff_eq] at e; rw [e])
  · exact fz_3k (C := .anewarray) hf hb h (hf.2.2.2.2.2.2.2.2.2.2.2.2.2.2.2.2.2.2.2.2.2.2.2.2.2.2.2.2.2.2.2.2.2.2.2.2.2.2.2.2.2.2.2.2.2.2.2.2.2.2.2.2.2.2.2.2.2.2.2.2.2.2.2.2.2.2.2.2.2.2.2.2.2.2.2.2.2.2.2.2.2.2.2.2.2.2.2.1 pc) (fun n e => by rw [beq_iff_eq] at e; rw [e])
  · exact fz_3s (C := .sipush) hf hb h (hf.2.2.2.2.2.2.2.2.2.2.2.2.2.2.2.2.2.2.2.2.2.2.2.2.2.2.2.2.2.2.2.2.2.2.2.2.2.2.2.2.2.2.2.2.2.2.2.2.2.2.2.2.2.2.2.2.2.2.2.2.2.2.2.2.2.2.2.2.2.2.2.2.2.2.2.2.2.2.2.2.2.2.2.2.2.2.2.2.1 pc) (fun n e => by rw [decide_eq_true_eq] at e; rw [e])
  · exact fz_3s (C := .goto) hf hb h (hf.2.2.2.2.2.2.2.2.2.2.2.2.2.2.2.2.2.2.2.2.2.2.2.2.2.2.2.2.2.2.2.2.2.2.2.2.2.2.2.2.2.2.2.2.2.2.2.2.2.2.2.2.2.2.2.2.2.2.2.2.2.2.2.2.2.2.2.2.2.2.2.2.2.2.2.2.2.2.2.2.2.2.2.2.2.2.2.2.2.1 pc) (fun n e => by rw [decide_eq_true_eq] at e; rw [e])
  · exact fz_3s (C := .ifnonnull) hf hb h (hf.2.2.2.2.2.2.2.2.2.2.2.2.2.2.2.2.2.2.2.2.2.2.2.2.2.2.2.2.2.2.2.2.2.2.2.2.2.2.2.2.2.2.2.2.2.2.2.2.2.2.2.2.2.2.2.2.2.2.2.2.2.2.2.2.2.2.2.2.2.2.2.2.2.2.2.2.2.2.2.2.2.2.2.2.2.2.2.2.2.2.1 pc) (fun n e => by rw [decide_eq_true_eq] at e; rw [e])
  · rename_i q z
    cases q with
    | eq => exact fz_3s (C := .ifCond .eq) hf hb h (hf.2.2.2.2.2.2.2.2.2.2.2.2.2.2.2.2.2.2.2.2.2.2.2.2.2.2.2.2.2.2.2.2.2.2.2.2.2.2.2.2.2.2.2.2.2.2.2.2.2.2.2.2.2.2.2.2.2.2.2.2.2.2.2.2.2.2.2.2.2.2.2.2.2.2.2.2.2.2.2.2.2.2.2.2.2.2.2.2.2.2.2.1 pc) (fun n e => by rw [decide_eq_true_eq] at e; rw [e])
    | ne => exact fz_3s (C := .ifCond .ne) hf hb h (hf.2.2.2.2.2.2.2.2.2.2.2.2.2.2.2.2.2.2.2.2.2.2.2.2.2.2.2.2.2.2.2.2.2.2.2.2.2.2.2.2.2.2.2.2.2.2.2.2.2.2.2.2.2.2.2.2.2.2.2.2.2.2.2.2.2.2.2.2.2.2.2.2.2.2.2.2.2.2.2.2.2.2.2.2.2.2.2.2.2.2.2.2.2.1 pc) (fun n e => by rw [decide_eq_true_eq] at e; rw [e])
    | lt => exact fz_3s (C := .ifCond .lt) hf hb h (hf.2.2.2.2.2.2.2.2.2.2.2.2.2.2.2.2.2.2.2.2.2.2.2.2.2.2.2.2.2.2.2.2.2.2.2.2.2.2.2.2.2.2.2.2.2.2.2.2.2.2.2.2.2.2.2.2.2.2.2.2.2.2.2.2.2.2.2.2.2.2.2.2.2.2.2.2.2.2.2.2.2.2.2.2.2.2.2.2.2.2.2.2.2.2.2.1 pc) (fun n e => by rw [decide_eq_true_eq] at e; rw [e])
    | ge => exact fz_3s (C := .ifCond .ge) hf hb h (hf.2.2.2.2.2.2.2.2.2.2.2.2.2.2.2.2.2.2.2.2.2.2.2.2.2.2.2.2.2.2.2.2.2.2.2.2.2.2.2.2.2.2.2.2.2.2.2.2.2.2.2.2.2.2.2.2.2.2.2.2.2.2.2.2.2.2.2.2.2.2.2.2.2.2.2.2.2.2.2.2.2.2.2.2.2.2.2.2.2.2.2.2.2.2.2.2.2.1 pc) (fun n e => by rw [decide_eq_true_eq] at e; rw [e])
    | gt => exact fz_3s (C := .ifCond .gt) hf hb h (hf.2.2.2.2.2.2.2.2.2.2.2.2.2.2.2.2.2.2.2.2.2.2.2.2.2.2.2.2.2.2.2.2.2.2.2.2.2.2.2.2.2.2.2.2.2.2.2.2.2.2.2.2.2.2.2.2.2.2.2.2.2.2.2.2.2.2.2.2.2.2.2.2.2.2.2.2.2.2.2.2.2.2.2.2.2.2.2.2.2.2.2.2.2.2.2.2.2.2.2.1 pc) (fun n e => by rw [decide_eq_true_eq] at e; rw [e])
    | le => exact fz_3s (C := .ifCond .le) hf hb h (hf.2.2.2.2.2.2.2.2.2.2.2.2.2.2.2.2.2.2.2.2.2.2.2.2.2.2.2.2.2.2.2.2.2.2.2.2.2.2.2.2.2.2.2.2.2.2.2.2.2.2.2.2.2.2.2.2.2.2.2.2.2.2.2.2.2.2.2.2.2.2.2.2.2.2.2.2.2.2.2.2.2.2.2.2.2.2.2.2.2.2.2.2.2.2.2.2.2.2.2.2.2.1 pc) (fun n e => by rw [decide_eq_true_eq] at e; rw [e])
  · rename_i q z
    cases q with
    | eq => exact fz_3s (C := .if_icmp .eq) hf hb h (hf.2.2.2.2.2.2.2.2.2.2.2.2.2.2.2.2.2.2.2.2.2.2.2.2.2.2.2.2.2.2.2.2.2.2.2.2.2.2.2.2.2.2.2.2.2.2.2.2.2.2.2.2.2.2.2.2.2.2.2.2.2.2.2.2.2.2.2.2.2.2.2.2.2.2.2.2.2.2.2.2.2.2.2.2.2.2.2.2.2.2.2.2.1 pc) (fun n e => by rw [decide_eq_true_eq] at e; rw [e])
    | ne => exact fz_3s (C := .if_icmp .ne) hf hb h (hf.2.2.2.2.2.2.2.2.2.2.2.2.2.2.2.2.2.2.2.2.2.2.2.2.2.2.2.2.2.2.2.2.2.2.2.2.2.2.2.2.2.2.2.2.2.2.2.2.2.2.2.2.2.2.2.2.2.2.2.2.2.2.2.2.2.2.2.2.2.2.2.2.2.2.2.2.2.2.2.2.2.2.2.2.2.2.2.2.2.2.2.2.2.2.1 pc) (fun n e => by rw [decide_eq_true_eq] at e; rw [e])
    | lt => exact fz_3s (C := .if_icmp .lt) hf hb h (hf.2.2.2.2.2.2.2.2.2.2.2.2.2.2.2.2.2.2.2.2.2.2.2.2.2.2.2.2.2.2.2.2.2.2.2.2.2.2.2.2.2.2.2.2.2.2.2.2.2.2.2.2.2.2.2.2.2.2.2.2.2.2.2.2.2.2.2.2.2.2.2.2.2.2.2.2.2.2.2.2.2.2.2.2.2.2.2.2.2.2.2.2.2.2.2.2.1 pc) (fun n e => by rw [decide_eq_true_eq] at e; rw [e])
    | ge => exact fz_3s (C := .if_icmp .ge) hf hb h (hf.2.2.2.2.2.2.2.2.2.2.2.2.2.2.2.2.2.2.2.2.2.2.2.2.2.2.2.2.2.2.2.2.2.2.2.2.2.2.2.2.2.2.2.2.2.2.2.2.2.2.2.2.2.2.2.2.2.2.2.2.2.2.2.2.2.2.2.2.2.2.2.2.2.2.2.2.2.2.2.2.2.2.2.2.2.2.2.2.2.2.2.2.2.2.2.2.2.2.1 pc) (fun n e => by rw [decide_eq_true_eq] at e; rw [e])
    | gt => exact fz_3s (C := .if_icmp .gt) hf hb h (hf.2.2.2.2.2.2.2.2.2.2.2.2.2.2.2.2.2.2.2.2.2.2.2.2.2.2.2.2.2.2.2.2.2.2.2.2.2.2.2.2.2.2.2.2.2.2.2.2.2.2.2.2.2.2.2.2.2.2.2.2.2.2.2.2.2.2.2.2.2.2.2.2.2.2.2.2.2.2.2.2.2.2.2.2.2.2.2.2.2.2.2.2.2.2.2.2.2.2.2.2.1 pc) (fun n e => by rw [decide_eq_true_eq] at e; rw [e])
    | le => exact fz_3s (C := .if_icmp .le) hf hb h (hf.2.2.2.2.2.2.2.2.2.2.2.2.2.2.2.2.2.2.2.2.2.2.2.2.2.2.2.2.2.2.2.2.2.2.2.2.2.2.2.2.2.2.2.2.2.2.2.2.2.2.2.2.2.2.2.2.2.2.2.2.2.2.2.2.2.2.2.2.2.2.2.2.2.2.2.2.2.2.2.2.2.2.2.2.2.2.2.2.2.2.2.2.2.2.2.2.2.2.2.2.2.2.1 pc) (fun n e => by rw [decide_eq_true_eq] at e; rw [e])
  · exact fz_2s (C := .bipush) hf hb h (hf.2.2.2.2.2.2.2.2.2.2.2.2.2.2.2.2.2.2.2.2.2.2.2.2.2.2.2.2.2.2.2.2.2.2.2.2.2.2.2.2.2.2.2.2.2.2.2.2.2.2.2.2.2.2.2.2.2.2.2.2.2.2.2.2.2.2.2.2.2.2.2.2.2.2.2.2.2.2.2.2.2.2.2.2.2.2.2.2.2.2.2.2.2.2.2.2.2.2.2.2.2.2.2.1 pc) (fun n e => by rw [decide_eq_true_eq] at e; rw [e])
  · exact fz_4k hf hb h
  · exact of_decide_eq_true h
/-- a block: its bytes are walked once -/
def fz_n (cc : ByteArray) : Nat → List UInt8 → List ai_E → Bool
  | 0, _, _ => true
  | k + 1, bs, en :: rest => (fz_i cc en.1 en.2.1 bs en.2.2.1 && ((ai_len en.2.1 == 0 || en.2.2.1 == ai_len en.2.1) && match en.2.1 with
  | .goto off => decide (0 ≤ (en.1 : Int) + off)
  | .ifCond _ off => decide (0 ≤ (en.1 : Int) + off)
  | .if_icmp _ off => decide (0 ≤ (en.1 : Int) + off)
  | .ifnonnull off => decide (0 ≤ (en.1 : Int) + off)
  | .tableswitch dflt _ _ offs => decide (0 ≤ (en.1 : Int) + dflt) && offs.toList.all (fun off => decide (0 ≤ (en.1 : Int) + off))
  | .lookupswitch dflt ps => decide (0 ≤ (en.1 : Int) + dflt) && ps.toList.all (fun q => decide (0 ≤ (en.1 : Int) + q.2))
  | _ => true)) && ((match rest with
    | en2 :: _ => en2.1 == en.1 + en.2.2.1
    | [] => true) && fz_n cc k (bs.drop en.2.2.1) rest)
  | _ + 1, _, [] => false
theorem fz_n_ok {md : ai_MD} : ∀ (k : Nat) (bs : List UInt8) (l : List ai_E), (∀ en r, l = en :: r → md.2.2.1.data.toList.drop en.1 = bs) → fz_n md.2.2.1 k bs l = true → ai_ckn md k l = true
  | 0, _, _, _, _ => rfl
  | k + 1, bs, en :: rest, hb, h => by
    unfold fz_n at h
    rw [Bool.and_eq_true] at h
    obtain ⟨h12, h34⟩ := h
    rw [Bool.and_eq_true] at h12 h34
    obtain ⟨h1, h2⟩ := h12
    obtain ⟨h3, h4⟩ := h34
    have hd := fz_ok (hb en rest rfl) h1
    unfold ai_ckn
    rw [Bool.and_eq_true, Bool.and_eq_true]
    refine ⟨?_, h3, fz_n_ok k _ rest (fun en2 r e => ?_) h4⟩
    · unfold ai_dkB
      rw [Bool.and_eq_true, decide_eq_true_eq]
      exact ⟨hd, h2⟩
    · subst e
      have e2 : en2.1 = en.1 + en.2.2.1 := by simpa using h3
      rw [e2, ← List.drop_drop, hb en _ rfl]
  | _ + 1, _, [], _, h => by cases h
def fz_k (md : ai_MD) (k : Nat) (l : List ai_E) : Bool := match l with
  | en :: _ => fz_n md.2.2.1 k (md.2.2.1.data.toList.drop en.1) l
  | [] => k == 0
theorem fz_k_ok {T : Nat → ai_MD} {md : ai_MD} (k : Nat) (l : List ai_E) (h : fz_k md k l = true) (hw : ai_wds T md k l) (hr : ai_codeok T md (l.drop k)) : ai_codeok T md l := by
  refine ai_ckn_ok k l ?_ hw hr
  unfold fz_k at h
  split at h
  · rename_i en r
    exact fz_n_ok k _ _ (fun en2 r2 e => by cases e; rfl) h
  · rw [beq_iff_eq] at h
    subst h
    rfl
theorem ai_hit3_ok {tbl : List Jvm.Cond} (hs : ∀ w ∈ tbl, w ∈ lw_tbl) {n : Nat} {w : Jvm.Cond} (h : tbl[n]? = some w) (hg : goodWord w = true) : w ∈ ai_tb := List.mem_filter.mpr ⟨hs _ (List.mem_of_getElem? h), hg⟩
