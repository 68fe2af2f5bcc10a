/-! ===== the bridge for the class: a world gives a state in whole numbers, and back ===== -/
def cg_S (ws : va_W) : hs_S := (fun x => match ws[x / 64]? with
  | some q => (match bg_S.vsOf q.2 (x % 64) with
    | some u => bg_n u
    | none => 0)
  | none => 0, (bg_S ws).2)
theorem cg_S2 {ws : va_W} {k : Nat} {q : Nat × va_E} (h : ws[k]? = some q) (j : Nat) : (cg_S ws).2 k j = bg_A q.2 j := bg_S2 h j
theorem cg_S1 {ws : va_W} {a ci k : Nat} {vs : List Value} {j : Nat} {u : Value} (hj : j < 64) (h : ws[k]? = some (a, .inr (ci, vs))) (hu : vs[j]? = some u) : (cg_S ws).1 (64 * k + j) = bg_n u := by
  show (match ws[(64 * k + j) / 64]? with
  | some q => (match bg_S.vsOf q.2 ((64 * k + j) % 64) with
    | some u => bg_n u
    | none => 0)
  | none => 0) = _
  rw [show (64 * k + j) / 64 = k by omega, show (64 * k + j) % 64 = j by omega, h]
  show (match vs[j]? with
    | some u => bg_n u
    | none => 0) = _
  rw [hu]
def cg_wo (G : ai_G) (q : Nat × List (Nat × Int)) (x : ai_C) : Bool := match x with
  | .inl (ci, fs) => ci == q.1 && bg_a2 (bg_f G) q.2 fs
  | _ => false
def cg_wa (c : Option (Nat × Nat)) (x : ai_C) : Bool := match c with
  | some c => !(c.1 == 7) && bg_c c x
  | none => false
def cg_wk (G : ai_G) (W : ai_W) (k : Nat) : Bool := match W[k]? with
  | none => false
  | some x => match hc_ob k with
    | some q => cg_wo G q x
    | none => cg_wa hc_sh[k]? x
def cg_w (G : ai_G) (W : ai_W) : Bool := W.length == 72 && (List.range 72).all (cg_wk G W)
theorem cg_len {G : ai_G} {W : ai_W} (h : cg_w G W = true) : W.length = 72 := by
  unfold cg_w at h
  rw [Bool.and_eq_true, beq_iff_eq] at h
  exact h.1
theorem cg_at {G : ai_G} {W : ai_W} (h : cg_w G W = true) {k : Nat} (hk : k < 72) : cg_wk G W k = true := by
  unfold cg_w at h
  rw [Bool.and_eq_true] at h
  exact List.all_eq_true.mp h.2 k (List.mem_range.mpr hk)
theorem cg_o {G : ai_G} {W : ai_W} (h : cg_w G W = true) {k : Nat} {q : Nat × List (Nat × Int)} (hq : hc_ob k = some q) : ∃ fs, W[k]? = some (.inl (q.1, fs)) ∧ bg_a2 (bg_f G) q.2 fs = true := by
  have g := cg_at h (hc_72 hq)
  unfold cg_wk at g
  cases hx : W[k]? with
  | none => rw [hx] at g; cases g
  | some x =>
    rw [hx] at g
    dsimp only at g
    rw [hq] at g
    dsimp only at g
    unfold cg_wo at g
    split at g
    · rename_i ci fs
      rw [Bool.and_eq_true, beq_iff_eq] at g
      obtain ⟨rfl, g⟩ := g
      exact ⟨fs, rfl, g⟩
    · cases g
theorem cg_a {G : ai_G} {W : ai_W} (h : cg_w G W = true) {k : Nat} (hk : k < 72) (hq : hc_ob k = none) : ∃ c x, hc_sh[k]? = some c ∧ ¬ c.1 = 7 ∧ W[k]? = some x ∧ bg_c c x = true := by
  have g := cg_at h hk
  unfold cg_wk at g
  cases hx : W[k]? with
  | none => rw [hx] at g; cases g
  | some x =>
    rw [hx] at g
    dsimp only at g
    rw [hq] at g
    dsimp only at g
    unfold cg_wa at g
    cases hc : hc_sh[k]? with
    | none => rw [hc] at g; cases g
    | some c =>
      rw [hc] at g
      dsimp only at g
      rw [Bool.and_eq_true, Bool.not_eq_true', beq_eq_false_iff_ne] at g
      exact ⟨c, x, rfl, g.1, rfl, g.2⟩
def cg_n (k : Nat) : Bool := match hc_sh[k]? with
  | some c => c.1 == 7 || (hc_ob k).isNone
  | none => true
theorem cg_na : (List.range 72).all cg_n = true := by decide +kernel
theorem cg_nn {k : Nat} {c : Nat × Nat} (hk : hc_sh[k]? = some c) (h7 : ¬ c.1 = 7) : k < 72 ∧ hc_ob k = none := by
  have hk72 : k < 72 := (List.getElem?_eq_some_iff.mp hk).1
  refine ⟨hk72, ?_⟩
  have g := List.all_eq_true.mp cg_na k (List.mem_range.mpr hk72)
  unfold cg_n at g
  rw [hk] at g
  dsimp only at g
  rw [beq_eq_false_iff_ne.mpr h7, Bool.false_or] at g
  cases e : hc_ob k with
  | none => rfl
  | some q => rw [e] at g; cases g
theorem cg_ok {ρ : ai_Rh} {sb : ai_SB} {G : ai_G} {W : ai_W} {tys : List (ClassId × FieldType)} {ws : va_W} (h : cg_w G W = true) (hG : ai_gok ρ G) (hW : ai_ws ρ sb tys W ws) : hc_ok sb.2 hc_sh tys (cg_S ws) ws := by
  refine ⟨by rw [← hW.1, cg_len h], fun k q hq => ?_, fun k c hk h7 => ?_, fun k c hk h7 => (cg_nn hk h7).2⟩
  · obtain ⟨fs, e3, hf⟩ := cg_o h hq
    obtain ⟨r, hr, vs, hvs, hF⟩ := hW.2 k _ e3
    have hr' : ws[k]? = some (r.1, .inr (q.1, vs)) := by rw [hr, ← hvs]
    refine ⟨r.1, vs, hr', by rw [← hF.len, ← bg_a2_len hf], fun j fk hj => ?_⟩
    obtain ⟨w, hw, hb⟩ := bg_a2_get hf hj
    obtain ⟨u, hu, hm⟩ := hF.get hw
    have hj64 : j < 64 := by
      have h1 := (List.getElem?_eq_some_iff.mp hj).1
      have h2 := hc_len hq
      omega
    have e := cg_S1 hj64 hr' hu
    obtain ⟨g1, g2⟩ := bg_f_ok hG hb hm
    exact ⟨u, hu, by rw [e]; exact g1, by rw [e]; exact g2⟩
  · obtain ⟨hk72, hn⟩ := cg_nn hk h7
    obtain ⟨c', x, e1, -, e3, e4⟩ := cg_a h hk72 hn
    rw [hk] at e1
    cases e1
    obtain ⟨r, hr, hm⟩ := hW.2 k x e3
    exact ⟨r.1, r.2, hr, bg_c_ok e4 hm (fun j => cg_S2 hr j)⟩
/-- a field of a world's cell -/
def cg_fw (W : ai_W) (k j : Nat) : Option ai_V := match W[k]? with
  | some (.inl (_, fs)) => fs[j]?
  | _ => none
theorem cg_st {ρ : ai_Rh} {sb : ai_SB} {G : ai_G} {W : ai_W} {tys : List (ClassId × FieldType)} {ws : va_W} (h : cg_w G W = true) (hW : ai_ws ρ sb tys W ws) {k j : Nat} {q : Nat × List (Nat × Int)} {w : ai_V} (hq : hc_ob k = some q) (hj : cg_fw W k j = some w) (ht : bg_ft w = true) : bg_fd ρ (cg_S ws) (64 * k + j) w := by
  obtain ⟨fs, e3, hf⟩ := cg_o h hq
  obtain ⟨r, hr, vs, hvs, hF⟩ := hW.2 k _ e3
  have hr' : ws[k]? = some (r.1, .inr (q.1, vs)) := by rw [hr, ← hvs]
  unfold cg_fw at hj
  rw [e3] at hj
  have hj : fs[j]? = some w := hj
  obtain ⟨u, hu, hm⟩ := hF.get hj
  have hj64 : j < 64 := by
    have h1 := (List.getElem?_eq_some_iff.mp hj).1
    have h2 := hc_len hq
    have h3 := bg_a2_len hf
    omega
  have e := cg_S1 hj64 hr' hu
  obtain ⟨n, t, l, m⟩ := w
  unfold bg_ft at ht
  simp only [Bool.or_eq_true, Bool.and_eq_true, beq_iff_eq, decide_eq_true_eq] at ht
  rcases ht with rfl | rfl | rfl | ⟨rfl | rfl, rfl, rfl⟩
  · obtain ⟨x, rfl, h1, h2⟩ := hm
    intro _
    rw [e]
    exact ⟨h1, h2⟩
  · obtain ⟨x, rfl, h1, h2⟩ := hm
    intro _
    rw [e]
    exact ⟨h1, h2⟩
  · trivial
  · obtain ⟨x, z, rfl, h1, h2⟩ := hm
    refine ⟨⟨rfl, rfl⟩, ?_⟩
    rw [e, h1]
    show some z = some x.toInt
    congr 1
    omega
  · obtain ⟨x, z, rfl, h1, h2⟩ := hm
    refine ⟨⟨rfl, rfl⟩, ?_⟩
    rw [e, h1]
    show some z = some x.toInt
    congr 1
    omega
theorem cg_fm {σ : ai_Rh} {sb : ai_SB} {ad : List Nat} {G : ai_G} {fk : Nat × Int} {w : ai_V} {u : Value} {S : hs_S} {p : Nat} (hb : bg_f G fk w = true) (hm : hs_vm ad (hs_fv fk (S.1 p)) u) (hfd : bg_fd σ S p w) : ai_mt σ sb ad w u := by
  unfold bg_f at hb
  obtain ⟨n, t, lo, hi⟩ := w
  split at hb
  · obtain ⟨x, rfl, hx⟩ := hm
    have hx' : x.toInt = S.1 p := hx
    unfold bg_fd at hfd
    match n, hb, hfd with
    | 0, _, hfd => exact ⟨x, rfl, by rw [hx']; exact hfd (by rw [← hx']; exact i32_of x)⟩
    | 2, _, hfd =>
      obtain ⟨⟨rfl, rfl⟩, h2⟩ := hfd
      exact ⟨x, S.1 p, rfl, h2, by omega⟩
    | 1, hb, _ => cases hb
    | 3, hb, _ => cases hb
    | 4, hb, _ => cases hb
    | 5, hb, _ => cases hb
    | 6, _, hfd => exact hfd.elim
    | 7, hb, _ => cases hb
    | 8, _, hfd => exact hfd.elim
    | 9, _, hfd => exact hfd.elim
    | n + 10, _, hfd => exact hfd.elim
  · obtain ⟨x, rfl, hx⟩ := hm
    have hx' : x.toInt = S.1 p := hx
    unfold bg_fd at hfd
    match n, hb, hfd with
    | 1, _, hfd => exact ⟨x, rfl, by rw [hx']; exact hfd (by rw [← hx']; exact i64_of x)⟩
    | 3, _, hfd =>
      obtain ⟨⟨rfl, rfl⟩, h2⟩ := hfd
      exact ⟨x, S.1 p, rfl, h2, by omega⟩
    | 0, hb, _ => cases hb
    | 2, hb, _ => cases hb
    | 4, hb, _ => cases hb
    | n + 5, hb, _ => cases hb
  · obtain ⟨x, rfl, hx⟩ := hm
    have hx' : x.toInt = S.1 p := hx
    rw [Bool.and_eq_true] at hb
    have hb := hb.1
    unfold bg_fd at hfd
    match n, hb, hfd with
    | 0, _, hfd => exact ⟨x, rfl, by rw [hx']; exact hfd (by rw [← hx']; exact i32_of x)⟩
    | 2, _, hfd =>
      obtain ⟨⟨rfl, rfl⟩, h2⟩ := hfd
      exact ⟨x, S.1 p, rfl, h2, by omega⟩
    | 1, hb, _ => cases hb
    | 3, hb, _ => cases hb
    | 4, hb, _ => cases hb
    | 5, hb, _ => cases hb
    | 6, _, hfd => exact hfd.elim
    | 7, hb, _ => cases hb
    | 8, _, hfd => exact hfd.elim
    | 9, _, hfd => exact hfd.elim
    | n + 10, _, hfd => exact hfd.elim
  · simp only [Bool.and_eq_true, beq_iff_eq] at hb
    obtain ⟨h4, h5⟩ := hb
    subst h4 h5
    obtain ⟨q, g1, rfl⟩ := hm
    exact ⟨q, g1, rfl⟩
  · cases hb
/-- a state in whole numbers comes back to a world -/
theorem cg_bk {σ : ai_Rh} {sb : ai_SB} {G : ai_G} {W : ai_W} {tys : List (ClassId × FieldType)} {S : hs_S} {ws : va_W} (hw : cg_w G W = true) (hs : hc_ok sb.2 hc_sh tys S ws) (hd : ∀ k x, k < 72 → hc_ob k = none → W[k]? = some x → bh_d σ sb S k x) (hf : ∀ k q j fk w, hc_ob k = some q → j < 64 → q.2[j]? = some fk → cg_fw W k j = some w → (fk.1 = 2 → S.1 (64 * k + j) = 0 ∨ S.1 (64 * k + j) = 1) → bg_fd σ S (64 * k + j) w) : ai_ws σ sb tys W ws := by
  refine ⟨by rw [hs.1, cg_len hw], fun k c hk => ?_⟩
  have hk72 : k < 72 := by
    have := (List.getElem?_eq_some_iff.mp hk).1
    rw [cg_len hw] at this
    exact this
  cases hq : hc_ob k with
  | some q =>
    obtain ⟨fs, e1, hF⟩ := cg_o hw hq
    rw [hk] at e1
    cases e1
    obtain ⟨a, vs, ha, hl, ho⟩ := hs.2.1 k q hq
    refine ⟨_, ha, vs, rfl, ai_F2of (by rw [← bg_a2_len hF, hl]) (fun j w hj => ?_)⟩
    have hjl : j < q.2.length := by
      rw [bg_a2_len hF]
      exact (List.getElem?_eq_some_iff.mp hj).1
    have hfk : q.2[j]? = some (q.2[j]'hjl) := List.getElem?_eq_getElem hjl
    obtain ⟨w', hw', hb⟩ := bg_a2_get hF hfk
    rw [hj] at hw'
    cases hw'
    obtain ⟨u, hu, hm, hbool⟩ := ho j _ hfk
    exact ⟨u, hu, cg_fm hb hm (hf k q j _ w hq (Nat.lt_of_lt_of_le hjl (hc_len hq)) hfk (by unfold cg_fw; rw [hk]; exact hj) hbool)⟩
  | none =>
    obtain ⟨c', x, e1, e2, e3, e4⟩ := cg_a hw hk72 hq
    rw [hk] at e3
    cases e3
    obtain ⟨a, e, ha, har⟩ := hs.2.2.1 k c' e1 e2
    exact ⟨_, ha, bh_mc e4 har (hd k c hk72 hq hk)⟩
/-- an int field holds an int -/
theorem cg_i32 {ex : Nat → va_E} {tys : List (ClassId × FieldType)} {S : hs_S} {ws : va_W} (hs : hc_ok ex hc_sh tys S ws) {k j : Nat} {q : Nat × List (Nat × Int)} {c : Int} (hq : hc_ob k = some q) (hj : q.2[j]? = some (0, c)) : i32 (S.1 (64 * k + j)) := by
  obtain ⟨a, vs, -, -, ho⟩ := hs.2.1 k q hq
  obtain ⟨u, -, ⟨x, -, hx⟩, -⟩ := ho j _ hj
  rw [← (show x.toInt = S.1 (64 * k + j) from hx)]
  exact i32_of x
/-- an array's numbers are those of the state -/
theorem cg_ar {ex : Nat → va_E} {tys : List (ClassId × FieldType)} {S : hs_S} {ws : va_W} (hs : hc_ok ex hc_sh tys S ws) {k n : Nat} (hk : hc_sh[k]? = some (0, n)) : ∀ j, j < n → (bg_S ws).2 k j = S.2 k j := by
  obtain ⟨a, e, ha, cA, f, t0, rfl, -, h⟩ := hs.2.2.1 k (0, n) hk (by show ¬ (0 : Nat) = 7; decide)
  intro j hj
  rw [bg_S2 ha j, ← h j hj]
  rfl
