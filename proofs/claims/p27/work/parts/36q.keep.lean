/-! ===== who keeps the counts ===== -/
def la_endN (W' : ai_W) (o : ai_O) : Bool := (match o.2.2.2.1 with
  | [v] => ai_isI v
  | _ => false) && ai_all2 (ai_sbc o.2.1 26 []) o.2.2.2.2.1 W'
def la_ΦN (sb : ai_SB) (W' : ai_W) (n : Nat → Int) : Int32 → va_W → List (ClassId × FieldType) → Prop := fun _ ws1 tys1 => ai_ws (nv n) sb tys1 W' ws1
theorem la_undN {σ : ai_Rh} {sb : ai_SB} {G : ai_G} {tys : List (ClassId × FieldType)} {ws : va_W} {aw W' : ai_W} {n : Nat → Int} (hs : ai_le (nv n) σ) (hG : ai_gok σ G) (h : ai_all2 (ai_sbc G 26 []) aw W' = true) (hm : ai_ws σ sb tys aw ws) : ai_ws (nv n) sb tys W' ws := ai_sbw_ok (nG := 26) (cvs := []) (us := []) hG (fun t z ht hz => by
  have h1 := hs t (n t) (nv_lt ht)
  rw [h1] at hz
  cases hz
  exact nv_lt ht) trivial (fun j u hj => by simp at hj) h hm
abbrev la_MeN (md : ai_MD) (l : Launch) (sb : ai_SB) (D : va_G) (ws : va_W) (tys : List (ClassId × FieldType)) (vs : List Value) (sz : Nat) (W' : ai_W) (n : Nat → Int) : Prop := Met l md.2.1 (Jvm.Cond.code md.2.1 md.2.2.1 md.2.2.2.1 md.2.2.2.2.1 :: ai_tb) md.2.2.2.2.2.2.1 (ai_Pc D ws tys vs sz) (la_G D ws (la_ΦN sb W' n) (va_A ws sz)) md.2.2.2.2.2.2.1.cells md.2.2.2.2.2.2.1.slots (va_A ws sz)
theorem la_ofN {md : ai_MD} {sb : ai_SB} {as : List ai_V} {aw W' : ai_W} {outs : List ai_O} {n : Nat → Int} (h : ai_cs md 0 sb nv_G as aw outs) (hall : outs.all (la_endN W') = true) (hn : ai_gok (nv n) nv_G) (l : Launch) {D : va_G} {ws : va_W} {tys : List (ClassId × FieldType)} {vs : List Value} (sz : Nat) (has : ai_F2 (ai_mt (nv n) sb (ws.map Prod.fst)) as vs) (hws : ai_ws (nv n) sb tys aw ws) : la_MeN md l sb D ws tys vs sz W' n := by
  have M := h (nv n) l D ws tys vs sz (fun _ _ h => absurd h (by decide)) hn has hws
  refine MetFree.mono M (fun _ _ h => h) (fun _ _ _ _ _ h => h) (fun a st oc t hP hQ => ⟨?_, hQ.2⟩)
  obtain ⟨⟨o, ho, σ, d1, d2, rv, ws1, tys1, y, f1, f2, f3, f4, f5, f6, f7⟩, hFr⟩ := hQ.1
  have he := List.all_eq_true.mp hall o ho
  unfold la_endN at he
  rw [Bool.and_eq_true] at he
  obtain ⟨he1, he2⟩ := he
  split at he1
  · rename_i v hv
    rw [hv] at f3
    obtain ⟨u, r, hrv, mu, hn'⟩ := f3.cons
    obtain ⟨z, rfl, -⟩ := ai_int d2 mu he1
    rw [hn'.nil] at hrv
    refine ⟨⟨z, ws1, tys1, y, ?_, f2, f4, f5, f6, la_undN d1 d2 he2 f7⟩, hFr⟩
    rw [f1]
    cases rv with
    | none => cases hrv
    | some w =>
      cases hrv
      rfl
  · cases he1
def la_chkN (ct : ai_Ct) (k : Nat) (W W' : ai_W) : Bool := match ai_use ct nv_G (la_as k) W with
  | some q => q.2.all (la_endN W')
  | none => false
def la_CN (md : ai_MD) (k : Nat) (W W' : ai_W) : Prop := ∀ (sb : ai_SB) (l : Launch) (D : va_G) (ws : va_W) (tys : List (ClassId × FieldType)) (xs : List Int32) (b sz : Nat) (n : Nat → Int), ai_gok (nv n) nv_G → xs.length = k → (ws.map Prod.fst)[0]? = some b → ai_ws (nv n) sb tys W ws → la_MeN md l sb D ws tys (.ref b :: xs.map .int) sz W' n
theorem la_ctN {ctf : Nat → ai_Ct} {ctk : Nat → Nat} {i k : Nat} {W W' : ai_W} (h : ∀ sb, ct_ok ctf ctk sb i) (hc : la_chkN (ctf i) k W W' = true) : la_CN (ai_sr' (ai_T (ctk i)) (ctf i).2.2.2.2.2.2) k W W' := by
  intro sb l D ws tys xs b sz n hn hk hb hws
  obtain ⟨outs0, h1, h2⟩ := h sb
  unfold la_chkN at hc
  split at hc
  · rename_i q hq
    obtain ⟨e1, e2⟩ := ai_use_ok (by decide) h1 h2 hq
    exact la_ofN e2 hc hn l sz ⟨⟨b, hb, rfl⟩, la_ints hk⟩ hws
  · cases hc
/-- those that change a count -/
def pc_x : List Nat := [343, 307, 309, 322, 315, 342]
/-- walked alone: wish, clear, span, terms -/
def pw_c : List Nat := [360, 313, 351, 354]
def px_c : List Nat := pc_x ++ pw_c
def pcn_ok (q : Nat × Nat) : Bool := px_c.contains q.1 || la_chkN (zz_ctf q.2) (pk_np q.1) zz_WN zz_WN
set_option maxRecDepth 100000 in
theorem pcn_all : pc_l.all pcn_ok = true := by decide +kernel
/-- the class's ends of these six -/
def pn_fnd (K : Nat) (as : List ai_V) : Option Nat := bif K == 224 then none else zz_fnd K as
def pn_G (k : Nat) : ai_G := nv_G ++ List.replicate k (-2147483648, 2147483647, 0)
def pn_as (k : Nat) : List ai_V := (4, 0, 0, 0) :: (List.range k).map fun j => (2, 26 + j, 0, 1)
noncomputable def pn_run (K : Nat) : Option (List ai_O) := af_ex (ai_Tr ai_T (zz_fr zz_bo)) ai_B1 (ai_hr pn_fnd zz_ctf 226) zz_N 0 20000 K [] (ai_B1 K 0) (pn_G (pk_np K)) (ai_arg 0 (pn_as (pk_np K)), [], zz_WN, 0, 0)
noncomputable def pw_run (K : Nat) : Option (List ai_O) := af_ex (ai_Tr ai_T (zz_fr zz_bo)) ai_B1 iw_h iw_N 0 20000 K [] (ai_B1 K 0) (pn_G (pk_np K)) (ai_arg 0 (pn_as (pk_np K)), [], zz_WN, 0, 0)
noncomputable def pn_all (K : Nat) : Option (List ai_O) := bif pw_c.contains K then pw_run K else pn_run K
/-- a field, a place of an array -/
def pn_fj (W : ai_W) (k j : Nat) : ai_V := match W[k]? with
  | some (.inl (_, fs)) => fs.getD j (5, 0, 0, 0)
  | _ => (5, 0, 0, 0)
def pn_oj (W : ai_W) (k p : Nat) : ai_V := match W[k]? with
  | some (.inr (0, n, d, ov)) => bif Nat.blt p n then ai_look d ov p else (5, 0, 0, 0)
  | _ => (5, 0, 0, 0)
def pn_six (W : ai_W) : List ai_V := [2, 14, 16, 18, 22, 20].map (fun k => pn_fj W k 3) ++ pn_fj W 53 4 :: (List.range 7).map (pn_oj W 54)
def px_t : List ai_V := (List.range 12).map fun t => (2, t + 6, 0, 1)
def px_cv (six : ai_W → List ai_V) (o : ai_O) : List ai_V := (six o.2.2.2.2.1).take 6 ++ (px_t ++ (six o.2.2.2.2.1).drop 6)
def pn_ec (W' : ai_W) (cvs : List ai_V) (o : ai_O) : Bool := (match o.2.2.2.1 with
  | [(2, _, _, _)] => true
  | [(0, _, _, _)] => true
  | _ => false) && (cvs.all (fun v => v.1 == 0 || v.1 == 2) && (ai_nchk o.2.1 cvs nv_G && ai_all2 (ai_sbc o.2.1 0 cvs) o.2.2.2.2.1 W'))
set_option maxRecDepth 100000 in
theorem pn_k : pc_x.all (fun K => iw_all (pn_run K) fun o => pn_ec zz_WN (px_cv pn_six o) o) = true := by decide +kernel
set_option maxRecDepth 100000 in
theorem pw_k : pw_c.all (fun K => iw_all (pw_run K) fun o => pn_ec zz_WN (px_cv pn_six o) o) = true := by decide +kernel
