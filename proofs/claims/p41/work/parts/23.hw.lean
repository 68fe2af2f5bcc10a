/-! ===== what must hold ahead of code, with a heap: for methods that are proved by hand ===== -/
/-- a value, or the cell of that number -/
abbrev hw_V : Type := Value ⊕ Nat
abbrev hw_L : Type := List (Nat × hw_V)
/-- a cell: its class and fields; or an array: its kind (0 int, 1 long, 2 boolean), length, contents -/
abbrev hw_C : Type := (Nat × List hw_V) ⊕ (Nat × vp_A)
abbrev hw_W : Type := List hw_C
def hw_v (ad : List Nat) (v : hw_V) : Value := match v with
  | .inl v => v
  | .inr k => .ref (ad.getD k 0)
def hw_ft (k : Nat) : FieldType := match k with
  | 0 => .int
  | 1 => .long
  | _ => .boolean
def hw_mc (ad : List Nat) (tys : List (ClassId × FieldType)) (c : hw_C) (e : va_E) : Prop := match c with
  | .inl (ci, fs) => e = .inr (ci, fs.map (hw_v ad))
  | .inr (k, a) => ∃ (cA : ClassId) (t0 : Nat), e = .inl (cA, a) ∧ tys[t0]? = some (cA, hw_ft k)
def hw_ws (tys : List (ClassId × FieldType)) (X : hw_W) (ws : va_W) : Prop := X.length = ws.length ∧ ∀ (k : Nat) (c : hw_C), X[k]? = some c → ∃ q : Nat × va_E, ws[k]? = some q ∧ hw_mc (ws.map Prod.fst) tys c q.2
theorem hw_at {tys : List (ClassId × FieldType)} {X : hw_W} {ws : va_W} {k : Nat} {c : hw_C} (h : hw_ws tys X ws) (hk : X[k]? = some c) : ∃ (a : Nat) (e : va_E), ws[k]? = some (a, e) ∧ hw_v (ws.map Prod.fst) (.inr k) = .ref a ∧ hw_mc (ws.map Prod.fst) tys c e := by
  obtain ⟨⟨a, e⟩, h1, h2⟩ := h.2 k c hk
  refine ⟨a, e, h1, ?_, h2⟩
  show Value.ref ((ws.map Prod.fst).getD k 0) = .ref a
  rw [List.getD_eq_getElem?_getD, List.getElem?_map, h1]
  rfl
theorem hw_set {tys : List (ClassId × FieldType)} {X : hw_W} {ws : va_W} {k a : Nat} {e e1 : va_E} {c1 : hw_C} (h : hw_ws tys X ws) (hk : ws[k]? = some (a, e)) (hc : hw_mc (ws.map Prod.fst) tys c1 e1) : hw_ws tys (X.set k c1) (ws.set k (a, e1)) := by
  have hf : (ws.set k (a, e1)).map Prod.fst = ws.map Prod.fst := ai_fst_set hk
  refine ⟨by rw [List.length_set, List.length_set]; exact h.1, fun i c hi => ?_⟩
  rw [hf]
  by_cases ei : k = i
  · subst ei
    have hl : k < ws.length := (List.getElem?_eq_some_iff.mp hk).1
    rw [List.getElem?_set_self (by rw [h.1]; exact hl)] at hi
    cases hi
    exact ⟨(a, e1), List.getElem?_set_self hl, hc⟩
  · rw [List.getElem?_set_ne ei] at hi
    obtain ⟨q, h1, h2⟩ := h.2 i c hi
    exact ⟨q, by rw [List.getElem?_set_ne ei]; exact h1, h2⟩
section HWA
variable {p : Program} {l : Launch} {e : Env} {R : Room} {s : State} {m : MethodId} {args : Array Value} {below : List Frame} {meth : Method} {c : Code} {H : Heap} {locs : List Loc} {Q : State → Prop} {D : va_G} {A : Nat → Prop} {ad : List Nat} {tys : List (ClassId × FieldType)} {cs ss : Nat}
/-- every state of the machine with these locals, this stack, this world goes on -/
def hw_K (p : Program) (l : Launch) (e : Env) (R : Room) (s : State) (m : MethodId) (args : Array Value) (below : List Frame) (meth : Method) (c : Code) (Q : State → Prop) (D : va_G) (A : Nat → Prop) (nL : Nat) (ad : List Nat) (tys : List (ClassId × FieldType)) (cs ss pc : Nat) (lv : hw_L) (st : List hw_V) (X : hw_W) : Prop :=
  ∀ (ls : Array Slot) (H : Heap) (locs : List Loc) (ws : va_W), ws.map Prod.fst = ad → lv_has ls nL (lv.map fun q => (q.1, hw_v ad q.2)) → va_P D vwCl ws H → va_D A ws → va_K D vwCl tys s → va_S A s.heap H locs → hw_ws tys X ws → W p l e R s m args below meth c H locs cs ss Q (F0 m pc ls (st.map (hw_v ad)))
end HWA
