/-! ===== numbers in bounds, names (tokens) for numbers, cells of these: what a state of the machine is held to be ===== -/
abbrev ai_V : Type := Nat × Nat × Int × Int
abbrev ai_C : Type := (Nat × List ai_V) ⊕ (Nat × Nat × ai_V × List (Nat × ai_V))
abbrev ai_W : Type := List ai_C
abbrev ai_G : Type := List (Int × Int)
abbrev ai_L : Type := List (Nat × ai_V)
def ai_F2 {α β : Type} (R : α → β → Prop) : List α → List β → Prop
  | [], [] => True
  | a :: as, b :: bs => R a b ∧ ai_F2 R as bs
  | _, _ => False
theorem ai_F2.cons {α β : Type} {R : α → β → Prop} {a : α} {as : List α} {l : List β} (h : ai_F2 R (a :: as) l) : ∃ b bs, l = b :: bs ∧ R a b ∧ ai_F2 R as bs := by
  cases l with
  | nil => exact h.elim
  | cons b bs => exact ⟨b, bs, rfl, h.1, h.2⟩
theorem ai_F2.nil {α β : Type} {R : α → β → Prop} {l : List β} (h : ai_F2 R [] l) : l = [] := by
  cases l with
  | nil => rfl
  | cons b bs => exact h.elim
theorem ai_F2.mono {α β : Type} {R S : α → β → Prop} (hR : ∀ a b, R a b → S a b) : ∀ {l1 : List α} {l2 : List β}, ai_F2 R l1 l2 → ai_F2 S l1 l2
  | [], [], _ => trivial
  | _ :: _, _ :: _, h => ⟨hR _ _ h.1, ai_F2.mono hR h.2⟩
  | [], _ :: _, h => h.elim
  | _ :: _, [], h => h.elim
theorem ai_F2.len {α β : Type} {R : α → β → Prop} : ∀ {l1 : List α} {l2 : List β}, ai_F2 R l1 l2 → l1.length = l2.length
  | [], [], _ => rfl
  | _ :: _, _ :: _, h => congrArg (· + 1) (ai_F2.len h.2)
  | [], _ :: _, h => h.elim
  | _ :: _, [], h => h.elim
theorem ai_F2.get {α β : Type} {R : α → β → Prop} : ∀ {l1 : List α} {l2 : List β} {k : Nat} {a : α}, ai_F2 R l1 l2 → l1[k]? = some a → ∃ b, l2[k]? = some b ∧ R a b
  | [], [], _, _, _, hk => by simp at hk
  | x :: as, y :: bs, 0, a, h, hk => by
    have e : x = a := by simpa using hk
    exact ⟨y, rfl, e ▸ h.1⟩
  | x :: as, y :: bs, k + 1, a, h, hk => by
    have hk' : as[k]? = some a := by simpa using hk
    obtain ⟨b, h1, h2⟩ := ai_F2.get h.2 hk'
    exact ⟨b, by simpa using h1, h2⟩
  | [], _ :: _, _, _, h, _ => h.elim
  | _ :: _, [], _, _, h, _ => h.elim
theorem ai_F2.set {α β : Type} {R : α → β → Prop} {a : α} {b : β} (hR : R a b) : ∀ {l1 : List α} {l2 : List β} {k : Nat}, ai_F2 R l1 l2 → ai_F2 R (l1.set k a) (l2.set k b)
  | [], [], _, _ => trivial
  | _ :: _, _ :: _, 0, h => ⟨hR, h.2⟩
  | _ :: _, _ :: _, _ + 1, h => ⟨h.1, ai_F2.set hR h.2⟩
  | [], _ :: _, _, h => h.elim
  | _ :: _, [], _, h => h.elim
theorem ai_F2.app {α β : Type} {R : α → β → Prop} : ∀ {l1 : List α} {l2 : List β} {m1 : List α} {m2 : List β}, ai_F2 R l1 l2 → ai_F2 R m1 m2 → ai_F2 R (l1 ++ m1) (l2 ++ m2)
  | [], [], _, _, _, h => h
  | _ :: _, _ :: _, _, _, h, h2 => ⟨h.1, ai_F2.app h.2 h2⟩
  | [], _ :: _, _, _, h, _ => h.elim
  | _ :: _, [], _, _, h, _ => h.elim
theorem ai_F2.rev {α β : Type} {R : α → β → Prop} : ∀ {l1 : List α} {l2 : List β}, ai_F2 R l1 l2 → ai_F2 R l1.reverse l2.reverse
  | [], [], _ => trivial
  | _ :: _, _ :: _, h => by
    rw [List.reverse_cons, List.reverse_cons]
    exact ai_F2.app (ai_F2.rev h.2) ⟨h.1, trivial⟩
  | [], _ :: _, h => h.elim
  | _ :: _, [], h => h.elim
theorem ai_F2.take {α β : Type} {R : α → β → Prop} : ∀ {l1 : List α} {l2 : List β} (n : Nat), ai_F2 R l1 l2 → ai_F2 R (l1.take n) (l2.take n)
  | [], [], _, _ => by simp [ai_F2]
  | _ :: _, _ :: _, 0, _ => trivial
  | _ :: _, _ :: _, n + 1, h => ⟨h.1, ai_F2.take n h.2⟩
  | [], _ :: _, _, h => h.elim
  | _ :: _, [], _, h => h.elim
theorem ai_F2.drop {α β : Type} {R : α → β → Prop} : ∀ {l1 : List α} {l2 : List β} (n : Nat), ai_F2 R l1 l2 → ai_F2 R (l1.drop n) (l2.drop n)
  | [], [], _, _ => by simp [ai_F2]
  | _ :: _, _ :: _, 0, h => h
  | _ :: _, _ :: _, n + 1, h => ai_F2.drop n h.2
  | [], _ :: _, _, h => h.elim
  | _ :: _, [], _, h => h.elim
theorem ai_F2.filt {α β : Type} {R : α → β → Prop} {f : α → Bool} {g : β → Bool} (hfg : ∀ a b, R a b → f a = g b) : ∀ {l1 : List α} {l2 : List β}, ai_F2 R l1 l2 → ai_F2 R (l1.filter f) (l2.filter g)
  | [], [], _ => trivial
  | a :: _, b :: _, h => by
    rw [List.filter_cons, List.filter_cons, hfg a b h.1]
    cases g b with
    | false => exact ai_F2.filt hfg h.2
    | true => exact ⟨h.1, ai_F2.filt hfg h.2⟩
  | [], _ :: _, h => h.elim
  | _ :: _, [], h => h.elim
/-- what a held value says of a value: 0, 1: an int, a long in bounds; 2, 3: an int, a long that is the number of that token; 4: the cell of that place; 5: null; 6: an int whose low byte is the token's; 7: the script -/
def ai_mt (ρ : Nat → Int) (sb : Nat) (ad : List Nat) (a : ai_V) (v : Value) : Prop := match a with
  | (0, _, l, h) => ∃ x : Int32, v = .int x ∧ l ≤ x.toInt ∧ x.toInt ≤ h
  | (1, _, l, h) => ∃ x : Int64, v = .long x ∧ l ≤ x.toInt ∧ x.toInt ≤ h
  | (2, t, _, _) => ∃ x : Int32, v = .int x ∧ x.toInt = ρ t
  | (3, t, _, _) => ∃ x : Int64, v = .long x ∧ x.toInt = ρ t
  | (4, k, _, _) => ∃ q, ad[k]? = some q ∧ v = .ref q
  | (5, _, _, _) => v = .null
  | (6, t, _, _) => ∃ x : Int32, v = .int x ∧ (x &&& 255).toInt = ρ t
  | (7, _, _, _) => v = .ref sb
  | _ => False
def ai_gok (ρ : Nat → Int) (G : ai_G) : Prop := ∀ t q, G[t]? = some q → q.1 ≤ ρ t ∧ ρ t ≤ q.2
def ai_big : Int × Int := (-9223372036854775808, 9223372036854775807)
def ai_full : ai_V := (0, 0, -2147483648, 2147483647)
def ai_fulll : ai_V := (1, 0, -9223372036854775808, 9223372036854775807)
def ai_b (G : ai_G) (a : ai_V) : Int × Int := match a with
  | (0, _, l, h) => (l, h)
  | (1, _, l, h) => (l, h)
  | (2, t, _, _) => (G[t]?).getD ai_big
  | (3, t, _, _) => (G[t]?).getD ai_big
  | _ => ai_big
def ai_isI (a : ai_V) : Bool := a.1 == 0 || a.1 == 2 || a.1 == 6
def ai_isL (a : ai_V) : Bool := a.1 == 1 || a.1 == 3
def ai_isR (a : ai_V) : Bool := a.1 == 4
def ai_cat (a : ai_V) : Nat := if a.1 == 1 || a.1 == 3 then 2 else 1
theorem ai_i32 (x : Int32) : -2147483648 ≤ x.toInt ∧ x.toInt ≤ 2147483647 := by
  have h1 := Int32.le_toInt x
  have h2 := Int32.toInt_lt x
  constructor <;> omega
theorem ai_i64 (x : Int64) : -9223372036854775808 ≤ x.toInt ∧ x.toInt ≤ 9223372036854775807 := by
  have h1 := Int64.le_toInt x
  have h2 := Int64.toInt_lt x
  constructor <;> omega
theorem ai_getD {ρ : Nat → Int} {G : ai_G} (hG : ai_gok ρ G) {t : Nat} {z : Int} (hz : z = ρ t) (hb : -9223372036854775808 ≤ z ∧ z ≤ 9223372036854775807) : ((G[t]?).getD ai_big).1 ≤ z ∧ z ≤ ((G[t]?).getD ai_big).2 := by
  cases h : G[t]? with
  | none => exact hb
  | some q => rw [hz]; exact hG t q h
theorem ai_int {ρ : Nat → Int} {sb : Nat} {ad : List Nat} {G : ai_G} {a : ai_V} {v : Value} (hG : ai_gok ρ G) (h : ai_mt ρ sb ad a v) (hi : ai_isI a = true) : ∃ x : Int32, v = .int x ∧ (ai_b G a).1 ≤ x.toInt ∧ x.toInt ≤ (ai_b G a).2 := by
  obtain ⟨n, t, l, u⟩ := a
  match n, h, hi with
  | 0, h, _ => exact h
  | 2, h, _ =>
    obtain ⟨x, e1, e2⟩ := h
    have := ai_i32 x
    exact ⟨x, e1, ai_getD hG e2 (by constructor <;> omega)⟩
  | 6, h, _ =>
    obtain ⟨x, e1, e2⟩ := h
    have := ai_i32 x
    refine ⟨x, e1, ?_⟩
    show (-9223372036854775808 : Int) ≤ x.toInt ∧ x.toInt ≤ 9223372036854775807
    constructor <;> omega
  | 1, _, hi => simp [ai_isI] at hi
  | 3, _, hi => simp [ai_isI] at hi
  | 4, _, hi => simp [ai_isI] at hi
  | 5, _, hi => simp [ai_isI] at hi
  | n + 7, _, hi => simp [ai_isI] at hi
theorem ai_lng {ρ : Nat → Int} {sb : Nat} {ad : List Nat} {G : ai_G} {a : ai_V} {v : Value} (hG : ai_gok ρ G) (h : ai_mt ρ sb ad a v) (hi : ai_isL a = true) : ∃ x : Int64, v = .long x ∧ (ai_b G a).1 ≤ x.toInt ∧ x.toInt ≤ (ai_b G a).2 := by
  obtain ⟨n, t, l, u⟩ := a
  match n, h, hi with
  | 1, h, _ => exact h
  | 3, h, _ =>
    obtain ⟨x, e1, e2⟩ := h
    exact ⟨x, e1, ai_getD hG e2 (ai_i64 x)⟩
  | 0, _, hi => simp [ai_isL] at hi
  | 2, _, hi => simp [ai_isL] at hi
  | n + 4, _, hi => simp [ai_isL] at hi
theorem ai_ref {ρ : Nat → Int} {sb : Nat} {ad : List Nat} {a : ai_V} {v : Value} (h : ai_mt ρ sb ad a v) (hi : ai_isR a = true) : ∃ q, ad[a.2.1]? = some q ∧ v = .ref q := by
  obtain ⟨n, t, l, u⟩ := a
  match n, h, hi with
  | 4, h, _ => exact h
  | 0, _, hi => simp [ai_isR] at hi
  | 1, _, hi => simp [ai_isR] at hi
  | 2, _, hi => simp [ai_isR] at hi
  | 3, _, hi => simp [ai_isR] at hi
  | n + 5, _, hi => simp [ai_isR] at hi
theorem ai_mt.cat {ρ : Nat → Int} {sb : Nat} {ad : List Nat} {a : ai_V} {v : Value} (h : ai_mt ρ sb ad a v) : v.category = ai_cat a := by
  obtain ⟨n, t, l, u⟩ := a
  match n, h with
  | 0, h => obtain ⟨x, rfl, -⟩ := h; rfl
  | 1, h => obtain ⟨x, rfl, -⟩ := h; rfl
  | 2, h => obtain ⟨x, rfl, -⟩ := h; rfl
  | 3, h => obtain ⟨x, rfl, -⟩ := h; rfl
  | 4, h => obtain ⟨q, -, rfl⟩ := h; rfl
  | 5, h => cases h; rfl
  | 6, h => obtain ⟨x, rfl, -⟩ := h; rfl
  | 7, h => cases h; rfl
  | n + 8, h => exact h.elim
theorem ai_mt.more {ρ : Nat → Int} {sb : Nat} {ad : List Nat} {a : ai_V} {v : Value} (x : List Nat) (h : ai_mt ρ sb ad a v) : ai_mt ρ sb (ad ++ x) a v := by
  obtain ⟨n, t, l, u⟩ := a
  match n, h with
  | 0, h => exact h
  | 1, h => exact h
  | 2, h => exact h
  | 3, h => exact h
  | 4, h =>
    obtain ⟨q, h1, h2⟩ := h
    exact ⟨q, by rw [List.getElem?_append_left (List.getElem?_eq_some_iff.mp h1).1]; exact h1, h2⟩
  | 5, h => exact h
  | 6, h => exact h
  | 7, h => exact h
  | n + 8, h => exact h.elim
