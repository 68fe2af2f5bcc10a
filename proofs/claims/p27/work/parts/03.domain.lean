/-! ===== numbers in bounds, names (tokens) for numbers, cells of these: what a state of the machine is held to be ===== -/
abbrev ai_V : Type := Nat × Nat × Int × Int
abbrev ai_C : Type := (Nat × List ai_V) ⊕ (Nat × Nat × ai_V × List (Nat × ai_V))
abbrev ai_W : Type := List ai_C
abbrev ai_G : Type := List (Int × Int × Nat)
abbrev ai_L : Type := List (Nat × ai_V)
def ai_F2 {α β : Type} (R : α → β → Prop) : List α → List β → Prop
  | [], [] => True
  | a :: as, b :: bs => R a b ∧ ai_F2 R as bs
  | _, _ => False
theorem ai_F2.cons {α β : Type} {R : α → β → Prop} {a : α} {as : List α} {l : List β} (h : ai_F2 R (a :: as) l) : ∃ b bs, l = b :: bs ∧ R a b ∧ ai_F2 R as bs := by
  cases l with
  | nil => exact h.elim
  | cons b bs => exact ⟨b, bs, rfl, h.1, h.2⟩
theorem ai_F2.nil {α β : Type} {R : α → β → Prop} {l : List β} (h : ai_F2 R [] l) : l = [] := by
  cases l with
  | nil => rfl
  | cons b bs => exact h.elim
theorem ai_F2.mono {α β : Type} {R S : α → β → Prop} (hR : ∀ a b, R a b → S a b) : ∀ {l1 : List α} {l2 : List β}, ai_F2 R l1 l2 → ai_F2 S l1 l2
  | [], [], _ => trivial
  | _ :: _, _ :: _, h => ⟨hR _ _ h.1, ai_F2.mono hR h.2⟩
  | [], _ :: _, h => h.elim
  | _ :: _, [], h => h.elim
theorem ai_F2.len {α β : Type} {R : α → β → Prop} : ∀ {l1 : List α} {l2 : List β}, ai_F2 R l1 l2 → l1.length = l2.length
  | [], [], _ => rfl
  | _ :: _, _ :: _, h => congrArg (· + 1) (ai_F2.len h.2)
  | [], _ :: _, h => h.elim
  | _ :: _, [], h => h.elim
theorem ai_F2.get {α β : Type} {R : α → β → Prop} : ∀ {l1 : List α} {l2 : List β} {k : Nat} {a : α}, ai_F2 R l1 l2 → l1[k]? = some a → ∃ b, l2[k]? = some b ∧ R a b
  | [], [], _, _, _, hk => by simp at hk
  | x :: as, y :: bs, 0, a, h, hk => by
    have e : x = a := by simpa using hk
    exact ⟨y, rfl, e ▸ h.1⟩
  | x :: as, y :: bs, k + 1, a, h, hk => by
    have hk' : as[k]? = some a := by simpa using hk
    obtain ⟨b, h1, h2⟩ := ai_F2.get h.2 hk'
    exact ⟨b, by simpa using h1, h2⟩
  | [], _ :: _, _, _, h, _ => h.elim
  | _ :: _, [], _, _, h, _ => h.elim
theorem ai_F2.set {α β : Type} {R : α → β → Prop} {a : α} {b : β} (hR : R a b) : ∀ {l1 : List α} {l2 : List β} {k : Nat}, ai_F2 R l1 l2 → ai_F2 R (l1.set k a) (l2.set k b)
  | [], [], _, _ => trivial
  | _ :: _, _ :: _, 0, h => ⟨hR, h.2⟩
  | _ :: _, _ :: _, _ + 1, h => ⟨h.1, ai_F2.set hR h.2⟩
  | [], _ :: _, _, h => h.elim
  | _ :: _, [], _, h => h.elim
theorem ai_F2.app {α β : Type} {R : α → β → Prop} : ∀ {l1 : List α} {l2 : List β} {m1 : List α} {m2 : List β}, ai_F2 R l1 l2 → ai_F2 R m1 m2 → ai_F2 R (l1 ++ m1) (l2 ++ m2)
  | [], [], _, _, _, h => h
  | _ :: _, _ :: _, _, _, h, h2 => ⟨h.1, ai_F2.app h.2 h2⟩
  | [], _ :: _, _, _, h, _ => h.elim
  | _ :: _, [], _, _, h, _ => h.elim
theorem ai_F2.rev {α β : Type} {R : α → β → Prop} : ∀ {l1 : List α} {l2 : List β}, ai_F2 R l1 l2 → ai_F2 R l1.reverse l2.reverse
  | [], [], _ => trivial
  | _ :: _, _ :: _, h => by
    rw [List.reverse_cons, List.reverse_cons]
    exact ai_F2.app (ai_F2.rev h.2) ⟨h.1, trivial⟩
  | [], _ :: _, h => h.elim
  | _ :: _, [], h => h.elim
theorem ai_F2.take {α β : Type} {R : α → β → Prop} : ∀ {l1 : List α} {l2 : List β} (n : Nat), ai_F2 R l1 l2 → ai_F2 R (l1.take n) (l2.take n)
  | [], [], _, _ => by simp [ai_F2]
  | _ :: _, _ :: _, 0, _ => trivial
  | _ :: _, _ :: _, n + 1, h => ⟨h.1, ai_F2.take n h.2⟩
  | [], _ :: _, _, h => h.elim
  | _ :: _, [], _, h => h.elim
theorem ai_F2.drop {α β : Type} {R : α → β → Prop} : ∀ {l1 : List α} {l2 : List β} (n : Nat), ai_F2 R l1 l2 → ai_F2 R (l1.drop n) (l2.drop n)
  | [], [], _, _ => by simp [ai_F2]
  | _ :: _, _ :: _, 0, h => h
  | _ :: _, _ :: _, n + 1, h => ai_F2.drop n h.2
  | [], _ :: _, _, h => h.elim
  | _ :: _, [], _, h => h.elim
theorem ai_F2.filt {α β : Type} {R : α → β → Prop} {f : α → Bool} {g : β → Bool} (hfg : ∀ a b, R a b → f a = g b) : ∀ {l1 : List α} {l2 : List β}, ai_F2 R l1 l2 → ai_F2 R (l1.filter f) (l2.filter g)
  | [], [], _ => trivial
  | a :: _, b :: _, h => by
    rw [List.filter_cons, List.filter_cons, hfg a b h.1]
    cases g b with
    | false => exact ai_F2.filt hfg h.2
    | true => exact ⟨h.1, ai_F2.filt hfg h.2⟩
  | [], _ :: _, h => h.elim
  | _ :: _, [], h => h.elim
/-- a token's number: none, if it isn't told yet -/
abbrev ai_Rh : Type := Nat → Option Int
abbrev ai_SB : Type := Nat × (Nat → va_E)
/-- what a held value says of a value: 0, 1: an int, a long in bounds; 2, 3: an int, a long that is a token's number times the fourth and the third more; 4: the cell of that place; 5: null; 6: an int whose low byte is the token's; 7: the script; 8: an int from the third on to the token's number and the fourth more -/
def ai_mt (ρ : ai_Rh) (sb : ai_SB) (ad : List Nat) (a : ai_V) (v : Value) : Prop := match a with
  | (0, _, l, h) => ∃ x : Int32, v = .int x ∧ l ≤ x.toInt ∧ x.toInt ≤ h
  | (1, _, l, h) => ∃ x : Int64, v = .long x ∧ l ≤ x.toInt ∧ x.toInt ≤ h
  | (2, t, c, m) => ∃ (x : Int32) (z : Int), v = .int x ∧ ρ t = some z ∧ x.toInt = m * z + c
  | (3, t, c, m) => ∃ (x : Int64) (z : Int), v = .long x ∧ ρ t = some z ∧ x.toInt = m * z + c
  | (4, k, _, _) => ∃ q, ad[k]? = some q ∧ v = .ref q
  | (5, _, _, _) => v = .null
  | (6, t, _, _) => ∃ (x : Int32) (z : Int), v = .int x ∧ ρ t = some z ∧ (x &&& 255).toInt = z
  | (7, _, _, _) => v = .ref sb.1
  | (8, t, l, c) => ∃ (x : Int32) (z : Int), v = .int x ∧ ρ t = some z ∧ l ≤ x.toInt ∧ x.toInt ≤ z + c
  | (9, t, c, u) => ∃ (x : Int32) (z : Int), v = .int x ∧ ρ t = some z ∧ z + c ≤ x.toInt ∧ x.toInt ≤ u
  | _ => False
def ai_le (ρ σ : ai_Rh) : Prop := ∀ t z, ρ t = some z → σ t = some z
theorem ai_le.rf {ρ : ai_Rh} : ai_le ρ ρ := fun _ _ h => h
theorem ai_le.tr {ρ σ τ : ai_Rh} (h : ai_le ρ σ) (g : ai_le σ τ) : ai_le ρ τ := fun t z q => g t z (h t z q)
/-- kinds of numbers: 5: what doors answers of the script's numbers; from 100 on: what two tokens are apart; from 1000100 on: they are not the same, too -/
def ai_kp (ρ : ai_Rh) (k : Nat) (z : Int) : Prop := (k = 5 → ∃ a d h w : Int32, ρ 1 = some a.toInt ∧ ρ 2 = some d.toInt ∧ ρ 3 = some h.toInt ∧ ρ 4 = some w.toInt ∧ z = (dr_D a d h w).toInt) ∧ (100 ≤ k → ∃ x y : Int, ρ ((k - 100) / 1000 % 1000) = some x ∧ ρ ((k - 100) % 1000) = some y ∧ z = x - y ∧ (1000100 ≤ k → ¬ x = y))
theorem ai_kp.up {ρ σ : ai_Rh} {k : Nat} {z : Int} (hr : ai_le ρ σ) (h : ai_kp ρ k z) : ai_kp σ k z := by
  refine ⟨fun hk => ?_, fun hk => ?_⟩
  · obtain ⟨a, d, g, w, h1, h2, h3, h4, h5⟩ := h.1 hk
    exact ⟨a, d, g, w, hr _ _ h1, hr _ _ h2, hr _ _ h3, hr _ _ h4, h5⟩
  · obtain ⟨x, y, h1, h2, h3, h4⟩ := h.2 hk
    exact ⟨x, y, hr _ _ h1, hr _ _ h2, h3, h4⟩
theorem ai_kp0 {ρ : ai_Rh} {k : Nat} {z : Int} (h : k = 0) : ai_kp ρ k z := ⟨fun g => by omega, fun g => by omega⟩
def ai_gok (ρ : ai_Rh) (G : ai_G) : Prop := ∀ t, match G[t]? with
  | some q => ∃ z, ρ t = some z ∧ q.1 ≤ z ∧ z ≤ q.2.1 ∧ ai_kp ρ q.2.2 z
  | none => ρ t = none
theorem ai_gok.at {ρ : ai_Rh} {G : ai_G} (h : ai_gok ρ G) {t : Nat} {q : Int × Int × Nat} (hq : G[t]? = some q) : ∃ z, ρ t = some z ∧ q.1 ≤ z ∧ z ≤ q.2.1 ∧ ai_kp ρ q.2.2 z := by
  have := h t
  rw [hq] at this
  exact this
theorem ai_gok.get {ρ : ai_Rh} {G : ai_G} (h : ai_gok ρ G) {t : Nat} {z : Int} (hz : ρ t = some z) : ∃ q, G[t]? = some q ∧ q.1 ≤ z ∧ z ≤ q.2.1 ∧ ai_kp ρ q.2.2 z := by
  have := h t
  cases hq : G[t]? with
  | none => rw [hq] at this; rw [this] at hz; cases hz
  | some q =>
    rw [hq] at this
    obtain ⟨z', h1, h2⟩ := this
    cases h1.symm.trans hz
    exact ⟨q, rfl, h2⟩
/-- a token more -/
def ai_more (ρ : ai_Rh) (n : Nat) (z : Int) : ai_Rh := fun t => if t = n then some z else ρ t
theorem ai_more_le {ρ : ai_Rh} {G : ai_G} (h : ai_gok ρ G) (z : Int) : ai_le ρ (ai_more ρ G.length z) := by
  intro t w hw
  unfold ai_more
  by_cases e : t = G.length
  · subst e
    have := h G.length
    rw [List.getElem?_eq_none (Nat.le_refl _)] at this
    rw [this] at hw
    cases hw
  · rw [if_neg e]; exact hw
theorem ai_more_ok {ρ : ai_Rh} {G : ai_G} {q : Int × Int × Nat} (h : ai_gok ρ G) {z : Int} (h1 : q.1 ≤ z) (h2 : z ≤ q.2.1) (h3 : ai_kp ρ q.2.2 z) : ai_gok (ai_more ρ G.length z) (G ++ [q]) := by
  have hr := ai_more_le h z
  intro t
  by_cases e : t = G.length
  · subst e
    rw [List.getElem?_concat_length]
    exact ⟨z, by unfold ai_more; rw [if_pos rfl], h1, h2, h3.up hr⟩
  · have em : ai_more ρ G.length z t = ρ t := by unfold ai_more; rw [if_neg e]
    by_cases hl : t < G.length
    · rw [List.getElem?_append_left hl]
      have := h t
      rw [List.getElem?_eq_getElem hl] at this ⊢
      obtain ⟨w, e1, e2, e3, e4⟩ := this
      exact ⟨w, hr _ _ e1, e2, e3, e4.up hr⟩
    · rw [List.getElem?_eq_none (by simp; omega)]
      have := h t
      rw [List.getElem?_eq_none (by omega)] at this
      show ai_more ρ G.length z t = none
      rw [em]
      exact this
theorem ai_more_at {ρ : ai_Rh} {n : Nat} {z : Int} : ai_more ρ n z n = some z := by unfold ai_more; rw [if_pos rfl]
def ai_big : Int × Int := (-9223372036854775808, 9223372036854775807)
def ai_full : ai_V := (0, 0, -2147483648, 2147483647)
def ai_fulll : ai_V := (1, 0, -9223372036854775808, 9223372036854775807)
def ai_aff (q : Option (Int × Int × Nat)) (c m : Int) : Int × Int := match q with
  | some q => bif decide (0 ≤ m) then (m * q.1 + c, m * q.2.1 + c) else (m * q.2.1 + c, m * q.1 + c)
  | none => ai_big
def ai_b (G : ai_G) (a : ai_V) : Int × Int := match a with
  | (0, _, l, h) => (l, h)
  | (1, _, l, h) => (l, h)
  | (2, t, c, m) => ai_aff G[t]? c m
  | (3, t, c, m) => ai_aff G[t]? c m
  | (8, t, l, c) => (l, (ai_aff G[t]? c 1).2)
  | (9, t, c, u) => ((ai_aff G[t]? c 1).1, u)
  | _ => ai_big
def ai_isI (a : ai_V) : Bool := a.1 == 0 || a.1 == 2 || a.1 == 6 || a.1 == 8 || a.1 == 9
def ai_isL (a : ai_V) : Bool := a.1 == 1 || a.1 == 3
def ai_isR (a : ai_V) : Bool := a.1 == 4
def ai_cat (a : ai_V) : Nat := if a.1 == 1 || a.1 == 3 then 2 else 1
theorem ai_i32 (x : Int32) : -2147483648 ≤ x.toInt ∧ x.toInt ≤ 2147483647 := by
  have h1 := Int32.le_toInt x
  have h2 := Int32.toInt_lt x
  constructor <;> omega
theorem ai_i64 (x : Int64) : -9223372036854775808 ≤ x.toInt ∧ x.toInt ≤ 9223372036854775807 := by
  have h1 := Int64.le_toInt x
  have h2 := Int64.toInt_lt x
  constructor <;> omega
theorem ai_aff_ok {ρ : ai_Rh} {G : ai_G} (hG : ai_gok ρ G) {t : Nat} {z c m : Int} (hz : ρ t = some z) : (ai_aff G[t]? c m).1 ≤ m * z + c ∧ m * z + c ≤ (ai_aff G[t]? c m).2 := by
  obtain ⟨q, hq, h1, h2, -⟩ := hG.get hz
  rw [hq]
  unfold ai_aff
  cases hm : decide (0 ≤ m) with
  | true =>
    simp only [decide_eq_true_eq] at hm
    have e1 := Int.mul_le_mul_of_nonneg_left h1 hm
    have e2 := Int.mul_le_mul_of_nonneg_left h2 hm
    constructor <;> (dsimp only [cond_true]; omega)
  | false =>
    simp only [decide_eq_false_iff_not] at hm
    have e1 := Int.mul_le_mul_of_nonpos_left (show m ≤ 0 by omega) h1
    have e2 := Int.mul_le_mul_of_nonpos_left (show m ≤ 0 by omega) h2
    constructor <;> (dsimp only [cond_false]; omega)
theorem ai_int {ρ : ai_Rh} {sb : ai_SB} {ad : List Nat} {G : ai_G} {a : ai_V} {v : Value} (hG : ai_gok ρ G) (h : ai_mt ρ sb ad a v) (hi : ai_isI a = true) : ∃ x : Int32, v = .int x ∧ (ai_b G a).1 ≤ x.toInt ∧ x.toInt ≤ (ai_b G a).2 := by
  obtain ⟨n, t, l, u⟩ := a
  match n, h, hi with
  | 0, h, _ => exact h
  | 2, h, _ =>
    obtain ⟨x, z, e1, e2, e3⟩ := h
    have := ai_aff_ok hG (c := l) (m := u) e2
    exact ⟨x, e1, by rw [e3]; exact this.1, by rw [e3]; exact this.2⟩
  | 6, h, _ =>
    obtain ⟨x, z, e1, e2, -⟩ := h
    have := ai_i32 x
    refine ⟨x, e1, ?_⟩
    show (-9223372036854775808 : Int) ≤ x.toInt ∧ x.toInt ≤ 9223372036854775807
    constructor <;> omega
  | 8, h, _ =>
    obtain ⟨x, z, e1, e2, e3, e4⟩ := h
    have := ai_aff_ok hG (c := u) (m := 1) e2
    exact ⟨x, e1, e3, Int.le_trans e4 (by have := this.2; rw [Int.one_mul] at this; exact this)⟩
  | 9, h, _ =>
    obtain ⟨x, z, e1, e2, e3, e4⟩ := h
    have := ai_aff_ok hG (c := l) (m := 1) e2
    exact ⟨x, e1, Int.le_trans (by have := this.1; rw [Int.one_mul] at this; exact this) e3, e4⟩
  | 1, _, hi => simp [ai_isI] at hi
  | 3, _, hi => simp [ai_isI] at hi
  | 4, _, hi => simp [ai_isI] at hi
  | 5, _, hi => simp [ai_isI] at hi
  | 7, _, hi => simp [ai_isI] at hi
  | n + 10, _, hi => simp [ai_isI] at hi
theorem ai_lng {ρ : ai_Rh} {sb : ai_SB} {ad : List Nat} {G : ai_G} {a : ai_V} {v : Value} (hG : ai_gok ρ G) (h : ai_mt ρ sb ad a v) (hi : ai_isL a = true) : ∃ x : Int64, v = .long x ∧ (ai_b G a).1 ≤ x.toInt ∧ x.toInt ≤ (ai_b G a).2 := by
  obtain ⟨n, t, l, u⟩ := a
  match n, h, hi with
  | 1, h, _ => exact h
  | 3, h, _ =>
    obtain ⟨x, z, e1, e2, e3⟩ := h
    have := ai_aff_ok hG (c := l) (m := u) e2
    exact ⟨x, e1, by rw [e3]; exact this.1, by rw [e3]; exact this.2⟩
  | 0, _, hi => simp [ai_isL] at hi
  | 2, _, hi => simp [ai_isL] at hi
  | n + 4, _, hi => simp [ai_isL] at hi
theorem ai_ref {ρ : ai_Rh} {sb : ai_SB} {ad : List Nat} {a : ai_V} {v : Value} (h : ai_mt ρ sb ad a v) (hi : ai_isR a = true) : ∃ q, ad[a.2.1]? = some q ∧ v = .ref q := by
  obtain ⟨n, t, l, u⟩ := a
  match n, h, hi with
  | 4, h, _ => exact h
  | 0, _, hi => simp [ai_isR] at hi
  | 1, _, hi => simp [ai_isR] at hi
  | 2, _, hi => simp [ai_isR] at hi
  | 3, _, hi => simp [ai_isR] at hi
  | n + 5, _, hi => simp [ai_isR] at hi
theorem ai_mt.cat {ρ : ai_Rh} {sb : ai_SB} {ad : List Nat} {a : ai_V} {v : Value} (h : ai_mt ρ sb ad a v) : v.category = ai_cat a := by
  obtain ⟨n, t, l, u⟩ := a
  match n, h with
  | 0, h => obtain ⟨x, rfl, -⟩ := h; rfl
  | 1, h => obtain ⟨x, rfl, -⟩ := h; rfl
  | 2, h => obtain ⟨x, z, rfl, -⟩ := h; rfl
  | 3, h => obtain ⟨x, z, rfl, -⟩ := h; rfl
  | 4, h => obtain ⟨q, -, rfl⟩ := h; rfl
  | 5, h => cases h; rfl
  | 6, h => obtain ⟨x, z, rfl, -⟩ := h; rfl
  | 7, h => cases h; rfl
  | 8, h => obtain ⟨x, z, rfl, -⟩ := h; rfl
  | 9, h => obtain ⟨x, z, rfl, -⟩ := h; rfl
  | n + 10, h => exact h.elim
/-- more cells, more tokens -/
theorem ai_mt.more {ρ σ : ai_Rh} {sb : ai_SB} {ad : List Nat} {a : ai_V} {v : Value} (hr : ai_le ρ σ) (x : List Nat) (h : ai_mt ρ sb ad a v) : ai_mt σ sb (ad ++ x) a v := by
  obtain ⟨n, t, l, u⟩ := a
  match n, h with
  | 0, h => exact h
  | 1, h => exact h
  | 2, h => obtain ⟨x, z, h1, h2, h3⟩ := h; exact ⟨x, z, h1, hr _ _ h2, h3⟩
  | 3, h => obtain ⟨x, z, h1, h2, h3⟩ := h; exact ⟨x, z, h1, hr _ _ h2, h3⟩
  | 4, h =>
    obtain ⟨q, h1, h2⟩ := h
    exact ⟨q, by rw [List.getElem?_append_left (List.getElem?_eq_some_iff.mp h1).1]; exact h1, h2⟩
  | 5, h => exact h
  | 6, h => obtain ⟨x, z, h1, h2, h3⟩ := h; exact ⟨x, z, h1, hr _ _ h2, h3⟩
  | 7, h => exact h
  | 8, h => obtain ⟨x, z, h1, h2, h3⟩ := h; exact ⟨x, z, h1, hr _ _ h2, h3⟩
  | 9, h => obtain ⟨x, z, h1, h2, h3⟩ := h; exact ⟨x, z, h1, hr _ _ h2, h3⟩
  | n + 10, h => exact h.elim
theorem ai_mt.up {ρ σ : ai_Rh} {sb : ai_SB} {ad : List Nat} {a : ai_V} {v : Value} (hr : ai_le ρ σ) (h : ai_mt ρ sb ad a v) : ai_mt σ sb ad a v := by
  have := ai_mt.more hr [] h
  rw [List.append_nil] at this
  exact this
/-- a held value whose tokens were told already says the same with fewer -/
theorem ai_mt.down {ρ σ : ai_Rh} {sb : ai_SB} {ad : List Nat} {a : ai_V} {v w : Value} (hr : ai_le ρ σ) (h0 : ai_mt ρ sb ad a w) (h : ai_mt σ sb ad a v) : ai_mt ρ sb ad a v := by
  have key : ∀ {t : Nat} {z z' : Int}, ρ t = some z → σ t = some z' → ρ t = some z' := fun h1 h2 => by
    have := hr _ _ h1
    rw [h2] at this
    cases this
    exact h1
  obtain ⟨n, t, l, u⟩ := a
  match n, h0, h with
  | 0, _, h => exact h
  | 1, _, h => exact h
  | 2, h0, h => obtain ⟨_, z0, _, g, _⟩ := h0; obtain ⟨x, z, h1, h2, h3⟩ := h; exact ⟨x, z, h1, key g h2, h3⟩
  | 3, h0, h => obtain ⟨_, z0, _, g, _⟩ := h0; obtain ⟨x, z, h1, h2, h3⟩ := h; exact ⟨x, z, h1, key g h2, h3⟩
  | 4, _, h => exact h
  | 5, _, h => exact h
  | 6, h0, h => obtain ⟨_, z0, _, g, _⟩ := h0; obtain ⟨x, z, h1, h2, h3⟩ := h; exact ⟨x, z, h1, key g h2, h3⟩
  | 7, _, h => exact h
  | 8, h0, h => obtain ⟨_, z0, _, g, _⟩ := h0; obtain ⟨x, z, h1, h2, h3⟩ := h; exact ⟨x, z, h1, key g h2, h3⟩
  | 9, h0, h => obtain ⟨_, z0, _, g, _⟩ := h0; obtain ⟨x, z, h1, h2, h3⟩ := h; exact ⟨x, z, h1, key g h2, h3⟩
  | n + 10, _, h => exact h.elim
