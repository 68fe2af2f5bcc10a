/-! ===== the writers of both sides keep the tables the same ===== -/
/-- w columns, n rows of f are those of R from a on -/
def tb_r (w a : Nat) (f R : Nat → Int) (n : Nat) : Prop := ∀ i j : Nat, i < n → j < w → f (w * i + j) = R (a + w * i + j)
theorem tb_r.put {w a n : Nat} {f f' R R' : Nat → Int} (h : tb_r w a f R n) (hf : ∀ x : Nat, x < w * n → f' x = f x) (hR : ∀ x : Nat, a ≤ x → x < a + w * n → R' x = R x) (hn : ∀ j : Nat, j < w → f' (w * n + j) = R' (a + w * n + j)) : tb_r w a f' R' (n + 1) := by
  intro i j hi hj
  by_cases e : i = n
  · subst e
    exact hn j hj
  · have h1 : w * (i + 1) ≤ w * n := Nat.mul_le_mul_left w (by omega)
    rw [Nat.mul_add, Nat.mul_one] at h1
    rw [hf _ (by omega), hR _ (by omega) (by omega)]
    exact h i j (by omega) hj
theorem tb_r.same {w a n : Nat} {f f' R R' : Nat → Int} (h : tb_r w a f R n) (hf : ∀ x : Nat, x < w * n → f' x = f x) (hR : ∀ x : Nat, a ≤ x → x < a + w * n → R' x = R x) : tb_r w a f' R' n := by
  intro i j hi hj
  have h1 : w * (i + 1) ≤ w * n := Nat.mul_le_mul_left w (by omega)
  rw [Nat.mul_add, Nat.mul_one] at h1
  rw [hf _ (by omega), hR _ (by omega) (by omega)]
  exact h i j hi hj
/-- a row told to both -/
theorem tb_row {w a n k : Nat} {S T : hs_S} {B B' : Nat → Nat → Int} {vs : List Int} {x y u : Int} (hw : vs.length = w) (hx : x = ((w * n : Nat) : Int)) (hy : y = ((a + w * n : Nat) : Int)) (hu : u = (w : Int)) (h1 : u_row S k x u vs B) (h2 : u_row T 1 y u vs B') (h : tb_r w a (S.2 k) (T.2 1) n) : tb_r w a (B k) (B' 1) (n + 1) := by
  subst hx hy hu
  refine h.put (fun z hz => h1.2.1 z (Or.inl (by omega))) (fun z _ hz => h2.2.1 z (Or.inl (by omega))) (fun j hj => ?_)
  have hj' : j < vs.length := by omega
  have e := List.getElem?_eq_getElem hj'
  have g1 := h1.2.2 j _ e
  have g2 := h2.2.2 j _ e
  rw [Int.toNat_natCast] at g1 g2
  rw [g1, g2]
