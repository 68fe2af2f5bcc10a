/-! ===== two ends side by side ===== -/
/-- what an end tells: bounds of tokens, the answer, the counts behind it -/
abbrev pa_E : Type := ai_G × ai_V × List ai_V
def pa_v (σ : ai_Rh) (v : ai_V) (z : Int) : Prop := match v with
  | (0, _, l, h) => l ≤ z ∧ z ≤ h
  | (2, t, c, m) => ∃ w, σ t = some w ∧ z = m * w + c
  | _ => False
/-- the first k tokens are m -/
def pa_S (k : Nat) (m : Nat → Int) (E : pa_E) (z : Int) (n : Nat → Int) : Prop := ∃ σ : ai_Rh, (∀ t, t < k → σ t = some (m t)) ∧ ai_gok σ E.1 ∧ pa_v σ E.2.1 z ∧ ∀ t v, E.2.2[t]? = some v → pa_v σ v (n t)
def pa_q (k : Nat) (v w : ai_V) : Bool := v == w && (match v with
  | (0, _, l, h) => decide (l = h)
  | (2, t, _, _) => Nat.blt t k
  | _ => false)
def pa_dj (q r : Int × Int × Nat) : Bool := decide (q.2.1 < r.1) || decide (r.2.1 < q.1)
def pa_1 (k : Nat) (G G' : ai_G) : Bool := (List.range k).any fun t => match G[t]?, G'[t]? with
  | some q, some r => pa_dj q r
  | _, _ => false
def pa_t (k : Nat) (q : Int × Int × Nat) : Bool := decide (100 ≤ q.2.2) && (Nat.blt ((q.2.2 - 100) / 1000 % 1000) k && Nat.blt ((q.2.2 - 100) % 1000) k)
/-- the same two tokens the other way round -/
def pa_rv (q : Nat) : Nat := 100 + 1000 * ((q - 100) % 1000) + (q - 100) / 1000 % 1000
def pa_2 (k : Nat) (G G' : ai_G) : Bool := G.any fun q => pa_t k q && G'.any fun r => (r.2.2 == q.2.2 && pa_dj q r) || (r.2.2 == pa_rv q.2.2 && pa_dj q (-r.2.1, -r.1, 0))
/-- they are not the same, and are -/
def pa_3 (k : Nat) (G G' : ai_G) : Bool := G.any fun q => decide (1000100 ≤ q.2.2) && (pa_t k q && G'.any fun r => (r.2.2 + 1000000 == q.2.2 || r.2.2 == pa_rv q.2.2) && (decide (r.1 = 0) && decide (r.2.1 = 0)))
def pa_ok (k : Nat) (E F : pa_E) : Bool := pa_1 k E.1 F.1 || (pa_2 k E.1 F.1 || (pa_3 k E.1 F.1 || (pa_3 k F.1 E.1 || (pa_q k E.2.1 F.2.1 && (E.2.2.length == F.2.2.length && ai_all2 (pa_q k) E.2.2 F.2.2)))))
theorem pa_q_ok {k : Nat} {m : Nat → Int} {σ τ : ai_Rh} {v w : ai_V} {y z : Int} (hs : ∀ t, t < k → σ t = some (m t)) (ht : ∀ t, t < k → τ t = some (m t)) (h : pa_q k v w = true) (hv : pa_v σ v y) (hw : pa_v τ w z) : y = z := by
  unfold pa_q at h
  rw [Bool.and_eq_true, beq_iff_eq] at h
  obtain ⟨rfl, h⟩ := h
  obtain ⟨n, t, a, b⟩ := v
  match n, h, hv, hw with
  | 0, h, hv, hw =>
    have e : a = b := of_decide_eq_true h
    have h1 : a ≤ y ∧ y ≤ b := hv
    have h2 : a ≤ z ∧ z ≤ b := hw
    omega
  | 2, h, hv, hw =>
    have hk : t < k := Nat.le_of_ble_eq_true h
    obtain ⟨u, e1, e2⟩ := hv
    obtain ⟨u', e3, e4⟩ := hw
    rw [hs t hk] at e1
    rw [ht t hk] at e3
    cases e1
    cases e3
    rw [e2, e4]
  | 1, h, _, _ => cases h
  | n + 3, h, _, _ => cases h
theorem pa_dj_ok {q r : Int × Int × Nat} {z : Int} (h : pa_dj q r = true) (h1 : q.1 ≤ z ∧ z ≤ q.2.1) (h2 : r.1 ≤ z ∧ z ≤ r.2.1) : False := by
  unfold pa_dj at h
  rw [Bool.or_eq_true, decide_eq_true_eq, decide_eq_true_eq] at h
  omega
theorem pa_all2 {α : Type} {f : α → α → Bool} : ∀ {l1 l2 : List α}, ai_all2 f l1 l2 = true → ∀ (i : Nat) (a : α), l1[i]? = some a → ∃ b, l2[i]? = some b ∧ f a b = true
  | [], _, _, i, a, ha => by simp at ha
  | x :: r, [], h, _, _, _ => by cases h
  | x :: r, y :: s, h, i, a, ha => by
    unfold ai_all2 at h
    rw [Bool.and_eq_true] at h
    cases i with
    | zero =>
      cases ha
      exact ⟨y, rfl, h.1⟩
    | succ i => exact pa_all2 h.2 i a ha
/-- what a difference tells -/
theorem pa_tok {k : Nat} {m : Nat → Int} {σ : ai_Rh} {G : ai_G} {q : Int × Int × Nat} (s1 : ∀ t, t < k → σ t = some (m t)) (s2 : ai_gok σ G) (hq : q ∈ G) (h100 : 100 ≤ q.2.2) (h1 : (q.2.2 - 100) / 1000 % 1000 < k) (h2 : (q.2.2 - 100) % 1000 < k) : (q.1 ≤ m ((q.2.2 - 100) / 1000 % 1000) - m ((q.2.2 - 100) % 1000) ∧ m ((q.2.2 - 100) / 1000 % 1000) - m ((q.2.2 - 100) % 1000) ≤ q.2.1) ∧ (1000100 ≤ q.2.2 → ¬ m ((q.2.2 - 100) / 1000 % 1000) = m ((q.2.2 - 100) % 1000)) := by
  obtain ⟨i, hi⟩ := List.mem_iff_getElem?.mp hq
  obtain ⟨z1, a1, a2, a3, a4⟩ := s2.at hi
  obtain ⟨x1, y1, c1, c2, c3, c4⟩ := a4.2 h100
  rw [s1 _ h1] at c1
  rw [s1 _ h2] at c2
  cases c1
  cases c2
  exact ⟨by omega, c4⟩
theorem pa_tk {k : Nat} {q : Int × Int × Nat} (h : pa_t k q = true) : 100 ≤ q.2.2 ∧ (q.2.2 - 100) / 1000 % 1000 < k ∧ (q.2.2 - 100) % 1000 < k := by
  unfold pa_t at h
  simp only [Bool.and_eq_true, decide_eq_true_eq] at h
  exact ⟨h.1, Nat.le_of_ble_eq_true h.2.1, Nat.le_of_ble_eq_true h.2.2⟩
theorem pa_rvk {q r : Nat} (e : r = pa_rv q) : 100 ≤ r ∧ (r - 100) / 1000 % 1000 = (q - 100) % 1000 ∧ (r - 100) % 1000 = (q - 100) / 1000 % 1000 := by
  unfold pa_rv at e
  have hx : (q - 100) % 1000 < 1000 := Nat.mod_lt _ (by decide)
  have hy : (q - 100) / 1000 % 1000 < 1000 := Nat.mod_lt _ (by decide)
  generalize (q - 100) % 1000 = x at *
  generalize (q - 100) / 1000 % 1000 = y at *
  omega
theorem pa_2n {k : Nat} {m : Nat → Int} {σ τ : ai_Rh} {G G' : ai_G} (s1 : ∀ t, t < k → σ t = some (m t)) (s2 : ai_gok σ G) (t1 : ∀ t, t < k → τ t = some (m t)) (t2 : ai_gok τ G') (h : pa_2 k G G' = true) : False := by
  unfold pa_2 at h
  obtain ⟨q, hq, h⟩ := List.any_eq_true.mp h
  rw [Bool.and_eq_true] at h
  obtain ⟨hk, h⟩ := h
  obtain ⟨k1, k2, k3⟩ := pa_tk hk
  obtain ⟨a1, -⟩ := pa_tok s1 s2 hq k1 k2 k3
  obtain ⟨r, hr, h⟩ := List.any_eq_true.mp h
  simp only [Bool.or_eq_true, Bool.and_eq_true, beq_iff_eq] at h
  rcases h with ⟨e, h⟩ | ⟨e, h⟩
  · obtain ⟨b1, -⟩ := pa_tok t1 t2 hr (by rw [e]; exact k1) (by rw [e]; exact k2) (by rw [e]; exact k3)
    rw [e] at b1
    exact pa_dj_ok h a1 b1
  · obtain ⟨e1, e2, e3⟩ := pa_rvk e
    obtain ⟨b1, -⟩ := pa_tok t1 t2 hr e1 (by rw [e2]; exact k3) (by rw [e3]; exact k2)
    rw [e2, e3] at b1
    refine pa_dj_ok (r := (-r.2.1, -r.1, 0)) h a1 ⟨?_, ?_⟩
    · show -r.2.1 ≤ _
      omega
    · show _ ≤ -r.1
      omega
theorem pa_3n {k : Nat} {m : Nat → Int} {σ τ : ai_Rh} {G G' : ai_G} (s1 : ∀ t, t < k → σ t = some (m t)) (s2 : ai_gok σ G) (t1 : ∀ t, t < k → τ t = some (m t)) (t2 : ai_gok τ G') (h : pa_3 k G G' = true) : False := by
  unfold pa_3 at h
  obtain ⟨q, hq, h⟩ := List.any_eq_true.mp h
  rw [Bool.and_eq_true, Bool.and_eq_true, decide_eq_true_eq] at h
  obtain ⟨hn, hk, h⟩ := h
  obtain ⟨k1, k2, k3⟩ := pa_tk hk
  obtain ⟨-, a1⟩ := pa_tok s1 s2 hq k1 k2 k3
  have a1 := a1 hn
  obtain ⟨r, hr, h⟩ := List.any_eq_true.mp h
  simp only [Bool.or_eq_true, Bool.and_eq_true, beq_iff_eq, decide_eq_true_eq] at h
  obtain ⟨h, h0, h1⟩ := h
  rcases h with e | e
  · have e1 : (r.2.2 - 100) / 1000 % 1000 = (q.2.2 - 100) / 1000 % 1000 := by omega
    have e2 : (r.2.2 - 100) % 1000 = (q.2.2 - 100) % 1000 := by omega
    obtain ⟨b1, -⟩ := pa_tok t1 t2 hr (by omega) (by rw [e1]; exact k2) (by rw [e2]; exact k3)
    rw [e1, e2] at b1
    omega
  · obtain ⟨e1, e2, e3⟩ := pa_rvk e
    obtain ⟨b1, -⟩ := pa_tok t1 t2 hr e1 (by rw [e2]; exact k3) (by rw [e3]; exact k2)
    rw [e2, e3] at b1
    omega
/-- ends that stand together give the same -/
theorem pa_ok_ok {k : Nat} {m : Nat → Int} {E F : pa_E} {y z : Int} {n n' : Nat → Int} (h : pa_ok k E F = true) (hE : pa_S k m E y n) (hF : pa_S k m F z n') : y = z ∧ ∀ t v, E.2.2[t]? = some v → n t = n' t := by
  obtain ⟨σ, s1, s2, s3, s4⟩ := hE
  obtain ⟨τ, t1, t2, t3, t4⟩ := hF
  unfold pa_ok at h
  rw [Bool.or_eq_true, Bool.or_eq_true, Bool.or_eq_true, Bool.or_eq_true] at h
  rcases h with h | h | h | h | h
  · exfalso
    unfold pa_1 at h
    obtain ⟨t, ht, h⟩ := List.any_eq_true.mp h
    have htk : t < k := List.mem_range.mp ht
    split at h
    · rename_i q r hq hr
      obtain ⟨z1, a1, a2, a3, -⟩ := s2.at hq
      obtain ⟨z2, b1, b2, b3, -⟩ := t2.at hr
      rw [s1 t htk] at a1
      rw [t1 t htk] at b1
      cases a1
      cases b1
      exact pa_dj_ok h ⟨a2, a3⟩ ⟨b2, b3⟩
    · cases h
  · exact (pa_2n s1 s2 t1 t2 h).elim
  · exact (pa_3n s1 s2 t1 t2 h).elim
  · exact (pa_3n t1 t2 s1 s2 h).elim
  · rw [Bool.and_eq_true, Bool.and_eq_true] at h
    obtain ⟨h1, -, h3⟩ := h
    refine ⟨pa_q_ok s1 t1 h1 s3 t3, fun t v hv => ?_⟩
    obtain ⟨w, hw, hq⟩ := pa_all2 h3 t v hv
    exact pa_q_ok s1 t1 hq (s4 t v hv) (t4 t w hw)
