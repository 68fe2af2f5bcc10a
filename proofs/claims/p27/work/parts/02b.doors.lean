/-! ===== what doors answers, in the machine's own numbers ===== -/
/-- i steps of a product that is divided as it goes -/
def dr_v (n : Int32) : Nat → Int64
  | 0 => 1
  | i + 1 => dr_v n i * (n - Int32.ofNat i).toInt64 / (Int32.ofNat i + 1).toInt64
def dr_c (n k : Int32) : Int64 := if k < 0 ∨ n < k then 0 else dr_v n k.toInt.toNat
def dr_f (a d m j : Int32) : Int64 := dr_c m j * dr_c (a - m) (d - j)
/-- i rows of ways, from a row on -/
def dr_s (a d m b : Int32) : Nat → Int64
  | 0 => 0
  | i + 1 => dr_s a d m b i + dr_f a d m (b + Int32.ofNat i)
def dr_w (a d m b t : Int32) : Int64 := dr_s a d m b (t.toInt + 1 - b.toInt).toNat
def dr_b (a d h m : Int32) : Bool := decide (dr_c a d ≤ 20 * dr_w a d m 0 h) && decide (dr_c a d ≤ 20 * dr_w a d m h d)
/-- the first and the last so far -/
def dr_l (p : Int32 → Bool) : Nat → Int32
  | 0 => -1
  | i + 1 => if p (Int32.ofNat i) = true ∧ dr_l p i = -1 then Int32.ofNat i else dr_l p i
def dr_m (p : Int32 → Bool) : Nat → Int32
  | 0 => -1
  | i + 1 => if p (Int32.ofNat i) = true then Int32.ofNat i else dr_m p i
def dr_ok (a d h w : Int32) : Bool := decide (1 ≤ a.toInt) && (decide (a.toInt ≤ 60) && (decide (1 ≤ d.toInt) && (decide (d.toInt ≤ 12) && (decide (d.toInt ≤ a.toInt) && (decide (0 ≤ h.toInt) && (decide (h.toInt ≤ d.toInt) && (decide (0 ≤ w.toInt) && decide (w.toInt ≤ 1))))))))
def dr_D (a d h w : Int32) : Int32 := if dr_ok a d h w = true then (if w = 0 then dr_l (dr_b a d h) (a.toInt.toNat + 1) else dr_m (dr_b a d h) (a.toInt.toNat + 1)) else -1
