/-! ===== numbers ===== -/
def eb (p : Bool) : Int32 := if p then 1 else 0
theorem eb_0 {p : Bool} : eb p = 0 ↔ p = false := by cases p <;> decide
theorem eb_t : eb true = 1 := rfl
theorem eb_f : eb false = 0 := rfl
theorem eb_nar (p : Bool) : narrow .boolean (.int (eb p)) = .int (eb p) := by cases p <;> rfl
theorem ez_pos {a : Int32} (h : 0 ≤ a) : nI a.toNatClampNeg = a := by
  unfold nI
  apply Int32.toInt_inj.mp
  have h1 : 0 ≤ a.toInt := by simpa using Int32.le_iff_toInt_le.mp h
  have h2 := Int32.toInt_lt a
  rw [Int32.toInt_ofNat_of_lt (by rw [Int32.toNatClampNeg]; omega)]
  rw [Int32.toNatClampNeg]
  omega
theorem ez_lt {a : Int32} {n : Nat} (h : 0 ≤ a) (h2 : a < nI n) (hn : n < 2 ^ 31) : a.toNatClampNeg < n := by
  have h1 : 0 ≤ a.toInt := by simpa using Int32.le_iff_toInt_le.mp h
  have h3 := Int32.lt_iff_toInt_lt.mp h2
  rw [nI_toInt hn] at h3
  rw [Int32.toNatClampNeg]
  omega
theorem ez_vin {a : Int32} {n : Nat} (h : 0 ≤ a) (h2 : a < nI n) (hn : n < 2 ^ 31) : vp_in a n := by
  intro hc
  have := ez_lt h h2 hn
  rcases hc with hc | hc
  · exact absurd h (by rw [Int32.not_le]; exact hc)
  · omega
theorem ez_vinN {b n : Nat} (h : b < n) (hn : n < 2 ^ 31) : vp_in (nI b) n := nI_in h hn
theorem ez_inc (b : Nat) : nI b + Int32.ofInt 1 = nI (b + 1) := (nI_succ b).symm
theorem nI_mul (a b : Nat) : nI a * nI b = nI (a * b) := by
  unfold nI
  exact (Int32.ofNat_mul a b).symm
