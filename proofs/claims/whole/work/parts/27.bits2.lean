/-! ===== more on bits ===== -/
theorem and1 (x : Int32) : x &&& 1 = eb (bt x 0) := by
  cases h : bt x 0 with
  | false => exact (bt_one x).mpr h
  | true =>
    apply b_ext
    intro i hi
    rw [b_and]
    have h1 : ∀ i, i < 32 → bt 1 i = decide (i = 0) := by decide +kernel
    rw [h1 i hi, show eb true = (1 : Int32) from rfl, h1 i hi]
    by_cases h0 : i = 0
    · subst h0; simp [h]
    · simp [h0]
/-- the last five bits -/
def sj (s : Int32) : Nat := (s &&& 31).toNatClampNeg
theorem sj_nonneg (s : Int32) : 0 ≤ s &&& 31 := by
  rw [Int32.le_iff_toInt_le]
  have h : bt (s &&& 31) 31 = false := by rw [b_and]; have : bt 31 31 = false := by decide
                                          rw [this, Bool.and_false]
  have h2 : (s &&& 31).toBitVec.msb = false := by rw [BitVec.msb_eq_getLsbD_last]; exact h
  show (0 : Int32).toInt ≤ (s &&& 31).toBitVec.toInt
  rw [BitVec.toInt_eq_toNat_of_msb h2]
  simp
theorem sj_eq (s : Int32) : s &&& 31 = nI (sj s) := (ez_pos (sj_nonneg s)).symm
theorem sj_bit (s : Int32) {i : Nat} (hi : i < 5) : tb (sj s) i = bt s i := by
  rw [← bt_nI _ (by omega), ← sj_eq, b_and]
  have : ∀ i, i < 5 → bt 31 i = true := by decide +kernel
  rw [this i hi, Bool.and_true]
theorem sj_lt (s : Int32) : sj s < 32 := by
  have h0 := sj_nonneg s
  have hlt : sj s < 2 ^ 31 := by
    unfold sj
    have h2 := Int32.toInt_lt (s &&& 31)
    rw [Int32.toNatClampNeg]
    omega
  refine Classical.byContradiction fun h => ?_
  have h1 : ∀ i, tb (sj s) i = true → i < 5 := by
    intro i hi
    by_cases h32 : i < 32
    · rw [← bt_nI _ h32, ← sj_eq, b_and] at hi
      have : ∀ i, i < 32 → 5 ≤ i → bt 31 i = false := by decide +kernel
      by_cases h5 : i < 5
      · exact h5
      · rw [this i h32 (by omega), Bool.and_false] at hi; cases hi
    · unfold tb at hi
      rw [Nat.testBit_lt_two_pow (Nat.lt_of_lt_of_le hlt (Nat.pow_le_pow_right (by omega) (by omega)))] at hi
      cases hi
  obtain ⟨i, hi1, hi2⟩ := Nat.exists_ge_and_testBit_of_ge_two_pow (x := sj s) (n := 5) (by omega)
  have := h1 i hi2
  omega
theorem sj_nI {x : Nat} (hx : x < 32) : sj (nI x) = x := by
  have : ∀ x, x < 32 → sj (nI x) = x := by decide +kernel
  exact this x hx
theorem not_and0 (x y : Int32) : (x &&& (y ^^^ (-1))) = 0 ↔ ∀ i, i < 32 → bt x i = true → bt y i = true := by
  constructor
  · intro h i hi hx
    have := congrArg (fun z => bt z i) h
    simp only [b_and, b_xor, b_0, b_m1 i hi, hx, Bool.true_and] at this
    simpa using this
  · intro h
    apply b_ext
    intro i hi
    rw [b_and, b_xor, b_m1 i hi, b_0]
    cases hx : bt x i
    · rfl
    · rw [h i hi hx]; rfl
theorem shr_bit (x : Int32) {j : Nat} (hj : j < 32) : (x.toUInt32 >>> ((nI j).toUInt32 &&& Int32.toUInt32 31)).toInt32 &&& 1 = eb (bt x j) := by
  rw [and1, b_ushr j hj, Nat.add_zero]
theorem nI_sub {a b : Nat} (h : b ≤ a) : nI a - nI b = nI (a - b) := by
  have h1 : nI a = nI (a - b) + nI b := by rw [nI_add, Nat.sub_add_cancel h]
  rw [h1, Int32.add_sub_cancel]
/-- the low bits of a small number, by a mask -/
theorem nI_mod {x d : Nat} (hx : x < 2 ^ 31) (hd : d ≤ 5) : nI x &&& nI (2 ^ d - 1) = nI (x % 2 ^ d) := by
  apply b_ext
  intro i hi
  rw [b_and, bt_nI _ hi, bt_nI _ hi, bt_nI _ hi]
  unfold tb
  rw [Nat.testBit_two_pow_sub_one, Nat.testBit_mod_two_pow, Bool.and_comm]
theorem bt_dc : ∀ d, d < 5 → ∀ s, s < 32 → bt (ez_dc d) s = tb s d := by decide +kernel
