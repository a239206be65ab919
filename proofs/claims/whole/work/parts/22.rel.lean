/-! ===== what the cells say of an edition ===== -/
def en (o : Option Nat) : Int32 := match o with
  | some t => nI t
  | none => -1
theorem en_ne {t : Nat} (h : t < 2 ^ 31) : nI t ≠ -1 := by
  intro e
  have := congrArg Int32.toInt e
  rw [nI_toInt h] at this
  have h2 : (-1 : Int32).toInt = -1 := by decide
  rw [h2] at this
  omega
theorem en_none {o : Option Nat} (h : ∀ t, o = some t → t < 2 ^ 31) : en o = -1 ↔ o = none := by
  cases o with
  | none => simp [en]
  | some t => simp only [en, reduceCtorEq, iff_false]; exact en_ne (h t rfl)
/-- is a number at least 0 and below another -/
def ew (a n : Int32) : Bool := !decide (a < 0) && !decide (n ≤ a)
theorem ew_nI {a n : Nat} (ha : a < 2 ^ 31) (hn : n < 2 ^ 31) : ew (nI a) (nI n) = decide (a < n) := by
  unfold ew
  have h1 : ¬ nI a < 0 := nI_pos ha
  by_cases h : a < n
  · simp [h1, h, nI_ge h hn]
  · simp [h, nI_le (Nat.le_of_not_lt h) ha]
theorem ew_t {a n : Int32} (h : ew a n = true) : 0 ≤ a ∧ a < n := by
  unfold ew at h
  simp only [Bool.and_eq_true, Bool.not_eq_true', decide_eq_false_iff_not] at h
  exact ⟨Int32.not_lt.mp h.1, Int32.not_le.mp h.2⟩
theorem ew_n {a : Int32} {n : Nat} (h : ew a (nI n) = true) (hn : n < 2 ^ 31) : a.toNatClampNeg < n ∧ nI a.toNatClampNeg = a := ⟨ez_lt (ew_t h).1 (ew_t h).2 hn, ez_pos (ew_t h).1⟩
theorem ew_m1 (n : Int32) : ew (-1) n = false := by simp [ew]
/-- a set of numbers below 32, and a number: is it in -/
def eh (s a : Int32) : Bool := ew a 32 && !decide (((s.toUInt32 >>> (a.toUInt32 &&& Int32.toUInt32 31)).toInt32 &&& 1) = 0)
theorem bt_one (x : Int32) : (x &&& 1) = 0 ↔ bt x 0 = false := by
  constructor
  · intro h
    have := congrArg (fun z => bt z 0) h
    simp only [b_and, b_0] at this
    rw [show bt 1 0 = true from by decide] at this
    simpa using this
  · intro h
    apply b_ext
    intro i hi
    rw [b_and, b_0]
    by_cases h0 : i = 0
    · subst h0; rw [h]; rfl
    · have : ∀ i, i < 32 → i ≠ 0 → bt 1 i = false := by decide +kernel
      rw [this i hi h0, Bool.and_false]
theorem eh_nI (s : Int32) {a : Nat} (ha : a < 2 ^ 31) : eh s (nI a) = bt s a := by
  unfold eh
  have h32 : (32 : Int32) = nI 32 := rfl
  rw [h32, ew_nI ha (by omega)]
  by_cases h : a < 32
  · simp only [h, decide_true, Bool.true_and]
    have e1 := b_ushr a h s 0
    rw [Nat.add_zero] at e1
    have e2 := bt_one ((s.toUInt32 >>> ((nI a).toUInt32 &&& Int32.toUInt32 31)).toInt32)
    rw [e1] at e2
    cases hb : bt s a
    · rw [hb] at e2
      simp [e2.mpr rfl]
    · rw [hb] at e2
      have : ¬ (((s.toUInt32 >>> ((nI a).toUInt32 &&& Int32.toUInt32 31)).toInt32 &&& 1) = 0) := fun hc => by simpa using e2.mp hc
      simp [this]
  · simp only [h, decide_false, Bool.false_and]
    exact (b_big (by omega)).symm
/-- the bit of a number -/
def eo (a : Int32) : Int32 := if ew a 32 then 1 <<< (a &&& 31) else 0
theorem bt_eo {a : Nat} (ha : a < 2 ^ 31) {j : Nat} (hj : j < 32) : bt (eo (nI a)) j = decide (j = a) := by
  unfold eo
  have h32 : (32 : Int32) = nI 32 := rfl
  rw [h32, ew_nI ha (by omega)]
  by_cases h : a < 32
  · simp only [h, decide_true, if_true]
    rw [b_shl a h 1 hj]
    have h1 : ∀ i, i < 32 → bt 1 i = decide (i = 0) := by decide +kernel
    rw [h1 (j - a) (by omega)]
    by_cases hja : j = a
    · subst hja; simp
    · by_cases hle : a ≤ j
      · have : ¬ (j - a = 0) := by omega
        simp [hja, hle, this]
      · simp [hja, hle]
  · simp only [h, decide_false, Bool.false_eq_true, if_false, b_0]
    rw [eq_comm, decide_eq_false_iff_not]
    omega
theorem eo_m1 : eo (-1) = 0 := by simp [eo, ew_m1]
theorem bt_en {o : Option Nat} (ho : ∀ t, o = some t → t < 2 ^ 31) {j : Nat} (hj : j < 32) : bt (eo (en o)) j = decide (o = some j) := by
  cases o with
  | none => simp only [en, eo_m1, b_0]; simp
  | some t =>
    simp only [en]
    rw [bt_eo (ho t rfl) hj]
    simp [eq_comm]
/-- the class's cells of an edition, its object at place b -/
def rc (E : em_E) (b : Nat) (σ : es_S) : Prop :=
  σ b 8 = nI (em_n E) ∧ σ b 9 = nI (em_dl E (em_n E)) ∧
  (∀ t, t < em_n E → σ (b + 1) t = nI (em_k E t)) ∧
  (∀ t, t < em_n E → σ (b + 2) t = if em_k E t = 6 then nI (em_dl E t) else em_m E t) ∧
  (∀ t, t < em_n E → σ (b + 3) t = nI (em_nd (em_k E t))) ∧
  (∀ t i, t < 24 → i < 2 → σ (b + 4) (t * 2 + i) = en (em_w E t i)) ∧
  (∀ t j, t < 24 → j < 32 → (bt (σ (b + 5) t) j = true ↔ em_at E t j)) ∧
  (∀ j, j < 3 → σ (b + 6) j = en (em_o E j)) ∧
  (∀ j, j < em_dl E (em_n E) → ∃ t, t < em_n E ∧ em_k E t = 6 ∧ em_dl E t = j ∧ σ (b + 7) j = nI t)
/-- it says nothing of the object's room for 'ahead', and of no other place -/
theorem rc_off {E : em_E} {b : Nat} {σ σ' : es_S} (h : rc E b σ) (hs : ∀ k, b ≤ k → k ≤ b + 7 → σ' k = σ k) : rc E b σ' := by
  unfold rc at h ⊢
  rw [hs b (by omega) (by omega), hs (b + 1) (by omega) (by omega), hs (b + 2) (by omega) (by omega), hs (b + 3) (by omega) (by omega), hs (b + 4) (by omega) (by omega), hs (b + 5) (by omega) (by omega), hs (b + 6) (by omega) (by omega), hs (b + 7) (by omega) (by omega)]
  exact h
