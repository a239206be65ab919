/-! ===== outs bit by bit; a behaviour that is known ===== -/
def em_or (E : em_E) (v : Nat → Bool) : Nat → Nat
  | 0 => 0
  | q + 1 => em_or E v q + bn (em_vo v (em_o E q)) * 2 ^ q
theorem em_or_lt (E : em_E) (v : Nat → Bool) : ∀ q, em_or E v q < 2 ^ q := by
  intro q
  induction q with
  | zero => exact Nat.one_pos
  | succ q ih =>
    simp only [em_or, Nat.pow_succ]
    have h2 : bn (em_vo v (em_o E q)) * 2 ^ q ≤ 1 * 2 ^ q := Nat.mul_le_mul_right _ (bn_le _)
    omega
theorem em_os_or (E : em_E) (v : Nat → Bool) : em_or E v 3 = em_os E v := by
  simp only [em_or, em_os]
  omega
theorem eb_bn (b : Bool) : eb b = nI (bn b) := by cases b <;> rfl
theorem em_nx_lt (E : em_E) (s r : Nat) : em_nx E s r < 2 ^ em_dl E (em_n E) := em_nr_lt E _ _
/-- all that a behaviour (its object at b) holds of a right edition once it is known: P points, op: the rows that come -/
def bh (E : em_E) (P : Nat) (op : Nat → Prop) (b : Nat) (σ : es_S) : Prop :=
  σ b 10 = nI (2 ^ em_dl E (em_n E)) ∧
  (∀ r s, r < 2 ^ P → s < 32 → em_Sat E (tb s) (tb r) (fun u => bt (σ (b + 2) (r * 24 + u)) s)) ∧
  (∀ r s, r < 2 ^ P → s < 2 ^ em_dl E (em_n E) → σ (b + 3) (r * 32 + s) = nI (em_ou E s r) ∧ σ (b + 4) (r * 32 + s) = nI (em_nx E s r)) ∧
  (∀ s, s < 32 → (bt (σ b 11) s = true ↔ em_rch (em_nx E) op s))
theorem bh_off {E : em_E} {P : Nat} {op : Nat → Prop} {b : Nat} {σ σ' : es_S} (h : bh E P op b σ) (h0 : σ' b 10 = σ b 10) (h1 : σ' b 11 = σ b 11) (h2 : σ' (b + 2) = σ (b + 2)) (h3 : σ' (b + 3) = σ (b + 3)) (h4 : σ' (b + 4) = σ (b + 4)) : bh E P op b σ' := by
  unfold bh at h ⊢
  rw [h0, h1, h2, h3, h4]
  exact h
