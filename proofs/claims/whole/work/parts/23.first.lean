/-! ===== the first of which something is true ===== -/
noncomputable def em_fst (p : Nat → Prop) : Nat → Option Nat
  | 0 => none
  | n + 1 => match em_fst p n with
    | some t => some t
    | none => @ite _ (p n) (Classical.propDecidable _) (some n) none
theorem em_fst_none {p : Nat → Prop} : ∀ {n : Nat}, (∀ u, u < n → ¬ p u) → em_fst p n = none := by
  intro n
  induction n with
  | zero => intro _; rfl
  | succ n ih =>
    intro h
    simp only [em_fst, ih (fun u hu => h u (by omega))]
    simp [h n (by omega)]
theorem em_fst_some {p : Nat → Prop} {t : Nat} (hp : p t) (h : ∀ u, u < t → ¬ p u) : ∀ {n : Nat}, t < n → em_fst p n = some t := by
  intro n
  induction n with
  | zero => intro ht; omega
  | succ n ih =>
    intro ht
    by_cases htn : t = n
    · subst htn
      simp only [em_fst, em_fst_none h]
      simp [hp]
    · simp only [em_fst, ih (by omega)]
theorem em_fst_eq_none {p : Nat → Prop} {n : Nat} (h : em_fst p n = none) : ∀ u, u < n → ¬ p u := by
  induction n with
  | zero => intro u hu; omega
  | succ n ih =>
    simp only [em_fst] at h
    cases hf : em_fst p n with
    | some t => rw [hf] at h; cases h
    | none =>
      rw [hf] at h
      intro u hu hpu
      by_cases hun : u = n
      · subst hun
        simp [hpu] at h
      · exact ih hf u (by omega) hpu
theorem em_fst_lt {p : Nat → Prop} {n t : Nat} (h : em_fst p n = some t) : t < n ∧ p t := by
  induction n with
  | zero => cases h
  | succ n ih =>
    simp only [em_fst] at h
    cases hf : em_fst p n with
    | some u =>
      rw [hf] at h
      cases h
      exact ⟨by have := (ih hf).1; omega, (ih hf).2⟩
    | none =>
      rw [hf] at h
      by_cases hp : p n
      · simp [hp] at h
        subst h
        exact ⟨by omega, hp⟩
      · simp [hp] at h
/-- the least block that keeps an edition from being right -/
noncomputable def em_fault (E : em_E) : Option Nat := match em_fst (em_unw E) (em_n E) with
  | some t => some t
  | none => em_fst (em_cyc E) (em_n E)
theorem em_fault_none {E : em_E} : em_fault E = none ↔ em_right E := by
  unfold em_fault em_right
  cases h : em_fst (em_unw E) (em_n E) with
  | some t =>
    have := em_fst_lt h
    simp only [reduceCtorEq, false_iff]
    exact fun hr => hr.1 t this.1 this.2
  | none =>
    have h1 := em_fst_eq_none h
    constructor
    · exact fun h2 => ⟨h1, em_fst_eq_none h2⟩
    · exact fun hr => em_fst_none hr.2
theorem em_fault_lt {E : em_E} {t : Nat} (h : em_fault E = some t) : t < em_n E := by
  unfold em_fault at h
  cases hf : em_fst (em_unw E) (em_n E) with
  | some u => rw [hf] at h; cases h; exact (em_fst_lt hf).1
  | none => rw [hf] at h; exact (em_fst_lt h).1
theorem em_nd_le (k : Nat) : em_nd k ≤ 2 := by unfold em_nd; split <;> (try split) <;> omega
