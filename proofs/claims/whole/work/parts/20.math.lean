/-! ===== THE MATHEMATICS of two editions ===== -/
/-- an edition: how many blocks; their kinds, numbers, wires; its outputs -/
abbrev em_E : Type := Nat × (Nat → Nat) × (Nat → Int32) × (Nat → Nat → Option Nat) × (Nat → Option Nat)
def em_n (E : em_E) : Nat := E.1
def em_k (E : em_E) (b : Nat) : Nat := E.2.1 b
def em_m (E : em_E) (b : Nat) : Int32 := E.2.2.1 b
def em_w (E : em_E) (b i : Nat) : Option Nat := E.2.2.2.1 b i
def em_o (E : em_E) (j : Nat) : Option Nat := E.2.2.2.2 j
/-- how many inputs a kind needs -/
def em_nd (k : Nat) : Nat := if k < 2 then 0 else if 3 ≤ k ∧ k ≤ 5 then 2 else 1
/-- a block of edition b is at a needed input of a block -/
def em_at (E : em_E) (b t : Nat) : Prop := b < em_n E ∧ ∃ i, i < em_nd (em_k E b) ∧ em_w E b i = some t
/-- the same tick -/
def em_ed (E : em_E) (b t : Nat) : Prop := em_at E b t ∧ em_k E b ≠ 6
def em_unw (E : em_E) (b : Nat) : Prop := ∃ i, i < em_nd (em_k E b) ∧ em_w E b i = none
def em_cyc (E : em_E) (b : Nat) : Prop := Relation.TransGen (em_ed E) b b
def em_right (E : em_E) : Prop := (∀ b, b < em_n E → ¬ em_unw E b) ∧ ∀ b, b < em_n E → ¬ em_cyc E b
/-- delays before a block -/
def em_dl (E : em_E) : Nat → Nat
  | 0 => 0
  | b + 1 => em_dl E b + if em_k E b = 6 then 1 else 0
def em_wf (P : Nat) (E : em_E) : Prop :=
  em_n E ≤ 24 ∧ (∀ b, b < em_n E → em_k E b ≤ 6) ∧ (∀ b i t, em_w E b i = some t → b < em_n E ∧ t < em_n E) ∧ (∀ j t, em_o E j = some t → t < em_n E) ∧
  (∀ b, b < em_n E → em_k E b = 0 → ∃ q : Nat, em_m E b = nI q ∧ q < P) ∧ (∀ b, b < em_n E → em_k E b = 1 → em_m E b = 0 ∨ em_m E b = 1) ∧ em_dl E (em_n E) ≤ 5
/-! paths, by the greatest block on the way -/
def em_P (r : Nat → Nat → Prop) : Nat → Nat → Nat → Prop
  | 0, b, t => r b t
  | m + 1, b, t => em_P r m b t ∨ (em_P r m b m ∧ em_P r m m t)
theorem em_P_trans (r : Nat → Nat → Prop) : ∀ (m b c t : Nat), c < m → em_P r m b c → em_P r m c t → em_P r m b t := by
  intro m
  induction m with
  | zero => intro b c t h; omega
  | succ m ih =>
    intro b c t hc h1 h2
    simp only [em_P] at h1 h2 ⊢
    by_cases hcm : c = m
    · subst hcm
      have g1 : em_P r c b c := h1.elim id (fun h => h.1)
      have g2 : em_P r c c t := h2.elim id (fun h => h.2)
      exact Or.inr ⟨g1, g2⟩
    · have hlt : c < m := by omega
      rcases h1 with h1 | ⟨h1, h1'⟩
      · rcases h2 with h2 | ⟨h2, h2'⟩
        · exact Or.inl (ih b c t hlt h1 h2)
        · exact Or.inr ⟨ih b c m hlt h1 h2, h2'⟩
      · rcases h2 with h2 | ⟨h2, h2'⟩
        · exact Or.inr ⟨h1, ih m c t hlt h1' h2⟩
        · exact Or.inr ⟨h1, h2'⟩
theorem em_P_sound (r : Nat → Nat → Prop) : ∀ (m b t : Nat), em_P r m b t → Relation.TransGen r b t := by
  intro m
  induction m with
  | zero => intro b t h; exact .single h
  | succ m ih =>
    intro b t h
    rcases h with h | ⟨h1, h2⟩
    · exact ih b t h
    · exact (ih b m h1).trans (ih m t h2)
theorem em_P_base (r : Nat → Nat → Prop) : ∀ (m b t : Nat), r b t → em_P r m b t := by
  intro m
  induction m with
  | zero => intro b t h; exact h
  | succ m ih => intro b t h; exact Or.inl (ih b t h)
theorem em_P_all {r : Nat → Nat → Prop} {n : Nat} (hr : ∀ b t, r b t → t < n) {b t : Nat} (h : Relation.TransGen r b t) : em_P r n b t := by
  have key : em_P r n b t ∧ t < n := by
    induction h with
    | single h => exact ⟨em_P_base r n _ _ h, hr _ _ h⟩
    | tail _ h ih => exact ⟨em_P_trans r n _ _ _ ih.2 ih.1 (em_P_base r n _ _ h), hr _ _ h⟩
  exact key.1
/-! counting -/
noncomputable def em_ct (p : Nat → Prop) : Nat → Nat
  | 0 => 0
  | n + 1 => em_ct p n + @ite _ (p n) (Classical.propDecidable _) 1 0
theorem em_ct_le {p q : Nat → Prop} : ∀ (n : Nat), (∀ x, x < n → p x → q x) → em_ct p n ≤ em_ct q n := by
  intro n
  induction n with
  | zero => intro _; exact Nat.le_refl _
  | succ n ih =>
    intro h
    have h1 := ih (fun x hx => h x (by omega))
    have h2 := h n (by omega)
    simp only [em_ct]
    by_cases hp : p n
    · simp [hp, h2 hp]; exact h1
    · by_cases hq : q n
      · simp [hp, hq]; omega
      · simp [hp, hq]; exact h1
theorem em_ct_lt {p q : Nat → Prop} : ∀ (n : Nat), (∀ x, x < n → p x → q x) → ∀ y, y < n → q y → ¬ p y → em_ct p n < em_ct q n := by
  intro n
  induction n with
  | zero => intro _ y h; omega
  | succ n ih =>
    intro h y hy hq hp
    simp only [em_ct]
    by_cases hyn : y = n
    · subst hyn
      have h1 := em_ct_le (p := p) (q := q) y (fun x hx => h x (by omega))
      simp [hp, hq]
      omega
    · have h1 := ih (fun x hx => h x (by omega)) y (by omega) hq hp
      have h2 := h n (by omega)
      by_cases hpn : p n
      · simp [hpn, h2 hpn]; exact h1
      · by_cases hqn : q n
        · simp [hpn, hqn]; omega
        · simp [hpn, hqn]; exact h1
theorem em_ct_n (p : Nat → Prop) : ∀ n, em_ct p n ≤ n := by
  intro n
  induction n with
  | zero => exact Nat.le_refl _
  | succ n ih =>
    simp only [em_ct]
    by_cases hp : p n
    · simp [hp]; exact ih
    · simp [hp]; omega
/-! a right edition has ranks -/
noncomputable def em_rk (E : em_E) (b : Nat) : Nat := em_ct (fun t => Relation.TransGen (em_ed E) b t) (em_n E)
theorem em_rk_lt {P : Nat} {E : em_E} (hw : em_wf P E) (hr : em_right E) {b t : Nat} (h : em_ed E b t) : em_rk E t < em_rk E b := by
  have ht : t < em_n E := by
    obtain ⟨⟨-, i, -, hi⟩, -⟩ := h
    exact (hw.2.2.1 b i t hi).2
  exact em_ct_lt (em_n E) (fun x _ hx => (Relation.TransGen.single h).trans hx) t ht (.single h) (hr.2 t ht)
/-! values -/
def em_vo (v : Nat → Bool) (o : Option Nat) : Bool := match o with
  | some t => v t
  | none => false
/-- what a block's value must be, the others' given: s the state's bits, r the row's -/
def em_f (E : em_E) (s r v : Nat → Bool) (b : Nat) : Bool :=
  if em_k E b = 0 then r (em_m E b).toNatClampNeg
  else if em_k E b = 1 then decide (em_m E b = 1)
  else if em_k E b = 2 then !(em_vo v (em_w E b 0))
  else if em_k E b = 3 then em_vo v (em_w E b 0) && em_vo v (em_w E b 1)
  else if em_k E b = 4 then em_vo v (em_w E b 0) || em_vo v (em_w E b 1)
  else if em_k E b = 5 then em_vo v (em_w E b 0) ^^ em_vo v (em_w E b 1)
  else s (em_dl E b)
def em_Sat (E : em_E) (s r v : Nat → Bool) : Prop := ∀ b, b < em_n E → v b = em_f E s r v b
theorem em_f_eq {E : em_E} {P : Nat} (hw : em_wf P E) {s r v v' : Nat → Bool} {b : Nat} (hb : b < em_n E) (h : ∀ t, em_ed E b t → v t = v' t) : em_f E s r v b = em_f E s r v' b := by
  have hk := hw.2.1 b hb
  have vo : ∀ i, i < em_nd (em_k E b) → em_k E b ≠ 6 → em_vo v (em_w E b i) = em_vo v' (em_w E b i) := by
    intro i hi h6
    cases hc : em_w E b i with
    | none => rfl
    | some t => exact h t ⟨⟨hb, i, hi, hc⟩, h6⟩
  unfold em_f
  by_cases h0 : em_k E b = 0
  · simp [h0]
  by_cases h1 : em_k E b = 1
  · simp [h1]
  by_cases h2 : em_k E b = 2
  · simp only [h0, h1, h2, if_false, if_true]
    rw [vo 0 (by rw [h2]; decide) (by omega)]
  by_cases h3 : em_k E b = 3
  · simp only [h0, h1, h2, h3, if_false, if_true]
    rw [vo 0 (by rw [h3]; decide) (by omega), vo 1 (by rw [h3]; decide) (by omega)]
  by_cases h4 : em_k E b = 4
  · simp only [h0, h1, h2, h3, h4, if_false, if_true]
    rw [vo 0 (by rw [h4]; decide) (by omega), vo 1 (by rw [h4]; decide) (by omega)]
  by_cases h5 : em_k E b = 5
  · simp only [h0, h1, h2, h3, h4, h5, if_false, if_true]
    rw [vo 0 (by rw [h5]; decide) (by omega), vo 1 (by rw [h5]; decide) (by omega)]
  simp only [h0, h1, h2, h3, h4, h5, if_false]
/-- a right edition's values are one -/
theorem em_sat_one {P : Nat} {E : em_E} (hw : em_wf P E) (hr : em_right E) {s r v v' : Nat → Bool} (h : em_Sat E s r v) (h' : em_Sat E s r v') : ∀ b, b < em_n E → v b = v' b := by
  have key : ∀ k b, em_rk E b < k → b < em_n E → v b = v' b := by
    intro k
    induction k with
    | zero => intro b h; omega
    | succ k ih =>
      intro b hk hb
      rw [h b hb, h' b hb]
      refine em_f_eq hw hb fun t ht => ih t ?_ ?_
      · have := em_rk_lt hw hr ht
        omega
      · obtain ⟨⟨-, i, -, hi⟩, -⟩ := ht
        exact (hw.2.2.1 b i t hi).2
  exact fun b hb => key _ b (Nat.lt_succ_self _) hb
