/-! ===== classes of states ===== -/
/-- told apart by rows that come -/
def em_ap (ou nx : Nat → Nat → Nat) (op : Nat → Prop) (s t : Nat) : Prop := ∀ R : Nat → Nat → Prop, (∀ s t r, op r → ou s r ≠ ou t r → R s t) → (∀ s t r, op r → R (nx s r) (nx t r) → R s t) → R s t
theorem em_ap_o {ou nx : Nat → Nat → Nat} {op : Nat → Prop} {s t r : Nat} (ho : op r) (h : ou s r ≠ ou t r) : em_ap ou nx op s t := fun _ h1 _ => h1 s t r ho h
theorem em_ap_n {ou nx : Nat → Nat → Nat} {op : Nat → Prop} {s t r : Nat} (ho : op r) (h : em_ap ou nx op (nx s r) (nx t r)) : em_ap ou nx op s t := fun R h1 h2 => h2 s t r ho (h R h1 h2)
/-- the first ones of their classes, by a relation, among those of which p is true -/
def em_ft (p : Nat → Prop) (E : Nat → Nat → Prop) (s : Nat) : Prop := p s ∧ ∀ t, t < s → p t → ¬ E s t
theorem em_ft_ex {p : Nat → Prop} {E : Nat → Nat → Prop} (hs : ∀ s t, p s → p t → E s t → E t s) (ht : ∀ s t u, p s → p t → p u → E s t → E t u → E s u) (hr : ∀ s, p s → E s s) {s : Nat} (h : p s) : ∃ f, f ≤ s ∧ em_ft p E f ∧ E s f := by
  have key : ∀ n s, s ≤ n → p s → ∃ f, f ≤ s ∧ em_ft p E f ∧ E s f := by
    intro n
    induction n with
    | zero => intro s hn hp; exact ⟨s, Nat.le_refl _, ⟨hp, fun t ht => by omega⟩, hr s hp⟩
    | succ n ih =>
      intro s hn hp
      by_cases hc : ∃ t, t < s ∧ p t ∧ E s t
      · obtain ⟨t, t1, t2, t3⟩ := hc
        obtain ⟨f, f1, f2, f3⟩ := ih t (by omega) t2
        exact ⟨f, by omega, f2, ht s t f hp t2 f2.1 t3 f3⟩
      · exact ⟨s, Nat.le_refl _, ⟨hp, fun t t1 t2 t3 => hc ⟨t, t1, t2, t3⟩⟩, hr s hp⟩
  exact key s s (Nat.le_refl _) h
/-- a finer relation with as many classes is the same -/
theorem em_ft_same {p : Nat → Prop} {E F : Nat → Nat → Prop} {n : Nat} (hE : (∀ s, p s → E s s) ∧ (∀ s t, p s → p t → E s t → E t s) ∧ (∀ s t u, p s → p t → p u → E s t → E t u → E s u)) (hF : (∀ s, p s → F s s) ∧ (∀ s t, p s → p t → F s t → F t s) ∧ (∀ s t u, p s → p t → p u → F s t → F t u → F s u))
    (hp : ∀ s, p s → s < n) (hFE : ∀ s t, p s → p t → F s t → E s t) (hc : em_ct (em_ft p F) n ≤ em_ct (em_ft p E) n) : ∀ s t, p s → p t → E s t → F s t := by
  intro s t ps pt hst
  refine Classical.byContradiction fun hno => ?_
  obtain ⟨f, -, f2, f3⟩ := em_ft_ex hF.2.1 hF.2.2 hF.1 ps
  obtain ⟨g, -, g2, g3⟩ := em_ft_ex hF.2.1 hF.2.2 hF.1 pt
  have hfg : f ≠ g := fun h => by subst h; exact hno (hF.2.2 s f t ps f2.1 pt f3 (hF.2.1 t f pt f2.1 g3))
  have hEfg : E f g := hE.2.2 f s g f2.1 ps g2.1 (hE.2.1 s f ps f2.1 (hFE s f ps f2.1 f3)) (hE.2.2 s t g ps pt g2.1 hst (hFE t g pt g2.1 g3))
  have hsub : ∀ x, x < n → em_ft p E x → em_ft p F x := fun x _ h => ⟨h.1, fun t ht pt hf => h.2 t ht pt (hFE x t h.1 pt hf)⟩
  rcases Nat.lt_or_ge f g with hlt | hge
  · have := em_ct_lt (p := em_ft p E) (q := em_ft p F) n hsub g (hp g g2.1) g2 (fun h => h.2 f hlt f2.1 (hE.2.1 f g f2.1 g2.1 hEfg))
    omega
  · have := em_ct_lt (p := em_ft p E) (q := em_ft p F) n hsub f (hp f f2.1) f2 (fun h => h.2 g (by omega) g2.1 hEfg)
    omega
theorem em_ft_mono {p : Nat → Prop} {E F : Nat → Nat → Prop} (n : Nat) (hFE : ∀ s t, p s → p t → F s t → E s t) : em_ct (em_ft p E) n ≤ em_ct (em_ft p F) n :=
  em_ct_le n (fun x _ h => ⟨h.1, fun t ht pt hf => h.2 t ht pt (hFE x t h.1 pt hf)⟩)
theorem em_ct_strict {p : Nat → Prop} {f g : Nat} (hf : p f) (h : f < g) : em_ct p f < em_ct p g := by
  have key : ∀ d, em_ct p f < em_ct p (f + 1 + d) := by
    intro d
    induction d with
    | zero => rw [Nat.add_zero, (em_ct_succ p f).1 hf]; omega
    | succ d ih =>
      by_cases hp : p (f + 1 + d)
      · rw [show f + 1 + (d + 1) = f + 1 + d + 1 from rfl, (em_ct_succ p (f + 1 + d)).1 hp]; omega
      · rw [show f + 1 + (d + 1) = f + 1 + d + 1 from rfl, (em_ct_succ p (f + 1 + d)).2 hp]; exact ih
  have := key (g - (f + 1))
  rw [show f + 1 + (g - (f + 1)) = g by omega] at this
  exact this
theorem em_ct_inj {p : Nat → Prop} {f g : Nat} (hf : p f) (hg : p g) (h : em_ct p f = em_ct p g) : f = g := by
  rcases Nat.lt_trichotomy f g with h1 | h1 | h1
  · have := em_ct_strict hf h1; omega
  · exact h1
  · have := em_ct_strict hg h1; omega
