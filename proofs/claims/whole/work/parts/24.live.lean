/-! ===== live blocks; the k-th of which something is true; how editions change ===== -/
def em_lv (E : em_E) (b : Nat) : Prop := ∀ S : Nat → Prop, (∀ j t, j < 3 → em_o E j = some t → S t) → (∀ u t, S u → em_at E u t → S t) → S b
theorem em_lv_out {E : em_E} {j t : Nat} (hj : j < 3) (h : em_o E j = some t) : em_lv E t := fun _ h1 _ => h1 j t hj h
theorem em_lv_in {E : em_E} {u t : Nat} (h : em_lv E u) (h2 : em_at E u t) : em_lv E t := fun S h1 h3 => h3 u t (h S h1 h3) h2
theorem em_lv_lt {P : Nat} {E : em_E} (hw : em_wf P E) {t : Nat} (h : em_lv E t) : t < em_n E :=
  h (fun t => t < em_n E) (fun j t _ h => hw.2.2.2.1 j t h) (fun u t _ h => by obtain ⟨-, i, -, hi⟩ := h; exact (hw.2.2.1 u i t hi).2)
noncomputable def em_nth (p : Nat → Prop) (n k : Nat) : Option Nat := em_fst (fun t => p t ∧ em_ct p t = k) n
theorem em_ct_succ (p : Nat → Prop) (n : Nat) : (p n → em_ct p (n + 1) = em_ct p n + 1) ∧ (¬ p n → em_ct p (n + 1) = em_ct p n) := by
  constructor
  · intro h; simp [em_ct, h]
  · intro h; simp [em_ct, h]
theorem em_ct_pos {p : Nat → Prop} {n t : Nat} (ht : t < n) (hp : p t) : 1 ≤ em_ct p n := by
  have h := em_ct_lt (p := fun _ => False) (q := p) n (fun _ _ h => h.elim) t ht hp (fun h => h)
  omega
/-- a block more -/
def em_add (E : em_E) (k : Nat) (m : Int32) : em_E := (em_n E + 1, (fun t => if t = em_n E then k else em_k E t), (fun t => if t = em_n E then m else em_m E t), em_w E, em_o E)
/-- a wire changed -/
def em_rw (E : em_E) (t i : Nat) (o : Option Nat) : em_E := (em_n E, em_k E, em_m E, (fun u j => if u = t ∧ j = i then o else em_w E u j), em_o E)
/-- an output changed -/
def em_co (E : em_E) (j : Nat) (o : Option Nat) : em_E := (em_n E, em_k E, em_m E, em_w E, fun i => if i = j then o else em_o E i)
theorem em_dl_add (E : em_E) (k : Nat) (m : Int32) : ∀ t, t ≤ em_n E → em_dl (em_add E k m) t = em_dl E t := by
  intro t
  induction t with
  | zero => intro _; rfl
  | succ t ih =>
    intro h
    have e : em_k (em_add E k m) t = em_k E t := if_neg (by omega)
    simp only [em_dl, ih (by omega), e]
theorem em_dl_add_n (E : em_E) (k : Nat) (m : Int32) : em_dl (em_add E k m) (em_n E + 1) = em_dl E (em_n E) + if k = 6 then 1 else 0 := by
  have e : em_k (em_add E k m) (em_n E) = k := if_pos rfl
  simp only [em_dl, em_dl_add E k m _ (Nat.le_refl _), e]
theorem em_dl_mono (E : em_E) : ∀ (d t : Nat), em_dl E t ≤ em_dl E (t + d) := by
  intro d t
  induction d with
  | zero => exact Nat.le_refl _
  | succ d ih => exact Nat.le_trans ih (by show _ ≤ em_dl E (t + d) + _; omega)
theorem em_dl_lt {E : em_E} {t n : Nat} (ht : t < n) (hk : em_k E t = 6) : em_dl E t < em_dl E n := by
  have h1 : em_dl E (t + 1) = em_dl E t + 1 := by simp [em_dl, hk]
  have h2 := em_dl_mono E (n - (t + 1)) (t + 1)
  rw [show t + 1 + (n - (t + 1)) = n by omega] at h2
  omega
theorem es_upx (σ : es_S) (k j : Nat) (x : Int32) (a c : Nat) : es_up σ k j x a c = if a = k then (if c = j then x else σ a c) else σ a c := by
  unfold es_up upd
  by_cases h : a = k
  · subst h; simp
  · simp [h]
theorem es_upf (σ : es_S) (k j : Nat) (x : Int32) {a : Nat} (h : a ≠ k) : es_up σ k j x a = σ a := if_neg h
