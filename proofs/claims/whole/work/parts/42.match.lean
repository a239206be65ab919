/-! ===== blocks matched by structure ===== -/
def mt_sort (E F : em_E) (a b : Nat) : Prop := em_k E a = em_k F b ∧ (em_k E a ≤ 1 → em_m E a = em_m F b)
def em_M (E F : em_E) (a b : Nat) : Prop := ∀ S : Nat → Nat → Prop, (∀ j x y, j < 3 → em_o E j = some x → em_o F j = some y → S x y) → (∀ u v i x y, S u v → mt_sort E F u v → i < em_nd (em_k E u) → em_w E u i = some x → em_w F v i = some y → S x y) → S a b
theorem em_M_o {E F : em_E} {j x y : Nat} (hj : j < 3) (h1 : em_o E j = some x) (h2 : em_o F j = some y) : em_M E F x y := fun _ h _ => h j x y hj h1 h2
theorem em_M_w {E F : em_E} {u v i x y : Nat} (h : em_M E F u v) (hs : mt_sort E F u v) (hi : i < em_nd (em_k E u)) (h1 : em_w E u i = some x) (h2 : em_w F v i = some y) : em_M E F x y := fun S g1 g2 => g2 u v i x y (h S g1 g2) hs hi h1 h2
theorem em_M_lt {P : Nat} {E F : em_E} (hw : em_wf P E) (hv : em_wf P F) {a b : Nat} (h : em_M E F a b) : a < em_n E ∧ b < em_n F :=
  h (fun x y => x < em_n E ∧ y < em_n F) (fun _ _ _ _ h1 h2 => ⟨hw.2.2.2.1 _ _ h1, hv.2.2.2.1 _ _ h2⟩) (fun _ _ _ _ _ _ _ _ h1 h2 => ⟨(hw.2.2.1 _ _ _ h1).2, (hv.2.2.1 _ _ _ h2).2⟩)
def em_same (E F : em_E) : Prop := (∀ j, j < 3 → (em_o E j = none ↔ em_o F j = none)) ∧ (∀ a b, em_M E F a b → mt_sort E F a b) ∧ (∀ a b c, em_M E F a b → em_M E F a c → b = c) ∧ (∀ a b c, em_M E F a c → em_M E F b c → a = b)
def mp_I (E F : em_E) (pt pb : Nat → Option Nat) (q : Nat → Nat) (m : Nat) (σ : es_S) : Prop :=
  σ 42 5 = nI m ∧ m ≤ 24 ∧ em_ct (fun a => pt a ≠ none) 24 = m ∧ (∀ a, a < 24 → σ 43 a = en (pt a)) ∧ (∀ b, b < 24 → σ 44 b = en (pb b)) ∧ (∀ i, i < m → σ 45 i = nI (q i) ∧ pt (q i) ≠ none) ∧ (∀ a b, pt a = some b ↔ pb b = some a) ∧ (∀ a b, pt a = some b → a < em_n E ∧ b < em_n F ∧ em_M E F a b ∧ mt_sort E F a b) ∧ (∀ a, pt a ≠ none → ∃ i, i < m ∧ q i = a)
theorem en_inj {o o' : Option Nat} (h : ∀ t, o = some t → t < 2 ^ 31) (h' : ∀ t, o' = some t → t < 2 ^ 31) : en o = en o' ↔ o = o' := by
  cases o with
  | none =>
    cases o' with
    | none => simp
    | some t => exact ⟨fun g => absurd g.symm (en_ne (h' t rfl)), fun g => by cases g⟩
  | some s =>
    cases o' with
    | none => exact ⟨fun g => absurd g (en_ne (h s rfl)), fun g => by cases g⟩
    | some t =>
      show nI s = nI t ↔ _
      rw [nI_eq (h s rfl) (h' t rfl)]
      exact ⟨fun g => by rw [g], fun g => by injection g⟩
theorem ew24 {o : Option Nat} (ho : ∀ t, o = some t → t < 24) : ew (en o) 24 = o.isSome := by
  cases o with
  | none => exact ew_m1 24
  | some t =>
    have := ho t rfl
    show ew (nI t) (nI 24) = true
    rw [ew_nI (by omega) (by omega)]
    exact decide_eq_true this
theorem mp_room {E F : em_E} {pt pb : Nat → Option Nat} {q : Nat → Nat} {m : Nat} {σ : es_S} (h : mp_I E F pt pb q m σ) {a : Nat} (ha : a < 24) (hp : pt a = none) : m < 24 := by
  have h1 := em_ct_lt (p := fun a => pt a ≠ none) (q := fun _ => True) 24 (fun _ _ _ => trivial) a ha trivial (fun g => g hp)
  have h2 := em_ct_n (fun _ => True) 24
  have h3 := h.2.2.1
  omega
theorem mp_add {E F : em_E} {pt pb : Nat → Option Nat} {q : Nat → Nat} {m : Nat} {σ : es_S} (h : mp_I E F pt pb q m σ) (hE : em_n E ≤ 24) (hF : em_n F ≤ 24) {a b : Nat} (ha : a < em_n E) (hb : b < em_n F) (hp : pt a = none) (hq : pb b = none) (hM : em_M E F a b) (hs : mt_sort E F a b) :
    mp_I E F (fun u => if u = a then some b else pt u) (fun u => if u = b then some a else pb u) (fun i => if i = m then a else q i) (m + 1) (es_up (es_up (es_up (es_up σ 43 a (nI b)) 44 b (nI a)) 45 m (nI a)) 42 5 (nI (m + 1))) := by
  have hroom := mp_room h (show a < 24 by omega) hp
  obtain ⟨h1, h2, h3, h4, h5, h6, h7, h8, h9⟩ := h
  refine ⟨by simp [es_upx], by omega, ?_, fun x hx => ?_, fun x hx => ?_, fun i hi => ?_, fun x y => ?_, fun x y hxy => ?_, fun x hx => ?_⟩
  · rw [em_ct_add (p := fun a => pt a ≠ none) (x := a) (fun g => g hp) (fun y => ?_) 24 (by omega), h3]
    by_cases hy : y = a
    · simp [hy]
    · simp [hy]
  · by_cases hxa : x = a
    · simp [es_upx, hxa, en]
    · simp [es_upx, hxa, h4 x hx]
  · by_cases hxb : x = b
    · simp [es_upx, hxb, en]
    · simp [es_upx, hxb, h5 x hx]
  · by_cases him : i = m
    · simp [es_upx, him]
    · have := h6 i (by omega)
      refine ⟨by simp [es_upx, him, this.1], ?_⟩
      simp only [him, if_false]
      by_cases hqa : q i = a
      · simp [hqa]
      · simp [hqa, this.2]
  · by_cases hxa : x = a
    · by_cases hyb : y = b
      · simp [hxa, hyb]
      · simp only [hxa, hyb, if_true, if_false]
        constructor
        · intro g; injection g with g; exact absurd g.symm hyb
        · intro g; rw [← h7] at g; rw [hp] at g; cases g
    · by_cases hyb : y = b
      · simp only [hxa, hyb, if_true, if_false]
        constructor
        · intro g; rw [h7, hq] at g; cases g
        · intro g; injection g with g; exact absurd g.symm hxa
      · simp only [hxa, hyb, if_false]; exact h7 x y
  · by_cases hxa : x = a
    · simp only [hxa, if_true] at hxy
      injection hxy with hxy
      rw [hxa, ← hxy]
      exact ⟨ha, hb, hM, hs⟩
    · simp only [hxa, if_false] at hxy
      exact h8 x y hxy
  · by_cases hxa : x = a
    · exact ⟨m, by omega, by simp [hxa]⟩
    · simp only [hxa, if_false] at hx
      obtain ⟨i, i1, i2⟩ := h9 x hx
      exact ⟨i, by omega, by simp only [show ¬ i = m by omega, if_false]; exact i2⟩
/-- all is matched: the pairs are those of the least relation -/
theorem mp_end {P : Nat} {E F : em_E} {pt pb : Nat → Option Nat} {q : Nat → Nat} {m : Nat} {σ : es_S} (h : mp_I E F pt pb q m σ)
    (ho : ∀ j, j < 3 → (em_o E j = none ∧ em_o F j = none) ∨ ∃ a b, em_o E j = some a ∧ em_o F j = some b ∧ pt a = some b)
    (hi : ∀ i u v k x y, i < m → q i = u → pt u = some v → k < em_nd (em_k E u) → em_w E u k = some x → em_w F v k = some y → pt x = some y) :
    em_same E F ∧ ∀ a b, em_M E F a b ↔ pt a = some b := by
  obtain ⟨h1, h2, h3, h4, h5, h6, h7, h8, h9⟩ := h
  have hsub : ∀ a b, em_M E F a b → pt a = some b := fun a b hab => hab (fun a b => pt a = some b) (fun j x y hj hx hy => by
      rcases ho j hj with g | ⟨a, b, g1, g2, g3⟩
      · rw [hx] at g; cases g.1
      · rw [hx] at g1; rw [hy] at g2
        injection g1 with g1; injection g2 with g2
        rw [g1, g2]; exact g3) (fun u v k x y huv hs hk hx hy => by
      obtain ⟨i, i1, i2⟩ := h9 u (by rw [huv]; simp)
      exact hi i u v k x y i1 i2 huv hk hx hy)
  refine ⟨⟨fun j hj => ?_, fun a b hab => (h8 a b (hsub a b hab)).2.2.2, fun a b c hb hc => ?_, fun a b c hb hc => ?_⟩, fun a b => ⟨hsub a b, fun g => (h8 a b g).2.2.1⟩⟩
  · rcases ho j hj with g | ⟨a, b, g1, g2, g3⟩
    · simp [g.1, g.2]
    · simp [g1, g2]
  · have g1 := hsub a b hb
    have g2 := hsub a c hc
    rw [g1] at g2; injection g2
  · have g1 := (h7 _ _).mp (hsub a c hb)
    have g2 := (h7 _ _).mp (hsub b c hc)
    rw [g1] at g2; injection g2
