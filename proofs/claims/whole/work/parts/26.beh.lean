/-! ===== values, outs, next states, reached states ===== -/
def tb (x i : Nat) : Bool := x.testBit i
theorem bt_nI (x : Nat) {i : Nat} (hi : i < 32) : bt (nI x) i = tb x i := by
  unfold bt nI tb
  show (BitVec.ofNat 32 x).getLsbD i = _
  rw [BitVec.getLsbD_ofNat]
  simp [hi]
def bn (b : Bool) : Nat := if b then 1 else 0
theorem bn_le (b : Bool) : bn b ≤ 1 := by cases b <;> decide
noncomputable def em_val (E : em_E) (s r : Nat → Bool) (b : Nat) : Bool := @decide (∃ v, em_Sat E s r v ∧ v b = true) (Classical.propDecidable _)
theorem em_val_eq {P : Nat} {E : em_E} (hw : em_wf P E) (hr : em_right E) {s r v : Nat → Bool} (h : em_Sat E s r v) {b : Nat} (hb : b < em_n E) : em_val E s r b = v b := by
  unfold em_val
  cases hv : v b with
  | true => exact @decide_eq_true _ (Classical.propDecidable _) ⟨v, h, hv⟩
  | false =>
    refine @decide_eq_false _ (Classical.propDecidable _) ?_
    rintro ⟨v', h', hv'⟩
    rw [em_sat_one hw hr h h' b hb, hv'] at hv
    cases hv
theorem em_Sat_s {P : Nat} {E : em_E} (hw : em_wf P E) {s s' r v : Nat → Bool} (hs : ∀ i, i < 5 → s i = s' i) (h : em_Sat E s r v) : em_Sat E s' r v := by
  intro b hb
  rw [h b hb]
  unfold em_f
  have hk := hw.2.1 b hb
  by_cases h6 : em_k E b = 6
  · have h1 := em_dl_lt hb h6
    have h2 := hw.2.2.2.2.2.2
    simp only [h6]
    simp only [show ¬ (6 = 0) from by decide, show ¬ (6 = 1) from by decide, show ¬ (6 = 2) from by decide, show ¬ (6 = 3) from by decide, show ¬ (6 = 4) from by decide, show ¬ (6 = 5) from by decide, if_false]
    exact hs _ (by omega)
  · by_cases h0 : em_k E b = 0
    · simp [h0]
    by_cases h1 : em_k E b = 1
    · simp [h1]
    by_cases h2 : em_k E b = 2
    · simp [h2]
    by_cases h3 : em_k E b = 3
    · simp [h3]
    by_cases h4 : em_k E b = 4
    · simp [h4]
    by_cases h5 : em_k E b = 5
    · simp [h5]
    omega
theorem em_val_s {P : Nat} {E : em_E} (hw : em_wf P E) {s s' r : Nat → Bool} (hs : ∀ i, i < 5 → s i = s' i) (b : Nat) : em_val E s r b = em_val E s' r b := by
  unfold em_val
  have : (∃ v, em_Sat E s r v ∧ v b = true) ↔ (∃ v, em_Sat E s' r v ∧ v b = true) := ⟨fun ⟨v, h, h2⟩ => ⟨v, em_Sat_s hw hs h, h2⟩, fun ⟨v, h, h2⟩ => ⟨v, em_Sat_s hw (fun i hi => (hs i hi).symm) h, h2⟩⟩
  cases hd : @decide (∃ v, em_Sat E s' r v ∧ v b = true) (Classical.propDecidable _) with
  | true => exact @decide_eq_true _ (Classical.propDecidable _) (this.mpr (@of_decide_eq_true _ (Classical.propDecidable _) hd))
  | false => exact @decide_eq_false _ (Classical.propDecidable _) (fun h => @of_decide_eq_false _ (Classical.propDecidable _) hd (this.mp h))
def em_os (E : em_E) (v : Nat → Bool) : Nat := bn (em_vo v (em_o E 0)) + 2 * bn (em_vo v (em_o E 1)) + 4 * bn (em_vo v (em_o E 2))
def em_nr (E : em_E) (v : Nat → Bool) : Nat → Nat
  | 0 => 0
  | t + 1 => em_nr E v t + if em_k E t = 6 then bn (em_vo v (em_w E t 0)) * 2 ^ em_dl E t else 0
def em_ns (E : em_E) (v : Nat → Bool) : Nat := em_nr E v (em_n E)
theorem em_nr_lt (E : em_E) (v : Nat → Bool) : ∀ t, em_nr E v t < 2 ^ em_dl E t := by
  intro t
  induction t with
  | zero => show 0 < 2 ^ 0; decide
  | succ t ih =>
    simp only [em_nr, em_dl]
    by_cases h : em_k E t = 6
    · simp only [h, if_true, Nat.pow_succ]
      have := bn_le (em_vo v (em_w E t 0))
      have h2 : bn (em_vo v (em_w E t 0)) * 2 ^ em_dl E t ≤ 1 * 2 ^ em_dl E t := Nat.mul_le_mul_right _ this
      omega
    · simp only [h, if_false, Nat.add_zero]
      exact ih
theorem em_nr_same (E : em_E) (v : Nat → Bool) : ∀ (d t : Nat), em_dl E (t + d) = em_dl E t → em_nr E v (t + d) = em_nr E v t := by
  intro d t
  induction d with
  | zero => intro _; rfl
  | succ d ih =>
    intro h
    have h1 := em_dl_mono E d t
    have h2 : em_dl E (t + (d + 1)) = em_dl E (t + d) + if em_k E (t + d) = 6 then 1 else 0 := rfl
    have h3 : ¬ em_k E (t + d) = 6 := fun h6 => by rw [if_pos h6] at h2; omega
    rw [if_neg h3] at h2
    have h4 : em_nr E v (t + (d + 1)) = em_nr E v (t + d) + if em_k E (t + d) = 6 then bn (em_vo v (em_w E (t + d) 0)) * 2 ^ em_dl E (t + d) else 0 := rfl
    rw [h4, if_neg h3, Nat.add_zero]
    exact ih (by omega)
theorem em_nr_dl {E : em_E} {v : Nat → Bool} {t t' : Nat} (h : em_dl E t = em_dl E t') : em_nr E v t = em_nr E v t' := by
  rcases Nat.le_total t t' with hle | hle
  · have := em_nr_same E v (t' - t) t
    rw [show t + (t' - t) = t' by omega] at this
    exact (this h.symm).symm
  · have := em_nr_same E v (t - t') t'
    rw [show t' + (t - t') = t by omega] at this
    exact this h
theorem em_vo_congr {v v' : Nat → Bool} {o : Option Nat} (h : ∀ t, o = some t → v t = v' t) : em_vo v o = em_vo v' o := by
  cases o with
  | none => rfl
  | some t => exact h t rfl
theorem em_os_eq {P : Nat} {E : em_E} (hw : em_wf P E) {v v' : Nat → Bool} (h : ∀ t, t < em_n E → v t = v' t) : em_os E v = em_os E v' := by
  unfold em_os
  rw [em_vo_congr (fun t ht => h t (hw.2.2.2.1 0 t ht)), em_vo_congr (fun t ht => h t (hw.2.2.2.1 1 t ht)), em_vo_congr (fun t ht => h t (hw.2.2.2.1 2 t ht))]
theorem em_nr_eq {P : Nat} {E : em_E} (hw : em_wf P E) {v v' : Nat → Bool} (h : ∀ t, t < em_n E → v t = v' t) : ∀ t, em_nr E v t = em_nr E v' t := by
  intro t
  induction t with
  | zero => rfl
  | succ t ih => simp only [em_nr, ih, em_vo_congr (fun u hu => h u (hw.2.2.1 t 0 u hu).2)]
noncomputable def em_ou (E : em_E) (s r : Nat) : Nat := em_os E (em_val E (tb s) (tb r))
noncomputable def em_nx (E : em_E) (s r : Nat) : Nat := em_ns E (em_val E (tb s) (tb r))
theorem em_os_lt (E : em_E) (v : Nat → Bool) : em_os E v < 8 := by
  unfold em_os
  have h1 := bn_le (em_vo v (em_o E 0))
  have h2 := bn_le (em_vo v (em_o E 1))
  have h3 := bn_le (em_vo v (em_o E 2))
  omega
theorem nI_orbit {a x p : Nat} (ha : a < 2 ^ p) (hx : x ≤ 1) (hp : p < 32) : nI a ||| (nI x <<< (nI p &&& 31)) = nI (a + x * 2 ^ p) := by
  apply b_ext
  intro i hi
  rw [b_or, b_shl p hp _ hi, bt_nI _ hi, bt_nI _ hi]
  have e : a + x * 2 ^ p = 2 ^ p * x ||| a := by
    rw [← Nat.two_pow_add_eq_or_of_lt ha, Nat.mul_comm, Nat.add_comm]
  unfold tb
  rw [e, Nat.testBit_or, Nat.testBit_two_pow_mul]
  by_cases h : p ≤ i
  · rw [bt_nI _ (by omega)]
    unfold tb
    simp only [h, decide_true, Bool.true_and, ge_iff_le]
    rw [Bool.or_comm]
  · simp only [h, decide_false, Bool.false_and, ge_iff_le, Bool.or_false, Bool.false_or]
/-- reached from the first state -/
def em_rch (nx : Nat → Nat → Nat) (op : Nat → Prop) (s : Nat) : Prop := ∀ S : Nat → Prop, S 0 → (∀ t r, S t → op r → S (nx t r)) → S s
theorem em_rch_0 {nx : Nat → Nat → Nat} {op : Nat → Prop} : em_rch nx op 0 := fun _ h _ => h
theorem em_rch_n {nx : Nat → Nat → Nat} {op : Nat → Prop} {t r : Nat} (h : em_rch nx op t) (ho : op r) : em_rch nx op (nx t r) := fun S h0 h1 => h1 t r (h S h0 h1) ho
theorem em_ct_add {p q : Nat → Prop} {x : Nat} (hp : ¬ p x) (hq : ∀ y, q y ↔ p y ∨ y = x) : ∀ n, x < n → em_ct q n = em_ct p n + 1 := by
  have lo : ∀ n, n ≤ x → em_ct q n = em_ct p n := by
    intro n
    induction n with
    | zero => intro _; rfl
    | succ n ih =>
      intro h
      have e : q n ↔ p n := (hq n).trans ⟨fun h2 => h2.elim id (fun h2 => by omega), Or.inl⟩
      have h1 := em_ct_succ p n
      have h2 := em_ct_succ q n
      by_cases hpn : p n
      · rw [h1.1 hpn, h2.1 (e.mpr hpn), ih (by omega)]
      · rw [h1.2 hpn, h2.2 (fun h3 => hpn (e.mp h3)), ih (by omega)]
  intro n
  induction n with
  | zero => intro h; omega
  | succ n ih =>
    intro h
    have h1 := em_ct_succ p n
    have h2 := em_ct_succ q n
    by_cases hxn : x = n
    · subst hxn
      rw [h1.2 hp, h2.1 ((hq x).mpr (Or.inr rfl)), lo x (Nat.le_refl _)]
    · have e : q n ↔ p n := (hq n).trans ⟨fun h2 => h2.elim id (fun h2 => absurd h2.symm hxn), Or.inl⟩
      by_cases hpn : p n
      · rw [h1.1 hpn, h2.1 (e.mpr hpn), ih (by omega)]
      · rw [h1.2 hpn, h2.2 (fun h3 => hpn (e.mp h3)), ih (by omega)]
theorem em_ct_full {p : Nat → Prop} : ∀ n, em_ct p n = n → ∀ x, x < n → p x := by
  intro n h x hx
  refine Classical.byContradiction fun hp => ?_
  have h1 := em_ct_lt (p := p) (q := fun _ => True) n (fun _ _ _ => trivial) x hx trivial hp
  have h2 := em_ct_n (fun _ => True) n
  omega
theorem em_ct_none {p : Nat → Prop} : ∀ n, (∀ x, x < n → ¬ p x) → em_ct p n = 0 := by
  intro n
  induction n with
  | zero => intro _; rfl
  | succ n ih => intro h; rw [(em_ct_succ p n).2 (h n (by omega))]; exact ih (fun x hx => h x (by omega))
theorem em_ct_congr {p q : Nat → Prop} : ∀ n, (∀ x, x < n → (p x ↔ q x)) → em_ct p n = em_ct q n := by
  intro n h
  exact Nat.le_antisymm (em_ct_le n (fun x hx => (h x hx).mp)) (em_ct_le n (fun x hx => (h x hx).mpr))
/-- of those blocks of which p is true, one of least rank -/
theorem em_min {p : Nat → Prop} (rk : Nat → Nat) {v : Nat} (hv : p v) : ∃ u, p u ∧ ∀ t, p t → rk u ≤ rk t := by
  have key : ∀ k v, p v → rk v ≤ k → ∃ u, p u ∧ ∀ t, p t → rk u ≤ rk t := by
    intro k
    induction k with
    | zero => intro v hv hk; exact ⟨v, hv, fun t _ => by omega⟩
    | succ k ih =>
      intro v hv hk
      by_cases h : ∃ t, p t ∧ rk t < rk v
      · obtain ⟨t, h1, h2⟩ := h
        exact ih t h1 (by omega)
      · exact ⟨v, hv, fun t ht => Nat.le_of_not_lt fun hlt => h ⟨t, ht, hlt⟩⟩
  exact key _ v hv (Nat.le_refl _)
