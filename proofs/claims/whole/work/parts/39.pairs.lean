/-! ===== the search over pairs of states ===== -/
abbrev ps_A : Type := (Nat → Nat → Nat) × (Nat → Nat → Nat) × (Nat → Nat → Nat) × (Nat → Nat → Nat) × (Nat → Prop)
abbrev ps_Z : Type := Nat × (Nat → Nat) × (Nat → Nat) × (Nat → Nat) × Option (Nat × Nat)
def po1 (A : ps_A) : Nat → Nat → Nat := A.1
def pn1 (A : ps_A) : Nat → Nat → Nat := A.2.1
def po2 (A : ps_A) : Nat → Nat → Nat := A.2.2.1
def pn2 (A : ps_A) : Nat → Nat → Nat := A.2.2.2.1
def pop (A : ps_A) : Nat → Prop := A.2.2.2.2
def zc (Z : ps_Z) : Nat := Z.1
def zq (Z : ps_Z) : Nat → Nat := Z.2.1
def zf (Z : ps_Z) : Nat → Nat := Z.2.2.1
def zb (Z : ps_Z) : Nat → Nat := Z.2.2.2.1
def zd (Z : ps_Z) : Option (Nat × Nat) := Z.2.2.2.2
def zs (Z : ps_Z) (p : Nat) : Prop := ∃ i, i < zc Z ∧ zq Z i = p
def ps_put (Z : ps_Z) (p f b : Nat) : ps_Z := (zc Z + 1, (fun i => if i = zc Z then p else zq Z i), (fun i => if i = zc Z then f else zf Z i), (fun i => if i = zc Z then b else zb Z i), zd Z)
noncomputable def ps_meet (Z : ps_Z) (p f b : Nat) : ps_Z := @ite ps_Z (zs Z p) (Classical.propDecidable _) Z (ps_put Z p f b)
theorem ps_meet_old {Z : ps_Z} {p f b : Nat} (h : zs Z p) : ps_meet Z p f b = Z := by unfold ps_meet; rw [if_pos h]
theorem ps_meet_new {Z : ps_Z} {p f b : Nat} (h : ¬ zs Z p) : ps_meet Z p f b = ps_put Z p f b := by unfold ps_meet; rw [if_neg h]
def ps_mark (Z : ps_Z) (h r : Nat) : ps_Z := (zc Z, zq Z, zf Z, zb Z, some (h, r))
def ps_dif (A : ps_A) (h r : Nat) (Z : ps_Z) : Prop := zd Z = none ∧ po1 A (zq Z h / 32) r ≠ po2 A (zq Z h % 32) r
noncomputable def ps_diff (A : ps_A) (h r : Nat) (Z : ps_Z) : ps_Z := @ite ps_Z (ps_dif A h r Z) (Classical.propDecidable _) (ps_mark Z h r) Z
theorem ps_diff_t {A : ps_A} {h r : Nat} {Z : ps_Z} (g : ps_dif A h r Z) : ps_diff A h r Z = ps_mark Z h r := by unfold ps_diff; rw [if_pos g]
theorem ps_diff_f {A : ps_A} {h r : Nat} {Z : ps_Z} (g : ¬ ps_dif A h r Z) : ps_diff A h r Z = Z := by unfold ps_diff; rw [if_neg g]
def ps_to (A : ps_A) (h r : Nat) (Z : ps_Z) : Nat := pn1 A (zq Z h / 32) r * 32 + pn2 A (zq Z h % 32) r
noncomputable def ps_step (A : ps_A) (h r : Nat) (Z : ps_Z) : ps_Z := @ite ps_Z (pop A r) (Classical.propDecidable _) (ps_meet (ps_diff A h r Z) (ps_to A h r Z) h r) Z
theorem ps_step_t {A : ps_A} {h r : Nat} {Z : ps_Z} (g : pop A r) : ps_step A h r Z = ps_meet (ps_diff A h r Z) (ps_to A h r Z) h r := by unfold ps_step; rw [if_pos g]
theorem ps_step_f {A : ps_A} {h r : Nat} {Z : ps_Z} (g : ¬ pop A r) : ps_step A h r Z = Z := by unfold ps_step; rw [if_neg g]
noncomputable def ps_rows (A : ps_A) (h : Nat) (Z : ps_Z) : Nat → ps_Z
  | 0 => Z
  | r + 1 => ps_step A h r (ps_rows A h Z r)
def ps_ze : ps_Z := (0, fun _ => 0, fun _ => 0, fun _ => 0, none)
def ps_z0 : ps_Z := ps_put ps_ze 0 0 0
noncomputable def ps_at (A : ps_A) : Nat → ps_Z
  | 0 => ps_z0
  | h + 1 => ps_rows A h (ps_at A h) 16
def ps_fin (A : ps_A) (h : Nat) : Prop := zc (ps_at A h) ≤ h ∧ ∀ g, g < h → g < zc (ps_at A g)
theorem ps_fin_one {A : ps_A} {h g : Nat} (h1 : ps_fin A h) (h2 : ps_fin A g) : h = g := by
  rcases Nat.lt_trichotomy h g with h3 | h3 | h3
  · have := h2.2 h h3; have := h1.1; omega
  · exact h3
  · have := h1.2 g h3; have := h2.1; omega
theorem ps_rows_more {A : ps_A} {h n : Nat} {Z : ps_Z} (hop : ∀ r, pop A r → r < n) : ∀ m, ps_rows A h Z (n + m) = ps_rows A h Z n := by
  intro m
  induction m with
  | zero => rfl
  | succ m ih =>
    show ps_step A h (n + m) (ps_rows A h Z (n + m)) = _
    rw [ps_step_f (fun g => by have := hop _ g; omega), ih]
/-- how many steps back to the first pair -/
def ps_dp (f : Nat → Nat) : Nat → Nat → Nat
  | 0, _ => 0
  | m + 1, k => if k = 0 then 0 else ps_dp f m (f k) + 1
def ps_dep (f : Nat → Nat) (k : Nat) : Nat := ps_dp f k k
theorem ps_dp_fuel {f : Nat → Nat} : ∀ (k m : Nat), k ≤ m → (∀ i, 0 < i → i ≤ k → f i < i) → ps_dp f m k = ps_dp f k k := by
  intro k
  induction k using Nat.strongRecOn with
  | _ k ih =>
    intro m hk hf
    cases k with
    | zero => cases m <;> rfl
    | succ k =>
      cases m with
      | zero => omega
      | succ m =>
        have h1 := hf (k + 1) (by omega) (Nat.le_refl _)
        have h2 : ∀ i, 0 < i → i ≤ f (k + 1) → f i < i := fun i i1 i2 => hf i i1 (by omega)
        show (if k + 1 = 0 then 0 else ps_dp f m (f (k + 1)) + 1) = (if k + 1 = 0 then 0 else ps_dp f k (f (k + 1)) + 1)
        rw [if_neg (by omega), if_neg (by omega), ih _ h1 m (by omega) h2, ih _ h1 k (by omega) h2]
theorem ps_dep_0 (f : Nat → Nat) : ps_dep f 0 = 0 := rfl
theorem ps_dep_s {f : Nat → Nat} {k : Nat} (hk : 0 < k) (hf : ∀ i, 0 < i → i ≤ k → f i < i) : ps_dep f k = ps_dep f (f k) + 1 := by
  cases k with
  | zero => omega
  | succ k =>
    have h1 := hf (k + 1) (by omega) (Nat.le_refl _)
    show (if k + 1 = 0 then 0 else ps_dp f k (f (k + 1)) + 1) = _
    rw [if_neg (by omega), ps_dp_fuel _ k (by omega) (fun i i1 i2 => hf i i1 (by omega))]
    rfl
theorem ps_dep_le {f : Nat → Nat} : ∀ k, (∀ i, 0 < i → i ≤ k → f i < i) → ps_dep f k ≤ k := by
  intro k
  induction k using Nat.strongRecOn with
  | _ k ih =>
    intro hf
    by_cases hk : k = 0
    · rw [hk]; exact Nat.le_refl _
    · have h1 := hf k (by omega) (Nat.le_refl _)
      rw [ps_dep_s (by omega) hf]
      have := ih _ h1 (fun i i1 i2 => hf i i1 (by omega))
      omega
theorem ps_dep_pos {f : Nat → Nat} {k : Nat} (hf : ∀ i, 0 < i → i ≤ k → f i < i) (h : 0 < ps_dep f k) : 0 < k := by
  refine Classical.byContradiction fun hk => ?_
  rw [show k = 0 by omega, ps_dep_0] at h
  omega
theorem ps_dep_eq {f g : Nat → Nat} : ∀ k, (∀ i, 0 < i → i ≤ k → f i < i) → (∀ i, 0 < i → i ≤ k → f i = g i) → ps_dep f k = ps_dep g k := by
  intro k
  induction k using Nat.strongRecOn with
  | _ k ih =>
    intro hf hg
    by_cases hk : k = 0
    · rw [hk]; rfl
    · have h1 := hf k (by omega) (Nat.le_refl _)
      rw [ps_dep_s (by omega) hf, ps_dep_s (f := g) (by omega) (fun i i1 i2 => by rw [← hg i i1 i2]; exact hf i i1 i2), ← hg k (by omega) (Nat.le_refl _)]
      rw [ih _ h1 (fun i i1 i2 => hf i i1 (by omega)) (fun i i1 i2 => hg i i1 (by omega))]
/-- the shown rows' number -/
def ps_n (Z : ps_Z) : Nat := match zd Z with
  | none => 0
  | some (a, _) => ps_dep (zf Z) a + 1
def ps_anc (f : Nat → Nat) (k : Nat) : Nat → Nat
  | 0 => k
  | j + 1 => f (ps_anc f k j)
/-- the row shown at place k -/
def ps_row (Z : ps_Z) (k : Nat) : Nat := match zd Z with
  | none => 0
  | some (a, b) => if ps_n Z ≤ k + 1 then b else zb Z (ps_anc (zf Z) a (ps_n Z - 2 - k))
theorem ps_anc_dep {f : Nat → Nat} {k : Nat} (hf : ∀ i, 0 < i → i ≤ k → f i < i) : ∀ j, j ≤ ps_dep f k → ps_anc f k j ≤ k ∧ ps_dep f (ps_anc f k j) = ps_dep f k - j := by
  intro j
  induction j with
  | zero => intro _; exact ⟨Nat.le_refl _, rfl⟩
  | succ j ih =>
    intro hj
    obtain ⟨h1, h2⟩ := ih (by omega)
    have hp : 0 < ps_anc f k j := ps_dep_pos (fun i i1 i2 => hf i i1 (by omega)) (by omega)
    have h3 := ps_dep_s hp (fun i i1 i2 => hf i i1 (by omega))
    have h4 := hf _ hp h1
    show f (ps_anc f k j) ≤ k ∧ ps_dep f (f (ps_anc f k j)) = _
    exact ⟨by omega, by omega⟩
/-- the outs at the difference -/
def ps_l1 (A : ps_A) (Z : ps_Z) : Int32 := match zd Z with
  | none => -1
  | some (a, b) => nI (po1 A (zq Z a / 32) b)
def ps_l2 (A : ps_A) (Z : ps_Z) : Int32 := match zd Z with
  | none => -1
  | some (a, b) => nI (po2 A (zq Z a % 32) b)
/-- what holds all through the search -/
def ps_I (N1 N2 : Nat) (A : ps_A) (Z : ps_Z) : Prop := (zc Z ≤ 1024 ∧ em_ct (zs Z) 1024 = zc Z) ∧ (∀ i, i < zc Z → zq Z i / 32 < N1 ∧ zq Z i % 32 < N2) ∧ (∀ i, 0 < i → i < zc Z → zf Z i < i) ∧ (∀ a b, zd Z = some (a, b) → a < zc Z ∧ pop A b)
theorem ps_I_le {N1 N2 : Nat} {A : ps_A} {Z : ps_Z} (h : ps_I N1 N2 A Z) : zc Z ≤ 1024 := h.1.1
theorem ps_put_s (Z : ps_Z) (p f b x : Nat) : zs (ps_put Z p f b) x ↔ zs Z x ∨ x = p := by
  constructor
  · rintro ⟨i, i1, i2⟩
    change i < zc Z + 1 at i1
    change (if i = zc Z then p else zq Z i) = x at i2
    by_cases hi : i = zc Z
    · rw [if_pos hi] at i2; exact Or.inr i2.symm
    · rw [if_neg hi] at i2; exact Or.inl ⟨i, by omega, i2⟩
  · rintro (⟨i, i1, i2⟩ | h)
    · exact ⟨i, Nat.lt_succ_of_lt i1, by show (if i = zc Z then p else zq Z i) = x; rw [if_neg (by omega)]; exact i2⟩
    · exact ⟨zc Z, Nat.lt_succ_self _, by show (if zc Z = zc Z then p else zq Z _) = x; rw [if_pos rfl]; exact h.symm⟩
theorem ps_room {N1 N2 : Nat} {A : ps_A} {Z : ps_Z} (h : ps_I N1 N2 A Z) {p : Nat} (hp : p < 1024) (hn : ¬ zs Z p) : zc Z < 1024 := by
  have h1 := em_ct_lt (p := zs Z) (q := fun _ => True) 1024 (fun _ _ _ => trivial) p hp trivial hn
  have h2 := em_ct_n (fun _ => True) 1024
  have h3 := h.1.2
  omega
theorem ps_I_put {N1 N2 : Nat} {A : ps_A} {Z : ps_Z} (h : ps_I N1 N2 A Z) {p f b : Nat} (hN : N1 ≤ 32) (hp1 : p / 32 < N1) (hp2 : p % 32 < N2) (hf : 0 < zc Z → f < zc Z) (hn : ¬ zs Z p) : ps_I N1 N2 A (ps_put Z p f b) := by
  have hp : p < 1024 := by omega
  refine ⟨⟨ps_room h hp hn, ?_⟩, fun i hi => ?_, fun i i1 i2 => ?_, fun a c hd => ?_⟩
  · show _ = zc Z + 1
    rw [em_ct_add (p := zs Z) hn (fun y => ps_put_s Z p f b y) 1024 hp, h.1.2]
  · change i < zc Z + 1 at hi
    show (if i = zc Z then p else zq Z i) / 32 < N1 ∧ (if i = zc Z then p else zq Z i) % 32 < N2
    by_cases hc : i = zc Z
    · rw [if_pos hc]; exact ⟨hp1, hp2⟩
    · rw [if_neg hc]; exact h.2.1 i (by omega)
  · change i < zc Z + 1 at i2
    show (if i = zc Z then f else zf Z i) < i
    by_cases hc : i = zc Z
    · rw [if_pos hc, hc]; exact hf (by omega)
    · rw [if_neg hc]; exact h.2.2.1 i i1 (by omega)
  · have := h.2.2.2 a c hd
    exact ⟨Nat.lt_succ_of_lt this.1, this.2⟩
theorem ps_I_mark {N1 N2 : Nat} {A : ps_A} {Z : ps_Z} (h : ps_I N1 N2 A Z) {a b : Nat} (ha : a < zc Z) (hb : pop A b) : ps_I N1 N2 A (ps_mark Z a b) := by
  refine ⟨h.1, h.2.1, h.2.2.1, fun x y hd => ?_⟩
  have e : some (a, b) = some (x, y) := hd
  injection e with e
  injection e with e1 e2
  rw [← e1, ← e2]
  exact ⟨ha, hb⟩
theorem ps_I_diff {N1 N2 : Nat} {A : ps_A} {Z : ps_Z} (h : ps_I N1 N2 A Z) {a b : Nat} (ha : a < zc Z) (hb : pop A b) : ps_I N1 N2 A (ps_diff A a b Z) ∧ zc (ps_diff A a b Z) = zc Z ∧ zq (ps_diff A a b Z) = zq Z ∧ zf (ps_diff A a b Z) = zf Z ∧ zb (ps_diff A a b Z) = zb Z := by
  by_cases hd : ps_dif A a b Z
  · rw [ps_diff_t hd]; exact ⟨ps_I_mark h ha hb, rfl, rfl, rfl, rfl⟩
  · rw [ps_diff_f hd]; exact ⟨h, rfl, rfl, rfl, rfl⟩
theorem ps_to_lt {N1 N2 : Nat} {A : ps_A} (hN : N2 ≤ 32) (h1 : ∀ s r, pn1 A s r < N1) (h2 : ∀ s r, pn2 A s r < N2) (h r : Nat) (Z : ps_Z) : ps_to A h r Z / 32 < N1 ∧ ps_to A h r Z % 32 < N2 := by
  have g1 := h1 (zq Z h / 32) r
  have g2 := h2 (zq Z h % 32) r
  unfold ps_to
  exact ⟨by omega, by omega⟩
/-- a step keeps what holds, and what is there stays -/
theorem ps_step_I {N1 N2 : Nat} {A : ps_A} {Z : ps_Z} (hN1 : N1 ≤ 32) (hN2 : N2 ≤ 32) (h1 : ∀ s r, pn1 A s r < N1) (h2 : ∀ s r, pn2 A s r < N2) (hI : ps_I N1 N2 A Z) {h : Nat} (hh : h < zc Z) (r : Nat) :
    ps_I N1 N2 A (ps_step A h r Z) ∧ zc Z ≤ zc (ps_step A h r Z) ∧ ∀ i, i < zc Z → zq (ps_step A h r Z) i = zq Z i := by
  by_cases ho : pop A r
  · rw [ps_step_t ho]
    obtain ⟨g1, g2, g3, g4, g5⟩ := ps_I_diff hI hh ho
    have g6 := ps_to_lt hN2 h1 h2 h r Z
    by_cases hs : zs (ps_diff A h r Z) (ps_to A h r Z)
    · rw [ps_meet_old hs, g2, g3]; exact ⟨g1, Nat.le_refl _, fun _ _ => rfl⟩
    · rw [ps_meet_new hs]
      refine ⟨ps_I_put g1 hN1 g6.1 g6.2 (fun _ => by rw [g2]; exact hh) hs, ?_, fun i hi => ?_⟩
      · show zc Z ≤ zc (ps_diff A h r Z) + 1
        omega
      · show (if i = zc (ps_diff A h r Z) then _ else zq (ps_diff A h r Z) i) = _
        rw [if_neg (by omega), g3]
  · rw [ps_step_f ho]; exact ⟨hI, Nat.le_refl _, fun _ _ => rfl⟩
theorem ps_rows_I {N1 N2 : Nat} {A : ps_A} {Z : ps_Z} (hN1 : N1 ≤ 32) (hN2 : N2 ≤ 32) (h1 : ∀ s r, pn1 A s r < N1) (h2 : ∀ s r, pn2 A s r < N2) (hI : ps_I N1 N2 A Z) {h : Nat} (hh : h < zc Z) (r : Nat) :
    ps_I N1 N2 A (ps_rows A h Z r) ∧ zc Z ≤ zc (ps_rows A h Z r) ∧ ∀ i, i < zc Z → zq (ps_rows A h Z r) i = zq Z i := by
  induction r with
  | zero => exact ⟨hI, Nat.le_refl _, fun _ _ => rfl⟩
  | succ r ih =>
    obtain ⟨g1, g2, g3⟩ := ih
    obtain ⟨k1, k2, k3⟩ := ps_step_I hN1 hN2 h1 h2 g1 (show h < zc (ps_rows A h Z r) by omega) r
    exact ⟨k1, Nat.le_trans g2 k2, fun i hi => (k3 i (by omega)).trans (g3 i hi)⟩
theorem ps_ze_s (p : Nat) : ¬ zs ps_ze p := fun ⟨_, h, _⟩ => absurd h (Nat.not_lt_zero _)
theorem ps_I_e {N1 N2 : Nat} {A : ps_A} : ps_I N1 N2 A ps_ze :=
  ⟨⟨Nat.zero_le _, em_ct_none _ (fun x _ => ps_ze_s x)⟩, fun i hi => absurd hi (Nat.not_lt_zero _), fun i _ hi => absurd hi (Nat.not_lt_zero _), fun a b hd => by have e : (none : Option (Nat × Nat)) = some (a, b) := hd; cases e⟩
theorem ps_I_0 {N1 N2 : Nat} {A : ps_A} (hN : N1 ≤ 32) (h1 : 0 < N1) (h2 : 0 < N2) : ps_I N1 N2 A ps_z0 := ps_I_put ps_I_e hN (by omega) (by omega) (fun h => absurd h (Nat.lt_irrefl _)) (ps_ze_s 0)
theorem ps_at_I {N1 N2 : Nat} {A : ps_A} (hN1 : N1 ≤ 32) (hN2 : N2 ≤ 32) (h1 : ∀ s r, pn1 A s r < N1) (h2 : ∀ s r, pn2 A s r < N2) : ∀ h, (∀ g, g < h → g < zc (ps_at A g)) → ps_I N1 N2 A (ps_at A h) ∧ 0 < zc (ps_at A h) := by
  intro h
  have p1 := h1 0 0
  have p2 := h2 0 0
  induction h with
  | zero => intro _; exact ⟨ps_I_0 hN1 (by omega) (by omega), Nat.zero_lt_one⟩
  | succ h ih =>
    intro hg
    obtain ⟨i1, i2⟩ := ih (fun g k => hg g (by omega))
    have i3 := ps_rows_I hN1 hN2 h1 h2 i1 (hg h (by omega)) 16
    exact ⟨i3.1, Nat.lt_of_lt_of_le i2 i3.2.1⟩
