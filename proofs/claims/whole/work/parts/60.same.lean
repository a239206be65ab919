/-! ===== Model: same, matched ===== -/
section
variable {l : Launch} {G : ez_G} {σ : es_S}
theorem em_ct_1 {p : Nat → Prop} : ∀ n, (∀ x y, x < n → y < n → p x → p y → x = y) → em_ct p n ≤ 1 := by
  intro n
  induction n with
  | zero => intro _; exact Nat.zero_le _
  | succ n ih =>
    intro h
    have hs := em_ct_succ p n
    by_cases hp : p n
    · rw [hs.1 hp, em_ct_none n (fun x hx q => by have := h x n (by omega) (by omega) q hp; omega)]
      exact Nat.le_refl _
    · rw [hs.2 hp]
      exact ih (fun x y hx hy => h x y (by omega) (by omega))
theorem em_ct_2 {p : Nat → Prop} {n : Nat} : em_ct p n < 2 ↔ ∀ x y, x < n → y < n → p x → p y → x = y := by
  constructor
  · intro h x y hx hy px py
    rcases Nat.lt_trichotomy x y with g | g | g
    · have h1 := em_ct_strict px g
      have h2 := em_ct_strict py hy
      omega
    · exact g
    · have h1 := em_ct_strict py g
      have h2 := em_ct_strict px hx
      omega
  · intro h
    have := em_ct_1 n h
    omega
/-- the model's marks of matched pairs -/
def mc (m : Nat → Bool) (σ : es_S) : Prop := ∀ k, k < 576 → σ 63 k = eb (m k)
theorem mc_up {m : Nat → Bool} {σ : es_S} (h : mc m σ) (u : Nat) : mc (xn m u true) (es_up σ 63 u (vp_nar .boolean 1)) := fun k hk => by
  by_cases g : k = u
  · rw [g, es_upx, if_pos rfl, if_pos rfl, xn_eq, Bool.or_true]; rfl
  · rw [es_upx, if_pos rfl, if_neg g, xn_ne m _ g]; exact h k hk
theorem md0 {X : em_E} {σ : es_S} (h : md X 0 σ) {b : Nat} (hb : b < em_n X) : σ 49 b = nI (em_k X b) ∧ σ 50 b = em_m X b := by
  have := h.2.1 b hb
  rw [Nat.mul_zero, Nat.zero_add] at this
  exact ⟨this.1, this.2.1⟩
theorem md1 {X : em_E} {σ : es_S} (h : md X 1 σ) {b : Nat} (hb : b < em_n X) : σ 49 (24 + b) = nI (em_k X b) ∧ σ 50 (24 + b) = em_m X b := ⟨(h.2.1 b hb).1, (h.2.1 b hb).2.1⟩
/-- one to one -/
def mS (m : Nat → Bool) (n : Nat) : Prop := ∀ k, k < n → (∀ x y, x < 24 → y < 24 → m (24 * k + x) = true → m (24 * k + y) = true → x = y) ∧ (∀ x y, x < 24 → y < 24 → m (24 * x + k) = true → m (24 * y + k) = true → x = y)
theorem lp_MD_areSingle_18 {m : Nat → Bool} (hmc : mc m σ) {k : Nat} (hk : k < 24) {g : Bool} (hex : ez_Ev l G X_MD_areSingle 0 0 80 [some (.ref 46), some (.int (eb g)), some (.int (nI k)), some (.int (nI (em_ct (fun j => m (24 * k + j) = true) 24))), some (.int (nI (em_ct (fun j => m (24 * j + k) = true) 24))), none] [] (es_H σ) (es_Q (es_I fun y σ' => (∃ g : Bool, y = eb g ∧ (g = true ↔ mS m 24)) ∧ σ' = σ) es_no)) : ∀ (d : Nat) (j : Nat), 24 - j = d → (j ≤ 24) → ez_Ev l G X_MD_areSingle 0 0 18 [some (.ref 46), some (.int (eb g)), some (.int (nI k)), some (.int (nI (em_ct (fun j => m (24 * k + j) = true) j))), some (.int (nI (em_ct (fun j => m (24 * j + k) = true) j))), some (.int (nI j))] [] (es_H σ) (es_Q (es_I fun y σ' => (∃ g : Bool, y = eb g ∧ (g = true ↔ mS m 24)) ∧ σ' = σ) es_no) := by
  intro d
  induction d using Nat.strongRecOn with
  | _ d ih =>
    intro j hmm hj
    have h1 := em_ct_n (fun j => m (24 * k + j) = true) j
    have h2 := em_ct_n (fun j => m (24 * j + k) = true) j
    have s1 := em_ct_succ (fun j => m (24 * k + j) = true) j
    have s2 := em_ct_succ (fun j => m (24 * j + k) = true) j
    refine ev_iload d_MD_areSingle_18 rfl ?_
    refine ev_bipush (v := 24) d_MD_areSingle_20 rfl ?_
    refine ev_icmp_ge d_MD_areSingle_22 (fun h22 => ?_) (fun h22 => ?_)
    · rw [show (24 : Int32) = nI 24 from rfl, nI_leI (by omega) (by omega)] at h22
      have hje : j = 24 := by omega
      subst hje
      exact ev_mask [true, true, true, true, true, false] rfl hex
    · rw [show (24 : Int32) = nI 24 from rfl, nI_leI (by omega) (by omega), Nat.not_le] at h22
      refine ev_aload_n (i := 0) d_MD_areSingle_25 rfl rfl ?_
      refine es_getR d_MD_areSingle_26 f_MD_59 rfl rfl ?_
      refine ev_bipush (v := 24) d_MD_areSingle_29 rfl ?_
      refine ev_iload_n (i := 2) d_MD_areSingle_31 rfl rfl ?_
      refine ev_imul d_MD_areSingle_32 ?_
      refine ev_iload d_MD_areSingle_33 rfl ?_
      refine ev_iadd d_MD_areSingle_35 ?_
      rw [ix24]
      refine es_zald d_MD_areSingle_36 rfl (ez_vinN (by omega) (by omega)) ?_
      rw [nI_clamp (by omega), hmc _ (by omega)]
      refine ev_if_eq d_MD_areSingle_37 (fun h37 => ?_) (fun h37 => ?_)
      · rw [eb_0] at h37
        refine ev_iload_n (i := 3) d_MD_areSingle_46 rfl rfl ?_
        refine ev_istore_n (i := 3) d_MD_areSingle_47 rfl (by decide) ?_
        dsimp only [List.set_cons_zero, List.set_cons_succ]
        refine ev_aload_n (i := 0) d_MD_areSingle_48 rfl rfl ?_
        refine es_getR d_MD_areSingle_49 f_MD_59 rfl rfl ?_
        refine ev_bipush (v := 24) d_MD_areSingle_52 rfl ?_
        refine ev_iload d_MD_areSingle_54 rfl ?_
        refine ev_imul d_MD_areSingle_56 ?_
        refine ev_iload_n (i := 2) d_MD_areSingle_57 rfl rfl ?_
        refine ev_iadd d_MD_areSingle_58 ?_
        rw [ix24]
        refine es_zald d_MD_areSingle_59 rfl (ez_vinN (by omega) (by omega)) ?_
        rw [nI_clamp (by omega), hmc _ (by omega)]
        refine ev_if_eq d_MD_areSingle_60 (fun h60 => ?_) (fun h60 => ?_)
        · rw [eb_0] at h60
          refine ev_iload d_MD_areSingle_70 rfl ?_
          refine ev_istore d_MD_areSingle_72 (by decide) ?_
          dsimp only [List.set_cons_zero, List.set_cons_succ]
          refine ev_iinc d_MD_areSingle_74 rfl (ez_inc _) (by decide) ?_
          dsimp only [List.set_cons_zero, List.set_cons_succ]
          refine ev_goto d_MD_areSingle_77 ?_
          first
            | rw [← s1.1 h37]
            | rw [← s1.2 (by rw [h37]; decide)]
          first
            | rw [← s2.1 h60]
            | rw [← s2.2 (by rw [h60]; decide)]
          exact ih _ (by omega) (j + 1) rfl (by omega)
        · rw [eb_0, Bool.not_eq_false] at h60
          refine ev_iload d_MD_areSingle_63 rfl ?_
          refine ev_iconst (v := 1) d_MD_areSingle_65 rfl ?_
          refine ev_iadd d_MD_areSingle_66 ?_
          rw [nI_1]
          refine ev_goto d_MD_areSingle_67 ?_
          refine ev_istore d_MD_areSingle_72 (by decide) ?_
          dsimp only [List.set_cons_zero, List.set_cons_succ]
          refine ev_iinc d_MD_areSingle_74 rfl (ez_inc _) (by decide) ?_
          dsimp only [List.set_cons_zero, List.set_cons_succ]
          refine ev_goto d_MD_areSingle_77 ?_
          first
            | rw [← s1.1 h37]
            | rw [← s1.2 (by rw [h37]; decide)]
          first
            | rw [← s2.1 h60]
            | rw [← s2.2 (by rw [h60]; decide)]
          exact ih _ (by omega) (j + 1) rfl (by omega)
      · rw [eb_0, Bool.not_eq_false] at h37
        refine ev_iload_n (i := 3) d_MD_areSingle_40 rfl rfl ?_
        refine ev_iconst (v := 1) d_MD_areSingle_41 rfl ?_
        refine ev_iadd d_MD_areSingle_42 ?_
        rw [nI_1]
        refine ev_goto d_MD_areSingle_43 ?_
        refine ev_istore_n (i := 3) d_MD_areSingle_47 rfl (by decide) ?_
        dsimp only [List.set_cons_zero, List.set_cons_succ]
        refine ev_aload_n (i := 0) d_MD_areSingle_48 rfl rfl ?_
        refine es_getR d_MD_areSingle_49 f_MD_59 rfl rfl ?_
        refine ev_bipush (v := 24) d_MD_areSingle_52 rfl ?_
        refine ev_iload d_MD_areSingle_54 rfl ?_
        refine ev_imul d_MD_areSingle_56 ?_
        refine ev_iload_n (i := 2) d_MD_areSingle_57 rfl rfl ?_
        refine ev_iadd d_MD_areSingle_58 ?_
        rw [ix24]
        refine es_zald d_MD_areSingle_59 rfl (ez_vinN (by omega) (by omega)) ?_
        rw [nI_clamp (by omega), hmc _ (by omega)]
        refine ev_if_eq d_MD_areSingle_60 (fun h60 => ?_) (fun h60 => ?_)
        · rw [eb_0] at h60
          refine ev_iload d_MD_areSingle_70 rfl ?_
          refine ev_istore d_MD_areSingle_72 (by decide) ?_
          dsimp only [List.set_cons_zero, List.set_cons_succ]
          refine ev_iinc d_MD_areSingle_74 rfl (ez_inc _) (by decide) ?_
          dsimp only [List.set_cons_zero, List.set_cons_succ]
          refine ev_goto d_MD_areSingle_77 ?_
          first
            | rw [← s1.1 h37]
            | rw [← s1.2 (by rw [h37]; decide)]
          first
            | rw [← s2.1 h60]
            | rw [← s2.2 (by rw [h60]; decide)]
          exact ih _ (by omega) (j + 1) rfl (by omega)
        · rw [eb_0, Bool.not_eq_false] at h60
          refine ev_iload d_MD_areSingle_63 rfl ?_
          refine ev_iconst (v := 1) d_MD_areSingle_65 rfl ?_
          refine ev_iadd d_MD_areSingle_66 ?_
          rw [nI_1]
          refine ev_goto d_MD_areSingle_67 ?_
          refine ev_istore d_MD_areSingle_72 (by decide) ?_
          dsimp only [List.set_cons_zero, List.set_cons_succ]
          refine ev_iinc d_MD_areSingle_74 rfl (ez_inc _) (by decide) ?_
          dsimp only [List.set_cons_zero, List.set_cons_succ]
          refine ev_goto d_MD_areSingle_77 ?_
          first
            | rw [← s1.1 h37]
            | rw [← s1.2 (by rw [h37]; decide)]
          first
            | rw [← s2.1 h60]
            | rw [← s2.2 (by rw [h60]; decide)]
          exact ih _ (by omega) (j + 1) rfl (by omega)
theorem lp_MD_areSingle_4 {m : Nat → Bool} (hmc : mc m σ) : ∀ (d : Nat) (k : Nat) (g : Bool), 24 - k = d → (k ≤ 24 ∧ (g = true ↔ mS m k)) → ez_Ev l G X_MD_areSingle 0 0 4 [some (.ref 46), some (.int (eb g)), some (.int (nI k)), none, none, none] [] (es_H σ) (es_Q (es_I fun y σ' => (∃ g : Bool, y = eb g ∧ (g = true ↔ mS m 24)) ∧ σ' = σ) es_no) := by
  intro d
  induction d using Nat.strongRecOn with
  | _ d ih =>
    intro k g hmm hinv
    obtain ⟨hk, hg⟩ := hinv
    refine ev_iload_n (i := 2) d_MD_areSingle_4 rfl rfl ?_
    refine ev_bipush (v := 24) d_MD_areSingle_5 rfl ?_
    refine ev_icmp_ge d_MD_areSingle_7 (fun h7 => ?_) (fun h7 => ?_)
    · rw [show (24 : Int32) = nI 24 from rfl, nI_leI (by omega) (by omega)] at h7
      refine ev_iload_n (i := 1) d_MD_areSingle_107 rfl rfl ?_
      refine es_zret d_MD_areSingle_108 rfl (eb_nar _) ⟨Nat.zero_le _, Nat.zero_le _⟩ ⟨_, rfl, ?_⟩
      exact ⟨⟨g, rfl, by rw [hg, show k = 24 by omega]⟩, rfl⟩
    · rw [show (24 : Int32) = nI 24 from rfl, nI_leI (by omega) (by omega), Nat.not_le] at h7
      refine ev_iconst (v := 0) d_MD_areSingle_10 rfl ?_
      refine ev_istore_n (i := 3) d_MD_areSingle_11 rfl (by decide) ?_
      dsimp only [List.set_cons_zero, List.set_cons_succ]
      refine ev_iconst (v := 0) d_MD_areSingle_12 rfl ?_
      refine ev_istore d_MD_areSingle_13 (by decide) ?_
      dsimp only [List.set_cons_zero, List.set_cons_succ]
      refine ev_iconst (v := 0) d_MD_areSingle_15 rfl ?_
      refine ev_istore d_MD_areSingle_16 (by decide) ?_
      dsimp only [List.set_cons_zero, List.set_cons_succ]
      refine ev_mask [true, true, true, true, true, true] rfl ?_
      refine lp_MD_areSingle_18 hmc h7 (g := g) ?_ _ 0 rfl (Nat.zero_le _)
      have c1 := em_ct_n (fun j => m (24 * k + j) = true) 24
      have c2 := em_ct_n (fun j => m (24 * j + k) = true) 24
      refine ev_iload_n (i := 1) d_MD_areSingle_80 rfl rfl ?_
      refine ev_if_eq d_MD_areSingle_81 (fun h81 => ?_) (fun h81 => ?_)
      · rw [eb_0] at h81
        refine ev_iconst (v := 0) d_MD_areSingle_99 rfl ?_
        refine ev_istore_n (i := 1) d_MD_areSingle_100 rfl (by decide) ?_
        dsimp only [List.set_cons_zero, List.set_cons_succ]
        refine ev_iinc d_MD_areSingle_101 rfl (ez_inc _) (by decide) ?_
        dsimp only [List.set_cons_zero, List.set_cons_succ]
        refine ev_goto d_MD_areSingle_104 ?_
        refine ev_mask [true, true, true, false, false, false] rfl (ih _ (by omega) (k + 1) false rfl ⟨by omega, ?_⟩)
        exact ⟨(fun q => by cases q), fun q => by rw [hg.mpr (fun u hu => q u (by omega))] at h81; cases h81⟩
      · rw [eb_0, Bool.not_eq_false] at h81
        refine ev_iload_n (i := 3) d_MD_areSingle_84 rfl rfl ?_
        refine ev_iconst (v := 2) d_MD_areSingle_85 rfl ?_
        refine ev_icmp_ge d_MD_areSingle_86 (fun h86 => ?_) (fun h86 => ?_)
        · rw [show (2 : Int32) = nI 2 from rfl, nI_leI (by omega) (by omega)] at h86
          refine ev_iconst (v := 0) d_MD_areSingle_99 rfl ?_
          refine ev_istore_n (i := 1) d_MD_areSingle_100 rfl (by decide) ?_
          dsimp only [List.set_cons_zero, List.set_cons_succ]
          refine ev_iinc d_MD_areSingle_101 rfl (ez_inc _) (by decide) ?_
          dsimp only [List.set_cons_zero, List.set_cons_succ]
          refine ev_goto d_MD_areSingle_104 ?_
          refine ev_mask [true, true, true, false, false, false] rfl (ih _ (by omega) (k + 1) false rfl ⟨by omega, ?_⟩)
          exact ⟨(fun q => by cases q), fun q => by exact absurd (em_ct_2.mpr (q k (by omega)).1) (by omega)⟩
        · rw [show (2 : Int32) = nI 2 from rfl, nI_leI (by omega) (by omega), Nat.not_le] at h86
          refine ev_iload d_MD_areSingle_89 rfl ?_
          refine ev_iconst (v := 2) d_MD_areSingle_91 rfl ?_
          refine ev_icmp_ge d_MD_areSingle_92 (fun h92 => ?_) (fun h92 => ?_)
          · rw [show (2 : Int32) = nI 2 from rfl, nI_leI (by omega) (by omega)] at h92
            refine ev_iconst (v := 0) d_MD_areSingle_99 rfl ?_
            refine ev_istore_n (i := 1) d_MD_areSingle_100 rfl (by decide) ?_
            dsimp only [List.set_cons_zero, List.set_cons_succ]
            refine ev_iinc d_MD_areSingle_101 rfl (ez_inc _) (by decide) ?_
            dsimp only [List.set_cons_zero, List.set_cons_succ]
            refine ev_goto d_MD_areSingle_104 ?_
            refine ev_mask [true, true, true, false, false, false] rfl (ih _ (by omega) (k + 1) false rfl ⟨by omega, ?_⟩)
            exact ⟨(fun q => by cases q), fun q => by exact absurd (em_ct_2.mpr (q k (by omega)).2) (by omega)⟩
          · rw [show (2 : Int32) = nI 2 from rfl, nI_leI (by omega) (by omega), Nat.not_le] at h92
            refine ev_iconst (v := 1) d_MD_areSingle_95 rfl ?_
            refine ev_goto d_MD_areSingle_96 ?_
            refine ev_istore_n (i := 1) d_MD_areSingle_100 rfl (by decide) ?_
            dsimp only [List.set_cons_zero, List.set_cons_succ]
            refine ev_iinc d_MD_areSingle_101 rfl (ez_inc _) (by decide) ?_
            dsimp only [List.set_cons_zero, List.set_cons_succ]
            refine ev_goto d_MD_areSingle_104 ?_
            refine ev_mask [true, true, true, false, false, false] rfl (ih _ (by omega) (k + 1) true rfl ⟨by omega, ?_⟩)
            refine ⟨fun _ u hu => ?_, fun _ => rfl⟩
            by_cases huk : u = k
            · rw [huk]; exact ⟨em_ct_2.mp h86, em_ct_2.mp h92⟩
            · exact hg.mp h81 u (by omega)
theorem c_MD_areSingle {m : Nat → Bool} (hmc : mc m σ) : ez_Ct l G X_MD_areSingle [.ref 46] (es_H σ) (es_Q (es_I fun y σ' => (∃ g : Bool, y = eb g ∧ (g = true ↔ mS m 24)) ∧ σ' = σ) es_no) := by
  refine es_Ct_of (ls := [some (.ref 46), none, none, none, none, none]) ok_MD_areSingle rfl (Nat.le_of_ble_eq_true rfl) rfl ?_
  refine ev_iconst (v := 1) d_MD_areSingle_0 rfl ?_
  refine ev_istore_n (i := 1) d_MD_areSingle_1 rfl (by decide) ?_
  dsimp only [List.set_cons_zero, List.set_cons_succ]
  refine ev_iconst (v := 0) d_MD_areSingle_2 rfl ?_
  refine ev_istore_n (i := 2) d_MD_areSingle_3 rfl (by decide) ?_
  dsimp only [List.set_cons_zero, List.set_cons_succ]
  exact lp_MD_areSingle_4 hmc _ 0 true rfl ⟨by omega, ⟨fun _ u hu => absurd hu (Nat.not_lt_zero _), fun _ => rfl⟩⟩
/-- a pass over the matched pairs, at k and input i; m0 as it began -/
def mP (E F : em_E) (m0 : Nat → Bool) (g : Bool) (m : Nat → Bool) (k i : Nat) : Prop :=
  (∀ q, m0 q = true → m q = true) ∧ (∀ a b, b < 24 → m (24 * a + b) = true → em_M E F a b) ∧ (∀ j x y, j < 3 → em_o E j = some x → em_o F j = some y → m (24 * x + y) = true) ∧ (g = true → em_ct (fun q => m0 q = true) 576 < em_ct (fun q => m q = true) 576) ∧
  (g = false → (∀ q, m q = true → m0 q = true) ∧ (∀ q, q < k → m q = true → mt_sort E F (q / 24) (q % 24)) ∧ (∀ q z x y, q < k → m q = true → z < em_nd (em_k E (q / 24)) → em_w E (q / 24) z = some x → em_w F (q % 24) z = some y → m (24 * x + y) = true) ∧ (∀ z x y, z < i → em_w E (k / 24) z = some x → em_w F (k % 24) z = some y → m (24 * x + y) = true))
theorem mP_step {E F : em_E} {P : Nat} (hw : em_wf P E) (hv : em_wf P F) {m0 : Nat → Bool} {g : Bool} {m : Nat → Bool} {k i x y : Nat} (h : mP E F m0 g m k i) (hk : m k = true) (hs : mt_sort E F (k / 24) (k % 24)) (hi : i < em_nd (em_k E (k / 24))) (hx : em_w E (k / 24) i = some x) (hy : em_w F (k % 24) i = some y) :
    mP E F m0 (g || !m (24 * x + y)) (xn m (24 * x + y) true) k (i + 1) := by
  have hn := hw.1
  have hn2 := hv.1
  have hxl := (hw.2.2.1 _ _ _ hx).2
  have hyl := (hv.2.2.1 _ _ _ hy).2
  obtain ⟨h1, h2, h3, h4, h5⟩ := h
  have hup : ∀ q, m q = true → xn m (24 * x + y) true q = true := fun q hq => by
    by_cases e : q = 24 * x + y
    · rw [e, xn_eq, Bool.or_true]
    · rw [xn_ne m _ e]; exact hq
  have hle := em_ct_le (p := fun q => m q = true) (q := fun q => xn m (24 * x + y) true q = true) 576 (fun q _ hq => hup q hq)
  have hkM : em_M E F (k / 24) (k % 24) := h2 (k / 24) (k % 24) (Nat.mod_lt _ (by omega)) (by rw [Nat.div_add_mod]; exact hk)
  refine ⟨fun q hq => hup q (h1 q hq), fun a b hb hab => ?_, fun j u v hj hu hv2 => hup _ (h3 j u v hj hu hv2), fun hg => ?_, fun hg => ?_⟩
  · by_cases e : 24 * a + b = 24 * x + y
    · have : a = x ∧ b = y := by omega
      rw [this.1, this.2]
      exact em_M_w hkM hs hi hx hy
    · rw [xn_ne m _ e] at hab; exact h2 a b hb hab
  · cases hgg : g with
    | true => exact Nat.lt_of_lt_of_le (h4 hgg) hle
    | false =>
      rw [hgg, Bool.false_or, Bool.not_eq_true'] at hg
      have hlt := em_ct_lt (p := fun q => m q = true) (q := fun q => xn m (24 * x + y) true q = true) 576 (fun q _ hq => hup q hq) (24 * x + y) (by omega) (by rw [xn_eq, Bool.or_true]) (by rw [hg]; decide)
      have hle0 := em_ct_le (p := fun q => m0 q = true) (q := fun q => m q = true) 576 (fun q _ hq => h1 q hq)
      exact Nat.lt_of_le_of_lt hle0 hlt
  · rw [Bool.or_eq_false_iff, Bool.not_eq_false'] at hg
    have hsame : ∀ q, xn m (24 * x + y) true q = true → m q = true := fun q hq => by
      by_cases e : q = 24 * x + y
      · rw [e]; exact hg.2
      · rw [xn_ne m _ e] at hq; exact hq
    obtain ⟨k1, k2, k3, k4⟩ := h5 hg.1
    refine ⟨fun q hq => k1 q (hsame q hq), fun q hq hmq => k2 q hq (hsame q hmq), fun q z u v hq hmq hz hu hv2 => hup _ (k3 q z u v hq (hsame q hmq) hz hu hv2), fun z u v hz hu hv2 => ?_⟩
    by_cases e : z = i
    · rw [e] at hu hv2
      rw [hx] at hu
      rw [hy] at hv2
      injection hu with hu
      injection hv2 with hv2
      rw [← hu, ← hv2, xn_eq, Bool.or_true]
    · exact hup _ (k4 z u v (by omega) hu hv2)
theorem mP_next {E F : em_E} {m0 : Nat → Bool} {g : Bool} {m : Nat → Bool} {k i : Nat} (h : mP E F m0 g m k i) (hr : m k = false ∨ (mt_sort E F (k / 24) (k % 24) ∧ em_nd (em_k E (k / 24)) ≤ i)) : mP E F m0 g m (k + 1) 0 := by
  refine ⟨h.1, h.2.1, h.2.2.1, h.2.2.2.1, fun hg => ?_⟩
  obtain ⟨k1, k2, k3, k4⟩ := h.2.2.2.2 hg
  refine ⟨k1, fun q hq hm => ?_, fun q z x y hq hm hz hx hy => ?_, fun z x y hz => absurd hz (Nat.not_lt_zero _)⟩
  · by_cases e : q = k
    · rw [e] at hm ⊢
      rcases hr with hr | hr
      · rw [hr] at hm; cases hm
      · exact hr.1
    · exact k2 q (by omega) hm
  · by_cases e : q = k
    · rw [e] at hm hz hx hy
      rcases hr with hr | hr
      · rw [hr] at hm; cases hm
      · exact k4 z x y (by omega) hx hy
    · exact k3 q z x y (by omega) hm hz hx hy
theorem mP_end {P : Nat} {E F : em_E} (hw : em_wf P E) (hv : em_wf P F) {m : Nat → Bool} (h2 : ∀ a b, b < 24 → m (24 * a + b) = true → em_M E F a b) (h3 : ∀ j x y, j < 3 → em_o E j = some x → em_o F j = some y → m (24 * x + y) = true)
    (hs : ∀ q, q < 576 → m q = true → mt_sort E F (q / 24) (q % 24)) (hc : ∀ q z x y, q < 576 → m q = true → z < em_nd (em_k E (q / 24)) → em_w E (q / 24) z = some x → em_w F (q % 24) z = some y → m (24 * x + y) = true) :
    (∀ a b, a < 24 → b < 24 → (m (24 * a + b) = true ↔ em_M E F a b)) ∧ ∀ a b, em_M E F a b → mt_sort E F a b := by
  have hn := hw.1
  have hn2 := hv.1
  have hdm : ∀ a b, b < 24 → (24 * a + b) / 24 = a ∧ (24 * a + b) % 24 = b := fun a b hb => ⟨by omega, by omega⟩
  have hall : ∀ a b, em_M E F a b → a < em_n E ∧ b < em_n F ∧ m (24 * a + b) = true := fun a b h => h (fun a b => a < em_n E ∧ b < em_n F ∧ m (24 * a + b) = true) (fun j x y hj hx hy => ⟨hw.2.2.2.1 _ _ hx, hv.2.2.2.1 _ _ hy, h3 j x y hj hx hy⟩) (fun u v z x y huv hsr hz hx hy => by
    obtain ⟨e1, e2⟩ := hdm u v (by omega)
    exact ⟨(hw.2.2.1 _ _ _ hx).2, (hv.2.2.1 _ _ _ hy).2, hc (24 * u + v) z x y (by omega) huv.2.2 (by rw [e1]; exact hz) (by rw [e1]; exact hx) (by rw [e2]; exact hy)⟩)
  refine ⟨fun a b ha hb => ⟨h2 a b hb, fun h => (hall a b h).2.2⟩, fun a b h => ?_⟩
  obtain ⟨g1, g2, g3⟩ := hall a b h
  have := hs (24 * a + b) (by omega) g3
  rw [(hdm a b (by omega)).1, (hdm a b (by omega)).2] at this
  exact this
theorem mS_same {P : Nat} {E F : em_E} (hw : em_wf P E) (hv : em_wf P F) {m : Nat → Bool} (ho : ∀ j, j < 3 → (em_o E j = none ↔ em_o F j = none)) (h : (∀ a b, a < 24 → b < 24 → (m (24 * a + b) = true ↔ em_M E F a b)) ∧ ∀ a b, em_M E F a b → mt_sort E F a b) : mS m 24 ↔ em_same E F := by
  have hn := hw.1
  have hn2 := hv.1
  constructor
  · intro hS
    refine ⟨ho, h.2, fun a b c hb hc => ?_, fun a b c hb hc => ?_⟩
    · have l1 := em_M_lt hw hv hb
      have l2 := em_M_lt hw hv hc
      exact (hS a (by omega)).1 b c (by omega) (by omega) ((h.1 a b (by omega) (by omega)).mpr hb) ((h.1 a c (by omega) (by omega)).mpr hc)
    · have l1 := em_M_lt hw hv hb
      have l2 := em_M_lt hw hv hc
      exact (hS c (by omega)).2 a b (by omega) (by omega) ((h.1 a c (by omega) (by omega)).mpr hb) ((h.1 b c (by omega) (by omega)).mpr hc)
  · intro hs k hk
    exact ⟨fun x y hx hy h1 h2 => hs.2.2.1 k x y ((h.1 k x hk hx).mp h1) ((h.1 k y hk hy).mp h2), fun x y hx hy h1 h2 => hs.2.2.2 x y k ((h.1 x k hx hk).mp h1) ((h.1 y k hy hk).mp h2)⟩
theorem lp_MD_areSame_183 {S : sp_S} (hm : rm S σ) (hbo : sBoth S) {k : Nat} (hk : k < 576) {m0 : Nat → Bool} (hsr : mt_sort (s0 S) (s1 S) (k / 24) (k % 24)) (ha : k / 24 < em_n (s0 S)) (hb : k % 24 < em_n (s1 S)) (hex : ∀ (g : Bool) (m : Nat → Bool) (σ1 : es_S), mc m σ1 → (∀ k, k ≠ 63 → σ1 k = σ k) → mP (s0 S) (s1 S) m0 g m (k + 1) 0 → ez_Ev l G X_MD_areSame 0 0 250 [some (.ref 46), some (.int (eb g)), some (.int (nI k)), none, none, none, none, none] [] (es_H σ1) (es_Q (es_I fun y σ' => (∃ g : Bool, y = eb g ∧ (g = true ↔ em_same (s0 S) (s1 S)) ∧ (g = true → ∀ a b, a < 24 → b < 24 → σ' 63 (24 * a + b) = eb (bd (em_M (s0 S) (s1 S) a b)))) ∧ ∀ k, k ≠ 63 → σ' k = σ k) es_no)) : ∀ (d : Nat) (i : Nat) (g : Bool) (m : Nat → Bool) (σ1 : es_S), 2 - i = d → (i ≤ em_nd (em_k (s0 S) (k / 24)) ∧ mc m σ1 ∧ (∀ k, k ≠ 63 → σ1 k = σ k) ∧ mP (s0 S) (s1 S) m0 g m k i ∧ m k = true) → ez_Ev l G X_MD_areSame 0 0 183 [some (.ref 46), some (.int (eb g)), some (.int (nI k)), some (.int (nI (k / 24))), some (.int (nI (k % 24))), some (.int (nI (em_k (s0 S) (k / 24)))), some (.int (nI i)), none] [] (es_H σ1) (es_Q (es_I fun y σ' => (∃ g : Bool, y = eb g ∧ (g = true ↔ em_same (s0 S) (s1 S)) ∧ (g = true → ∀ a b, a < 24 → b < 24 → σ' 63 (24 * a + b) = eb (bd (em_M (s0 S) (s1 S) a b)))) ∧ ∀ k, k ≠ 63 → σ' k = σ k) es_no) := by
  intro d
  induction d using Nat.strongRecOn with
  | _ d ih =>
    intro i g m σ1 hmm hinv
    obtain ⟨hi, hmc, hoff, hmp, hmk⟩ := hinv
    have hw := hm.1.2.1
    have hv := hm.1.2.2
    have hn1 := hw.1
    have hn2 := hv.1
    have hd0 : md (s0 S) 0 σ1 := md_off hm.2.2.2.1 (fun k g1 g2 => hoff k (by omega))
    have hd1 : md (s1 S) 1 σ1 := md_off hm.2.2.2.2 (fun k g1 g2 => hoff k (by omega))
    have hk6 := hw.2.1 _ ha
    have hnd := em_nd_le (em_k (s0 S) (k / 24))
    refine ev_iload d_MD_areSame_183 rfl ?_
    refine ev_iload d_MD_areSame_185 rfl ?_
    refine es_cSI ls_MD_areSame_187 d_MD_areSame_187 (c_MD_needs hk6) rfl rfl (Nat.le_of_ble_eq_true rfl) (fun x187 σ187 h187 => ?_) (fun _ _ h => h.elim)
    obtain ⟨rfl, e187⟩ := h187
    rw [e187]
    refine ev_icmp_ge d_MD_areSame_190 (fun h190 => ?_) (fun h190 => ?_)
    · rw [nI_leI (by omega) (by omega)] at h190
      exact ev_mask [true, true, true, false, false, false, false, false] rfl (hex g m σ1 hmc hoff (mP_next hmp (Or.inr ⟨hsr, h190⟩)))
    · rw [nI_leI (by omega) (by omega), Nat.not_le] at h190
      obtain ⟨x, hx⟩ := Option.ne_none_iff_exists'.mp (fun q => hbo.1.1 _ ha ⟨i, h190, q⟩ : em_w (s0 S) (k / 24) i ≠ none)
      obtain ⟨y, hy⟩ := Option.ne_none_iff_exists'.mp (fun q => hbo.2.1 _ hb ⟨i, by rw [← hsr.1]; exact h190, q⟩ : em_w (s1 S) (k % 24) i ≠ none)
      have hxl := (hw.2.2.1 _ _ _ hx).2
      have hyl := (hv.2.2.1 _ _ _ hy).2
      have hct : (nI (24 * x + y)).toNatClampNeg = 24 * x + y := nI_clamp (by omega)
      have hmt := hmc (24 * x + y) (by omega)
      refine ev_bipush (v := 24) d_MD_areSame_193 rfl ?_
      refine ev_aload_n (i := 0) d_MD_areSame_195 rfl rfl ?_
      refine ev_iconst (v := 0) d_MD_areSame_196 rfl ?_
      refine ev_iload_n (i := 3) d_MD_areSame_197 rfl rfl ?_
      refine ev_iload d_MD_areSame_198 rfl ?_
      refine es_cVI ls_MD_areSame_200 d_MD_areSame_200 rfl (c_MD_input (e := 0) hw (by decide) hd0 ha (show i < 2 by omega)) rfl rfl (Nat.le_of_ble_eq_true rfl) (fun x200 σ200 h200 => ?_) (fun _ _ h => h.elim)
      obtain ⟨rfl, e200⟩ := h200
      rw [e200, hx, show en (some x) = nI x from rfl]
      refine ev_imul d_MD_areSame_203 ?_
      refine ev_aload_n (i := 0) d_MD_areSame_204 rfl rfl ?_
      refine ev_iconst (v := 1) d_MD_areSame_205 rfl ?_
      refine ev_iload d_MD_areSame_206 rfl ?_
      refine ev_iload d_MD_areSame_208 rfl ?_
      refine es_cVI ls_MD_areSame_210 d_MD_areSame_210 rfl (c_MD_input (e := 1) hv (by decide) hd1 hb (show i < 2 by omega)) rfl rfl (Nat.le_of_ble_eq_true rfl) (fun x210 σ210 h210 => ?_) (fun _ _ h => h.elim)
      obtain ⟨rfl, e210⟩ := h210
      rw [e210, hy, show en (some y) = nI y from rfl]
      refine ev_iadd d_MD_areSame_213 ?_
      rw [ix24]
      refine ev_istore d_MD_areSame_214 (by decide) ?_
      dsimp only [List.set_cons_zero, List.set_cons_succ]
      refine ev_iload_n (i := 1) d_MD_areSame_216 rfl rfl ?_
      refine ev_if_ne d_MD_areSame_217 (fun h217 => ?_) (fun h217 => ?_)
      · rw [eb_0, Bool.not_eq_false] at h217
        refine ev_iconst (v := 1) d_MD_areSame_230 rfl ?_
        refine ev_goto d_MD_areSame_231 ?_
        refine ev_istore_n (i := 1) d_MD_areSame_235 rfl (by decide) ?_
        dsimp only [List.set_cons_zero, List.set_cons_succ]
        refine ev_aload_n (i := 0) d_MD_areSame_236 rfl rfl ?_
        refine es_getR d_MD_areSame_237 f_MD_59 rfl rfl ?_
        refine ev_iload d_MD_areSame_240 rfl ?_
        refine ev_iconst (v := 1) d_MD_areSame_242 rfl ?_
        refine es_zast d_MD_areSame_243 rfl (ez_vinN (by omega) (by omega)) ?_
        rw [hct]
        refine ev_iinc d_MD_areSame_244 rfl (ez_inc _) (by decide) ?_
        dsimp only [List.set_cons_zero, List.set_cons_succ]
        refine ev_goto d_MD_areSame_247 ?_
        refine ev_mask [true, true, true, true, true, true, true, false] rfl ?_
        have hst := mP_step hw hv hmp hmk hsr h190 hx hy
        have hG : (g || !m (24 * x + y)) = true := by simp [h217]
        rw [hG] at hst
        refine ih _ (by omega) (i + 1) true _ _ rfl ⟨by omega, mc_up hmc (24 * x + y), fun q hq => by rw [es_upf _ _ _ _ hq]; exact hoff q hq, hst, ?_⟩
        by_cases e9 : k = 24 * x + y
        · rw [e9, xn_eq, Bool.or_true]
        · rw [xn_ne m _ e9]; exact hmk
      · rw [eb_0] at h217
        refine ev_aload_n (i := 0) d_MD_areSame_220 rfl rfl ?_
        refine es_getR d_MD_areSame_221 f_MD_59 rfl rfl ?_
        refine ev_iload d_MD_areSame_224 rfl ?_
        refine es_zald d_MD_areSame_226 rfl (ez_vinN (by omega) (by omega)) ?_
        rw [hct, hmt]
        refine ev_if_ne d_MD_areSame_227 (fun h227 => ?_) (fun h227 => ?_)
        · rw [eb_0, Bool.not_eq_false] at h227
          refine ev_iconst (v := 0) d_MD_areSame_234 rfl ?_
          refine ev_istore_n (i := 1) d_MD_areSame_235 rfl (by decide) ?_
          dsimp only [List.set_cons_zero, List.set_cons_succ]
          refine ev_aload_n (i := 0) d_MD_areSame_236 rfl rfl ?_
          refine es_getR d_MD_areSame_237 f_MD_59 rfl rfl ?_
          refine ev_iload d_MD_areSame_240 rfl ?_
          refine ev_iconst (v := 1) d_MD_areSame_242 rfl ?_
          refine es_zast d_MD_areSame_243 rfl (ez_vinN (by omega) (by omega)) ?_
          rw [hct]
          refine ev_iinc d_MD_areSame_244 rfl (ez_inc _) (by decide) ?_
          dsimp only [List.set_cons_zero, List.set_cons_succ]
          refine ev_goto d_MD_areSame_247 ?_
          refine ev_mask [true, true, true, true, true, true, true, false] rfl ?_
          have hst := mP_step hw hv hmp hmk hsr h190 hx hy
          have hG : (g || !m (24 * x + y)) = false := by simp [h217, h227]
          rw [hG] at hst
          refine ih _ (by omega) (i + 1) false _ _ rfl ⟨by omega, mc_up hmc (24 * x + y), fun q hq => by rw [es_upf _ _ _ _ hq]; exact hoff q hq, hst, ?_⟩
          by_cases e9 : k = 24 * x + y
          · rw [e9, xn_eq, Bool.or_true]
          · rw [xn_ne m _ e9]; exact hmk
        · rw [eb_0] at h227
          refine ev_iconst (v := 1) d_MD_areSame_230 rfl ?_
          refine ev_goto d_MD_areSame_231 ?_
          refine ev_istore_n (i := 1) d_MD_areSame_235 rfl (by decide) ?_
          dsimp only [List.set_cons_zero, List.set_cons_succ]
          refine ev_aload_n (i := 0) d_MD_areSame_236 rfl rfl ?_
          refine es_getR d_MD_areSame_237 f_MD_59 rfl rfl ?_
          refine ev_iload d_MD_areSame_240 rfl ?_
          refine ev_iconst (v := 1) d_MD_areSame_242 rfl ?_
          refine es_zast d_MD_areSame_243 rfl (ez_vinN (by omega) (by omega)) ?_
          rw [hct]
          refine ev_iinc d_MD_areSame_244 rfl (ez_inc _) (by decide) ?_
          dsimp only [List.set_cons_zero, List.set_cons_succ]
          refine ev_goto d_MD_areSame_247 ?_
          refine ev_mask [true, true, true, true, true, true, true, false] rfl ?_
          have hst := mP_step hw hv hmp hmk hsr h190 hx hy
          have hG : (g || !m (24 * x + y)) = true := by simp [h217, h227]
          rw [hG] at hst
          refine ih _ (by omega) (i + 1) true _ _ rfl ⟨by omega, mc_up hmc (24 * x + y), fun q hq => by rw [es_upf _ _ _ _ hq]; exact hoff q hq, hst, ?_⟩
          by_cases e9 : k = 24 * x + y
          · rw [e9, xn_eq, Bool.or_true]
          · rw [xn_ne m _ e9]; exact hmk
theorem lp_MD_areSame_103 {S : sp_S} (hm : rm S σ) (hbo : sBoth S) {m0 : Nat → Bool} (hex : ∀ (g : Bool) (m : Nat → Bool) (σ1 : es_S), mc m σ1 → (∀ k, k ≠ 63 → σ1 k = σ k) → mP (s0 S) (s1 S) m0 g m 576 0 → ez_Ev l G X_MD_areSame 0 0 256 [some (.ref 46), some (.int (eb g)), none, none, none, none, none, none] [] (es_H σ1) (es_Q (es_I fun y σ' => (∃ g : Bool, y = eb g ∧ (g = true ↔ em_same (s0 S) (s1 S)) ∧ (g = true → ∀ a b, a < 24 → b < 24 → σ' 63 (24 * a + b) = eb (bd (em_M (s0 S) (s1 S) a b)))) ∧ ∀ k, k ≠ 63 → σ' k = σ k) es_no)) : ∀ (d : Nat) (k : Nat) (g : Bool) (m : Nat → Bool) (σ1 : es_S), 576 - k = d → (k ≤ 576 ∧ mc m σ1 ∧ (∀ k, k ≠ 63 → σ1 k = σ k) ∧ mP (s0 S) (s1 S) m0 g m k 0) → ez_Ev l G X_MD_areSame 0 0 103 [some (.ref 46), some (.int (eb g)), some (.int (nI k)), none, none, none, none, none] [] (es_H σ1) (es_Q (es_I fun y σ' => (∃ g : Bool, y = eb g ∧ (g = true ↔ em_same (s0 S) (s1 S)) ∧ (g = true → ∀ a b, a < 24 → b < 24 → σ' 63 (24 * a + b) = eb (bd (em_M (s0 S) (s1 S) a b)))) ∧ ∀ k, k ≠ 63 → σ' k = σ k) es_no) := by
  intro d
  induction d using Nat.strongRecOn with
  | _ d ih =>
    intro k g m σ1 hmm hinv
    obtain ⟨hk, hmc, hoff, hmp⟩ := hinv
    have hw := hm.1.2.1
    have hv := hm.1.2.2
    have hn1 := hw.1
    have hn2 := hv.1
    have hd0 : md (s0 S) 0 σ1 := md_off hm.2.2.2.1 (fun k g1 g2 => hoff k (by omega))
    have hd1 : md (s1 S) 1 σ1 := md_off hm.2.2.2.2 (fun k g1 g2 => hoff k (by omega))
    refine ev_iload_n (i := 2) d_MD_areSame_103 rfl rfl ?_
    refine ev_sipush (v := 576) d_MD_areSame_104 rfl ?_
    refine ev_icmp_ge d_MD_areSame_107 (fun h107 => ?_) (fun h107 => ?_)
    · rw [show (576 : Int32) = nI 576 from rfl, nI_leI (by omega) (by omega)] at h107
      have hke : k = 576 := by omega
      rw [hke] at hmp
      exact ev_mask [true, true, false, false, false, false, false, false] rfl (hex g m σ1 hmc hoff hmp)
    · rw [show (576 : Int32) = nI 576 from rfl, nI_leI (by omega) (by omega), Nat.not_le] at h107
      refine ev_aload_n (i := 0) d_MD_areSame_110 rfl rfl ?_
      refine es_getR d_MD_areSame_111 f_MD_59 rfl rfl ?_
      refine ev_iload_n (i := 2) d_MD_areSame_114 rfl rfl ?_
      refine es_zald d_MD_areSame_115 rfl (ez_vinN (by omega) (by omega)) ?_
      rw [nI_clamp (by omega), hmc k h107]
      refine ev_if_eq d_MD_areSame_116 (fun h116 => ?_) (fun h116 => ?_)
      · rw [eb_0] at h116
        refine ev_iinc d_MD_areSame_250 rfl (ez_inc _) (by decide) ?_
        dsimp only [List.set_cons_zero, List.set_cons_succ]
        refine ev_goto d_MD_areSame_253 ?_
        refine ev_mask [true, true, true, false, false, false, false, false] rfl ?_
        exact ih _ (by omega) (k + 1) g m σ1 rfl ⟨by omega, hmc, hoff, mP_next hmp (Or.inl h116)⟩
      · rw [eb_0, Bool.not_eq_false] at h116
        have hM : em_M (s0 S) (s1 S) (k / 24) (k % 24) := hmp.2.1 (k / 24) (k % 24) (Nat.mod_lt _ (by omega)) (by rw [Nat.div_add_mod]; exact h116)
        have hab := em_M_lt hw hv hM
        have hka := hw.2.1 _ hab.1
        have hkb := hv.2.1 _ hab.2
        have hc0 := md0 hd0 hab.1
        have hc1 := md1 hd1 hab.2
        refine ev_iload_n (i := 2) d_MD_areSame_119 rfl rfl ?_
        refine ev_bipush (v := 24) d_MD_areSame_120 rfl ?_
        refine ev_idiv d_MD_areSame_122 (by decide) ?_
        rw [show (24 : Int32) = nI 24 from rfl, pk_div (by omega) (by omega) (by omega)]
        refine ev_istore_n (i := 3) d_MD_areSame_123 rfl (by decide) ?_
        dsimp only [List.set_cons_zero, List.set_cons_succ]
        refine ev_iload_n (i := 2) d_MD_areSame_124 rfl rfl ?_
        refine ev_bipush (v := 24) d_MD_areSame_125 rfl ?_
        refine ev_irem d_MD_areSame_127 (by decide) ?_
        rw [show (24 : Int32) = nI 24 from rfl, pk_rem (by omega) (by omega) (by omega)]
        refine ev_istore d_MD_areSame_128 (by decide) ?_
        dsimp only [List.set_cons_zero, List.set_cons_succ]
        refine ev_aload_n (i := 0) d_MD_areSame_130 rfl rfl ?_
        refine es_getR d_MD_areSame_131 f_MD_17 rfl rfl ?_
        refine ev_iload_n (i := 3) d_MD_areSame_134 rfl rfl ?_
        refine es_iald d_MD_areSame_135 rfl (ez_vinN (by omega) (by omega)) ?_
        rw [nI_clamp (by omega), hc0.1]
        refine ev_istore d_MD_areSame_136 (by decide) ?_
        dsimp only [List.set_cons_zero, List.set_cons_succ]
        refine ev_iload d_MD_areSame_138 rfl ?_
        refine ev_aload_n (i := 0) d_MD_areSame_140 rfl rfl ?_
        refine es_getR d_MD_areSame_141 f_MD_17 rfl rfl ?_
        refine ev_bipush (v := 24) d_MD_areSame_144 rfl ?_
        refine ev_iload d_MD_areSame_146 rfl ?_
        refine ev_iadd d_MD_areSame_148 ?_
        rw [show (24 : Int32) = nI 24 from rfl, nI_add]
        refine es_iald d_MD_areSame_149 rfl (ez_vinN (by omega) (by omega)) ?_
        rw [nI_clamp (by omega), hc1.1]
        refine ev_icmp_ne d_MD_areSame_150 (fun h150 => ?_) (fun h150 => ?_)
        · rw [nI_eq (by omega) (by omega)] at h150
          refine ev_iconst (v := 0) d_MD_areSame_178 rfl ?_
          refine es_zret d_MD_areSame_179 rfl rfl ⟨Nat.zero_le _, Nat.zero_le _⟩ ⟨_, rfl, ?_⟩
          have hns : ¬ mt_sort (s0 S) (s1 S) (k / 24) (k % 24) := fun q => by first | exact h175 (q.2 (by omega)) | exact h150 q.1
          exact ⟨⟨false, rfl, ⟨(fun q => by cases q), fun q => absurd q (fun q => hns (q.2.1 _ _ hM))⟩, fun q => by cases q⟩, hoff⟩
        · rw [nI_eq (by omega) (by omega)] at h150
          refine ev_iload d_MD_areSame_153 rfl ?_
          refine ev_iconst (v := 1) d_MD_areSame_155 rfl ?_
          refine ev_icmp_gt d_MD_areSame_156 (fun h156 => ?_) (fun h156 => ?_)
          · rw [show (1 : Int32) = nI 1 from rfl, nI_ltI (by omega) (by omega)] at h156
            refine ev_iconst (v := 0) d_MD_areSame_180 rfl ?_
            refine ev_istore d_MD_areSame_181 (by decide) ?_
            dsimp only [List.set_cons_zero, List.set_cons_succ]
            refine ev_mask [true, true, true, true, true, true, true, false] rfl ?_
            have hsr : mt_sort (s0 S) (s1 S) (k / 24) (k % 24) := ⟨h150, fun q => by first | exact h175 | omega⟩
            refine lp_MD_areSame_183 hm hbo h107 (m0 := m0) hsr hab.1 hab.2 (fun g2 m2 σ2 k1 k2 k3 => ?_) _ 0 g m σ1 rfl ⟨Nat.zero_le _, hmc, hoff, hmp, h116⟩
            refine ev_iinc d_MD_areSame_250 rfl (ez_inc _) (by decide) ?_
            dsimp only [List.set_cons_zero, List.set_cons_succ]
            refine ev_goto d_MD_areSame_253 ?_
            exact ih _ (by omega) (k + 1) g2 m2 σ2 rfl ⟨by omega, k1, k2, k3⟩
          · rw [show (1 : Int32) = nI 1 from rfl, nI_ltI (by omega) (by omega)] at h156
            refine ev_aload_n (i := 0) d_MD_areSame_159 rfl rfl ?_
            refine es_getR d_MD_areSame_160 f_MD_20 rfl rfl ?_
            refine ev_iload_n (i := 3) d_MD_areSame_163 rfl rfl ?_
            refine es_iald d_MD_areSame_164 rfl (ez_vinN (by omega) (by omega)) ?_
            rw [nI_clamp (by omega), hc0.2]
            refine ev_aload_n (i := 0) d_MD_areSame_165 rfl rfl ?_
            refine es_getR d_MD_areSame_166 f_MD_20 rfl rfl ?_
            refine ev_bipush (v := 24) d_MD_areSame_169 rfl ?_
            refine ev_iload d_MD_areSame_171 rfl ?_
            refine ev_iadd d_MD_areSame_173 ?_
            rw [show (24 : Int32) = nI 24 from rfl, nI_add]
            refine es_iald d_MD_areSame_174 rfl (ez_vinN (by omega) (by omega)) ?_
            rw [nI_clamp (by omega), hc1.2]
            refine ev_icmp_eq d_MD_areSame_175 (fun h175 => ?_) (fun h175 => ?_)
            · refine ev_iconst (v := 0) d_MD_areSame_180 rfl ?_
              refine ev_istore d_MD_areSame_181 (by decide) ?_
              dsimp only [List.set_cons_zero, List.set_cons_succ]
              refine ev_mask [true, true, true, true, true, true, true, false] rfl ?_
              have hsr : mt_sort (s0 S) (s1 S) (k / 24) (k % 24) := ⟨h150, fun q => by first | exact h175 | omega⟩
              refine lp_MD_areSame_183 hm hbo h107 (m0 := m0) hsr hab.1 hab.2 (fun g2 m2 σ2 k1 k2 k3 => ?_) _ 0 g m σ1 rfl ⟨Nat.zero_le _, hmc, hoff, hmp, h116⟩
              refine ev_iinc d_MD_areSame_250 rfl (ez_inc _) (by decide) ?_
              dsimp only [List.set_cons_zero, List.set_cons_succ]
              refine ev_goto d_MD_areSame_253 ?_
              exact ih _ (by omega) (k + 1) g2 m2 σ2 rfl ⟨by omega, k1, k2, k3⟩
            · refine ev_iconst (v := 0) d_MD_areSame_178 rfl ?_
              refine es_zret d_MD_areSame_179 rfl rfl ⟨Nat.zero_le _, Nat.zero_le _⟩ ⟨_, rfl, ?_⟩
              have hns : ¬ mt_sort (s0 S) (s1 S) (k / 24) (k % 24) := fun q => by first | exact h175 (q.2 (by omega)) | exact h150 q.1
              exact ⟨⟨false, rfl, ⟨(fun q => by cases q), fun q => absurd q (fun q => hns (q.2.1 _ _ hM))⟩, fun q => by cases q⟩, hoff⟩
theorem lp_MD_areSame_95 {S : sp_S} (hm : rm S σ) (hbo : sBoth S) (ho : ∀ j, j < 3 → (em_o (s0 S) j = none ↔ em_o (s1 S) j = none)) : ∀ (d : Nat) (g : Bool) (m : Nat → Bool) (σ1 : es_S), 2 * (576 - em_ct (fun q => m q = true) 576) + bn g = d → (mc m σ1 ∧ (∀ k, k ≠ 63 → σ1 k = σ k) ∧ (∀ a b, b < 24 → m (24 * a + b) = true → em_M (s0 S) (s1 S) a b) ∧ (∀ j x y, j < 3 → em_o (s0 S) j = some x → em_o (s1 S) j = some y → m (24 * x + y) = true) ∧ (g = false → (∀ q, q < 576 → m q = true → mt_sort (s0 S) (s1 S) (q / 24) (q % 24)) ∧ ∀ q z x y, q < 576 → m q = true → z < em_nd (em_k (s0 S) (q / 24)) → em_w (s0 S) (q / 24) z = some x → em_w (s1 S) (q % 24) z = some y → m (24 * x + y) = true)) → ez_Ev l G X_MD_areSame 0 0 95 [some (.ref 46), some (.int (eb g)), none, none, none, none, none, none] [] (es_H σ1) (es_Q (es_I fun y σ' => (∃ g : Bool, y = eb g ∧ (g = true ↔ em_same (s0 S) (s1 S)) ∧ (g = true → ∀ a b, a < 24 → b < 24 → σ' 63 (24 * a + b) = eb (bd (em_M (s0 S) (s1 S) a b)))) ∧ ∀ k, k ≠ 63 → σ' k = σ k) es_no) := by
  intro d
  induction d using Nat.strongRecOn with
  | _ d ih =>
    intro g m σ1 hmm hinv
    obtain ⟨hmc, hoff, hsn, hou, hcl⟩ := hinv
    have hw := hm.1.2.1
    have hv := hm.1.2.2
    have hn1 := hw.1
    have hn2 := hv.1
    have hd0 : md (s0 S) 0 σ1 := md_off hm.2.2.2.1 (fun k g1 g2 => hoff k (by omega))
    have hd1 : md (s1 S) 1 σ1 := md_off hm.2.2.2.2 (fun k g1 g2 => hoff k (by omega))
    refine ev_iload_n (i := 1) d_MD_areSame_95 rfl rfl ?_
    refine ev_if_eq d_MD_areSame_96 (fun h96 => ?_) (fun h96 => ?_)
    · rw [eb_0] at h96
      refine ev_aload_n (i := 0) d_MD_areSame_259 rfl rfl ?_
      refine es_cVI ls_MD_areSame_260 d_MD_areSame_260 rfl (c_MD_areSingle hmc) rfl rfl (Nat.le_of_ble_eq_true rfl) (fun x260 σ260 h260 => ?_) (fun _ _ h => h.elim)
      obtain ⟨⟨gs, rfl, hgs⟩, e260⟩ := h260
      rw [e260]
      refine es_zret d_MD_areSame_263 rfl (eb_nar _) ⟨Nat.zero_le _, Nat.zero_le _⟩ ⟨_, rfl, ?_⟩
      have hend := mP_end hw hv hsn hou (hcl h96).1 (hcl h96).2
      refine ⟨⟨gs, rfl, hgs.trans (mS_same hw hv ho hend), fun _ a b ha hb => ?_⟩, hoff⟩
      rw [hmc _ (by omega), ← bd_of (hend.1 a b ha hb)]
    · rw [eb_0, Bool.not_eq_false] at h96
      refine ev_iconst (v := 0) d_MD_areSame_99 rfl ?_
      refine ev_istore_n (i := 1) d_MD_areSame_100 rfl (by decide) ?_
      dsimp only [List.set_cons_zero, List.set_cons_succ]
      refine ev_iconst (v := 0) d_MD_areSame_101 rfl ?_
      refine ev_istore_n (i := 2) d_MD_areSame_102 rfl (by decide) ?_
      dsimp only [List.set_cons_zero, List.set_cons_succ]
      refine lp_MD_areSame_103 hm hbo (m0 := m) (fun g2 m2 σ2 k1 k2 k3 => ?_) _ 0 false m σ1 rfl ⟨Nat.zero_le _, hmc, hoff, ⟨fun _ q => q, hsn, hou, (fun q => by cases q), fun _ => ⟨fun _ q => q, fun q hq => absurd hq (Nat.not_lt_zero _), fun q z x y hq => absurd hq (Nat.not_lt_zero _), fun z x y hz => absurd hz (Nat.not_lt_zero _)⟩⟩⟩
      refine ev_goto d_MD_areSame_256 ?_
      have hle := em_ct_le (p := fun q => m q = true) (q := fun q => m2 q = true) 576 (fun q _ h => k3.1 q h)
      have hl2 := em_ct_n (fun q => m2 q = true) 576
      refine ih _ ?_ g2 m2 σ2 rfl ⟨k1, k2, k3.2.1, k3.2.2.1, fun hg => ⟨(k3.2.2.2.2 hg).2.1, (k3.2.2.2.2 hg).2.2.1⟩⟩
      cases g2 with
      | true => have := k3.2.2.2.1 rfl; simp only [h96, bn, if_true] at hmm ⊢; omega
      | false => simp only [h96, bn, if_true, Bool.false_eq_true, if_false] at hmm ⊢; omega
theorem lp_MD_areSame_24 {S : sp_S} (hm : rm S σ) (hbo : sBoth S) : ∀ (d : Nat) (j : Nat) (m : Nat → Bool) (σ1 : es_S), 3 - j = d → (j ≤ 3 ∧ mc m σ1 ∧ (∀ k, k ≠ 63 → σ1 k = σ k) ∧ (∀ a b, b < 24 → m (24 * a + b) = true → em_M (s0 S) (s1 S) a b) ∧ (∀ i x y, i < j → em_o (s0 S) i = some x → em_o (s1 S) i = some y → m (24 * x + y) = true) ∧ (∀ i, i < j → (em_o (s0 S) i = none ↔ em_o (s1 S) i = none))) → ez_Ev l G X_MD_areSame 0 0 24 [some (.ref 46), some (.int (nI j)), none, none, none, none, none, none] [] (es_H σ1) (es_Q (es_I fun y σ' => (∃ g : Bool, y = eb g ∧ (g = true ↔ em_same (s0 S) (s1 S)) ∧ (g = true → ∀ a b, a < 24 → b < 24 → σ' 63 (24 * a + b) = eb (bd (em_M (s0 S) (s1 S) a b)))) ∧ ∀ k, k ≠ 63 → σ' k = σ k) es_no) := by
  intro d
  induction d using Nat.strongRecOn with
  | _ d ih =>
    intro j m σ1 hmm hinv
    obtain ⟨hj, hmc, hoff, hsn, hou, ho⟩ := hinv
    have hw := hm.1.2.1
    have hv := hm.1.2.2
    have hn1 := hw.1
    have hn2 := hv.1
    have hd0 : md (s0 S) 0 σ1 := md_off hm.2.2.2.1 (fun k g1 g2 => hoff k (by omega))
    have hd1 : md (s1 S) 1 σ1 := md_off hm.2.2.2.2 (fun k g1 g2 => hoff k (by omega))
    have hbo0 : ∀ t, em_o (s0 S) j = some t → t < 2 ^ 31 := fun t ht => by have := hw.2.2.2.1 j t ht; omega
    have hbo1 : ∀ t, em_o (s1 S) j = some t → t < 2 ^ 31 := fun t ht => by have := hv.2.2.2.1 j t ht; omega
    refine ev_iload_n (i := 1) d_MD_areSame_24 rfl rfl ?_
    refine ev_iconst (v := 3) d_MD_areSame_25 rfl ?_
    refine ev_icmp_ge d_MD_areSame_26 (fun h26 => ?_) (fun h26 => ?_)
    · rw [show (3 : Int32) = nI 3 from rfl, nI_leI (by omega) (by omega)] at h26
      refine ev_iconst (v := 1) d_MD_areSame_93 rfl ?_
      refine ev_istore_n (i := 1) d_MD_areSame_94 rfl (by decide) ?_
      dsimp only [List.set_cons_zero, List.set_cons_succ]
      have hje : j = 3 := by omega
      subst hje
      exact lp_MD_areSame_95 hm hbo ho _ true m σ1 rfl ⟨hmc, hoff, hsn, hou, (fun q => by cases q)⟩
    · rw [show (3 : Int32) = nI 3 from rfl, nI_leI (by omega) (by omega), Nat.not_le] at h26
      refine ev_aload_n (i := 0) d_MD_areSame_29 rfl rfl ?_
      refine es_getR d_MD_areSame_30 f_MD_29 rfl rfl ?_
      refine ev_iload_n (i := 1) d_MD_areSame_33 rfl rfl ?_
      refine es_iald d_MD_areSame_34 rfl (ez_vinN (by omega) (by omega)) ?_
      rw [nI_clamp (by omega)]
      have h53a := hd0.2.2 j h26
      rw [Nat.mul_zero, Nat.zero_add] at h53a
      rw [h53a]
      refine ev_istore_n (i := 2) d_MD_areSame_35 rfl (by decide) ?_
      dsimp only [List.set_cons_zero, List.set_cons_succ]
      refine ev_aload_n (i := 0) d_MD_areSame_36 rfl rfl ?_
      refine es_getR d_MD_areSame_37 f_MD_29 rfl rfl ?_
      refine ev_iconst (v := 3) d_MD_areSame_40 rfl ?_
      refine ev_iload_n (i := 1) d_MD_areSame_41 rfl rfl ?_
      refine ev_iadd d_MD_areSame_42 ?_
      rw [show (3 : Int32) = nI 3 from rfl, nI_add]
      refine es_iald d_MD_areSame_43 rfl (ez_vinN (by omega) (by omega)) ?_
      rw [nI_clamp (by omega)]
      have h53b := hd1.2.2 j h26
      rw [Nat.mul_one] at h53b
      rw [h53b]
      refine ev_istore_n (i := 3) d_MD_areSame_44 rfl (by decide) ?_
      dsimp only [List.set_cons_zero, List.set_cons_succ]
      refine ev_iload_n (i := 2) d_MD_areSame_45 rfl rfl ?_
      refine ev_iconst (v := (-1)) d_MD_areSame_46 rfl ?_
      refine ev_icmp_ne d_MD_areSame_47 (fun h47 => ?_) (fun h47 => ?_)
      · rw [en_none hbo0] at h47
        refine ev_iconst (v := 0) d_MD_areSame_54 rfl ?_
        refine ev_iload_n (i := 3) d_MD_areSame_55 rfl rfl ?_
        refine ev_iconst (v := (-1)) d_MD_areSame_56 rfl ?_
        refine ev_icmp_ne d_MD_areSame_57 (fun h57 => ?_) (fun h57 => ?_)
        · rw [en_none hbo1] at h57
          refine ev_iconst (v := 0) d_MD_areSame_64 rfl ?_
          refine ev_icmp_eq d_MD_areSame_65 (fun h65 => ?_) (fun h65 => ?_)
          · refine ev_iload_n (i := 2) d_MD_areSame_70 rfl rfl ?_
            refine ev_iconst (v := (-1)) d_MD_areSame_71 rfl ?_
            refine ev_icmp_eq d_MD_areSame_72 (fun h72 => ?_) (fun h72 => ?_)
            · rw [en_none hbo0] at h72
              exact absurd h72 h47
            · rw [en_none hbo0] at h72
              obtain ⟨a, haa⟩ := Option.ne_none_iff_exists'.mp h72
              obtain ⟨b, hbb⟩ := Option.ne_none_iff_exists'.mp h57
              have hal := hw.2.2.2.1 j a haa
              have hbl := hv.2.2.2.1 j b hbb
              rw [haa, hbb, show en (some a) = nI a from rfl, show en (some b) = nI b from rfl]
              refine ev_aload_n (i := 0) d_MD_areSame_75 rfl rfl ?_
              refine es_getR d_MD_areSame_76 f_MD_59 rfl rfl ?_
              refine ev_bipush (v := 24) d_MD_areSame_79 rfl ?_
              refine ev_iload_n (i := 2) d_MD_areSame_81 rfl rfl ?_
              refine ev_imul d_MD_areSame_82 ?_
              refine ev_iload_n (i := 3) d_MD_areSame_83 rfl rfl ?_
              refine ev_iadd d_MD_areSame_84 ?_
              rw [ix24]
              refine ev_iconst (v := 1) d_MD_areSame_85 rfl ?_
              refine es_zast d_MD_areSame_86 rfl (ez_vinN (by omega) (by omega)) ?_
              rw [nI_clamp (by omega)]
              refine ev_iinc d_MD_areSame_87 rfl (ez_inc _) (by decide) ?_
              dsimp only [List.set_cons_zero, List.set_cons_succ]
              refine ev_goto d_MD_areSame_90 ?_
              refine ev_mask [true, true, false, false, false, false, false, false] rfl ?_
              refine ih _ (by omega) (j + 1) _ _ rfl ⟨by omega, mc_up hmc (24 * a + b), fun q hq => by rw [es_upf _ _ _ _ hq]; exact hoff q hq, fun u v hv9 huv => ?_, fun i x y hi hx hy => ?_, fun i hi => ?_⟩
              · by_cases e : 24 * u + v = 24 * a + b
                · have : u = a ∧ v = b := by omega
                  rw [this.1, this.2]; exact em_M_o h26 haa hbb
                · rw [xn_ne m _ e] at huv; exact hsn u v hv9 huv
              · by_cases e : i = j
                · rw [e] at hx hy; rw [haa] at hx; rw [hbb] at hy; injection hx with hx; injection hy with hy; rw [← hx, ← hy, xn_eq, Bool.or_true]
                · have := hou i x y (by omega) hx hy
                  by_cases e2 : 24 * x + y = 24 * a + b
                  · rw [e2, xn_eq, Bool.or_true]
                  · rw [xn_ne m _ e2]; exact this
              · by_cases e : i = j
                · rw [e, haa, hbb]; simp
                · exact ho i (by omega)
          · exact absurd rfl h65
        · rw [en_none hbo1] at h57
          refine ev_iconst (v := 1) d_MD_areSame_60 rfl ?_
          refine ev_goto d_MD_areSame_61 ?_
          refine ev_icmp_eq d_MD_areSame_65 (fun h65 => ?_) (fun h65 => ?_)
          · exact absurd h65 (by decide)
          · refine ev_iconst (v := 0) d_MD_areSame_68 rfl ?_
            refine es_zret d_MD_areSame_69 rfl rfl ⟨Nat.zero_le _, Nat.zero_le _⟩ ⟨_, rfl, ?_⟩
            first
              | exact ⟨⟨false, rfl, ⟨(fun q => by cases q), fun q => absurd q (fun q => absurd ((q.1 j h26).mp h47) h57)⟩, fun q => by cases q⟩, hoff⟩
              | exact ⟨⟨false, rfl, ⟨(fun q => by cases q), fun q => absurd q (fun q => absurd ((q.1 j h26).mpr h57) h47)⟩, fun q => by cases q⟩, hoff⟩
      · rw [en_none hbo0] at h47
        refine ev_iconst (v := 1) d_MD_areSame_50 rfl ?_
        refine ev_goto d_MD_areSame_51 ?_
        refine ev_iload_n (i := 3) d_MD_areSame_55 rfl rfl ?_
        refine ev_iconst (v := (-1)) d_MD_areSame_56 rfl ?_
        refine ev_icmp_ne d_MD_areSame_57 (fun h57 => ?_) (fun h57 => ?_)
        · rw [en_none hbo1] at h57
          refine ev_iconst (v := 0) d_MD_areSame_64 rfl ?_
          refine ev_icmp_eq d_MD_areSame_65 (fun h65 => ?_) (fun h65 => ?_)
          · exact absurd h65 (by decide)
          · refine ev_iconst (v := 0) d_MD_areSame_68 rfl ?_
            refine es_zret d_MD_areSame_69 rfl rfl ⟨Nat.zero_le _, Nat.zero_le _⟩ ⟨_, rfl, ?_⟩
            first
              | exact ⟨⟨false, rfl, ⟨(fun q => by cases q), fun q => absurd q (fun q => absurd ((q.1 j h26).mp h47) h57)⟩, fun q => by cases q⟩, hoff⟩
              | exact ⟨⟨false, rfl, ⟨(fun q => by cases q), fun q => absurd q (fun q => absurd ((q.1 j h26).mpr h57) h47)⟩, fun q => by cases q⟩, hoff⟩
        · rw [en_none hbo1] at h57
          refine ev_iconst (v := 1) d_MD_areSame_60 rfl ?_
          refine ev_goto d_MD_areSame_61 ?_
          refine ev_icmp_eq d_MD_areSame_65 (fun h65 => ?_) (fun h65 => ?_)
          · refine ev_iload_n (i := 2) d_MD_areSame_70 rfl rfl ?_
            refine ev_iconst (v := (-1)) d_MD_areSame_71 rfl ?_
            refine ev_icmp_eq d_MD_areSame_72 (fun h72 => ?_) (fun h72 => ?_)
            · rw [en_none hbo0] at h72
              refine ev_iinc d_MD_areSame_87 rfl (ez_inc _) (by decide) ?_
              dsimp only [List.set_cons_zero, List.set_cons_succ]
              refine ev_goto d_MD_areSame_90 ?_
              refine ev_mask [true, true, false, false, false, false, false, false] rfl ?_
              have hb0 : em_o (s1 S) j = none := by first | exact h57 | exact (Classical.not_not.mp h57)
              refine ih _ (by omega) (j + 1) m σ1 rfl ⟨by omega, hmc, hoff, hsn, fun i x y hi hx hy => ?_, fun i hi => ?_⟩
              · by_cases e : i = j
                · rw [e, h72] at hx; cases hx
                · exact hou i x y (by omega) hx hy
              · by_cases e : i = j
                · rw [e, h72, hb0]
                · exact ho i (by omega)
            · rw [en_none hbo0] at h72
              exact absurd h47 h72
          · exact absurd rfl h65
theorem lp_MD_areSame_2 {S : sp_S} (hm : rm S σ) (hbo : sBoth S) : ∀ (d : Nat) (k : Nat) (σ1 : es_S), 576 - k = d → (k ≤ 576 ∧ (∀ q, q < k → σ1 63 q = eb false) ∧ (∀ k, k ≠ 63 → σ1 k = σ k)) → ez_Ev l G X_MD_areSame 0 0 2 [some (.ref 46), some (.int (nI k)), none, none, none, none, none, none] [] (es_H σ1) (es_Q (es_I fun y σ' => (∃ g : Bool, y = eb g ∧ (g = true ↔ em_same (s0 S) (s1 S)) ∧ (g = true → ∀ a b, a < 24 → b < 24 → σ' 63 (24 * a + b) = eb (bd (em_M (s0 S) (s1 S) a b)))) ∧ ∀ k, k ≠ 63 → σ' k = σ k) es_no) := by
  intro d
  induction d using Nat.strongRecOn with
  | _ d ih =>
    intro k σ1 hmm hinv
    obtain ⟨hk, hz, hoff⟩ := hinv
    refine ev_iload_n (i := 1) d_MD_areSame_2 rfl rfl ?_
    refine ev_sipush (v := 576) d_MD_areSame_3 rfl ?_
    refine ev_icmp_ge d_MD_areSame_6 (fun h6 => ?_) (fun h6 => ?_)
    · rw [show (576 : Int32) = nI 576 from rfl, nI_leI (by omega) (by omega)] at h6
      refine ev_iconst (v := 0) d_MD_areSame_22 rfl ?_
      refine ev_istore_n (i := 1) d_MD_areSame_23 rfl (by decide) ?_
      dsimp only [List.set_cons_zero, List.set_cons_succ]
      exact lp_MD_areSame_24 hm hbo _ 0 (fun _ => false) σ1 rfl ⟨by omega, fun q hq => hz q (by omega), hoff, (fun a b _ q => by cases q), fun i x y hi => absurd hi (Nat.not_lt_zero _), fun i hi => absurd hi (Nat.not_lt_zero _)⟩
    · rw [show (576 : Int32) = nI 576 from rfl, nI_leI (by omega) (by omega), Nat.not_le] at h6
      refine ev_aload_n (i := 0) d_MD_areSame_9 rfl rfl ?_
      refine es_getR d_MD_areSame_10 f_MD_59 rfl rfl ?_
      refine ev_iload_n (i := 1) d_MD_areSame_13 rfl rfl ?_
      refine ev_iconst (v := 0) d_MD_areSame_14 rfl ?_
      refine es_zast d_MD_areSame_15 rfl (ez_vinN (by omega) (by omega)) ?_
      rw [nI_clamp (by omega)]
      refine ev_iinc d_MD_areSame_16 rfl (ez_inc _) (by decide) ?_
      dsimp only [List.set_cons_zero, List.set_cons_succ]
      refine ev_goto d_MD_areSame_19 ?_
      refine ih _ (by omega) (k + 1) _ rfl ⟨by omega, fun q hq => ?_, fun k hk => by rw [es_upf _ _ _ _ hk]; exact hoff k hk⟩
      by_cases hqk : q = k
      · rw [hqk, es_upx, if_pos rfl, if_pos rfl]; rfl
      · rw [es_upx, if_pos rfl, if_neg hqk]; exact hz q (by omega)
theorem c_MD_areSame {S : sp_S} (hm : rm S σ) (hbo : sBoth S) : ez_Ct l G X_MD_areSame [.ref 46] (es_H σ) (es_Q (es_I fun y σ' => (∃ g : Bool, y = eb g ∧ (g = true ↔ em_same (s0 S) (s1 S)) ∧ (g = true → ∀ a b, a < 24 → b < 24 → σ' 63 (24 * a + b) = eb (bd (em_M (s0 S) (s1 S) a b)))) ∧ ∀ k, k ≠ 63 → σ' k = σ k) es_no) := by
  refine es_Ct_of (ls := [some (.ref 46), none, none, none, none, none, none, none]) ok_MD_areSame rfl (Nat.le_of_ble_eq_true rfl) rfl ?_
  refine ev_iconst (v := 0) d_MD_areSame_0 rfl ?_
  refine ev_istore_n (i := 1) d_MD_areSame_1 rfl (by decide) ?_
  dsimp only [List.set_cons_zero, List.set_cons_succ]
  exact lp_MD_areSame_2 hm hbo _ 0 σ rfl ⟨by omega, fun q hq => absurd hq (Nat.not_lt_zero _), fun _ _ => rfl⟩
end
