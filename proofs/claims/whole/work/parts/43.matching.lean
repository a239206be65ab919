/-! ===== Matching ===== -/
section
variable {l : Launch} {G : ez_G} {σ : es_S}
theorem c_MT_areOfOneSort {P : Nat} {E F : em_E} (hw : em_wf P E) (hv : em_wf P F) (hE : rc E 1 σ) (hF : rc F 10 σ) {a b : Nat} (ha : a < em_n E) (hb : b < em_n F) : ez_Ct l G X_MT_areOfOneSort [.ref 42, .int (nI a), .int (nI b)] (es_H σ) (es_Q (es_I fun y σ' => (∃ g : Bool, y = eb g ∧ (g = true ↔ mt_sort E F a b)) ∧ σ' = σ) es_no) := by
  have hk1 := hw.2.1 a ha
  have hk2 := hv.2.1 b hb
  refine es_Ct_of (ls := [some (.ref 42), some (.int (nI a)), some (.int (nI b)), none, none]) ok_MT_areOfOneSort rfl (Nat.le_of_ble_eq_true rfl) rfl ?_
  refine ev_aload_n (i := 0) d_MT_areOfOneSort_0 rfl rfl ?_
  refine es_getR d_MT_areOfOneSort_1 f_MT_25 rfl rfl ?_
  refine ev_iload_n (i := 1) d_MT_areOfOneSort_4 rfl rfl ?_
  refine es_cVI ls_MT_areOfOneSort_5 d_MT_areOfOneSort_5 rfl (c_ED_kindOf (Or.inl rfl) hw hE ha) rfl rfl (Nat.le_of_ble_eq_true rfl) (fun x5 σ5 h5 => ?_) (fun _ _ h => h.elim)
  obtain ⟨rfl, e5⟩ := h5
  rw [e5]
  refine ev_istore_n (i := 3) d_MT_areOfOneSort_8 rfl (by decide) ?_
  dsimp only [List.set_cons_zero, List.set_cons_succ]
  refine ev_iload_n (i := 3) d_MT_areOfOneSort_9 rfl rfl ?_
  refine ev_if_eq d_MT_areOfOneSort_10 (fun h10 => ?_) (fun h10 => ?_)
  · rw [show (0 : Int32) = nI 0 from rfl, nI_eq (by omega) (by omega)] at h10
    refine ev_iconst (v := 1) d_MT_areOfOneSort_18 rfl ?_
    refine ev_goto d_MT_areOfOneSort_19 ?_
    refine ev_istore d_MT_areOfOneSort_23 (by decide) ?_
    dsimp only [List.set_cons_zero, List.set_cons_succ]
    refine ev_iload_n (i := 3) d_MT_areOfOneSort_25 rfl rfl ?_
    refine ev_aload_n (i := 0) d_MT_areOfOneSort_26 rfl rfl ?_
    refine es_getR d_MT_areOfOneSort_27 f_MT_29 rfl rfl ?_
    refine ev_iload_n (i := 2) d_MT_areOfOneSort_30 rfl rfl ?_
    refine es_cVI ls_MT_areOfOneSort_31 d_MT_areOfOneSort_31 rfl (c_ED_kindOf (Or.inr rfl) hv hF hb) rfl rfl (Nat.le_of_ble_eq_true rfl) (fun x31 σ31 h31 => ?_) (fun _ _ h => h.elim)
    obtain ⟨rfl, e31⟩ := h31
    rw [e31]
    refine ev_icmp_ne d_MT_areOfOneSort_34 (fun h34 => ?_) (fun h34 => ?_)
    · rw [nI_eq (by omega) (by omega)] at h34
      refine ev_iconst (v := 0) d_MT_areOfOneSort_65 rfl ?_
      refine es_zret d_MT_areOfOneSort_66 rfl rfl ⟨Nat.zero_le _, Nat.zero_le _⟩ ⟨_, rfl, ?_⟩
      first
        | exact ⟨⟨true, rfl, fun _ => ⟨h34, fun _ => h58⟩, fun _ => rfl⟩, rfl⟩
        | exact ⟨⟨true, rfl, fun _ => ⟨h34, fun g => by omega⟩, fun _ => rfl⟩, rfl⟩
        | exact ⟨⟨false, rfl, (fun g => by cases g), fun g => absurd g.1 h34⟩, rfl⟩
        | exact ⟨⟨false, rfl, (fun g => by cases g), fun g => absurd (g.2 (by omega)) h58⟩, rfl⟩
    · rw [nI_eq (by omega) (by omega)] at h34; try rw [Classical.not_not] at h34
      refine ev_iload d_MT_areOfOneSort_37 rfl ?_
      refine ev_if_eq d_MT_areOfOneSort_39 (fun h => absurd h (by decide)) (fun _ => ?_)
      refine ev_aload_n (i := 0) d_MT_areOfOneSort_42 rfl rfl ?_
      refine es_getR d_MT_areOfOneSort_43 f_MT_25 rfl rfl ?_
      refine ev_iload_n (i := 1) d_MT_areOfOneSort_46 rfl rfl ?_
      refine es_cVI ls_MT_areOfOneSort_47 d_MT_areOfOneSort_47 rfl (c_ED_numberOf (Or.inl rfl) hw hE ha) rfl rfl (Nat.le_of_ble_eq_true rfl) (fun x47 σ47 h47 => ?_) (fun _ _ h => h.elim)
      obtain ⟨rfl, e47⟩ := h47
      rw [e47]
      refine ev_aload_n (i := 0) d_MT_areOfOneSort_50 rfl rfl ?_
      refine es_getR d_MT_areOfOneSort_51 f_MT_29 rfl rfl ?_
      refine ev_iload_n (i := 2) d_MT_areOfOneSort_54 rfl rfl ?_
      refine es_cVI ls_MT_areOfOneSort_55 d_MT_areOfOneSort_55 rfl (c_ED_numberOf (Or.inr rfl) hv hF hb) rfl rfl (Nat.le_of_ble_eq_true rfl) (fun x55 σ55 h55 => ?_) (fun _ _ h => h.elim)
      obtain ⟨rfl, e55⟩ := h55
      rw [e55]
      refine ev_icmp_ne d_MT_areOfOneSort_58 (fun h58 => ?_) (fun h58 => ?_)
      · rw [if_neg (show ¬ em_k E a = 6 by omega), if_neg (show ¬ em_k F b = 6 by omega)] at h58
        refine ev_iconst (v := 0) d_MT_areOfOneSort_65 rfl ?_
        refine es_zret d_MT_areOfOneSort_66 rfl rfl ⟨Nat.zero_le _, Nat.zero_le _⟩ ⟨_, rfl, ?_⟩
        first
          | exact ⟨⟨true, rfl, fun _ => ⟨h34, fun _ => h58⟩, fun _ => rfl⟩, rfl⟩
          | exact ⟨⟨true, rfl, fun _ => ⟨h34, fun g => by omega⟩, fun _ => rfl⟩, rfl⟩
          | exact ⟨⟨false, rfl, (fun g => by cases g), fun g => absurd g.1 h34⟩, rfl⟩
          | exact ⟨⟨false, rfl, (fun g => by cases g), fun g => absurd (g.2 (by omega)) h58⟩, rfl⟩
      · rw [if_neg (show ¬ em_k E a = 6 by omega), if_neg (show ¬ em_k F b = 6 by omega)] at h58; try rw [Classical.not_not] at h58
        refine ev_iconst (v := 1) d_MT_areOfOneSort_61 rfl ?_
        refine ev_goto d_MT_areOfOneSort_62 ?_
        refine es_zret d_MT_areOfOneSort_66 rfl rfl ⟨Nat.zero_le _, Nat.zero_le _⟩ ⟨_, rfl, ?_⟩
        first
          | exact ⟨⟨true, rfl, fun _ => ⟨h34, fun _ => h58⟩, fun _ => rfl⟩, rfl⟩
          | exact ⟨⟨true, rfl, fun _ => ⟨h34, fun g => by omega⟩, fun _ => rfl⟩, rfl⟩
          | exact ⟨⟨false, rfl, (fun g => by cases g), fun g => absurd g.1 h34⟩, rfl⟩
          | exact ⟨⟨false, rfl, (fun g => by cases g), fun g => absurd (g.2 (by omega)) h58⟩, rfl⟩
  · rw [show (0 : Int32) = nI 0 from rfl, nI_eq (by omega) (by omega)] at h10
    refine ev_iload_n (i := 3) d_MT_areOfOneSort_13 rfl rfl ?_
    refine ev_iconst (v := 1) d_MT_areOfOneSort_14 rfl ?_
    refine ev_icmp_ne d_MT_areOfOneSort_15 (fun h15 => ?_) (fun h15 => ?_)
    · rw [show (1 : Int32) = nI 1 from rfl, nI_eq (by omega) (by omega)] at h15
      refine ev_iconst (v := 0) d_MT_areOfOneSort_22 rfl ?_
      refine ev_istore d_MT_areOfOneSort_23 (by decide) ?_
      dsimp only [List.set_cons_zero, List.set_cons_succ]
      refine ev_iload_n (i := 3) d_MT_areOfOneSort_25 rfl rfl ?_
      refine ev_aload_n (i := 0) d_MT_areOfOneSort_26 rfl rfl ?_
      refine es_getR d_MT_areOfOneSort_27 f_MT_29 rfl rfl ?_
      refine ev_iload_n (i := 2) d_MT_areOfOneSort_30 rfl rfl ?_
      refine es_cVI ls_MT_areOfOneSort_31 d_MT_areOfOneSort_31 rfl (c_ED_kindOf (Or.inr rfl) hv hF hb) rfl rfl (Nat.le_of_ble_eq_true rfl) (fun x31 σ31 h31 => ?_) (fun _ _ h => h.elim)
      obtain ⟨rfl, e31⟩ := h31
      rw [e31]
      refine ev_icmp_ne d_MT_areOfOneSort_34 (fun h34 => ?_) (fun h34 => ?_)
      · rw [nI_eq (by omega) (by omega)] at h34
        refine ev_iconst (v := 0) d_MT_areOfOneSort_65 rfl ?_
        refine es_zret d_MT_areOfOneSort_66 rfl rfl ⟨Nat.zero_le _, Nat.zero_le _⟩ ⟨_, rfl, ?_⟩
        first
          | exact ⟨⟨true, rfl, fun _ => ⟨h34, fun _ => h58⟩, fun _ => rfl⟩, rfl⟩
          | exact ⟨⟨true, rfl, fun _ => ⟨h34, fun g => by omega⟩, fun _ => rfl⟩, rfl⟩
          | exact ⟨⟨false, rfl, (fun g => by cases g), fun g => absurd g.1 h34⟩, rfl⟩
          | exact ⟨⟨false, rfl, (fun g => by cases g), fun g => absurd (g.2 (by omega)) h58⟩, rfl⟩
      · rw [nI_eq (by omega) (by omega)] at h34; try rw [Classical.not_not] at h34
        refine ev_iload d_MT_areOfOneSort_37 rfl ?_
        refine ev_if_eq d_MT_areOfOneSort_39 (fun _ => ?_) (fun h => absurd h (by decide))
        refine ev_iconst (v := 1) d_MT_areOfOneSort_61 rfl ?_
        refine ev_goto d_MT_areOfOneSort_62 ?_
        refine es_zret d_MT_areOfOneSort_66 rfl rfl ⟨Nat.zero_le _, Nat.zero_le _⟩ ⟨_, rfl, ?_⟩
        first
          | exact ⟨⟨true, rfl, fun _ => ⟨h34, fun _ => h58⟩, fun _ => rfl⟩, rfl⟩
          | exact ⟨⟨true, rfl, fun _ => ⟨h34, fun g => by omega⟩, fun _ => rfl⟩, rfl⟩
          | exact ⟨⟨false, rfl, (fun g => by cases g), fun g => absurd g.1 h34⟩, rfl⟩
          | exact ⟨⟨false, rfl, (fun g => by cases g), fun g => absurd (g.2 (by omega)) h58⟩, rfl⟩
    · rw [show (1 : Int32) = nI 1 from rfl, nI_eq (by omega) (by omega)] at h15
      refine ev_iconst (v := 1) d_MT_areOfOneSort_18 rfl ?_
      refine ev_goto d_MT_areOfOneSort_19 ?_
      refine ev_istore d_MT_areOfOneSort_23 (by decide) ?_
      dsimp only [List.set_cons_zero, List.set_cons_succ]
      refine ev_iload_n (i := 3) d_MT_areOfOneSort_25 rfl rfl ?_
      refine ev_aload_n (i := 0) d_MT_areOfOneSort_26 rfl rfl ?_
      refine es_getR d_MT_areOfOneSort_27 f_MT_29 rfl rfl ?_
      refine ev_iload_n (i := 2) d_MT_areOfOneSort_30 rfl rfl ?_
      refine es_cVI ls_MT_areOfOneSort_31 d_MT_areOfOneSort_31 rfl (c_ED_kindOf (Or.inr rfl) hv hF hb) rfl rfl (Nat.le_of_ble_eq_true rfl) (fun x31 σ31 h31 => ?_) (fun _ _ h => h.elim)
      obtain ⟨rfl, e31⟩ := h31
      rw [e31]
      refine ev_icmp_ne d_MT_areOfOneSort_34 (fun h34 => ?_) (fun h34 => ?_)
      · rw [nI_eq (by omega) (by omega)] at h34
        refine ev_iconst (v := 0) d_MT_areOfOneSort_65 rfl ?_
        refine es_zret d_MT_areOfOneSort_66 rfl rfl ⟨Nat.zero_le _, Nat.zero_le _⟩ ⟨_, rfl, ?_⟩
        first
          | exact ⟨⟨true, rfl, fun _ => ⟨h34, fun _ => h58⟩, fun _ => rfl⟩, rfl⟩
          | exact ⟨⟨true, rfl, fun _ => ⟨h34, fun g => by omega⟩, fun _ => rfl⟩, rfl⟩
          | exact ⟨⟨false, rfl, (fun g => by cases g), fun g => absurd g.1 h34⟩, rfl⟩
          | exact ⟨⟨false, rfl, (fun g => by cases g), fun g => absurd (g.2 (by omega)) h58⟩, rfl⟩
      · rw [nI_eq (by omega) (by omega)] at h34; try rw [Classical.not_not] at h34
        refine ev_iload d_MT_areOfOneSort_37 rfl ?_
        refine ev_if_eq d_MT_areOfOneSort_39 (fun h => absurd h (by decide)) (fun _ => ?_)
        refine ev_aload_n (i := 0) d_MT_areOfOneSort_42 rfl rfl ?_
        refine es_getR d_MT_areOfOneSort_43 f_MT_25 rfl rfl ?_
        refine ev_iload_n (i := 1) d_MT_areOfOneSort_46 rfl rfl ?_
        refine es_cVI ls_MT_areOfOneSort_47 d_MT_areOfOneSort_47 rfl (c_ED_numberOf (Or.inl rfl) hw hE ha) rfl rfl (Nat.le_of_ble_eq_true rfl) (fun x47 σ47 h47 => ?_) (fun _ _ h => h.elim)
        obtain ⟨rfl, e47⟩ := h47
        rw [e47]
        refine ev_aload_n (i := 0) d_MT_areOfOneSort_50 rfl rfl ?_
        refine es_getR d_MT_areOfOneSort_51 f_MT_29 rfl rfl ?_
        refine ev_iload_n (i := 2) d_MT_areOfOneSort_54 rfl rfl ?_
        refine es_cVI ls_MT_areOfOneSort_55 d_MT_areOfOneSort_55 rfl (c_ED_numberOf (Or.inr rfl) hv hF hb) rfl rfl (Nat.le_of_ble_eq_true rfl) (fun x55 σ55 h55 => ?_) (fun _ _ h => h.elim)
        obtain ⟨rfl, e55⟩ := h55
        rw [e55]
        refine ev_icmp_ne d_MT_areOfOneSort_58 (fun h58 => ?_) (fun h58 => ?_)
        · rw [if_neg (show ¬ em_k E a = 6 by omega), if_neg (show ¬ em_k F b = 6 by omega)] at h58
          refine ev_iconst (v := 0) d_MT_areOfOneSort_65 rfl ?_
          refine es_zret d_MT_areOfOneSort_66 rfl rfl ⟨Nat.zero_le _, Nat.zero_le _⟩ ⟨_, rfl, ?_⟩
          first
            | exact ⟨⟨true, rfl, fun _ => ⟨h34, fun _ => h58⟩, fun _ => rfl⟩, rfl⟩
            | exact ⟨⟨true, rfl, fun _ => ⟨h34, fun g => by omega⟩, fun _ => rfl⟩, rfl⟩
            | exact ⟨⟨false, rfl, (fun g => by cases g), fun g => absurd g.1 h34⟩, rfl⟩
            | exact ⟨⟨false, rfl, (fun g => by cases g), fun g => absurd (g.2 (by omega)) h58⟩, rfl⟩
        · rw [if_neg (show ¬ em_k E a = 6 by omega), if_neg (show ¬ em_k F b = 6 by omega)] at h58; try rw [Classical.not_not] at h58
          refine ev_iconst (v := 1) d_MT_areOfOneSort_61 rfl ?_
          refine ev_goto d_MT_areOfOneSort_62 ?_
          refine es_zret d_MT_areOfOneSort_66 rfl rfl ⟨Nat.zero_le _, Nat.zero_le _⟩ ⟨_, rfl, ?_⟩
          first
            | exact ⟨⟨true, rfl, fun _ => ⟨h34, fun _ => h58⟩, fun _ => rfl⟩, rfl⟩
            | exact ⟨⟨true, rfl, fun _ => ⟨h34, fun g => by omega⟩, fun _ => rfl⟩, rfl⟩
            | exact ⟨⟨false, rfl, (fun g => by cases g), fun g => absurd g.1 h34⟩, rfl⟩
            | exact ⟨⟨false, rfl, (fun g => by cases g), fun g => absurd (g.2 (by omega)) h58⟩, rfl⟩
theorem c_MT_partnerOf {a : Nat} (ha : a < 24) : ez_Ct l G X_MT_partnerOf [.ref 42, .int (nI a)] (es_H σ) (es_Q (es_I fun y σ' => y = σ 43 a ∧ σ' = σ) es_no) := by
  refine es_Ct_of (ls := [some (.ref 42), some (.int (nI a))]) ok_MT_partnerOf rfl (Nat.le_of_ble_eq_true rfl) rfl ?_
  refine ev_iload_n (i := 1) d_MT_partnerOf_0 rfl rfl ?_
  refine ev_bipush (v := 24) d_MT_partnerOf_1 rfl ?_
  refine es_cSI ls_MT_partnerOf_3 d_MT_partnerOf_3 c_EE_isWithin rfl rfl (Nat.le_of_ble_eq_true rfl) (fun x3 σ3 h3 => ?_) (fun _ _ h => h.elim)
  obtain ⟨rfl, e3⟩ := h3
  rw [e3]
  refine ev_if_eq d_MT_partnerOf_6 (fun h6 => ?_) (fun h6 => ?_)
  · exact absurd h6 (by rw [show (24 : Int32) = nI 24 from rfl, ew_nI (by omega) (by omega), decide_eq_true ha]; decide)
  · refine ev_aload_n (i := 0) d_MT_partnerOf_9 rfl rfl ?_
    refine es_getR d_MT_partnerOf_10 f_MT_9 rfl rfl ?_
    refine ev_iload_n (i := 1) d_MT_partnerOf_13 rfl rfl ?_
    refine es_iald d_MT_partnerOf_14 rfl (ez_vinN (by omega) (by omega)) ?_
    refine ev_goto d_MT_partnerOf_15 ?_
    refine es_iret d_MT_partnerOf_19 rfl ⟨Nat.zero_le _, Nat.zero_le _⟩ ⟨_, rfl, ?_⟩
    exact ⟨by rw [nI_clamp (by omega)], rfl⟩
theorem c_MT_matchBoth {P : Nat} {E F : em_E} (hw : em_wf P E) (hv : em_wf P F) (hE : rc E 1 σ) (hF : rc F 10 σ) {x y : Option Nat} (hx : ∀ a, x = some a → a < em_n E) (hy : ∀ b, y = some b → b < em_n F) (hM : ∀ a b, x = some a → y = some b → em_M E F a b) {pt pb : Nat → Option Nat} {q : Nat → Nat} {m : Nat} (hI : mp_I E F pt pb q m σ) : ez_Ct l G X_MT_matchBoth [.ref 42, .int (en x), .int (en y)] (es_H σ) (es_Q (es_I fun v σ' => (∃ g : Bool, v = eb g ∧ (g = false → ¬ ((x = none ↔ y = none) ∧ em_same E F)) ∧ (g = true → ∃ pt' pb' q' m', mp_I E F pt' pb' q' m' σ' ∧ m ≤ m' ∧ (∀ i, i < m → q' i = q i) ∧ (∀ a b, pt a = some b → pt' a = some b) ∧ ((x = none ∧ y = none) ∨ ∃ a b, x = some a ∧ y = some b ∧ pt' a = some b))) ∧ ∀ k, (k < 42 ∨ 45 < k) → σ' k = σ k) es_no) := by
  have hn1 := hw.1
  have hn2 := hv.1
  refine es_Ct_of (ls := [some (.ref 42), some (.int (en x)), some (.int (en y)), none]) ok_MT_matchBoth rfl (Nat.le_of_ble_eq_true rfl) rfl ?_
  refine ev_iload_n (i := 1) d_MT_matchBoth_0 rfl rfl ?_
  refine ev_bipush (v := 24) d_MT_matchBoth_1 rfl ?_
  refine es_cSI ls_MT_matchBoth_3 d_MT_matchBoth_3 c_EE_isWithin rfl rfl (Nat.le_of_ble_eq_true rfl) (fun x3 σ3 h3 => ?_) (fun _ _ h => h.elim)
  obtain ⟨rfl, e3⟩ := h3
  rw [e3]
  refine ev_if_eq d_MT_matchBoth_6 (fun h6 => ?_) (fun h6 => ?_)
  · rw [ew24 (fun t ht => by have := hx t ht; omega), eb_0] at h6
    have hx0 : x = none := by cases x with | none => rfl | some t => cases h6
    subst hx0
    refine ev_iload_n (i := 1) d_MT_matchBoth_18 rfl rfl ?_
    refine ev_iload_n (i := 2) d_MT_matchBoth_19 rfl rfl ?_
    refine ev_icmp_ne d_MT_matchBoth_20 (fun h20 => ?_) (fun h20 => ?_)
    · refine ev_iconst (v := 0) d_MT_matchBoth_27 rfl ?_
      refine es_zret d_MT_matchBoth_28 rfl rfl ⟨Nat.zero_le _, Nat.zero_le _⟩ ⟨_, rfl, ?_⟩
      refine ⟨?_, fun _ _ => rfl⟩
      first
        | (have hy0 : y = none := ((en_none (fun t ht => by have := hy t ht; omega)).mp (Classical.not_not.mp h20).symm)
           exact ⟨true, rfl, (fun g => by cases g), fun _ => ⟨pt, pb, q, m, hI, Nat.le_refl _, fun _ _ => rfl, fun _ _ g => g, Or.inl ⟨rfl, hy0⟩⟩⟩)
        | (have hy0 : y = none := ((en_none (fun t ht => by have := hy t ht; omega)).mp h20.symm)
           exact ⟨true, rfl, (fun g => by cases g), fun _ => ⟨pt, pb, q, m, hI, Nat.le_refl _, fun _ _ => rfl, fun _ _ g => g, Or.inl ⟨rfl, hy0⟩⟩⟩)
        | (refine ⟨false, rfl, fun _ g => ?_, fun g => by cases g⟩
           first
             | exact h20 (by rw [g.1.mp rfl])
             | (have := g.1.mpr rfl; cases this))
        | exact absurd h20 (en_ne (t := a) (by omega))
        | exact absurd (Classical.not_not.mp h20) (en_ne (t := a) (by omega))
    · refine ev_iconst (v := 1) d_MT_matchBoth_23 rfl ?_
      refine ev_goto d_MT_matchBoth_24 ?_
      refine es_zret d_MT_matchBoth_28 rfl rfl ⟨Nat.zero_le _, Nat.zero_le _⟩ ⟨_, rfl, ?_⟩
      refine ⟨?_, fun _ _ => rfl⟩
      first
        | (have hy0 : y = none := ((en_none (fun t ht => by have := hy t ht; omega)).mp (Classical.not_not.mp h20).symm)
           exact ⟨true, rfl, (fun g => by cases g), fun _ => ⟨pt, pb, q, m, hI, Nat.le_refl _, fun _ _ => rfl, fun _ _ g => g, Or.inl ⟨rfl, hy0⟩⟩⟩)
        | (have hy0 : y = none := ((en_none (fun t ht => by have := hy t ht; omega)).mp h20.symm)
           exact ⟨true, rfl, (fun g => by cases g), fun _ => ⟨pt, pb, q, m, hI, Nat.le_refl _, fun _ _ => rfl, fun _ _ g => g, Or.inl ⟨rfl, hy0⟩⟩⟩)
        | (refine ⟨false, rfl, fun _ g => ?_, fun g => by cases g⟩
           first
             | exact h20 (by rw [g.1.mp rfl])
             | (have := g.1.mpr rfl; cases this))
        | exact absurd h20 (en_ne (t := a) (by omega))
        | exact absurd (Classical.not_not.mp h20) (en_ne (t := a) (by omega))
  · rw [ew24 (fun t ht => by have := hx t ht; omega), eb_0, Bool.not_eq_false] at h6
    obtain ⟨a, rfl⟩ := Option.isSome_iff_exists.mp h6
    have ha := hx a rfl
    refine ev_iload_n (i := 2) d_MT_matchBoth_9 rfl rfl ?_
    refine ev_bipush (v := 24) d_MT_matchBoth_10 rfl ?_
    refine es_cSI ls_MT_matchBoth_12 d_MT_matchBoth_12 c_EE_isWithin rfl rfl (Nat.le_of_ble_eq_true rfl) (fun x12 σ12 h12 => ?_) (fun _ _ h => h.elim)
    obtain ⟨rfl, e12⟩ := h12
    rw [e12]
    refine ev_if_ne d_MT_matchBoth_15 (fun h15 => ?_) (fun h15 => ?_)
    · rw [ew24 (fun t ht => by have := hy t ht; omega), eb_0, Bool.not_eq_false] at h15
      obtain ⟨b, rfl⟩ := Option.isSome_iff_exists.mp h15
      have hb := hy b rfl
      have hab := hM a b rfl rfl
      have hca : (en (some a)).toNatClampNeg = a := nI_clamp (by omega)
      have hcb : (en (some b)).toNatClampNeg = b := nI_clamp (by omega)
      have hpa := hI.2.2.2.1 a (by omega)
      have hpb := hI.2.2.2.2.1 b (by omega)
      have bpt : ∀ t, pt a = some t → t < 2 ^ 31 := fun t ht => by have := (hI.2.2.2.2.2.2.2.1 a t ht).2.1; omega
      have bpb : ∀ t, pb b = some t → t < 2 ^ 31 := fun t ht => by have := (hI.2.2.2.2.2.2.2.1 t b ((hI.2.2.2.2.2.2.1 t b).mpr ht)).1; omega
      refine ev_aload_n (i := 0) d_MT_matchBoth_29 rfl rfl ?_
      refine es_getR d_MT_matchBoth_30 f_MT_9 rfl rfl ?_
      refine ev_iload_n (i := 1) d_MT_matchBoth_33 rfl rfl ?_
      refine es_iald d_MT_matchBoth_34 rfl (ez_vinN (by omega) (by omega)) ?_
      refine ev_iload_n (i := 2) d_MT_matchBoth_35 rfl rfl ?_
      refine ev_icmp_ne d_MT_matchBoth_36 (fun h36 => ?_) (fun h36 => ?_)
      · rw [hca, hpa, en_inj bpt (fun t ht => by injection ht; omega)] at h36
        refine ev_aload_n (i := 0) d_MT_matchBoth_41 rfl rfl ?_
        refine es_getR d_MT_matchBoth_42 f_MT_9 rfl rfl ?_
        refine ev_iload_n (i := 1) d_MT_matchBoth_45 rfl rfl ?_
        refine es_iald d_MT_matchBoth_46 rfl (ez_vinN (by omega) (by omega)) ?_
        refine ev_iconst (v := (-1)) d_MT_matchBoth_47 rfl ?_
        refine ev_icmp_ne d_MT_matchBoth_48 (fun h48 => ?_) (fun h48 => ?_)
        · rw [hca, hpa, en_none bpt] at h48
          refine ev_iconst (v := 0) d_MT_matchBoth_65 rfl ?_
          refine ev_istore_n (i := 3) d_MT_matchBoth_66 rfl (by decide) ?_
          dsimp only [List.set_cons_zero, List.set_cons_succ]
          refine ev_iload_n (i := 3) d_MT_matchBoth_67 rfl rfl ?_
          refine ev_if_eq d_MT_matchBoth_68 (fun _ => ?_) (fun h => absurd h (by decide))
          refine ev_iconst (v := 0) d_MT_matchBoth_89 rfl ?_
          refine es_zret d_MT_matchBoth_90 rfl rfl ⟨Nat.zero_le _, Nat.zero_le _⟩ ⟨_, rfl, ?_⟩
          refine ⟨⟨false, rfl, fun _ g => ?_, fun g => by cases g⟩, fun _ _ => rfl⟩
          first
            | exact hns (g.2.2.1 a b hab)
            | (obtain ⟨b', hb'⟩ := Option.ne_none_iff_exists'.mp h48
               exact h36 (by rw [hb', g.2.2.2.1 a b b' hab (hI.2.2.2.2.2.2.2.1 a b' hb').2.2.1]))
            | (obtain ⟨a', ha'⟩ := Option.ne_none_iff_exists'.mp h58
               have h9 := (hI.2.2.2.2.2.2.1 a' b).mpr ha'
               have h8 := g.2.2.2.2 a a' b hab (hI.2.2.2.2.2.2.2.1 a' b h9).2.2.1
               rw [← h8, h48] at h9; cases h9)
        · rw [hca, hpa, en_none bpt] at h48; try rw [Classical.not_not] at h48
          refine ev_aload_n (i := 0) d_MT_matchBoth_51 rfl rfl ?_
          refine es_getR d_MT_matchBoth_52 f_MT_15 rfl rfl ?_
          refine ev_iload_n (i := 2) d_MT_matchBoth_55 rfl rfl ?_
          refine es_iald d_MT_matchBoth_56 rfl (ez_vinN (by omega) (by omega)) ?_
          refine ev_iconst (v := (-1)) d_MT_matchBoth_57 rfl ?_
          refine ev_icmp_ne d_MT_matchBoth_58 (fun h58 => ?_) (fun h58 => ?_)
          · rw [hcb, hpb, en_none bpb] at h58
            refine ev_iconst (v := 0) d_MT_matchBoth_65 rfl ?_
            refine ev_istore_n (i := 3) d_MT_matchBoth_66 rfl (by decide) ?_
            dsimp only [List.set_cons_zero, List.set_cons_succ]
            refine ev_iload_n (i := 3) d_MT_matchBoth_67 rfl rfl ?_
            refine ev_if_eq d_MT_matchBoth_68 (fun _ => ?_) (fun h => absurd h (by decide))
            refine ev_iconst (v := 0) d_MT_matchBoth_89 rfl ?_
            refine es_zret d_MT_matchBoth_90 rfl rfl ⟨Nat.zero_le _, Nat.zero_le _⟩ ⟨_, rfl, ?_⟩
            refine ⟨⟨false, rfl, fun _ g => ?_, fun g => by cases g⟩, fun _ _ => rfl⟩
            first
              | exact hns (g.2.2.1 a b hab)
              | (obtain ⟨b', hb'⟩ := Option.ne_none_iff_exists'.mp h48
                 exact h36 (by rw [hb', g.2.2.2.1 a b b' hab (hI.2.2.2.2.2.2.2.1 a b' hb').2.2.1]))
              | (obtain ⟨a', ha'⟩ := Option.ne_none_iff_exists'.mp h58
                 have h9 := (hI.2.2.2.2.2.2.1 a' b).mpr ha'
                 have h8 := g.2.2.2.2 a a' b hab (hI.2.2.2.2.2.2.2.1 a' b h9).2.2.1
                 rw [← h8, h48] at h9; cases h9)
          · rw [hcb, hpb, en_none bpb] at h58; try rw [Classical.not_not] at h58
            refine ev_iconst (v := 1) d_MT_matchBoth_61 rfl ?_
            refine ev_goto d_MT_matchBoth_62 ?_
            refine ev_istore_n (i := 3) d_MT_matchBoth_66 rfl (by decide) ?_
            dsimp only [List.set_cons_zero, List.set_cons_succ]
            refine ev_iload_n (i := 3) d_MT_matchBoth_67 rfl rfl ?_
            refine ev_if_eq d_MT_matchBoth_68 (fun h => absurd h (by decide)) (fun _ => ?_)
            refine ev_aload_n (i := 0) d_MT_matchBoth_71 rfl rfl ?_
            refine ev_iload_n (i := 1) d_MT_matchBoth_72 rfl rfl ?_
            refine ev_iload_n (i := 2) d_MT_matchBoth_73 rfl rfl ?_
            refine es_cVI ls_MT_matchBoth_74 d_MT_matchBoth_74 rfl (c_MT_areOfOneSort hw hv hE hF ha hb) rfl rfl (Nat.le_of_ble_eq_true rfl) (fun x74 σ74 h74 => ?_) (fun _ _ h => h.elim)
            obtain ⟨⟨g, rfl, hg⟩, e74⟩ := h74
            rw [e74]
            refine ev_if_eq d_MT_matchBoth_77 (fun h77 => ?_) (fun h77 => ?_)
            · rw [eb_0] at h77
              have hns : ¬ mt_sort E F a b := fun k => by rw [hg.mpr k] at h77; cases h77
              refine ev_iconst (v := 0) d_MT_matchBoth_89 rfl ?_
              refine es_zret d_MT_matchBoth_90 rfl rfl ⟨Nat.zero_le _, Nat.zero_le _⟩ ⟨_, rfl, ?_⟩
              refine ⟨⟨false, rfl, fun _ g => ?_, fun g => by cases g⟩, fun _ _ => rfl⟩
              first
                | exact hns (g.2.2.1 a b hab)
                | (obtain ⟨b', hb'⟩ := Option.ne_none_iff_exists'.mp h48
                   exact h36 (by rw [hb', g.2.2.2.1 a b b' hab (hI.2.2.2.2.2.2.2.1 a b' hb').2.2.1]))
                | (obtain ⟨a', ha'⟩ := Option.ne_none_iff_exists'.mp h58
                   have h9 := (hI.2.2.2.2.2.2.1 a' b).mpr ha'
                   have h8 := g.2.2.2.2 a a' b hab (hI.2.2.2.2.2.2.2.1 a' b h9).2.2.1
                   rw [← h8, h48] at h9; cases h9)
            · rw [eb_0, Bool.not_eq_false] at h77
              have hso := hg.mp h77
              have hroom := mp_room hI (show a < 24 by omega) h48
              have h5c := hI.1
              refine ev_aload_n (i := 0) d_MT_matchBoth_80 rfl rfl ?_
              refine es_getI d_MT_matchBoth_81 f_MT_21 rfl rfl ?_
              refine ev_bipush (v := 24) d_MT_matchBoth_84 rfl ?_
              refine ev_icmp_lt d_MT_matchBoth_86 (fun h86 => ?_) (fun h86 => ?_)
              · refine ev_aload_n (i := 0) d_MT_matchBoth_91 rfl rfl ?_
                refine es_getR d_MT_matchBoth_92 f_MT_9 rfl rfl ?_
                refine ev_iload_n (i := 1) d_MT_matchBoth_95 rfl rfl ?_
                refine ev_iload_n (i := 2) d_MT_matchBoth_96 rfl rfl ?_
                refine es_iast d_MT_matchBoth_97 rfl (ez_vinN (by omega) (by omega)) ?_
                rw [hca]
                refine ev_aload_n (i := 0) d_MT_matchBoth_98 rfl rfl ?_
                refine es_getR d_MT_matchBoth_99 f_MT_15 rfl rfl ?_
                refine ev_iload_n (i := 2) d_MT_matchBoth_102 rfl rfl ?_
                refine ev_iload_n (i := 1) d_MT_matchBoth_103 rfl rfl ?_
                refine es_iast d_MT_matchBoth_104 rfl (ez_vinN (by omega) (by omega)) ?_
                rw [hcb]
                refine ev_aload_n (i := 0) d_MT_matchBoth_105 rfl rfl ?_
                refine es_getR d_MT_matchBoth_106 f_MT_18 rfl rfl ?_
                refine ev_aload_n (i := 0) d_MT_matchBoth_109 rfl rfl ?_
                refine es_getI d_MT_matchBoth_110 f_MT_21 rfl rfl ?_
                rw [es_upf _ _ _ _ (show (42 : Nat) ≠ 44 by decide), es_upf _ _ _ _ (show (42 : Nat) ≠ 43 by decide), h5c]
                refine ev_iload_n (i := 1) d_MT_matchBoth_113 rfl rfl ?_
                refine es_iast d_MT_matchBoth_114 rfl (ez_vinN hroom (by omega)) ?_
                rw [nI_clamp (by omega)]
                refine ev_aload_n (i := 0) d_MT_matchBoth_115 rfl rfl ?_
                refine ev_dup d_MT_matchBoth_116 rfl ?_
                refine es_getI d_MT_matchBoth_117 f_MT_21 rfl rfl ?_
                rw [es_upf _ _ _ _ (show (42 : Nat) ≠ 45 by decide), es_upf _ _ _ _ (show (42 : Nat) ≠ 44 by decide), es_upf _ _ _ _ (show (42 : Nat) ≠ 43 by decide), h5c]
                refine ev_iconst (v := 1) d_MT_matchBoth_120 rfl ?_
                refine ev_iadd d_MT_matchBoth_121 ?_
                rw [nI_1]
                refine es_putI d_MT_matchBoth_122 f_MT_21 y_MT_matchCount rfl rfl ⟨rfl, rfl⟩ ?_
                refine ev_iconst (v := 1) d_MT_matchBoth_125 rfl ?_
                refine es_zret d_MT_matchBoth_126 rfl rfl ⟨Nat.zero_le _, Nat.zero_le _⟩ ⟨_, rfl, ?_⟩
                refine ⟨⟨true, rfl, (fun g => by cases g), fun _ => ⟨_, _, _, m + 1, mp_add hI hn1 hn2 ha hb h48 h58 hab hso, by omega, fun i hi => if_neg (by omega), fun u v huv => ?_, Or.inr ⟨a, b, rfl, rfl, if_pos rfl⟩⟩⟩, fun k hk => by rw [es_upf _ _ _ _ (by omega), es_upf _ _ _ _ (by omega), es_upf _ _ _ _ (by omega), es_upf _ _ _ _ (by omega)]⟩
                rw [if_neg (fun g => by rw [g, h48] at huv; cases huv)]; exact huv
              · exact absurd h86 (by rw [h5c, show (24 : Int32) = nI 24 from rfl, nI_ltI (by omega) (by omega)]; omega)
      · rw [hca, hpa, en_inj bpt (fun t ht => by injection ht; omega)] at h36; try rw [Classical.not_not] at h36
        refine ev_iconst (v := 1) d_MT_matchBoth_39 rfl ?_
        refine es_zret d_MT_matchBoth_40 rfl rfl ⟨Nat.zero_le _, Nat.zero_le _⟩ ⟨_, rfl, ?_⟩
        exact ⟨⟨true, rfl, (fun g => by cases g), fun _ => ⟨pt, pb, q, m, hI, Nat.le_refl _, fun _ _ => rfl, fun _ _ g => g, Or.inr ⟨a, b, rfl, rfl, h36⟩⟩⟩, fun _ _ => rfl⟩
    · rw [ew24 (fun t ht => by have := hy t ht; omega), eb_0] at h15; try rw [Classical.not_not] at h15
      have hy0 : y = none := by cases y with | none => rfl | some t => cases h15
      subst hy0
      refine ev_iload_n (i := 1) d_MT_matchBoth_18 rfl rfl ?_
      refine ev_iload_n (i := 2) d_MT_matchBoth_19 rfl rfl ?_
      refine ev_icmp_ne d_MT_matchBoth_20 (fun h20 => ?_) (fun h20 => ?_)
      · refine ev_iconst (v := 0) d_MT_matchBoth_27 rfl ?_
        refine es_zret d_MT_matchBoth_28 rfl rfl ⟨Nat.zero_le _, Nat.zero_le _⟩ ⟨_, rfl, ?_⟩
        refine ⟨?_, fun _ _ => rfl⟩
        first
          | (have hy0 : y = none := ((en_none (fun t ht => by have := hy t ht; omega)).mp (Classical.not_not.mp h20).symm)
             exact ⟨true, rfl, (fun g => by cases g), fun _ => ⟨pt, pb, q, m, hI, Nat.le_refl _, fun _ _ => rfl, fun _ _ g => g, Or.inl ⟨rfl, hy0⟩⟩⟩)
          | (have hy0 : y = none := ((en_none (fun t ht => by have := hy t ht; omega)).mp h20.symm)
             exact ⟨true, rfl, (fun g => by cases g), fun _ => ⟨pt, pb, q, m, hI, Nat.le_refl _, fun _ _ => rfl, fun _ _ g => g, Or.inl ⟨rfl, hy0⟩⟩⟩)
          | (refine ⟨false, rfl, fun _ g => ?_, fun g => by cases g⟩
             first
               | exact h20 (by rw [g.1.mp rfl])
               | (have := g.1.mpr rfl; cases this))
          | exact absurd h20 (en_ne (t := a) (by omega))
          | exact absurd (Classical.not_not.mp h20) (en_ne (t := a) (by omega))
      · refine ev_iconst (v := 1) d_MT_matchBoth_23 rfl ?_
        refine ev_goto d_MT_matchBoth_24 ?_
        refine es_zret d_MT_matchBoth_28 rfl rfl ⟨Nat.zero_le _, Nat.zero_le _⟩ ⟨_, rfl, ?_⟩
        refine ⟨?_, fun _ _ => rfl⟩
        first
          | (have hy0 : y = none := ((en_none (fun t ht => by have := hy t ht; omega)).mp (Classical.not_not.mp h20).symm)
             exact ⟨true, rfl, (fun g => by cases g), fun _ => ⟨pt, pb, q, m, hI, Nat.le_refl _, fun _ _ => rfl, fun _ _ g => g, Or.inl ⟨rfl, hy0⟩⟩⟩)
          | (have hy0 : y = none := ((en_none (fun t ht => by have := hy t ht; omega)).mp h20.symm)
             exact ⟨true, rfl, (fun g => by cases g), fun _ => ⟨pt, pb, q, m, hI, Nat.le_refl _, fun _ _ => rfl, fun _ _ g => g, Or.inl ⟨rfl, hy0⟩⟩⟩)
          | (refine ⟨false, rfl, fun _ g => ?_, fun g => by cases g⟩
             first
               | exact h20 (by rw [g.1.mp rfl])
               | (have := g.1.mpr rfl; cases this))
          | exact absurd h20 (en_ne (t := a) (by omega))
          | exact absurd (Classical.not_not.mp h20) (en_ne (t := a) (by omega))
def mp_O (E F : em_E) (pt : Nat → Option Nat) (n : Nat) : Prop := ∀ j, j < n → (em_o E j = none ∧ em_o F j = none) ∨ ∃ a b, em_o E j = some a ∧ em_o F j = some b ∧ pt a = some b
def mp_W (E F : em_E) (pt : Nat → Option Nat) (q : Nat → Nat) (h : Nat) : Prop := ∀ i u v k x y, i < h → q i = u → pt u = some v → k < em_nd (em_k E u) → em_w E u k = some x → em_w F v k = some y → pt x = some y
def mp_K (E F : em_E) (pt : Nat → Option Nat) (u v n : Nat) : Prop := ∀ k x y, k < n → k < em_nd (em_k E u) → em_w E u k = some x → em_w F v k = some y → pt x = some y
theorem mp_O_ext {E F : em_E} {pt pt' : Nat → Option Nat} {n : Nat} (he : ∀ a b, pt a = some b → pt' a = some b) (h : mp_O E F pt n) : mp_O E F pt' n := fun j hj => (h j hj).imp id (fun ⟨a, b, g1, g2, g3⟩ => ⟨a, b, g1, g2, he a b g3⟩)
theorem mp_K_ext {E F : em_E} {pt pt' : Nat → Option Nat} {u v n : Nat} (he : ∀ a b, pt a = some b → pt' a = some b) (h : mp_K E F pt u v n) : mp_K E F pt' u v n := fun k x y g1 g2 g3 g4 => he _ _ (h k x y g1 g2 g3 g4)
theorem mp_W_ext {E F : em_E} {pt pt' : Nat → Option Nat} {q q' : Nat → Nat} {h : Nat} (he : ∀ a b, pt a = some b → pt' a = some b) (hq : ∀ i, i < h → q' i = q i ∧ pt (q i) ≠ none) (hW : mp_W E F pt q h) : mp_W E F pt' q' h := fun i u v k x y hi hu huv hk hx hy => by
  obtain ⟨g1, g2⟩ := hq i hi
  rw [g1] at hu
  subst hu
  obtain ⟨v', hv'⟩ := Option.ne_none_iff_exists'.mp g2
  have := he _ _ hv'
  rw [this] at huv
  injection huv with huv
  subst huv
  exact he _ _ (hW i _ v' k x y hi rfl hv' hk hx hy)
theorem lp_MT_matchAll_91 {P : Nat} {E F : em_E} (hw : em_wf P E) (hv : em_wf P F) (hE : rc E 1 σ) (hF : rc F 10 σ) (hrE : em_right E) (hrF : em_right F) {h u v : Nat} (hex : ∀ (pt pb : Nat → Option Nat) (q : Nat → Nat) (m : Nat) (σ1 : es_S), mp_I E F pt pb q m σ1 → (∀ k, (k < 42 ∨ 45 < k) → σ1 k = σ k) → h < m → q h = u → pt u = some v → mp_O E F pt 3 → mp_W E F pt q h → mp_K E F pt u v 2 → ez_Ev l G X_MT_matchAll 0 0 132 [some (.ref 42), some (.int (nI h)), none, none, none] [] (es_H σ1) (es_Q (es_I fun v σ' => (∃ g : Bool, v = eb g ∧ (g = true ↔ em_same E F) ∧ (g = true → ∀ a, a < 24 → ∃ o, σ' 43 a = en o ∧ ∀ b, em_M E F a b ↔ o = some b)) ∧ ∀ k, (k < 42 ∨ 45 < k) → σ' k = σ k) es_no)) : ∀ (d : Nat) (i : Nat) (pt pb : Nat → Option Nat) (q : Nat → Nat) (m : Nat) (σ1 : es_S), 2 - i = d → (i ≤ 2 ∧ mp_I E F pt pb q m σ1 ∧ (∀ k, (k < 42 ∨ 45 < k) → σ1 k = σ k) ∧ h < m ∧ q h = u ∧ pt u = some v ∧ mp_O E F pt 3 ∧ mp_W E F pt q h ∧ mp_K E F pt u v i) → ez_Ev l G X_MT_matchAll 0 0 91 [some (.ref 42), some (.int (nI h)), some (.int (nI u)), some (.int (nI v)), some (.int (nI i))] [] (es_H σ1) (es_Q (es_I fun v σ' => (∃ g : Bool, v = eb g ∧ (g = true ↔ em_same E F) ∧ (g = true → ∀ a, a < 24 → ∃ o, σ' 43 a = en o ∧ ∀ b, em_M E F a b ↔ o = some b)) ∧ ∀ k, (k < 42 ∨ 45 < k) → σ' k = σ k) es_no) := by
  intro d
  induction d using Nat.strongRecOn with
  | _ d ih =>
    intro i pt pb q m σ1 hm hinv
    obtain ⟨hi2, hI, hoff, hhm, hqu, huv, hO, hW, hK⟩ := hinv
    have hn1 := hw.1
    have hn2 := hv.1
    have hE1 : rc E 1 σ1 := rc_off hE (fun k g1 g2 => hoff k (by omega))
    have hF1 : rc F 10 σ1 := rc_off hF (fun k g1 g2 => hoff k (by omega))
    obtain ⟨hu, hvl, huM, hus⟩ := hI.2.2.2.2.2.2.2.1 u v huv
    have hnd := em_nd_le (em_k E u)
    refine ev_iload d_MT_matchAll_91 rfl ?_
    refine ev_iconst (v := 2) d_MT_matchAll_93 rfl ?_
    refine ev_icmp_ge d_MT_matchAll_94 (fun h94 => ?_) (fun h94 => ?_)
    · rw [show (2 : Int32) = nI 2 from rfl, nI_leI (by omega) (by omega)] at h94
      refine ev_mask [true, true, false, false, false] rfl (hex pt pb q m σ1 hI hoff hhm hqu huv hO hW (fun k x y hk => hK k x y (by omega)))
    · rw [show (2 : Int32) = nI 2 from rfl, nI_leI (by omega) (by omega), Nat.not_le] at h94
      refine ev_aload_n (i := 0) d_MT_matchAll_97 rfl rfl ?_
      refine ev_aload_n (i := 0) d_MT_matchAll_98 rfl rfl ?_
      refine es_getR d_MT_matchAll_99 f_MT_25 rfl rfl ?_
      refine ev_iload_n (i := 2) d_MT_matchAll_102 rfl rfl ?_
      refine ev_iload d_MT_matchAll_103 rfl ?_
      refine es_cVI ls_MT_matchAll_105 d_MT_matchAll_105 rfl (c_ED_neededAt (Or.inl rfl) hw hE1 hu h94) rfl rfl (Nat.le_of_ble_eq_true rfl) (fun x105 σ105 h105 => ?_) (fun _ _ h => h.elim)
      obtain ⟨rfl, e105⟩ := h105
      rw [e105]
      refine ev_aload_n (i := 0) d_MT_matchAll_108 rfl rfl ?_
      refine es_getR d_MT_matchAll_109 f_MT_29 rfl rfl ?_
      refine ev_iload_n (i := 3) d_MT_matchAll_112 rfl rfl ?_
      refine ev_iload d_MT_matchAll_113 rfl ?_
      refine es_cVI ls_MT_matchAll_115 d_MT_matchAll_115 rfl (c_ED_neededAt (Or.inr rfl) hv hF1 hvl h94) rfl rfl (Nat.le_of_ble_eq_true rfl) (fun x115 σ115 h115 => ?_) (fun _ _ h => h.elim)
      obtain ⟨rfl, e115⟩ := h115
      rw [e115]
      refine es_cVI ls_MT_matchAll_118 d_MT_matchAll_118 rfl (c_MT_matchBoth (x := if i < em_nd (em_k E u) then em_w E u i else none) (y := if i < em_nd (em_k F v) then em_w F v i else none) hw hv hE1 hF1 (fun a g => by split at g; exact (hw.2.2.1 u i a g).2; cases g) (fun a g => by split at g; exact (hv.2.2.1 v i a g).2; cases g) (fun a b g1 g2 => by split at g1; (split at g2; exact em_M_w huM hus (by assumption) g1 g2; cases g2); cases g1) hI) rfl rfl (Nat.le_of_ble_eq_true rfl) (fun x118 σ118 h118 => ?_) (fun _ _ h => h.elim)
      obtain ⟨⟨g, rfl, hgf, hgt⟩, ho2⟩ := h118
      refine ev_if_ne d_MT_matchAll_121 (fun h121 => ?_) (fun h121 => ?_)
      · rw [eb_0, Bool.not_eq_false] at h121
        obtain ⟨pt2, pb2, q2, m2, f1, f2, f3, f4, f5⟩ := hgt h121
        have hofx : ∀ k, (k < 42 ∨ 45 < k) → σ118 k = σ k := fun k hk => by rw [ho2 k hk]; exact hoff k hk
        refine ev_iinc d_MT_matchAll_126 rfl (ez_inc _) (by decide) ?_
        dsimp only [List.set_cons_zero, List.set_cons_succ]
        refine ev_goto d_MT_matchAll_129 ?_
        refine ih _ (by omega) (i + 1) pt2 pb2 q2 m2 σ118 rfl ⟨by omega, f1, hofx, by omega, (f3 h hhm).trans hqu, f4 _ _ huv, mp_O_ext f4 hO, mp_W_ext f4 (fun j hj => ⟨f3 j (by omega), (hI.2.2.2.2.2.1 j (by omega)).2⟩) hW, fun k x y hk hkn hx hy => ?_⟩
        by_cases hki : k = i
        · subst hki
          rw [if_pos hkn, if_pos (by rw [← hus.1]; exact hkn), hx, hy] at f5
          rcases f5 with ⟨c, -⟩ | ⟨a, b, c1, c2, c3⟩
          · cases c
          · injection c1 with c1; injection c2 with c2; rw [c1, c2]; exact c3
        · exact f4 _ _ (hK k x y (by omega) hkn hx hy)
      · rw [eb_0] at h121
        refine ev_iconst (v := 0) d_MT_matchAll_124 rfl ?_
        refine es_zret d_MT_matchAll_125 rfl rfl ⟨Nat.zero_le _, Nat.zero_le _⟩ ⟨_, rfl, ?_⟩
        refine ⟨⟨false, rfl, ⟨(fun c => by cases c), fun hs => absurd (⟨?_, hs⟩ : _ ∧ em_same E F) (hgf h121)⟩, fun c => by cases c⟩, fun k hk => by rw [ho2 k hk]; exact hoff k hk⟩
        rw [hus.1]
        by_cases hin : i < em_nd (em_k F v)
        · rw [if_pos hin, if_pos hin]
          exact ⟨fun c => absurd ⟨i, by rw [hus.1]; exact hin, c⟩ (hrE.1 u hu), fun c => absurd ⟨i, hin, c⟩ (hrF.1 v hvl)⟩
        · rw [if_neg hin, if_neg hin]
theorem lp_MT_matchAll_61 {P : Nat} {E F : em_E} (hw : em_wf P E) (hv : em_wf P F) (hE : rc E 1 σ) (hF : rc F 10 σ) (hrE : em_right E) (hrF : em_right F) : ∀ (d : Nat) (h : Nat) (pt pb : Nat → Option Nat) (q : Nat → Nat) (m : Nat) (σ1 : es_S), 24 - h = d → (h ≤ m ∧ mp_I E F pt pb q m σ1 ∧ (∀ k, (k < 42 ∨ 45 < k) → σ1 k = σ k) ∧ mp_O E F pt 3 ∧ mp_W E F pt q h) → ez_Ev l G X_MT_matchAll 0 0 61 [some (.ref 42), some (.int (nI h)), none, none, none] [] (es_H σ1) (es_Q (es_I fun v σ' => (∃ g : Bool, v = eb g ∧ (g = true ↔ em_same E F) ∧ (g = true → ∀ a, a < 24 → ∃ o, σ' 43 a = en o ∧ ∀ b, em_M E F a b ↔ o = some b)) ∧ ∀ k, (k < 42 ∨ 45 < k) → σ' k = σ k) es_no) := by
  intro d
  induction d using Nat.strongRecOn with
  | _ d ih =>
    intro h pt pb q m σ1 hm hinv
    obtain ⟨hhm, hI, hoff, hO, hW⟩ := hinv
    have hn1 := hw.1
    have hn2 := hv.1
    have hE1 : rc E 1 σ1 := rc_off hE (fun k g1 g2 => hoff k (by omega))
    have hF1 : rc F 10 σ1 := rc_off hF (fun k g1 g2 => hoff k (by omega))
    have hm24 := hI.2.1
    refine ev_iload_n (i := 1) d_MT_matchAll_61 rfl rfl ?_
    refine ev_aload_n (i := 0) d_MT_matchAll_62 rfl rfl ?_
    refine es_getI d_MT_matchAll_63 f_MT_21 rfl rfl ?_
    rw [hI.1]
    refine ev_icmp_ge d_MT_matchAll_66 (fun h66 => ?_) (fun h66 => ?_)
    · rw [nI_leI (by omega) (by omega)] at h66
      refine ev_iconst (v := 1) d_MT_matchAll_138 rfl ?_
      refine es_zret d_MT_matchAll_139 rfl rfl ⟨Nat.zero_le _, Nat.zero_le _⟩ ⟨_, rfl, ?_⟩
      have hend := mp_end (P := P) hI hO (by rw [show m = h by omega]; exact hW)
      exact ⟨⟨true, rfl, ⟨fun _ => hend.1, fun _ => rfl⟩, fun _ a ha => ⟨pt a, hI.2.2.2.1 a ha, fun b => hend.2 a b⟩⟩, hoff⟩
    · rw [nI_leI (by omega) (by omega), Nat.not_le] at h66
      obtain ⟨v, hv2⟩ := Option.ne_none_iff_exists'.mp (hI.2.2.2.2.2.1 h h66).2
      have hqu := (hI.2.2.2.2.2.2.2.1 _ _ hv2).1
      refine ev_iload_n (i := 1) d_MT_matchAll_69 rfl rfl ?_
      refine ev_bipush (v := 24) d_MT_matchAll_70 rfl ?_
      refine ev_icmp_ge d_MT_matchAll_72 (fun h72 => ?_) (fun h72 => ?_)
      · exact absurd h72 (by rw [show (24 : Int32) = nI 24 from rfl, nI_leI (by omega) (by omega)]; omega)
      · refine ev_aload_n (i := 0) d_MT_matchAll_75 rfl rfl ?_
        refine es_getR d_MT_matchAll_76 f_MT_18 rfl rfl ?_
        refine ev_iload_n (i := 1) d_MT_matchAll_79 rfl rfl ?_
        refine es_iald d_MT_matchAll_80 rfl (ez_vinN (by omega) (by omega)) ?_
        rw [nI_clamp (by omega), (hI.2.2.2.2.2.1 h h66).1]
        refine ev_istore_n (i := 2) d_MT_matchAll_81 rfl (by decide) ?_
        dsimp only [List.set_cons_zero, List.set_cons_succ]
        refine ev_aload_n (i := 0) d_MT_matchAll_82 rfl rfl ?_
        refine ev_iload_n (i := 2) d_MT_matchAll_83 rfl rfl ?_
        refine es_cVI ls_MT_matchAll_84 d_MT_matchAll_84 rfl (c_MT_partnerOf (show q h < 24 by omega)) rfl rfl (Nat.le_of_ble_eq_true rfl) (fun x84 σ84 h84 => ?_) (fun _ _ h => h.elim)
        obtain ⟨rfl, e84⟩ := h84
        rw [e84, hI.2.2.2.1 (q h) (by omega), hv2, show en (some v) = nI v from rfl]
        refine ev_istore_n (i := 3) d_MT_matchAll_87 rfl (by decide) ?_
        dsimp only [List.set_cons_zero, List.set_cons_succ]
        refine ev_iconst (v := 0) d_MT_matchAll_88 rfl ?_
        refine ev_istore d_MT_matchAll_89 (by decide) ?_
        dsimp only [List.set_cons_zero, List.set_cons_succ]
        refine lp_MT_matchAll_91 hw hv hE hF hrE hrF (h := h) (u := q h) (v := v) (fun pt2 pb2 q2 m2 σ2 g1 g2 g3 g4 g5 g6 g7 g8 => ?_) _ 0 pt pb q m σ1 rfl ⟨by omega, hI, hoff, h66, rfl, hv2, hO, hW, fun k x y hk => by omega⟩
        refine ev_iinc d_MT_matchAll_132 rfl (ez_inc _) (by decide) ?_
        dsimp only [List.set_cons_zero, List.set_cons_succ]
        refine ev_goto d_MT_matchAll_135 ?_
        have hm24 := g1.2.1
        refine ih _ (by omega) (h + 1) pt2 pb2 q2 m2 σ2 rfl ⟨by omega, g1, g2, g6, fun i u v2 k x y hi hu huv hk hx hy => ?_⟩
        by_cases hih : i = h
        · subst hih
          rw [g4] at hu
          subst hu
          rw [g5] at huv
          injection huv with huv
          subst huv
          exact g8 k x y (by have := em_nd_le (em_k E (q i)); omega) hk hx hy
        · exact g7 i u v2 k x y (by omega) hu huv hk hx hy
theorem lp_MT_matchAll_23 {P : Nat} {E F : em_E} (hw : em_wf P E) (hv : em_wf P F) (hE : rc E 1 σ) (hF : rc F 10 σ) (hrE : em_right E) (hrF : em_right F) : ∀ (d : Nat) (j : Nat) (pt pb : Nat → Option Nat) (q : Nat → Nat) (m : Nat) (σ1 : es_S), 3 - j = d → (j ≤ 3 ∧ mp_I E F pt pb q m σ1 ∧ (∀ k, (k < 42 ∨ 45 < k) → σ1 k = σ k) ∧ mp_O E F pt j ∧ m ≤ m) → ez_Ev l G X_MT_matchAll 0 0 23 [some (.ref 42), some (.int (nI j)), none, none, none] [] (es_H σ1) (es_Q (es_I fun v σ' => (∃ g : Bool, v = eb g ∧ (g = true ↔ em_same E F) ∧ (g = true → ∀ a, a < 24 → ∃ o, σ' 43 a = en o ∧ ∀ b, em_M E F a b ↔ o = some b)) ∧ ∀ k, (k < 42 ∨ 45 < k) → σ' k = σ k) es_no) := by
  intro d
  induction d using Nat.strongRecOn with
  | _ d ih =>
    intro j pt pb q m σ1 hm hinv
    obtain ⟨hj3, hI, hoff, hO, -⟩ := hinv
    have hn1 := hw.1
    have hn2 := hv.1
    have hE1 : rc E 1 σ1 := rc_off hE (fun k g1 g2 => hoff k (by omega))
    have hF1 : rc F 10 σ1 := rc_off hF (fun k g1 g2 => hoff k (by omega))
    refine ev_iload_n (i := 1) d_MT_matchAll_23 rfl rfl ?_
    refine ev_iconst (v := 3) d_MT_matchAll_24 rfl ?_
    refine ev_icmp_ge d_MT_matchAll_25 (fun h25 => ?_) (fun h25 => ?_)
    · rw [show (3 : Int32) = nI 3 from rfl, nI_leI (by omega) (by omega)] at h25
      refine ev_iconst (v := 0) d_MT_matchAll_59 rfl ?_
      refine ev_istore_n (i := 1) d_MT_matchAll_60 rfl (by decide) ?_
      dsimp only [List.set_cons_zero, List.set_cons_succ]
      exact lp_MT_matchAll_61 hw hv hE hF hrE hrF _ 0 pt pb q m σ1 rfl ⟨by omega, hI, hoff, (show j = 3 by omega) ▸ hO, fun i u v k x y hi => by omega⟩
    · rw [show (3 : Int32) = nI 3 from rfl, nI_leI (by omega) (by omega), Nat.not_le] at h25
      refine ev_aload_n (i := 0) d_MT_matchAll_28 rfl rfl ?_
      refine ev_aload_n (i := 0) d_MT_matchAll_29 rfl rfl ?_
      refine es_getR d_MT_matchAll_30 f_MT_25 rfl rfl ?_
      refine ev_iload_n (i := 1) d_MT_matchAll_33 rfl rfl ?_
      refine es_cVI ls_MT_matchAll_34 d_MT_matchAll_34 rfl (c_ED_outputAt (Or.inl rfl) hE1 h25) rfl rfl (Nat.le_of_ble_eq_true rfl) (fun x34 σ34 h34 => ?_) (fun _ _ h => h.elim)
      obtain ⟨rfl, e34⟩ := h34
      rw [e34]
      refine ev_aload_n (i := 0) d_MT_matchAll_37 rfl rfl ?_
      refine es_getR d_MT_matchAll_38 f_MT_29 rfl rfl ?_
      refine ev_iload_n (i := 1) d_MT_matchAll_41 rfl rfl ?_
      refine es_cVI ls_MT_matchAll_42 d_MT_matchAll_42 rfl (c_ED_outputAt (Or.inr rfl) hF1 h25) rfl rfl (Nat.le_of_ble_eq_true rfl) (fun x42 σ42 h42 => ?_) (fun _ _ h => h.elim)
      obtain ⟨rfl, e42⟩ := h42
      rw [e42]
      refine es_cVI ls_MT_matchAll_45 d_MT_matchAll_45 rfl (c_MT_matchBoth hw hv hE1 hF1 (fun a g => hw.2.2.2.1 j a g) (fun a g => hv.2.2.2.1 j a g) (fun a b g1 g2 => em_M_o h25 g1 g2) hI) rfl rfl (Nat.le_of_ble_eq_true rfl) (fun x45 σ45 h45 => ?_) (fun _ _ h => h.elim)
      obtain ⟨⟨g, rfl, hgf, hgt⟩, ho2⟩ := h45
      refine ev_if_ne d_MT_matchAll_48 (fun h48 => ?_) (fun h48 => ?_)
      · rw [eb_0, Bool.not_eq_false] at h48
        obtain ⟨pt2, pb2, q2, m2, f1, f2, f3, f4, f5⟩ := hgt h48
        have hofx : ∀ k, (k < 42 ∨ 45 < k) → σ45 k = σ k := fun k hk => by rw [ho2 k hk]; exact hoff k hk
        refine ev_iinc d_MT_matchAll_53 rfl (ez_inc _) (by decide) ?_
        dsimp only [List.set_cons_zero, List.set_cons_succ]
        refine ev_goto d_MT_matchAll_56 ?_
        refine ih _ (by omega) (j + 1) pt2 pb2 q2 m2 σ45 rfl ⟨by omega, f1, hofx, fun i hi => ?_, Nat.le_refl _⟩
        by_cases hij : i = j
        · rw [hij]; exact f5
        · exact mp_O_ext f4 hO i (by omega)
      · rw [eb_0] at h48
        refine ev_iconst (v := 0) d_MT_matchAll_51 rfl ?_
        refine es_zret d_MT_matchAll_52 rfl rfl ⟨Nat.zero_le _, Nat.zero_le _⟩ ⟨_, rfl, ?_⟩
        exact ⟨⟨false, rfl, ⟨(fun c => by cases c), fun hs => absurd (⟨hs.1 j h25, hs⟩ : _ ∧ em_same E F) (hgf h48)⟩, fun c => by cases c⟩, fun k hk => by rw [ho2 k hk]; exact hoff k hk⟩
theorem c_MT_matchAll {P : Nat} {E F : em_E} (hw : em_wf P E) (hv : em_wf P F) (hE : rc E 1 σ) (hF : rc F 10 σ) (hrE : em_right E) (hrF : em_right F) : ez_Ct l G X_MT_matchAll [.ref 42] (es_H σ) (es_Q (es_I fun v σ' => (∃ g : Bool, v = eb g ∧ (g = true ↔ em_same E F) ∧ (g = true → ∀ a, a < 24 → ∃ o, σ' 43 a = en o ∧ ∀ b, em_M E F a b ↔ o = some b)) ∧ ∀ k, (k < 42 ∨ 45 < k) → σ' k = σ k) es_no) := by
  refine es_Ct_of (ls := [some (.ref 42), none, none, none, none]) ok_MT_matchAll rfl (Nat.le_of_ble_eq_true rfl) rfl ?_
  refine ev_aload_n (i := 0) d_MT_matchAll_0 rfl rfl ?_
  refine es_getR d_MT_matchAll_1 f_MT_9 rfl rfl ?_
  refine ev_iconst (v := (-1)) d_MT_matchAll_4 rfl ?_
  refine es_cSV ls_MT_matchAll_5 d_MT_matchAll_5 (c_JA_fill (k := 43) (n := 24) rfl (by decide)) rfl rfl (Nat.le_of_ble_eq_true rfl) (fun σ5 h5 => ?_) (fun _ _ h => h.elim)
  subst h5
  refine ev_aload_n (i := 0) d_MT_matchAll_8 rfl rfl ?_
  refine es_getR d_MT_matchAll_9 f_MT_15 rfl rfl ?_
  refine ev_iconst (v := (-1)) d_MT_matchAll_12 rfl ?_
  refine es_cSV ls_MT_matchAll_13 d_MT_matchAll_13 (c_JA_fill (k := 44) (n := 24) rfl (by decide)) rfl rfl (Nat.le_of_ble_eq_true rfl) (fun σ13 h13 => ?_) (fun _ _ h => h.elim)
  subst h13
  refine ev_aload_n (i := 0) d_MT_matchAll_16 rfl rfl ?_
  refine ev_iconst (v := 0) d_MT_matchAll_17 rfl ?_
  refine es_putI d_MT_matchAll_18 f_MT_21 y_MT_matchCount rfl rfl ⟨rfl, rfl⟩ ?_
  refine ev_iconst (v := 0) d_MT_matchAll_21 rfl ?_
  refine ev_istore_n (i := 1) d_MT_matchAll_22 rfl (by decide) ?_
  dsimp only [List.set_cons_zero, List.set_cons_succ]
  refine lp_MT_matchAll_23 hw hv hE hF hrE hrF _ 0 (fun _ => none) (fun _ => none) (fun _ => 0) 0 _ rfl ⟨by omega, ⟨by simp [es_upx]; rfl, by omega, em_ct_none _ (fun x _ g => g rfl), fun a ha => by simp [es_upx, es_arr, ha, en], fun a ha => by simp [es_upx, es_arr, ha, en], fun i hi => absurd hi (Nat.not_lt_zero _), fun a b => ⟨(fun c => by cases c), (fun c => by cases c)⟩, (fun a b c => by cases c), fun a c => absurd rfl c⟩, fun k hk => ?_, fun j hj => absurd hj (Nat.not_lt_zero _), Nat.le_refl _⟩
  rw [es_upf _ _ _ _ (by omega)]
  unfold es_arr
  rw [if_neg (by omega), if_neg (by omega)]
end
