/-! ===== an edition's fault ===== -/
section
variable {l : Launch} {G : ez_G} {σ : es_S}
theorem lp_ED_firstUnwired_12 {b : Nat} (hb : sb_ED b) {E : em_E} {P : Nat} (hw : em_wf P E) (hr : rc E b σ) {t : Nat} (ht : t < em_n E) (hbef : ∀ u, u < t → ¬ em_unw E u) (hex : ¬ em_unw E t → ez_Ev l G X_ED_firstUnwired 0 0 44 [some (.ref b), some (.int (nI t)), none] [] (es_H σ) (es_Q (es_I fun y σ' => y = en (em_fst (em_unw E) (em_n E)) ∧ σ' = σ) es_no)) : ∀ (d : Nat) (i : Nat), em_nd (em_k E t) - i = d → i ≤ em_nd (em_k E t) ∧ (∀ j, j < i → em_w E t j ≠ none) → ez_Ev l G X_ED_firstUnwired 0 0 12 [some (.ref b), some (.int (nI t)), some (.int (nI i))] [] (es_H σ) (es_Q (es_I fun y σ' => y = en (em_fst (em_unw E) (em_n E)) ∧ σ' = σ) es_no) := by
  intro d
  induction d using Nat.strongRecOn with
  | _ d ih =>
    intro i hm hinv
    obtain ⟨hi, hall⟩ := hinv
    have hn := hw.1
    have h24 : t < 24 := Nat.lt_of_lt_of_le ht hn
    have hcl : (nI t).toNatClampNeg = t := nI_clamp (by omega)
    have hnd : σ (b + 3) t = nI (em_nd (em_k E t)) := hr.2.2.2.2.1 t ht
    have hn2 := em_nd_le (em_k E t)
    have hix : nI t * 2 + nI i = nI (t * 2 + i) := by rw [show (2 : Int32) = nI 2 from rfl, nI_mul, nI_add]
    have hi32 : (nI (t * 2 + i)).toNatClampNeg = t * 2 + i := nI_clamp (by omega)
    refine ev_iload_n (i := 2) d_ED_firstUnwired_12 rfl rfl ?_
    refine ev_aload_n (i := 0) d_ED_firstUnwired_13 rfl rfl ?_
    refine es_getR d_ED_firstUnwired_14 f_ED_18 (sh_ED hb) rfl ?_
    refine ev_iload_n (i := 1) d_ED_firstUnwired_17 rfl rfl ?_
    refine es_iald d_ED_firstUnwired_18 (sa_ED_neededInputs hb) (ez_vinN h24 (by omega)) ?_
    refine ev_icmp_ge d_ED_firstUnwired_19 (fun h19 => ?_) (fun h19 => ?_)
    · rw [hcl, hnd, nI_leI (by omega) (by omega)] at h19
      refine ev_mask [true, true, false] rfl (hex ?_)
      rintro ⟨j, hj, hj2⟩
      exact hall j (by omega) hj2
    · rw [hcl, hnd, nI_leI (by omega) (by omega), Nat.not_le] at h19
      have hww : σ (b + 4) (t * 2 + i) = en (em_w E t i) := hr.2.2.2.2.2.1 t i h24 (by omega)
      have hwb : ∀ u, em_w E t i = some u → u < 2 ^ 31 := fun u hu => by have := (hw.2.2.1 t i u hu).2; omega
      refine ev_aload_n (i := 0) d_ED_firstUnwired_22 rfl rfl ?_
      refine es_getR d_ED_firstUnwired_23 f_ED_21 (sh_ED hb) rfl ?_
      refine ev_iload_n (i := 1) d_ED_firstUnwired_26 rfl rfl ?_
      refine ev_iconst (v := 2) d_ED_firstUnwired_27 rfl ?_
      refine ev_imul d_ED_firstUnwired_28 ?_
      refine ev_iload_n (i := 2) d_ED_firstUnwired_29 rfl rfl ?_
      refine ev_iadd d_ED_firstUnwired_30 ?_
      refine es_iald d_ED_firstUnwired_31 (sa_ED_wires hb) (by rw [hix]; exact ez_vinN (by omega) (by omega)) ?_
      refine ev_iconst (v := (-1)) d_ED_firstUnwired_32 rfl ?_
      refine ev_icmp_ne d_ED_firstUnwired_33 (fun h33 => ?_) (fun h33 => ?_)
      · rw [hix, hi32, hww, en_none hwb] at h33
        refine ev_iinc d_ED_firstUnwired_38 rfl (ez_inc _) (by decide) ?_
        dsimp only [List.set_cons_zero, List.set_cons_succ]
        refine ev_goto d_ED_firstUnwired_41 ?_
        refine ih _ (by omega) (i + 1) rfl ⟨by omega, fun j hj => ?_⟩
        by_cases hji : j = i
        · rw [hji]; exact h33
        · exact hall j (by omega)
      · rw [hix, hi32, hww, en_none hwb] at h33
        refine ev_iload_n (i := 1) d_ED_firstUnwired_36 rfl rfl ?_
        refine es_iret d_ED_firstUnwired_37 rfl ⟨Nat.zero_le _, Nat.zero_le _⟩ ⟨_, rfl, ?_⟩
        refine ⟨?_, rfl⟩
        rw [em_fst_some (p := em_unw E) ⟨i, h19, h33⟩ hbef ht]
        rfl
theorem lp_ED_firstUnwired_2 {b : Nat} (hb : sb_ED b) {E : em_E} {P : Nat} (hw : em_wf P E) (hr : rc E b σ) : ∀ (d : Nat) (t : Nat), em_n E - t = d → t ≤ em_n E ∧ (∀ u, u < t → ¬ em_unw E u) → ez_Ev l G X_ED_firstUnwired 0 0 2 [some (.ref b), some (.int (nI t)), none] [] (es_H σ) (es_Q (es_I fun y σ' => y = en (em_fst (em_unw E) (em_n E)) ∧ σ' = σ) es_no) := by
  intro d
  induction d using Nat.strongRecOn with
  | _ d ih =>
    intro t hm hinv
    obtain ⟨hi, hall⟩ := hinv
    have hn := hw.1
    refine ev_iload_n (i := 1) d_ED_firstUnwired_2 rfl rfl ?_
    refine ev_aload_n (i := 0) d_ED_firstUnwired_3 rfl rfl ?_
    refine es_getI d_ED_firstUnwired_4 f_ED_36 (sh_ED hb) rfl ?_
    refine ev_icmp_ge d_ED_firstUnwired_7 (fun h7 => ?_) (fun h7 => ?_)
    · rw [hr.1, nI_leI (by omega) (by omega)] at h7
      refine ev_iconst (v := (-1)) d_ED_firstUnwired_50 rfl ?_
      refine es_iret d_ED_firstUnwired_51 rfl ⟨Nat.zero_le _, Nat.zero_le _⟩ ⟨_, rfl, ?_⟩
      refine ⟨?_, rfl⟩
      rw [em_fst_none (fun u hu => hall u (by omega))]
      rfl
    · rw [hr.1, nI_leI (by omega) (by omega), Nat.not_le] at h7
      refine ev_iconst (v := 0) d_ED_firstUnwired_10 rfl ?_
      refine ev_istore_n (i := 2) d_ED_firstUnwired_11 rfl (by decide) ?_
      dsimp only [List.set_cons_zero, List.set_cons_succ]
      refine lp_ED_firstUnwired_12 hb hw hr h7 hall (fun hu => ?_) _ 0 rfl ⟨Nat.zero_le _, fun j hj => by omega⟩
      refine ev_iinc d_ED_firstUnwired_44 rfl (ez_inc t) (by decide) ?_
      dsimp only [List.set_cons_zero, List.set_cons_succ]
      refine ev_goto d_ED_firstUnwired_47 ?_
      refine ih _ (by omega) (t + 1) rfl ⟨by omega, fun u hu2 => ?_⟩
      by_cases hut : u = t
      · rw [hut]; exact hu
      · exact hall u (by omega)
theorem c_ED_firstUnwired {b : Nat} (hb : sb_ED b) {E : em_E} {P : Nat} (hw : em_wf P E) (hr : rc E b σ) : ez_Ct l G X_ED_firstUnwired [.ref b] (es_H σ) (es_Q (es_I fun y σ' => y = en (em_fst (em_unw E) (em_n E)) ∧ σ' = σ) es_no) := by
  refine es_Ct_of (ls := [some (.ref b), none, none]) ok_ED_firstUnwired rfl (Nat.le_of_ble_eq_true rfl) rfl ?_
  refine ev_iconst (v := 0) d_ED_firstUnwired_0 rfl ?_
  refine ev_istore_n (i := 1) d_ED_firstUnwired_1 rfl (by decide) ?_
  dsimp only [List.set_cons_zero, List.set_cons_succ]
  exact lp_ED_firstUnwired_2 hb hw hr _ 0 rfl ⟨Nat.zero_le _, fun u hu => by omega⟩
theorem lp_ED_firstComingBack_89 {b : Nat} (hb : sb_ED b) {E : em_E} {P : Nat} (hw : em_wf P E) (hr : rc E b σ) : ∀ (d : Nat) (t : Nat) (σ1 : es_S), em_n E - t = d → (t ≤ em_n E ∧ (∀ u, u < t → ¬ em_cyc E u)) ∧ (∀ k, k ≠ b + 8 → σ1 k = σ k) ∧ (∀ u j, u < em_n E → j < 32 → (bt (σ1 (b + 8) u) j = true ↔ em_P (em_ed E) (em_n E) u j)) → ez_Ev l G X_ED_firstComingBack 0 0 89 [some (.ref b), some (.int (nI t)), none] [] (es_H σ1) (es_Q (es_I fun y σ' => y = en (em_fst (em_cyc E) (em_n E)) ∧ ∀ k, k ≠ b + 8 → σ' k = σ k) es_no) := by
  intro d
  induction d using Nat.strongRecOn with
  | _ d ih =>
    intro t σ1 hm hinv
    obtain ⟨⟨hi, hall⟩, hoff, hP⟩ := hinv
    have hn := hw.1
    have hr1 : rc E b σ1 := rc_off hr (fun k h1 h2 => hoff k (by omega))
    have hcl : (nI t).toNatClampNeg = t := nI_clamp (by omega)
    have hed : ∀ u v, em_ed E u v → v < em_n E := fun u v h => by obtain ⟨⟨-, i, -, hi⟩, -⟩ := h; exact (hw.2.2.1 u i v hi).2
    refine ev_iload_n (i := 1) d_ED_firstComingBack_89 rfl rfl ?_
    refine ev_aload_n (i := 0) d_ED_firstComingBack_90 rfl rfl ?_
    refine es_getI d_ED_firstComingBack_91 f_ED_36 (sh_ED hb) rfl ?_
    refine ev_icmp_ge d_ED_firstComingBack_94 (fun h94 => ?_) (fun h94 => ?_)
    · rw [hr1.1, nI_leI (by omega) (by omega)] at h94
      refine ev_iconst (v := (-1)) d_ED_firstComingBack_118 rfl ?_
      refine es_iret d_ED_firstComingBack_119 rfl ⟨Nat.zero_le _, Nat.zero_le _⟩ ⟨_, rfl, ?_⟩
      refine ⟨?_, hoff⟩
      rw [em_fst_none (fun u hu => hall u (by omega))]
      rfl
    · rw [hr1.1, nI_leI (by omega) (by omega), Nat.not_le] at h94
      have hcy : bt (σ1 (b + 8) t) t = true ↔ em_cyc E t := (hP t t h94 (by omega)).trans ⟨em_P_sound _ _ _ _, em_P_all hed⟩
      refine ev_aload_n (i := 0) d_ED_firstComingBack_97 rfl rfl ?_
      refine es_getR d_ED_firstComingBack_98 f_ED_33 (sh_ED hb) rfl ?_
      refine ev_iload_n (i := 1) d_ED_firstComingBack_101 rfl rfl ?_
      refine es_iald d_ED_firstComingBack_102 (sa_ED_ahead hb) (ez_vinN (by omega) (by omega)) ?_
      refine ev_iload_n (i := 1) d_ED_firstComingBack_103 rfl rfl ?_
      refine es_cSI ls_ED_firstComingBack_104 d_ED_firstComingBack_104 c_EE_holds rfl rfl (Nat.le_of_ble_eq_true rfl) (fun x104 σ104 h104 => ?_) (fun _ _ h => h.elim)
      obtain ⟨rfl, e104⟩ := h104
      rw [e104]
      refine ev_if_eq d_ED_firstComingBack_107 (fun h107 => ?_) (fun h107 => ?_)
      · rw [hcl, eh_nI _ (by omega), eb_0] at h107
        rw [h107] at hcy
        refine ev_iinc d_ED_firstComingBack_112 rfl (ez_inc _) (by decide) ?_
        dsimp only [List.set_cons_zero, List.set_cons_succ]
        refine ev_goto d_ED_firstComingBack_115 ?_
        refine ih _ (by omega) (t + 1) σ1 rfl ⟨⟨by omega, fun u hu => ?_⟩, hoff, hP⟩
        by_cases hut : u = t
        · rw [hut]; exact fun hc => Bool.false_ne_true (hcy.mpr hc)
        · exact hall u (by omega)
      · rw [hcl, eh_nI _ (by omega), eb_0, Bool.not_eq_false] at h107
        rw [h107] at hcy
        refine ev_iload_n (i := 1) d_ED_firstComingBack_110 rfl rfl ?_
        refine es_iret d_ED_firstComingBack_111 rfl ⟨Nat.zero_le _, Nat.zero_le _⟩ ⟨_, rfl, ?_⟩
        refine ⟨?_, hoff⟩
        rw [em_fst_some (hcy.mp rfl) hall h94]
        rfl
theorem lp_ED_firstComingBack_39 {b : Nat} (hb : sb_ED b) {E : em_E} {P : Nat} (hw : em_wf P E) (hr : rc E b σ) {m : Nat} (hm0 : m < em_n E) (hex : ∀ σ1 : es_S, (∀ k, k ≠ b + 8 → σ1 k = σ k) → (∀ u j, u < em_n E → j < 32 → (bt (σ1 (b + 8) u) j = true ↔ em_P (em_ed E) (m + 1) u j)) → ez_Ev l G X_ED_firstComingBack 0 0 81 [some (.ref b), some (.int (nI m)), none] [] (es_H σ1) (es_Q (es_I fun y σ' => y = en (em_fst (em_cyc E) (em_n E)) ∧ ∀ k, k ≠ b + 8 → σ' k = σ k) es_no)) : ∀ (d : Nat) (t : Nat) (σ1 : es_S), em_n E - t = d → t ≤ em_n E ∧ (∀ k, k ≠ b + 8 → σ1 k = σ k) ∧ (∀ u j, u < em_n E → j < 32 → (bt (σ1 (b + 8) u) j = true ↔ em_P (em_ed E) (if u < t then m + 1 else m) u j)) → ez_Ev l G X_ED_firstComingBack 0 0 39 [some (.ref b), some (.int (nI m)), some (.int (nI t))] [] (es_H σ1) (es_Q (es_I fun y σ' => y = en (em_fst (em_cyc E) (em_n E)) ∧ ∀ k, k ≠ b + 8 → σ' k = σ k) es_no) := by
  intro d
  induction d using Nat.strongRecOn with
  | _ d ih =>
    intro t σ1 hm hinv
    obtain ⟨hi, hoff, hP⟩ := hinv
    have hn := hw.1
    have hr1 : rc E b σ1 := rc_off hr (fun k h1 h2 => hoff k (by omega))
    have hcl : (nI t).toNatClampNeg = t := nI_clamp (by omega)
    have hcm : (nI m).toNatClampNeg = m := nI_clamp (by omega)
    refine ev_iload_n (i := 2) d_ED_firstComingBack_39 rfl rfl ?_
    refine ev_aload_n (i := 0) d_ED_firstComingBack_40 rfl rfl ?_
    refine es_getI d_ED_firstComingBack_41 f_ED_36 (sh_ED hb) rfl ?_
    refine ev_icmp_ge d_ED_firstComingBack_44 (fun h44 => ?_) (fun h44 => ?_)
    · rw [hr1.1, nI_leI (by omega) (by omega)] at h44
      refine ev_mask [true, true, false] rfl (hex σ1 hoff (fun u j hu hj => ?_))
      have := hP u j hu hj
      rwa [if_pos (by omega)] at this
    · rw [hr1.1, nI_leI (by omega) (by omega), Nat.not_le] at h44
      have hPt : ∀ j, j < 32 → (bt (σ1 (b + 8) t) j = true ↔ em_P (em_ed E) m t j) := fun j hj => by have := hP t j h44 hj; rwa [if_neg (by omega)] at this
      have hPm : ∀ j, j < 32 → (bt (σ1 (b + 8) m) j = true ↔ em_P (em_ed E) m m j) := fun j hj => by
        have h9 := hP m j hm0 hj
        by_cases hlt : m < t
        · rw [if_pos hlt] at h9
          exact h9.trans ⟨fun h => h.elim id (fun h => h.2), Or.inl⟩
        · rwa [if_neg hlt] at h9
      refine ev_aload_n (i := 0) d_ED_firstComingBack_47 rfl rfl ?_
      refine es_getR d_ED_firstComingBack_48 f_ED_33 (sh_ED hb) rfl ?_
      refine ev_iload_n (i := 2) d_ED_firstComingBack_51 rfl rfl ?_
      refine es_iald d_ED_firstComingBack_52 (sa_ED_ahead hb) (ez_vinN (by omega) (by omega)) ?_
      refine ev_iload_n (i := 1) d_ED_firstComingBack_53 rfl rfl ?_
      refine es_cSI ls_ED_firstComingBack_54 d_ED_firstComingBack_54 c_EE_holds rfl rfl (Nat.le_of_ble_eq_true rfl) (fun x54 σ54 h54 => ?_) (fun _ _ h => h.elim)
      obtain ⟨rfl, e54⟩ := h54
      rw [e54]
      refine ev_if_eq d_ED_firstComingBack_57 (fun h57 => ?_) (fun h57 => ?_)
      · rw [hcl, eh_nI _ (by omega), eb_0] at h57
        have hno : ¬ em_P (em_ed E) m t m := fun hc => by have := (hPt m (by omega)).mpr hc; rw [h57] at this; cases this
        refine ev_iinc d_ED_firstComingBack_75 rfl (ez_inc _) (by decide) ?_
        dsimp only [List.set_cons_zero, List.set_cons_succ]
        refine ev_goto d_ED_firstComingBack_78 ?_
        first
          | (refine ih _ (by omega) (t + 1) σ1 rfl ⟨by omega, hoff, fun u j hu hj => ?_⟩
             by_cases hut : u = t
             · subst hut; rw [if_pos (by omega)]; exact (hPt j hj).trans ⟨Or.inl, fun h => h.elim id (fun h => absurd h.1 hno)⟩
             · have := hP u j hu hj
               by_cases hlt : u < t
               · rw [if_pos (by omega)]; rwa [if_pos hlt] at this
               · rw [if_neg (by omega)]; rwa [if_neg hlt] at this)
          | (refine ih _ (by omega) (t + 1) _ rfl ⟨by omega, fun k hk => by rw [es_up_off _ _ _ _ hk]; exact hoff k hk, fun u j hu hj => ?_⟩
             rw [hcl, hcm]
             by_cases hut : u = t
             · subst hut; rw [if_pos (by omega), es_up_eq, b_or, Bool.or_eq_true]; exact (or_congr (hPt j hj) (hPm j hj)).trans ⟨fun h => h.elim Or.inl (fun h => Or.inr ⟨hyes, h⟩), fun h => h.elim Or.inl (fun h => Or.inr h.2)⟩
             · rw [es_up_ne _ _ _ _ hut]; have := hP u j hu hj
               by_cases hlt : u < t
               · rw [if_pos (by omega)]; rwa [if_pos hlt] at this
               · rw [if_neg (by omega)]; rwa [if_neg hlt] at this)
      · rw [hcl, eh_nI _ (by omega), eb_0, Bool.not_eq_false] at h57
        have hyes := (hPt m (by omega)).mp h57
        refine ev_aload_n (i := 0) d_ED_firstComingBack_60 rfl rfl ?_
        refine es_getR d_ED_firstComingBack_61 f_ED_33 (sh_ED hb) rfl ?_
        refine ev_iload_n (i := 2) d_ED_firstComingBack_64 rfl rfl ?_
        refine ev_dup2 d_ED_firstComingBack_65 rfl rfl ?_
        refine es_iald d_ED_firstComingBack_66 (sa_ED_ahead hb) (ez_vinN (by omega) (by omega)) ?_
        refine ev_aload_n (i := 0) d_ED_firstComingBack_67 rfl rfl ?_
        refine es_getR d_ED_firstComingBack_68 f_ED_33 (sh_ED hb) rfl ?_
        refine ev_iload_n (i := 1) d_ED_firstComingBack_71 rfl rfl ?_
        refine es_iald d_ED_firstComingBack_72 (sa_ED_ahead hb) (ez_vinN (by omega) (by omega)) ?_
        refine ev_ior d_ED_firstComingBack_73 ?_
        refine es_iast d_ED_firstComingBack_74 (sa_ED_ahead hb) (ez_vinN (by omega) (by omega)) ?_
        refine ev_iinc d_ED_firstComingBack_75 rfl (ez_inc _) (by decide) ?_
        dsimp only [List.set_cons_zero, List.set_cons_succ]
        refine ev_goto d_ED_firstComingBack_78 ?_
        first
          | (refine ih _ (by omega) (t + 1) σ1 rfl ⟨by omega, hoff, fun u j hu hj => ?_⟩
             by_cases hut : u = t
             · subst hut; rw [if_pos (by omega)]; exact (hPt j hj).trans ⟨Or.inl, fun h => h.elim id (fun h => absurd h.1 hno)⟩
             · have := hP u j hu hj
               by_cases hlt : u < t
               · rw [if_pos (by omega)]; rwa [if_pos hlt] at this
               · rw [if_neg (by omega)]; rwa [if_neg hlt] at this)
          | (refine ih _ (by omega) (t + 1) _ rfl ⟨by omega, fun k hk => by rw [es_up_off _ _ _ _ hk]; exact hoff k hk, fun u j hu hj => ?_⟩
             rw [hcl, hcm]
             by_cases hut : u = t
             · subst hut; rw [if_pos (by omega), es_up_eq, b_or, Bool.or_eq_true]; exact (or_congr (hPt j hj) (hPm j hj)).trans ⟨fun h => h.elim Or.inl (fun h => Or.inr ⟨hyes, h⟩), fun h => h.elim Or.inl (fun h => Or.inr h.2)⟩
             · rw [es_up_ne _ _ _ _ hut]; have := hP u j hu hj
               by_cases hlt : u < t
               · rw [if_pos (by omega)]; rwa [if_pos hlt] at this
               · rw [if_neg (by omega)]; rwa [if_neg hlt] at this)
theorem lp_ED_firstComingBack_29 {b : Nat} (hb : sb_ED b) {E : em_E} {P : Nat} (hw : em_wf P E) (hr : rc E b σ) : ∀ (d : Nat) (m : Nat) (σ1 : es_S), em_n E - m = d → m ≤ em_n E ∧ (∀ k, k ≠ b + 8 → σ1 k = σ k) ∧ (∀ u j, u < em_n E → j < 32 → (bt (σ1 (b + 8) u) j = true ↔ em_P (em_ed E) m u j)) → ez_Ev l G X_ED_firstComingBack 0 0 29 [some (.ref b), some (.int (nI m)), none] [] (es_H σ1) (es_Q (es_I fun y σ' => y = en (em_fst (em_cyc E) (em_n E)) ∧ ∀ k, k ≠ b + 8 → σ' k = σ k) es_no) := by
  intro d
  induction d using Nat.strongRecOn with
  | _ d ih =>
    intro m σ1 hm hinv
    obtain ⟨hi, hoff, hP⟩ := hinv
    have hn := hw.1
    have hr1 : rc E b σ1 := rc_off hr (fun k h1 h2 => hoff k (by omega))
    refine ev_iload_n (i := 1) d_ED_firstComingBack_29 rfl rfl ?_
    refine ev_aload_n (i := 0) d_ED_firstComingBack_30 rfl rfl ?_
    refine es_getI d_ED_firstComingBack_31 f_ED_36 (sh_ED hb) rfl ?_
    refine ev_icmp_ge d_ED_firstComingBack_34 (fun h34 => ?_) (fun h34 => ?_)
    · rw [hr1.1, nI_leI (by omega) (by omega)] at h34
      refine ev_iconst (v := 0) d_ED_firstComingBack_87 rfl ?_
      refine ev_istore_n (i := 1) d_ED_firstComingBack_88 rfl (by decide) ?_
      dsimp only [List.set_cons_zero, List.set_cons_succ]
      have e9 : m = em_n E := by omega
      subst e9
      exact lp_ED_firstComingBack_89 hb hw hr _ 0 σ1 rfl ⟨⟨Nat.zero_le _, fun u hu => by omega⟩, hoff, hP⟩
    · rw [hr1.1, nI_leI (by omega) (by omega), Nat.not_le] at h34
      refine ev_iconst (v := 0) d_ED_firstComingBack_37 rfl ?_
      refine ev_istore_n (i := 2) d_ED_firstComingBack_38 rfl (by decide) ?_
      dsimp only [List.set_cons_zero, List.set_cons_succ]
      refine lp_ED_firstComingBack_39 hb hw hr h34 (fun σ2 hoff2 hP2 => ?_) _ 0 σ1 rfl ⟨Nat.zero_le _, hoff, fun u j hu hj => by rw [if_neg (by omega)]; exact hP u j hu hj⟩
      refine ev_iinc d_ED_firstComingBack_81 rfl (ez_inc m) (by decide) ?_
      dsimp only [List.set_cons_zero, List.set_cons_succ]
      refine ev_goto d_ED_firstComingBack_84 ?_
      exact ih _ (by omega) (m + 1) σ2 rfl ⟨by omega, hoff2, hP2⟩
theorem lp_ED_firstComingBack_2 {b : Nat} (hb : sb_ED b) {E : em_E} {P : Nat} (hw : em_wf P E) (hr : rc E b σ) : ∀ (d : Nat) (t : Nat) (σ1 : es_S), em_n E - t = d → t ≤ em_n E ∧ (∀ k, k ≠ b + 8 → σ1 k = σ k) ∧ (∀ u j, u < t → j < 32 → (bt (σ1 (b + 8) u) j = true ↔ em_ed E u j)) → ez_Ev l G X_ED_firstComingBack 0 0 2 [some (.ref b), some (.int (nI t)), none] [] (es_H σ1) (es_Q (es_I fun y σ' => y = en (em_fst (em_cyc E) (em_n E)) ∧ ∀ k, k ≠ b + 8 → σ' k = σ k) es_no) := by
  intro d
  induction d using Nat.strongRecOn with
  | _ d ih =>
    intro t σ1 hm hinv
    obtain ⟨hi, hoff, hP⟩ := hinv
    have hn := hw.1
    have hr1 : rc E b σ1 := rc_off hr (fun k h1 h2 => hoff k (by omega))
    have hcl : (nI t).toNatClampNeg = t := nI_clamp (by omega)
    refine ev_iload_n (i := 1) d_ED_firstComingBack_2 rfl rfl ?_
    refine ev_aload_n (i := 0) d_ED_firstComingBack_3 rfl rfl ?_
    refine es_getI d_ED_firstComingBack_4 f_ED_36 (sh_ED hb) rfl ?_
    refine ev_icmp_ge d_ED_firstComingBack_7 (fun h7 => ?_) (fun h7 => ?_)
    · rw [hr1.1, nI_leI (by omega) (by omega)] at h7
      refine ev_iconst (v := 0) d_ED_firstComingBack_27 rfl ?_
      refine ev_istore_n (i := 1) d_ED_firstComingBack_28 rfl (by decide) ?_
      dsimp only [List.set_cons_zero, List.set_cons_succ]
      have e9 : t = em_n E := by omega
      subst e9
      exact lp_ED_firstComingBack_29 hb hw hr _ 0 σ1 rfl ⟨Nat.zero_le _, hoff, hP⟩
    · rw [hr1.1, nI_leI (by omega) (by omega), Nat.not_le] at h7
      refine ev_aload_n (i := 0) d_ED_firstComingBack_10 rfl rfl ?_
      refine es_getR d_ED_firstComingBack_11 f_ED_33 (sh_ED hb) rfl ?_
      refine ev_iload_n (i := 1) d_ED_firstComingBack_14 rfl rfl ?_
      refine ev_aload_n (i := 0) d_ED_firstComingBack_15 rfl rfl ?_
      refine ev_iload_n (i := 1) d_ED_firstComingBack_16 rfl rfl ?_
      refine es_cVI ls_ED_firstComingBack_17 d_ED_firstComingBack_17 (sh_ED hb) (c_ED_neededInTick hb hw hr1 h7) rfl rfl (Nat.le_of_ble_eq_true rfl) (fun x17 σ17 h17 => ?_) (fun _ _ h => h.elim)
      obtain ⟨rfl, e17⟩ := h17
      rw [e17]
      refine es_iast d_ED_firstComingBack_20 (sa_ED_ahead hb) (ez_vinN (by omega) (by omega)) ?_
      refine ev_iinc d_ED_firstComingBack_21 rfl (ez_inc _) (by decide) ?_
      dsimp only [List.set_cons_zero, List.set_cons_succ]
      refine ev_goto d_ED_firstComingBack_24 ?_
      refine ih _ (by omega) (t + 1) _ rfl ⟨by omega, fun k hk => by rw [es_up_off _ _ _ _ hk]; exact hoff k hk, fun u j hu hj => ?_⟩
      rw [hcl]
      by_cases hut : u = t
      · subst hut
        rw [es_up_eq]
        have h9 := hr1.2.2.2.2.2.2.1 u j (by omega) hj
        by_cases h6 : em_k E u = 6
        · rw [if_pos h6, b_0]
          exact ⟨(fun h => by cases h), fun h => absurd h6 h.2⟩
        · rw [if_neg h6]
          exact h9.trans ⟨fun h => ⟨h, h6⟩, fun h => h.1⟩
      · rw [es_up_ne _ _ _ _ hut]; exact hP u j (by omega) hj
theorem c_ED_firstComingBack {b : Nat} (hb : sb_ED b) {E : em_E} {P : Nat} (hw : em_wf P E) (hr : rc E b σ) : ez_Ct l G X_ED_firstComingBack [.ref b] (es_H σ) (es_Q (es_I fun y σ' => y = en (em_fst (em_cyc E) (em_n E)) ∧ ∀ k, k ≠ b + 8 → σ' k = σ k) es_no) := by
  refine es_Ct_of (ls := [some (.ref b), none, none]) ok_ED_firstComingBack rfl (Nat.le_of_ble_eq_true rfl) rfl ?_
  refine ev_iconst (v := 0) d_ED_firstComingBack_0 rfl ?_
  refine ev_istore_n (i := 1) d_ED_firstComingBack_1 rfl (by decide) ?_
  dsimp only [List.set_cons_zero, List.set_cons_succ]
  exact lp_ED_firstComingBack_2 hb hw hr _ 0 σ rfl ⟨Nat.zero_le _, fun _ _ => rfl, fun u j hu => by omega⟩
end
