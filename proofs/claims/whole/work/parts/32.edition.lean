/-! ===== an edition's other methods ===== -/
section
variable {l : Launch} {G : ez_G} {σ : es_S}
theorem c_ED_firstFault {b : Nat} (hb : sb_ED b) {E : em_E} {P : Nat} (hw : em_wf P E) (hr : rc E b σ) : ez_Ct l G X_ED_firstFault [.ref b] (es_H σ) (es_Q (es_I fun y σ' => y = en (em_fault E) ∧ ∀ k, k ≠ b + 8 → σ' k = σ k) es_no) := by
  have hn := hw.1
  have hfb : ∀ u, em_fst (em_unw E) (em_n E) = some u → u < 2 ^ 31 := fun u hu => by have := (em_fst_lt hu).1; omega
  refine es_Ct_of (ls := [some (.ref b), none]) ok_ED_firstFault rfl (Nat.le_of_ble_eq_true rfl) rfl ?_
  refine ev_aload_n (i := 0) d_ED_firstFault_0 rfl rfl ?_
  refine es_cVI ls_ED_firstFault_1 d_ED_firstFault_1 (sh_ED hb) (c_ED_firstUnwired hb hw hr) rfl rfl (Nat.le_of_ble_eq_true rfl) (fun x1 σ1 h1 => ?_) (fun _ _ h => h.elim)
  obtain ⟨rfl, e1⟩ := h1
  rw [e1]
  refine ev_istore_n (i := 1) d_ED_firstFault_4 rfl (by decide) ?_
  dsimp only [List.set_cons_zero, List.set_cons_succ]
  refine ev_iload_n (i := 1) d_ED_firstFault_5 rfl rfl ?_
  refine ev_iconst (v := (-1)) d_ED_firstFault_6 rfl ?_
  refine ev_icmp_eq d_ED_firstFault_7 (fun h7 => ?_) (fun h7 => ?_)
  · rw [en_none hfb] at h7
    refine ev_aload_n (i := 0) d_ED_firstFault_14 rfl rfl ?_
    refine es_cVI ls_ED_firstFault_15 d_ED_firstFault_15 (sh_ED hb) (c_ED_firstComingBack hb hw hr) rfl rfl (Nat.le_of_ble_eq_true rfl) (fun x15 σ15 h15 => ?_) (fun _ _ h => h.elim)
    obtain ⟨rfl, e15⟩ := h15
    refine es_iret d_ED_firstFault_18 rfl ⟨Nat.zero_le _, Nat.zero_le _⟩ ⟨_, rfl, ?_⟩
    first
      | (refine ⟨?_, e15⟩; unfold em_fault; rw [h7])
      | (refine ⟨?_, fun _ _ => rfl⟩
         unfold em_fault
         cases hc : em_fst (em_unw E) (em_n E) with
         | none => exact absurd hc h7
         | some t => rfl)
  · rw [en_none hfb] at h7
    refine ev_iload_n (i := 1) d_ED_firstFault_10 rfl rfl ?_
    refine ev_goto d_ED_firstFault_11 ?_
    refine es_iret d_ED_firstFault_18 rfl ⟨Nat.zero_le _, Nat.zero_le _⟩ ⟨_, rfl, ?_⟩
    first
      | (refine ⟨?_, e15⟩; unfold em_fault; rw [h7])
      | (refine ⟨?_, fun _ _ => rfl⟩
         unfold em_fault
         cases hc : em_fst (em_unw E) (em_n E) with
         | none => exact absurd hc h7
         | some t => rfl)
theorem c_ED_hasRoomFor {b : Nat} (hb : sb_ED b) {E : em_E} {P : Nat} (hw : em_wf P E) (hr : rc E b σ) {x : Int32} : ez_Ct l G X_ED_hasRoomFor [.ref b, .int x] (es_H σ) (es_Q (es_I fun y σ' => y = eb (decide (em_n E < 24) && (!decide (x = 6) || decide (em_dl E (em_n E) < 5))) ∧ σ' = σ) es_no) := by
  have hn := hw.1
  have h5 : em_dl E (em_n E) ≤ 5 := hw.2.2.2.2.2.2
  have e24 : (24 : Int32) = nI 24 := rfl
  have e5 : (5 : Int32) = nI 5 := rfl
  refine es_Ct_of (ls := [some (.ref b), some (.int x)]) ok_ED_hasRoomFor rfl (Nat.le_of_ble_eq_true rfl) rfl ?_
  refine ev_aload_n (i := 0) d_ED_hasRoomFor_0 rfl rfl ?_
  refine es_getI d_ED_hasRoomFor_1 f_ED_36 (sh_ED hb) rfl ?_
  refine ev_bipush (v := 24) d_ED_hasRoomFor_4 rfl ?_
  refine ev_icmp_ge d_ED_hasRoomFor_6 (fun h6 => ?_) (fun h6 => ?_)
  · rw [hr.1, e24, nI_leI (by omega) (by omega)] at h6
    refine ev_iconst (v := 0) d_ED_hasRoomFor_27 rfl ?_
    refine es_zret d_ED_hasRoomFor_28 rfl rfl ⟨Nat.zero_le _, Nat.zero_le _⟩ ⟨_, rfl, ?_⟩
    refine ⟨?_, rfl⟩
    first
      | (have h6x : ¬ em_n E < 24 := by omega
         simp [h6x, eb])
      | (have h20x : ¬ em_dl E (em_n E) < 5 := by omega
         simp_all [eb])
      | simp_all [eb]
  · rw [hr.1, e24, nI_leI (by omega) (by omega), Nat.not_le] at h6
    refine ev_iload_n (i := 1) d_ED_hasRoomFor_9 rfl rfl ?_
    refine ev_bipush (v := 6) d_ED_hasRoomFor_10 rfl ?_
    refine ev_icmp_ne d_ED_hasRoomFor_12 (fun h12 => ?_) (fun h12 => ?_)
    · refine ev_iconst (v := 1) d_ED_hasRoomFor_23 rfl ?_
      refine ev_goto d_ED_hasRoomFor_24 ?_
      refine es_zret d_ED_hasRoomFor_28 rfl rfl ⟨Nat.zero_le _, Nat.zero_le _⟩ ⟨_, rfl, ?_⟩
      refine ⟨?_, rfl⟩
      first
        | (have h6x : ¬ em_n E < 24 := by omega
           simp [h6x, eb])
        | (have h20x : ¬ em_dl E (em_n E) < 5 := by omega
           simp_all [eb])
        | simp_all [eb]
    · refine ev_aload_n (i := 0) d_ED_hasRoomFor_15 rfl rfl ?_
      refine es_getI d_ED_hasRoomFor_16 f_ED_40 (sh_ED hb) rfl ?_
      refine ev_iconst (v := 5) d_ED_hasRoomFor_19 rfl ?_
      refine ev_icmp_ge d_ED_hasRoomFor_20 (fun h20 => ?_) (fun h20 => ?_)
      · rw [hr.2.1, e5, nI_leI (by omega) (by omega)] at h20
        refine ev_iconst (v := 0) d_ED_hasRoomFor_27 rfl ?_
        refine es_zret d_ED_hasRoomFor_28 rfl rfl ⟨Nat.zero_le _, Nat.zero_le _⟩ ⟨_, rfl, ?_⟩
        refine ⟨?_, rfl⟩
        first
          | (have h6x : ¬ em_n E < 24 := by omega
             simp [h6x, eb])
          | (have h20x : ¬ em_dl E (em_n E) < 5 := by omega
             simp_all [eb])
          | simp_all [eb]
      · rw [hr.2.1, e5, nI_leI (by omega) (by omega), Nat.not_le] at h20
        refine ev_iconst (v := 1) d_ED_hasRoomFor_23 rfl ?_
        refine ev_goto d_ED_hasRoomFor_24 ?_
        refine es_zret d_ED_hasRoomFor_28 rfl rfl ⟨Nat.zero_le _, Nat.zero_le _⟩ ⟨_, rfl, ?_⟩
        refine ⟨?_, rfl⟩
        first
          | (have h6x : ¬ em_n E < 24 := by omega
             simp [h6x, eb])
          | (have h20x : ¬ em_dl E (em_n E) < 5 := by omega
             simp_all [eb])
          | simp_all [eb]
theorem c_ED_countNeeded {k : Nat} (hk : k ≤ 6) : ez_Ct l G X_ED_countNeeded [.int (nI k)] (es_H σ) (es_Q (es_I fun y σ' => y = nI (em_nd k) ∧ σ' = σ) es_no) := by
  have h : k = 0 ∨ k = 1 ∨ k = 2 ∨ k = 3 ∨ k = 4 ∨ k = 5 ∨ k = 6 := by omega
  rcases h with rfl | rfl | rfl | rfl | rfl | rfl | rfl
  · refine es_Ct_of (ls := [some (.int (nI 0))]) ok_ED_countNeeded rfl (Nat.le_of_ble_eq_true rfl) rfl ?_
    refine ev_iload_n (i := 0) d_ED_countNeeded_0 rfl rfl ?_
    refine ev_tableIn (off := 39) (tgt := 40) d_ED_countNeeded_1 (by decide) (by decide) rfl rfl ?_
    refine ev_iconst (v := 0) d_ED_countNeeded_40 rfl ?_
    refine es_iret d_ED_countNeeded_41 rfl ⟨Nat.zero_le _, Nat.zero_le _⟩ ⟨_, rfl, ?_⟩
    exact ⟨rfl, rfl⟩
  · refine es_Ct_of (ls := [some (.int (nI 1))]) ok_ED_countNeeded rfl (Nat.le_of_ble_eq_true rfl) rfl ?_
    refine ev_iload_n (i := 0) d_ED_countNeeded_0 rfl rfl ?_
    refine ev_tableIn (off := 39) (tgt := 40) d_ED_countNeeded_1 (by decide) (by decide) rfl rfl ?_
    refine ev_iconst (v := 0) d_ED_countNeeded_40 rfl ?_
    refine es_iret d_ED_countNeeded_41 rfl ⟨Nat.zero_le _, Nat.zero_le _⟩ ⟨_, rfl, ?_⟩
    exact ⟨rfl, rfl⟩
  · refine es_Ct_of (ls := [some (.int (nI 2))]) ok_ED_countNeeded rfl (Nat.le_of_ble_eq_true rfl) rfl ?_
    refine ev_iload_n (i := 0) d_ED_countNeeded_0 rfl rfl ?_
    refine ev_tableIn (off := 43) (tgt := 44) d_ED_countNeeded_1 (by decide) (by decide) rfl rfl ?_
    refine ev_iconst (v := 1) d_ED_countNeeded_44 rfl ?_
    refine es_iret d_ED_countNeeded_45 rfl ⟨Nat.zero_le _, Nat.zero_le _⟩ ⟨_, rfl, ?_⟩
    exact ⟨rfl, rfl⟩
  · refine es_Ct_of (ls := [some (.int (nI 3))]) ok_ED_countNeeded rfl (Nat.le_of_ble_eq_true rfl) rfl ?_
    refine ev_iload_n (i := 0) d_ED_countNeeded_0 rfl rfl ?_
    refine ev_tableIn (off := 41) (tgt := 42) d_ED_countNeeded_1 (by decide) (by decide) rfl rfl ?_
    refine ev_iconst (v := 2) d_ED_countNeeded_42 rfl ?_
    refine es_iret d_ED_countNeeded_43 rfl ⟨Nat.zero_le _, Nat.zero_le _⟩ ⟨_, rfl, ?_⟩
    exact ⟨rfl, rfl⟩
  · refine es_Ct_of (ls := [some (.int (nI 4))]) ok_ED_countNeeded rfl (Nat.le_of_ble_eq_true rfl) rfl ?_
    refine ev_iload_n (i := 0) d_ED_countNeeded_0 rfl rfl ?_
    refine ev_tableIn (off := 41) (tgt := 42) d_ED_countNeeded_1 (by decide) (by decide) rfl rfl ?_
    refine ev_iconst (v := 2) d_ED_countNeeded_42 rfl ?_
    refine es_iret d_ED_countNeeded_43 rfl ⟨Nat.zero_le _, Nat.zero_le _⟩ ⟨_, rfl, ?_⟩
    exact ⟨rfl, rfl⟩
  · refine es_Ct_of (ls := [some (.int (nI 5))]) ok_ED_countNeeded rfl (Nat.le_of_ble_eq_true rfl) rfl ?_
    refine ev_iload_n (i := 0) d_ED_countNeeded_0 rfl rfl ?_
    refine ev_tableIn (off := 41) (tgt := 42) d_ED_countNeeded_1 (by decide) (by decide) rfl rfl ?_
    refine ev_iconst (v := 2) d_ED_countNeeded_42 rfl ?_
    refine es_iret d_ED_countNeeded_43 rfl ⟨Nat.zero_le _, Nat.zero_le _⟩ ⟨_, rfl, ?_⟩
    exact ⟨rfl, rfl⟩
  · refine es_Ct_of (ls := [some (.int (nI 6))]) ok_ED_countNeeded rfl (Nat.le_of_ble_eq_true rfl) rfl ?_
    refine ev_iload_n (i := 0) d_ED_countNeeded_0 rfl rfl ?_
    refine ev_tableOut (tgt := 44) d_ED_countNeeded_1 (Or.inr (by decide)) rfl ?_
    refine ev_iconst (v := 1) d_ED_countNeeded_44 rfl ?_
    refine es_iret d_ED_countNeeded_45 rfl ⟨Nat.zero_le _, Nat.zero_le _⟩ ⟨_, rfl, ?_⟩
    exact ⟨rfl, rfl⟩
theorem rc_add {b : Nat} {E : em_E} {P : Nat} (hw : em_wf P E) {σ σ' : es_S} (hr : rc E b σ) {k : Nat} {m : Int32} (hn : em_n E < 24) (h0 : σ' b 8 = nI (em_n E + 1)) (h1 : σ' b 9 = nI (em_dl E (em_n E) + if k = 6 then 1 else 0))
    (h2 : ∀ t, σ' (b + 1) t = if t = em_n E then nI k else σ (b + 1) t) (h3 : ∀ t, σ' (b + 2) t = if t = em_n E then (if k = 6 then nI (em_dl E (em_n E)) else m) else σ (b + 2) t) (h4 : ∀ t, σ' (b + 3) t = if t = em_n E then nI (em_nd k) else σ (b + 3) t)
    (h5 : σ' (b + 4) = σ (b + 4)) (h6 : σ' (b + 5) = σ (b + 5)) (h7 : σ' (b + 6) = σ (b + 6)) (h8 : ∀ j, σ' (b + 7) j = if k = 6 ∧ j = em_dl E (em_n E) then nI (em_n E) else σ (b + 7) j) : rc (em_add E k m) b σ' := by
  obtain ⟨r0, r1, r2, r3, r4, r5, r6, r7, r8⟩ := hr
  have ekn : em_k (em_add E k m) (em_n E) = k := if_pos rfl
  have emn : em_m (em_add E k m) (em_n E) = m := if_pos rfl
  have eko : ∀ t, t < em_n E → em_k (em_add E k m) t = em_k E t := fun t ht => if_neg (by omega)
  have emo : ∀ t, t < em_n E → em_m (em_add E k m) t = em_m E t := fun t ht => if_neg (by omega)
  have en' : em_n (em_add E k m) = em_n E + 1 := rfl
  refine ⟨h0, by rw [en', em_dl_add_n]; exact h1, fun t ht => ?_, fun t ht => ?_, fun t ht => ?_, fun t i ht hi => by rw [h5]; exact r5 t i ht hi, fun t j ht hj => ?_, fun j hj => by rw [h7]; exact r7 j hj, fun j hj => ?_⟩
  · rw [en'] at ht
    rw [h2]
    by_cases htn : t = em_n E
    · rw [if_pos htn, htn, ekn]
    · rw [if_neg htn, eko t (by omega)]; exact r2 t (by omega)
  · rw [en'] at ht
    rw [h3]
    by_cases htn : t = em_n E
    · rw [if_pos htn, htn, ekn, emn, em_dl_add _ _ _ _ (Nat.le_refl _)]
    · rw [if_neg htn, eko t (by omega), emo t (by omega), em_dl_add _ _ _ _ (by omega)]; exact r3 t (by omega)
  · rw [en'] at ht
    rw [h4]
    by_cases htn : t = em_n E
    · rw [if_pos htn, htn, ekn]
    · rw [if_neg htn, eko t (by omega)]; exact r4 t (by omega)
  · rw [h6]
    refine (r6 t j ht hj).trans ⟨fun h => ⟨by rw [en']; have := h.1; omega, ?_⟩, fun h => ?_⟩
    · obtain ⟨htn, i, hi, hi2⟩ := h
      exact ⟨i, by rw [eko t htn]; exact hi, hi2⟩
    · obtain ⟨-, i, hi, hi2⟩ := h
      have hi3 : em_w E t i = some j := hi2
      have htn := (hw.2.2.1 t i j hi3).1
      exact ⟨htn, i, by rw [← eko t htn]; exact hi, hi3⟩
  · rw [en', em_dl_add_n] at hj
    rw [h8]
    by_cases hjn : j < em_dl E (em_n E)
    · obtain ⟨t, t1, t2, t3, t4⟩ := r8 j hjn
      exact ⟨t, by rw [en']; omega, by rw [eko t t1]; exact t2, by rw [em_dl_add _ _ _ _ (by omega)]; exact t3, by rw [if_neg (by omega)]; exact t4⟩
    · by_cases hk : k = 6
      · rw [if_pos hk] at hj
        have hje : j = em_dl E (em_n E) := by omega
        exact ⟨em_n E, by rw [en']; omega, by rw [ekn]; exact hk, by rw [em_dl_add _ _ _ _ (Nat.le_refl _)]; exact hje.symm, by rw [if_pos ⟨hk, hje⟩]⟩
      · rw [if_neg hk] at hj; omega
theorem c_ED_addBlock {b : Nat} (hb : sb_ED b) {E : em_E} {P : Nat} (hw : em_wf P E) (hr : rc E b σ) {k : Nat} {m : Int32} (hk : k ≤ 6) (hroom : em_n E < 24 ∧ (k = 6 → em_dl E (em_n E) < 5)) : ez_Ct l G X_ED_addBlock [.ref b, .int (nI k), .int m] (es_H σ) (es_Q (es_I fun y σ' => y = nI (em_n E) ∧ rc (em_add E k m) b σ' ∧ ∀ q, (q < b ∨ b + 8 ≤ q) → σ' q = σ q) es_no) := by
  have hn := hw.1
  have h5 : em_dl E (em_n E) ≤ 5 := hw.2.2.2.2.2.2
  have hcn : (σ b 8).toNatClampNeg = em_n E := by rw [hr.1]; exact nI_clamp (by omega)
  have hcd : (σ b 9).toNatClampNeg = em_dl E (em_n E) := by rw [hr.2.1]; exact nI_clamp (by omega)
  have hbn : ∀ q, q ≠ 0 → b + q ≠ b := fun q hq => by omega
  have hx6 : nI k = 6 ↔ k = 6 := by rw [show (6 : Int32) = nI 6 from rfl]; exact nI_eq (by omega) (by omega)
  have hin : vp_in (σ b 8) 24 := by rw [hr.1]; exact ez_vinN hroom.1 (by omega)
  refine es_Ct_of (ls := [some (.ref b), some (.int (nI k)), some (.int m), none]) ok_ED_addBlock rfl (Nat.le_of_ble_eq_true rfl) rfl ?_
  refine ev_aload_n (i := 0) d_ED_addBlock_0 rfl rfl ?_
  refine ev_iload_n (i := 1) d_ED_addBlock_1 rfl rfl ?_
  refine es_cVI ls_ED_addBlock_2 d_ED_addBlock_2 (sh_ED hb) (c_ED_hasRoomFor hb hw hr) rfl rfl (Nat.le_of_ble_eq_true rfl) (fun x2 σ2 h2 => ?_) (fun _ _ h => h.elim)
  obtain ⟨rfl, e2⟩ := h2
  rw [e2]
  refine ev_if_ne d_ED_addBlock_5 (fun h5 => ?_) (fun h5 => ?_)
  · refine ev_aload_n (i := 0) d_ED_addBlock_10 rfl rfl ?_
    refine es_getI d_ED_addBlock_11 f_ED_36 (sh_ED hb) rfl ?_
    refine ev_istore_n (i := 3) d_ED_addBlock_14 rfl (by decide) ?_
    dsimp only [List.set_cons_zero, List.set_cons_succ]
    refine ev_aload_n (i := 0) d_ED_addBlock_15 rfl rfl ?_
    refine es_getR d_ED_addBlock_16 f_ED_9 (sh_ED hb) rfl ?_
    refine ev_iload_n (i := 3) d_ED_addBlock_19 rfl rfl ?_
    refine ev_iload_n (i := 1) d_ED_addBlock_20 rfl rfl ?_
    refine es_iast d_ED_addBlock_21 (sa_ED_kinds hb) hin ?_
    refine ev_aload_n (i := 0) d_ED_addBlock_22 rfl rfl ?_
    refine es_getR d_ED_addBlock_23 f_ED_15 (sh_ED hb) rfl ?_
    refine ev_iload_n (i := 3) d_ED_addBlock_26 rfl rfl ?_
    refine ev_iload_n (i := 2) d_ED_addBlock_27 rfl rfl ?_
    refine es_iast d_ED_addBlock_28 (sa_ED_numbers hb) hin ?_
    refine ev_aload_n (i := 0) d_ED_addBlock_29 rfl rfl ?_
    refine es_getR d_ED_addBlock_30 f_ED_18 (sh_ED hb) rfl ?_
    refine ev_iload_n (i := 3) d_ED_addBlock_33 rfl rfl ?_
    refine ev_iload_n (i := 1) d_ED_addBlock_34 rfl rfl ?_
    refine es_cSI ls_ED_addBlock_35 d_ED_addBlock_35 (c_ED_countNeeded hk) rfl rfl (Nat.le_of_ble_eq_true rfl) (fun x35 σ35 h35 => ?_) (fun _ _ h => h.elim)
    obtain ⟨rfl, e35⟩ := h35
    rw [e35]
    refine es_iast d_ED_addBlock_38 (sa_ED_neededInputs hb) hin ?_
    refine ev_iload_n (i := 1) d_ED_addBlock_39 rfl rfl ?_
    refine ev_bipush (v := 6) d_ED_addBlock_40 rfl ?_
    refine ev_icmp_ne d_ED_addBlock_42 (fun h42 => ?_) (fun h42 => ?_)
    · have h6 : ¬ k = 6 := fun h => h42 (hx6.mpr h)
      refine ev_aload_n (i := 0) d_ED_addBlock_75 rfl rfl ?_
      refine ev_dup d_ED_addBlock_76 rfl ?_
      refine es_getI d_ED_addBlock_77 f_ED_36 (sh_ED hb) rfl ?_
      refine ev_iconst (v := 1) d_ED_addBlock_80 rfl ?_
      refine ev_iadd d_ED_addBlock_81 ?_
      refine es_putI d_ED_addBlock_82 f_ED_36 y_ED_blockCount (sh_ED hb) rfl ⟨rfl, rfl⟩ ?_
      refine ev_iload_n (i := 3) d_ED_addBlock_85 rfl rfl ?_
      refine es_iret d_ED_addBlock_86 rfl ⟨Nat.zero_le _, Nat.zero_le _⟩ ⟨_, rfl, ?_⟩
      refine ⟨hr.1, rc_add hw hr hroom.1 ?_ ?_ (fun t => ?_) (fun t => ?_) (fun t => ?_) ?_ ?_ ?_ (fun t => ?_), fun q hq => ?_⟩
      · simp [es_upx, hr.1, nI_succ]
      · simp [es_upx, hr.2.1, h6, nI_succ]
      · simp [es_upx, hcn]
      · by_cases htn : t = em_n E <;> simp [es_upx, hcn, h6, hr.2.1, htn]
      · simp [es_upx, hcn]
      · simp [es_upf]
      · simp [es_upf]
      · simp [es_upf]
      · simp [es_upx, hcd, h6, hr.1]
      · repeat rw [es_upf _ _ _ _ (by omega)]
    · have h6 : k = 6 := hx6.mp h42
      refine ev_aload_n (i := 0) d_ED_addBlock_45 rfl rfl ?_
      refine es_getR d_ED_addBlock_46 f_ED_15 (sh_ED hb) rfl ?_
      refine ev_iload_n (i := 3) d_ED_addBlock_49 rfl rfl ?_
      refine ev_aload_n (i := 0) d_ED_addBlock_50 rfl rfl ?_
      refine es_getI d_ED_addBlock_51 f_ED_40 (sh_ED hb) rfl ?_
      refine es_iast d_ED_addBlock_54 (sa_ED_numbers hb) hin ?_
      refine ev_aload_n (i := 0) d_ED_addBlock_55 rfl rfl ?_
      refine es_getR d_ED_addBlock_56 f_ED_30 (sh_ED hb) rfl ?_
      refine ev_aload_n (i := 0) d_ED_addBlock_59 rfl rfl ?_
      refine es_getI d_ED_addBlock_60 f_ED_40 (sh_ED hb) rfl ?_
      refine ev_iload_n (i := 3) d_ED_addBlock_63 rfl rfl ?_
      refine es_iast d_ED_addBlock_64 (sa_ED_delays hb) (by simp [es_upx]; rw [hr.2.1]; exact ez_vinN (hroom.2 (hx6.mp h42)) (by omega)) ?_
      refine ev_aload_n (i := 0) d_ED_addBlock_65 rfl rfl ?_
      refine ev_dup d_ED_addBlock_66 rfl ?_
      refine es_getI d_ED_addBlock_67 f_ED_40 (sh_ED hb) rfl ?_
      refine ev_iconst (v := 1) d_ED_addBlock_70 rfl ?_
      refine ev_iadd d_ED_addBlock_71 ?_
      refine es_putI d_ED_addBlock_72 f_ED_40 y_ED_delayCount (sh_ED hb) rfl ⟨rfl, rfl⟩ ?_
      refine ev_aload_n (i := 0) d_ED_addBlock_75 rfl rfl ?_
      refine ev_dup d_ED_addBlock_76 rfl ?_
      refine es_getI d_ED_addBlock_77 f_ED_36 (sh_ED hb) rfl ?_
      refine ev_iconst (v := 1) d_ED_addBlock_80 rfl ?_
      refine ev_iadd d_ED_addBlock_81 ?_
      refine es_putI d_ED_addBlock_82 f_ED_36 y_ED_blockCount (sh_ED hb) rfl ⟨rfl, rfl⟩ ?_
      refine ev_iload_n (i := 3) d_ED_addBlock_85 rfl rfl ?_
      refine es_iret d_ED_addBlock_86 rfl ⟨Nat.zero_le _, Nat.zero_le _⟩ ⟨_, rfl, ?_⟩
      refine ⟨hr.1, rc_add hw hr hroom.1 ?_ ?_ (fun t => ?_) (fun t => ?_) (fun t => ?_) ?_ ?_ ?_ (fun t => ?_), fun q hq => ?_⟩
      · simp [es_upx, hr.1, nI_succ]
      · simp [es_upx, hr.2.1, h6, nI_succ]
      · simp [es_upx, hcn]
      · by_cases htn : t = em_n E <;> simp [es_upx, hcn, h6, hr.2.1, htn]
      · simp [es_upx, hcn]
      · simp [es_upf]
      · simp [es_upf]
      · simp [es_upf]
      · simp [es_upx, hcd, h6, hr.1]
      · repeat rw [es_upf _ _ _ _ (by omega)]
  · refine absurd h5 ?_
    rw [eb_0]
    have := hroom.2
    by_cases hk6 : k = 6 <;> simp_all
theorem rc_rw {b : Nat} {E : em_E} {P : Nat} (hw : em_wf P E) {σ σ' : es_S} (hr : rc E b σ) {t i : Nat} {o : Option Nat} (ht : t < em_n E) (hi : i < 2) (ho : ∀ u, o = some u → u < em_n E) (h0 : σ' b = σ b) (h1 : σ' (b + 1) = σ (b + 1)) (h2 : σ' (b + 2) = σ (b + 2)) (h3 : σ' (b + 3) = σ (b + 3))
    (h4 : ∀ q, σ' (b + 4) q = if q = t * 2 + i then en o else σ (b + 4) q) (h5 : ∀ q : Nat, q ≠ t → σ' (b + 5) q = σ (b + 5) q) (h5t : ∀ j, j < 32 → (bt (σ' (b + 5) t) j = true ↔ ∃ q, q < em_nd (em_k E t) ∧ em_w (em_rw E t i o) t q = some j)) (h6 : σ' (b + 6) = σ (b + 6)) (h7 : σ' (b + 7) = σ (b + 7)) : rc (em_rw E t i o) b σ' := by
  obtain ⟨r0, r1, r2, r3, r4, r5, r6, r7, r8⟩ := hr
  have edl : ∀ q, em_dl (em_rw E t i o) q = em_dl E q := by
    intro q
    induction q with
    | zero => rfl
    | succ q ih => simp only [em_dl, ih]; rfl
  have hn := hw.1
  refine ⟨by rw [h0]; exact r0, by rw [h0, edl]; exact r1, by rw [h1]; exact r2, fun q hq => by rw [h2, edl]; exact r3 q hq, by rw [h3]; exact r4, fun q j hq hj => ?_, fun q j hq hj => ?_, by rw [h6]; exact r7, fun j hj => ?_⟩
  · rw [h4]
    by_cases hqj : q = t ∧ j = i
    · rw [if_pos (by rw [hqj.1, hqj.2])]
      show en o = en (if q = t ∧ j = i then o else em_w E q j)
      rw [if_pos hqj]
    · rw [if_neg (by omega)]
      show _ = en (if q = t ∧ j = i then o else em_w E q j)
      rw [if_neg hqj]
      exact r5 q j hq hj
  · by_cases hqt : q = t
    · subst hqt
      exact (h5t j hj).trans ⟨fun h => ⟨ht, h⟩, fun h => h.2⟩
    · rw [h5 q hqt]
      have ew : ∀ z, em_w (em_rw E t i o) q z = em_w E q z := fun z => if_neg (fun h => hqt h.1)
      refine (r6 q j hq hj).trans ⟨fun h => ⟨h.1, ?_⟩, fun h => ⟨h.1, ?_⟩⟩
      · obtain ⟨-, z, z1, z2⟩ := h
        exact ⟨z, z1, by rw [ew]; exact z2⟩
      · obtain ⟨-, z, z1, z2⟩ := h
        exact ⟨z, z1, by rw [← ew]; exact z2⟩
  · rw [show em_n (em_rw E t i o) = em_n E from rfl, edl] at hj
    obtain ⟨q, q1, q2, q3, q4⟩ := r8 j hj
    exact ⟨q, q1, q2, by rw [edl]; exact q3, by rw [h7]; exact q4⟩
theorem em_wf_rw {E : em_E} {P : Nat} (hw : em_wf P E) {t i : Nat} {o : Option Nat} (ht : t < em_n E) (ho : ∀ u, o = some u → u < em_n E) : em_wf P (em_rw E t i o) := by
  obtain ⟨w0, w1, w2, w3, w4, w5, w6⟩ := hw
  have edl : ∀ q, em_dl (em_rw E t i o) q = em_dl E q := by
    intro q
    induction q with
    | zero => rfl
    | succ q ih => simp only [em_dl, ih]; rfl
  refine ⟨w0, w1, fun q j u h => ?_, w3, w4, w5, by rw [edl]; exact w6⟩
  have h2 : (if q = t ∧ j = i then o else em_w E q j) = some u := h
  by_cases hq : q = t ∧ j = i
  · rw [if_pos hq] at h2
    exact ⟨by rw [hq.1]; exact ht, ho u h2⟩
  · rw [if_neg hq] at h2
    exact w2 q j u h2
theorem em_wf_co {E : em_E} {P : Nat} (hw : em_wf P E) {j : Nat} {o : Option Nat} (ho : ∀ u, o = some u → u < em_n E) : em_wf P (em_co E j o) := by
  obtain ⟨w0, w1, w2, w3, w4, w5, w6⟩ := hw
  have edl : ∀ q, em_dl (em_co E j o) q = em_dl E q := by
    intro q
    induction q with
    | zero => rfl
    | succ q ih => simp only [em_dl, ih]; rfl
  refine ⟨w0, w1, w2, fun q u h => ?_, w4, w5, by rw [edl]; exact w6⟩
  have h2 : (if q = j then o else em_o E q) = some u := h
  by_cases hq : q = j
  · rw [if_pos hq] at h2; exact ho u h2
  · rw [if_neg hq] at h2; exact w3 q u h2
theorem em_wf_add {E : em_E} {P : Nat} (hw : em_wf P E) {k : Nat} {m : Int32} (hk : k ≤ 6) (h0 : k = 0 → ∃ q : Nat, m = nI q ∧ q < P) (h1 : k = 1 → m = 0 ∨ m = 1) (hn : em_n E < 24) (hd : k = 6 → em_dl E (em_n E) < 5) : em_wf P (em_add E k m) := by
  obtain ⟨w0, w1, w2, w3, w4, w5, w6⟩ := hw
  have ekn : em_k (em_add E k m) (em_n E) = k := if_pos rfl
  have emn : em_m (em_add E k m) (em_n E) = m := if_pos rfl
  have eko : ∀ t, t < em_n E → em_k (em_add E k m) t = em_k E t := fun t ht => if_neg (by omega)
  have emo : ∀ t, t < em_n E → em_m (em_add E k m) t = em_m E t := fun t ht => if_neg (by omega)
  have en' : em_n (em_add E k m) = em_n E + 1 := rfl
  refine ⟨by rw [en']; omega, fun t ht => ?_, fun t i u h => ?_, fun j u h => ?_, fun t ht hk0 => ?_, fun t ht hk1 => ?_, ?_⟩
  · rw [en'] at ht
    by_cases htn : t = em_n E
    · rw [htn, ekn]; exact hk
    · rw [eko t (by omega)]; exact w1 t (by omega)
  · have := w2 t i u h; rw [en']; omega
  · have := w3 j u h; rw [en']; omega
  · rw [en'] at ht
    by_cases htn : t = em_n E
    · rw [htn, ekn] at hk0; rw [htn, emn]; exact h0 hk0
    · rw [eko t (by omega)] at hk0; rw [emo t (by omega)]; exact w4 t (by omega) hk0
  · rw [en'] at ht
    by_cases htn : t = em_n E
    · rw [htn, ekn] at hk1; rw [htn, emn]; exact h1 hk1
    · rw [eko t (by omega)] at hk1; rw [emo t (by omega)]; exact w5 t (by omega) hk1
  · rw [en', em_dl_add_n]
    by_cases h6 : k = 6
    · have := hd h6; rw [if_pos h6]; omega
    · rw [if_neg h6]; omega
theorem c_ED_rewire {b : Nat} (hb : sb_ED b) {E : em_E} {P : Nat} (hw : em_wf P E) (hr : rc E b σ) {t i : Nat} {o : Option Nat} (ht : t < em_n E) (hi : i < 2) (ho : ∀ u, o = some u → u < em_n E) : ez_Ct l G X_ED_rewire [.ref b, .int (nI t), .int (nI i), .int (en o)] (es_H σ) (es_Q (es_I fun y σ' => y = en (em_w E t i) ∧ rc (em_rw E t i o) b σ' ∧ ∀ q, (q < b ∨ b + 8 ≤ q) → σ' q = σ q) es_no) := by
  have hn := hw.1
  have h24 : t < 24 := Nat.lt_of_lt_of_le ht hn
  have hcl : (nI t).toNatClampNeg = t := nI_clamp (by omega)
  have hbt : ew (nI t) (σ b 8) = true := by rw [hr.1, ew_nI (by omega) (by omega), decide_eq_true ht]
  have hb2 : ew (nI i) 2 = true := by rw [show (2 : Int32) = nI 2 from rfl, ew_nI (by omega) (by omega), decide_eq_true hi]
  have hix : nI t * 2 + nI i = nI (t * 2 + i) := by rw [show (2 : Int32) = nI 2 from rfl, nI_mul, nI_add]
  have hi32 : (nI (t * 2 + i)).toNatClampNeg = t * 2 + i := nI_clamp (by omega)
  have hiv : vp_in (nI t * 2 + nI i) 48 := by rw [hix]; exact ez_vinN (by omega) (by omega)
  have hw1 := em_wf_rw (i := i) hw ht ho
  have hww : σ (b + 4) (t * 2 + i) = en (em_w E t i) := hr.2.2.2.2.2.1 t i h24 hi
  have hr1 : ∀ q, q < 2 → ez_Ct l G X_ED_neededAt [.ref b, .int (nI t), .int (nI q)] (es_H (es_up σ (b + 4) (t * 2 + i) (en o))) (es_Q (es_I fun y σ' => y = en (if q < em_nd (em_k E t) then em_w (em_rw E t i o) t q else none) ∧ σ' = es_up σ (b + 4) (t * 2 + i) (en o)) es_no) := fun q hq => c_ED_neededAtW hb (E := em_rw E t i o) hw1 (by rw [es_upf _ _ _ _ (by omega)]; exact hr.1) (by rw [es_upf _ _ _ _ (by omega)]; exact hr.2.2.2.2.1 t ht) (by
    rw [es_upx, if_pos rfl]
    show _ = en (if t = t ∧ q = i then o else em_w E t q)
    by_cases hqi : q = i
    · rw [if_pos (by rw [hqi]), if_pos ⟨rfl, hqi⟩]
    · rw [if_neg (by omega), if_neg (fun h => hqi h.2)]; exact hr.2.2.2.2.2.1 t q h24 hq) ht hq
  refine es_Ct_of (ls := [some (.ref b), some (.int (nI t)), some (.int (nI i)), some (.int (en o)), none]) ok_ED_rewire rfl (Nat.le_of_ble_eq_true rfl) rfl ?_
  refine ev_aload_n (i := 0) d_ED_rewire_0 rfl rfl ?_
  refine ev_iload_n (i := 1) d_ED_rewire_1 rfl rfl ?_
  refine es_cVI ls_ED_rewire_2 d_ED_rewire_2 (sh_ED hb) (c_ED_hasBlock hb) rfl rfl (Nat.le_of_ble_eq_true rfl) (fun x2 σ2 h2 => ?_) (fun _ _ h => h.elim)
  obtain ⟨rfl, e2⟩ := h2
  rw [e2]
  refine ev_if_eq d_ED_rewire_5 (fun h5 => ?_) (fun h5 => ?_)
  · exact absurd h5 (by rw [hbt]; decide)
  · refine ev_iload_n (i := 2) d_ED_rewire_8 rfl rfl ?_
    refine ev_iconst (v := 2) d_ED_rewire_9 rfl ?_
    refine es_cSI ls_ED_rewire_10 d_ED_rewire_10 c_EE_isWithin rfl rfl (Nat.le_of_ble_eq_true rfl) (fun x10 σ10 h10 => ?_) (fun _ _ h => h.elim)
    obtain ⟨rfl, e10⟩ := h10
    rw [e10]
    refine ev_if_ne d_ED_rewire_13 (fun h13 => ?_) (fun h13 => ?_)
    · refine ev_aload_n (i := 0) d_ED_rewire_18 rfl rfl ?_
      refine es_getR d_ED_rewire_19 f_ED_21 (sh_ED hb) rfl ?_
      refine ev_iload_n (i := 1) d_ED_rewire_22 rfl rfl ?_
      refine ev_iconst (v := 2) d_ED_rewire_23 rfl ?_
      refine ev_imul d_ED_rewire_24 ?_
      refine ev_iload_n (i := 2) d_ED_rewire_25 rfl rfl ?_
      refine ev_iadd d_ED_rewire_26 ?_
      refine es_iald d_ED_rewire_27 (sa_ED_wires hb) hiv ?_
      refine ev_istore d_ED_rewire_28 (by decide) ?_
      dsimp only [List.set_cons_zero, List.set_cons_succ]
      refine ev_aload_n (i := 0) d_ED_rewire_30 rfl rfl ?_
      refine es_getR d_ED_rewire_31 f_ED_21 (sh_ED hb) rfl ?_
      refine ev_iload_n (i := 1) d_ED_rewire_34 rfl rfl ?_
      refine ev_iconst (v := 2) d_ED_rewire_35 rfl ?_
      refine ev_imul d_ED_rewire_36 ?_
      refine ev_iload_n (i := 2) d_ED_rewire_37 rfl rfl ?_
      refine ev_iadd d_ED_rewire_38 ?_
      refine ev_iload_n (i := 3) d_ED_rewire_39 rfl rfl ?_
      refine es_iast d_ED_rewire_40 (sa_ED_wires hb) hiv ?_
      rw [hix, hi32]
      refine ev_aload_n (i := 0) d_ED_rewire_41 rfl rfl ?_
      refine es_getR d_ED_rewire_42 f_ED_24 (sh_ED hb) rfl ?_
      refine ev_iload_n (i := 1) d_ED_rewire_45 rfl rfl ?_
      refine ev_aload_n (i := 0) d_ED_rewire_46 rfl rfl ?_
      refine ev_iload_n (i := 1) d_ED_rewire_47 rfl rfl ?_
      refine ev_iconst (v := 0) d_ED_rewire_48 rfl ?_
      refine es_cVI ls_ED_rewire_49 d_ED_rewire_49 (sh_ED hb) (hr1 0 (by omega)) rfl rfl (Nat.le_of_ble_eq_true rfl) (fun x49 σ49 h49 => ?_) (fun _ _ h => h.elim)
      obtain ⟨rfl, e49⟩ := h49
      rw [e49]
      refine es_cSI ls_ED_rewire_52 d_ED_rewire_52 c_EE_bitOf rfl rfl (Nat.le_of_ble_eq_true rfl) (fun x52 σ52 h52 => ?_) (fun _ _ h => h.elim)
      obtain ⟨rfl, e52⟩ := h52
      rw [e52]
      refine ev_aload_n (i := 0) d_ED_rewire_55 rfl rfl ?_
      refine ev_iload_n (i := 1) d_ED_rewire_56 rfl rfl ?_
      refine ev_iconst (v := 1) d_ED_rewire_57 rfl ?_
      refine es_cVI ls_ED_rewire_58 d_ED_rewire_58 (sh_ED hb) (hr1 1 (by omega)) rfl rfl (Nat.le_of_ble_eq_true rfl) (fun x58 σ58 h58 => ?_) (fun _ _ h => h.elim)
      obtain ⟨rfl, e58⟩ := h58
      rw [e58]
      refine es_cSI ls_ED_rewire_61 d_ED_rewire_61 c_EE_bitOf rfl rfl (Nat.le_of_ble_eq_true rfl) (fun x61 σ61 h61 => ?_) (fun _ _ h => h.elim)
      obtain ⟨rfl, e61⟩ := h61
      rw [e61]
      refine ev_ior d_ED_rewire_64 ?_
      refine es_iast d_ED_rewire_65 (sa_ED_neededBlocks hb) (ez_vinN h24 (by omega)) ?_
      refine ev_iload d_ED_rewire_66 rfl ?_
      refine es_iret d_ED_rewire_68 rfl ⟨Nat.zero_le _, Nat.zero_le _⟩ ⟨_, rfl, ?_⟩
      refine ⟨hww, rc_rw hw hr ht hi ho ?_ ?_ ?_ ?_ (fun q => ?_) (fun q hq => ?_) (fun j hj => ?_) ?_ ?_, fun q hq => ?_⟩
      · simp [es_upf]
      · simp [es_upf]
      · simp [es_upf]
      · simp [es_upf]
      · simp [es_upx]
      · simp [es_upx, hcl, hq]
      · rw [es_upx, if_pos rfl, if_pos hcl.symm, b_or, Bool.or_eq_true, bt_en _ hj, bt_en _ hj, decide_eq_true_eq, decide_eq_true_eq]
        · constructor
          · rintro (h | h)
            · by_cases h0 : 0 < em_nd (em_k E t)
              · rw [if_pos h0] at h; exact ⟨0, h0, h⟩
              · rw [if_neg h0] at h; cases h
            · by_cases h0 : 1 < em_nd (em_k E t)
              · rw [if_pos h0] at h; exact ⟨1, h0, h⟩
              · rw [if_neg h0] at h; cases h
          · rintro ⟨q, q1, q2⟩
            have := em_nd_le (em_k E t)
            have hq01 : q = 0 ∨ q = 1 := by omega
            rcases hq01 with rfl | rfl
            · left; rw [if_pos q1]; exact q2
            · right; rw [if_pos q1]; exact q2
        · intro u hu
          by_cases h0 : 1 < em_nd (em_k E t)
          · rw [if_pos h0] at hu; have := (hw1.2.2.1 t 1 u hu).2; rw [show em_n (em_rw E t i o) = em_n E from rfl] at this; omega
          · rw [if_neg h0] at hu; cases hu
        · intro u hu
          by_cases h0 : 0 < em_nd (em_k E t)
          · rw [if_pos h0] at hu; have := (hw1.2.2.1 t 0 u hu).2; rw [show em_n (em_rw E t i o) = em_n E from rfl] at this; omega
          · rw [if_neg h0] at hu; cases hu
      · simp [es_upf]
      · simp [es_upf]
      · repeat rw [es_upf _ _ _ _ (by omega)]
    · exact absurd h13 (by rw [hb2]; decide)
theorem rc_co {b : Nat} {E : em_E} {σ σ' : es_S} (hr : rc E b σ) {j : Nat} {o : Option Nat} (hs : ∀ k, b ≤ k → k ≤ b + 7 → k ≠ b + 6 → σ' k = σ k) (h6 : ∀ q, σ' (b + 6) q = if q = j then en o else σ (b + 6) q) : rc (em_co E j o) b σ' := by
  obtain ⟨r0, r1, r2, r3, r4, r5, r6, r7, r8⟩ := hr
  have edl : ∀ q, em_dl (em_co E j o) q = em_dl E q := by
    intro q
    induction q with
    | zero => rfl
    | succ q ih => simp only [em_dl, ih]; rfl
  have g : ∀ q, q ≤ 7 → q ≠ 6 → σ' (b + q) = σ (b + q) := fun q h1 h2 => hs _ (by omega) (by omega) (by omega)
  have g0 : σ' b = σ b := hs b (by omega) (by omega) (by omega)
  refine ⟨by rw [g0]; exact r0, by rw [g0, edl]; exact r1, by rw [g 1 (by omega) (by omega)]; exact r2, fun q hq => by rw [g 2 (by omega) (by omega), edl]; exact r3 q hq, by rw [g 3 (by omega) (by omega)]; exact r4, by rw [g 4 (by omega) (by omega)]; exact r5, by rw [g 5 (by omega) (by omega)]; exact r6, fun q hq => ?_, fun q hq => ?_⟩
  · rw [h6]
    show _ = en (if q = j then o else em_o E q)
    by_cases hqj : q = j
    · rw [if_pos hqj, if_pos hqj]
    · rw [if_neg hqj, if_neg hqj]; exact r7 q hq
  · rw [show em_n (em_co E j o) = em_n E from rfl, edl] at hq
    obtain ⟨t, q1, q2, q3, q4⟩ := r8 q hq
    exact ⟨t, q1, q2, by rw [edl]; exact q3, by rw [g 7 (by omega) (by omega)]; exact q4⟩
theorem c_ED_changeOutput {b : Nat} (hb : sb_ED b) {E : em_E} (hr : rc E b σ) {j : Nat} {o : Option Nat} (hj : j < 3) : ez_Ct l G X_ED_changeOutput [.ref b, .int (nI j), .int (en o)] (es_H σ) (es_Q (es_I fun y σ' => y = en (em_o E j) ∧ rc (em_co E j o) b σ' ∧ ∀ q, (q < b ∨ b + 8 ≤ q) → σ' q = σ q) es_no) := by
  have hb3 : ew (nI j) 3 = true := by rw [show (3 : Int32) = nI 3 from rfl, ew_nI (by omega) (by omega), decide_eq_true hj]
  have hcl : (nI j).toNatClampNeg = j := nI_clamp (by omega)
  refine es_Ct_of (ls := [some (.ref b), some (.int (nI j)), some (.int (en o)), none]) ok_ED_changeOutput rfl (Nat.le_of_ble_eq_true rfl) rfl ?_
  refine ev_aload_n (i := 0) d_ED_changeOutput_0 rfl rfl ?_
  refine ev_iload_n (i := 1) d_ED_changeOutput_1 rfl rfl ?_
  refine es_cVI ls_ED_changeOutput_2 d_ED_changeOutput_2 (sh_ED hb) (c_ED_outputAt hb hr hj) rfl rfl (Nat.le_of_ble_eq_true rfl) (fun x2 σ2 h2 => ?_) (fun _ _ h => h.elim)
  obtain ⟨rfl, e2⟩ := h2
  rw [e2]
  refine ev_istore_n (i := 3) d_ED_changeOutput_5 rfl (by decide) ?_
  dsimp only [List.set_cons_zero, List.set_cons_succ]
  refine ev_iload_n (i := 1) d_ED_changeOutput_6 rfl rfl ?_
  refine ev_iconst (v := 3) d_ED_changeOutput_7 rfl ?_
  refine es_cSI ls_ED_changeOutput_8 d_ED_changeOutput_8 c_EE_isWithin rfl rfl (Nat.le_of_ble_eq_true rfl) (fun x8 σ8 h8 => ?_) (fun _ _ h => h.elim)
  obtain ⟨rfl, e8⟩ := h8
  rw [e8]
  refine ev_if_eq d_ED_changeOutput_11 (fun h11 => ?_) (fun h11 => ?_)
  · exact absurd h11 (by rw [hb3]; decide)
  · refine ev_aload_n (i := 0) d_ED_changeOutput_14 rfl rfl ?_
    refine es_getR d_ED_changeOutput_15 f_ED_27 (sh_ED hb) rfl ?_
    refine ev_iload_n (i := 1) d_ED_changeOutput_18 rfl rfl ?_
    refine ev_iload_n (i := 2) d_ED_changeOutput_19 rfl rfl ?_
    refine es_iast d_ED_changeOutput_20 (sa_ED_outputs hb) (ez_vinN hj (by omega)) ?_
    refine ev_iload_n (i := 3) d_ED_changeOutput_21 rfl rfl ?_
    refine es_iret d_ED_changeOutput_22 rfl ⟨Nat.zero_le _, Nat.zero_le _⟩ ⟨_, rfl, ?_⟩
    refine ⟨rfl, rc_co hr (fun k h1 h2 h3 => es_upf _ _ _ _ h3) (fun q => by rw [es_upx, if_pos rfl, hcl]), fun q hq => es_upf _ _ _ _ (by omega)⟩
theorem em_bt0 {x : Int32} (h : ∀ j, j < 32 → bt x j = false) : x = 0 := b_ext fun i hi => by rw [h i hi, b_0]
theorem lp_ED_liveBlocks_47 {b : Nat} (hb : sb_ED b) {E : em_E} {P : Nat} (hw : em_wf P E) (hr : rc E b σ) {L0 : Int32} {pz : Nat} (h0 : ∀ j, j < 32 → bt L0 j = true → em_lv E j) (hex : ∀ L : Int32, (∀ j, j < 32 → bt L j = true → em_lv E j) → (∀ j, j < 32 → bt L0 j = true → bt L j = true) → (∀ v t, v < em_n E → t < 32 → bt L0 v = true → em_at E v t → bt L t = true) → (L0 = 0 → L = 0) → ez_Ev l G X_ED_liveBlocks 0 0 85 [some (.ref b), some (.int L), none, some (.int (nI pz)), some (.int L0), none] [] (es_H σ) (es_Q (es_I fun y σ' => (∀ j, j < 32 → (bt y j = true ↔ em_lv E j)) ∧ σ' = σ) es_no)) : ∀ (d : Nat) (u : Nat) (L : Int32), em_n E - u = d → (u ≤ em_n E ∧ (∀ j, j < 32 → bt L j = true → em_lv E j) ∧ (∀ j, j < 32 → bt L0 j = true → bt L j = true) ∧ (∀ v t, v < u → t < 32 → bt L0 v = true → em_at E v t → bt L t = true) ∧ (L0 = 0 → L = 0)) → ez_Ev l G X_ED_liveBlocks 0 0 47 [some (.ref b), some (.int L), none, some (.int (nI pz)), some (.int L0), some (.int (nI u))] [] (es_H σ) (es_Q (es_I fun y σ' => (∀ j, j < 32 → (bt y j = true ↔ em_lv E j)) ∧ σ' = σ) es_no) := by
  intro d
  induction d using Nat.strongRecOn with
  | _ d ih =>
    intro u L hm hinv
    obtain ⟨hi, hs, hmo, hc, hz⟩ := hinv
    have hn := hw.1
    have hcl : (nI u).toNatClampNeg = u := nI_clamp (by omega)
    refine ev_iload d_ED_liveBlocks_47 rfl ?_
    refine ev_aload_n (i := 0) d_ED_liveBlocks_49 rfl rfl ?_
    refine es_getI d_ED_liveBlocks_50 f_ED_36 (sh_ED hb) rfl ?_
    refine ev_icmp_ge d_ED_liveBlocks_53 (fun h53 => ?_) (fun h53 => ?_)
    · rw [hr.1, nI_leI (by omega) (by omega)] at h53
      refine ev_mask [true, true, false, true, true, false] rfl (hex L hs hmo (fun v t hv => hc v t (by omega)) hz)
    · rw [hr.1, nI_leI (by omega) (by omega), Nat.not_le] at h53
      refine ev_iload_n (i := 1) d_ED_liveBlocks_56 rfl rfl ?_
      refine ev_iload_n (i := 1) d_ED_liveBlocks_57 rfl rfl ?_
      refine ev_iload d_ED_liveBlocks_58 rfl ?_
      refine es_cSI ls_ED_liveBlocks_60 d_ED_liveBlocks_60 c_EE_holds rfl rfl (Nat.le_of_ble_eq_true rfl) (fun x60 σ60 h60 => ?_) (fun _ _ h => h.elim)
      obtain ⟨rfl, e60⟩ := h60
      rw [e60]
      refine ev_if_eq d_ED_liveBlocks_63 (fun h63 => ?_) (fun h63 => ?_)
      · rw [eh_nI _ (by omega), eb_0] at h63
        refine ev_iconst (v := 0) d_ED_liveBlocks_76 rfl ?_
        refine ev_ior d_ED_liveBlocks_77 ?_
        refine ev_istore_n (i := 1) d_ED_liveBlocks_78 rfl (by decide) ?_
        dsimp only [List.set_cons_zero, List.set_cons_succ]
        refine ev_iinc d_ED_liveBlocks_79 rfl (ez_inc _) (by decide) ?_
        dsimp only [List.set_cons_zero, List.set_cons_succ]
        refine ev_goto d_ED_liveBlocks_82 ?_
        first
          | (refine ih _ (by omega) (u + 1) (L ||| 0) rfl ⟨by omega, fun j hj => ?_, fun j hj h => ?_, fun v t hv ht h1 h2 => ?_, fun h => ?_⟩
             · rw [b_or, b_0, Bool.or_false]; exact hs j hj
             · rw [b_or, b_0, Bool.or_false]; exact hmo j hj h
             · rw [b_or, b_0, Bool.or_false]
               by_cases hvu : v = u
               · subst hvu; have := hmo v (by omega) h1; rw [h63] at this; cases this
               · exact hc v t (by omega) ht h1 h2
             · rw [hz h]; rfl)
          | (have hat : ∀ j, j < 32 → (bt (σ (b + 5) (nI u).toNatClampNeg) j = true ↔ em_at E u j) := fun j hj => by rw [hcl]; exact hr.2.2.2.2.2.2.1 u j (by omega) hj
             refine ih _ (by omega) (u + 1) _ rfl ⟨by omega, fun j hj h => ?_, fun j hj h => ?_, fun v t hv ht h1 h2 => ?_, fun h => ?_⟩
             · rw [b_or, Bool.or_eq_true] at h
               exact h.elim (hs j hj) (fun h => em_lv_in (hs u (by omega) h63) ((hat j hj).mp h))
             · rw [b_or, hmo j hj h, Bool.true_or]
             · rw [b_or, Bool.or_eq_true]
               by_cases hvu : v = u
               · subst hvu; exact Or.inr ((hat t ht).mpr h2)
               · exact Or.inl (hc v t (by omega) ht h1 h2)
             · rw [hz h, b_0] at h63; cases h63)
      · rw [eh_nI _ (by omega), eb_0, Bool.not_eq_false] at h63
        refine ev_aload_n (i := 0) d_ED_liveBlocks_66 rfl rfl ?_
        refine es_getR d_ED_liveBlocks_67 f_ED_24 (sh_ED hb) rfl ?_
        refine ev_iload d_ED_liveBlocks_70 rfl ?_
        refine es_iald d_ED_liveBlocks_72 (sa_ED_neededBlocks hb) (ez_vinN (by omega) (by omega)) ?_
        refine ev_goto d_ED_liveBlocks_73 ?_
        refine ev_ior d_ED_liveBlocks_77 ?_
        refine ev_istore_n (i := 1) d_ED_liveBlocks_78 rfl (by decide) ?_
        dsimp only [List.set_cons_zero, List.set_cons_succ]
        refine ev_iinc d_ED_liveBlocks_79 rfl (ez_inc _) (by decide) ?_
        dsimp only [List.set_cons_zero, List.set_cons_succ]
        refine ev_goto d_ED_liveBlocks_82 ?_
        first
          | (refine ih _ (by omega) (u + 1) (L ||| 0) rfl ⟨by omega, fun j hj => ?_, fun j hj h => ?_, fun v t hv ht h1 h2 => ?_, fun h => ?_⟩
             · rw [b_or, b_0, Bool.or_false]; exact hs j hj
             · rw [b_or, b_0, Bool.or_false]; exact hmo j hj h
             · rw [b_or, b_0, Bool.or_false]
               by_cases hvu : v = u
               · subst hvu; have := hmo v (by omega) h1; rw [h63] at this; cases this
               · exact hc v t (by omega) ht h1 h2
             · rw [hz h]; rfl)
          | (have hat : ∀ j, j < 32 → (bt (σ (b + 5) (nI u).toNatClampNeg) j = true ↔ em_at E u j) := fun j hj => by rw [hcl]; exact hr.2.2.2.2.2.2.1 u j (by omega) hj
             refine ih _ (by omega) (u + 1) _ rfl ⟨by omega, fun j hj h => ?_, fun j hj h => ?_, fun v t hv ht h1 h2 => ?_, fun h => ?_⟩
             · rw [b_or, Bool.or_eq_true] at h
               exact h.elim (hs j hj) (fun h => em_lv_in (hs u (by omega) h63) ((hat j hj).mp h))
             · rw [b_or, hmo j hj h, Bool.true_or]
             · rw [b_or, Bool.or_eq_true]
               by_cases hvu : v = u
               · subst hvu; exact Or.inr ((hat t ht).mpr h2)
               · exact Or.inl (hc v t (by omega) ht h1 h2)
             · rw [hz h, b_0] at h63; cases h63)
theorem lp_ED_liveBlocks_31 {b : Nat} (hb : sb_ED b) {E : em_E} {P : Nat} (hw : em_wf P E) (hr : rc E b σ) : ∀ (d : Nat) (pz : Nat) (L : Int32) (g : Bool), 24 - pz = d → (pz ≤ 24 ∧ (∀ j, j < 32 → bt L j = true → em_lv E j) ∧ (∀ j t, j < 3 → em_o E j = some t → bt L t = true) ∧ (g = false → ∀ v t, bt L v = true → em_at E v t → bt L t = true) ∧ (g = true → pz = 0 ∨ pz + 1 ≤ em_ct (fun j => bt L j = true) (em_n E))) → ez_Ev l G X_ED_liveBlocks 0 0 31 [some (.ref b), some (.int L), some (.int (eb g)), some (.int (nI pz)), none, none] [] (es_H σ) (es_Q (es_I fun y σ' => (∀ j, j < 32 → (bt y j = true ↔ em_lv E j)) ∧ σ' = σ) es_no) := by
  intro d
  induction d using Nat.strongRecOn with
  | _ d ih =>
    intro pz L g hm hinv
    obtain ⟨hi, hs, hbase, hgf, hgc⟩ := hinv
    have hn := hw.1
    have hfin : (∀ v t, bt L v = true → em_at E v t → bt L t = true) → ∀ j, j < 32 → (bt L j = true ↔ em_lv E j) := fun hcl j hj => ⟨hs j hj, fun h => h (fun t => bt L t = true) hbase hcl⟩
    refine ev_iload_n (i := 3) d_ED_liveBlocks_31 rfl rfl ?_
    refine ev_bipush (v := 24) d_ED_liveBlocks_32 rfl ?_
    refine ev_icmp_ge d_ED_liveBlocks_34 (fun h34 => ?_) (fun h34 => ?_)
    · rw [show (24 : Int32) = nI 24 from rfl, nI_leI (by omega) (by omega)] at h34
      refine ev_iload_n (i := 1) d_ED_liveBlocks_103 rfl rfl ?_
      refine es_iret d_ED_liveBlocks_104 rfl ⟨Nat.zero_le _, Nat.zero_le _⟩ ⟨_, rfl, ?_⟩
      refine ⟨hfin ?_, rfl⟩
      first
        | exact hgf h38
        | (cases g with
           | false => exact hgf rfl
           | true =>
             have h9 := em_ct_n (fun j => bt L j = true) (em_n E)
             rcases hgc rfl with h | h <;> omega)
    · rw [show (24 : Int32) = nI 24 from rfl, nI_leI (by omega) (by omega), Nat.not_le] at h34
      refine ev_iload_n (i := 2) d_ED_liveBlocks_37 rfl rfl ?_
      refine ev_if_eq d_ED_liveBlocks_38 (fun h38 => ?_) (fun h38 => ?_)
      · rw [eb_0] at h38
        refine ev_iload_n (i := 1) d_ED_liveBlocks_103 rfl rfl ?_
        refine es_iret d_ED_liveBlocks_104 rfl ⟨Nat.zero_le _, Nat.zero_le _⟩ ⟨_, rfl, ?_⟩
        refine ⟨hfin ?_, rfl⟩
        first
          | exact hgf h38
          | (cases g with
             | false => exact hgf rfl
             | true =>
               have h9 := em_ct_n (fun j => bt L j = true) (em_n E)
               rcases hgc rfl with h | h <;> omega)
      · rw [eb_0] at h38
        refine ev_iload_n (i := 1) d_ED_liveBlocks_41 rfl rfl ?_
        refine ev_istore d_ED_liveBlocks_42 (by decide) ?_
        dsimp only [List.set_cons_zero, List.set_cons_succ]
        refine ev_iconst (v := 0) d_ED_liveBlocks_44 rfl ?_
        refine ev_istore d_ED_liveBlocks_45 (by decide) ?_
        dsimp only [List.set_cons_zero, List.set_cons_succ]
        refine ev_mask [true, true, false, true, true, true] rfl ?_
        refine lp_ED_liveBlocks_47 hb hw hr hs (fun L' hs' hmo' hc' hz' => ?_) _ 0 L rfl ⟨Nat.zero_le _, hs, fun j hj h => h, fun v t hv => by omega, id⟩
        refine ev_iload_n (i := 1) d_ED_liveBlocks_85 rfl rfl ?_
        refine ev_iload d_ED_liveBlocks_86 rfl ?_
        refine ev_icmp_eq d_ED_liveBlocks_88 (fun h88 => ?_) (fun h88 => ?_)
        · refine ev_iconst (v := 0) d_ED_liveBlocks_95 rfl ?_
          refine ev_istore_n (i := 2) d_ED_liveBlocks_96 rfl (by decide) ?_
          dsimp only [List.set_cons_zero, List.set_cons_succ]
          refine ev_iinc d_ED_liveBlocks_97 rfl (ez_inc _) (by decide) ?_
          dsimp only [List.set_cons_zero, List.set_cons_succ]
          refine ev_goto d_ED_liveBlocks_100 ?_
          refine ev_mask [true, true, true, true, false, false] rfl ?_
          first
            | (have hL : L' = L := h88
               refine ih _ (by omega) (pz + 1) L' false rfl ⟨by omega, hs', fun j t hj ho => hmo' t (by have := hw.2.2.2.1 j t ho; omega) (hbase j t hj ho), fun _ v t hv hvt => hc' v t hvt.1 (by obtain ⟨-, i, -, h⟩ := hvt; have := (hw.2.2.1 v i t h).2; omega) (by rw [hL] at hv; exact hv) hvt, fun h => by cases h⟩)
            | (have hne : ¬ L' = L := h88
               refine ih _ (by omega) (pz + 1) L' true rfl ⟨by omega, hs', fun j t hj ho => hmo' t (by have := hw.2.2.2.1 j t ho; omega) (hbase j t hj ho), (fun h => by cases h), fun _ => Or.inr ?_⟩
               obtain ⟨j, hj, hjL⟩ : ∃ j, j < 32 ∧ ¬ (bt L' j = true → bt L j = true) := Classical.byContradiction fun hc => hne (b_ext fun i hi => by
                 have h1 : bt L' i = true → bt L i = true := Classical.byContradiction fun h => hc ⟨i, hi, h⟩
                 have h2 := hmo' i hi
                 cases ha : bt L' i <;> cases hb2 : bt L i <;> simp_all)
               have hj1 : bt L' j = true := Classical.byContradiction fun h => hjL (fun h2 => absurd h2 h)
               have hj2 : ¬ bt L j = true := fun h => hjL (fun _ => h)
               have hjn := em_lv_lt hw (hs' j hj hj1)
               have hlt := em_ct_lt (p := fun j => bt L j = true) (q := fun j => bt L' j = true) (em_n E) (fun x hx h => hmo' x (by omega) h) j hjn hj1 hj2
               rcases hgc (by simpa using h38) with h | h
               · have hL0 : ¬ L = 0 := fun h0 => by rw [hz' h0, b_0] at hj1; cases hj1
                 obtain ⟨q, hq, hqL⟩ : ∃ q, q < 32 ∧ bt L q = true := Classical.byContradiction fun hc => hL0 (em_bt0 fun q hq => by
                   cases hb3 : bt L q
                   · rfl
                   · exact absurd ⟨q, hq, hb3⟩ hc)
                 have := em_ct_pos (p := fun j => bt L j = true) (em_lv_lt hw (hs q hq hqL)) hqL
                 omega
               · omega)
        · refine ev_iconst (v := 1) d_ED_liveBlocks_91 rfl ?_
          refine ev_goto d_ED_liveBlocks_92 ?_
          refine ev_istore_n (i := 2) d_ED_liveBlocks_96 rfl (by decide) ?_
          dsimp only [List.set_cons_zero, List.set_cons_succ]
          refine ev_iinc d_ED_liveBlocks_97 rfl (ez_inc _) (by decide) ?_
          dsimp only [List.set_cons_zero, List.set_cons_succ]
          refine ev_goto d_ED_liveBlocks_100 ?_
          refine ev_mask [true, true, true, true, false, false] rfl ?_
          first
            | (have hL : L' = L := h88
               refine ih _ (by omega) (pz + 1) L' false rfl ⟨by omega, hs', fun j t hj ho => hmo' t (by have := hw.2.2.2.1 j t ho; omega) (hbase j t hj ho), fun _ v t hv hvt => hc' v t hvt.1 (by obtain ⟨-, i, -, h⟩ := hvt; have := (hw.2.2.1 v i t h).2; omega) (by rw [hL] at hv; exact hv) hvt, fun h => by cases h⟩)
            | (have hne : ¬ L' = L := h88
               refine ih _ (by omega) (pz + 1) L' true rfl ⟨by omega, hs', fun j t hj ho => hmo' t (by have := hw.2.2.2.1 j t ho; omega) (hbase j t hj ho), (fun h => by cases h), fun _ => Or.inr ?_⟩
               obtain ⟨j, hj, hjL⟩ : ∃ j, j < 32 ∧ ¬ (bt L' j = true → bt L j = true) := Classical.byContradiction fun hc => hne (b_ext fun i hi => by
                 have h1 : bt L' i = true → bt L i = true := Classical.byContradiction fun h => hc ⟨i, hi, h⟩
                 have h2 := hmo' i hi
                 cases ha : bt L' i <;> cases hb2 : bt L i <;> simp_all)
               have hj1 : bt L' j = true := Classical.byContradiction fun h => hjL (fun h2 => absurd h2 h)
               have hj2 : ¬ bt L j = true := fun h => hjL (fun _ => h)
               have hjn := em_lv_lt hw (hs' j hj hj1)
               have hlt := em_ct_lt (p := fun j => bt L j = true) (q := fun j => bt L' j = true) (em_n E) (fun x hx h => hmo' x (by omega) h) j hjn hj1 hj2
               rcases hgc (by simpa using h38) with h | h
               · have hL0 : ¬ L = 0 := fun h0 => by rw [hz' h0, b_0] at hj1; cases hj1
                 obtain ⟨q, hq, hqL⟩ : ∃ q, q < 32 ∧ bt L q = true := Classical.byContradiction fun hc => hL0 (em_bt0 fun q hq => by
                   cases hb3 : bt L q
                   · rfl
                   · exact absurd ⟨q, hq, hb3⟩ hc)
                 have := em_ct_pos (p := fun j => bt L j = true) (em_lv_lt hw (hs q hq hqL)) hqL
                 omega
               · omega)
theorem lp_ED_liveBlocks_4 {b : Nat} (hb : sb_ED b) {E : em_E} {P : Nat} (hw : em_wf P E) (hr : rc E b σ) : ∀ (d : Nat) (q : Nat) (L : Int32), 3 - q = d → (q ≤ 3 ∧ (∀ j, j < 32 → (bt L j = true ↔ ∃ i, i < q ∧ em_o E i = some j))) → ez_Ev l G X_ED_liveBlocks 0 0 4 [some (.ref b), some (.int L), some (.int (nI q)), none, none, none] [] (es_H σ) (es_Q (es_I fun y σ' => (∀ j, j < 32 → (bt y j = true ↔ em_lv E j)) ∧ σ' = σ) es_no) := by
  intro d
  induction d using Nat.strongRecOn with
  | _ d ih =>
    intro q L hm hinv
    obtain ⟨hi, hL⟩ := hinv
    have hn := hw.1
    have hcl : (nI q).toNatClampNeg = q := nI_clamp (by omega)
    refine ev_iload_n (i := 2) d_ED_liveBlocks_4 rfl rfl ?_
    refine ev_iconst (v := 3) d_ED_liveBlocks_5 rfl ?_
    refine ev_icmp_ge d_ED_liveBlocks_6 (fun h6 => ?_) (fun h6 => ?_)
    · rw [show (3 : Int32) = nI 3 from rfl, nI_leI (by omega) (by omega)] at h6
      refine ev_iconst (v := 1) d_ED_liveBlocks_27 rfl ?_
      refine ev_istore_n (i := 2) d_ED_liveBlocks_28 rfl (by decide) ?_
      dsimp only [List.set_cons_zero, List.set_cons_succ]
      refine ev_iconst (v := 0) d_ED_liveBlocks_29 rfl ?_
      refine ev_istore_n (i := 3) d_ED_liveBlocks_30 rfl (by decide) ?_
      dsimp only [List.set_cons_zero, List.set_cons_succ]
      refine lp_ED_liveBlocks_31 hb hw hr _ 0 L true rfl ⟨Nat.zero_le _, fun j hj h => ?_, fun j t hj ho => ?_, (fun h => by cases h), fun _ => Or.inl rfl⟩
      · obtain ⟨i, h1, h2⟩ := (hL j hj).mp h
        exact em_lv_out (by omega) h2
      · exact (hL t (by have := hw.2.2.2.1 j t ho; omega)).mpr ⟨j, by omega, ho⟩
    · rw [show (3 : Int32) = nI 3 from rfl, nI_leI (by omega) (by omega), Nat.not_le] at h6
      refine ev_iload_n (i := 1) d_ED_liveBlocks_9 rfl rfl ?_
      refine ev_aload_n (i := 0) d_ED_liveBlocks_10 rfl rfl ?_
      refine es_getR d_ED_liveBlocks_11 f_ED_27 (sh_ED hb) rfl ?_
      refine ev_iload_n (i := 2) d_ED_liveBlocks_14 rfl rfl ?_
      refine es_iald d_ED_liveBlocks_15 (sa_ED_outputs hb) (ez_vinN (by omega) (by omega)) ?_
      refine es_cSI ls_ED_liveBlocks_16 d_ED_liveBlocks_16 c_EE_bitOf rfl rfl (Nat.le_of_ble_eq_true rfl) (fun x16 σ16 h16 => ?_) (fun _ _ h => h.elim)
      obtain ⟨rfl, e16⟩ := h16
      rw [e16]
      refine ev_ior d_ED_liveBlocks_19 ?_
      refine ev_istore_n (i := 1) d_ED_liveBlocks_20 rfl (by decide) ?_
      dsimp only [List.set_cons_zero, List.set_cons_succ]
      refine ev_iinc d_ED_liveBlocks_21 rfl (ez_inc _) (by decide) ?_
      dsimp only [List.set_cons_zero, List.set_cons_succ]
      refine ev_goto d_ED_liveBlocks_24 ?_
      refine ih _ (by omega) (q + 1) _ rfl ⟨by omega, fun j hj => ?_⟩
      have hoq : σ (b + 6) q = en (em_o E q) := hr.2.2.2.2.2.2.2.1 q h6
      rw [hcl, hoq, b_or, Bool.or_eq_true, bt_en (fun u hu => by have := hw.2.2.2.1 q u hu; omega) hj, decide_eq_true_eq, hL j hj]
      constructor
      · rintro (⟨i, h1, h2⟩ | h)
        · exact ⟨i, by omega, h2⟩
        · exact ⟨q, by omega, h⟩
      · rintro ⟨i, h1, h2⟩
        by_cases hiq : i = q
        · rw [hiq] at h2; exact Or.inr h2
        · exact Or.inl ⟨i, by omega, h2⟩
theorem c_ED_liveBlocks {b : Nat} (hb : sb_ED b) {E : em_E} {P : Nat} (hw : em_wf P E) (hr : rc E b σ) : ez_Ct l G X_ED_liveBlocks [.ref b] (es_H σ) (es_Q (es_I fun y σ' => (∀ j, j < 32 → (bt y j = true ↔ em_lv E j)) ∧ σ' = σ) es_no) := by
  refine es_Ct_of (ls := [some (.ref b), none, none, none, none, none]) ok_ED_liveBlocks rfl (Nat.le_of_ble_eq_true rfl) rfl ?_
  refine ev_iconst (v := 0) d_ED_liveBlocks_0 rfl ?_
  refine ev_istore_n (i := 1) d_ED_liveBlocks_1 rfl (by decide) ?_
  dsimp only [List.set_cons_zero, List.set_cons_succ]
  refine ev_iconst (v := 0) d_ED_liveBlocks_2 rfl ?_
  refine ev_istore_n (i := 2) d_ED_liveBlocks_3 rfl (by decide) ?_
  dsimp only [List.set_cons_zero, List.set_cons_succ]
  refine lp_ED_liveBlocks_4 hb hw hr _ 0 0 rfl ⟨Nat.zero_le _, fun j hj => ?_⟩
  rw [b_0]
  constructor
  · intro h; cases h
  · rintro ⟨i, h1, -⟩; omega
theorem lp_ED_idleAt_10 {b : Nat} (hb : sb_ED b) {E : em_E} {P : Nat} (hw : em_wf P E) (hr : rc E b σ) {k : Nat} (hk : k < 2 ^ 31) {L : Int32} (hL : ∀ j, j < 32 → (bt L j = true ↔ em_lv E j)) : ∀ (d : Nat) (t : Nat), em_n E - t = d → (t ≤ em_n E ∧ ∀ u, u < t → ¬ (¬ em_lv E u ∧ em_ct (fun t => ¬ em_lv E t) u = k)) → ez_Ev l G X_ED_idleAt 0 0 10 [some (.ref b), some (.int (nI k)), some (.int L), some (.int (nI (em_ct (fun t => ¬ em_lv E t) t))), some (.int (nI t))] [] (es_H σ) (es_Q (es_I fun y σ' => y = en (em_nth (fun t => ¬ em_lv E t) (em_n E) k) ∧ σ' = σ) es_no) := by
  intro d
  induction d using Nat.strongRecOn with
  | _ d ih =>
    intro t hm hinv
    obtain ⟨hi, hno⟩ := hinv
    have hn := hw.1
    have hct := em_ct_n (fun t => ¬ em_lv E t) t
    have hsu := em_ct_succ (fun t => ¬ em_lv E t) t
    refine ev_iload d_ED_idleAt_10 rfl ?_
    refine ev_aload_n (i := 0) d_ED_idleAt_12 rfl rfl ?_
    refine es_getI d_ED_idleAt_13 f_ED_36 (sh_ED hb) rfl ?_
    refine ev_icmp_ge d_ED_idleAt_16 (fun h16 => ?_) (fun h16 => ?_)
    · rw [hr.1, nI_leI (by omega) (by omega)] at h16
      refine ev_iconst (v := (-1)) d_ED_idleAt_45 rfl ?_
      refine es_iret d_ED_idleAt_46 rfl ⟨Nat.zero_le _, Nat.zero_le _⟩ ⟨_, rfl, ?_⟩
      refine ⟨?_, rfl⟩
      unfold em_nth
      rw [em_fst_none (fun u hu => hno u (by omega))]
      rfl
    · rw [hr.1, nI_leI (by omega) (by omega), Nat.not_le] at h16
      refine ev_iload_n (i := 2) d_ED_idleAt_19 rfl rfl ?_
      refine ev_iload d_ED_idleAt_20 rfl ?_
      refine es_cSI ls_ED_idleAt_22 d_ED_idleAt_22 c_EE_holds rfl rfl (Nat.le_of_ble_eq_true rfl) (fun x22 σ22 h22 => ?_) (fun _ _ h => h.elim)
      obtain ⟨rfl, e22⟩ := h22
      rw [e22]
      refine ev_if_ne d_ED_idleAt_25 (fun h25 => ?_) (fun h25 => ?_)
      · rw [eh_nI _ (by omega), eb_0, Bool.not_eq_false] at h25
        have hlv := (hL t (by omega)).mp h25
        refine ev_iinc d_ED_idleAt_39 rfl (ez_inc _) (by decide) ?_
        dsimp only [List.set_cons_zero, List.set_cons_succ]
        refine ev_goto d_ED_idleAt_42 ?_
        first
          | (rw [← hsu.1 hlv]
             refine ih _ (by omega) (t + 1) rfl ⟨by omega, fun u hu => ?_⟩
             by_cases hut : u = t
             · rw [hut]; exact fun h => h30 h.2
             · exact hno u (by omega))
          | (rw [← hsu.2 (fun h => h hlv)]
             refine ih _ (by omega) (t + 1) rfl ⟨by omega, fun u hu => ?_⟩
             by_cases hut : u = t
             · rw [hut]; exact fun h => h.1 hlv
             · exact hno u (by omega))
      · rw [eh_nI _ (by omega), eb_0] at h25
        have hlv : ¬ em_lv E t := fun h => by have := (hL t (by omega)).mpr h; rw [h25] at this; cases this
        refine ev_iload_n (i := 3) d_ED_idleAt_28 rfl rfl ?_
        refine ev_iload_n (i := 1) d_ED_idleAt_29 rfl rfl ?_
        refine ev_icmp_ne d_ED_idleAt_30 (fun h30 => ?_) (fun h30 => ?_)
        · rw [nI_eq (by omega) (by omega)] at h30
          refine ev_iinc d_ED_idleAt_36 rfl (ez_inc _) (by decide) ?_
          dsimp only [List.set_cons_zero, List.set_cons_succ]
          refine ev_iinc d_ED_idleAt_39 rfl (ez_inc _) (by decide) ?_
          dsimp only [List.set_cons_zero, List.set_cons_succ]
          refine ev_goto d_ED_idleAt_42 ?_
          first
            | (rw [← hsu.1 hlv]
               refine ih _ (by omega) (t + 1) rfl ⟨by omega, fun u hu => ?_⟩
               by_cases hut : u = t
               · rw [hut]; exact fun h => h30 h.2
               · exact hno u (by omega))
            | (rw [← hsu.2 (fun h => h hlv)]
               refine ih _ (by omega) (t + 1) rfl ⟨by omega, fun u hu => ?_⟩
               by_cases hut : u = t
               · rw [hut]; exact fun h => h.1 hlv
               · exact hno u (by omega))
        · rw [nI_eq (by omega) (by omega)] at h30
          refine ev_iload d_ED_idleAt_33 rfl ?_
          refine es_iret d_ED_idleAt_35 rfl ⟨Nat.zero_le _, Nat.zero_le _⟩ ⟨_, rfl, ?_⟩
          refine ⟨?_, rfl⟩
          unfold em_nth
          rw [em_fst_some (p := fun t => ¬ em_lv E t ∧ em_ct (fun t => ¬ em_lv E t) t = k) ⟨hlv, h30⟩ hno h16]
          rfl
theorem c_ED_idleAt {b : Nat} (hb : sb_ED b) {E : em_E} {P : Nat} (hw : em_wf P E) (hr : rc E b σ) {k : Nat} (hk : k < 2 ^ 31) : ez_Ct l G X_ED_idleAt [.ref b, .int (nI k)] (es_H σ) (es_Q (es_I fun y σ' => y = en (em_nth (fun t => ¬ em_lv E t) (em_n E) k) ∧ σ' = σ) es_no) := by
  refine es_Ct_of (ls := [some (.ref b), some (.int (nI k)), none, none, none]) ok_ED_idleAt rfl (Nat.le_of_ble_eq_true rfl) rfl ?_
  refine ev_aload_n (i := 0) d_ED_idleAt_0 rfl rfl ?_
  refine es_cVI ls_ED_idleAt_1 d_ED_idleAt_1 (sh_ED hb) (c_ED_liveBlocks hb hw hr) rfl rfl (Nat.le_of_ble_eq_true rfl) (fun x1 σ1 h1 => ?_) (fun _ _ h => h.elim)
  obtain ⟨hL, e1⟩ := h1
  rw [e1]
  refine ev_istore_n (i := 2) d_ED_idleAt_4 rfl (by decide) ?_
  dsimp only [List.set_cons_zero, List.set_cons_succ]
  refine ev_iconst (v := 0) d_ED_idleAt_5 rfl ?_
  refine ev_istore_n (i := 3) d_ED_idleAt_6 rfl (by decide) ?_
  dsimp only [List.set_cons_zero, List.set_cons_succ]
  refine ev_iconst (v := 0) d_ED_idleAt_7 rfl ?_
  refine ev_istore d_ED_idleAt_8 (by decide) ?_
  dsimp only [List.set_cons_zero, List.set_cons_succ]
  exact lp_ED_idleAt_10 hb hw hr hk hL _ 0 rfl ⟨Nat.zero_le _, fun u hu => by omega⟩
end
