/-! ===== leaves ===== -/
section Leaves
variable {l : Launch} {G : ez_G} {σ : es_S}
theorem c_EE_isWithin {a n : Int32} : ez_Ct l G X_EE_isWithin [.int a, .int n] (es_H σ) (es_Q (es_I fun y σ' => y = eb (ew a n) ∧ σ' = σ) es_no) := by
  refine es_Ct_of (ls := [some (.int a), some (.int n)]) ok_EE_isWithin rfl (Nat.le_of_ble_eq_true rfl) rfl ?_
  refine ev_iload_n (i := 0) d_EE_isWithin_0 rfl rfl ?_
  refine ev_if_lt d_EE_isWithin_1 (fun h1 => ?_) (fun h1 => ?_)
  · refine ev_iconst (v := 0) d_EE_isWithin_13 rfl ?_
    refine es_zret d_EE_isWithin_14 rfl rfl ⟨Nat.zero_le _, Nat.zero_le _⟩ ⟨_, rfl, ?_⟩
    refine ⟨?_, rfl⟩
    simp [eb, ew, *]
  · refine ev_iload_n (i := 0) d_EE_isWithin_4 rfl rfl ?_
    refine ev_iload_n (i := 1) d_EE_isWithin_5 rfl rfl ?_
    refine ev_icmp_ge d_EE_isWithin_6 (fun h6 => ?_) (fun h6 => ?_)
    · refine ev_iconst (v := 0) d_EE_isWithin_13 rfl ?_
      refine es_zret d_EE_isWithin_14 rfl rfl ⟨Nat.zero_le _, Nat.zero_le _⟩ ⟨_, rfl, ?_⟩
      refine ⟨?_, rfl⟩
      simp [eb, ew, *]
    · refine ev_iconst (v := 1) d_EE_isWithin_9 rfl ?_
      refine ev_goto d_EE_isWithin_10 ?_
      refine es_zret d_EE_isWithin_14 rfl rfl ⟨Nat.zero_le _, Nat.zero_le _⟩ ⟨_, rfl, ?_⟩
      refine ⟨?_, rfl⟩
      simp [eb, ew, *]
theorem c_EE_bitOf {a : Int32} : ez_Ct l G X_EE_bitOf [.int a] (es_H σ) (es_Q (es_I fun y σ' => y = eo a ∧ σ' = σ) es_no) := by
  refine es_Ct_of (ls := [some (.int a)]) ok_EE_bitOf rfl (Nat.le_of_ble_eq_true rfl) rfl ?_
  refine ev_iload_n (i := 0) d_EE_bitOf_0 rfl rfl ?_
  refine ev_if_lt d_EE_bitOf_1 (fun h1 => ?_) (fun h1 => ?_)
  · refine ev_iconst (v := 0) d_EE_bitOf_16 rfl ?_
    refine es_iret d_EE_bitOf_17 rfl ⟨Nat.zero_le _, Nat.zero_le _⟩ ⟨_, rfl, ?_⟩
    refine ⟨?_, rfl⟩
    simp [eo, ew, *]
  · refine ev_iload_n (i := 0) d_EE_bitOf_4 rfl rfl ?_
    refine ev_bipush (v := 32) d_EE_bitOf_5 rfl ?_
    refine ev_icmp_ge d_EE_bitOf_7 (fun h7 => ?_) (fun h7 => ?_)
    · refine ev_iconst (v := 0) d_EE_bitOf_16 rfl ?_
      refine es_iret d_EE_bitOf_17 rfl ⟨Nat.zero_le _, Nat.zero_le _⟩ ⟨_, rfl, ?_⟩
      refine ⟨?_, rfl⟩
      simp [eo, ew, *]
    · refine ev_iconst (v := 1) d_EE_bitOf_10 rfl ?_
      refine ev_iload_n (i := 0) d_EE_bitOf_11 rfl rfl ?_
      refine ev_ishl d_EE_bitOf_12 ?_
      refine ev_goto d_EE_bitOf_13 ?_
      refine es_iret d_EE_bitOf_17 rfl ⟨Nat.zero_le _, Nat.zero_le _⟩ ⟨_, rfl, ?_⟩
      refine ⟨?_, rfl⟩
      simp [eo, ew, *]
theorem c_EE_holds {s a : Int32} : ez_Ct l G X_EE_holds [.int s, .int a] (es_H σ) (es_Q (es_I fun y σ' => y = eb (eh s a) ∧ σ' = σ) es_no) := by
  refine es_Ct_of (ls := [some (.int s), some (.int a)]) ok_EE_holds rfl (Nat.le_of_ble_eq_true rfl) rfl ?_
  refine ev_iload_n (i := 1) d_EE_holds_0 rfl rfl ?_
  refine ev_if_lt d_EE_holds_1 (fun h1 => ?_) (fun h1 => ?_)
  · refine ev_iconst (v := 0) d_EE_holds_22 rfl ?_
    refine es_zret d_EE_holds_23 rfl rfl ⟨Nat.zero_le _, Nat.zero_le _⟩ ⟨_, rfl, ?_⟩
    refine ⟨?_, rfl⟩
    simp [eb, eh, ew, *]
  · refine ev_iload_n (i := 1) d_EE_holds_4 rfl rfl ?_
    refine ev_bipush (v := 32) d_EE_holds_5 rfl ?_
    refine ev_icmp_ge d_EE_holds_7 (fun h7 => ?_) (fun h7 => ?_)
    · refine ev_iconst (v := 0) d_EE_holds_22 rfl ?_
      refine es_zret d_EE_holds_23 rfl rfl ⟨Nat.zero_le _, Nat.zero_le _⟩ ⟨_, rfl, ?_⟩
      refine ⟨?_, rfl⟩
      simp [eb, eh, ew, *]
    · refine ev_iload_n (i := 0) d_EE_holds_10 rfl rfl ?_
      refine ev_iload_n (i := 1) d_EE_holds_11 rfl rfl ?_
      refine ev_iushr d_EE_holds_12 ?_
      refine ev_iconst (v := 1) d_EE_holds_13 rfl ?_
      refine ev_iand d_EE_holds_14 ?_
      refine ev_if_eq d_EE_holds_15 (fun h15 => ?_) (fun h15 => ?_)
      · refine ev_iconst (v := 0) d_EE_holds_22 rfl ?_
        refine es_zret d_EE_holds_23 rfl rfl ⟨Nat.zero_le _, Nat.zero_le _⟩ ⟨_, rfl, ?_⟩
        refine ⟨?_, rfl⟩
        simp [eb, eh, ew, *]
      · refine ev_iconst (v := 1) d_EE_holds_18 rfl ?_
        refine ev_goto d_EE_holds_19 ?_
        refine es_zret d_EE_holds_23 rfl rfl ⟨Nat.zero_le _, Nat.zero_le _⟩ ⟨_, rfl, ?_⟩
        refine ⟨?_, rfl⟩
        simp [eb, eh, ew, *]
theorem c_ED_hasBlock {b : Nat} (hb : sb_ED b) {x : Int32} : ez_Ct l G X_ED_hasBlock [.ref b, .int x] (es_H σ) (es_Q (es_I fun y σ' => y = eb (ew x (σ b 8)) ∧ σ' = σ) es_no) := by
  refine es_Ct_of (ls := [some (.ref b), some (.int x)]) ok_ED_hasBlock rfl (Nat.le_of_ble_eq_true rfl) rfl ?_
  refine ev_iload_n (i := 1) d_ED_hasBlock_0 rfl rfl ?_
  refine ev_if_lt d_ED_hasBlock_1 (fun h1 => ?_) (fun h1 => ?_)
  · refine ev_iconst (v := 0) d_ED_hasBlock_16 rfl ?_
    refine es_zret d_ED_hasBlock_17 rfl rfl ⟨Nat.zero_le _, Nat.zero_le _⟩ ⟨_, rfl, ?_⟩
    refine ⟨?_, rfl⟩
    simp [eb, ew, *]
  · refine ev_iload_n (i := 1) d_ED_hasBlock_4 rfl rfl ?_
    refine ev_aload_n (i := 0) d_ED_hasBlock_5 rfl rfl ?_
    refine es_getI d_ED_hasBlock_6 f_ED_36 (sh_ED hb) rfl ?_
    refine ev_icmp_ge d_ED_hasBlock_9 (fun h9 => ?_) (fun h9 => ?_)
    · refine ev_iconst (v := 0) d_ED_hasBlock_16 rfl ?_
      refine es_zret d_ED_hasBlock_17 rfl rfl ⟨Nat.zero_le _, Nat.zero_le _⟩ ⟨_, rfl, ?_⟩
      refine ⟨?_, rfl⟩
      simp [eb, ew, *]
    · refine ev_iconst (v := 1) d_ED_hasBlock_12 rfl ?_
      refine ev_goto d_ED_hasBlock_13 ?_
      refine es_zret d_ED_hasBlock_17 rfl rfl ⟨Nat.zero_le _, Nat.zero_le _⟩ ⟨_, rfl, ?_⟩
      refine ⟨?_, rfl⟩
      simp [eb, ew, *]
theorem c_ED_countBlocks {b : Nat} (hb : sb_ED b) : ez_Ct l G X_ED_countBlocks [.ref b] (es_H σ) (es_Q (es_I fun y σ' => y = σ b 8 ∧ σ' = σ) es_no) := by
  refine es_Ct_of (ls := [some (.ref b)]) ok_ED_countBlocks rfl (Nat.le_of_ble_eq_true rfl) rfl ?_
  refine ev_aload_n (i := 0) d_ED_countBlocks_0 rfl rfl ?_
  refine es_getI d_ED_countBlocks_1 f_ED_36 (sh_ED hb) rfl ?_
  refine es_iret d_ED_countBlocks_4 rfl ⟨Nat.zero_le _, Nat.zero_le _⟩ ⟨_, rfl, ?_⟩
  exact ⟨rfl, rfl⟩
theorem c_ED_countDelays {b : Nat} (hb : sb_ED b) : ez_Ct l G X_ED_countDelays [.ref b] (es_H σ) (es_Q (es_I fun y σ' => y = σ b 9 ∧ σ' = σ) es_no) := by
  refine es_Ct_of (ls := [some (.ref b)]) ok_ED_countDelays rfl (Nat.le_of_ble_eq_true rfl) rfl ?_
  refine ev_aload_n (i := 0) d_ED_countDelays_0 rfl rfl ?_
  refine es_getI d_ED_countDelays_1 f_ED_40 (sh_ED hb) rfl ?_
  refine es_iret d_ED_countDelays_4 rfl ⟨Nat.zero_le _, Nat.zero_le _⟩ ⟨_, rfl, ?_⟩
  exact ⟨rfl, rfl⟩
theorem c_ED_hasBlockOrNone {b : Nat} (hb : sb_ED b) {x : Int32} : ez_Ct l G X_ED_hasBlockOrNone [.ref b, .int x] (es_H σ) (es_Q (es_I fun y σ' => y = eb (decide (x = -1) || ew x (σ b 8)) ∧ σ' = σ) es_no) := by
  refine es_Ct_of (ls := [some (.ref b), some (.int x)]) ok_ED_hasBlockOrNone rfl (Nat.le_of_ble_eq_true rfl) rfl ?_
  refine ev_iload_n (i := 1) d_ED_hasBlockOrNone_0 rfl rfl ?_
  refine ev_iconst (v := (-1)) d_ED_hasBlockOrNone_1 rfl ?_
  refine ev_icmp_eq d_ED_hasBlockOrNone_2 (fun h2 => ?_) (fun h2 => ?_)
  · refine ev_iconst (v := 1) d_ED_hasBlockOrNone_13 rfl ?_
    refine ev_goto d_ED_hasBlockOrNone_14 ?_
    refine es_zret d_ED_hasBlockOrNone_18 rfl rfl ⟨Nat.zero_le _, Nat.zero_le _⟩ ⟨_, rfl, ?_⟩
    refine ⟨?_, rfl⟩
    simp_all [eb_0, eb]
  · refine ev_aload_n (i := 0) d_ED_hasBlockOrNone_5 rfl rfl ?_
    refine ev_iload_n (i := 1) d_ED_hasBlockOrNone_6 rfl rfl ?_
    refine es_cVI ls_ED_hasBlockOrNone_7 d_ED_hasBlockOrNone_7 (sh_ED hb) (c_ED_hasBlock hb) rfl rfl (Nat.le_of_ble_eq_true rfl) (fun x7 σ7 h7 => ?_) (fun _ _ h => h.elim)
    obtain ⟨rfl, rfl⟩ := h7
    refine ev_if_eq d_ED_hasBlockOrNone_10 (fun h10 => ?_) (fun h10 => ?_)
    · refine ev_iconst (v := 0) d_ED_hasBlockOrNone_17 rfl ?_
      refine es_zret d_ED_hasBlockOrNone_18 rfl rfl ⟨Nat.zero_le _, Nat.zero_le _⟩ ⟨_, rfl, ?_⟩
      refine ⟨?_, rfl⟩
      simp_all [eb_0, eb]
    · refine ev_iconst (v := 1) d_ED_hasBlockOrNone_13 rfl ?_
      refine ev_goto d_ED_hasBlockOrNone_14 ?_
      refine es_zret d_ED_hasBlockOrNone_18 rfl rfl ⟨Nat.zero_le _, Nat.zero_le _⟩ ⟨_, rfl, ?_⟩
      refine ⟨?_, rfl⟩
      simp_all [eb_0, eb]
theorem c_ED_kindOf {b : Nat} (hb : sb_ED b) {E : em_E} {P : Nat} (hw : em_wf P E) (hr : rc E b σ) {t : Nat} (ht : t < em_n E) : ez_Ct l G X_ED_kindOf [.ref b, .int (nI t)] (es_H σ) (es_Q (es_I fun y σ' => y = nI (em_k E t) ∧ σ' = σ) es_no) := by
  have hn := hw.1
  have h24 : t < 24 := Nat.lt_of_lt_of_le ht hn
  have hbt : ew (nI t) (σ b 8) = true := by rw [hr.1, ew_nI (by omega) (by omega), decide_eq_true ht]
  have hcl : (nI t).toNatClampNeg = t := nI_clamp (by omega)
  refine es_Ct_of (ls := [some (.ref b), some (.int (nI t))]) ok_ED_kindOf rfl (Nat.le_of_ble_eq_true rfl) rfl ?_
  refine ev_aload_n (i := 0) d_ED_kindOf_0 rfl rfl ?_
  refine ev_iload_n (i := 1) d_ED_kindOf_1 rfl rfl ?_
  refine es_cVI ls_ED_kindOf_2 d_ED_kindOf_2 (sh_ED hb) (c_ED_hasBlock hb) rfl rfl (Nat.le_of_ble_eq_true rfl) (fun x2 σ2 h2 => ?_) (fun _ _ h => h.elim)
  obtain ⟨rfl, rfl⟩ := h2
  refine ev_if_eq d_ED_kindOf_5 (fun h5 => ?_) (fun h5 => ?_)
  · exact absurd h5 (by rw [hbt]; decide)
  · refine ev_aload_n (i := 0) d_ED_kindOf_8 rfl rfl ?_
    refine es_getR d_ED_kindOf_9 f_ED_9 (sh_ED hb) rfl ?_
    refine ev_iload_n (i := 1) d_ED_kindOf_12 rfl rfl ?_
    refine es_iald d_ED_kindOf_13 (sa_ED_kinds hb) (ez_vinN h24 (by omega)) ?_
    refine ev_goto d_ED_kindOf_14 ?_
    refine es_iret d_ED_kindOf_18 rfl ⟨Nat.zero_le _, Nat.zero_le _⟩ ⟨_, rfl, ?_⟩
    refine ⟨?_, rfl⟩
    rw [hcl]
    exact hr.2.2.1 t ht
theorem c_ED_numberOf {b : Nat} (hb : sb_ED b) {E : em_E} {P : Nat} (hw : em_wf P E) (hr : rc E b σ) {t : Nat} (ht : t < em_n E) : ez_Ct l G X_ED_numberOf [.ref b, .int (nI t)] (es_H σ) (es_Q (es_I fun y σ' => y = (if em_k E t = 6 then nI (em_dl E t) else em_m E t) ∧ σ' = σ) es_no) := by
  have hn := hw.1
  have h24 : t < 24 := Nat.lt_of_lt_of_le ht hn
  have hbt : ew (nI t) (σ b 8) = true := by rw [hr.1, ew_nI (by omega) (by omega), decide_eq_true ht]
  have hcl : (nI t).toNatClampNeg = t := nI_clamp (by omega)
  refine es_Ct_of (ls := [some (.ref b), some (.int (nI t))]) ok_ED_numberOf rfl (Nat.le_of_ble_eq_true rfl) rfl ?_
  refine ev_aload_n (i := 0) d_ED_numberOf_0 rfl rfl ?_
  refine ev_iload_n (i := 1) d_ED_numberOf_1 rfl rfl ?_
  refine es_cVI ls_ED_numberOf_2 d_ED_numberOf_2 (sh_ED hb) (c_ED_hasBlock hb) rfl rfl (Nat.le_of_ble_eq_true rfl) (fun x2 σ2 h2 => ?_) (fun _ _ h => h.elim)
  obtain ⟨rfl, rfl⟩ := h2
  refine ev_if_eq d_ED_numberOf_5 (fun h5 => ?_) (fun h5 => ?_)
  · exact absurd h5 (by rw [hbt]; decide)
  · refine ev_aload_n (i := 0) d_ED_numberOf_8 rfl rfl ?_
    refine es_getR d_ED_numberOf_9 f_ED_15 (sh_ED hb) rfl ?_
    refine ev_iload_n (i := 1) d_ED_numberOf_12 rfl rfl ?_
    refine es_iald d_ED_numberOf_13 (sa_ED_numbers hb) (ez_vinN h24 (by omega)) ?_
    refine ev_goto d_ED_numberOf_14 ?_
    refine es_iret d_ED_numberOf_18 rfl ⟨Nat.zero_le _, Nat.zero_le _⟩ ⟨_, rfl, ?_⟩
    refine ⟨?_, rfl⟩
    rw [hcl]
    exact hr.2.2.2.1 t ht
theorem c_ED_outputAt {b : Nat} (hb : sb_ED b) {E : em_E} (hr : rc E b σ) {j : Nat} (hj : j < 3) : ez_Ct l G X_ED_outputAt [.ref b, .int (nI j)] (es_H σ) (es_Q (es_I fun y σ' => y = en (em_o E j) ∧ σ' = σ) es_no) := by
  have hbt : ew (nI j) 3 = true := by rw [show (3 : Int32) = nI 3 from rfl, ew_nI (by omega) (by omega), decide_eq_true hj]
  have hcl : (nI j).toNatClampNeg = j := nI_clamp (by omega)
  refine es_Ct_of (ls := [some (.ref b), some (.int (nI j))]) ok_ED_outputAt rfl (Nat.le_of_ble_eq_true rfl) rfl ?_
  refine ev_iload_n (i := 1) d_ED_outputAt_0 rfl rfl ?_
  refine ev_iconst (v := 3) d_ED_outputAt_1 rfl ?_
  refine es_cSI ls_ED_outputAt_2 d_ED_outputAt_2 c_EE_isWithin rfl rfl (Nat.le_of_ble_eq_true rfl) (fun x2 σ2 h2 => ?_) (fun _ _ h => h.elim)
  obtain ⟨rfl, rfl⟩ := h2
  refine ev_if_eq d_ED_outputAt_5 (fun h5 => ?_) (fun h5 => ?_)
  · exact absurd h5 (by rw [hbt]; decide)
  · refine ev_aload_n (i := 0) d_ED_outputAt_8 rfl rfl ?_
    refine es_getR d_ED_outputAt_9 f_ED_27 (sh_ED hb) rfl ?_
    refine ev_iload_n (i := 1) d_ED_outputAt_12 rfl rfl ?_
    refine es_iald d_ED_outputAt_13 (sa_ED_outputs hb) (ez_vinN hj (by omega)) ?_
    refine ev_goto d_ED_outputAt_14 ?_
    refine es_iret d_ED_outputAt_18 rfl ⟨Nat.zero_le _, Nat.zero_le _⟩ ⟨_, rfl, ?_⟩
    refine ⟨?_, rfl⟩
    rw [hcl]
    exact hr.2.2.2.2.2.2.2.1 j hj
theorem c_ED_delayAt {b : Nat} (hb : sb_ED b) {E : em_E} {P : Nat} (hw : em_wf P E) (hr : rc E b σ) {j : Nat} (hj : j < em_dl E (em_n E)) : ez_Ct l G X_ED_delayAt [.ref b, .int (nI j)] (es_H σ) (es_Q (es_I fun y σ' => y = σ (b + 7) j ∧ σ' = σ) es_no) := by
  have h5 : em_dl E (em_n E) ≤ 5 := hw.2.2.2.2.2.2
  have hbt : ew (nI j) (σ b 9) = true := by rw [hr.2.1, ew_nI (by omega) (by omega), decide_eq_true hj]
  have hcl : (nI j).toNatClampNeg = j := nI_clamp (by omega)
  refine es_Ct_of (ls := [some (.ref b), some (.int (nI j))]) ok_ED_delayAt rfl (Nat.le_of_ble_eq_true rfl) rfl ?_
  refine ev_iload_n (i := 1) d_ED_delayAt_0 rfl rfl ?_
  refine ev_aload_n (i := 0) d_ED_delayAt_1 rfl rfl ?_
  refine es_getI d_ED_delayAt_2 f_ED_40 (sh_ED hb) rfl ?_
  refine es_cSI ls_ED_delayAt_5 d_ED_delayAt_5 c_EE_isWithin rfl rfl (Nat.le_of_ble_eq_true rfl) (fun x5 σ5 h5 => ?_) (fun _ _ h => h.elim)
  obtain ⟨rfl, rfl⟩ := h5
  refine ev_if_eq d_ED_delayAt_8 (fun h8 => ?_) (fun h8 => ?_)
  · exact absurd h8 (by rw [hbt]; decide)
  · refine ev_aload_n (i := 0) d_ED_delayAt_11 rfl rfl ?_
    refine es_getR d_ED_delayAt_12 f_ED_30 (sh_ED hb) rfl ?_
    refine ev_iload_n (i := 1) d_ED_delayAt_15 rfl rfl ?_
    refine es_iald d_ED_delayAt_16 (sa_ED_delays hb) (ez_vinN (by omega) (by omega)) ?_
    refine ev_goto d_ED_delayAt_17 ?_
    refine es_iret d_ED_delayAt_21 rfl ⟨Nat.zero_le _, Nat.zero_le _⟩ ⟨_, rfl, ?_⟩
    refine ⟨?_, rfl⟩
    rw [hcl]
theorem c_ED_neededInTick {b : Nat} (hb : sb_ED b) {E : em_E} {P : Nat} (hw : em_wf P E) (hr : rc E b σ) {t : Nat} (ht : t < em_n E) : ez_Ct l G X_ED_neededInTick [.ref b, .int (nI t)] (es_H σ) (es_Q (es_I fun y σ' => y = (if em_k E t = 6 then 0 else σ (b + 5) t) ∧ σ' = σ) es_no) := by
  have hn := hw.1
  have h24 : t < 24 := Nat.lt_of_lt_of_le ht hn
  have hbt : ew (nI t) (σ b 8) = true := by rw [hr.1, ew_nI (by omega) (by omega), decide_eq_true ht]
  have hcl : (nI t).toNatClampNeg = t := nI_clamp (by omega)
  have hk6 : em_k E t ≤ 6 := hw.2.1 t ht
  have hkk : σ (b + 1) t = nI (em_k E t) := hr.2.2.1 t ht
  have h6 : (6 : Int32) = nI 6 := rfl
  refine es_Ct_of (ls := [some (.ref b), some (.int (nI t))]) ok_ED_neededInTick rfl (Nat.le_of_ble_eq_true rfl) rfl ?_
  refine ev_aload_n (i := 0) d_ED_neededInTick_0 rfl rfl ?_
  refine ev_iload_n (i := 1) d_ED_neededInTick_1 rfl rfl ?_
  refine es_cVI ls_ED_neededInTick_2 d_ED_neededInTick_2 (sh_ED hb) (c_ED_hasBlock hb) rfl rfl (Nat.le_of_ble_eq_true rfl) (fun x2 σ2 h2 => ?_) (fun _ _ h => h.elim)
  obtain ⟨rfl, rfl⟩ := h2
  refine ev_if_eq d_ED_neededInTick_5 (fun h5 => ?_) (fun h5 => ?_)
  · exact absurd h5 (by rw [hbt]; decide)
  · refine ev_aload_n (i := 0) d_ED_neededInTick_8 rfl rfl ?_
    refine es_getR d_ED_neededInTick_9 f_ED_9 (sh_ED hb) rfl ?_
    refine ev_iload_n (i := 1) d_ED_neededInTick_12 rfl rfl ?_
    refine es_iald d_ED_neededInTick_13 (sa_ED_kinds hb) (ez_vinN h24 (by omega)) ?_
    refine ev_bipush (v := 6) d_ED_neededInTick_14 rfl ?_
    refine ev_icmp_eq d_ED_neededInTick_16 (fun h16 => ?_) (fun h16 => ?_)
    · rw [hcl, hkk, h6, nI_eq (by omega) (by omega)] at h16
      refine ev_iconst (v := 0) d_ED_neededInTick_28 rfl ?_
      refine es_iret d_ED_neededInTick_29 rfl ⟨Nat.zero_le _, Nat.zero_le _⟩ ⟨_, rfl, ?_⟩
      refine ⟨?_, rfl⟩
      simp [hcl, h16]
    · rw [hcl, hkk, h6, nI_eq (by omega) (by omega)] at h16
      refine ev_aload_n (i := 0) d_ED_neededInTick_19 rfl rfl ?_
      refine es_getR d_ED_neededInTick_20 f_ED_24 (sh_ED hb) rfl ?_
      refine ev_iload_n (i := 1) d_ED_neededInTick_23 rfl rfl ?_
      refine es_iald d_ED_neededInTick_24 (sa_ED_neededBlocks hb) (ez_vinN h24 (by omega)) ?_
      refine ev_goto d_ED_neededInTick_25 ?_
      refine es_iret d_ED_neededInTick_29 rfl ⟨Nat.zero_le _, Nat.zero_le _⟩ ⟨_, rfl, ?_⟩
      refine ⟨?_, rfl⟩
      simp [hcl, h16]
theorem c_ED_neededAtW {b : Nat} (hb : sb_ED b) {E : em_E} {P : Nat} (hw : em_wf P E) {t i : Nat} (h8 : σ b 8 = nI (em_n E)) (hnd : σ (b + 3) t = nI (em_nd (em_k E t))) (hww : σ (b + 4) (t * 2 + i) = en (em_w E t i)) (ht : t < em_n E) (hi : i < 2) : ez_Ct l G X_ED_neededAt [.ref b, .int (nI t), .int (nI i)] (es_H σ) (es_Q (es_I fun y σ' => y = en (if i < em_nd (em_k E t) then em_w E t i else none) ∧ σ' = σ) es_no) := by
  have hn := hw.1
  have h24 : t < 24 := Nat.lt_of_lt_of_le ht hn
  have hbt : ew (nI t) (σ b 8) = true := by rw [h8, ew_nI (by omega) (by omega), decide_eq_true ht]
  have hcl : (nI t).toNatClampNeg = t := nI_clamp (by omega)
  have hk6 : em_k E t ≤ 6 := hw.2.1 t ht
  have hnb : em_nd (em_k E t) ≤ 2 := by unfold em_nd; split <;> (try split) <;> omega
  have hix : nI t * 2 + nI i = nI (t * 2 + i) := by rw [show (2 : Int32) = nI 2 from rfl, nI_mul, nI_add]
  have hi0 : ¬ nI i < 0 := nI_pos (by omega)
  have hi32 : (nI (t * 2 + i)).toNatClampNeg = t * 2 + i := nI_clamp (by omega)
  refine es_Ct_of (ls := [some (.ref b), some (.int (nI t)), some (.int (nI i)), none]) ok_ED_neededAt rfl (Nat.le_of_ble_eq_true rfl) rfl ?_
  refine ev_aload_n (i := 0) d_ED_neededAt_0 rfl rfl ?_
  refine ev_iload_n (i := 1) d_ED_neededAt_1 rfl rfl ?_
  refine es_cVI ls_ED_neededAt_2 d_ED_neededAt_2 (sh_ED hb) (c_ED_hasBlock hb) rfl rfl (Nat.le_of_ble_eq_true rfl) (fun x2 σ2 h2 => ?_) (fun _ _ h => h.elim)
  obtain ⟨rfl, rfl⟩ := h2
  refine ev_if_eq d_ED_neededAt_5 (fun h5 => ?_) (fun h5 => ?_)
  · exact absurd h5 (by rw [hbt]; decide)
  · refine ev_iload_n (i := 2) d_ED_neededAt_8 rfl rfl ?_
    refine ev_if_lt d_ED_neededAt_9 (fun h9 => ?_) (fun h9 => ?_)
    · exact absurd h9 hi0
    · refine ev_iload_n (i := 2) d_ED_neededAt_12 rfl rfl ?_
      refine ev_aload_n (i := 0) d_ED_neededAt_13 rfl rfl ?_
      refine es_getR d_ED_neededAt_14 f_ED_18 (sh_ED hb) rfl ?_
      refine ev_iload_n (i := 1) d_ED_neededAt_17 rfl rfl ?_
      refine es_iald d_ED_neededAt_18 (sa_ED_neededInputs hb) (ez_vinN h24 (by omega)) ?_
      refine ev_icmp_ge d_ED_neededAt_19 (fun h19 => ?_) (fun h19 => ?_)
      · rw [hcl, hnd, nI_leI (by omega) (by omega), ← Nat.not_lt] at h19
        refine ev_iconst (v := 0) d_ED_neededAt_26 rfl ?_
        refine ev_istore_n (i := 3) d_ED_neededAt_27 rfl (by decide) ?_
        dsimp only [List.set_cons_zero, List.set_cons_succ]
        refine ev_iload_n (i := 3) d_ED_neededAt_28 rfl rfl ?_
        refine ev_if_eq d_ED_neededAt_29 (fun _ => ?_) (fun h => absurd h (by decide))
        refine ev_iconst (v := (-1)) d_ED_neededAt_45 rfl ?_
        refine es_iret d_ED_neededAt_46 rfl ⟨Nat.zero_le _, Nat.zero_le _⟩ ⟨_, rfl, ?_⟩
        refine ⟨?_, rfl⟩
        first | rw [hix, hi32, hww, if_pos h19] | (rw [if_neg h19]; rfl)
      · rw [hcl, hnd, nI_leI (by omega) (by omega), Nat.not_le] at h19
        refine ev_iconst (v := 1) d_ED_neededAt_22 rfl ?_
        refine ev_goto d_ED_neededAt_23 ?_
        refine ev_istore_n (i := 3) d_ED_neededAt_27 rfl (by decide) ?_
        dsimp only [List.set_cons_zero, List.set_cons_succ]
        refine ev_iload_n (i := 3) d_ED_neededAt_28 rfl rfl ?_
        refine ev_if_eq d_ED_neededAt_29 (fun h => absurd h (by decide)) (fun _ => ?_)
        refine ev_aload_n (i := 0) d_ED_neededAt_32 rfl rfl ?_
        refine es_getR d_ED_neededAt_33 f_ED_21 (sh_ED hb) rfl ?_
        refine ev_iload_n (i := 1) d_ED_neededAt_36 rfl rfl ?_
        refine ev_iconst (v := 2) d_ED_neededAt_37 rfl ?_
        refine ev_imul d_ED_neededAt_38 ?_
        refine ev_iload_n (i := 2) d_ED_neededAt_39 rfl rfl ?_
        refine ev_iadd d_ED_neededAt_40 ?_
        refine es_iald d_ED_neededAt_41 (sa_ED_wires hb) (by rw [hix]; exact ez_vinN (by omega) (by omega)) ?_
        refine ev_goto d_ED_neededAt_42 ?_
        refine es_iret d_ED_neededAt_46 rfl ⟨Nat.zero_le _, Nat.zero_le _⟩ ⟨_, rfl, ?_⟩
        refine ⟨?_, rfl⟩
        first | rw [hix, hi32, hww, if_pos h19] | (rw [if_neg h19]; rfl)
theorem c_ED_neededAt {b : Nat} (hb : sb_ED b) {E : em_E} {P : Nat} (hw : em_wf P E) (hr : rc E b σ) {t i : Nat} (ht : t < em_n E) (hi : i < 2) : ez_Ct l G X_ED_neededAt [.ref b, .int (nI t), .int (nI i)] (es_H σ) (es_Q (es_I fun y σ' => y = en (if i < em_nd (em_k E t) then em_w E t i else none) ∧ σ' = σ) es_no) := c_ED_neededAtW hb hw hr.1 (hr.2.2.2.2.1 t ht) (hr.2.2.2.2.2.1 t i (Nat.lt_of_lt_of_le ht hw.1) hi) ht hi
end Leaves
