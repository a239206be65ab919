/-! ===== Behaviour: work out a column, all columns, ticks ===== -/
section
variable {l : Launch} {G : ez_G} {σ : es_S}
theorem c_BH_workOutColumn {b e : Nat} (hb : sb_BH b e) {E : em_E} {P : Nat} (hw : em_wf P E) (hP4 : P ≤ 4) (hr : rc E e σ) {t r : Nat} (ht : t < em_n E) (hr16 : r < 16) : ez_Ct l G X_BH_workOutColumn [.ref b, .int (nI t), .int (nI r)] (es_H σ) (es_Q (es_I fun y σ' => (∀ s, s < 32 → bt y s = em_f E (tb s) (tb r) (fun u => bt (σ (b + 2) (r * 24 + u)) s) t) ∧ σ' = σ) es_no) := by
  have hn := hw.1
  have hk6 := hw.2.1 t ht
  have ho0 : ∀ u, (if 0 < em_nd (em_k E t) then em_w E t 0 else none) = some u → u < 24 := fun u hu => by
    split at hu
    · have := (hw.2.2.1 t 0 u hu).2; omega
    · cases hu
  have ho1 : ∀ u, (if 1 < em_nd (em_k E t) then em_w E t 1 else none) = some u → u < 24 := fun u hu => by
    split at hu
    · have := (hw.2.2.1 t 1 u hu).2; omega
    · cases hu
  have h7 : em_k E t = 0 ∨ em_k E t = 1 ∨ em_k E t = 2 ∨ em_k E t = 3 ∨ em_k E t = 4 ∨ em_k E t = 5 ∨ em_k E t = 6 := by omega
  rcases h7 with hk | hk | hk | hk | hk | hk | hk
  · obtain ⟨q, hq1, hq2⟩ := hw.2.2.2.2.1 t ht hk
    refine es_Ct_of (ls := [some (.ref b), some (.int (nI t)), some (.int (nI r)), none, none, none]) ok_BH_workOutColumn rfl (Nat.le_of_ble_eq_true rfl) rfl ?_
    refine ev_aload_n (i := 0) d_BH_workOutColumn_0 rfl rfl ?_
    refine es_getR d_BH_workOutColumn_1 f_BH_50 (sh_BH hb) rfl ?_
    refine ev_iload_n (i := 1) d_BH_workOutColumn_4 rfl rfl ?_
    refine es_cVI ls_BH_workOutColumn_5 d_BH_workOutColumn_5 (sh_ED hb.ed) (c_ED_numberOf hb.ed hw hr ht) rfl rfl (Nat.le_of_ble_eq_true rfl) (fun x5 σ5 h5 => ?_) (fun _ _ h => h.elim)
    obtain ⟨rfl, e5⟩ := h5
    rw [e5]
    rw [if_neg (by omega)]
    refine ev_istore_n (i := 3) d_BH_workOutColumn_8 rfl (by decide) ?_
    dsimp only [List.set_cons_zero, List.set_cons_succ]
    refine ev_aload_n (i := 0) d_BH_workOutColumn_9 rfl rfl ?_
    refine ev_aload_n (i := 0) d_BH_workOutColumn_10 rfl rfl ?_
    refine es_getR d_BH_workOutColumn_11 f_BH_50 (sh_BH hb) rfl ?_
    refine ev_iload_n (i := 1) d_BH_workOutColumn_14 rfl rfl ?_
    refine ev_iconst (v := 0) d_BH_workOutColumn_15 rfl ?_
    refine es_cVI ls_BH_workOutColumn_16 d_BH_workOutColumn_16 (sh_ED hb.ed) (c_ED_neededAt (i := 0) hb.ed hw hr ht (by omega)) rfl rfl (Nat.le_of_ble_eq_true rfl) (fun x16 σ16 h16 => ?_) (fun _ _ h => h.elim)
    obtain ⟨rfl, e16⟩ := h16
    rw [e16]
    refine ev_iload_n (i := 2) d_BH_workOutColumn_19 rfl rfl ?_
    refine es_cVI ls_BH_workOutColumn_20 d_BH_workOutColumn_20 (sh_BH hb) (c_BH_columnAt hb ho0 hr16) rfl rfl (Nat.le_of_ble_eq_true rfl) (fun x20 σ20 h20 => ?_) (fun _ _ h => h.elim)
    obtain ⟨rfl, e20⟩ := h20
    rw [e20]
    refine ev_istore d_BH_workOutColumn_23 (by decide) ?_
    dsimp only [List.set_cons_zero, List.set_cons_succ]
    refine ev_aload_n (i := 0) d_BH_workOutColumn_25 rfl rfl ?_
    refine ev_aload_n (i := 0) d_BH_workOutColumn_26 rfl rfl ?_
    refine es_getR d_BH_workOutColumn_27 f_BH_50 (sh_BH hb) rfl ?_
    refine ev_iload_n (i := 1) d_BH_workOutColumn_30 rfl rfl ?_
    refine ev_iconst (v := 1) d_BH_workOutColumn_31 rfl ?_
    refine es_cVI ls_BH_workOutColumn_32 d_BH_workOutColumn_32 (sh_ED hb.ed) (c_ED_neededAt (i := 1) hb.ed hw hr ht (by omega)) rfl rfl (Nat.le_of_ble_eq_true rfl) (fun x32 σ32 h32 => ?_) (fun _ _ h => h.elim)
    obtain ⟨rfl, e32⟩ := h32
    rw [e32]
    refine ev_iload_n (i := 2) d_BH_workOutColumn_35 rfl rfl ?_
    refine es_cVI ls_BH_workOutColumn_36 d_BH_workOutColumn_36 (sh_BH hb) (c_BH_columnAt hb ho1 hr16) rfl rfl (Nat.le_of_ble_eq_true rfl) (fun x36 σ36 h36 => ?_) (fun _ _ h => h.elim)
    obtain ⟨rfl, e36⟩ := h36
    rw [e36]
    refine ev_istore d_BH_workOutColumn_39 (by decide) ?_
    dsimp only [List.set_cons_zero, List.set_cons_succ]
    refine ev_aload_n (i := 0) d_BH_workOutColumn_41 rfl rfl ?_
    refine es_getR d_BH_workOutColumn_42 f_BH_50 (sh_BH hb) rfl ?_
    refine ev_iload_n (i := 1) d_BH_workOutColumn_45 rfl rfl ?_
    refine es_cVI ls_BH_workOutColumn_46 d_BH_workOutColumn_46 (sh_ED hb.ed) (c_ED_kindOf hb.ed hw hr ht) rfl rfl (Nat.le_of_ble_eq_true rfl) (fun x46 σ46 h46 => ?_) (fun _ _ h => h.elim)
    obtain ⟨rfl, e46⟩ := h46
    rw [e46]
    rw [hk]
    refine ev_tableIn (off := 39) (tgt := 88) d_BH_workOutColumn_49 (by decide) (by decide) rfl rfl ?_
    refine ev_iload_n (i := 2) d_BH_workOutColumn_88 rfl rfl ?_
    refine ev_iload_n (i := 3) d_BH_workOutColumn_89 rfl rfl ?_
    refine es_cSI ls_BH_workOutColumn_90 d_BH_workOutColumn_90 c_EE_holds rfl rfl (Nat.le_of_ble_eq_true rfl) (fun x90 σ90 h90 => ?_) (fun _ _ h => h.elim)
    obtain ⟨rfl, e90⟩ := h90
    rw [e90]
    refine ev_if_eq d_BH_workOutColumn_93 (fun h93 => ?_) (fun h93 => ?_)
    · rw [hq1, eh_nI _ (by omega), bt_nI _ (by omega), eb_0] at h93
      refine ev_iconst (v := 0) d_BH_workOutColumn_100 rfl ?_
      refine es_iret d_BH_workOutColumn_101 rfl ⟨Nat.zero_le _, Nat.zero_le _⟩ ⟨_, rfl, ?_⟩
      refine ⟨fun s hs => ?_, rfl⟩
      have hf : em_f E (tb s) (tb r) (fun u => bt (σ (b + 2) (r * 24 + u)) s) t = tb r q := by simp [em_f, hk, hq1, nI_clamp (show q < 2 ^ 31 by omega)]
      rw [hf]
      first | (rw [b_0, h93]) | (rw [b_m1 s hs, h93])
    · rw [hq1, eh_nI _ (by omega), bt_nI _ (by omega), eb_0, Bool.not_eq_false] at h93
      refine ev_iconst (v := (-1)) d_BH_workOutColumn_96 rfl ?_
      refine ev_goto d_BH_workOutColumn_97 ?_
      refine es_iret d_BH_workOutColumn_101 rfl ⟨Nat.zero_le _, Nat.zero_le _⟩ ⟨_, rfl, ?_⟩
      refine ⟨fun s hs => ?_, rfl⟩
      have hf : em_f E (tb s) (tb r) (fun u => bt (σ (b + 2) (r * 24 + u)) s) t = tb r q := by simp [em_f, hk, hq1, nI_clamp (show q < 2 ^ 31 by omega)]
      rw [hf]
      first | (rw [b_0, h93]) | (rw [b_m1 s hs, h93])
  · refine es_Ct_of (ls := [some (.ref b), some (.int (nI t)), some (.int (nI r)), none, none, none]) ok_BH_workOutColumn rfl (Nat.le_of_ble_eq_true rfl) rfl ?_
    refine ev_aload_n (i := 0) d_BH_workOutColumn_0 rfl rfl ?_
    refine es_getR d_BH_workOutColumn_1 f_BH_50 (sh_BH hb) rfl ?_
    refine ev_iload_n (i := 1) d_BH_workOutColumn_4 rfl rfl ?_
    refine es_cVI ls_BH_workOutColumn_5 d_BH_workOutColumn_5 (sh_ED hb.ed) (c_ED_numberOf hb.ed hw hr ht) rfl rfl (Nat.le_of_ble_eq_true rfl) (fun x5 σ5 h5 => ?_) (fun _ _ h => h.elim)
    obtain ⟨rfl, e5⟩ := h5
    rw [e5]
    rw [if_neg (by omega)]
    refine ev_istore_n (i := 3) d_BH_workOutColumn_8 rfl (by decide) ?_
    dsimp only [List.set_cons_zero, List.set_cons_succ]
    refine ev_aload_n (i := 0) d_BH_workOutColumn_9 rfl rfl ?_
    refine ev_aload_n (i := 0) d_BH_workOutColumn_10 rfl rfl ?_
    refine es_getR d_BH_workOutColumn_11 f_BH_50 (sh_BH hb) rfl ?_
    refine ev_iload_n (i := 1) d_BH_workOutColumn_14 rfl rfl ?_
    refine ev_iconst (v := 0) d_BH_workOutColumn_15 rfl ?_
    refine es_cVI ls_BH_workOutColumn_16 d_BH_workOutColumn_16 (sh_ED hb.ed) (c_ED_neededAt (i := 0) hb.ed hw hr ht (by omega)) rfl rfl (Nat.le_of_ble_eq_true rfl) (fun x16 σ16 h16 => ?_) (fun _ _ h => h.elim)
    obtain ⟨rfl, e16⟩ := h16
    rw [e16]
    refine ev_iload_n (i := 2) d_BH_workOutColumn_19 rfl rfl ?_
    refine es_cVI ls_BH_workOutColumn_20 d_BH_workOutColumn_20 (sh_BH hb) (c_BH_columnAt hb ho0 hr16) rfl rfl (Nat.le_of_ble_eq_true rfl) (fun x20 σ20 h20 => ?_) (fun _ _ h => h.elim)
    obtain ⟨rfl, e20⟩ := h20
    rw [e20]
    refine ev_istore d_BH_workOutColumn_23 (by decide) ?_
    dsimp only [List.set_cons_zero, List.set_cons_succ]
    refine ev_aload_n (i := 0) d_BH_workOutColumn_25 rfl rfl ?_
    refine ev_aload_n (i := 0) d_BH_workOutColumn_26 rfl rfl ?_
    refine es_getR d_BH_workOutColumn_27 f_BH_50 (sh_BH hb) rfl ?_
    refine ev_iload_n (i := 1) d_BH_workOutColumn_30 rfl rfl ?_
    refine ev_iconst (v := 1) d_BH_workOutColumn_31 rfl ?_
    refine es_cVI ls_BH_workOutColumn_32 d_BH_workOutColumn_32 (sh_ED hb.ed) (c_ED_neededAt (i := 1) hb.ed hw hr ht (by omega)) rfl rfl (Nat.le_of_ble_eq_true rfl) (fun x32 σ32 h32 => ?_) (fun _ _ h => h.elim)
    obtain ⟨rfl, e32⟩ := h32
    rw [e32]
    refine ev_iload_n (i := 2) d_BH_workOutColumn_35 rfl rfl ?_
    refine es_cVI ls_BH_workOutColumn_36 d_BH_workOutColumn_36 (sh_BH hb) (c_BH_columnAt hb ho1 hr16) rfl rfl (Nat.le_of_ble_eq_true rfl) (fun x36 σ36 h36 => ?_) (fun _ _ h => h.elim)
    obtain ⟨rfl, e36⟩ := h36
    rw [e36]
    refine ev_istore d_BH_workOutColumn_39 (by decide) ?_
    dsimp only [List.set_cons_zero, List.set_cons_succ]
    refine ev_aload_n (i := 0) d_BH_workOutColumn_41 rfl rfl ?_
    refine es_getR d_BH_workOutColumn_42 f_BH_50 (sh_BH hb) rfl ?_
    refine ev_iload_n (i := 1) d_BH_workOutColumn_45 rfl rfl ?_
    refine es_cVI ls_BH_workOutColumn_46 d_BH_workOutColumn_46 (sh_ED hb.ed) (c_ED_kindOf hb.ed hw hr ht) rfl rfl (Nat.le_of_ble_eq_true rfl) (fun x46 σ46 h46 => ?_) (fun _ _ h => h.elim)
    obtain ⟨rfl, e46⟩ := h46
    rw [e46]
    rw [hk]
    refine ev_tableIn (off := 53) (tgt := 102) d_BH_workOutColumn_49 (by decide) (by decide) rfl rfl ?_
    refine ev_iload_n (i := 3) d_BH_workOutColumn_102 rfl rfl ?_
    refine ev_iconst (v := 1) d_BH_workOutColumn_103 rfl ?_
    refine ev_icmp_ne d_BH_workOutColumn_104 (fun h104 => ?_) (fun h104 => ?_)
    · refine ev_iconst (v := 0) d_BH_workOutColumn_111 rfl ?_
      refine es_iret d_BH_workOutColumn_112 rfl ⟨Nat.zero_le _, Nat.zero_le _⟩ ⟨_, rfl, ?_⟩
      refine ⟨fun s hs => ?_, rfl⟩
      have hf : em_f E (tb s) (tb r) (fun u => bt (σ (b + 2) (r * 24 + u)) s) t = decide (em_m E t = 1) := by simp [em_f, hk]
      rw [hf]
      first | (rw [b_0]; exact (decide_eq_false h104).symm) | (rw [b_m1 s hs]; exact (decide_eq_true h104).symm)
    · refine ev_iconst (v := (-1)) d_BH_workOutColumn_107 rfl ?_
      refine ev_goto d_BH_workOutColumn_108 ?_
      refine es_iret d_BH_workOutColumn_112 rfl ⟨Nat.zero_le _, Nat.zero_le _⟩ ⟨_, rfl, ?_⟩
      refine ⟨fun s hs => ?_, rfl⟩
      have hf : em_f E (tb s) (tb r) (fun u => bt (σ (b + 2) (r * 24 + u)) s) t = decide (em_m E t = 1) := by simp [em_f, hk]
      rw [hf]
      first | (rw [b_0]; exact (decide_eq_false h104).symm) | (rw [b_m1 s hs]; exact (decide_eq_true h104).symm)
  · refine es_Ct_of (ls := [some (.ref b), some (.int (nI t)), some (.int (nI r)), none, none, none]) ok_BH_workOutColumn rfl (Nat.le_of_ble_eq_true rfl) rfl ?_
    refine ev_aload_n (i := 0) d_BH_workOutColumn_0 rfl rfl ?_
    refine es_getR d_BH_workOutColumn_1 f_BH_50 (sh_BH hb) rfl ?_
    refine ev_iload_n (i := 1) d_BH_workOutColumn_4 rfl rfl ?_
    refine es_cVI ls_BH_workOutColumn_5 d_BH_workOutColumn_5 (sh_ED hb.ed) (c_ED_numberOf hb.ed hw hr ht) rfl rfl (Nat.le_of_ble_eq_true rfl) (fun x5 σ5 h5 => ?_) (fun _ _ h => h.elim)
    obtain ⟨rfl, e5⟩ := h5
    rw [e5]
    rw [if_neg (by omega)]
    refine ev_istore_n (i := 3) d_BH_workOutColumn_8 rfl (by decide) ?_
    dsimp only [List.set_cons_zero, List.set_cons_succ]
    refine ev_aload_n (i := 0) d_BH_workOutColumn_9 rfl rfl ?_
    refine ev_aload_n (i := 0) d_BH_workOutColumn_10 rfl rfl ?_
    refine es_getR d_BH_workOutColumn_11 f_BH_50 (sh_BH hb) rfl ?_
    refine ev_iload_n (i := 1) d_BH_workOutColumn_14 rfl rfl ?_
    refine ev_iconst (v := 0) d_BH_workOutColumn_15 rfl ?_
    refine es_cVI ls_BH_workOutColumn_16 d_BH_workOutColumn_16 (sh_ED hb.ed) (c_ED_neededAt (i := 0) hb.ed hw hr ht (by omega)) rfl rfl (Nat.le_of_ble_eq_true rfl) (fun x16 σ16 h16 => ?_) (fun _ _ h => h.elim)
    obtain ⟨rfl, e16⟩ := h16
    rw [e16]
    refine ev_iload_n (i := 2) d_BH_workOutColumn_19 rfl rfl ?_
    refine es_cVI ls_BH_workOutColumn_20 d_BH_workOutColumn_20 (sh_BH hb) (c_BH_columnAt hb ho0 hr16) rfl rfl (Nat.le_of_ble_eq_true rfl) (fun x20 σ20 h20 => ?_) (fun _ _ h => h.elim)
    obtain ⟨rfl, e20⟩ := h20
    rw [e20]
    refine ev_istore d_BH_workOutColumn_23 (by decide) ?_
    dsimp only [List.set_cons_zero, List.set_cons_succ]
    refine ev_aload_n (i := 0) d_BH_workOutColumn_25 rfl rfl ?_
    refine ev_aload_n (i := 0) d_BH_workOutColumn_26 rfl rfl ?_
    refine es_getR d_BH_workOutColumn_27 f_BH_50 (sh_BH hb) rfl ?_
    refine ev_iload_n (i := 1) d_BH_workOutColumn_30 rfl rfl ?_
    refine ev_iconst (v := 1) d_BH_workOutColumn_31 rfl ?_
    refine es_cVI ls_BH_workOutColumn_32 d_BH_workOutColumn_32 (sh_ED hb.ed) (c_ED_neededAt (i := 1) hb.ed hw hr ht (by omega)) rfl rfl (Nat.le_of_ble_eq_true rfl) (fun x32 σ32 h32 => ?_) (fun _ _ h => h.elim)
    obtain ⟨rfl, e32⟩ := h32
    rw [e32]
    refine ev_iload_n (i := 2) d_BH_workOutColumn_35 rfl rfl ?_
    refine es_cVI ls_BH_workOutColumn_36 d_BH_workOutColumn_36 (sh_BH hb) (c_BH_columnAt hb ho1 hr16) rfl rfl (Nat.le_of_ble_eq_true rfl) (fun x36 σ36 h36 => ?_) (fun _ _ h => h.elim)
    obtain ⟨rfl, e36⟩ := h36
    rw [e36]
    refine ev_istore d_BH_workOutColumn_39 (by decide) ?_
    dsimp only [List.set_cons_zero, List.set_cons_succ]
    refine ev_aload_n (i := 0) d_BH_workOutColumn_41 rfl rfl ?_
    refine es_getR d_BH_workOutColumn_42 f_BH_50 (sh_BH hb) rfl ?_
    refine ev_iload_n (i := 1) d_BH_workOutColumn_45 rfl rfl ?_
    refine es_cVI ls_BH_workOutColumn_46 d_BH_workOutColumn_46 (sh_ED hb.ed) (c_ED_kindOf hb.ed hw hr ht) rfl rfl (Nat.le_of_ble_eq_true rfl) (fun x46 σ46 h46 => ?_) (fun _ _ h => h.elim)
    obtain ⟨rfl, e46⟩ := h46
    rw [e46]
    rw [hk]
    refine ev_tableIn (off := 64) (tgt := 113) d_BH_workOutColumn_49 (by decide) (by decide) rfl rfl ?_
    refine ev_iload d_BH_workOutColumn_113 rfl ?_
    refine ev_iconst (v := (-1)) d_BH_workOutColumn_115 rfl ?_
    refine ev_ixor d_BH_workOutColumn_116 ?_
    refine es_iret d_BH_workOutColumn_117 rfl ⟨Nat.zero_le _, Nat.zero_le _⟩ ⟨_, rfl, ?_⟩
    refine ⟨fun s hs => ?_, rfl⟩
    rw [b_xor, b_m1 s hs, bt_cv]
    simp [em_f, hk, em_nd]
  · refine es_Ct_of (ls := [some (.ref b), some (.int (nI t)), some (.int (nI r)), none, none, none]) ok_BH_workOutColumn rfl (Nat.le_of_ble_eq_true rfl) rfl ?_
    refine ev_aload_n (i := 0) d_BH_workOutColumn_0 rfl rfl ?_
    refine es_getR d_BH_workOutColumn_1 f_BH_50 (sh_BH hb) rfl ?_
    refine ev_iload_n (i := 1) d_BH_workOutColumn_4 rfl rfl ?_
    refine es_cVI ls_BH_workOutColumn_5 d_BH_workOutColumn_5 (sh_ED hb.ed) (c_ED_numberOf hb.ed hw hr ht) rfl rfl (Nat.le_of_ble_eq_true rfl) (fun x5 σ5 h5 => ?_) (fun _ _ h => h.elim)
    obtain ⟨rfl, e5⟩ := h5
    rw [e5]
    rw [if_neg (by omega)]
    refine ev_istore_n (i := 3) d_BH_workOutColumn_8 rfl (by decide) ?_
    dsimp only [List.set_cons_zero, List.set_cons_succ]
    refine ev_aload_n (i := 0) d_BH_workOutColumn_9 rfl rfl ?_
    refine ev_aload_n (i := 0) d_BH_workOutColumn_10 rfl rfl ?_
    refine es_getR d_BH_workOutColumn_11 f_BH_50 (sh_BH hb) rfl ?_
    refine ev_iload_n (i := 1) d_BH_workOutColumn_14 rfl rfl ?_
    refine ev_iconst (v := 0) d_BH_workOutColumn_15 rfl ?_
    refine es_cVI ls_BH_workOutColumn_16 d_BH_workOutColumn_16 (sh_ED hb.ed) (c_ED_neededAt (i := 0) hb.ed hw hr ht (by omega)) rfl rfl (Nat.le_of_ble_eq_true rfl) (fun x16 σ16 h16 => ?_) (fun _ _ h => h.elim)
    obtain ⟨rfl, e16⟩ := h16
    rw [e16]
    refine ev_iload_n (i := 2) d_BH_workOutColumn_19 rfl rfl ?_
    refine es_cVI ls_BH_workOutColumn_20 d_BH_workOutColumn_20 (sh_BH hb) (c_BH_columnAt hb ho0 hr16) rfl rfl (Nat.le_of_ble_eq_true rfl) (fun x20 σ20 h20 => ?_) (fun _ _ h => h.elim)
    obtain ⟨rfl, e20⟩ := h20
    rw [e20]
    refine ev_istore d_BH_workOutColumn_23 (by decide) ?_
    dsimp only [List.set_cons_zero, List.set_cons_succ]
    refine ev_aload_n (i := 0) d_BH_workOutColumn_25 rfl rfl ?_
    refine ev_aload_n (i := 0) d_BH_workOutColumn_26 rfl rfl ?_
    refine es_getR d_BH_workOutColumn_27 f_BH_50 (sh_BH hb) rfl ?_
    refine ev_iload_n (i := 1) d_BH_workOutColumn_30 rfl rfl ?_
    refine ev_iconst (v := 1) d_BH_workOutColumn_31 rfl ?_
    refine es_cVI ls_BH_workOutColumn_32 d_BH_workOutColumn_32 (sh_ED hb.ed) (c_ED_neededAt (i := 1) hb.ed hw hr ht (by omega)) rfl rfl (Nat.le_of_ble_eq_true rfl) (fun x32 σ32 h32 => ?_) (fun _ _ h => h.elim)
    obtain ⟨rfl, e32⟩ := h32
    rw [e32]
    refine ev_iload_n (i := 2) d_BH_workOutColumn_35 rfl rfl ?_
    refine es_cVI ls_BH_workOutColumn_36 d_BH_workOutColumn_36 (sh_BH hb) (c_BH_columnAt hb ho1 hr16) rfl rfl (Nat.le_of_ble_eq_true rfl) (fun x36 σ36 h36 => ?_) (fun _ _ h => h.elim)
    obtain ⟨rfl, e36⟩ := h36
    rw [e36]
    refine ev_istore d_BH_workOutColumn_39 (by decide) ?_
    dsimp only [List.set_cons_zero, List.set_cons_succ]
    refine ev_aload_n (i := 0) d_BH_workOutColumn_41 rfl rfl ?_
    refine es_getR d_BH_workOutColumn_42 f_BH_50 (sh_BH hb) rfl ?_
    refine ev_iload_n (i := 1) d_BH_workOutColumn_45 rfl rfl ?_
    refine es_cVI ls_BH_workOutColumn_46 d_BH_workOutColumn_46 (sh_ED hb.ed) (c_ED_kindOf hb.ed hw hr ht) rfl rfl (Nat.le_of_ble_eq_true rfl) (fun x46 σ46 h46 => ?_) (fun _ _ h => h.elim)
    obtain ⟨rfl, e46⟩ := h46
    rw [e46]
    rw [hk]
    refine ev_tableIn (off := 69) (tgt := 118) d_BH_workOutColumn_49 (by decide) (by decide) rfl rfl ?_
    refine ev_iload d_BH_workOutColumn_118 rfl ?_
    refine ev_iload d_BH_workOutColumn_120 rfl ?_
    refine ev_iand d_BH_workOutColumn_122 ?_
    refine es_iret d_BH_workOutColumn_123 rfl ⟨Nat.zero_le _, Nat.zero_le _⟩ ⟨_, rfl, ?_⟩
    refine ⟨fun s hs => ?_, rfl⟩
    rw [b_and, bt_cv, bt_cv]
    simp [em_f, hk, em_nd]
  · refine es_Ct_of (ls := [some (.ref b), some (.int (nI t)), some (.int (nI r)), none, none, none]) ok_BH_workOutColumn rfl (Nat.le_of_ble_eq_true rfl) rfl ?_
    refine ev_aload_n (i := 0) d_BH_workOutColumn_0 rfl rfl ?_
    refine es_getR d_BH_workOutColumn_1 f_BH_50 (sh_BH hb) rfl ?_
    refine ev_iload_n (i := 1) d_BH_workOutColumn_4 rfl rfl ?_
    refine es_cVI ls_BH_workOutColumn_5 d_BH_workOutColumn_5 (sh_ED hb.ed) (c_ED_numberOf hb.ed hw hr ht) rfl rfl (Nat.le_of_ble_eq_true rfl) (fun x5 σ5 h5 => ?_) (fun _ _ h => h.elim)
    obtain ⟨rfl, e5⟩ := h5
    rw [e5]
    rw [if_neg (by omega)]
    refine ev_istore_n (i := 3) d_BH_workOutColumn_8 rfl (by decide) ?_
    dsimp only [List.set_cons_zero, List.set_cons_succ]
    refine ev_aload_n (i := 0) d_BH_workOutColumn_9 rfl rfl ?_
    refine ev_aload_n (i := 0) d_BH_workOutColumn_10 rfl rfl ?_
    refine es_getR d_BH_workOutColumn_11 f_BH_50 (sh_BH hb) rfl ?_
    refine ev_iload_n (i := 1) d_BH_workOutColumn_14 rfl rfl ?_
    refine ev_iconst (v := 0) d_BH_workOutColumn_15 rfl ?_
    refine es_cVI ls_BH_workOutColumn_16 d_BH_workOutColumn_16 (sh_ED hb.ed) (c_ED_neededAt (i := 0) hb.ed hw hr ht (by omega)) rfl rfl (Nat.le_of_ble_eq_true rfl) (fun x16 σ16 h16 => ?_) (fun _ _ h => h.elim)
    obtain ⟨rfl, e16⟩ := h16
    rw [e16]
    refine ev_iload_n (i := 2) d_BH_workOutColumn_19 rfl rfl ?_
    refine es_cVI ls_BH_workOutColumn_20 d_BH_workOutColumn_20 (sh_BH hb) (c_BH_columnAt hb ho0 hr16) rfl rfl (Nat.le_of_ble_eq_true rfl) (fun x20 σ20 h20 => ?_) (fun _ _ h => h.elim)
    obtain ⟨rfl, e20⟩ := h20
    rw [e20]
    refine ev_istore d_BH_workOutColumn_23 (by decide) ?_
    dsimp only [List.set_cons_zero, List.set_cons_succ]
    refine ev_aload_n (i := 0) d_BH_workOutColumn_25 rfl rfl ?_
    refine ev_aload_n (i := 0) d_BH_workOutColumn_26 rfl rfl ?_
    refine es_getR d_BH_workOutColumn_27 f_BH_50 (sh_BH hb) rfl ?_
    refine ev_iload_n (i := 1) d_BH_workOutColumn_30 rfl rfl ?_
    refine ev_iconst (v := 1) d_BH_workOutColumn_31 rfl ?_
    refine es_cVI ls_BH_workOutColumn_32 d_BH_workOutColumn_32 (sh_ED hb.ed) (c_ED_neededAt (i := 1) hb.ed hw hr ht (by omega)) rfl rfl (Nat.le_of_ble_eq_true rfl) (fun x32 σ32 h32 => ?_) (fun _ _ h => h.elim)
    obtain ⟨rfl, e32⟩ := h32
    rw [e32]
    refine ev_iload_n (i := 2) d_BH_workOutColumn_35 rfl rfl ?_
    refine es_cVI ls_BH_workOutColumn_36 d_BH_workOutColumn_36 (sh_BH hb) (c_BH_columnAt hb ho1 hr16) rfl rfl (Nat.le_of_ble_eq_true rfl) (fun x36 σ36 h36 => ?_) (fun _ _ h => h.elim)
    obtain ⟨rfl, e36⟩ := h36
    rw [e36]
    refine ev_istore d_BH_workOutColumn_39 (by decide) ?_
    dsimp only [List.set_cons_zero, List.set_cons_succ]
    refine ev_aload_n (i := 0) d_BH_workOutColumn_41 rfl rfl ?_
    refine es_getR d_BH_workOutColumn_42 f_BH_50 (sh_BH hb) rfl ?_
    refine ev_iload_n (i := 1) d_BH_workOutColumn_45 rfl rfl ?_
    refine es_cVI ls_BH_workOutColumn_46 d_BH_workOutColumn_46 (sh_ED hb.ed) (c_ED_kindOf hb.ed hw hr ht) rfl rfl (Nat.le_of_ble_eq_true rfl) (fun x46 σ46 h46 => ?_) (fun _ _ h => h.elim)
    obtain ⟨rfl, e46⟩ := h46
    rw [e46]
    rw [hk]
    refine ev_tableIn (off := 75) (tgt := 124) d_BH_workOutColumn_49 (by decide) (by decide) rfl rfl ?_
    refine ev_iload d_BH_workOutColumn_124 rfl ?_
    refine ev_iload d_BH_workOutColumn_126 rfl ?_
    refine ev_ior d_BH_workOutColumn_128 ?_
    refine es_iret d_BH_workOutColumn_129 rfl ⟨Nat.zero_le _, Nat.zero_le _⟩ ⟨_, rfl, ?_⟩
    refine ⟨fun s hs => ?_, rfl⟩
    rw [b_or, bt_cv, bt_cv]
    simp [em_f, hk, em_nd]
  · refine es_Ct_of (ls := [some (.ref b), some (.int (nI t)), some (.int (nI r)), none, none, none]) ok_BH_workOutColumn rfl (Nat.le_of_ble_eq_true rfl) rfl ?_
    refine ev_aload_n (i := 0) d_BH_workOutColumn_0 rfl rfl ?_
    refine es_getR d_BH_workOutColumn_1 f_BH_50 (sh_BH hb) rfl ?_
    refine ev_iload_n (i := 1) d_BH_workOutColumn_4 rfl rfl ?_
    refine es_cVI ls_BH_workOutColumn_5 d_BH_workOutColumn_5 (sh_ED hb.ed) (c_ED_numberOf hb.ed hw hr ht) rfl rfl (Nat.le_of_ble_eq_true rfl) (fun x5 σ5 h5 => ?_) (fun _ _ h => h.elim)
    obtain ⟨rfl, e5⟩ := h5
    rw [e5]
    rw [if_neg (by omega)]
    refine ev_istore_n (i := 3) d_BH_workOutColumn_8 rfl (by decide) ?_
    dsimp only [List.set_cons_zero, List.set_cons_succ]
    refine ev_aload_n (i := 0) d_BH_workOutColumn_9 rfl rfl ?_
    refine ev_aload_n (i := 0) d_BH_workOutColumn_10 rfl rfl ?_
    refine es_getR d_BH_workOutColumn_11 f_BH_50 (sh_BH hb) rfl ?_
    refine ev_iload_n (i := 1) d_BH_workOutColumn_14 rfl rfl ?_
    refine ev_iconst (v := 0) d_BH_workOutColumn_15 rfl ?_
    refine es_cVI ls_BH_workOutColumn_16 d_BH_workOutColumn_16 (sh_ED hb.ed) (c_ED_neededAt (i := 0) hb.ed hw hr ht (by omega)) rfl rfl (Nat.le_of_ble_eq_true rfl) (fun x16 σ16 h16 => ?_) (fun _ _ h => h.elim)
    obtain ⟨rfl, e16⟩ := h16
    rw [e16]
    refine ev_iload_n (i := 2) d_BH_workOutColumn_19 rfl rfl ?_
    refine es_cVI ls_BH_workOutColumn_20 d_BH_workOutColumn_20 (sh_BH hb) (c_BH_columnAt hb ho0 hr16) rfl rfl (Nat.le_of_ble_eq_true rfl) (fun x20 σ20 h20 => ?_) (fun _ _ h => h.elim)
    obtain ⟨rfl, e20⟩ := h20
    rw [e20]
    refine ev_istore d_BH_workOutColumn_23 (by decide) ?_
    dsimp only [List.set_cons_zero, List.set_cons_succ]
    refine ev_aload_n (i := 0) d_BH_workOutColumn_25 rfl rfl ?_
    refine ev_aload_n (i := 0) d_BH_workOutColumn_26 rfl rfl ?_
    refine es_getR d_BH_workOutColumn_27 f_BH_50 (sh_BH hb) rfl ?_
    refine ev_iload_n (i := 1) d_BH_workOutColumn_30 rfl rfl ?_
    refine ev_iconst (v := 1) d_BH_workOutColumn_31 rfl ?_
    refine es_cVI ls_BH_workOutColumn_32 d_BH_workOutColumn_32 (sh_ED hb.ed) (c_ED_neededAt (i := 1) hb.ed hw hr ht (by omega)) rfl rfl (Nat.le_of_ble_eq_true rfl) (fun x32 σ32 h32 => ?_) (fun _ _ h => h.elim)
    obtain ⟨rfl, e32⟩ := h32
    rw [e32]
    refine ev_iload_n (i := 2) d_BH_workOutColumn_35 rfl rfl ?_
    refine es_cVI ls_BH_workOutColumn_36 d_BH_workOutColumn_36 (sh_BH hb) (c_BH_columnAt hb ho1 hr16) rfl rfl (Nat.le_of_ble_eq_true rfl) (fun x36 σ36 h36 => ?_) (fun _ _ h => h.elim)
    obtain ⟨rfl, e36⟩ := h36
    rw [e36]
    refine ev_istore d_BH_workOutColumn_39 (by decide) ?_
    dsimp only [List.set_cons_zero, List.set_cons_succ]
    refine ev_aload_n (i := 0) d_BH_workOutColumn_41 rfl rfl ?_
    refine es_getR d_BH_workOutColumn_42 f_BH_50 (sh_BH hb) rfl ?_
    refine ev_iload_n (i := 1) d_BH_workOutColumn_45 rfl rfl ?_
    refine es_cVI ls_BH_workOutColumn_46 d_BH_workOutColumn_46 (sh_ED hb.ed) (c_ED_kindOf hb.ed hw hr ht) rfl rfl (Nat.le_of_ble_eq_true rfl) (fun x46 σ46 h46 => ?_) (fun _ _ h => h.elim)
    obtain ⟨rfl, e46⟩ := h46
    rw [e46]
    rw [hk]
    refine ev_tableIn (off := 81) (tgt := 130) d_BH_workOutColumn_49 (by decide) (by decide) rfl rfl ?_
    refine ev_iload d_BH_workOutColumn_130 rfl ?_
    refine ev_iload d_BH_workOutColumn_132 rfl ?_
    refine ev_ixor d_BH_workOutColumn_134 ?_
    refine es_iret d_BH_workOutColumn_135 rfl ⟨Nat.zero_le _, Nat.zero_le _⟩ ⟨_, rfl, ?_⟩
    refine ⟨fun s hs => ?_, rfl⟩
    rw [b_xor, bt_cv, bt_cv]
    simp [em_f, hk, em_nd]
  · have hdl := em_dl_lt ht hk
    have hd5 := hw.2.2.2.2.2.2
    have h5 : ew (nI (em_dl E t)) 5 = true := by rw [show (5 : Int32) = nI 5 from rfl, ew_nI (by omega) (by omega), decide_eq_true (by omega)]
    refine es_Ct_of (ls := [some (.ref b), some (.int (nI t)), some (.int (nI r)), none, none, none]) ok_BH_workOutColumn rfl (Nat.le_of_ble_eq_true rfl) rfl ?_
    refine ev_aload_n (i := 0) d_BH_workOutColumn_0 rfl rfl ?_
    refine es_getR d_BH_workOutColumn_1 f_BH_50 (sh_BH hb) rfl ?_
    refine ev_iload_n (i := 1) d_BH_workOutColumn_4 rfl rfl ?_
    refine es_cVI ls_BH_workOutColumn_5 d_BH_workOutColumn_5 (sh_ED hb.ed) (c_ED_numberOf hb.ed hw hr ht) rfl rfl (Nat.le_of_ble_eq_true rfl) (fun x5 σ5 h5 => ?_) (fun _ _ h => h.elim)
    obtain ⟨rfl, e5⟩ := h5
    rw [e5]
    rw [if_pos hk]
    refine ev_istore_n (i := 3) d_BH_workOutColumn_8 rfl (by decide) ?_
    dsimp only [List.set_cons_zero, List.set_cons_succ]
    refine ev_aload_n (i := 0) d_BH_workOutColumn_9 rfl rfl ?_
    refine ev_aload_n (i := 0) d_BH_workOutColumn_10 rfl rfl ?_
    refine es_getR d_BH_workOutColumn_11 f_BH_50 (sh_BH hb) rfl ?_
    refine ev_iload_n (i := 1) d_BH_workOutColumn_14 rfl rfl ?_
    refine ev_iconst (v := 0) d_BH_workOutColumn_15 rfl ?_
    refine es_cVI ls_BH_workOutColumn_16 d_BH_workOutColumn_16 (sh_ED hb.ed) (c_ED_neededAt (i := 0) hb.ed hw hr ht (by omega)) rfl rfl (Nat.le_of_ble_eq_true rfl) (fun x16 σ16 h16 => ?_) (fun _ _ h => h.elim)
    obtain ⟨rfl, e16⟩ := h16
    rw [e16]
    refine ev_iload_n (i := 2) d_BH_workOutColumn_19 rfl rfl ?_
    refine es_cVI ls_BH_workOutColumn_20 d_BH_workOutColumn_20 (sh_BH hb) (c_BH_columnAt hb ho0 hr16) rfl rfl (Nat.le_of_ble_eq_true rfl) (fun x20 σ20 h20 => ?_) (fun _ _ h => h.elim)
    obtain ⟨rfl, e20⟩ := h20
    rw [e20]
    refine ev_istore d_BH_workOutColumn_23 (by decide) ?_
    dsimp only [List.set_cons_zero, List.set_cons_succ]
    refine ev_aload_n (i := 0) d_BH_workOutColumn_25 rfl rfl ?_
    refine ev_aload_n (i := 0) d_BH_workOutColumn_26 rfl rfl ?_
    refine es_getR d_BH_workOutColumn_27 f_BH_50 (sh_BH hb) rfl ?_
    refine ev_iload_n (i := 1) d_BH_workOutColumn_30 rfl rfl ?_
    refine ev_iconst (v := 1) d_BH_workOutColumn_31 rfl ?_
    refine es_cVI ls_BH_workOutColumn_32 d_BH_workOutColumn_32 (sh_ED hb.ed) (c_ED_neededAt (i := 1) hb.ed hw hr ht (by omega)) rfl rfl (Nat.le_of_ble_eq_true rfl) (fun x32 σ32 h32 => ?_) (fun _ _ h => h.elim)
    obtain ⟨rfl, e32⟩ := h32
    rw [e32]
    refine ev_iload_n (i := 2) d_BH_workOutColumn_35 rfl rfl ?_
    refine es_cVI ls_BH_workOutColumn_36 d_BH_workOutColumn_36 (sh_BH hb) (c_BH_columnAt hb ho1 hr16) rfl rfl (Nat.le_of_ble_eq_true rfl) (fun x36 σ36 h36 => ?_) (fun _ _ h => h.elim)
    obtain ⟨rfl, e36⟩ := h36
    rw [e36]
    refine ev_istore d_BH_workOutColumn_39 (by decide) ?_
    dsimp only [List.set_cons_zero, List.set_cons_succ]
    refine ev_aload_n (i := 0) d_BH_workOutColumn_41 rfl rfl ?_
    refine es_getR d_BH_workOutColumn_42 f_BH_50 (sh_BH hb) rfl ?_
    refine ev_iload_n (i := 1) d_BH_workOutColumn_45 rfl rfl ?_
    refine es_cVI ls_BH_workOutColumn_46 d_BH_workOutColumn_46 (sh_ED hb.ed) (c_ED_kindOf hb.ed hw hr ht) rfl rfl (Nat.le_of_ble_eq_true rfl) (fun x46 σ46 h46 => ?_) (fun _ _ h => h.elim)
    obtain ⟨rfl, e46⟩ := h46
    rw [e46]
    rw [hk]
    refine ev_tableOut (tgt := 136) d_BH_workOutColumn_49 (Or.inr (by decide)) rfl ?_
    refine ev_iload_n (i := 3) d_BH_workOutColumn_136 rfl rfl ?_
    refine ev_iconst (v := 5) d_BH_workOutColumn_137 rfl ?_
    refine es_cSI ls_BH_workOutColumn_138 d_BH_workOutColumn_138 c_EE_isWithin rfl rfl (Nat.le_of_ble_eq_true rfl) (fun x138 σ138 h138 => ?_) (fun _ _ h => h.elim)
    obtain ⟨rfl, e138⟩ := h138
    rw [e138]
    refine ev_if_eq d_BH_workOutColumn_141 (fun h141 => ?_) (fun h141 => ?_)
    · exact absurd h141 (by rw [h5]; decide)
    · refine ev_gdc d_BH_workOutColumn_144 rfl ?_
      refine ev_iload_n (i := 3) d_BH_workOutColumn_147 rfl rfl ?_
      refine ev_tdc d_BH_workOutColumn_148 (ez_vinN (by omega) (by omega)) ?_
      refine ev_goto d_BH_workOutColumn_149 ?_
      refine es_iret d_BH_workOutColumn_153 rfl ⟨Nat.zero_le _, Nat.zero_le _⟩ ⟨_, rfl, ?_⟩
      refine ⟨fun s hs => ?_, rfl⟩
      have hf : em_f E (tb s) (tb r) (fun u => bt (σ (b + 2) (r * 24 + u)) s) t = tb s (em_dl E t) := by simp [em_f, hk]
      rw [hf, nI_clamp (by omega)]
      exact bt_dc _ (by omega) s hs
theorem lp_BH_fillColumns_2 {b e : Nat} (hb : sb_BH b e) {E : em_E} {P : Nat} (hw : em_wf P E) (hP4 : P ≤ 4) (hr : rc E e σ) {r : Nat} (hr16 : r < 16) (h9 : σ b 9 = nI (em_n E)) {ord : Nat → Nat} (o1 : ∀ i, i < em_n E → σ (b + 1) i = nI (ord i) ∧ ord i < em_n E) (o2 : ∀ i j, i < em_n E → j < em_n E → ord i = ord j → i = j) (o3 : ∀ i, i < em_n E → ∀ t, em_ed E (ord i) t → ∃ j, j < i ∧ ord j = t) (o4 : ∀ t, t < em_n E → ∃ i, i < em_n E ∧ ord i = t) : ∀ (d : Nat) (i : Nat) (σ1 : es_S), em_n E - i = d → (i ≤ em_n E ∧ (∀ k, k ≠ b + 2 → σ1 k = σ k) ∧ (∀ x, (x < r * 24 ∨ r * 24 + 24 ≤ x) → σ1 (b + 2) x = σ (b + 2) x) ∧ ∀ j, j < i → ∀ s, s < 32 → bt (σ1 (b + 2) (r * 24 + ord j)) s = em_f E (tb s) (tb r) (fun u => bt (σ1 (b + 2) (r * 24 + u)) s) (ord j)) → ez_Ev l G X_BH_fillColumns 0 0 2 [some (.ref b), some (.int (nI r)), some (.int (nI i)), none] [] (es_H σ1) (es_Q (es_V fun σ' => (∀ k, k ≠ b + 2 → σ' k = σ k) ∧ (∀ x, (x < r * 24 ∨ r * 24 + 24 ≤ x) → σ' (b + 2) x = σ (b + 2) x) ∧ ∀ s, s < 32 → em_Sat E (tb s) (tb r) (fun u => bt (σ' (b + 2) (r * 24 + u)) s)) es_no) := by
  intro d
  induction d using Nat.strongRecOn with
  | _ d ih =>
    intro i σ1 hm hinv
    obtain ⟨hi, hoff, hx, hj⟩ := hinv
    have hn := hw.1
    have hbe := hb.ne
    have hr1 : rc E e σ1 := rc_off hr (fun k g1 g2 => hoff k (by omega))
    have h91 : σ1 b 9 = nI (em_n E) := by rw [hoff b (by omega)]; exact h9
    have hcl : (nI i).toNatClampNeg = i := nI_clamp (by omega)
    have hix : ∀ t, t < 24 → nI r * 24 + nI t = nI (r * 24 + t) := fun t ht => by rw [show (24 : Int32) = nI 24 from rfl, nI_mul, nI_add]
    refine ev_iload_n (i := 2) d_BH_fillColumns_2 rfl rfl ?_
    refine ev_aload_n (i := 0) d_BH_fillColumns_3 rfl rfl ?_
    refine es_getI d_BH_fillColumns_4 f_BH_36 (sh_BH hb) rfl ?_
    refine ev_icmp_ge d_BH_fillColumns_7 (fun h7 => ?_) (fun h7 => ?_)
    · rw [h91, nI_leI (by omega) (by omega)] at h7
      refine es_vret d_BH_fillColumns_55 rfl ⟨Nat.zero_le _, Nat.zero_le _⟩ ⟨rfl, ?_⟩
      refine ⟨hoff, hx, fun s hs t ht => ?_⟩
      obtain ⟨q, q1, q2⟩ := o4 t ht
      have := hj q (by omega) s hs
      rw [q2] at this
      exact this
    · rw [h91, nI_leI (by omega) (by omega), Nat.not_le] at h7
      have hoi := o1 i h7
      have ho24 : ord i < 24 := by omega
      have h1i : σ1 (b + 1) (nI i).toNatClampNeg = nI (ord i) := by rw [hcl, hoff _ (by omega)]; exact hoi.1
      refine ev_iload_n (i := 2) d_BH_fillColumns_10 rfl rfl ?_
      refine ev_bipush (v := 24) d_BH_fillColumns_11 rfl ?_
      refine ev_icmp_ge d_BH_fillColumns_13 (fun h13 => ?_) (fun h13 => ?_)
      · rw [show (24 : Int32) = nI 24 from rfl, nI_leI (by omega) (by omega)] at h13
        omega
      · refine ev_aload_n (i := 0) d_BH_fillColumns_16 rfl rfl ?_
        refine es_getR d_BH_fillColumns_17 f_BH_9 (sh_BH hb) rfl ?_
        refine ev_iload_n (i := 2) d_BH_fillColumns_20 rfl rfl ?_
        refine es_iald d_BH_fillColumns_21 (sa_BH_order hb) (ez_vinN (by omega) (by omega)) ?_
        rw [h1i]
        refine ev_istore_n (i := 3) d_BH_fillColumns_22 rfl (by decide) ?_
        dsimp only [List.set_cons_zero, List.set_cons_succ]
        refine ev_iload_n (i := 3) d_BH_fillColumns_23 rfl rfl ?_
        refine ev_bipush (v := 24) d_BH_fillColumns_24 rfl ?_
        refine es_cSI ls_BH_fillColumns_26 d_BH_fillColumns_26 c_EE_isWithin rfl rfl (Nat.le_of_ble_eq_true rfl) (fun x26 σ26 h26 => ?_) (fun _ _ h => h.elim)
        obtain ⟨rfl, e26⟩ := h26
        rw [e26]
        refine ev_if_eq d_BH_fillColumns_29 (fun h29 => ?_) (fun h29 => ?_)
        · exact absurd h29 (by rw [show (24 : Int32) = nI 24 from rfl, ew_nI (by omega) (by omega), decide_eq_true ho24]; decide)
        · refine ev_aload_n (i := 0) d_BH_fillColumns_32 rfl rfl ?_
          refine es_getR d_BH_fillColumns_33 f_BH_15 (sh_BH hb) rfl ?_
          refine ev_iload_n (i := 1) d_BH_fillColumns_36 rfl rfl ?_
          refine ev_bipush (v := 24) d_BH_fillColumns_37 rfl ?_
          refine ev_imul d_BH_fillColumns_39 ?_
          refine ev_iload_n (i := 3) d_BH_fillColumns_40 rfl rfl ?_
          refine ev_iadd d_BH_fillColumns_41 ?_
          refine ev_aload_n (i := 0) d_BH_fillColumns_42 rfl rfl ?_
          refine ev_iload_n (i := 3) d_BH_fillColumns_43 rfl rfl ?_
          refine ev_iload_n (i := 1) d_BH_fillColumns_44 rfl rfl ?_
          refine es_cVI ls_BH_fillColumns_45 d_BH_fillColumns_45 (sh_BH hb) (c_BH_workOutColumn hb hw hP4 hr1 hoi.2 hr16) rfl rfl (Nat.le_of_ble_eq_true rfl) (fun x45 σ45 h45 => ?_) (fun _ _ h => h.elim)
          obtain ⟨hy, e45⟩ := h45
          rw [e45]
          refine es_iast d_BH_fillColumns_48 (sa_BH_columns hb) (by rw [hix _ ho24]; exact ez_vinN (by omega) (by omega)) ?_
          refine ev_iinc d_BH_fillColumns_49 rfl (ez_inc _) (by decide) ?_
          dsimp only [List.set_cons_zero, List.set_cons_succ]
          refine ev_goto d_BH_fillColumns_52 ?_
          refine ev_mask [true, true, true, false] rfl ?_
          rw [hix _ ho24, nI_clamp (by omega)]
          refine ih _ (by omega) (i + 1) _ rfl ⟨by omega, fun k hk => by rw [es_upf _ _ _ _ hk]; exact hoff k hk, fun x hx2 => by rw [es_upx, if_pos rfl, if_neg (by omega)]; exact hx x hx2, fun j hj2 s hs => ?_⟩
          have hed : ∀ j2, j2 ≤ i → ∀ t, em_ed E (ord j2) t → t ≠ ord i := fun j2 hj2 t ht heq => by
            obtain ⟨q, q1, q2⟩ := o3 j2 (by omega) t ht
            have := o2 q i (by omega) h7 (q2.trans heq)
            omega
          have hfe : em_f E (tb s) (tb r) (fun u => bt (es_up σ1 (b + 2) (r * 24 + ord i) x45 (b + 2) (r * 24 + u)) s) (ord j) = em_f E (tb s) (tb r) (fun u => bt (σ1 (b + 2) (r * 24 + u)) s) (ord j) := em_f_eq hw (o1 j (by omega)).2 (fun t ht => by
            have hne := hed j (by omega) t ht
            show bt (es_up σ1 (b + 2) (r * 24 + ord i) x45 (b + 2) (r * 24 + t)) s = _
            rw [es_upx, if_pos rfl, if_neg (by omega)])
          rw [hfe, es_upx, if_pos rfl]
          by_cases hji : j = i
          · rw [hji, if_pos rfl]; exact hy s hs
          · rw [if_neg (fun h => hji (o2 j i (by omega) h7 (by omega)))]; exact hj j (by omega) s hs
theorem c_BH_fillColumns {b e : Nat} (hb : sb_BH b e) {E : em_E} {P : Nat} (hw : em_wf P E) (hP4 : P ≤ 4) (hr : rc E e σ) {r : Nat} (hr16 : r < 16) (h9 : σ b 9 = nI (em_n E)) (hO : bo_O E (σ (b + 1))) : ez_Ct l G X_BH_fillColumns [.ref b, .int (nI r)] (es_H σ) (es_Q (es_V fun σ' => (∀ k, k ≠ b + 2 → σ' k = σ k) ∧ (∀ x, (x < r * 24 ∨ r * 24 + 24 ≤ x) → σ' (b + 2) x = σ (b + 2) x) ∧ ∀ s, s < 32 → em_Sat E (tb s) (tb r) (fun u => bt (σ' (b + 2) (r * 24 + u)) s)) es_no) := by
  obtain ⟨ord, o1, o2, o3, o4⟩ := hO
  refine es_Ct_of (ls := [some (.ref b), some (.int (nI r)), none, none]) ok_BH_fillColumns rfl (Nat.le_of_ble_eq_true rfl) rfl ?_
  refine ev_iconst (v := 0) d_BH_fillColumns_0 rfl ?_
  refine ev_istore_n (i := 2) d_BH_fillColumns_1 rfl (by decide) ?_
  dsimp only [List.set_cons_zero, List.set_cons_succ]
  exact lp_BH_fillColumns_2 hb hw hP4 hr hr16 h9 o1 o2 o3 o4 _ 0 σ rfl ⟨Nat.zero_le _, fun _ _ => rfl, fun _ _ => rfl, fun j hj => by omega⟩
end
