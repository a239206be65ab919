/-! ===== EditionEqual: more calls ===== -/
section
variable {l : Launch} {G : ez_G} {σ : es_S}
theorem and_eo (x : Int32) {r : Nat} (hr : r < 32) : (x &&& eo (nI r)) = 0 ↔ bt x r = false := by
  constructor
  · intro h
    have h2 : bt (x &&& eo (nI r)) r = bt 0 r := by rw [h]
    rw [b_and, bt_eo (by omega) hr, b_0] at h2
    simpa using h2
  · intro h
    apply b_ext
    intro i hi
    rw [b_and, bt_eo (by omega) hi, b_0]
    by_cases hir : i = r
    · rw [hir, h]; rfl
    · simp [hir]
theorem bar_bit (x : Int32) {r i : Nat} (hr : r < 32) (hi : i < 32) (c : Bool) : bt (if c = true then x ||| eo (nI r) else x &&& (eo (nI r) ^^^ (-1))) i = if i = r then c else bt x i := by
  cases c with
  | true =>
    simp only [if_true]
    rw [b_or, bt_eo (by omega) hi]
    by_cases h : i = r <;> simp [h]
  | false =>
    rw [if_neg (by decide), b_and, b_xor, bt_eo (by omega) hi, b_m1 i hi]
    by_cases h : i = r <;> simp [h]
theorem c_EE_bar (hl : l.stackTraces = false) {S : sp_S} (hc : ci S σ) {x : Int32} {c : Bool} : ez_Ct l G X_EE_bar [.ref 0, .int x, .int (eb c)] (es_H σ) (es_Q (es_I fun y σ' => g_row S x ∧ True ∧ y = v_bar S x ∧ ci (n_bar S x c) σ' ∧ ∀ k, 46 ≤ k → σ' k = σ k) (fun k σ' => ((k = 0 ∧ ¬ g_row S x) ∨ (k = 1 ∧ g_row S x ∧ ¬ True)) ∧ ci S σ' ∧ ∀ k, 46 ≤ k → σ' k = σ k)) := by
  have hP := ci_P hc
  refine es_Ct_of (ls := [some (.ref 0), some (.int x), some (.int (eb c)), none, none]) ok_EE_bar rfl (Nat.le_of_ble_eq_true rfl) rfl ?_
  refine ev_aload_n (i := 0) d_EE_bar_0 rfl rfl ?_
  refine ev_iload_n (i := 1) d_EE_bar_1 rfl rfl ?_
  refine es_cVV ls_EE_bar_2 d_EE_bar_2 rfl (c_EE_checkRow hl) rfl rfl (Nat.le_of_ble_eq_true rfl) (fun σ2 h2 => ?_) (fun k σ' h => ⟨Or.inl ⟨h.1, fun g => h.2.1 (by rw [hc.2.1.2]; exact g)⟩, by rw [h.2.2]; exact hc, fun k _ => by rw [h.2.2]⟩)
  obtain ⟨hx, e2⟩ := h2
  rw [e2]
  rw [hc.2.1.2] at hx
  refine ev_aload_n (i := 0) d_EE_bar_5 rfl rfl ?_
  refine es_cVV ls_EE_bar_6 d_EE_bar_6 rfl c_EE_forgetAnswers rfl rfl (Nat.le_of_ble_eq_true rfl) (fun σ6 h6 => ?_) (fun _ _ h => h.elim)
  subst h6
  obtain ⟨j, hj, rfl, hj2⟩ := ew_ex hx (by omega)
  have hbi : (1 : Int32) <<< (nI j &&& 31) = eo (nI j) := by unfold eo; rw [show (32 : Int32) = nI 32 from rfl, ew_nI (by omega) (by omega), if_pos (decide_eq_true (by omega))]
  have hvb : v_bar S (nI j) = eb (bt (σ 0 8) j) := by
    unfold v_bar
    rw [hj2]
    congr 1
    have := hc.2.2.2.1 j hj
    cases hbt : bt (σ 0 8) j with
    | true => exact @decide_eq_true _ (Classical.propDecidable _) (this.mp hbt)
    | false => exact @decide_eq_false _ (Classical.propDecidable _) (fun g => by rw [this.mpr g] at hbt; cases hbt)
  have hnb : ∀ v : Int32, v = (if c = true then σ 0 8 ||| eo (nI j) else σ 0 8 &&& (eo (nI j) ^^^ (-1))) → ci (n_bar S (nI j) c) (es_up (es_up (es_up (es_up σ 19 12 0) 28 12 0) 37 12 0) 0 8 v) ∧ ∀ k, 46 ≤ k → es_up (es_up (es_up (es_up σ 19 12 0) 28 12 0) 37 12 0) 0 8 v k = σ k := fun v hv => by
    refine ⟨ci_new hc.1 ⟨by simp [es_upx, hc.2.1.1]; rfl, by simp [es_upx, hc.2.1.2]; rfl⟩ ⟨rc_off hc.2.2.1.1 (fun k g1 g2 => by rw [es_upf _ _ _ _ (by omega), es_upf _ _ _ _ (by omega), es_upf _ _ _ _ (by omega), es_upf _ _ _ _ (by omega)]), rc_off hc.2.2.1.2 (fun k g1 g2 => by rw [es_upf _ _ _ _ (by omega), es_upf _ _ _ _ (by omega), es_upf _ _ _ _ (by omega), es_upf _ _ _ _ (by omega)])⟩ (fun r hr => ?_) (by simp [es_upx]) (by simp [es_upx]) (by simp [es_upx]), fun k hk => by rw [es_upf _ _ _ _ (by omega), es_upf _ _ _ _ (by omega), es_upf _ _ _ _ (by omega), es_upf _ _ _ _ (by omega)]⟩
    have hr2 : r < 2 ^ sP S := hr
    rw [show es_up (es_up (es_up (es_up σ 19 12 0) 28 12 0) 37 12 0) 0 8 v 0 8 = v from by simp [es_upx], hv, bar_bit _ (by omega) (by omega)]
    show _ ↔ (if r = tn (nI j) then c = true else sB S r)
    rw [hj2]
    by_cases hrj : r = j
    · rw [if_pos hrj, if_pos hrj]
    · rw [if_neg hrj, if_neg hrj]; exact hc.2.2.2.1 r hr2
  refine ev_iconst (v := 1) d_EE_bar_9 rfl ?_
  refine ev_iload_n (i := 1) d_EE_bar_10 rfl rfl ?_
  refine ev_ishl d_EE_bar_11 ?_
  rw [hbi]
  refine ev_istore_n (i := 3) d_EE_bar_12 rfl (by decide) ?_
  dsimp only [List.set_cons_zero, List.set_cons_succ]
  refine ev_aload_n (i := 0) d_EE_bar_13 rfl rfl ?_
  refine es_getI d_EE_bar_14 f_EE_65 rfl rfl ?_
  rw [es_upf _ _ _ _ (show (0 : Nat) ≠ 37 by decide), es_upf _ _ _ _ (show (0 : Nat) ≠ 28 by decide), es_upf _ _ _ _ (show (0 : Nat) ≠ 19 by decide)]
  refine ev_iload_n (i := 3) d_EE_bar_17 rfl rfl ?_
  refine ev_iand d_EE_bar_18 ?_
  refine ev_if_eq d_EE_bar_19 (fun h19 => ?_) (fun h19 => ?_)
  · rw [and_eo _ (by omega)] at h19
    refine ev_iconst (v := 0) d_EE_bar_26 rfl ?_
    refine ev_istore d_EE_bar_27 (by decide) ?_
    dsimp only [List.set_cons_zero, List.set_cons_succ]
    refine ev_aload_n (i := 0) d_EE_bar_29 rfl rfl ?_
    refine ev_iload_n (i := 2) d_EE_bar_30 rfl rfl ?_
    refine ev_if_eq d_EE_bar_31 (fun h31 => ?_) (fun h31 => ?_)
    · rw [eb_0] at h31
      refine ev_aload_n (i := 0) d_EE_bar_43 rfl rfl ?_
      refine es_getI d_EE_bar_44 f_EE_65 rfl rfl ?_
      rw [es_upf _ _ _ _ (show (0 : Nat) ≠ 37 by decide), es_upf _ _ _ _ (show (0 : Nat) ≠ 28 by decide), es_upf _ _ _ _ (show (0 : Nat) ≠ 19 by decide)]
      refine ev_iload_n (i := 3) d_EE_bar_47 rfl rfl ?_
      refine ev_iconst (v := (-1)) d_EE_bar_48 rfl ?_
      refine ev_ixor d_EE_bar_49 ?_
      refine ev_iand d_EE_bar_50 ?_
      refine es_putI d_EE_bar_51 f_EE_65 y_EE_barredRows rfl rfl ⟨rfl, rfl⟩ ?_
      refine ev_iload d_EE_bar_54 rfl ?_
      refine es_zret d_EE_bar_56 rfl rfl ⟨Nat.zero_le _, Nat.zero_le _⟩ ⟨_, rfl, ?_⟩
      refine ⟨hx, trivial, by rw [hvb, h19]; rfl, ?_⟩
      first | exact hnb _ (by rw [h31, if_pos rfl]) | exact hnb _ (by rw [h31]; rfl)
    · rw [eb_0, Bool.not_eq_false] at h31
      refine ev_aload_n (i := 0) d_EE_bar_34 rfl rfl ?_
      refine es_getI d_EE_bar_35 f_EE_65 rfl rfl ?_
      rw [es_upf _ _ _ _ (show (0 : Nat) ≠ 37 by decide), es_upf _ _ _ _ (show (0 : Nat) ≠ 28 by decide), es_upf _ _ _ _ (show (0 : Nat) ≠ 19 by decide)]
      refine ev_iload_n (i := 3) d_EE_bar_38 rfl rfl ?_
      refine ev_ior d_EE_bar_39 ?_
      refine ev_goto d_EE_bar_40 ?_
      refine es_putI d_EE_bar_51 f_EE_65 y_EE_barredRows rfl rfl ⟨rfl, rfl⟩ ?_
      refine ev_iload d_EE_bar_54 rfl ?_
      refine es_zret d_EE_bar_56 rfl rfl ⟨Nat.zero_le _, Nat.zero_le _⟩ ⟨_, rfl, ?_⟩
      refine ⟨hx, trivial, by rw [hvb, h19]; rfl, ?_⟩
      first | exact hnb _ (by rw [h31, if_pos rfl]) | exact hnb _ (by rw [h31]; rfl)
  · rw [and_eo _ (by omega), Bool.not_eq_false] at h19
    refine ev_iconst (v := 1) d_EE_bar_22 rfl ?_
    refine ev_goto d_EE_bar_23 ?_
    refine ev_istore d_EE_bar_27 (by decide) ?_
    dsimp only [List.set_cons_zero, List.set_cons_succ]
    refine ev_aload_n (i := 0) d_EE_bar_29 rfl rfl ?_
    refine ev_iload_n (i := 2) d_EE_bar_30 rfl rfl ?_
    refine ev_if_eq d_EE_bar_31 (fun h31 => ?_) (fun h31 => ?_)
    · rw [eb_0] at h31
      refine ev_aload_n (i := 0) d_EE_bar_43 rfl rfl ?_
      refine es_getI d_EE_bar_44 f_EE_65 rfl rfl ?_
      rw [es_upf _ _ _ _ (show (0 : Nat) ≠ 37 by decide), es_upf _ _ _ _ (show (0 : Nat) ≠ 28 by decide), es_upf _ _ _ _ (show (0 : Nat) ≠ 19 by decide)]
      refine ev_iload_n (i := 3) d_EE_bar_47 rfl rfl ?_
      refine ev_iconst (v := (-1)) d_EE_bar_48 rfl ?_
      refine ev_ixor d_EE_bar_49 ?_
      refine ev_iand d_EE_bar_50 ?_
      refine es_putI d_EE_bar_51 f_EE_65 y_EE_barredRows rfl rfl ⟨rfl, rfl⟩ ?_
      refine ev_iload d_EE_bar_54 rfl ?_
      refine es_zret d_EE_bar_56 rfl rfl ⟨Nat.zero_le _, Nat.zero_le _⟩ ⟨_, rfl, ?_⟩
      refine ⟨hx, trivial, by rw [hvb, h19]; rfl, ?_⟩
      first | exact hnb _ (by rw [h31, if_pos rfl]) | exact hnb _ (by rw [h31]; rfl)
    · rw [eb_0, Bool.not_eq_false] at h31
      refine ev_aload_n (i := 0) d_EE_bar_34 rfl rfl ?_
      refine es_getI d_EE_bar_35 f_EE_65 rfl rfl ?_
      rw [es_upf _ _ _ _ (show (0 : Nat) ≠ 37 by decide), es_upf _ _ _ _ (show (0 : Nat) ≠ 28 by decide), es_upf _ _ _ _ (show (0 : Nat) ≠ 19 by decide)]
      refine ev_iload_n (i := 3) d_EE_bar_38 rfl rfl ?_
      refine ev_ior d_EE_bar_39 ?_
      refine ev_goto d_EE_bar_40 ?_
      refine es_putI d_EE_bar_51 f_EE_65 y_EE_barredRows rfl rfl ⟨rfl, rfl⟩ ?_
      refine ev_iload d_EE_bar_54 rfl ?_
      refine es_zret d_EE_bar_56 rfl rfl ⟨Nat.zero_le _, Nat.zero_le _⟩ ⟨_, rfl, ?_⟩
      refine ⟨hx, trivial, by rw [hvb, h19]; rfl, ?_⟩
      first | exact hnb _ (by rw [h31, if_pos rfl]) | exact hnb _ (by rw [h31]; rfl)
theorem c_EE_wrong (hl : l.stackTraces = false) {S : sp_S} (hc : ci S σ) {e : Int32} : ez_Ct l G X_EE_wrong [.ref 0, .int e] (es_H σ) (es_Q (es_I fun y σ' => g_ed e ∧ True ∧ y = en (em_fault (sE S e)) ∧ ci (S) σ' ∧ ∀ k, 46 ≤ k → σ' k = σ k) (fun k σ' => ((k = 0 ∧ ¬ g_ed e) ∨ (k = 1 ∧ g_ed e ∧ ¬ True)) ∧ ci S σ' ∧ ∀ k, 46 ≤ k → σ' k = σ k)) := by
  have hed := edp_lt e
  have hw := sE_wf hc.1 e
  have hn := hw.1
  have hb := sb_edp e
  have hr := ci_rc hc e
  refine es_Ct_of (ls := [some (.ref 0), some (.int e)]) ok_EE_wrong rfl (Nat.le_of_ble_eq_true rfl) rfl ?_
  refine ev_aload_n (i := 0) d_EE_wrong_0 rfl rfl ?_
  refine ev_iload_n (i := 1) d_EE_wrong_1 rfl rfl ?_
  refine es_cVP ls_EE_wrong_2 d_EE_wrong_2 rfl (c_EE_editionOf hl) rfl rfl (Nat.le_of_ble_eq_true rfl) (fun k2 σ2 h2 => ?_) (fun k σ' h => ⟨Or.inl ⟨h.1, fun g => h.2.1 g⟩, by rw [h.2.2]; exact hc, fun k _ => by rw [h.2.2]⟩)
  obtain ⟨he, rfl, e2⟩ := h2
  rw [e2]
  refine es_cVI ls_EE_wrong_5 d_EE_wrong_5 (sh_ED hb) (c_ED_firstFault hb hw hr) rfl rfl (Nat.le_of_ble_eq_true rfl) (fun x5 σ5 h5 => ?_) (fun _ _ h => h.elim)
  obtain ⟨rfl, e5⟩ := h5
  refine es_iret d_EE_wrong_8 rfl ⟨Nat.zero_le _, Nat.zero_le _⟩ ⟨_, rfl, ?_⟩
  exact ⟨he, trivial, rfl, ci_ahead hc (fun k g1 g2 => e5 k (by omega)), fun k hk => e5 k (by omega)⟩
theorem c_EE_blocks (hl : l.stackTraces = false) {S : sp_S} (hc : ci S σ) {e : Int32} : ez_Ct l G X_EE_blocks [.ref 0, .int e] (es_H σ) (es_Q (es_I fun y σ' => g_ed e ∧ True ∧ y = nI (em_n (sE S e)) ∧ ci (S) σ' ∧ ∀ k, 46 ≤ k → σ' k = σ k) (fun k σ' => ((k = 0 ∧ ¬ g_ed e) ∨ (k = 1 ∧ g_ed e ∧ ¬ True)) ∧ ci S σ' ∧ ∀ k, 46 ≤ k → σ' k = σ k)) := by
  have hed := edp_lt e
  have hw := sE_wf hc.1 e
  have hn := hw.1
  have hb := sb_edp e
  have hr := ci_rc hc e
  refine es_Ct_of (ls := [some (.ref 0), some (.int e)]) ok_EE_blocks rfl (Nat.le_of_ble_eq_true rfl) rfl ?_
  refine ev_aload_n (i := 0) d_EE_blocks_0 rfl rfl ?_
  refine ev_iload_n (i := 1) d_EE_blocks_1 rfl rfl ?_
  refine es_cVP ls_EE_blocks_2 d_EE_blocks_2 rfl (c_EE_editionOf hl) rfl rfl (Nat.le_of_ble_eq_true rfl) (fun k2 σ2 h2 => ?_) (fun k σ' h => ⟨Or.inl ⟨h.1, fun g => h.2.1 g⟩, by rw [h.2.2]; exact hc, fun k _ => by rw [h.2.2]⟩)
  obtain ⟨he, rfl, e2⟩ := h2
  rw [e2]
  refine es_cVI ls_EE_blocks_5 d_EE_blocks_5 (sh_ED hb) (c_ED_countBlocks hb) rfl rfl (Nat.le_of_ble_eq_true rfl) (fun x5 σ5 h5 => ?_) (fun _ _ h => h.elim)
  obtain ⟨rfl, e5⟩ := h5
  rw [e5]
  refine es_iret d_EE_blocks_8 rfl ⟨Nat.zero_le _, Nat.zero_le _⟩ ⟨_, rfl, ?_⟩
  exact ⟨he, trivial, hr.1, hc, fun _ _ => rfl⟩
theorem g0_ex {x : Int32} (h : 0 ≤ x) : ∃ j, j < 2 ^ 31 ∧ x = nI j ∧ tn (nI j) = j := by
  obtain ⟨j, h1, h2⟩ := nI_of (Int32.not_lt.mpr h)
  exact ⟨j, h1, h2, nI_clamp h1⟩
theorem c_EE_idle (hl : l.stackTraces = false) {S : sp_S} (hc : ci S σ) {e x : Int32} : ez_Ct l G X_EE_idle [.ref 0, .int e, .int x] (es_H σ) (es_Q (es_I fun y σ' => g_state e x ∧ True ∧ y = v_idle S e x ∧ ci (S) σ' ∧ ∀ k, 46 ≤ k → σ' k = σ k) (fun k σ' => ((k = 0 ∧ ¬ g_state e x) ∨ (k = 1 ∧ g_state e x ∧ ¬ True)) ∧ ci S σ' ∧ ∀ k, 46 ≤ k → σ' k = σ k)) := by
  have hed := edp_lt e
  have hw := sE_wf hc.1 e
  have hn := hw.1
  have hb := sb_edp e
  have hr := ci_rc hc e
  refine es_Ct_of (ls := [some (.ref 0), some (.int e), some (.int x), none]) ok_EE_idle rfl (Nat.le_of_ble_eq_true rfl) rfl ?_
  refine ev_aload_n (i := 0) d_EE_idle_0 rfl rfl ?_
  refine ev_iload_n (i := 1) d_EE_idle_1 rfl rfl ?_
  refine es_cVP ls_EE_idle_2 d_EE_idle_2 rfl (c_EE_editionOf hl) rfl rfl (Nat.le_of_ble_eq_true rfl) (fun k2 σ2 h2 => ?_) (fun k σ' h => ⟨Or.inl ⟨h.1, fun g => h.2.1 g.1⟩, by rw [h.2.2]; exact hc, fun k _ => by rw [h.2.2]⟩)
  obtain ⟨he, rfl, e2⟩ := h2
  rw [e2]
  refine ev_astore_n (i := 3) d_EE_idle_5 rfl (by decide) ?_
  dsimp only [List.set_cons_zero, List.set_cons_succ]
  refine ev_iload_n (i := 2) d_EE_idle_6 rfl rfl ?_
  refine ev_if_ge d_EE_idle_7 (fun h7 => ?_) (fun h7 => ?_)
  · obtain ⟨j, hj, rfl, hj2⟩ := g0_ex h7
    refine ev_aload_n (i := 3) d_EE_idle_20 rfl rfl ?_
    refine ev_iload_n (i := 2) d_EE_idle_21 rfl rfl ?_
    refine es_cVI ls_EE_idle_22 d_EE_idle_22 (sh_ED hb) (c_ED_idleAt hb hw hr hj) rfl rfl (Nat.le_of_ble_eq_true rfl) (fun x22 σ22 h22 => ?_) (fun _ _ h => h.elim)
    obtain ⟨rfl, e22⟩ := h22
    rw [e22]
    refine es_iret d_EE_idle_25 rfl ⟨Nat.zero_le _, Nat.zero_le _⟩ ⟨_, rfl, ?_⟩
    refine ⟨⟨he, h7⟩, trivial, ?_, hc, fun _ _ => rfl⟩
    unfold v_idle
    rw [hj2]
  · refine es_throw hl th_EE_idle_10 rfl ⟨⟨by decide, by decide⟩, by decide, by decide⟩ ?_
    exact ⟨Or.inl ⟨rfl, fun g => h7 g.2⟩, hc, fun _ _ => rfl⟩
theorem c_EE_value (hl : l.stackTraces = false) {S : sp_S} (hc : ci S σ) {e x s r : Int32} : ez_Ct l G X_EE_value [.ref 0, .int e, .int x, .int s, .int r] (es_H σ) (es_Q (es_I fun y σ' => g_value S e x r ∧ em_right (sE S e) ∧ y = v_value S e x s r ∧ ci (S) σ' ∧ ∀ k, 46 ≤ k → σ' k = σ k) (fun k σ' => ((k = 0 ∧ ¬ g_value S e x r) ∨ (k = 1 ∧ g_value S e x r ∧ ¬ em_right (sE S e))) ∧ ci S σ' ∧ ∀ k, 46 ≤ k → σ' k = σ k)) := by
  have hed := edp_lt e
  have hw := sE_wf hc.1 e
  have hn := hw.1
  have hb := sb_edp e
  have hr := ci_rc hc e
  have hP := ci_P hc
  have hbhp := sb_bhp e
  refine es_Ct_of (ls := [some (.ref 0), some (.int e), some (.int x), some (.int s), some (.int r)]) ok_EE_value rfl (Nat.le_of_ble_eq_true rfl) rfl ?_
  refine ev_aload_n (i := 0) d_EE_value_0 rfl rfl ?_
  refine ev_iload_n (i := 1) d_EE_value_1 rfl rfl ?_
  refine es_cVP ls_EE_value_2 d_EE_value_2 rfl (c_EE_editionOf hl) rfl rfl (Nat.le_of_ble_eq_true rfl) (fun k2 σ2 h2 => ?_) (fun k σ' h => ⟨Or.inl ⟨h.1, fun g => h.2.1 g.1⟩, by rw [h.2.2]; exact hc, fun k _ => by rw [h.2.2]⟩)
  obtain ⟨he, rfl, e2⟩ := h2
  rw [e2]
  refine ev_iload_n (i := 2) d_EE_value_5 rfl rfl ?_
  refine es_cSV ls_EE_value_6 d_EE_value_6 (c_EE_checkBlock hl hb) rfl rfl (Nat.le_of_ble_eq_true rfl) (fun σ6 h6 => ?_) (fun k σ' h => ⟨Or.inl ⟨h.1, fun g => h.2.1 (by rw [hr.1]; exact g.2.1)⟩, by rw [h.2.2]; exact hc, fun k _ => by rw [h.2.2]⟩)
  obtain ⟨hx, e6⟩ := h6
  rw [e6]
  rw [hr.1] at hx
  refine ev_aload_n (i := 0) d_EE_value_9 rfl rfl ?_
  refine ev_iload d_EE_value_10 rfl ?_
  refine es_cVV ls_EE_value_12 d_EE_value_12 rfl (c_EE_checkRow hl) rfl rfl (Nat.le_of_ble_eq_true rfl) (fun σ12 h12 => ?_) (fun k σ' h => ⟨Or.inl ⟨h.1, fun g => h.2.1 (by rw [hc.2.1.2]; exact g.2.2)⟩, by rw [h.2.2]; exact hc, fun k _ => by rw [h.2.2]⟩)
  obtain ⟨hrr, e12⟩ := h12
  rw [e12]
  rw [hc.2.1.2] at hrr
  refine ev_aload_n (i := 0) d_EE_value_15 rfl rfl ?_
  refine ev_iload_n (i := 1) d_EE_value_16 rfl rfl ?_
  refine es_cVP ls_EE_value_17 d_EE_value_17 rfl (c_EE_behaviourOf hl hc) rfl rfl (Nat.le_of_ble_eq_true rfl) (fun k17 σ17 h17 => ?_) (fun k σ' h => ⟨h.1.imp (fun q => ⟨q.1, fun g => q.2 g.1⟩) (fun q => ⟨q.1, ⟨he, hx, hrr⟩, q.2.2⟩), h.2.1, h.2.2⟩)
  obtain ⟨he, hri, rfl, hbh, hc2, hk2⟩ := h17
  obtain ⟨jx, hjx, rfl, hjx2⟩ := ew_ex hx (by omega)
  obtain ⟨jr, hjr, rfl, hjr2⟩ := ew_ex hrr (by omega)
  have hval := c_BH_valueOf (l := l) (G := G) (σ := σ17) hbhp (o := some jx) (fun t ht => by injection ht; omega) (show jr < 16 by omega) (s := s)
  refine ev_iload_n (i := 2) d_EE_value_20 rfl rfl ?_
  refine ev_iload_n (i := 3) d_EE_value_21 rfl rfl ?_
  refine ev_iload d_EE_value_22 rfl ?_
  refine es_cVI ls_EE_value_24 d_EE_value_24 (sh_BH hbhp) hval rfl rfl (Nat.le_of_ble_eq_true rfl) (fun x24 σ24 h24 => ?_) (fun _ _ h => h.elim)
  obtain ⟨rfl, e24⟩ := h24
  rw [e24]
  refine es_iret d_EE_value_27 rfl ⟨Nat.zero_le _, Nat.zero_le _⟩ ⟨_, rfl, ?_⟩
  refine ⟨⟨he, hx, hrr⟩, hri, ?_, hc2, hk2⟩
  unfold v_value
  rw [hjx2, hjr2, em_val_eq hw hri (hbh.2.1 jr (sj s) hjr (sj_lt s)) hjx]
  rfl
theorem c_EE_tick (hl : l.stackTraces = false) {S : sp_S} (hc : ci S σ) {e s r : Int32} : ez_Ct l G X_EE_tick [.ref 0, .int e, .int s, .int r] (es_H σ) (es_Q (es_I fun y σ' => g_tick S e r ∧ em_right (sE S e) ∧ y = v_tick S e s r ∧ ci (S) σ' ∧ ∀ k, 46 ≤ k → σ' k = σ k) (fun k σ' => ((k = 0 ∧ ¬ g_tick S e r) ∨ (k = 1 ∧ g_tick S e r ∧ ¬ em_right (sE S e))) ∧ ci S σ' ∧ ∀ k, 46 ≤ k → σ' k = σ k)) := by
  have hed := edp_lt e
  have hw := sE_wf hc.1 e
  have hn := hw.1
  have hb := sb_edp e
  have hr := ci_rc hc e
  have hP := ci_P hc
  have hbhp := sb_bhp e
  have hdl := hw.2.2.2.2.2.2
  refine es_Ct_of (ls := [some (.ref 0), some (.int e), some (.int s), some (.int r), none]) ok_EE_tick rfl (Nat.le_of_ble_eq_true rfl) rfl ?_
  refine ev_aload_n (i := 0) d_EE_tick_0 rfl rfl ?_
  refine ev_iload_n (i := 3) d_EE_tick_1 rfl rfl ?_
  refine es_cVV ls_EE_tick_2 d_EE_tick_2 rfl (c_EE_checkRow hl) rfl rfl (Nat.le_of_ble_eq_true rfl) (fun σ2 h2 => ?_) (fun k σ' h => ⟨Or.inl ⟨h.1, fun g => h.2.1 (by rw [hc.2.1.2]; exact g.2)⟩, by rw [h.2.2]; exact hc, fun k _ => by rw [h.2.2]⟩)
  obtain ⟨hrr, e2⟩ := h2
  rw [e2]
  rw [hc.2.1.2] at hrr
  refine ev_aload_n (i := 0) d_EE_tick_5 rfl rfl ?_
  refine ev_iload_n (i := 1) d_EE_tick_6 rfl rfl ?_
  refine es_cVP ls_EE_tick_7 d_EE_tick_7 rfl (c_EE_behaviourOf hl hc) rfl rfl (Nat.le_of_ble_eq_true rfl) (fun k7 σ7 h7 => ?_) (fun k σ' h => ⟨h.1.imp (fun q => ⟨q.1, fun g => q.2 g.1⟩) (fun q => ⟨q.1, ⟨q.2.1, hrr⟩, q.2.2⟩), h.2.1, h.2.2⟩)
  obtain ⟨he, hri, rfl, hbh, hc2, hk2⟩ := h7
  refine ev_astore d_EE_tick_10 (by decide) ?_
  dsimp only [List.set_cons_zero, List.set_cons_succ]
  obtain ⟨jr, hjr, rfl, hjr2⟩ := ew_ex hrr (by omega)
  refine ev_aload d_EE_tick_12 rfl ?_
  refine ev_iload_n (i := 2) d_EE_tick_14 rfl rfl ?_
  refine ev_iload_n (i := 3) d_EE_tick_15 rfl rfl ?_
  refine es_cVI ls_EE_tick_16 d_EE_tick_16 (sh_BH hbhp) (c_BH_outsOfX hbhp (show jr < 16 by omega) hdl hbh.1) rfl rfl (Nat.le_of_ble_eq_true rfl) (fun x16 σ16 h16 => ?_) (fun _ _ h => h.elim)
  obtain ⟨rfl, e16⟩ := h16
  rw [e16]
  refine ev_bipush (v := 8) d_EE_tick_19 rfl ?_
  refine ev_aload d_EE_tick_21 rfl ?_
  refine ev_iload_n (i := 2) d_EE_tick_23 rfl rfl ?_
  refine ev_iload_n (i := 3) d_EE_tick_24 rfl rfl ?_
  refine es_cVI ls_EE_tick_25 d_EE_tick_25 (sh_BH hbhp) (c_BH_stateAfterX hbhp (show jr < 16 by omega) hdl hbh.1) rfl rfl (Nat.le_of_ble_eq_true rfl) (fun x25 σ25 h25 => ?_) (fun _ _ h => h.elim)
  obtain ⟨rfl, e25⟩ := h25
  rw [e25]
  refine ev_imul d_EE_tick_28 ?_
  refine ev_iadd d_EE_tick_29 ?_
  refine es_iret d_EE_tick_30 rfl ⟨Nat.zero_le _, Nat.zero_le _⟩ ⟨_, rfl, ?_⟩
  refine ⟨⟨he, hrr⟩, hri, ?_, hc2, hk2⟩
  unfold v_tick
  have hmd := em_mod hw (sj s) jr
  have htb := hbh.2.2.1 jr (sj s % 2 ^ em_dl (sE S e) (em_n (sE S e))) hjr (Nat.mod_lt _ (Nat.two_pow_pos _))
  rw [hjr2, htb.1, htb.2, hmd.1, hmd.2, show (8 : Int32) = nI 8 from rfl, nI_mul, nI_add]
theorem c_EE_reached (hl : l.stackTraces = false) {S : sp_S} (hc : ci S σ) {e : Int32} : ez_Ct l G X_EE_reached [.ref 0, .int e] (es_H σ) (es_Q (es_I fun y σ' => g_ed e ∧ em_right (sE S e) ∧ y = v_reached S e ∧ ci (S) σ' ∧ ∀ k, 46 ≤ k → σ' k = σ k) (fun k σ' => ((k = 0 ∧ ¬ g_ed e) ∨ (k = 1 ∧ g_ed e ∧ ¬ em_right (sE S e))) ∧ ci S σ' ∧ ∀ k, 46 ≤ k → σ' k = σ k)) := by
  have hbhp := sb_bhp e
  refine es_Ct_of (ls := [some (.ref 0), some (.int e)]) ok_EE_reached rfl (Nat.le_of_ble_eq_true rfl) rfl ?_
  refine ev_aload_n (i := 0) d_EE_reached_0 rfl rfl ?_
  refine ev_iload_n (i := 1) d_EE_reached_1 rfl rfl ?_
  refine es_cVP ls_EE_reached_2 d_EE_reached_2 rfl (c_EE_behaviourOf hl hc) rfl rfl (Nat.le_of_ble_eq_true rfl) (fun k2 σ2 h2 => ?_) (fun k σ' h => ⟨h.1.imp (fun q => ⟨q.1, fun g => q.2 g⟩) (fun q => ⟨q.1, q.2.1, q.2.2⟩), h.2.1, h.2.2⟩)
  obtain ⟨he, hri, rfl, hbh, hc2, hk2⟩ := h2
  refine es_cVI ls_EE_reached_5 d_EE_reached_5 (sh_BH hbhp) (c_BH_countReached hbhp (pr := sR S e) hbh.2.2.2) rfl rfl (Nat.le_of_ble_eq_true rfl) (fun x5 σ5 h5 => ?_) (fun _ _ h => h.elim)
  obtain ⟨rfl, e5⟩ := h5
  rw [e5]
  refine es_iret d_EE_reached_8 rfl ⟨Nat.zero_le _, Nat.zero_le _⟩ ⟨_, rfl, ?_⟩
  exact ⟨he, hri, rfl, hc2, hk2⟩
theorem c_EE_state (hl : l.stackTraces = false) {S : sp_S} (hc : ci S σ) {e x : Int32} : ez_Ct l G X_EE_state [.ref 0, .int e, .int x] (es_H σ) (es_Q (es_I fun y σ' => g_state e x ∧ em_right (sE S e) ∧ y = v_state S e x ∧ ci (S) σ' ∧ ∀ k, 46 ≤ k → σ' k = σ k) (fun k σ' => ((k = 0 ∧ ¬ g_state e x) ∨ (k = 1 ∧ g_state e x ∧ ¬ em_right (sE S e))) ∧ ci S σ' ∧ ∀ k, 46 ≤ k → σ' k = σ k)) := by
  have hbhp := sb_bhp e
  refine es_Ct_of (ls := [some (.ref 0), some (.int e), some (.int x)]) ok_EE_state rfl (Nat.le_of_ble_eq_true rfl) rfl ?_
  refine ev_iload_n (i := 2) d_EE_state_0 rfl rfl ?_
  refine ev_if_ge d_EE_state_1 (fun h1 => ?_) (fun h1 => ?_)
  · obtain ⟨j, hj, rfl, hj2⟩ := g0_ex h1
    refine ev_aload_n (i := 0) d_EE_state_14 rfl rfl ?_
    refine ev_iload_n (i := 1) d_EE_state_15 rfl rfl ?_
    refine es_cVP ls_EE_state_16 d_EE_state_16 rfl (c_EE_behaviourOf hl hc) rfl rfl (Nat.le_of_ble_eq_true rfl) (fun k16 σ16 h16 => ?_) (fun k σ' h => ⟨h.1.imp (fun q => ⟨q.1, fun g => q.2 g.1⟩) (fun q => ⟨q.1, ⟨q.2.1, h1⟩, q.2.2⟩), h.2.1, h.2.2⟩)
    obtain ⟨he, hri, rfl, hbh, hc2, hk2⟩ := h16
    refine ev_iload_n (i := 2) d_EE_state_19 rfl rfl ?_
    refine es_cVI ls_EE_state_20 d_EE_state_20 (sh_BH hbhp) (c_BH_reachedAt hbhp (pr := sR S e) hbh.2.2.2 hj) rfl rfl (Nat.le_of_ble_eq_true rfl) (fun x20 σ20 h20 => ?_) (fun _ _ h => h.elim)
    obtain ⟨rfl, e20⟩ := h20
    rw [e20]
    refine es_iret d_EE_state_23 rfl ⟨Nat.zero_le _, Nat.zero_le _⟩ ⟨_, rfl, ?_⟩
    refine ⟨⟨he, h1⟩, hri, ?_, hc2, hk2⟩
    unfold v_state
    rw [hj2]
  · refine es_throw hl th_EE_state_4 rfl ⟨⟨by decide, by decide⟩, by decide, by decide⟩ ?_
    exact ⟨Or.inl ⟨rfl, fun g => h1 g.2⟩, hc, fun _ _ => rfl⟩
theorem c_EE_least (hl : l.stackTraces = false) {S : sp_S} (hc : ci S σ) {e : Int32} : ez_Ct l G X_EE_least [.ref 0, .int e] (es_H σ) (es_Q (es_I fun y σ' => g_ed e ∧ em_right (sE S e) ∧ y = v_least S e ∧ ci (S) σ' ∧ ∀ k, 46 ≤ k → σ' k = σ k) (fun k σ' => ((k = 0 ∧ ¬ g_ed e) ∨ (k = 1 ∧ g_ed e ∧ ¬ em_right (sE S e))) ∧ ci S σ' ∧ ∀ k, 46 ≤ k → σ' k = σ k)) := by
  have hed := edp_lt e
  have hw := sE_wf hc.1 e
  have hn := hw.1
  have hb := sb_edp e
  have hr := ci_rc hc e
  have hbhp := sb_bhp e
  have hbb := bhp_lt e
  have hdl := hw.2.2.2.2.2.2
  have hsop := sop_lt hc.1
  refine es_Ct_of (ls := [some (.ref 0), some (.int e)]) ok_EE_least rfl (Nat.le_of_ble_eq_true rfl) rfl ?_
  refine ev_aload_n (i := 0) d_EE_least_0 rfl rfl ?_
  refine ev_iload_n (i := 1) d_EE_least_1 rfl rfl ?_
  refine es_cVP ls_EE_least_2 d_EE_least_2 rfl (c_EE_behaviourOf hl hc) rfl rfl (Nat.le_of_ble_eq_true rfl) (fun k2 σ2 h2 => ?_) (fun k σ' h => ⟨h.1.imp (fun q => ⟨q.1, fun g => q.2 g⟩) (fun q => ⟨q.1, q.2.1, q.2.2⟩), h.2.1, h.2.2⟩)
  obtain ⟨he, hri, rfl, hbh, hc2, hk2⟩ := h2
  refine ev_aload_n (i := 0) d_EE_least_5 rfl rfl ?_
  refine es_cVI ls_EE_least_6 d_EE_least_6 rfl (c_EE_openRows hc2) rfl rfl (Nat.le_of_ble_eq_true rfl) (fun x6 σ6 h6 => ?_) (fun _ _ h => h.elim)
  obtain ⟨rfl, e6⟩ := h6
  rw [e6]
  refine es_cVI ls_EE_least_9 d_EE_least_9 (sh_BH hbhp) (c_BH_countClasses hbhp hdl hbh.1 (pr := sR S e) hbh.2.2.2 sR_lt (ou := em_ou (sE S e)) (nx := em_nx (sE S e)) (em_nx_lt _) (fun s r => em_os_lt _ _) hsop (fun s r hs ho => hbh.2.2.1 r s ho.1 hs) em_rch_0 (fun s r hs ho => em_rch_n hs ho) (ci_open hc2)) rfl rfl (Nat.le_of_ble_eq_true rfl) (fun x9 σ9 h9 => ?_) (fun _ _ h => h.elim)
  obtain ⟨rfl, e9⟩ := h9
  refine es_iret d_EE_least_12 rfl ⟨Nat.zero_le _, Nat.zero_le _⟩ ⟨_, rfl, ?_⟩
  exact ⟨he, hri, rfl, ci_keep hc2 (fun k hk => e9 k (by have := hk; unfold cq at this; omega) (by have := hk; unfold cq at this; omega) (by have := hk; unfold cq at this; omega)), fun k hk => by rw [e9 k (by omega) (by omega) (by omega)]; exact hk2 k hk⟩
theorem c_EE_compare (hl : l.stackTraces = false) {S : sp_S} (hc : ci S σ)  : ez_Ct l G X_EE_compare [.ref 0] (es_H σ) (es_Q (es_I fun y σ' => sBoth S ∧ y = v_compare S ∧ ci (S) σ' ∧ ∀ k, 46 ≤ k → σ' k = σ k) (fun k σ' => (k = 1 ∧ ¬ sBoth S) ∧ ci S σ' ∧ ∀ k, 46 ≤ k → σ' k = σ k)) := by
  refine es_Ct_of (ls := [some (.ref 0)]) ok_EE_compare rfl (Nat.le_of_ble_eq_true rfl) rfl ?_
  refine ev_aload_n (i := 0) d_EE_compare_0 rfl rfl ?_
  refine es_cVP ls_EE_compare_1 d_EE_compare_1 rfl (c_EE_searchOfBoth hl hc) rfl rfl (Nat.le_of_ble_eq_true rfl) (fun k1 σ1 h1 => ?_) (fun _ _ h => h)
  obtain ⟨hbo, rfl, hZ, hc2, hk2⟩ := h1
  refine es_cVI ls_EE_compare_4 d_EE_compare_4 rfl c_PS_countShown rfl rfl (Nat.le_of_ble_eq_true rfl) (fun x4 σ4 h4 => ?_) (fun _ _ h => h.elim)
  obtain ⟨rfl, e4⟩ := h4
  rw [e4]
  refine es_iret d_EE_compare_7 rfl ⟨Nat.zero_le _, Nat.zero_le _⟩ ⟨_, rfl, ?_⟩
  exact ⟨hbo, hZ.1.2.1, hc2, hk2⟩
theorem c_EE_pairs (hl : l.stackTraces = false) {S : sp_S} (hc : ci S σ)  : ez_Ct l G X_EE_pairs [.ref 0] (es_H σ) (es_Q (es_I fun y σ' => sBoth S ∧ y = v_pairs S ∧ ci (S) σ' ∧ ∀ k, 46 ≤ k → σ' k = σ k) (fun k σ' => (k = 1 ∧ ¬ sBoth S) ∧ ci S σ' ∧ ∀ k, 46 ≤ k → σ' k = σ k)) := by
  refine es_Ct_of (ls := [some (.ref 0)]) ok_EE_pairs rfl (Nat.le_of_ble_eq_true rfl) rfl ?_
  refine ev_aload_n (i := 0) d_EE_pairs_0 rfl rfl ?_
  refine es_cVP ls_EE_pairs_1 d_EE_pairs_1 rfl (c_EE_searchOfBoth hl hc) rfl rfl (Nat.le_of_ble_eq_true rfl) (fun k1 σ1 h1 => ?_) (fun _ _ h => h)
  obtain ⟨hbo, rfl, hZ, hc2, hk2⟩ := h1
  refine es_cVI ls_EE_pairs_4 d_EE_pairs_4 rfl c_PS_countPairs rfl rfl (Nat.le_of_ble_eq_true rfl) (fun x4 σ4 h4 => ?_) (fun _ _ h => h.elim)
  obtain ⟨rfl, e4⟩ := h4
  rw [e4]
  refine es_iret d_EE_pairs_7 rfl ⟨Nat.zero_le _, Nat.zero_le _⟩ ⟨_, rfl, ?_⟩
  exact ⟨hbo, hZ.1.1, hc2, hk2⟩
theorem c_EE_last (hl : l.stackTraces = false) {S : sp_S} (hc : ci S σ) {e : Int32} : ez_Ct l G X_EE_last [.ref 0, .int e] (es_H σ) (es_Q (es_I fun y σ' => g_ed e ∧ sBoth S ∧ y = v_last S e ∧ ci (S) σ' ∧ ∀ k, 46 ≤ k → σ' k = σ k) (fun k σ' => ((k = 0 ∧ ¬ g_ed e) ∨ (k = 1 ∧ g_ed e ∧ ¬ sBoth S)) ∧ ci S σ' ∧ ∀ k, 46 ≤ k → σ' k = σ k)) := by
  refine es_Ct_of (ls := [some (.ref 0), some (.int e)]) ok_EE_last rfl (Nat.le_of_ble_eq_true rfl) rfl ?_
  refine ev_iload_n (i := 1) d_EE_last_0 rfl rfl ?_
  refine es_cSV ls_EE_last_1 d_EE_last_1 (c_EE_checkEdition hl) rfl rfl (Nat.le_of_ble_eq_true rfl) (fun σ1 h1 => ?_) (fun k σ' h => ⟨Or.inl ⟨h.1, fun g => h.2.1 g⟩, by rw [h.2.2]; exact hc, fun k _ => by rw [h.2.2]⟩)
  obtain ⟨he, e1⟩ := h1
  rw [e1]
  refine ev_aload_n (i := 0) d_EE_last_4 rfl rfl ?_
  refine es_cVP ls_EE_last_5 d_EE_last_5 rfl (c_EE_searchOfBoth hl hc) rfl rfl (Nat.le_of_ble_eq_true rfl) (fun k5 σ5 h5 => ?_) (fun k σ' h => ⟨Or.inr ⟨h.1.1, he, h.1.2⟩, h.2⟩)
  obtain ⟨hbo, rfl, hZ, hc2, hk2⟩ := h5
  refine ev_iload_n (i := 1) d_EE_last_8 rfl rfl ?_
  refine es_cVI ls_EE_last_9 d_EE_last_9 rfl c_PS_lastOuts rfl rfl (Nat.le_of_ble_eq_true rfl) (fun x9 σ9 h9 => ?_) (fun _ _ h => h.elim)
  obtain ⟨rfl, e9⟩ := h9
  rw [e9]
  refine es_iret d_EE_last_12 rfl ⟨Nat.zero_le _, Nat.zero_le _⟩ ⟨_, rfl, ?_⟩
  refine ⟨he, hbo, ?_, hc2, hk2⟩
  unfold v_last
  rw [hZ.1.2.2.2.1.1, hZ.1.2.2.2.1.2]
theorem c_EE_shown (hl : l.stackTraces = false) {S : sp_S} (hc : ci S σ) {x : Int32} : ez_Ct l G X_EE_shown [.ref 0, .int x] (es_H σ) (es_Q (es_I fun y σ' => g_shown S x ∧ sBoth S ∧ y = v_shown S x ∧ ci (S) σ' ∧ ∀ k, 46 ≤ k → σ' k = σ k) (fun k σ' => ((k = 0 ∧ ¬ g_shown S x) ∨ (k = 1 ∧ g_shown S x ∧ ¬ sBoth S)) ∧ ci S σ' ∧ ∀ k, 46 ≤ k → σ' k = σ k)) := by
  refine es_Ct_of (ls := [some (.ref 0), some (.int x), none]) ok_EE_shown rfl (Nat.le_of_ble_eq_true rfl) rfl ?_
  refine ev_iload_n (i := 1) d_EE_shown_0 rfl rfl ?_
  refine ev_if_ge d_EE_shown_1 (fun h1 => ?_) (fun h1 => ?_)
  · obtain ⟨j, hj, rfl, hj2⟩ := g0_ex h1
    refine ev_aload_n (i := 0) d_EE_shown_14 rfl rfl ?_
    refine es_cVP ls_EE_shown_15 d_EE_shown_15 rfl (c_EE_searchOfBoth hl hc) rfl rfl (Nat.le_of_ble_eq_true rfl) (fun k15 σ15 h15 => ?_) (fun k σ' h => ⟨Or.inr ⟨h.1.1, ⟨h1, fun g => absurd g h.1.2⟩, h.1.2⟩, h.2⟩)
    obtain ⟨hbo, rfl, hZ, hc2, hk2⟩ := h15
    refine ev_astore_n (i := 2) d_EE_shown_18 rfl (by decide) ?_
    dsimp only [List.set_cons_zero, List.set_cons_succ]
    refine ev_iload_n (i := 1) d_EE_shown_19 rfl rfl ?_
    refine ev_aload_n (i := 2) d_EE_shown_20 rfl rfl ?_
    refine es_cVI ls_EE_shown_21 d_EE_shown_21 rfl c_PS_countShown rfl rfl (Nat.le_of_ble_eq_true rfl) (fun x21 σ21 h21 => ?_) (fun _ _ h => h.elim)
    obtain ⟨rfl, e21⟩ := h21
    rw [e21]
    refine ev_icmp_lt d_EE_shown_24 (fun h24 => ?_) (fun h24 => ?_)
    · have hnl := ps_n_le hZ.2
      rw [hZ.1.2.1, nI_ltI (by omega) (by omega)] at h24
      have hzn : zd (sZ S) ≠ none := fun g => by rw [ps_n0.mpr g] at h24; omega
      obtain ⟨⟨zx, zy⟩, hzd⟩ := Option.ne_none_iff_exists'.mp hzn
      refine ev_aload_n (i := 2) d_EE_shown_37 rfl rfl ?_
      refine ev_iload_n (i := 1) d_EE_shown_38 rfl rfl ?_
      refine es_cVI ls_EE_shown_39 d_EE_shown_39 rfl (c_PS_shownRow hZ.1 hZ.2 hzd h24) rfl rfl (Nat.le_of_ble_eq_true rfl) (fun x39 σ39 h39 => ?_) (fun _ _ h => h.elim)
      obtain ⟨rfl, e39⟩ := h39
      rw [e39]
      refine es_iret d_EE_shown_42 rfl ⟨Nat.zero_le _, Nat.zero_le _⟩ ⟨_, rfl, ?_⟩
      refine ⟨⟨h1, fun _ => by rw [hj2]; exact h24⟩, hbo, ?_, hc2, hk2⟩
      unfold v_shown
      rw [hj2]
    · have hnl := ps_n_le hZ.2
      rw [hZ.1.2.1, nI_ltI (by omega) (by omega)] at h24
      refine es_throw hl th_EE_shown_27 rfl ⟨⟨by decide, by decide⟩, by decide, by decide⟩ ?_
      exact ⟨Or.inl ⟨rfl, fun g => h24 (by have := g.2 hbo; rw [hj2] at this; exact this)⟩, hc2, hk2⟩
  · refine es_throw hl th_EE_shown_4 rfl ⟨⟨by decide, by decide⟩, by decide, by decide⟩ ?_
    exact ⟨Or.inl ⟨rfl, fun g => h1 g.1⟩, hc, fun _ _ => rfl⟩
theorem c_EE_same (hl : l.stackTraces = false) {S : sp_S} (hc : ci S σ)  : ez_Ct l G X_EE_same [.ref 0] (es_H σ) (es_Q (es_I fun y σ' => sBoth S ∧ y = v_same S ∧ ci (S) σ' ∧ ∀ k, 46 ≤ k → σ' k = σ k) (fun k σ' => (k = 1 ∧ ¬ sBoth S) ∧ ci S σ' ∧ ∀ k, 46 ≤ k → σ' k = σ k)) := by
  refine es_Ct_of (ls := [some (.ref 0)]) ok_EE_same rfl (Nat.le_of_ble_eq_true rfl) rfl ?_
  refine ev_aload_n (i := 0) d_EE_same_0 rfl rfl ?_
  refine es_cVV ls_EE_same_1 d_EE_same_1 rfl (c_EE_checkBothRight hl hc) rfl rfl (Nat.le_of_ble_eq_true rfl) (fun σ1 h1 => ?_) (fun k σ' h => ⟨⟨h.1, h.2.1⟩, ci_ahead hc h.2.2, fun k hk => h.2.2 k (by omega) (by omega)⟩)
  obtain ⟨hbo, e1⟩ := h1
  have hc2 : ci S σ1 := ci_ahead hc e1
  refine ev_aload_n (i := 0) d_EE_same_4 rfl rfl ?_
  refine es_getR d_EE_same_5 f_EE_61 rfl rfl ?_
  refine es_cVI ls_EE_same_8 d_EE_same_8 rfl (c_MT_matchAll hc.1.2.1 hc.1.2.2 hc2.2.2.1.1 hc2.2.2.1.2 hbo.1 hbo.2) rfl rfl (Nat.le_of_ble_eq_true rfl) (fun x8 σ8 h8 => ?_) (fun _ _ h => h.elim)
  obtain ⟨⟨g, rfl, hg, hgt⟩, hm⟩ := h8
  have hc3 : ci S σ8 := ci_keep hc2 (fun k hk => hm k (Or.inl hk.1))
  refine es_zret d_EE_same_11 rfl (eb_nar _) ⟨Nat.zero_le _, Nat.zero_le _⟩ ⟨_, rfl, ?_⟩
  refine ⟨hbo, ?_, hc3, fun k hk => by rw [hm k (by omega), e1 k (by omega) (by omega)]⟩
  unfold v_same
  congr 1
  cases g with
  | true => exact (@decide_eq_true _ (Classical.propDecidable _) (hg.mp rfl)).symm
  | false => exact (@decide_eq_false _ (Classical.propDecidable _) (fun q => by cases hg.mpr q)).symm
theorem c_EE_matched (hl : l.stackTraces = false) {S : sp_S} (hc : ci S σ) {x : Int32} : ez_Ct l G X_EE_matched [.ref 0, .int x] (es_H σ) (es_Q (es_I fun y σ' => isB (s0 S) x ∧ sBoth S ∧ y = v_matched S x ∧ ci (S) σ' ∧ ∀ k, 46 ≤ k → σ' k = σ k) (fun k σ' => ((k = 0 ∧ ¬ isB (s0 S) x) ∨ (k = 1 ∧ isB (s0 S) x ∧ ¬ sBoth S)) ∧ ci S σ' ∧ ∀ k, 46 ≤ k → σ' k = σ k)) := by
  have hn1 := hc.1.2.1.1
  have hn2 := hc.1.2.2.1
  refine es_Ct_of (ls := [some (.ref 0), some (.int x)]) ok_EE_matched rfl (Nat.le_of_ble_eq_true rfl) rfl ?_
  refine ev_aload_n (i := 0) d_EE_matched_0 rfl rfl ?_
  refine es_getR d_EE_matched_1 f_EE_28 rfl rfl ?_
  refine ev_iload_n (i := 1) d_EE_matched_4 rfl rfl ?_
  refine es_cSV ls_EE_matched_5 d_EE_matched_5 (c_EE_checkBlock hl (Or.inl rfl)) rfl rfl (Nat.le_of_ble_eq_true rfl) (fun σ5 h5 => ?_) (fun k σ' h => ⟨Or.inl ⟨h.1, fun g => h.2.1 (by rw [hc.2.2.1.1.1]; exact g)⟩, by rw [h.2.2]; exact hc, fun k _ => by rw [h.2.2]⟩)
  obtain ⟨hx, e5⟩ := h5
  rw [e5]
  rw [hc.2.2.1.1.1] at hx
  refine ev_aload_n (i := 0) d_EE_matched_8 rfl rfl ?_
  refine es_cVV ls_EE_matched_9 d_EE_matched_9 rfl (c_EE_checkBothRight hl hc) rfl rfl (Nat.le_of_ble_eq_true rfl) (fun σ9 h9 => ?_) (fun k σ' h => ⟨Or.inr ⟨h.1, hx, h.2.1⟩, ci_ahead hc h.2.2, fun k hk => h.2.2 k (by omega) (by omega)⟩)
  obtain ⟨hbo, e9⟩ := h9
  have hc2 : ci S σ9 := ci_ahead hc e9
  obtain ⟨jx, hjx, rfl, hjx2⟩ := ew_ex hx (by omega)
  refine ev_aload_n (i := 0) d_EE_matched_12 rfl rfl ?_
  refine es_getR d_EE_matched_13 f_EE_61 rfl rfl ?_
  refine es_cVI ls_EE_matched_16 d_EE_matched_16 rfl (c_MT_matchAll hc.1.2.1 hc.1.2.2 hc2.2.2.1.1 hc2.2.2.1.2 hbo.1 hbo.2) rfl rfl (Nat.le_of_ble_eq_true rfl) (fun x16 σ16 h16 => ?_) (fun _ _ h => h.elim)
  obtain ⟨⟨g, rfl, hg, hgt⟩, hm⟩ := h16
  have hc3 : ci S σ16 := ci_keep hc2 (fun k hk => hm k (Or.inl hk.1))
  refine ev_if_eq d_EE_matched_19 (fun h19 => ?_) (fun h19 => ?_)
  · rw [eb_0] at h19
    refine ev_iconst (v := (-1)) d_EE_matched_33 rfl ?_
    refine es_iret d_EE_matched_34 rfl ⟨Nat.zero_le _, Nat.zero_le _⟩ ⟨_, rfl, ?_⟩
    refine ⟨hx, hbo, ?_, hc3, fun k hk => by rw [hm k (by omega), e9 k (by omega) (by omega)]⟩
    unfold v_matched
    rw [hjx2]
    first
      | (rw [em_fst_none (fun u _ q => by have := hg.mpr q.1; rw [h19] at this; cases this)]
         rfl)
      | (have hsm := hg.mp h19
         obtain ⟨o, ho, hM⟩ := hgt h19 jx (by omega)
         rw [ho]
         cases o with
         | none => rw [em_fst_none (fun u _ q => by have := (hM u).mp q.2; cases this)]
         | some c =>
           have hc9 := (hM c).mpr rfl
           rw [em_fst_some (p := fun c => em_same (s0 S) (s1 S) ∧ em_M (s0 S) (s1 S) jx c) ⟨hsm, hc9⟩ (fun u hu q => by have := (hM u).mp q.2; injection this; omega) (by have := (em_M_lt hc.1.2.1 hc.1.2.2 hc9).2; omega)])
  · rw [eb_0, Bool.not_eq_false] at h19
    refine ev_aload_n (i := 0) d_EE_matched_22 rfl rfl ?_
    refine es_getR d_EE_matched_23 f_EE_61 rfl rfl ?_
    refine ev_iload_n (i := 1) d_EE_matched_26 rfl rfl ?_
    refine es_cVI ls_EE_matched_27 d_EE_matched_27 rfl (c_MT_partnerOf (show jx < 24 by omega)) rfl rfl (Nat.le_of_ble_eq_true rfl) (fun x27 σ27 h27 => ?_) (fun _ _ h => h.elim)
    obtain ⟨rfl, e27⟩ := h27
    rw [e27]
    refine ev_goto d_EE_matched_30 ?_
    refine es_iret d_EE_matched_34 rfl ⟨Nat.zero_le _, Nat.zero_le _⟩ ⟨_, rfl, ?_⟩
    refine ⟨hx, hbo, ?_, hc3, fun k hk => by rw [hm k (by omega), e9 k (by omega) (by omega)]⟩
    unfold v_matched
    rw [hjx2]
    first
      | (rw [em_fst_none (fun u _ q => by have := hg.mpr q.1; rw [h19] at this; cases this)]
         rfl)
      | (have hsm := hg.mp h19
         obtain ⟨o, ho, hM⟩ := hgt h19 jx (by omega)
         rw [ho]
         cases o with
         | none => rw [em_fst_none (fun u _ q => by have := (hM u).mp q.2; cases this)]
         | some c =>
           have hc9 := (hM c).mpr rfl
           rw [em_fst_some (p := fun c => em_same (s0 S) (s1 S) ∧ em_M (s0 S) (s1 S) jx c) ⟨hsm, hc9⟩ (fun u hu q => by have := (hM u).mp q.2; injection this; omega) (by have := (em_M_lt hc.1.2.1 hc.1.2.2 hc9).2; omega)])
end
