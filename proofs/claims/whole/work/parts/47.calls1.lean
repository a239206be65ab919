/-! ===== EditionEqual: the calls ===== -/
section
variable {l : Launch} {G : ez_G} {σ : es_S}
theorem ci_open {S : sp_S} {σ : es_S} (hc : ci S σ) : ∀ r, r < 16 → (bt ((1 <<< (nI (2 ^ sP S) &&& 31) - 1) &&& (σ 0 8 ^^^ (-1))) r = true ↔ sop S r) := fun r hr => by
  rw [open_bit hc.1.1.2 _ (by omega), Bool.and_eq_true, decide_eq_true_eq]
  unfold sop
  by_cases h : r < 2 ^ sP S
  · have := hc.2.2.2.1 r h
    rw [← this]
    cases bt (σ 0 8) r <;> simp [h]
  · simp [h]
theorem ci_ahead {S : sp_S} {σ σ' : es_S} (hc : ci S σ) (h : ∀ k, k ≠ 9 → k ≠ 18 → σ' k = σ k) : ci S σ' := ci_keep hc (fun k hk => h k hk.2.1 hk.2.2.1)
theorem ew_ex {x : Int32} {n : Nat} (h : ew x (nI n) = true) (hn : n < 2 ^ 31) : ∃ j, j < n ∧ x = nI j ∧ tn (nI j) = j := ⟨tn x, (ew_n h hn).1, (ew_n h hn).2.symm, by rw [(ew_n h hn).2]⟩
theorem sR_lt {S : sp_S} {e : Int32} : ∀ s, sR S e s → s < 2 ^ em_dl (sE S e) (em_n (sE S e)) := fun s h => h (fun s => s < 2 ^ em_dl (sE S e) (em_n (sE S e))) (Nat.two_pow_pos _) (fun t r _ _ => em_nx_lt _ t r)
theorem sop_lt {S : sp_S} (h : sWf S) : ∀ r, sop S r → r < 16 := (sA_lt S h).2.2.2.2
theorem c_EE_behaviourOf (hl : l.stackTraces = false) {S : sp_S} (hc : ci S σ) {e : Int32} : ez_Ct l G X_EE_behaviourOf [.ref 0, .int e] (es_H σ) (es_Q (es_P fun b σ' => ew e 2 = true ∧ em_right (sE S e) ∧ b = bhp e ∧ bh (sE S e) (sP S) (sop S) (bhp e) σ' ∧ ci S σ' ∧ ∀ k, 46 ≤ k → σ' k = σ k) (fun k σ' => ((k = 0 ∧ ¬ ew e 2 = true) ∨ (k = 1 ∧ ew e 2 = true ∧ ¬ em_right (sE S e))) ∧ ci S σ' ∧ ∀ k, 46 ≤ k → σ' k = σ k)) := by
  have hed := edp_lt e
  have hbb := bhp_lt e
  have hw := sE_wf hc.1 e
  have hb := sb_edp e
  have hbh := sb_bhp e
  refine es_Ct_of (ls := [some (.ref 0), some (.int e), none]) ok_EE_behaviourOf rfl (Nat.le_of_ble_eq_true rfl) rfl ?_
  refine ev_aload_n (i := 0) d_EE_behaviourOf_0 rfl rfl ?_
  refine ev_iload_n (i := 1) d_EE_behaviourOf_1 rfl rfl ?_
  refine es_cVP ls_EE_behaviourOf_2 d_EE_behaviourOf_2 rfl (c_EE_editionOf hl) rfl rfl (Nat.le_of_ble_eq_true rfl) (fun k2 σ2 h2 => ?_) (fun k σ' h => ⟨Or.inl ⟨h.1, h.2.1⟩, by rw [h.2.2]; exact hc, fun k _ => by rw [h.2.2]⟩)
  obtain ⟨he, rfl, e2⟩ := h2
  rw [e2]
  refine es_cVI ls_EE_behaviourOf_5 d_EE_behaviourOf_5 (sh_ED hb) (c_ED_firstFault hb hw (ci_rc hc e)) rfl rfl (Nat.le_of_ble_eq_true rfl) (fun x5 σ5 h5 => ?_) (fun _ _ h => h.elim)
  obtain ⟨rfl, e5⟩ := h5
  have hc5 : ci S σ5 := ci_ahead hc (fun k g1 g2 => e5 k (by omega))
  refine ev_iconst (v := (-1)) d_EE_behaviourOf_8 rfl ?_
  refine ev_icmp_eq d_EE_behaviourOf_9 (fun h9 => ?_) (fun h9 => ?_)
  · rw [en_none (flt_b hw), em_fault_none] at h9
    refine ev_iload_n (i := 1) d_EE_behaviourOf_22 rfl rfl ?_
    refine ev_if_ne d_EE_behaviourOf_23 (fun h23 => ?_) (fun h23 => ?_)
    · refine ev_aload_n (i := 0) d_EE_behaviourOf_33 rfl rfl ?_
      refine es_getR d_EE_behaviourOf_34 f_EE_44 rfl rfl ?_
      rw [show Value.ref 28 = Value.ref (bhp e) from by rw [show bhp e = 28 from if_neg h23]]
      refine ev_astore_n (i := 2) d_EE_behaviourOf_37 rfl (by decide) ?_
      dsimp only [List.set_cons_zero, List.set_cons_succ]
      refine ev_aload_n (i := 2) d_EE_behaviourOf_38 rfl rfl ?_
      refine ev_aload_n (i := 0) d_EE_behaviourOf_39 rfl rfl ?_
      refine es_getI d_EE_behaviourOf_40 f_EE_22 rfl rfl ?_
      rw [hc5.2.1.2]
      refine ev_aload_n (i := 0) d_EE_behaviourOf_43 rfl rfl ?_
      refine es_cVI ls_EE_behaviourOf_44 d_EE_behaviourOf_44 rfl (c_EE_openRows hc5) rfl rfl (Nat.le_of_ble_eq_true rfl) (fun x44 σ44 h44 => ?_) (fun _ _ h => h.elim)
      obtain ⟨rfl, e44⟩ := h44
      rw [e44]
      refine es_cVV ls_EE_behaviourOf_47 d_EE_behaviourOf_47 (sh_BH hbh) (c_BH_learn hbh hw hc.1.1.2 (ci_rc hc5 e) h9 (ci_open hc5) (fun r hr => hr.1) (ci_bh hc5 e)) rfl rfl (Nat.le_of_ble_eq_true rfl) (fun σ47 h47 => ?_) (fun _ _ h => h.elim)
      obtain ⟨l1, l2, l3⟩ := h47
      refine ev_aload_n (i := 2) d_EE_behaviourOf_50 rfl rfl ?_
      refine es_aret d_EE_behaviourOf_51 rfl ⟨Nat.zero_le _, Nat.zero_le _⟩ ⟨_, rfl, ?_⟩
      exact ⟨he, h9, rfl, l1, ci_learn hc5 e l1 l2 l3, fun k hk => by rw [l3 k (by omega), e5 k (by omega)]⟩
    · refine ev_aload_n (i := 0) d_EE_behaviourOf_26 rfl rfl ?_
      refine es_getR d_EE_behaviourOf_27 f_EE_40 rfl rfl ?_
      rw [show Value.ref 19 = Value.ref (bhp e) from by rw [show bhp e = 19 from if_pos h23]]
      refine ev_goto d_EE_behaviourOf_30 ?_
      refine ev_astore_n (i := 2) d_EE_behaviourOf_37 rfl (by decide) ?_
      dsimp only [List.set_cons_zero, List.set_cons_succ]
      refine ev_aload_n (i := 2) d_EE_behaviourOf_38 rfl rfl ?_
      refine ev_aload_n (i := 0) d_EE_behaviourOf_39 rfl rfl ?_
      refine es_getI d_EE_behaviourOf_40 f_EE_22 rfl rfl ?_
      rw [hc5.2.1.2]
      refine ev_aload_n (i := 0) d_EE_behaviourOf_43 rfl rfl ?_
      refine es_cVI ls_EE_behaviourOf_44 d_EE_behaviourOf_44 rfl (c_EE_openRows hc5) rfl rfl (Nat.le_of_ble_eq_true rfl) (fun x44 σ44 h44 => ?_) (fun _ _ h => h.elim)
      obtain ⟨rfl, e44⟩ := h44
      rw [e44]
      refine es_cVV ls_EE_behaviourOf_47 d_EE_behaviourOf_47 (sh_BH hbh) (c_BH_learn hbh hw hc.1.1.2 (ci_rc hc5 e) h9 (ci_open hc5) (fun r hr => hr.1) (ci_bh hc5 e)) rfl rfl (Nat.le_of_ble_eq_true rfl) (fun σ47 h47 => ?_) (fun _ _ h => h.elim)
      obtain ⟨l1, l2, l3⟩ := h47
      refine ev_aload_n (i := 2) d_EE_behaviourOf_50 rfl rfl ?_
      refine es_aret d_EE_behaviourOf_51 rfl ⟨Nat.zero_le _, Nat.zero_le _⟩ ⟨_, rfl, ?_⟩
      exact ⟨he, h9, rfl, l1, ci_learn hc5 e l1 l2 l3, fun k hk => by rw [l3 k (by omega), e5 k (by omega)]⟩
  · rw [en_none (flt_b hw), em_fault_none] at h9
    refine es_throw hl th_EE_behaviourOf_12 rfl ⟨⟨by decide, by decide⟩, by decide, by decide⟩ ?_
    exact ⟨Or.inr ⟨rfl, he, h9⟩, hc5, fun k hk => e5 k (by omega)⟩
theorem ps_T_of {S : sp_S} {σ : es_S} (h1 : bh (s0 S) (sP S) (sop S) 19 σ) (h2 : bh (s1 S) (sP S) (sop S) 28 σ) : ps_T (sA S) (em_dl (s0 S) (em_n (s0 S))) (em_dl (s1 S) (em_n (s1 S))) σ :=
  ⟨⟨h1.1, fun s r hs ho => h1.2.2.1 r s ho.1 hs⟩, ⟨h2.1, fun s r hs ho => h2.2.2.1 r s ho.1 hs⟩⟩
theorem sZ_of {S : sp_S} {σ : es_S} (hw : sWf S) (h : ∃ h, ps_fin (sA S) h ∧ pc_R (sA S) (ps_at (sA S) h) σ) : pc_R (sA S) (sZ S) σ ∧ ps_I (2 ^ em_dl (s0 S) (em_n (s0 S))) (2 ^ em_dl (s1 S) (em_n (s1 S))) (sA S) (sZ S) := by
  obtain ⟨h, h1, h2⟩ := h
  unfold sZ
  rw [ps_end_eq h1]
  have g1 := Nat.pow_le_pow_right (n := 2) (by omega) hw.2.1.2.2.2.2.2.2
  have g2 := Nat.pow_le_pow_right (n := 2) (by omega) hw.2.2.2.2.2.2.2.2
  exact ⟨h2, (ps_at_I g1 g2 (sA_lt S hw).1 (sA_lt S hw).2.1 h h1.2).1⟩
theorem ci_search {S : sp_S} {σ σ' : es_S} (h : ci S σ) (h1 : ∃ h, ps_fin (sA S) h ∧ pc_R (sA S) (ps_at (sA S) h) σ') (h2 : σ' 37 12 = 1) (h3 : ∀ k, (k < 37 ∨ 41 < k) → σ' k = σ k) : ci S σ' := by
  obtain ⟨a1, a2, a3, a4, a5, a6⟩ := h
  refine ⟨a1, by rw [h3 0 (by omega)]; exact a2, ⟨rc_off a3.1 (fun k g1 g2 => h3 k (by omega)), rc_off a3.2 (fun k g1 g2 => h3 k (by omega))⟩, by rw [h3 0 (by omega)]; exact a4, ⟨?_, ?_⟩, Or.inr ⟨h2, h1⟩⟩
  · rw [h3 19 (by omega)]
    exact a5.1.imp id (fun g => ⟨g.1, bh_off g.2 (by rw [h3 19 (by omega)]) (by rw [h3 19 (by omega)]) (h3 21 (by omega)) (h3 22 (by omega)) (h3 23 (by omega))⟩)
  · rw [h3 28 (by omega)]
    exact a5.2.imp id (fun g => ⟨g.1, bh_off g.2 (by rw [h3 28 (by omega)]) (by rw [h3 28 (by omega)]) (h3 30 (by omega)) (h3 31 (by omega)) (h3 32 (by omega))⟩)
theorem c_EE_searchOfBoth (hl : l.stackTraces = false) {S : sp_S} (hc : ci S σ) : ez_Ct l G X_EE_searchOfBoth [.ref 0] (es_H σ) (es_Q (es_P fun b σ' => sBoth S ∧ b = 37 ∧ (pc_R (sA S) (sZ S) σ' ∧ ps_I (2 ^ em_dl (s0 S) (em_n (s0 S))) (2 ^ em_dl (s1 S) (em_n (s1 S))) (sA S) (sZ S)) ∧ ci S σ' ∧ ∀ k, 46 ≤ k → σ' k = σ k) (fun k σ' => (k = 1 ∧ ¬ sBoth S) ∧ ci S σ' ∧ ∀ k, 46 ≤ k → σ' k = σ k)) := by
  have hlt := sA_lt S hc.1
  refine es_Ct_of (ls := [some (.ref 0)]) ok_EE_searchOfBoth rfl (Nat.le_of_ble_eq_true rfl) rfl ?_
  refine ev_aload_n (i := 0) d_EE_searchOfBoth_0 rfl rfl ?_
  refine es_cVV ls_EE_searchOfBoth_1 d_EE_searchOfBoth_1 rfl (c_EE_checkBothRight hl hc) rfl rfl (Nat.le_of_ble_eq_true rfl) (fun σ1 h1 => ?_) (fun k σ' h => ⟨⟨h.1, h.2.1⟩, ci_ahead hc h.2.2, fun k hk => h.2.2 k (by omega) (by omega)⟩)
  obtain ⟨hbo, e1⟩ := h1
  have hc1 : ci S σ1 := ci_ahead hc e1
  refine ev_aload_n (i := 0) d_EE_searchOfBoth_4 rfl rfl ?_
  refine es_getR d_EE_searchOfBoth_5 f_EE_40 rfl rfl ?_
  refine ev_aload_n (i := 0) d_EE_searchOfBoth_8 rfl rfl ?_
  refine es_getI d_EE_searchOfBoth_9 f_EE_22 rfl rfl ?_
  rw [hc1.2.1.2]
  refine ev_aload_n (i := 0) d_EE_searchOfBoth_12 rfl rfl ?_
  refine es_cVI ls_EE_searchOfBoth_13 d_EE_searchOfBoth_13 rfl (c_EE_openRows hc1) rfl rfl (Nat.le_of_ble_eq_true rfl) (fun x13 σ13 h13 => ?_) (fun _ _ h => h.elim)
  obtain ⟨rfl, e13⟩ := h13
  rw [e13]
  refine es_cVV ls_EE_searchOfBoth_16 d_EE_searchOfBoth_16 rfl (c_BH_learn sb19 hc.1.2.1 hc.1.1.2 hc1.2.2.1.1 hbo.1 (ci_open hc1) (fun r hr => hr.1) hc1.2.2.2.2.1.1) rfl rfl (Nat.le_of_ble_eq_true rfl) (fun σ16 h16 => ?_) (fun _ _ h => h.elim)
  obtain ⟨l1, l2, l3⟩ := h16
  have hc2 : ci S σ16 := ci_learn hc1 0 l1 l2 l3
  refine ev_aload_n (i := 0) d_EE_searchOfBoth_19 rfl rfl ?_
  refine es_getR d_EE_searchOfBoth_20 f_EE_44 rfl rfl ?_
  refine ev_aload_n (i := 0) d_EE_searchOfBoth_23 rfl rfl ?_
  refine es_getI d_EE_searchOfBoth_24 f_EE_22 rfl rfl ?_
  rw [hc2.2.1.2]
  refine ev_aload_n (i := 0) d_EE_searchOfBoth_27 rfl rfl ?_
  refine es_cVI ls_EE_searchOfBoth_28 d_EE_searchOfBoth_28 rfl (c_EE_openRows hc2) rfl rfl (Nat.le_of_ble_eq_true rfl) (fun x28 σ28 h28 => ?_) (fun _ _ h => h.elim)
  obtain ⟨rfl, e28⟩ := h28
  rw [e28]
  refine es_cVV ls_EE_searchOfBoth_31 d_EE_searchOfBoth_31 rfl (c_BH_learn sb28 hc.1.2.2 hc.1.1.2 hc2.2.2.1.2 hbo.2 (ci_open hc2) (fun r hr => hr.1) hc2.2.2.2.2.1.2) rfl rfl (Nat.le_of_ble_eq_true rfl) (fun σ31 h31 => ?_) (fun _ _ h => h.elim)
  obtain ⟨m1, m2, m3⟩ := h31
  have hc3 : ci S σ31 := ci_learn hc2 1 m1 m2 m3
  have l1b : bh (s0 S) (sP S) (sop S) 19 σ31 := bh_off l1 (by rw [m3 19 (by omega)]) (by rw [m3 19 (by omega)]) (m3 21 (by omega)) (m3 22 (by omega)) (m3 23 (by omega))
  refine ev_aload_n (i := 0) d_EE_searchOfBoth_34 rfl rfl ?_
  refine es_getR d_EE_searchOfBoth_35 f_EE_52 rfl rfl ?_
  refine ev_aload_n (i := 0) d_EE_searchOfBoth_38 rfl rfl ?_
  refine es_cVI ls_EE_searchOfBoth_39 d_EE_searchOfBoth_39 rfl (c_EE_openRows hc3) rfl rfl (Nat.le_of_ble_eq_true rfl) (fun x39 σ39 h39 => ?_) (fun _ _ h => h.elim)
  obtain ⟨rfl, e39⟩ := h39
  rw [e39]
  refine es_cVV ls_EE_searchOfBoth_42 d_EE_searchOfBoth_42 rfl (c_PS_learn hc.1.2.1.2.2.2.2.2.2 hc.1.2.2.2.2.2.2.2.2 hlt.1 hlt.2.1 hlt.2.2.1 hlt.2.2.2.1 hlt.2.2.2.2 (ci_open hc3) (ps_T_of l1b m1) hc3.2.2.2.2.2) rfl rfl (Nat.le_of_ble_eq_true rfl) (fun σ42 h42 => ?_) (fun _ _ h => h.elim)
  obtain ⟨n1, n2, n3⟩ := h42
  refine ev_aload_n (i := 0) d_EE_searchOfBoth_45 rfl rfl ?_
  refine es_getR d_EE_searchOfBoth_46 f_EE_52 rfl rfl ?_
  refine es_aret d_EE_searchOfBoth_49 rfl ⟨Nat.zero_le _, Nat.zero_le _⟩ ⟨_, rfl, ?_⟩
  exact ⟨hbo, rfl, sZ_of hc.1 n1, ci_search hc3 n1 n2 n3, fun k hk => by rw [n3 k (by omega), m3 k (by omega), l3 k (by omega), e1 k (by omega) (by omega)]⟩
theorem c_EE_block (hl : l.stackTraces = false) {S : sp_S} (hc : ci S σ) {e x m : Int32} : ez_Ct l G X_EE_block [.ref 0, .int e, .int x, .int m] (es_H σ) (es_Q (es_I fun y σ' => g_block S e x m ∧ s_block S e x ∧ y = nI (em_n (sE S e)) ∧ ci (n_block S e x m) σ' ∧ ∀ k, 46 ≤ k → σ' k = σ k) (fun k σ' => ((k = 0 ∧ ¬ g_block S e x m) ∨ (k = 1 ∧ g_block S e x m ∧ ¬ s_block S e x)) ∧ ci S σ' ∧ ∀ k, 46 ≤ k → σ' k = σ k)) := by
  have hed := edp_lt e
  have hw := sE_wf hc.1 e
  have hn := hw.1
  have hb := sb_edp e
  have hr := ci_rc hc e
  refine es_Ct_of (ls := [some (.ref 0), some (.int e), some (.int x), some (.int m), none]) ok_EE_block rfl (Nat.le_of_ble_eq_true rfl) rfl ?_
  refine ev_aload_n (i := 0) d_EE_block_0 rfl rfl ?_
  refine ev_iload_n (i := 1) d_EE_block_1 rfl rfl ?_
  refine es_cVP ls_EE_block_2 d_EE_block_2 rfl (c_EE_editionOf hl) rfl rfl (Nat.le_of_ble_eq_true rfl) (fun k2 σ2 h2 => ?_) (fun k σ' h => ⟨Or.inl ⟨h.1, fun g => h.2.1 g.1⟩, by rw [h.2.2]; exact hc, fun k _ => by rw [h.2.2]⟩)
  obtain ⟨he, rfl, e2⟩ := h2
  rw [e2]
  refine ev_astore d_EE_block_5 (by decide) ?_
  dsimp only [List.set_cons_zero, List.set_cons_succ]
  refine ev_iload_n (i := 2) d_EE_block_7 rfl rfl ?_
  refine ev_bipush (v := 7) d_EE_block_8 rfl ?_
  refine es_cSI ls_EE_block_10 d_EE_block_10 c_EE_isWithin rfl rfl (Nat.le_of_ble_eq_true rfl) (fun x10 σ10 h10 => ?_) (fun _ _ h => h.elim)
  obtain ⟨rfl, e10⟩ := h10
  rw [e10]
  refine ev_if_eq d_EE_block_13 (fun h13 => ?_) (fun h13 => ?_)
  · rw [eb_0] at h13
    refine es_throw hl th_EE_block_25 rfl ⟨⟨by decide, by decide⟩, by decide, by decide⟩ ?_
    refine ⟨Or.inl ⟨rfl, fun g9 => ?_⟩, hc, fun _ _ => rfl⟩
    first
      | exact absurd (hg.mpr ⟨g9.2.2.1, g9.2.2.2⟩) (by rw [h22]; decide)
      | exact absurd g9.2.1 (by rw [h13]; decide)
  · rw [eb_0, Bool.not_eq_false] at h13
    refine ev_aload_n (i := 0) d_EE_block_16 rfl rfl ?_
    refine ev_iload_n (i := 2) d_EE_block_17 rfl rfl ?_
    refine ev_iload_n (i := 3) d_EE_block_18 rfl rfl ?_
    refine es_cVI ls_EE_block_19 d_EE_block_19 rfl (c_EE_isNumberOfKind hc h13) rfl rfl (Nat.le_of_ble_eq_true rfl) (fun x19 σ19 h19 => ?_) (fun _ _ h => h.elim)
    obtain ⟨⟨g, rfl, hg⟩, e19⟩ := h19
    rw [e19]
    refine ev_if_ne d_EE_block_22 (fun h22 => ?_) (fun h22 => ?_)
    · rw [eb_0, Bool.not_eq_false] at h22
      have hgd : g_block S e x m := ⟨he, h13, (hg.mp h22).1, (hg.mp h22).2⟩
      refine ev_aload d_EE_block_35 rfl ?_
      refine ev_iload_n (i := 2) d_EE_block_37 rfl rfl ?_
      refine es_cVI ls_EE_block_38 d_EE_block_38 (sh_ED hb) (c_ED_hasRoomFor hb hw hr) rfl rfl (Nat.le_of_ble_eq_true rfl) (fun x38 σ38 h38 => ?_) (fun _ _ h => h.elim)
      obtain ⟨rfl, e38⟩ := h38
      rw [e38]
      refine ev_if_ne d_EE_block_41 (fun h41 => ?_) (fun h41 => ?_)
      · rw [eb_0, Bool.not_eq_false] at h41
        have hst : s_block S e x := by
          simp only [Bool.and_eq_true, Bool.or_eq_true, Bool.not_eq_true, decide_eq_true_eq, decide_eq_false_iff_not] at h41
          exact ⟨h41.1, fun g6 => h41.2.resolve_left (fun g7 => by simp [g6] at g7)⟩
        refine ev_aload_n (i := 0) d_EE_block_54 rfl rfl ?_
        refine es_cVV ls_EE_block_55 d_EE_block_55 rfl c_EE_forgetAnswers rfl rfl (Nat.le_of_ble_eq_true rfl) (fun σ55 h55 => ?_) (fun _ _ h => h.elim)
        subst h55
        have hrf : rc (sE S e) (edp e) (es_up (es_up (es_up σ 19 12 0) 28 12 0) 37 12 0) := rc_off hr (fun k g1 g2 => by rw [es_upf _ _ _ _ (by omega), es_upf _ _ _ _ (by omega), es_upf _ _ _ _ (by omega)])
        obtain ⟨j, hj, rfl, hj2⟩ := ew_ex (n := 7) h13 (by omega)
        have hadd := c_ED_addBlock (l := l) (G := G) hb hw hrf (k := j) (m := m) (by omega) ⟨hst.1, fun g6 => hst.2 (by rw [g6]; rfl)⟩
        refine ev_aload d_EE_block_58 rfl ?_
        refine ev_iload_n (i := 2) d_EE_block_60 rfl rfl ?_
        refine ev_iload_n (i := 3) d_EE_block_61 rfl rfl ?_
        refine es_cVI ls_EE_block_62 d_EE_block_62 (sh_ED hb) hadd rfl rfl (Nat.le_of_ble_eq_true rfl) (fun x62 σ62 h62 => ?_) (fun _ _ h => h.elim)
        obtain ⟨rfl, a1, a2⟩ := h62
        refine es_iret d_EE_block_65 rfl ⟨Nat.zero_le _, Nat.zero_le _⟩ ⟨_, rfl, ?_⟩
        refine ⟨hgd, hst, rfl, ci_set hc e (n_block_wf hc.1 hgd hst) (by rw [hj2]; exact a1) a2, fun k hk => by rw [a2 k (by omega)]; rw [es_upf _ _ _ _ (by omega), es_upf _ _ _ _ (by omega), es_upf _ _ _ _ (by omega)]⟩
      · rw [eb_0] at h41
        have hst : ¬ s_block S e x := fun s => by
          have s1 := s.1
          have s2 := s.2
          by_cases g6 : x = 6
          · simp [s1, g6, s2 g6] at h41
          · simp [s1, g6] at h41
        refine es_throw hl th_EE_block_44 rfl ⟨⟨by decide, by decide⟩, by decide, by decide⟩ ?_
        exact ⟨Or.inr ⟨rfl, hgd, hst⟩, hc, fun _ _ => rfl⟩
    · rw [eb_0] at h22
      refine es_throw hl th_EE_block_25 rfl ⟨⟨by decide, by decide⟩, by decide, by decide⟩ ?_
      refine ⟨Or.inl ⟨rfl, fun g9 => ?_⟩, hc, fun _ _ => rfl⟩
      first
        | exact absurd (hg.mpr ⟨g9.2.2.1, g9.2.2.2⟩) (by rw [h22]; decide)
        | exact absurd g9.2.1 (by rw [h13]; decide)
theorem c_EE_wire (hl : l.stackTraces = false) {S : sp_S} (hc : ci S σ) {e x i t : Int32} : ez_Ct l G X_EE_wire [.ref 0, .int e, .int x, .int i, .int t] (es_H σ) (es_Q (es_I fun y σ' => g_wire S e x i t ∧ True ∧ y = en (em_w (sE S e) (tn x) (tn i)) ∧ ci (n_wire S e x i t) σ' ∧ ∀ k, 46 ≤ k → σ' k = σ k) (fun k σ' => ((k = 0 ∧ ¬ g_wire S e x i t) ∨ (k = 1 ∧ g_wire S e x i t ∧ ¬ True)) ∧ ci S σ' ∧ ∀ k, 46 ≤ k → σ' k = σ k)) := by
  have hed := edp_lt e
  have hw := sE_wf hc.1 e
  have hn := hw.1
  have hb := sb_edp e
  have hr := ci_rc hc e
  refine es_Ct_of (ls := [some (.ref 0), some (.int e), some (.int x), some (.int i), some (.int t), none]) ok_EE_wire rfl (Nat.le_of_ble_eq_true rfl) rfl ?_
  refine ev_aload_n (i := 0) d_EE_wire_0 rfl rfl ?_
  refine ev_iload_n (i := 1) d_EE_wire_1 rfl rfl ?_
  refine es_cVP ls_EE_wire_2 d_EE_wire_2 rfl (c_EE_editionOf hl) rfl rfl (Nat.le_of_ble_eq_true rfl) (fun k2 σ2 h2 => ?_) (fun k σ' h => ⟨Or.inl ⟨h.1, fun g => h.2.1 g.1⟩, by rw [h.2.2]; exact hc, fun k _ => by rw [h.2.2]⟩)
  obtain ⟨he, rfl, e2⟩ := h2
  rw [e2]
  refine ev_astore d_EE_wire_5 (by decide) ?_
  dsimp only [List.set_cons_zero, List.set_cons_succ]
  refine ev_aload d_EE_wire_7 rfl ?_
  refine ev_iload_n (i := 2) d_EE_wire_9 rfl rfl ?_
  refine es_cVI ls_EE_wire_10 d_EE_wire_10 (sh_ED hb) (c_ED_hasBlock hb) rfl rfl (Nat.le_of_ble_eq_true rfl) (fun x10 σ10 h10 => ?_) (fun _ _ h => h.elim)
  obtain ⟨rfl, e10⟩ := h10
  rw [e10]
  refine ev_if_eq d_EE_wire_13 (fun h13 => ?_) (fun h13 => ?_)
  · rw [eb_0, hr.1] at h13
    refine es_throw hl th_EE_wire_34 rfl ⟨⟨by decide, by decide⟩, by decide, by decide⟩ ?_
    refine ⟨Or.inl ⟨rfl, fun g9 => ?_⟩, hc, fun _ _ => rfl⟩
    first
      | exact absurd g9.2.2.2 (fun g => g.elim h31.1 (fun g => by have g8 : ew t (nI (em_n (sE S e))) = true := g; rw [h31.2] at g8; cases g8))
      | exact absurd g9.2.2.1 (by rw [h21]; decide)
      | exact absurd g9.2.1 (by unfold isB; rw [h13]; decide)
  · rw [eb_0, hr.1, Bool.not_eq_false] at h13
    refine ev_iload_n (i := 3) d_EE_wire_16 rfl rfl ?_
    refine ev_iconst (v := 2) d_EE_wire_17 rfl ?_
    refine es_cSI ls_EE_wire_18 d_EE_wire_18 c_EE_isWithin rfl rfl (Nat.le_of_ble_eq_true rfl) (fun x18 σ18 h18 => ?_) (fun _ _ h => h.elim)
    obtain ⟨rfl, e18⟩ := h18
    rw [e18]
    refine ev_if_eq d_EE_wire_21 (fun h21 => ?_) (fun h21 => ?_)
    · rw [eb_0] at h21
      refine es_throw hl th_EE_wire_34 rfl ⟨⟨by decide, by decide⟩, by decide, by decide⟩ ?_
      refine ⟨Or.inl ⟨rfl, fun g9 => ?_⟩, hc, fun _ _ => rfl⟩
      first
        | exact absurd g9.2.2.2 (fun g => g.elim h31.1 (fun g => by have g8 : ew t (nI (em_n (sE S e))) = true := g; rw [h31.2] at g8; cases g8))
        | exact absurd g9.2.2.1 (by rw [h21]; decide)
        | exact absurd g9.2.1 (by unfold isB; rw [h13]; decide)
    · rw [eb_0, Bool.not_eq_false] at h21
      refine ev_aload d_EE_wire_24 rfl ?_
      refine ev_iload d_EE_wire_26 rfl ?_
      refine es_cVI ls_EE_wire_28 d_EE_wire_28 (sh_ED hb) (c_ED_hasBlockOrNone hb) rfl rfl (Nat.le_of_ble_eq_true rfl) (fun x28 σ28 h28 => ?_) (fun _ _ h => h.elim)
      obtain ⟨rfl, e28⟩ := h28
      rw [e28]
      refine ev_if_ne d_EE_wire_31 (fun h31 => ?_) (fun h31 => ?_)
      · rw [eb_0, hr.1, Bool.not_eq_false, Bool.or_eq_true, decide_eq_true_eq] at h31
        have hgd : g_wire S e x i t := ⟨he, h13, h21, h31⟩
        refine ev_aload_n (i := 0) d_EE_wire_44 rfl rfl ?_
        refine es_cVV ls_EE_wire_45 d_EE_wire_45 rfl c_EE_forgetAnswers rfl rfl (Nat.le_of_ble_eq_true rfl) (fun σ45 h45 => ?_) (fun _ _ h => h.elim)
        subst h45
        have hrf : rc (sE S e) (edp e) (es_up (es_up (es_up σ 19 12 0) 28 12 0) 37 12 0) := rc_off hr (fun k g1 g2 => by rw [es_upf _ _ _ _ (by omega), es_upf _ _ _ _ (by omega), es_upf _ _ _ _ (by omega)])
        obtain ⟨jx, hjx, rfl, hjx2⟩ := ew_ex h13 (by omega)
        obtain ⟨ji, hji, rfl, hji2⟩ := ew_ex (n := 2) h21 (by omega)
        have hon := on_n hn hgd.2.2.2
        have hadd := c_ED_rewire (l := l) (G := G) hb hw hrf hjx hji hon.2
        rw [hon.1] at hadd
        refine ev_aload d_EE_wire_48 rfl ?_
        refine ev_iload_n (i := 2) d_EE_wire_50 rfl rfl ?_
        refine ev_iload_n (i := 3) d_EE_wire_51 rfl rfl ?_
        refine ev_iload d_EE_wire_52 rfl ?_
        refine es_cVI ls_EE_wire_54 d_EE_wire_54 (sh_ED hb) hadd rfl rfl (Nat.le_of_ble_eq_true rfl) (fun x54 σ54 h54 => ?_) (fun _ _ h => h.elim)
        obtain ⟨rfl, a1, a2⟩ := h54
        refine es_iret d_EE_wire_57 rfl ⟨Nat.zero_le _, Nat.zero_le _⟩ ⟨_, rfl, ?_⟩
        refine ⟨hgd, trivial, by rw [hjx2, hji2], ci_set hc e (n_wire_wf hc.1 hgd) (by rw [hjx2, hji2]; exact a1) a2, fun k hk => by rw [a2 k (by omega)]; rw [es_upf _ _ _ _ (by omega), es_upf _ _ _ _ (by omega), es_upf _ _ _ _ (by omega)]⟩
      · rw [eb_0, hr.1, Bool.or_eq_false_iff, decide_eq_false_iff_not] at h31
        refine es_throw hl th_EE_wire_34 rfl ⟨⟨by decide, by decide⟩, by decide, by decide⟩ ?_
        refine ⟨Or.inl ⟨rfl, fun g9 => ?_⟩, hc, fun _ _ => rfl⟩
        first
          | exact absurd g9.2.2.2 (fun g => g.elim h31.1 (fun g => by have g8 : ew t (nI (em_n (sE S e))) = true := g; rw [h31.2] at g8; cases g8))
          | exact absurd g9.2.2.1 (by rw [h21]; decide)
          | exact absurd g9.2.1 (by unfold isB; rw [h13]; decide)
theorem c_EE_out (hl : l.stackTraces = false) {S : sp_S} (hc : ci S σ) {e x t : Int32} : ez_Ct l G X_EE_out [.ref 0, .int e, .int x, .int t] (es_H σ) (es_Q (es_I fun y σ' => g_out S e x t ∧ True ∧ y = en (em_o (sE S e) (tn x)) ∧ ci (n_out S e x t) σ' ∧ ∀ k, 46 ≤ k → σ' k = σ k) (fun k σ' => ((k = 0 ∧ ¬ g_out S e x t) ∨ (k = 1 ∧ g_out S e x t ∧ ¬ True)) ∧ ci S σ' ∧ ∀ k, 46 ≤ k → σ' k = σ k)) := by
  have hed := edp_lt e
  have hw := sE_wf hc.1 e
  have hn := hw.1
  have hb := sb_edp e
  have hr := ci_rc hc e
  refine es_Ct_of (ls := [some (.ref 0), some (.int e), some (.int x), some (.int t), none]) ok_EE_out rfl (Nat.le_of_ble_eq_true rfl) rfl ?_
  refine ev_aload_n (i := 0) d_EE_out_0 rfl rfl ?_
  refine ev_iload_n (i := 1) d_EE_out_1 rfl rfl ?_
  refine es_cVP ls_EE_out_2 d_EE_out_2 rfl (c_EE_editionOf hl) rfl rfl (Nat.le_of_ble_eq_true rfl) (fun k2 σ2 h2 => ?_) (fun k σ' h => ⟨Or.inl ⟨h.1, fun g => h.2.1 g.1⟩, by rw [h.2.2]; exact hc, fun k _ => by rw [h.2.2]⟩)
  obtain ⟨he, rfl, e2⟩ := h2
  rw [e2]
  refine ev_astore d_EE_out_5 (by decide) ?_
  dsimp only [List.set_cons_zero, List.set_cons_succ]
  refine ev_iload_n (i := 2) d_EE_out_7 rfl rfl ?_
  refine ev_iconst (v := 3) d_EE_out_8 rfl ?_
  refine es_cSI ls_EE_out_9 d_EE_out_9 c_EE_isWithin rfl rfl (Nat.le_of_ble_eq_true rfl) (fun x9 σ9 h9 => ?_) (fun _ _ h => h.elim)
  obtain ⟨rfl, e9⟩ := h9
  rw [e9]
  refine ev_if_eq d_EE_out_12 (fun h12 => ?_) (fun h12 => ?_)
  · rw [eb_0] at h12
    refine es_throw hl th_EE_out_24 rfl ⟨⟨by decide, by decide⟩, by decide, by decide⟩ ?_
    refine ⟨Or.inl ⟨rfl, fun g9 => ?_⟩, hc, fun _ _ => rfl⟩
    first
      | exact absurd g9.2.2 (fun g => g.elim h21.1 (fun g => by have g8 : ew t (nI (em_n (sE S e))) = true := g; rw [h21.2] at g8; cases g8))
      | exact absurd g9.2.1 (by rw [h12]; decide)
  · rw [eb_0, Bool.not_eq_false] at h12
    refine ev_aload d_EE_out_15 rfl ?_
    refine ev_iload_n (i := 3) d_EE_out_17 rfl rfl ?_
    refine es_cVI ls_EE_out_18 d_EE_out_18 (sh_ED hb) (c_ED_hasBlockOrNone hb) rfl rfl (Nat.le_of_ble_eq_true rfl) (fun x18 σ18 h18 => ?_) (fun _ _ h => h.elim)
    obtain ⟨rfl, e18⟩ := h18
    rw [e18]
    refine ev_if_ne d_EE_out_21 (fun h21 => ?_) (fun h21 => ?_)
    · rw [eb_0, hr.1, Bool.not_eq_false, Bool.or_eq_true, decide_eq_true_eq] at h21
      have hgd : g_out S e x t := ⟨he, h12, h21⟩
      refine ev_aload_n (i := 0) d_EE_out_34 rfl rfl ?_
      refine es_cVV ls_EE_out_35 d_EE_out_35 rfl c_EE_forgetAnswers rfl rfl (Nat.le_of_ble_eq_true rfl) (fun σ35 h35 => ?_) (fun _ _ h => h.elim)
      subst h35
      have hrf : rc (sE S e) (edp e) (es_up (es_up (es_up σ 19 12 0) 28 12 0) 37 12 0) := rc_off hr (fun k g1 g2 => by rw [es_upf _ _ _ _ (by omega), es_upf _ _ _ _ (by omega), es_upf _ _ _ _ (by omega)])
      obtain ⟨jx, hjx, rfl, hjx2⟩ := ew_ex (n := 3) h12 (by omega)
      have hon := on_n hn hgd.2.2
      have hadd := c_ED_changeOutput (l := l) (G := G) hb hrf (o := on t) hjx
      rw [hon.1] at hadd
      refine ev_aload d_EE_out_38 rfl ?_
      refine ev_iload_n (i := 2) d_EE_out_40 rfl rfl ?_
      refine ev_iload_n (i := 3) d_EE_out_41 rfl rfl ?_
      refine es_cVI ls_EE_out_42 d_EE_out_42 (sh_ED hb) hadd rfl rfl (Nat.le_of_ble_eq_true rfl) (fun x42 σ42 h42 => ?_) (fun _ _ h => h.elim)
      obtain ⟨rfl, a1, a2⟩ := h42
      refine es_iret d_EE_out_45 rfl ⟨Nat.zero_le _, Nat.zero_le _⟩ ⟨_, rfl, ?_⟩
      refine ⟨hgd, trivial, by rw [hjx2], ci_set hc e (n_out_wf hc.1 hgd) (by rw [hjx2]; exact a1) a2, fun k hk => by rw [a2 k (by omega)]; rw [es_upf _ _ _ _ (by omega), es_upf _ _ _ _ (by omega), es_upf _ _ _ _ (by omega)]⟩
    · rw [eb_0, hr.1, Bool.or_eq_false_iff, decide_eq_false_iff_not] at h21
      refine es_throw hl th_EE_out_24 rfl ⟨⟨by decide, by decide⟩, by decide, by decide⟩ ?_
      refine ⟨Or.inl ⟨rfl, fun g9 => ?_⟩, hc, fun _ _ => rfl⟩
      first
        | exact absurd g9.2.2 (fun g => g.elim h21.1 (fun g => by have g8 : ew t (nI (em_n (sE S e))) = true := g; rw [h21.2] at g8; cases g8))
        | exact absurd g9.2.1 (by rw [h12]; decide)
end
