/-! ===== Model: compare, shown, last, pairs ===== -/
section
variable {l : Launch} {G : ez_G} {σ : es_S}
theorem lp_MD_shownCount_7 {N1 N2 : Nat} {A : ps_A} {Z : ps_Z} (hR : qR Z σ) (hI : ps_I N1 N2 A Z) : ∀ (d : Nat) (a n : Nat), a = d → (a < zc Z ∧ n + ps_dep (zf Z) a + 1 = ps_n Z) → ez_Ev l G X_MD_shownCount 0 0 7 [some (.ref 46), some (.int (nI n)), some (.int (nI a))] [] (es_H σ) (es_Q (es_I fun y σ' => y = nI (ps_n Z) ∧ σ' = σ) es_no) := by
  intro d
  induction d using Nat.strongRecOn with
  | _ d ih =>
    intro a n hmm hinv
    obtain ⟨ha, hn⟩ := hinv
    have hZ := hI.1.1
    have hfx : ∀ i, 0 < i → i ≤ a → zf Z i < i := fun i i1 i2 => hI.2.2.1 i i1 (by omega)
    have hca : (nI a).toNatClampNeg = a := nI_clamp (by omega)
    refine ev_iload_n (i := 2) d_MD_shownCount_7 rfl rfl ?_
    refine ev_iconst (v := (-1)) d_MD_shownCount_8 rfl ?_
    refine ev_icmp_eq d_MD_shownCount_9 (fun h9 => ?_) (fun h9 => ?_)
    · exact absurd h9 (en_ne (by omega))
    · refine ev_iinc d_MD_shownCount_12 rfl (ez_inc _) (by decide) ?_
      dsimp only [List.set_cons_zero, List.set_cons_succ]
      refine ev_aload_n (i := 0) d_MD_shownCount_15 rfl rfl ?_
      refine es_getR d_MD_shownCount_16 f_MD_50 rfl rfl ?_
      refine ev_iload_n (i := 2) d_MD_shownCount_19 rfl rfl ?_
      refine es_iald d_MD_shownCount_20 rfl (ez_vinN (by omega) (by omega)) ?_
      refine ev_istore_n (i := 2) d_MD_shownCount_21 rfl (by decide) ?_
      dsimp only [List.set_cons_zero, List.set_cons_succ]
      refine ev_goto d_MD_shownCount_22 ?_
      by_cases ha0 : a = 0
      · rw [hca, ha0, hR.2.2.2.2.2.1 (by omega)]
        rw [ha0, ps_dep_0] at hn
        refine ev_iload_n (i := 2) d_MD_shownCount_7 rfl rfl ?_
        refine ev_iconst (v := (-1)) d_MD_shownCount_8 rfl ?_
        refine ev_icmp_eq d_MD_shownCount_9 (fun _ => ?_) (fun h => absurd rfl h)
        refine ev_iload_n (i := 1) d_MD_shownCount_25 rfl rfl ?_
        refine es_iret d_MD_shownCount_26 rfl ⟨Nat.zero_le _, Nat.zero_le _⟩ ⟨_, rfl, ?_⟩
        exact ⟨by rw [← hn], rfl⟩
      · have hc := hR.2.2.2.2.1 a (by omega) ha
        have hds := ps_dep_s (f := zf Z) (k := a) (by omega) hfx
        have hl := hfx a (by omega) (Nat.le_refl _)
        rw [hca, hc.1]
        exact ih _ (by omega) (zf Z a) (n + 1) rfl ⟨by omega, by omega⟩
theorem c_MD_shownCount {N1 N2 : Nat} {A : ps_A} {Z : ps_Z} (hR : qR Z σ) (hI : ps_I N1 N2 A Z) : ez_Ct l G X_MD_shownCount [.ref 46] (es_H σ) (es_Q (es_I fun y σ' => y = nI (ps_n Z) ∧ σ' = σ) es_no) := by
  refine es_Ct_of (ls := [some (.ref 46), none, none]) ok_MD_shownCount rfl (Nat.le_of_ble_eq_true rfl) rfl ?_
  refine ev_iconst (v := 0) d_MD_shownCount_0 rfl ?_
  refine ev_istore_n (i := 1) d_MD_shownCount_1 rfl (by decide) ?_
  dsimp only [List.set_cons_zero, List.set_cons_succ]
  refine ev_aload_n (i := 0) d_MD_shownCount_2 rfl rfl ?_
  refine es_getI d_MD_shownCount_3 f_MD_132 rfl rfl ?_
  refine ev_istore_n (i := 2) d_MD_shownCount_6 rfl (by decide) ?_
  dsimp only [List.set_cons_zero, List.set_cons_succ]
  rw [hR.2.1]
  cases hd : zd Z with
  | none =>
    refine ev_iload_n (i := 2) d_MD_shownCount_7 rfl rfl ?_
    refine ev_iconst (v := (-1)) d_MD_shownCount_8 rfl ?_
    refine ev_icmp_eq d_MD_shownCount_9 (fun _ => ?_) (fun h => absurd rfl h)
    refine ev_iload_n (i := 1) d_MD_shownCount_25 rfl rfl ?_
    refine es_iret d_MD_shownCount_26 rfl ⟨Nat.zero_le _, Nat.zero_le _⟩ ⟨_, rfl, ?_⟩
    exact ⟨by rw [ps_n0.mpr hd]; rfl, rfl⟩
  | some ab =>
    obtain ⟨x, y⟩ := ab
    exact lp_MD_shownCount_7 hR hI _ x 0 rfl ⟨(hI.2.2.2 x y hd).1, by unfold ps_n; rw [hd]; simp⟩
theorem c_MD_compare {S : sp_S} (hm : rm S σ)  : ez_Ct l G X_MD_compare [.ref 46] (es_H σ) (es_Q (es_I fun y σ' => mR S (sBoth S) (True) (v_compare S) (S) y σ' ∧ ∀ k, (k < 46 ∨ 63 < k) → σ' k = σ k) es_no) := by
  refine es_Ct_of (ls := [some (.ref 46)]) ok_MD_compare rfl (Nat.le_of_ble_eq_true rfl) rfl ?_
  refine ev_aload_n (i := 0) d_MD_compare_0 rfl rfl ?_
  refine ev_aload_n (i := 0) d_MD_compare_1 rfl rfl ?_
  refine es_cVI ls_MD_compare_2 d_MD_compare_2 rfl (c_MD_areRight hm) rfl rfl (Nat.le_of_ble_eq_true rfl) (fun x2 σ2 h2 => ?_) (fun _ _ h => h.elim)
  obtain ⟨rfl, e2⟩ := h2
  have hm2 := rm_54 hm e2
  refine ev_iconst (v := 1) d_MD_compare_5 rfl ?_
  refine es_cVI ls_MD_compare_6 d_MD_compare_6 rfl (c_MD_goes (s := true)) rfl rfl (Nat.le_of_ble_eq_true rfl) (fun x6 σ6 h6 => ?_) (fun _ _ h => h.elim)
  obtain ⟨rfl, rfl⟩ := h6
  rw [Bool.and_true]
  refine ev_if_ne d_MD_compare_9 (fun h9 => ?_) (fun h9 => ?_)
  · rw [eb_0, Bool.not_eq_false] at h9
    have hbo := bd_t.mp h9
    rw [h9, if_pos rfl, if_pos rfl]
    have hm3 := rm_thrown hm2 0
    refine ev_aload_n (i := 0) d_MD_compare_14 rfl rfl ?_
    refine es_cVV ls_MD_compare_15 d_MD_compare_15 rfl (c_MD_goOver hm3 hbo) rfl rfl (Nat.le_of_ble_eq_true rfl) (fun σ15 h15 => ?_) (fun _ _ h => h.elim)
    obtain ⟨z1, z2, z3, z4, z5, z6⟩ := h15
    have hm4 : rm S σ15 := rm_off hm3 (z6 1 (by decide)) (fun k g1 g2 => z5 k (by omega))
    have ho4 : ∀ k, (k < 46 ∨ 63 < k) → σ15 k = σ k := fun k hk => by rw [z5 k (by omega)]; rw [es_upf _ _ _ _ (by omega)]; exact e2 k (by omega)
    refine ev_aload_n (i := 0) d_MD_compare_18 rfl rfl ?_
    refine es_cVI ls_MD_compare_19 d_MD_compare_19 rfl (c_MD_shownCount z1 z2) rfl rfl (Nat.le_of_ble_eq_true rfl) (fun x19 σ19 h19 => ?_) (fun _ _ h => h.elim)
    obtain ⟨rfl, e19⟩ := h19
    rw [e19]
    refine es_iret d_MD_compare_22 rfl ⟨Nat.zero_le _, Nat.zero_le _⟩ ⟨_, rfl, ?_⟩
    exact ⟨Or.inr (Or.inr ⟨hbo, trivial, by rw [z6 0 (by decide)]; simp [es_upx], rfl, hm4⟩), ho4⟩
  · rw [eb_0] at h9
    refine ev_iconst (v := 0) d_MD_compare_12 rfl ?_
    refine es_iret d_MD_compare_13 rfl ⟨Nat.zero_le _, Nat.zero_le _⟩ ⟨_, rfl, ?_⟩
    rw [h9]
    exact ⟨Or.inl ⟨fun g => bd_f.mp h9 g, by simp [es_upx], rm_thrown hm2 _⟩, fun k hk => by rw [es_upf _ _ _ _ (by omega)]; exact e2 k (by omega)⟩
theorem c_MD_pairs {S : sp_S} (hm : rm S σ)  : ez_Ct l G X_MD_pairs [.ref 46] (es_H σ) (es_Q (es_I fun y σ' => mR S (sBoth S) (True) (v_pairs S) (S) y σ' ∧ ∀ k, (k < 46 ∨ 63 < k) → σ' k = σ k) es_no) := by
  refine es_Ct_of (ls := [some (.ref 46)]) ok_MD_pairs rfl (Nat.le_of_ble_eq_true rfl) rfl ?_
  refine ev_aload_n (i := 0) d_MD_pairs_0 rfl rfl ?_
  refine ev_aload_n (i := 0) d_MD_pairs_1 rfl rfl ?_
  refine es_cVI ls_MD_pairs_2 d_MD_pairs_2 rfl (c_MD_areRight hm) rfl rfl (Nat.le_of_ble_eq_true rfl) (fun x2 σ2 h2 => ?_) (fun _ _ h => h.elim)
  obtain ⟨rfl, e2⟩ := h2
  have hm2 := rm_54 hm e2
  refine ev_iconst (v := 1) d_MD_pairs_5 rfl ?_
  refine es_cVI ls_MD_pairs_6 d_MD_pairs_6 rfl (c_MD_goes (s := true)) rfl rfl (Nat.le_of_ble_eq_true rfl) (fun x6 σ6 h6 => ?_) (fun _ _ h => h.elim)
  obtain ⟨rfl, rfl⟩ := h6
  rw [Bool.and_true]
  refine ev_if_ne d_MD_pairs_9 (fun h9 => ?_) (fun h9 => ?_)
  · rw [eb_0, Bool.not_eq_false] at h9
    have hbo := bd_t.mp h9
    rw [h9, if_pos rfl, if_pos rfl]
    have hm3 := rm_thrown hm2 0
    refine ev_aload_n (i := 0) d_MD_pairs_14 rfl rfl ?_
    refine es_cVV ls_MD_pairs_15 d_MD_pairs_15 rfl (c_MD_goOver hm3 hbo) rfl rfl (Nat.le_of_ble_eq_true rfl) (fun σ15 h15 => ?_) (fun _ _ h => h.elim)
    obtain ⟨z1, z2, z3, z4, z5, z6⟩ := h15
    have hm4 : rm S σ15 := rm_off hm3 (z6 1 (by decide)) (fun k g1 g2 => z5 k (by omega))
    have ho4 : ∀ k, (k < 46 ∨ 63 < k) → σ15 k = σ k := fun k hk => by rw [z5 k (by omega)]; rw [es_upf _ _ _ _ (by omega)]; exact e2 k (by omega)
    refine ev_aload_n (i := 0) d_MD_pairs_18 rfl rfl ?_
    refine es_getI d_MD_pairs_19 f_MD_129 rfl rfl ?_
    refine es_iret d_MD_pairs_22 rfl ⟨Nat.zero_le _, Nat.zero_le _⟩ ⟨_, rfl, ?_⟩
    exact ⟨Or.inr (Or.inr ⟨hbo, trivial, by rw [z6 0 (by decide)]; simp [es_upx], z1.1, hm4⟩), ho4⟩
  · rw [eb_0] at h9
    refine ev_iconst (v := 0) d_MD_pairs_12 rfl ?_
    refine es_iret d_MD_pairs_13 rfl ⟨Nat.zero_le _, Nat.zero_le _⟩ ⟨_, rfl, ?_⟩
    rw [h9]
    exact ⟨Or.inl ⟨fun g => bd_f.mp h9 g, by simp [es_upx], rm_thrown hm2 _⟩, fun k hk => by rw [es_upf _ _ _ _ (by omega)]; exact e2 k (by omega)⟩
theorem c_MD_last {S : sp_S} (hm : rm S σ) {e : Int32} : ez_Ct l G X_MD_last [.ref 46, .int e] (es_H σ) (es_Q (es_I fun y σ' => mR S (g_ed e) (sBoth S) (v_last S e) (S) y σ' ∧ ∀ k, (k < 46 ∨ 63 < k) → σ' k = σ k) es_no) := by
  refine es_Ct_of (ls := [some (.ref 46), some (.int e), none]) ok_MD_last rfl (Nat.le_of_ble_eq_true rfl) rfl ?_
  refine ev_aload_n (i := 0) d_MD_last_0 rfl rfl ?_
  refine ev_iload_n (i := 1) d_MD_last_1 rfl rfl ?_
  refine ev_iconst (v := 0) d_MD_last_2 rfl ?_
  refine ev_iconst (v := 1) d_MD_last_3 rfl ?_
  refine es_cSI ls_MD_last_4 d_MD_last_4 c_MD_in rfl rfl (Nat.le_of_ble_eq_true rfl) (fun x4 σ4 h4 => ?_) (fun _ _ h => h.elim)
  obtain ⟨rfl, e4⟩ := h4
  rw [e4, ei1]
  refine ev_aload_n (i := 0) d_MD_last_7 rfl rfl ?_
  refine es_cVI ls_MD_last_8 d_MD_last_8 rfl (c_MD_areRight hm) rfl rfl (Nat.le_of_ble_eq_true rfl) (fun x8 σ8 h8 => ?_) (fun _ _ h => h.elim)
  obtain ⟨rfl, e8⟩ := h8
  have hm2 := rm_54 hm e8
  refine es_cVI ls_MD_last_11 d_MD_last_11 rfl (c_MD_goes (a := ew e 2)) rfl rfl (Nat.le_of_ble_eq_true rfl) (fun x11 σ11 h11 => ?_) (fun _ _ h => h.elim)
  obtain ⟨rfl, rfl⟩ := h11
  refine ev_if_ne d_MD_last_14 (fun h14 => ?_) (fun h14 => ?_)
  · rw [eb_0, Bool.not_eq_false, Bool.and_eq_true, bd_t] at h14
    have hbo := h14.2
    rw [if_pos h14.1, if_pos (bd_t.mpr h14.2)]
    obtain ⟨j, hj, rfl, hj2⟩ := ew_ex (n := 2) h14.1 (by omega)
    have hm3 := rm_thrown hm2 0
    refine ev_aload_n (i := 0) d_MD_last_19 rfl rfl ?_
    refine es_cVV ls_MD_last_20 d_MD_last_20 rfl (c_MD_goOver hm3 hbo) rfl rfl (Nat.le_of_ble_eq_true rfl) (fun σ20 h20 => ?_) (fun _ _ h => h.elim)
    obtain ⟨z1, z2, z3, z4, z5, z6⟩ := h20
    have hm4 : rm S σ20 := rm_off hm3 (z6 1 (by decide)) (fun k g1 g2 => z5 k (by omega))
    have ho4 : ∀ k, (k < 46 ∨ 63 < k) → σ20 k = σ k := fun k hk => by rw [z5 k (by omega)]; rw [es_upf _ _ _ _ (by omega)]; exact e8 k (by omega)
    have hq19 : ∀ t, (zd (sZ S)).map Prod.fst = some t → t < 2 ^ 31 := fun t ht => by
      cases hd : zd (sZ S) with
      | none => rw [hd] at ht; cases ht
      | some ab => rw [hd] at ht; injection ht with ht; have := (z2.2.2.2 ab.1 ab.2 hd).1; have := z2.1.1; omega
    refine ev_aload_n (i := 0) d_MD_last_23 rfl rfl ?_
    refine es_getI d_MD_last_24 f_MD_132 rfl rfl ?_
    rw [z1.2.1]
    refine ev_iconst (v := (-1)) d_MD_last_27 rfl ?_
    refine ev_icmp_ne d_MD_last_28 (fun h28 => ?_) (fun h28 => ?_)
    · rw [en_none hq19, Option.map_eq_none_iff] at h28
      obtain ⟨⟨zx, zy⟩, hzd⟩ := Option.ne_none_iff_exists'.mp h28
      have hzx := (z2.2.2.2 zx zy hzd)
      have hZ := z2.1.1
      have hqx := z2.2.1 zx hzx.1
      have hcx : (nI zx).toNatClampNeg = zx := nI_clamp (by omega)
      have h19 : σ20 46 19 = nI zx := by rw [z1.2.1, hzd]; rfl
      have h20b : σ20 46 20 = nI zy := z1.2.2.1 zx zy hzd
      have hP16 := rm_P hm
      have hzy : zy < 2 ^ sP S := hzx.2.1
      have hN1 : 2 ^ em_dl (s0 S) (em_n (s0 S)) ≤ 2 ^ 5 := Nat.pow_le_pow_right (by omega) hm.1.2.1.2.2.2.2.2.2
      have hN2 : 2 ^ em_dl (s1 S) (em_n (s1 S)) ≤ 2 ^ 5 := Nat.pow_le_pow_right (by omega) hm.1.2.2.2.2.2.2.2.2
      have hl0 := xv_lt hm.1.2.1 (zq (sZ S) zx / 32) zy
      have hl1 := xv_lt hm.1.2.2 (zq (sZ S) zx % 32) zy
      refine ev_iload_n (i := 1) d_MD_last_33 rfl rfl ?_
      refine ev_if_ne d_MD_last_34 (fun h34 => ?_) (fun h34 => ?_)
      · rw [show (0 : Int32) = nI 0 from rfl, nI_eq (by omega) (by omega)] at h34
        have hj1 : j = 1 := by omega
        subst hj1
        refine ev_aload_n (i := 0) d_MD_last_52 rfl rfl ?_
        refine es_getR d_MD_last_53 f_MD_47 rfl rfl ?_
        refine ev_aload_n (i := 0) d_MD_last_56 rfl rfl ?_
        refine es_getI d_MD_last_57 f_MD_132 rfl rfl ?_
        rw [h19]
        refine es_iald d_MD_last_60 rfl (ez_vinN (by omega) (by omega)) ?_
        rw [hcx, z1.2.2.2.1 zx hzx.1]
        refine ev_bipush (v := 32) d_MD_last_61 rfl ?_
        refine ev_irem d_MD_last_63 (by decide) ?_
        rw [show (32 : Int32) = nI 32 from rfl, pk_rem (by omega) (by omega) (by omega)]
        refine ev_istore_n (i := 2) d_MD_last_64 rfl (by decide) ?_
        dsimp only [List.set_cons_zero, List.set_cons_succ]
        refine ev_aload_n (i := 0) d_MD_last_65 rfl rfl ?_
        refine es_getR d_MD_last_66 f_MD_38 rfl rfl ?_
        refine ev_bipush (v := 16) d_MD_last_69 rfl ?_
        refine ev_bipush (v := 32) d_MD_last_71 rfl ?_
        refine ev_iload_n (i := 1) d_MD_last_73 rfl rfl ?_
        refine ev_imul d_MD_last_74 ?_
        refine ev_iload_n (i := 2) d_MD_last_75 rfl rfl ?_
        refine ev_iadd d_MD_last_76 ?_
        rw [ix32]
        refine ev_imul d_MD_last_77 ?_
        refine ev_aload_n (i := 0) d_MD_last_78 rfl rfl ?_
        refine es_getI d_MD_last_79 f_MD_138 rfl rfl ?_
        rw [h20b]
        refine ev_iadd d_MD_last_82 ?_
        rw [ix16]
        refine es_iald d_MD_last_83 rfl (ez_vinN (by omega) (by omega)) ?_
        rw [nI_clamp (by omega)]
        first | (rw [z3 _ _ hqx.1 hzy]) | (rw [z4 _ _ hqx.2 hzy])
        refine ev_bipush (v := 8) d_MD_last_84 rfl ?_
        refine ev_irem d_MD_last_86 (by decide) ?_
        rw [show (8 : Int32) = nI 8 from rfl, pk_rem (by omega) (by omega) (by omega), (xv_d _ _ _).2]
        refine es_iret d_MD_last_87 rfl ⟨Nat.zero_le _, Nat.zero_le _⟩ ⟨_, rfl, ?_⟩
        refine ⟨Or.inr (Or.inr ⟨h14.1, hbo, by rw [z6 0 (by decide)]; simp [es_upx], ?_, hm4⟩), ho4⟩
        unfold v_last ps_l1 ps_l2
        rw [hzd]
        simp only
        first | (rw [if_pos (show nI 0 = (0 : Int32) from rfl)]; rfl) | (rw [if_neg (show ¬ nI 1 = (0 : Int32) by decide)]; rfl)
      · rw [show (0 : Int32) = nI 0 from rfl, nI_eq (by omega) (by omega)] at h34
        subst h34
        refine ev_aload_n (i := 0) d_MD_last_37 rfl rfl ?_
        refine es_getR d_MD_last_38 f_MD_47 rfl rfl ?_
        refine ev_aload_n (i := 0) d_MD_last_41 rfl rfl ?_
        refine es_getI d_MD_last_42 f_MD_132 rfl rfl ?_
        rw [h19]
        refine es_iald d_MD_last_45 rfl (ez_vinN (by omega) (by omega)) ?_
        rw [hcx, z1.2.2.2.1 zx hzx.1]
        refine ev_bipush (v := 32) d_MD_last_46 rfl ?_
        refine ev_idiv d_MD_last_48 (by decide) ?_
        rw [show (32 : Int32) = nI 32 from rfl, pk_div (by omega) (by omega) (by omega)]
        refine ev_goto d_MD_last_49 ?_
        refine ev_istore_n (i := 2) d_MD_last_64 rfl (by decide) ?_
        dsimp only [List.set_cons_zero, List.set_cons_succ]
        refine ev_aload_n (i := 0) d_MD_last_65 rfl rfl ?_
        refine es_getR d_MD_last_66 f_MD_38 rfl rfl ?_
        refine ev_bipush (v := 16) d_MD_last_69 rfl ?_
        refine ev_bipush (v := 32) d_MD_last_71 rfl ?_
        refine ev_iload_n (i := 1) d_MD_last_73 rfl rfl ?_
        refine ev_imul d_MD_last_74 ?_
        refine ev_iload_n (i := 2) d_MD_last_75 rfl rfl ?_
        refine ev_iadd d_MD_last_76 ?_
        rw [ix32]
        refine ev_imul d_MD_last_77 ?_
        refine ev_aload_n (i := 0) d_MD_last_78 rfl rfl ?_
        refine es_getI d_MD_last_79 f_MD_138 rfl rfl ?_
        rw [h20b]
        refine ev_iadd d_MD_last_82 ?_
        rw [ix16]
        refine es_iald d_MD_last_83 rfl (ez_vinN (by omega) (by omega)) ?_
        rw [nI_clamp (by omega)]
        first | (rw [z3 _ _ hqx.1 hzy]) | (rw [z4 _ _ hqx.2 hzy])
        refine ev_bipush (v := 8) d_MD_last_84 rfl ?_
        refine ev_irem d_MD_last_86 (by decide) ?_
        rw [show (8 : Int32) = nI 8 from rfl, pk_rem (by omega) (by omega) (by omega), (xv_d _ _ _).2]
        refine es_iret d_MD_last_87 rfl ⟨Nat.zero_le _, Nat.zero_le _⟩ ⟨_, rfl, ?_⟩
        refine ⟨Or.inr (Or.inr ⟨h14.1, hbo, by rw [z6 0 (by decide)]; simp [es_upx], ?_, hm4⟩), ho4⟩
        unfold v_last ps_l1 ps_l2
        rw [hzd]
        simp only
        first | (rw [if_pos (show nI 0 = (0 : Int32) from rfl)]; rfl) | (rw [if_neg (show ¬ nI 1 = (0 : Int32) by decide)]; rfl)
    · rw [en_none hq19, Option.map_eq_none_iff] at h28
      refine ev_iconst (v := (-1)) d_MD_last_31 rfl ?_
      refine es_iret d_MD_last_32 rfl ⟨Nat.zero_le _, Nat.zero_le _⟩ ⟨_, rfl, ?_⟩
      refine ⟨Or.inr (Or.inr ⟨h14.1, hbo, by rw [z6 0 (by decide)]; simp [es_upx], ?_, hm4⟩), ho4⟩
      unfold v_last ps_l1 ps_l2
      rw [h28]
      simp
  · rw [eb_0] at h14
    refine ev_iconst (v := 0) d_MD_last_17 rfl ?_
    refine es_iret d_MD_last_18 rfl ⟨Nat.zero_le _, Nat.zero_le _⟩ ⟨_, rfl, ?_⟩
    by_cases hee : ew e 2 = true
    · have hb : bd (sBoth S) = false := (Bool.and_eq_false_iff.mp h14).resolve_left (by rw [hee]; decide)
      rw [if_pos hee, hb, if_neg (by decide)]
      exact ⟨Or.inr (Or.inl ⟨hee, bd_f.mp hb, by simp [es_upx], rm_thrown hm2 _⟩), fun k hk => by rw [es_upf _ _ _ _ (by omega)]; exact e8 k (by omega)⟩
    · rw [if_neg hee]
      exact ⟨Or.inl ⟨fun g => hee g, by simp [es_upx], rm_thrown hm2 _⟩, fun k hk => by rw [es_upf _ _ _ _ (by omega)]; exact e8 k (by omega)⟩
theorem lp_MD_shown_71 {N1 N2 : Nat} {A : ps_A} {Z : ps_Z} (hR : qR Z σ) (hI : ps_I N1 N2 A Z) {x y k : Nat} (hd : zd Z = some (x, y)) (hkn : ¬ ps_n Z ≤ k + 1) {Qy : Int32 → es_S → Prop} (hQ : Qy (nI (ps_row Z k)) σ) {w2 : Option Value} : ∀ (d : Nat) (j : Nat), ps_n Z - j = d → (j ≤ ps_n Z - 2 - k) → ez_Ev l G X_MD_shown 0 0 71 [some (.ref 46), some (.int (nI k)), w2, some (.int (nI (ps_n Z))), some (.int (nI (ps_anc (zf Z) x j))), some (.int (nI (ps_n Z - 2 - j)))] [] (es_H σ) (es_Q (es_I Qy) es_no) := by
  intro d
  induction d using Nat.strongRecOn with
  | _ d ih =>
    intro j hmm hj
    have hx := (hI.2.2.2 x y hd).1
    have hZ := hI.1.1
    have hn : ps_n Z = ps_dep (zf Z) x + 1 := by unfold ps_n; rw [hd]
    have hfx : ∀ i, 0 < i → i ≤ x → zf Z i < i := fun i i1 i2 => hI.2.2.1 i i1 (by omega)
    have hle := ps_dep_le x hfx
    have han := ps_anc_dep hfx j (by omega)
    have hpos : 0 < ps_anc (zf Z) x j := ps_dep_pos (fun i i1 i2 => hfx i i1 (by omega)) (by omega)
    have hcell := hR.2.2.2.2.1 _ hpos (show ps_anc (zf Z) x j < zc Z by omega)
    refine ev_iload d_MD_shown_71 rfl ?_
    refine ev_iload_n (i := 1) d_MD_shown_73 rfl rfl ?_
    refine ev_icmp_le d_MD_shown_74 (fun h74 => ?_) (fun h74 => ?_)
    · rw [nI_leI (by omega) (by omega)] at h74
      refine ev_aload_n (i := 0) d_MD_shown_92 rfl rfl ?_
      refine es_getR d_MD_shown_93 f_MD_53 rfl rfl ?_
      refine ev_iload d_MD_shown_96 rfl ?_
      refine es_iald d_MD_shown_98 rfl (ez_vinN (by omega) (by omega)) ?_
      rw [nI_clamp (by omega), hcell.2]
      refine es_iret d_MD_shown_99 rfl ⟨Nat.zero_le _, Nat.zero_le _⟩ ⟨_, rfl, ?_⟩
      have hrow : ps_row Z k = zb Z (ps_anc (zf Z) x j) := by
        unfold ps_row
        rw [hd]
        simp only
        rw [if_neg hkn, show j = ps_n Z - 2 - k by omega]
      rw [hrow] at hQ
      exact hQ
    · rw [nI_leI (by omega) (by omega)] at h74
      refine ev_aload_n (i := 0) d_MD_shown_77 rfl rfl ?_
      refine es_getR d_MD_shown_78 f_MD_50 rfl rfl ?_
      refine ev_iload d_MD_shown_81 rfl ?_
      refine es_iald d_MD_shown_83 rfl (ez_vinN (by omega) (by omega)) ?_
      rw [nI_clamp (by omega), hcell.1]
      refine ev_istore d_MD_shown_84 (by decide) ?_
      dsimp only [List.set_cons_zero, List.set_cons_succ]
      refine ev_iinc d_MD_shown_86 rfl (show nI (ps_n Z - 2 - j) + Int32.ofInt (-1) = nI (ps_n Z - 2 - (j + 1)) from by rw [show Int32.ofInt (-1) = -1 from rfl, sb_m1 (by omega)]; congr 1) (by decide) ?_
      dsimp only [List.set_cons_zero, List.set_cons_succ]
      refine ev_goto d_MD_shown_89 ?_
      exact ih _ (by omega) (j + 1) rfl (by omega)
theorem c_MD_shown {S : sp_S} (hm : rm S σ) {x : Int32} : ez_Ct l G X_MD_shown [.ref 46, .int x] (es_H σ) (es_Q (es_I fun y σ' => mR S (g_shown S x) (sBoth S) (v_shown S x) (S) y σ' ∧ ∀ k, (k < 46 ∨ 63 < k) → σ' k = σ k) es_no) := by
  refine es_Ct_of (ls := [some (.ref 46), some (.int x), none, none, none, none]) ok_MD_shown rfl (Nat.le_of_ble_eq_true rfl) rfl ?_
  refine ev_aload_n (i := 0) d_MD_shown_0 rfl rfl ?_
  refine es_cVI ls_MD_shown_1 d_MD_shown_1 rfl (c_MD_areRight hm) rfl rfl (Nat.le_of_ble_eq_true rfl) (fun x1 σ1 h1 => ?_) (fun _ _ h => h.elim)
  obtain ⟨rfl, e1⟩ := h1
  have hm2 := rm_54 hm e1
  refine ev_istore_n (i := 2) d_MD_shown_4 rfl (by decide) ?_
  dsimp only [List.set_cons_zero, List.set_cons_succ]
  refine ev_iconst (v := 0) d_MD_shown_5 rfl ?_
  refine ev_istore_n (i := 3) d_MD_shown_6 rfl (by decide) ?_
  dsimp only [List.set_cons_zero, List.set_cons_succ]
  refine ev_iload_n (i := 2) d_MD_shown_7 rfl rfl ?_
  refine ev_if_eq d_MD_shown_8 (fun h8 => ?_) (fun h8 => ?_)
  · rw [eb_0] at h8
    rw [h8]
    refine ev_aload_n (i := 0) d_MD_shown_20 rfl rfl ?_
    refine ev_iload_n (i := 1) d_MD_shown_21 rfl rfl ?_
    refine ev_if_lt d_MD_shown_22 (fun h22 => ?_) (fun h22 => ?_)
    · refine ev_iconst (v := 0) d_MD_shown_38 rfl ?_
      refine ev_iload_n (i := 2) d_MD_shown_39 rfl rfl ?_
      refine es_cVI ls_MD_shown_40 d_MD_shown_40 rfl c_MD_goes0 rfl rfl (Nat.le_of_ble_eq_true rfl) (fun x40 σ40 h40 => ?_) (fun _ _ h => h.elim)
      obtain ⟨rfl, rfl⟩ := h40
      refine ev_if_ne d_MD_shown_43 (fun h => absurd h (by decide)) (fun _ => ?_)
      refine ev_iconst (v := 0) d_MD_shown_46 rfl ?_
      refine es_iret d_MD_shown_47 rfl ⟨Nat.zero_le _, Nat.zero_le _⟩ ⟨_, rfl, ?_⟩
      first
        | exact ⟨Or.inl ⟨fun g => absurd (g.2 hbo) (by rw [hjk2]; omega), by simp [es_upx], rm_thrown hm4 _⟩, fun k hk => by rw [es_upf _ _ _ _ (by omega)]; exact ho4 k hk⟩
        | exact ⟨Or.inl ⟨fun g => Int32.not_le.mpr h22 g.1, by simp [es_upx], rm_thrown hm4 _⟩, fun k hk => by rw [es_upf _ _ _ _ (by omega)]; exact ho4 k hk⟩
        | exact ⟨Or.inr (Or.inl ⟨⟨Int32.not_lt.mp h22, fun g => absurd g (bd_f.mp h8)⟩, bd_f.mp h8, by simp [es_upx], rm_thrown hm2 _⟩), fun k hk => by rw [es_upf _ _ _ _ (by omega)]; exact e1 k (by omega)⟩
        | exact ⟨Or.inl ⟨fun g => Int32.not_le.mpr h22 g.1, by simp [es_upx], rm_thrown hm2 _⟩, fun k hk => by rw [es_upf _ _ _ _ (by omega)]; exact e1 k (by omega)⟩
    · obtain ⟨jk, hjk, rfl, hjk2⟩ := g0_ex (Int32.not_lt.mp h22)
      refine ev_iload_n (i := 2) d_MD_shown_25 rfl rfl ?_
      refine ev_if_eq d_MD_shown_26 (fun h26 => ?_) (fun h26 => ?_)
      · refine ev_iconst (v := 1) d_MD_shown_34 rfl ?_
        refine ev_goto d_MD_shown_35 ?_
        refine ev_iload_n (i := 2) d_MD_shown_39 rfl rfl ?_
        refine es_cVI ls_MD_shown_40 d_MD_shown_40 rfl (c_MD_goes (a := true) (s := false)) rfl rfl (Nat.le_of_ble_eq_true rfl) (fun x40 σ40 h40 => ?_) (fun _ _ h => h.elim)
        obtain ⟨rfl, rfl⟩ := h40
        rw [if_pos rfl, if_neg (by decide)]
        refine ev_if_ne d_MD_shown_43 (fun h => absurd h (by decide)) (fun _ => ?_)
        refine ev_iconst (v := 0) d_MD_shown_46 rfl ?_
        refine es_iret d_MD_shown_47 rfl ⟨Nat.zero_le _, Nat.zero_le _⟩ ⟨_, rfl, ?_⟩
        first
          | exact ⟨Or.inl ⟨fun g => absurd (g.2 hbo) (by rw [hjk2]; omega), by simp [es_upx], rm_thrown hm4 _⟩, fun k hk => by rw [es_upf _ _ _ _ (by omega)]; exact ho4 k hk⟩
          | exact ⟨Or.inl ⟨fun g => Int32.not_le.mpr h22 g.1, by simp [es_upx], rm_thrown hm4 _⟩, fun k hk => by rw [es_upf _ _ _ _ (by omega)]; exact ho4 k hk⟩
          | exact ⟨Or.inr (Or.inl ⟨⟨Int32.not_lt.mp h22, fun g => absurd g (bd_f.mp h8)⟩, bd_f.mp h8, by simp [es_upx], rm_thrown hm2 _⟩), fun k hk => by rw [es_upf _ _ _ _ (by omega)]; exact e1 k (by omega)⟩
          | exact ⟨Or.inl ⟨fun g => Int32.not_le.mpr h22 g.1, by simp [es_upx], rm_thrown hm2 _⟩, fun k hk => by rw [es_upf _ _ _ _ (by omega)]; exact e1 k (by omega)⟩
      · exact absurd rfl h26
  · rw [eb_0, Bool.not_eq_false] at h8
    have hbo := bd_t.mp h8
    rw [h8]
    refine ev_aload_n (i := 0) d_MD_shown_11 rfl rfl ?_
    refine es_cVV ls_MD_shown_12 d_MD_shown_12 rfl (c_MD_goOver hm2 hbo) rfl rfl (Nat.le_of_ble_eq_true rfl) (fun σ12 h12 => ?_) (fun _ _ h => h.elim)
    obtain ⟨z1, z2, z3, z4, z5, z6⟩ := h12
    have hm4 : rm S σ12 := rm_off hm2 (z6 1 (by decide)) (fun k g1 g2 => z5 k (by omega))
    have ho4 : ∀ k, (k < 46 ∨ 63 < k) → σ12 k = σ k := fun k hk => by rw [z5 k (by omega)]; exact e1 k (by omega)
    refine ev_aload_n (i := 0) d_MD_shown_15 rfl rfl ?_
    refine es_cVI ls_MD_shown_16 d_MD_shown_16 rfl (c_MD_shownCount z1 z2) rfl rfl (Nat.le_of_ble_eq_true rfl) (fun x16 σ16 h16 => ?_) (fun _ _ h => h.elim)
    obtain ⟨rfl, e16⟩ := h16
    rw [e16]
    refine ev_istore_n (i := 3) d_MD_shown_19 rfl (by decide) ?_
    dsimp only [List.set_cons_zero, List.set_cons_succ]
    refine ev_aload_n (i := 0) d_MD_shown_20 rfl rfl ?_
    refine ev_iload_n (i := 1) d_MD_shown_21 rfl rfl ?_
    refine ev_if_lt d_MD_shown_22 (fun h22 => ?_) (fun h22 => ?_)
    · refine ev_iconst (v := 0) d_MD_shown_38 rfl ?_
      refine ev_iload_n (i := 2) d_MD_shown_39 rfl rfl ?_
      refine es_cVI ls_MD_shown_40 d_MD_shown_40 rfl c_MD_goes0 rfl rfl (Nat.le_of_ble_eq_true rfl) (fun x40 σ40 h40 => ?_) (fun _ _ h => h.elim)
      obtain ⟨rfl, rfl⟩ := h40
      refine ev_if_ne d_MD_shown_43 (fun h => absurd h (by decide)) (fun _ => ?_)
      refine ev_iconst (v := 0) d_MD_shown_46 rfl ?_
      refine es_iret d_MD_shown_47 rfl ⟨Nat.zero_le _, Nat.zero_le _⟩ ⟨_, rfl, ?_⟩
      first
        | exact ⟨Or.inl ⟨fun g => absurd (g.2 hbo) (by rw [hjk2]; omega), by simp [es_upx], rm_thrown hm4 _⟩, fun k hk => by rw [es_upf _ _ _ _ (by omega)]; exact ho4 k hk⟩
        | exact ⟨Or.inl ⟨fun g => Int32.not_le.mpr h22 g.1, by simp [es_upx], rm_thrown hm4 _⟩, fun k hk => by rw [es_upf _ _ _ _ (by omega)]; exact ho4 k hk⟩
        | exact ⟨Or.inr (Or.inl ⟨⟨Int32.not_lt.mp h22, fun g => absurd g (bd_f.mp h8)⟩, bd_f.mp h8, by simp [es_upx], rm_thrown hm2 _⟩), fun k hk => by rw [es_upf _ _ _ _ (by omega)]; exact e1 k (by omega)⟩
        | exact ⟨Or.inl ⟨fun g => Int32.not_le.mpr h22 g.1, by simp [es_upx], rm_thrown hm2 _⟩, fun k hk => by rw [es_upf _ _ _ _ (by omega)]; exact e1 k (by omega)⟩
    · obtain ⟨jk, hjk, rfl, hjk2⟩ := g0_ex (Int32.not_lt.mp h22)
      refine ev_iload_n (i := 2) d_MD_shown_25 rfl rfl ?_
      refine ev_if_eq d_MD_shown_26 (fun h26 => ?_) (fun h26 => ?_)
      · exact absurd h26 (by decide)
      · refine ev_iload_n (i := 1) d_MD_shown_29 rfl rfl ?_
        refine ev_iload_n (i := 3) d_MD_shown_30 rfl rfl ?_
        refine ev_icmp_ge d_MD_shown_31 (fun h31 => ?_) (fun h31 => ?_)
        · have hn0 := ps_n_le z2
          rw [nI_leI (by omega) (by omega)] at h31
          refine ev_iconst (v := 0) d_MD_shown_38 rfl ?_
          refine ev_iload_n (i := 2) d_MD_shown_39 rfl rfl ?_
          refine es_cVI ls_MD_shown_40 d_MD_shown_40 rfl c_MD_goes0 rfl rfl (Nat.le_of_ble_eq_true rfl) (fun x40 σ40 h40 => ?_) (fun _ _ h => h.elim)
          obtain ⟨rfl, rfl⟩ := h40
          refine ev_if_ne d_MD_shown_43 (fun h => absurd h (by decide)) (fun _ => ?_)
          refine ev_iconst (v := 0) d_MD_shown_46 rfl ?_
          refine es_iret d_MD_shown_47 rfl ⟨Nat.zero_le _, Nat.zero_le _⟩ ⟨_, rfl, ?_⟩
          first
            | exact ⟨Or.inl ⟨fun g => absurd (g.2 hbo) (by rw [hjk2]; omega), by simp [es_upx], rm_thrown hm4 _⟩, fun k hk => by rw [es_upf _ _ _ _ (by omega)]; exact ho4 k hk⟩
            | exact ⟨Or.inl ⟨fun g => Int32.not_le.mpr h22 g.1, by simp [es_upx], rm_thrown hm4 _⟩, fun k hk => by rw [es_upf _ _ _ _ (by omega)]; exact ho4 k hk⟩
            | exact ⟨Or.inr (Or.inl ⟨⟨Int32.not_lt.mp h22, fun g => absurd g (bd_f.mp h8)⟩, bd_f.mp h8, by simp [es_upx], rm_thrown hm2 _⟩), fun k hk => by rw [es_upf _ _ _ _ (by omega)]; exact e1 k (by omega)⟩
            | exact ⟨Or.inl ⟨fun g => Int32.not_le.mpr h22 g.1, by simp [es_upx], rm_thrown hm2 _⟩, fun k hk => by rw [es_upf _ _ _ _ (by omega)]; exact e1 k (by omega)⟩
        · have hn0 := ps_n_le z2
          rw [nI_leI (by omega) (by omega), Nat.not_le] at h31
          refine ev_iconst (v := 1) d_MD_shown_34 rfl ?_
          refine ev_goto d_MD_shown_35 ?_
          refine ev_iload_n (i := 2) d_MD_shown_39 rfl rfl ?_
          refine es_cVI ls_MD_shown_40 d_MD_shown_40 rfl (c_MD_goes (a := true) (s := true)) rfl rfl (Nat.le_of_ble_eq_true rfl) (fun x40 σ40 h40 => ?_) (fun _ _ h => h.elim)
          obtain ⟨rfl, rfl⟩ := h40
          rw [if_pos rfl, if_pos rfl]
          refine ev_if_ne d_MD_shown_43 (fun _ => ?_) (fun h => absurd h (by decide))
          have hn0 := ps_n_le z2
          have hzn : zd (sZ S) ≠ none := fun g => by rw [ps_n0.mpr g] at h31; omega
          obtain ⟨⟨zx, zy⟩, hzd⟩ := Option.ne_none_iff_exists'.mp hzn
          have hgd : g_shown S (nI jk) := ⟨Int32.not_lt.mp h22, fun _ => by rw [hjk2]; exact h31⟩
          have hval : v_shown S (nI jk) = nI (ps_row (sZ S) jk) := by unfold v_shown; rw [hjk2]
          have hR5 : qR (sZ S) (es_up σ12 46 0 0) := qR_off z1 (fun j hj => by rw [es_upx, if_pos rfl, if_neg (by omega)]) (fun k g1 g2 => es_upf _ _ _ _ (by omega))
          have hfin : ∀ v : Int32, v = nI (ps_row (sZ S) jk) → mR S (g_shown S (nI jk)) (sBoth S) (v_shown S (nI jk)) S v (es_up σ12 46 0 0) ∧ ∀ k, (k < 46 ∨ 63 < k) → es_up σ12 46 0 0 k = σ k := fun v hv => ⟨Or.inr (Or.inr ⟨hgd, hbo, by simp [es_upx], by rw [hval]; exact hv, rm_thrown hm4 0⟩), fun k hk => by rw [es_upf _ _ _ _ (by omega)]; exact ho4 k hk⟩
          refine ev_iload_n (i := 1) d_MD_shown_48 rfl rfl ?_
          refine ev_iload_n (i := 3) d_MD_shown_49 rfl rfl ?_
          refine ev_iconst (v := 1) d_MD_shown_50 rfl ?_
          refine ev_isub d_MD_shown_51 ?_
          rw [show (1 : Int32) = nI 1 from rfl, nI_sub (by omega)]
          refine ev_icmp_ne d_MD_shown_52 (fun h52 => ?_) (fun h52 => ?_)
          · rw [nI_eq (by omega) (by omega)] at h52
            refine ev_aload_n (i := 0) d_MD_shown_60 rfl rfl ?_
            refine es_getI d_MD_shown_61 f_MD_132 rfl rfl ?_
            rw [hR5.2.1, hzd, show en (Option.map Prod.fst (some (zx, zy))) = nI zx from rfl]
            refine ev_istore d_MD_shown_64 (by decide) ?_
            dsimp only [List.set_cons_zero, List.set_cons_succ]
            refine ev_iload_n (i := 3) d_MD_shown_66 rfl rfl ?_
            refine ev_iconst (v := 2) d_MD_shown_67 rfl ?_
            refine ev_isub d_MD_shown_68 ?_
            rw [show (2 : Int32) = nI 2 from rfl, nI_sub (by omega)]
            refine ev_istore d_MD_shown_69 (by decide) ?_
            dsimp only [List.set_cons_zero, List.set_cons_succ]
            exact lp_MD_shown_71 hR5 z2 hzd (by omega) (hfin _ rfl) _ 0 rfl (by omega)
          · rw [nI_eq (by omega) (by omega)] at h52
            refine ev_aload_n (i := 0) d_MD_shown_55 rfl rfl ?_
            refine es_getI d_MD_shown_56 f_MD_138 rfl rfl ?_
            rw [hR5.2.2.1 zx zy hzd]
            refine es_iret d_MD_shown_59 rfl ⟨Nat.zero_le _, Nat.zero_le _⟩ ⟨_, rfl, ?_⟩
            refine hfin _ ?_
            unfold ps_row
            rw [hzd]
            simp only
            rw [if_pos (by omega)]
end
