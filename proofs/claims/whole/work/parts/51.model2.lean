/-! ===== Model: block, wire, out, bar, blocks ===== -/
section
variable {l : Launch} {G : ez_G} {σ : es_S}
theorem md_oth {Y : em_E} {e : Nat} {σ σ' : es_S} (h : md Y e σ) (hn : em_n Y ≤ 24) (h48 : σ' 48 e = σ 48 e) (h49 : ∀ b, b < 24 → σ' 49 (24 * e + b) = σ 49 (24 * e + b) ∧ σ' 50 (24 * e + b) = σ 50 (24 * e + b) ∧ σ' 51 (24 * e + b) = σ 51 (24 * e + b) ∧ σ' 52 (24 * e + b) = σ 52 (24 * e + b)) (h53 : ∀ j, j < 3 → σ' 53 (3 * e + j) = σ 53 (3 * e + j)) : md Y e σ' :=
  ⟨h48.trans h.1, fun b hb => by obtain ⟨g1, g2, g3, g4⟩ := h49 b (by omega); rw [g1, g2, g3, g4]; exact h.2.1 b hb, fun j hj => by rw [h53 j hj]; exact h.2.2 j hj⟩
theorem md_add {X : em_E} {P : Nat} (hw : em_wf P X) {e k : Nat} {m : Int32} {σ σ' : es_S} (h : md X e σ) (h48 : σ' 48 e = nI (em_n X + 1)) (h49 : ∀ b, σ' 49 (24 * e + b) = if b = em_n X then nI k else σ 49 (24 * e + b)) (h50 : ∀ b, σ' 50 (24 * e + b) = if b = em_n X then m else σ 50 (24 * e + b)) (h51 : ∀ b, σ' 51 (24 * e + b) = if b = em_n X then -1 else σ 51 (24 * e + b)) (h52 : ∀ b, σ' 52 (24 * e + b) = if b = em_n X then -1 else σ 52 (24 * e + b)) (h53 : σ' 53 = σ 53) : md (em_add X k m) e σ' := by
  have hno : ∀ i, em_w X (em_n X) i = none := fun i => by
    cases hc : em_w X (em_n X) i with
    | none => rfl
    | some t => have := (hw.2.2.1 _ _ _ hc).1; omega
  refine ⟨h48, fun b hb => ?_, by rw [h53]; exact h.2.2⟩
  have hb2 : b < em_n X + 1 := hb
  rw [h49, h50, h51, h52]
  show _ = nI (if b = em_n X then k else em_k X b) ∧ _ = (if b = em_n X then m else em_m X b) ∧ _ = en (em_w X b 0) ∧ _ = en (em_w X b 1)
  by_cases hbn : b = em_n X
  · simp only [hbn, if_true, hno]; exact ⟨trivial, trivial, rfl, rfl⟩
  · simp only [hbn, if_false]; exact h.2.1 b (by omega)
theorem md_rw {X : em_E} {e t i : Nat} {o : Option Nat} {σ σ' : es_S} (h : md X e σ) (h48 : σ' 48 = σ 48) (h49 : σ' 49 = σ 49) (h50 : σ' 50 = σ 50) (h53 : σ' 53 = σ 53) (h51 : ∀ b, σ' 51 (24 * e + b) = if b = t ∧ i = 0 then en o else σ 51 (24 * e + b)) (h52 : ∀ b, σ' 52 (24 * e + b) = if b = t ∧ i = 1 then en o else σ 52 (24 * e + b)) : md (em_rw X t i o) e σ' := by
  refine ⟨by rw [h48]; exact h.1, fun b hb => ?_, by rw [h53]; exact h.2.2⟩
  have := h.2.1 b hb
  rw [h49, h50, h51, h52]
  refine ⟨this.1, this.2.1, ?_, ?_⟩
  · show _ = en (if b = t ∧ 0 = i then o else em_w X b 0)
    by_cases g : b = t ∧ i = 0
    · rw [if_pos g, if_pos ⟨g.1, g.2.symm⟩]
    · rw [if_neg g, if_neg (fun q => g ⟨q.1, q.2.symm⟩)]; exact this.2.2.1
  · show _ = en (if b = t ∧ 1 = i then o else em_w X b 1)
    by_cases g : b = t ∧ i = 1
    · rw [if_pos g, if_pos ⟨g.1, g.2.symm⟩]
    · rw [if_neg g, if_neg (fun q => g ⟨q.1, q.2.symm⟩)]; exact this.2.2.2
theorem md_co {X : em_E} {e i : Nat} {o : Option Nat} {σ σ' : es_S} (h : md X e σ) (hs : ∀ k, 48 ≤ k → k ≤ 52 → σ' k = σ k) (h53 : ∀ j, j < 3 → σ' 53 (3 * e + j) = if j = i then en o else σ 53 (3 * e + j)) : md (em_co X i o) e σ' := by
  refine ⟨by rw [hs 48 (by omega) (by omega)]; exact h.1, fun b hb => by rw [hs 49 (by omega) (by omega), hs 50 (by omega) (by omega), hs 51 (by omega) (by omega), hs 52 (by omega) (by omega)]; exact h.2.1 b hb, fun j hj => ?_⟩
  rw [h53 j hj]
  show _ = en (if j = i then o else em_o X j)
  by_cases g : j = i
  · rw [if_pos g, if_pos g]
  · rw [if_neg g, if_neg g]; exact h.2.2 j hj
theorem nar_eb (c : Bool) : vp_nar .boolean (eb c) = eb c := by cases c <;> rfl
theorem c_MD_block {S : sp_S} (hm : rm S σ) {e x m : Int32} : ez_Ct l G X_MD_block [.ref 46, .int e, .int x, .int m] (es_H σ) (es_Q (es_I fun y σ' => mR S (g_block S e x m) (s_block S e x) (nI (em_n (sE S e))) (n_block S e x m) y σ' ∧ ∀ k, (k < 46 ∨ 63 < k) → σ' k = σ k) es_no) := by
  have hP4 := hm.1.1.2
  refine es_Ct_of (ls := [some (.ref 46), some (.int e), some (.int x), some (.int m), none, none]) ok_MD_block rfl (Nat.le_of_ble_eq_true rfl) rfl ?_
  refine ev_iload_n (i := 1) d_MD_block_0 rfl rfl ?_
  refine ev_iconst (v := 0) d_MD_block_1 rfl ?_
  refine ev_iconst (v := 1) d_MD_block_2 rfl ?_
  refine es_cSI ls_MD_block_3 d_MD_block_3 c_MD_in rfl rfl (Nat.le_of_ble_eq_true rfl) (fun x3 σ3 h3 => ?_) (fun _ _ h => h.elim)
  obtain ⟨rfl, e3⟩ := h3
  rw [e3, ei1]
  refine ev_if_eq d_MD_block_6 (fun h6 => ?_) (fun h6 => ?_)
  · rw [eb_0] at h6
    refine ev_iconst (v := 0) d_MD_block_55 rfl ?_
    refine ev_istore d_MD_block_56 (by decide) ?_
    dsimp only [List.set_cons_zero, List.set_cons_succ]
    refine ev_aload_n (i := 0) d_MD_block_58 rfl rfl ?_
    refine ev_iload d_MD_block_59 rfl ?_
    refine ev_iload d_MD_block_61 rfl ?_
    refine ev_if_eq d_MD_block_63 (fun _ => ?_) (fun h => absurd h (by decide))
    refine ev_iconst (v := 0) d_MD_block_96 rfl ?_
    refine es_cVI ls_MD_block_97 d_MD_block_97 rfl (c_MD_goes0 (s := false)) rfl rfl (Nat.le_of_ble_eq_true rfl) (fun x97 σ97 h97 => ?_) (fun _ _ h => h.elim)
    obtain ⟨rfl, rfl⟩ := h97
    refine ev_if_ne d_MD_block_100 (fun h => absurd h (by decide)) (fun _ => ?_)
    refine ev_iconst (v := 0) d_MD_block_103 rfl ?_
    refine es_iret d_MD_block_104 rfl ⟨Nat.zero_le _, Nat.zero_le _⟩ ⟨_, rfl, ?_⟩
    first
      | exact ⟨Or.inr (Or.inl ⟨⟨h6, h16, fun g => by first | exact h34 | exact absurd g h20, fun g => by first | exact h48 | exact absurd g h39⟩, fun g => absurd (g.2 (Classical.not_not.mp h80)) (by omega), by simp [es_upx], rm_thrown hm _⟩), fun k hk => es_upf _ _ _ _ (by omega)⟩
      | exact ⟨Or.inr (Or.inl ⟨⟨h6, h16, fun g => by first | exact h34 | exact absurd g h20, fun g => by first | exact h48 | exact absurd g h39⟩, fun g => absurd (g.2 h80) (by omega), by simp [es_upx], rm_thrown hm _⟩), fun k hk => es_upf _ _ _ _ (by omega)⟩
      | exact ⟨Or.inr (Or.inl ⟨⟨h6, h16, fun g => by first | exact h34 | exact absurd g h20, fun g => by first | exact h48 | exact absurd g h39⟩, fun g => absurd g.1 (by omega), by simp [es_upx], rm_thrown hm _⟩), fun k hk => es_upf _ _ _ _ (by omega)⟩
      | exact ⟨Or.inl ⟨fun g => absurd (g.2.2.2 h39) (by rw [h48]; decide), by simp [es_upx], rm_thrown hm _⟩, fun k hk => es_upf _ _ _ _ (by omega)⟩
      | exact ⟨Or.inl ⟨fun g => absurd (g.2.2.1 h20) (by rw [h34]; decide), by simp [es_upx], rm_thrown hm _⟩, fun k hk => es_upf _ _ _ _ (by omega)⟩
      | exact ⟨Or.inl ⟨fun g => absurd g.2.1 (by rw [h16]; decide), by simp [es_upx], rm_thrown hm _⟩, fun k hk => es_upf _ _ _ _ (by omega)⟩
      | exact ⟨Or.inl ⟨fun g => absurd g.1 (by rw [h6]; decide), by simp [es_upx], rm_thrown hm _⟩, fun k hk => es_upf _ _ _ _ (by omega)⟩
  · rw [eb_0, Bool.not_eq_false] at h6
    obtain ⟨j, hj, rfl, hj2⟩ := ew_ex (n := 2) h6 (by omega)
    have hmd := rm_md hm hj
    have hw := sE_wf hm.1 (nI j)
    have hn := hw.1
    have hcj : (nI j).toNatClampNeg = j := nI_clamp (by omega)
    refine ev_iload_n (i := 2) d_MD_block_9 rfl rfl ?_
    refine ev_iconst (v := 0) d_MD_block_10 rfl ?_
    refine ev_bipush (v := 6) d_MD_block_11 rfl ?_
    refine es_cSI ls_MD_block_13 d_MD_block_13 c_MD_in rfl rfl (Nat.le_of_ble_eq_true rfl) (fun x13 σ13 h13 => ?_) (fun _ _ h => h.elim)
    obtain ⟨rfl, e13⟩ := h13
    rw [e13, ei6]
    refine ev_if_eq d_MD_block_16 (fun h16 => ?_) (fun h16 => ?_)
    · rw [eb_0] at h16
      refine ev_iconst (v := 0) d_MD_block_55 rfl ?_
      refine ev_istore d_MD_block_56 (by decide) ?_
      dsimp only [List.set_cons_zero, List.set_cons_succ]
      refine ev_aload_n (i := 0) d_MD_block_58 rfl rfl ?_
      refine ev_iload d_MD_block_59 rfl ?_
      refine ev_iload d_MD_block_61 rfl ?_
      refine ev_if_eq d_MD_block_63 (fun _ => ?_) (fun h => absurd h (by decide))
      refine ev_iconst (v := 0) d_MD_block_96 rfl ?_
      refine es_cVI ls_MD_block_97 d_MD_block_97 rfl (c_MD_goes0 (s := false)) rfl rfl (Nat.le_of_ble_eq_true rfl) (fun x97 σ97 h97 => ?_) (fun _ _ h => h.elim)
      obtain ⟨rfl, rfl⟩ := h97
      refine ev_if_ne d_MD_block_100 (fun h => absurd h (by decide)) (fun _ => ?_)
      refine ev_iconst (v := 0) d_MD_block_103 rfl ?_
      refine es_iret d_MD_block_104 rfl ⟨Nat.zero_le _, Nat.zero_le _⟩ ⟨_, rfl, ?_⟩
      first
        | exact ⟨Or.inr (Or.inl ⟨⟨h6, h16, fun g => by first | exact h34 | exact absurd g h20, fun g => by first | exact h48 | exact absurd g h39⟩, fun g => absurd (g.2 (Classical.not_not.mp h80)) (by omega), by simp [es_upx], rm_thrown hm _⟩), fun k hk => es_upf _ _ _ _ (by omega)⟩
        | exact ⟨Or.inr (Or.inl ⟨⟨h6, h16, fun g => by first | exact h34 | exact absurd g h20, fun g => by first | exact h48 | exact absurd g h39⟩, fun g => absurd (g.2 h80) (by omega), by simp [es_upx], rm_thrown hm _⟩), fun k hk => es_upf _ _ _ _ (by omega)⟩
        | exact ⟨Or.inr (Or.inl ⟨⟨h6, h16, fun g => by first | exact h34 | exact absurd g h20, fun g => by first | exact h48 | exact absurd g h39⟩, fun g => absurd g.1 (by omega), by simp [es_upx], rm_thrown hm _⟩), fun k hk => es_upf _ _ _ _ (by omega)⟩
        | exact ⟨Or.inl ⟨fun g => absurd (g.2.2.2 h39) (by rw [h48]; decide), by simp [es_upx], rm_thrown hm _⟩, fun k hk => es_upf _ _ _ _ (by omega)⟩
        | exact ⟨Or.inl ⟨fun g => absurd (g.2.2.1 h20) (by rw [h34]; decide), by simp [es_upx], rm_thrown hm _⟩, fun k hk => es_upf _ _ _ _ (by omega)⟩
        | exact ⟨Or.inl ⟨fun g => absurd g.2.1 (by rw [h16]; decide), by simp [es_upx], rm_thrown hm _⟩, fun k hk => es_upf _ _ _ _ (by omega)⟩
        | exact ⟨Or.inl ⟨fun g => absurd g.1 (by rw [h6]; decide), by simp [es_upx], rm_thrown hm _⟩, fun k hk => es_upf _ _ _ _ (by omega)⟩
    · rw [eb_0, Bool.not_eq_false] at h16
      refine ev_iload_n (i := 2) d_MD_block_19 rfl rfl ?_
      refine ev_if_ne d_MD_block_20 (fun h20 => ?_) (fun h20 => ?_)
      · refine ev_iload_n (i := 2) d_MD_block_37 rfl rfl ?_
        refine ev_iconst (v := 1) d_MD_block_38 rfl ?_
        refine ev_icmp_ne d_MD_block_39 (fun h39 => ?_) (fun h39 => ?_)
        · refine ev_iconst (v := 1) d_MD_block_51 rfl ?_
          refine ev_goto d_MD_block_52 ?_
          refine ev_istore d_MD_block_56 (by decide) ?_
          dsimp only [List.set_cons_zero, List.set_cons_succ]
          refine ev_aload_n (i := 0) d_MD_block_58 rfl rfl ?_
          refine ev_iload d_MD_block_59 rfl ?_
          refine ev_iload d_MD_block_61 rfl ?_
          refine ev_if_eq d_MD_block_63 (fun h => absurd h (by decide)) (fun _ => ?_)
          refine ev_aload_n (i := 0) d_MD_block_66 rfl rfl ?_
          refine es_getR d_MD_block_67 f_MD_13 rfl rfl ?_
          refine ev_iload_n (i := 1) d_MD_block_70 rfl rfl ?_
          refine es_iald d_MD_block_71 rfl (ez_vinN (by omega) (by omega)) ?_
          rw [hcj, hmd.1]
          refine ev_bipush (v := 24) d_MD_block_72 rfl ?_
          refine ev_icmp_ge d_MD_block_74 (fun h74 => ?_) (fun h74 => ?_)
          · rw [show (24 : Int32) = nI 24 from rfl, nI_leI (by omega) (by omega)] at h74
            refine ev_iconst (v := 0) d_MD_block_96 rfl ?_
            refine es_cVI ls_MD_block_97 d_MD_block_97 rfl c_MD_goes10 rfl rfl (Nat.le_of_ble_eq_true rfl) (fun x97 σ97 h97 => ?_) (fun _ _ h => h.elim)
            obtain ⟨rfl, rfl⟩ := h97
            refine ev_if_ne d_MD_block_100 (fun h => absurd h (by decide)) (fun _ => ?_)
            refine ev_iconst (v := 0) d_MD_block_103 rfl ?_
            refine es_iret d_MD_block_104 rfl ⟨Nat.zero_le _, Nat.zero_le _⟩ ⟨_, rfl, ?_⟩
            first
              | exact ⟨Or.inr (Or.inl ⟨⟨h6, h16, fun g => by first | exact h34 | exact absurd g h20, fun g => by first | exact h48 | exact absurd g h39⟩, fun g => absurd (g.2 (Classical.not_not.mp h80)) (by omega), by simp [es_upx], rm_thrown hm _⟩), fun k hk => es_upf _ _ _ _ (by omega)⟩
              | exact ⟨Or.inr (Or.inl ⟨⟨h6, h16, fun g => by first | exact h34 | exact absurd g h20, fun g => by first | exact h48 | exact absurd g h39⟩, fun g => absurd (g.2 h80) (by omega), by simp [es_upx], rm_thrown hm _⟩), fun k hk => es_upf _ _ _ _ (by omega)⟩
              | exact ⟨Or.inr (Or.inl ⟨⟨h6, h16, fun g => by first | exact h34 | exact absurd g h20, fun g => by first | exact h48 | exact absurd g h39⟩, fun g => absurd g.1 (by omega), by simp [es_upx], rm_thrown hm _⟩), fun k hk => es_upf _ _ _ _ (by omega)⟩
              | exact ⟨Or.inl ⟨fun g => absurd (g.2.2.2 h39) (by rw [h48]; decide), by simp [es_upx], rm_thrown hm _⟩, fun k hk => es_upf _ _ _ _ (by omega)⟩
              | exact ⟨Or.inl ⟨fun g => absurd (g.2.2.1 h20) (by rw [h34]; decide), by simp [es_upx], rm_thrown hm _⟩, fun k hk => es_upf _ _ _ _ (by omega)⟩
              | exact ⟨Or.inl ⟨fun g => absurd g.2.1 (by rw [h16]; decide), by simp [es_upx], rm_thrown hm _⟩, fun k hk => es_upf _ _ _ _ (by omega)⟩
              | exact ⟨Or.inl ⟨fun g => absurd g.1 (by rw [h6]; decide), by simp [es_upx], rm_thrown hm _⟩, fun k hk => es_upf _ _ _ _ (by omega)⟩
          · rw [show (24 : Int32) = nI 24 from rfl, nI_leI (by omega) (by omega), Nat.not_le] at h74
            refine ev_iload_n (i := 2) d_MD_block_77 rfl rfl ?_
            refine ev_bipush (v := 6) d_MD_block_78 rfl ?_
            refine ev_icmp_ne d_MD_block_80 (fun h80 => ?_) (fun h80 => ?_)
            · refine ev_iconst (v := 1) d_MD_block_92 rfl ?_
              refine ev_goto d_MD_block_93 ?_
              refine es_cVI ls_MD_block_97 d_MD_block_97 rfl c_MD_goes11 rfl rfl (Nat.le_of_ble_eq_true rfl) (fun x97 σ97 h97 => ?_) (fun _ _ h => h.elim)
              obtain ⟨rfl, rfl⟩ := h97
              refine ev_if_ne d_MD_block_100 (fun _ => ?_) (fun h => absurd h (by decide))
              have hgd : g_block S (nI j) x m := ⟨h6, h16, fun g => by first | exact h34 | exact absurd g h20, fun g => by first | exact h48 | exact absurd g h39⟩
              have hst : s_block S (nI j) x := ⟨h74, fun g => by first | exact h89 | exact absurd g h80⟩
              obtain ⟨q, hq, rfl, hq2⟩ := ew_ex (n := 7) h16 (by omega)
              have hx : em_n (sE S (nI j)) < 24 := h74
              refine ev_bipush (v := 24) d_MD_block_105 rfl ?_
              refine ev_iload_n (i := 1) d_MD_block_107 rfl rfl ?_
              refine ev_imul d_MD_block_108 ?_
              refine ev_aload_n (i := 0) d_MD_block_109 rfl rfl ?_
              refine es_getR d_MD_block_110 f_MD_13 rfl rfl ?_
              refine ev_iload_n (i := 1) d_MD_block_113 rfl rfl ?_
              refine es_iald d_MD_block_114 rfl (ez_vinN (by omega) (by omega)) ?_
              rw [hcj, es_upf _ _ _ _ (show (48 : Nat) ≠ 46 by decide), hmd.1]
              refine ev_iadd d_MD_block_115 ?_
              rw [ix24]
              refine ev_istore d_MD_block_116 (by decide) ?_
              dsimp only [List.set_cons_zero, List.set_cons_succ]
              refine ev_aload_n (i := 0) d_MD_block_118 rfl rfl ?_
              refine es_getR d_MD_block_119 f_MD_17 rfl rfl ?_
              refine ev_iload d_MD_block_122 rfl ?_
              refine ev_iload_n (i := 2) d_MD_block_124 rfl rfl ?_
              refine es_iast d_MD_block_125 rfl (ez_vinN (by omega) (by omega)) ?_
              rw [nI_clamp (show 24 * j + em_n (sE S (nI j)) < 2 ^ 31 by omega)]
              refine ev_aload_n (i := 0) d_MD_block_126 rfl rfl ?_
              refine es_getR d_MD_block_127 f_MD_20 rfl rfl ?_
              refine ev_iload d_MD_block_130 rfl ?_
              refine ev_iload_n (i := 3) d_MD_block_132 rfl rfl ?_
              refine es_iast d_MD_block_133 rfl (ez_vinN (by omega) (by omega)) ?_
              rw [nI_clamp (show 24 * j + em_n (sE S (nI j)) < 2 ^ 31 by omega)]
              refine ev_aload_n (i := 0) d_MD_block_134 rfl rfl ?_
              refine es_getR d_MD_block_135 f_MD_23 rfl rfl ?_
              refine ev_iload d_MD_block_138 rfl ?_
              refine ev_iconst (v := (-1)) d_MD_block_140 rfl ?_
              refine es_iast d_MD_block_141 rfl (ez_vinN (by omega) (by omega)) ?_
              rw [nI_clamp (show 24 * j + em_n (sE S (nI j)) < 2 ^ 31 by omega)]
              refine ev_aload_n (i := 0) d_MD_block_142 rfl rfl ?_
              refine es_getR d_MD_block_143 f_MD_26 rfl rfl ?_
              refine ev_iload d_MD_block_146 rfl ?_
              refine ev_iconst (v := (-1)) d_MD_block_148 rfl ?_
              refine es_iast d_MD_block_149 rfl (ez_vinN (by omega) (by omega)) ?_
              rw [nI_clamp (show 24 * j + em_n (sE S (nI j)) < 2 ^ 31 by omega)]
              refine ev_aload_n (i := 0) d_MD_block_150 rfl rfl ?_
              refine es_getR d_MD_block_151 f_MD_13 rfl rfl ?_
              refine ev_iload_n (i := 1) d_MD_block_154 rfl rfl ?_
              refine ev_dup2 d_MD_block_155 rfl rfl ?_
              refine es_iald d_MD_block_156 rfl (ez_vinN (by omega) (by omega)) ?_
              rw [hcj, es_upf _ _ _ _ (show (48 : Nat) ≠ 52 by decide), es_upf _ _ _ _ (show (48 : Nat) ≠ 51 by decide), es_upf _ _ _ _ (show (48 : Nat) ≠ 50 by decide), es_upf _ _ _ _ (show (48 : Nat) ≠ 49 by decide), es_upf _ _ _ _ (show (48 : Nat) ≠ 46 by decide), hmd.1]
              refine ev_iconst (v := 1) d_MD_block_157 rfl ?_
              refine ev_iadd d_MD_block_158 ?_
              rw [nI_1]
              refine es_iast d_MD_block_159 rfl (ez_vinN (by omega) (by omega)) ?_
              rw [hcj]
              refine ev_aload_n (i := 0) d_MD_block_160 rfl rfl ?_
              refine es_getR d_MD_block_161 f_MD_13 rfl rfl ?_
              refine ev_iload_n (i := 1) d_MD_block_164 rfl rfl ?_
              refine es_iald d_MD_block_165 rfl (ez_vinN (by omega) (by omega)) ?_
              rw [hcj, es_up_eq]
              refine ev_iconst (v := 1) d_MD_block_166 rfl ?_
              refine ev_isub d_MD_block_167 ?_
              rw [nI_pred]
              refine es_iret d_MD_block_168 rfl ⟨Nat.zero_le _, Nat.zero_le _⟩ ⟨_, rfl, ?_⟩
              refine ⟨Or.inr (Or.inr ⟨hgd, hst, by simp [es_upx], rfl, rm_set hj hm (n_block_wf hm.1 hgd hst) (by simp [es_upx]) (by rw [es_upf _ _ _ _ (show (47 : Nat) ≠ 48 by decide), es_upf _ _ _ _ (show (47 : Nat) ≠ 52 by decide), es_upf _ _ _ _ (show (47 : Nat) ≠ 51 by decide), es_upf _ _ _ _ (show (47 : Nat) ≠ 50 by decide), es_upf _ _ _ _ (show (47 : Nat) ≠ 49 by decide), es_upf _ _ _ _ (show (47 : Nat) ≠ 46 by decide)]) (md_add (e := j) (k := tn (nI q)) (m := m) hw hmd (by simp [es_upx]) (fun b => ?_) (fun b => ?_) (fun b => ?_) (fun b => ?_) (by rw [es_upf _ _ _ _ (show (53 : Nat) ≠ 48 by decide), es_upf _ _ _ _ (show (53 : Nat) ≠ 52 by decide), es_upf _ _ _ _ (show (53 : Nat) ≠ 51 by decide), es_upf _ _ _ _ (show (53 : Nat) ≠ 50 by decide), es_upf _ _ _ _ (show (53 : Nat) ≠ 49 by decide), es_upf _ _ _ _ (show (53 : Nat) ≠ 46 by decide)])) (fun Y hY h => md_oth h hY ?_ (fun b hb => ?_) (fun i hi => ?_))⟩), fun k hk => by rw [es_upf _ _ _ _ (by omega), es_upf _ _ _ _ (by omega), es_upf _ _ _ _ (by omega), es_upf _ _ _ _ (by omega), es_upf _ _ _ _ (by omega), es_upf _ _ _ _ (by omega)]⟩
              · rw [hq2]; simp [es_upx]
              · simp [es_upx]
              · simp [es_upx]
              · simp [es_upx]
              · simp [es_upx]; omega
              · have e1 : ¬ 24 * (1 - j) + b = 24 * j + em_n (sE S (nI j)) := by omega
                simp [es_upx, e1]
              · simp [es_upx]
            · refine ev_aload_n (i := 0) d_MD_block_83 rfl rfl ?_
              refine ev_iload_n (i := 1) d_MD_block_84 rfl rfl ?_
              refine es_cVI ls_MD_block_85 d_MD_block_85 rfl (c_MD_delays hw hj hmd) rfl rfl (Nat.le_of_ble_eq_true rfl) (fun x85 σ85 h85 => ?_) (fun _ _ h => h.elim)
              obtain ⟨rfl, e85⟩ := h85
              rw [e85]
              have hd5 := hw.2.2.2.2.2.2
              refine ev_iconst (v := 5) d_MD_block_88 rfl ?_
              refine ev_icmp_ge d_MD_block_89 (fun h89 => ?_) (fun h89 => ?_)
              · rw [show (5 : Int32) = nI 5 from rfl, nI_leI (by omega) (by omega)] at h89
                refine ev_iconst (v := 0) d_MD_block_96 rfl ?_
                refine es_cVI ls_MD_block_97 d_MD_block_97 rfl c_MD_goes10 rfl rfl (Nat.le_of_ble_eq_true rfl) (fun x97 σ97 h97 => ?_) (fun _ _ h => h.elim)
                obtain ⟨rfl, rfl⟩ := h97
                refine ev_if_ne d_MD_block_100 (fun h => absurd h (by decide)) (fun _ => ?_)
                refine ev_iconst (v := 0) d_MD_block_103 rfl ?_
                refine es_iret d_MD_block_104 rfl ⟨Nat.zero_le _, Nat.zero_le _⟩ ⟨_, rfl, ?_⟩
                first
                  | exact ⟨Or.inr (Or.inl ⟨⟨h6, h16, fun g => by first | exact h34 | exact absurd g h20, fun g => by first | exact h48 | exact absurd g h39⟩, fun g => absurd (g.2 (Classical.not_not.mp h80)) (by omega), by simp [es_upx], rm_thrown hm _⟩), fun k hk => es_upf _ _ _ _ (by omega)⟩
                  | exact ⟨Or.inr (Or.inl ⟨⟨h6, h16, fun g => by first | exact h34 | exact absurd g h20, fun g => by first | exact h48 | exact absurd g h39⟩, fun g => absurd (g.2 h80) (by omega), by simp [es_upx], rm_thrown hm _⟩), fun k hk => es_upf _ _ _ _ (by omega)⟩
                  | exact ⟨Or.inr (Or.inl ⟨⟨h6, h16, fun g => by first | exact h34 | exact absurd g h20, fun g => by first | exact h48 | exact absurd g h39⟩, fun g => absurd g.1 (by omega), by simp [es_upx], rm_thrown hm _⟩), fun k hk => es_upf _ _ _ _ (by omega)⟩
                  | exact ⟨Or.inl ⟨fun g => absurd (g.2.2.2 h39) (by rw [h48]; decide), by simp [es_upx], rm_thrown hm _⟩, fun k hk => es_upf _ _ _ _ (by omega)⟩
                  | exact ⟨Or.inl ⟨fun g => absurd (g.2.2.1 h20) (by rw [h34]; decide), by simp [es_upx], rm_thrown hm _⟩, fun k hk => es_upf _ _ _ _ (by omega)⟩
                  | exact ⟨Or.inl ⟨fun g => absurd g.2.1 (by rw [h16]; decide), by simp [es_upx], rm_thrown hm _⟩, fun k hk => es_upf _ _ _ _ (by omega)⟩
                  | exact ⟨Or.inl ⟨fun g => absurd g.1 (by rw [h6]; decide), by simp [es_upx], rm_thrown hm _⟩, fun k hk => es_upf _ _ _ _ (by omega)⟩
              · rw [show (5 : Int32) = nI 5 from rfl, nI_leI (by omega) (by omega), Nat.not_le] at h89
                refine ev_iconst (v := 1) d_MD_block_92 rfl ?_
                refine ev_goto d_MD_block_93 ?_
                refine es_cVI ls_MD_block_97 d_MD_block_97 rfl c_MD_goes11 rfl rfl (Nat.le_of_ble_eq_true rfl) (fun x97 σ97 h97 => ?_) (fun _ _ h => h.elim)
                obtain ⟨rfl, rfl⟩ := h97
                refine ev_if_ne d_MD_block_100 (fun _ => ?_) (fun h => absurd h (by decide))
                have hgd : g_block S (nI j) x m := ⟨h6, h16, fun g => by first | exact h34 | exact absurd g h20, fun g => by first | exact h48 | exact absurd g h39⟩
                have hst : s_block S (nI j) x := ⟨h74, fun g => by first | exact h89 | exact absurd g h80⟩
                obtain ⟨q, hq, rfl, hq2⟩ := ew_ex (n := 7) h16 (by omega)
                have hx : em_n (sE S (nI j)) < 24 := h74
                refine ev_bipush (v := 24) d_MD_block_105 rfl ?_
                refine ev_iload_n (i := 1) d_MD_block_107 rfl rfl ?_
                refine ev_imul d_MD_block_108 ?_
                refine ev_aload_n (i := 0) d_MD_block_109 rfl rfl ?_
                refine es_getR d_MD_block_110 f_MD_13 rfl rfl ?_
                refine ev_iload_n (i := 1) d_MD_block_113 rfl rfl ?_
                refine es_iald d_MD_block_114 rfl (ez_vinN (by omega) (by omega)) ?_
                rw [hcj, es_upf _ _ _ _ (show (48 : Nat) ≠ 46 by decide), hmd.1]
                refine ev_iadd d_MD_block_115 ?_
                rw [ix24]
                refine ev_istore d_MD_block_116 (by decide) ?_
                dsimp only [List.set_cons_zero, List.set_cons_succ]
                refine ev_aload_n (i := 0) d_MD_block_118 rfl rfl ?_
                refine es_getR d_MD_block_119 f_MD_17 rfl rfl ?_
                refine ev_iload d_MD_block_122 rfl ?_
                refine ev_iload_n (i := 2) d_MD_block_124 rfl rfl ?_
                refine es_iast d_MD_block_125 rfl (ez_vinN (by omega) (by omega)) ?_
                rw [nI_clamp (show 24 * j + em_n (sE S (nI j)) < 2 ^ 31 by omega)]
                refine ev_aload_n (i := 0) d_MD_block_126 rfl rfl ?_
                refine es_getR d_MD_block_127 f_MD_20 rfl rfl ?_
                refine ev_iload d_MD_block_130 rfl ?_
                refine ev_iload_n (i := 3) d_MD_block_132 rfl rfl ?_
                refine es_iast d_MD_block_133 rfl (ez_vinN (by omega) (by omega)) ?_
                rw [nI_clamp (show 24 * j + em_n (sE S (nI j)) < 2 ^ 31 by omega)]
                refine ev_aload_n (i := 0) d_MD_block_134 rfl rfl ?_
                refine es_getR d_MD_block_135 f_MD_23 rfl rfl ?_
                refine ev_iload d_MD_block_138 rfl ?_
                refine ev_iconst (v := (-1)) d_MD_block_140 rfl ?_
                refine es_iast d_MD_block_141 rfl (ez_vinN (by omega) (by omega)) ?_
                rw [nI_clamp (show 24 * j + em_n (sE S (nI j)) < 2 ^ 31 by omega)]
                refine ev_aload_n (i := 0) d_MD_block_142 rfl rfl ?_
                refine es_getR d_MD_block_143 f_MD_26 rfl rfl ?_
                refine ev_iload d_MD_block_146 rfl ?_
                refine ev_iconst (v := (-1)) d_MD_block_148 rfl ?_
                refine es_iast d_MD_block_149 rfl (ez_vinN (by omega) (by omega)) ?_
                rw [nI_clamp (show 24 * j + em_n (sE S (nI j)) < 2 ^ 31 by omega)]
                refine ev_aload_n (i := 0) d_MD_block_150 rfl rfl ?_
                refine es_getR d_MD_block_151 f_MD_13 rfl rfl ?_
                refine ev_iload_n (i := 1) d_MD_block_154 rfl rfl ?_
                refine ev_dup2 d_MD_block_155 rfl rfl ?_
                refine es_iald d_MD_block_156 rfl (ez_vinN (by omega) (by omega)) ?_
                rw [hcj, es_upf _ _ _ _ (show (48 : Nat) ≠ 52 by decide), es_upf _ _ _ _ (show (48 : Nat) ≠ 51 by decide), es_upf _ _ _ _ (show (48 : Nat) ≠ 50 by decide), es_upf _ _ _ _ (show (48 : Nat) ≠ 49 by decide), es_upf _ _ _ _ (show (48 : Nat) ≠ 46 by decide), hmd.1]
                refine ev_iconst (v := 1) d_MD_block_157 rfl ?_
                refine ev_iadd d_MD_block_158 ?_
                rw [nI_1]
                refine es_iast d_MD_block_159 rfl (ez_vinN (by omega) (by omega)) ?_
                rw [hcj]
                refine ev_aload_n (i := 0) d_MD_block_160 rfl rfl ?_
                refine es_getR d_MD_block_161 f_MD_13 rfl rfl ?_
                refine ev_iload_n (i := 1) d_MD_block_164 rfl rfl ?_
                refine es_iald d_MD_block_165 rfl (ez_vinN (by omega) (by omega)) ?_
                rw [hcj, es_up_eq]
                refine ev_iconst (v := 1) d_MD_block_166 rfl ?_
                refine ev_isub d_MD_block_167 ?_
                rw [nI_pred]
                refine es_iret d_MD_block_168 rfl ⟨Nat.zero_le _, Nat.zero_le _⟩ ⟨_, rfl, ?_⟩
                refine ⟨Or.inr (Or.inr ⟨hgd, hst, by simp [es_upx], rfl, rm_set hj hm (n_block_wf hm.1 hgd hst) (by simp [es_upx]) (by rw [es_upf _ _ _ _ (show (47 : Nat) ≠ 48 by decide), es_upf _ _ _ _ (show (47 : Nat) ≠ 52 by decide), es_upf _ _ _ _ (show (47 : Nat) ≠ 51 by decide), es_upf _ _ _ _ (show (47 : Nat) ≠ 50 by decide), es_upf _ _ _ _ (show (47 : Nat) ≠ 49 by decide), es_upf _ _ _ _ (show (47 : Nat) ≠ 46 by decide)]) (md_add (e := j) (k := tn (nI q)) (m := m) hw hmd (by simp [es_upx]) (fun b => ?_) (fun b => ?_) (fun b => ?_) (fun b => ?_) (by rw [es_upf _ _ _ _ (show (53 : Nat) ≠ 48 by decide), es_upf _ _ _ _ (show (53 : Nat) ≠ 52 by decide), es_upf _ _ _ _ (show (53 : Nat) ≠ 51 by decide), es_upf _ _ _ _ (show (53 : Nat) ≠ 50 by decide), es_upf _ _ _ _ (show (53 : Nat) ≠ 49 by decide), es_upf _ _ _ _ (show (53 : Nat) ≠ 46 by decide)])) (fun Y hY h => md_oth h hY ?_ (fun b hb => ?_) (fun i hi => ?_))⟩), fun k hk => by rw [es_upf _ _ _ _ (by omega), es_upf _ _ _ _ (by omega), es_upf _ _ _ _ (by omega), es_upf _ _ _ _ (by omega), es_upf _ _ _ _ (by omega), es_upf _ _ _ _ (by omega)]⟩
                · rw [hq2]; simp [es_upx]
                · simp [es_upx]
                · simp [es_upx]
                · simp [es_upx]
                · simp [es_upx]; omega
                · have e1 : ¬ 24 * (1 - j) + b = 24 * j + em_n (sE S (nI j)) := by omega
                  simp [es_upx, e1]
                · simp [es_upx]
        · refine ev_iload_n (i := 3) d_MD_block_42 rfl rfl ?_
          refine ev_iconst (v := 0) d_MD_block_43 rfl ?_
          refine ev_iconst (v := 1) d_MD_block_44 rfl ?_
          refine es_cSI ls_MD_block_45 d_MD_block_45 c_MD_in rfl rfl (Nat.le_of_ble_eq_true rfl) (fun x45 σ45 h45 => ?_) (fun _ _ h => h.elim)
          obtain ⟨rfl, e45⟩ := h45
          rw [e45, ei1]
          refine ev_if_eq d_MD_block_48 (fun h48 => ?_) (fun h48 => ?_)
          · rw [eb_0] at h48
            refine ev_iconst (v := 0) d_MD_block_55 rfl ?_
            refine ev_istore d_MD_block_56 (by decide) ?_
            dsimp only [List.set_cons_zero, List.set_cons_succ]
            refine ev_aload_n (i := 0) d_MD_block_58 rfl rfl ?_
            refine ev_iload d_MD_block_59 rfl ?_
            refine ev_iload d_MD_block_61 rfl ?_
            refine ev_if_eq d_MD_block_63 (fun _ => ?_) (fun h => absurd h (by decide))
            refine ev_iconst (v := 0) d_MD_block_96 rfl ?_
            refine es_cVI ls_MD_block_97 d_MD_block_97 rfl (c_MD_goes0 (s := false)) rfl rfl (Nat.le_of_ble_eq_true rfl) (fun x97 σ97 h97 => ?_) (fun _ _ h => h.elim)
            obtain ⟨rfl, rfl⟩ := h97
            refine ev_if_ne d_MD_block_100 (fun h => absurd h (by decide)) (fun _ => ?_)
            refine ev_iconst (v := 0) d_MD_block_103 rfl ?_
            refine es_iret d_MD_block_104 rfl ⟨Nat.zero_le _, Nat.zero_le _⟩ ⟨_, rfl, ?_⟩
            first
              | exact ⟨Or.inr (Or.inl ⟨⟨h6, h16, fun g => by first | exact h34 | exact absurd g h20, fun g => by first | exact h48 | exact absurd g h39⟩, fun g => absurd (g.2 (Classical.not_not.mp h80)) (by omega), by simp [es_upx], rm_thrown hm _⟩), fun k hk => es_upf _ _ _ _ (by omega)⟩
              | exact ⟨Or.inr (Or.inl ⟨⟨h6, h16, fun g => by first | exact h34 | exact absurd g h20, fun g => by first | exact h48 | exact absurd g h39⟩, fun g => absurd (g.2 h80) (by omega), by simp [es_upx], rm_thrown hm _⟩), fun k hk => es_upf _ _ _ _ (by omega)⟩
              | exact ⟨Or.inr (Or.inl ⟨⟨h6, h16, fun g => by first | exact h34 | exact absurd g h20, fun g => by first | exact h48 | exact absurd g h39⟩, fun g => absurd g.1 (by omega), by simp [es_upx], rm_thrown hm _⟩), fun k hk => es_upf _ _ _ _ (by omega)⟩
              | exact ⟨Or.inl ⟨fun g => absurd (g.2.2.2 h39) (by rw [h48]; decide), by simp [es_upx], rm_thrown hm _⟩, fun k hk => es_upf _ _ _ _ (by omega)⟩
              | exact ⟨Or.inl ⟨fun g => absurd (g.2.2.1 h20) (by rw [h34]; decide), by simp [es_upx], rm_thrown hm _⟩, fun k hk => es_upf _ _ _ _ (by omega)⟩
              | exact ⟨Or.inl ⟨fun g => absurd g.2.1 (by rw [h16]; decide), by simp [es_upx], rm_thrown hm _⟩, fun k hk => es_upf _ _ _ _ (by omega)⟩
              | exact ⟨Or.inl ⟨fun g => absurd g.1 (by rw [h6]; decide), by simp [es_upx], rm_thrown hm _⟩, fun k hk => es_upf _ _ _ _ (by omega)⟩
          · rw [eb_0, Bool.not_eq_false] at h48
            refine ev_iconst (v := 1) d_MD_block_51 rfl ?_
            refine ev_goto d_MD_block_52 ?_
            refine ev_istore d_MD_block_56 (by decide) ?_
            dsimp only [List.set_cons_zero, List.set_cons_succ]
            refine ev_aload_n (i := 0) d_MD_block_58 rfl rfl ?_
            refine ev_iload d_MD_block_59 rfl ?_
            refine ev_iload d_MD_block_61 rfl ?_
            refine ev_if_eq d_MD_block_63 (fun h => absurd h (by decide)) (fun _ => ?_)
            refine ev_aload_n (i := 0) d_MD_block_66 rfl rfl ?_
            refine es_getR d_MD_block_67 f_MD_13 rfl rfl ?_
            refine ev_iload_n (i := 1) d_MD_block_70 rfl rfl ?_
            refine es_iald d_MD_block_71 rfl (ez_vinN (by omega) (by omega)) ?_
            rw [hcj, hmd.1]
            refine ev_bipush (v := 24) d_MD_block_72 rfl ?_
            refine ev_icmp_ge d_MD_block_74 (fun h74 => ?_) (fun h74 => ?_)
            · rw [show (24 : Int32) = nI 24 from rfl, nI_leI (by omega) (by omega)] at h74
              refine ev_iconst (v := 0) d_MD_block_96 rfl ?_
              refine es_cVI ls_MD_block_97 d_MD_block_97 rfl c_MD_goes10 rfl rfl (Nat.le_of_ble_eq_true rfl) (fun x97 σ97 h97 => ?_) (fun _ _ h => h.elim)
              obtain ⟨rfl, rfl⟩ := h97
              refine ev_if_ne d_MD_block_100 (fun h => absurd h (by decide)) (fun _ => ?_)
              refine ev_iconst (v := 0) d_MD_block_103 rfl ?_
              refine es_iret d_MD_block_104 rfl ⟨Nat.zero_le _, Nat.zero_le _⟩ ⟨_, rfl, ?_⟩
              first
                | exact ⟨Or.inr (Or.inl ⟨⟨h6, h16, fun g => by first | exact h34 | exact absurd g h20, fun g => by first | exact h48 | exact absurd g h39⟩, fun g => absurd (g.2 (Classical.not_not.mp h80)) (by omega), by simp [es_upx], rm_thrown hm _⟩), fun k hk => es_upf _ _ _ _ (by omega)⟩
                | exact ⟨Or.inr (Or.inl ⟨⟨h6, h16, fun g => by first | exact h34 | exact absurd g h20, fun g => by first | exact h48 | exact absurd g h39⟩, fun g => absurd (g.2 h80) (by omega), by simp [es_upx], rm_thrown hm _⟩), fun k hk => es_upf _ _ _ _ (by omega)⟩
                | exact ⟨Or.inr (Or.inl ⟨⟨h6, h16, fun g => by first | exact h34 | exact absurd g h20, fun g => by first | exact h48 | exact absurd g h39⟩, fun g => absurd g.1 (by omega), by simp [es_upx], rm_thrown hm _⟩), fun k hk => es_upf _ _ _ _ (by omega)⟩
                | exact ⟨Or.inl ⟨fun g => absurd (g.2.2.2 h39) (by rw [h48]; decide), by simp [es_upx], rm_thrown hm _⟩, fun k hk => es_upf _ _ _ _ (by omega)⟩
                | exact ⟨Or.inl ⟨fun g => absurd (g.2.2.1 h20) (by rw [h34]; decide), by simp [es_upx], rm_thrown hm _⟩, fun k hk => es_upf _ _ _ _ (by omega)⟩
                | exact ⟨Or.inl ⟨fun g => absurd g.2.1 (by rw [h16]; decide), by simp [es_upx], rm_thrown hm _⟩, fun k hk => es_upf _ _ _ _ (by omega)⟩
                | exact ⟨Or.inl ⟨fun g => absurd g.1 (by rw [h6]; decide), by simp [es_upx], rm_thrown hm _⟩, fun k hk => es_upf _ _ _ _ (by omega)⟩
            · rw [show (24 : Int32) = nI 24 from rfl, nI_leI (by omega) (by omega), Nat.not_le] at h74
              refine ev_iload_n (i := 2) d_MD_block_77 rfl rfl ?_
              refine ev_bipush (v := 6) d_MD_block_78 rfl ?_
              refine ev_icmp_ne d_MD_block_80 (fun h80 => ?_) (fun h80 => ?_)
              · refine ev_iconst (v := 1) d_MD_block_92 rfl ?_
                refine ev_goto d_MD_block_93 ?_
                refine es_cVI ls_MD_block_97 d_MD_block_97 rfl c_MD_goes11 rfl rfl (Nat.le_of_ble_eq_true rfl) (fun x97 σ97 h97 => ?_) (fun _ _ h => h.elim)
                obtain ⟨rfl, rfl⟩ := h97
                refine ev_if_ne d_MD_block_100 (fun _ => ?_) (fun h => absurd h (by decide))
                have hgd : g_block S (nI j) x m := ⟨h6, h16, fun g => by first | exact h34 | exact absurd g h20, fun g => by first | exact h48 | exact absurd g h39⟩
                have hst : s_block S (nI j) x := ⟨h74, fun g => by first | exact h89 | exact absurd g h80⟩
                obtain ⟨q, hq, rfl, hq2⟩ := ew_ex (n := 7) h16 (by omega)
                have hx : em_n (sE S (nI j)) < 24 := h74
                refine ev_bipush (v := 24) d_MD_block_105 rfl ?_
                refine ev_iload_n (i := 1) d_MD_block_107 rfl rfl ?_
                refine ev_imul d_MD_block_108 ?_
                refine ev_aload_n (i := 0) d_MD_block_109 rfl rfl ?_
                refine es_getR d_MD_block_110 f_MD_13 rfl rfl ?_
                refine ev_iload_n (i := 1) d_MD_block_113 rfl rfl ?_
                refine es_iald d_MD_block_114 rfl (ez_vinN (by omega) (by omega)) ?_
                rw [hcj, es_upf _ _ _ _ (show (48 : Nat) ≠ 46 by decide), hmd.1]
                refine ev_iadd d_MD_block_115 ?_
                rw [ix24]
                refine ev_istore d_MD_block_116 (by decide) ?_
                dsimp only [List.set_cons_zero, List.set_cons_succ]
                refine ev_aload_n (i := 0) d_MD_block_118 rfl rfl ?_
                refine es_getR d_MD_block_119 f_MD_17 rfl rfl ?_
                refine ev_iload d_MD_block_122 rfl ?_
                refine ev_iload_n (i := 2) d_MD_block_124 rfl rfl ?_
                refine es_iast d_MD_block_125 rfl (ez_vinN (by omega) (by omega)) ?_
                rw [nI_clamp (show 24 * j + em_n (sE S (nI j)) < 2 ^ 31 by omega)]
                refine ev_aload_n (i := 0) d_MD_block_126 rfl rfl ?_
                refine es_getR d_MD_block_127 f_MD_20 rfl rfl ?_
                refine ev_iload d_MD_block_130 rfl ?_
                refine ev_iload_n (i := 3) d_MD_block_132 rfl rfl ?_
                refine es_iast d_MD_block_133 rfl (ez_vinN (by omega) (by omega)) ?_
                rw [nI_clamp (show 24 * j + em_n (sE S (nI j)) < 2 ^ 31 by omega)]
                refine ev_aload_n (i := 0) d_MD_block_134 rfl rfl ?_
                refine es_getR d_MD_block_135 f_MD_23 rfl rfl ?_
                refine ev_iload d_MD_block_138 rfl ?_
                refine ev_iconst (v := (-1)) d_MD_block_140 rfl ?_
                refine es_iast d_MD_block_141 rfl (ez_vinN (by omega) (by omega)) ?_
                rw [nI_clamp (show 24 * j + em_n (sE S (nI j)) < 2 ^ 31 by omega)]
                refine ev_aload_n (i := 0) d_MD_block_142 rfl rfl ?_
                refine es_getR d_MD_block_143 f_MD_26 rfl rfl ?_
                refine ev_iload d_MD_block_146 rfl ?_
                refine ev_iconst (v := (-1)) d_MD_block_148 rfl ?_
                refine es_iast d_MD_block_149 rfl (ez_vinN (by omega) (by omega)) ?_
                rw [nI_clamp (show 24 * j + em_n (sE S (nI j)) < 2 ^ 31 by omega)]
                refine ev_aload_n (i := 0) d_MD_block_150 rfl rfl ?_
                refine es_getR d_MD_block_151 f_MD_13 rfl rfl ?_
                refine ev_iload_n (i := 1) d_MD_block_154 rfl rfl ?_
                refine ev_dup2 d_MD_block_155 rfl rfl ?_
                refine es_iald d_MD_block_156 rfl (ez_vinN (by omega) (by omega)) ?_
                rw [hcj, es_upf _ _ _ _ (show (48 : Nat) ≠ 52 by decide), es_upf _ _ _ _ (show (48 : Nat) ≠ 51 by decide), es_upf _ _ _ _ (show (48 : Nat) ≠ 50 by decide), es_upf _ _ _ _ (show (48 : Nat) ≠ 49 by decide), es_upf _ _ _ _ (show (48 : Nat) ≠ 46 by decide), hmd.1]
                refine ev_iconst (v := 1) d_MD_block_157 rfl ?_
                refine ev_iadd d_MD_block_158 ?_
                rw [nI_1]
                refine es_iast d_MD_block_159 rfl (ez_vinN (by omega) (by omega)) ?_
                rw [hcj]
                refine ev_aload_n (i := 0) d_MD_block_160 rfl rfl ?_
                refine es_getR d_MD_block_161 f_MD_13 rfl rfl ?_
                refine ev_iload_n (i := 1) d_MD_block_164 rfl rfl ?_
                refine es_iald d_MD_block_165 rfl (ez_vinN (by omega) (by omega)) ?_
                rw [hcj, es_up_eq]
                refine ev_iconst (v := 1) d_MD_block_166 rfl ?_
                refine ev_isub d_MD_block_167 ?_
                rw [nI_pred]
                refine es_iret d_MD_block_168 rfl ⟨Nat.zero_le _, Nat.zero_le _⟩ ⟨_, rfl, ?_⟩
                refine ⟨Or.inr (Or.inr ⟨hgd, hst, by simp [es_upx], rfl, rm_set hj hm (n_block_wf hm.1 hgd hst) (by simp [es_upx]) (by rw [es_upf _ _ _ _ (show (47 : Nat) ≠ 48 by decide), es_upf _ _ _ _ (show (47 : Nat) ≠ 52 by decide), es_upf _ _ _ _ (show (47 : Nat) ≠ 51 by decide), es_upf _ _ _ _ (show (47 : Nat) ≠ 50 by decide), es_upf _ _ _ _ (show (47 : Nat) ≠ 49 by decide), es_upf _ _ _ _ (show (47 : Nat) ≠ 46 by decide)]) (md_add (e := j) (k := tn (nI q)) (m := m) hw hmd (by simp [es_upx]) (fun b => ?_) (fun b => ?_) (fun b => ?_) (fun b => ?_) (by rw [es_upf _ _ _ _ (show (53 : Nat) ≠ 48 by decide), es_upf _ _ _ _ (show (53 : Nat) ≠ 52 by decide), es_upf _ _ _ _ (show (53 : Nat) ≠ 51 by decide), es_upf _ _ _ _ (show (53 : Nat) ≠ 50 by decide), es_upf _ _ _ _ (show (53 : Nat) ≠ 49 by decide), es_upf _ _ _ _ (show (53 : Nat) ≠ 46 by decide)])) (fun Y hY h => md_oth h hY ?_ (fun b hb => ?_) (fun i hi => ?_))⟩), fun k hk => by rw [es_upf _ _ _ _ (by omega), es_upf _ _ _ _ (by omega), es_upf _ _ _ _ (by omega), es_upf _ _ _ _ (by omega), es_upf _ _ _ _ (by omega), es_upf _ _ _ _ (by omega)]⟩
                · rw [hq2]; simp [es_upx]
                · simp [es_upx]
                · simp [es_upx]
                · simp [es_upx]
                · simp [es_upx]; omega
                · have e1 : ¬ 24 * (1 - j) + b = 24 * j + em_n (sE S (nI j)) := by omega
                  simp [es_upx, e1]
                · simp [es_upx]
              · refine ev_aload_n (i := 0) d_MD_block_83 rfl rfl ?_
                refine ev_iload_n (i := 1) d_MD_block_84 rfl rfl ?_
                refine es_cVI ls_MD_block_85 d_MD_block_85 rfl (c_MD_delays hw hj hmd) rfl rfl (Nat.le_of_ble_eq_true rfl) (fun x85 σ85 h85 => ?_) (fun _ _ h => h.elim)
                obtain ⟨rfl, e85⟩ := h85
                rw [e85]
                have hd5 := hw.2.2.2.2.2.2
                refine ev_iconst (v := 5) d_MD_block_88 rfl ?_
                refine ev_icmp_ge d_MD_block_89 (fun h89 => ?_) (fun h89 => ?_)
                · rw [show (5 : Int32) = nI 5 from rfl, nI_leI (by omega) (by omega)] at h89
                  refine ev_iconst (v := 0) d_MD_block_96 rfl ?_
                  refine es_cVI ls_MD_block_97 d_MD_block_97 rfl c_MD_goes10 rfl rfl (Nat.le_of_ble_eq_true rfl) (fun x97 σ97 h97 => ?_) (fun _ _ h => h.elim)
                  obtain ⟨rfl, rfl⟩ := h97
                  refine ev_if_ne d_MD_block_100 (fun h => absurd h (by decide)) (fun _ => ?_)
                  refine ev_iconst (v := 0) d_MD_block_103 rfl ?_
                  refine es_iret d_MD_block_104 rfl ⟨Nat.zero_le _, Nat.zero_le _⟩ ⟨_, rfl, ?_⟩
                  first
                    | exact ⟨Or.inr (Or.inl ⟨⟨h6, h16, fun g => by first | exact h34 | exact absurd g h20, fun g => by first | exact h48 | exact absurd g h39⟩, fun g => absurd (g.2 (Classical.not_not.mp h80)) (by omega), by simp [es_upx], rm_thrown hm _⟩), fun k hk => es_upf _ _ _ _ (by omega)⟩
                    | exact ⟨Or.inr (Or.inl ⟨⟨h6, h16, fun g => by first | exact h34 | exact absurd g h20, fun g => by first | exact h48 | exact absurd g h39⟩, fun g => absurd (g.2 h80) (by omega), by simp [es_upx], rm_thrown hm _⟩), fun k hk => es_upf _ _ _ _ (by omega)⟩
                    | exact ⟨Or.inr (Or.inl ⟨⟨h6, h16, fun g => by first | exact h34 | exact absurd g h20, fun g => by first | exact h48 | exact absurd g h39⟩, fun g => absurd g.1 (by omega), by simp [es_upx], rm_thrown hm _⟩), fun k hk => es_upf _ _ _ _ (by omega)⟩
                    | exact ⟨Or.inl ⟨fun g => absurd (g.2.2.2 h39) (by rw [h48]; decide), by simp [es_upx], rm_thrown hm _⟩, fun k hk => es_upf _ _ _ _ (by omega)⟩
                    | exact ⟨Or.inl ⟨fun g => absurd (g.2.2.1 h20) (by rw [h34]; decide), by simp [es_upx], rm_thrown hm _⟩, fun k hk => es_upf _ _ _ _ (by omega)⟩
                    | exact ⟨Or.inl ⟨fun g => absurd g.2.1 (by rw [h16]; decide), by simp [es_upx], rm_thrown hm _⟩, fun k hk => es_upf _ _ _ _ (by omega)⟩
                    | exact ⟨Or.inl ⟨fun g => absurd g.1 (by rw [h6]; decide), by simp [es_upx], rm_thrown hm _⟩, fun k hk => es_upf _ _ _ _ (by omega)⟩
                · rw [show (5 : Int32) = nI 5 from rfl, nI_leI (by omega) (by omega), Nat.not_le] at h89
                  refine ev_iconst (v := 1) d_MD_block_92 rfl ?_
                  refine ev_goto d_MD_block_93 ?_
                  refine es_cVI ls_MD_block_97 d_MD_block_97 rfl c_MD_goes11 rfl rfl (Nat.le_of_ble_eq_true rfl) (fun x97 σ97 h97 => ?_) (fun _ _ h => h.elim)
                  obtain ⟨rfl, rfl⟩ := h97
                  refine ev_if_ne d_MD_block_100 (fun _ => ?_) (fun h => absurd h (by decide))
                  have hgd : g_block S (nI j) x m := ⟨h6, h16, fun g => by first | exact h34 | exact absurd g h20, fun g => by first | exact h48 | exact absurd g h39⟩
                  have hst : s_block S (nI j) x := ⟨h74, fun g => by first | exact h89 | exact absurd g h80⟩
                  obtain ⟨q, hq, rfl, hq2⟩ := ew_ex (n := 7) h16 (by omega)
                  have hx : em_n (sE S (nI j)) < 24 := h74
                  refine ev_bipush (v := 24) d_MD_block_105 rfl ?_
                  refine ev_iload_n (i := 1) d_MD_block_107 rfl rfl ?_
                  refine ev_imul d_MD_block_108 ?_
                  refine ev_aload_n (i := 0) d_MD_block_109 rfl rfl ?_
                  refine es_getR d_MD_block_110 f_MD_13 rfl rfl ?_
                  refine ev_iload_n (i := 1) d_MD_block_113 rfl rfl ?_
                  refine es_iald d_MD_block_114 rfl (ez_vinN (by omega) (by omega)) ?_
                  rw [hcj, es_upf _ _ _ _ (show (48 : Nat) ≠ 46 by decide), hmd.1]
                  refine ev_iadd d_MD_block_115 ?_
                  rw [ix24]
                  refine ev_istore d_MD_block_116 (by decide) ?_
                  dsimp only [List.set_cons_zero, List.set_cons_succ]
                  refine ev_aload_n (i := 0) d_MD_block_118 rfl rfl ?_
                  refine es_getR d_MD_block_119 f_MD_17 rfl rfl ?_
                  refine ev_iload d_MD_block_122 rfl ?_
                  refine ev_iload_n (i := 2) d_MD_block_124 rfl rfl ?_
                  refine es_iast d_MD_block_125 rfl (ez_vinN (by omega) (by omega)) ?_
                  rw [nI_clamp (show 24 * j + em_n (sE S (nI j)) < 2 ^ 31 by omega)]
                  refine ev_aload_n (i := 0) d_MD_block_126 rfl rfl ?_
                  refine es_getR d_MD_block_127 f_MD_20 rfl rfl ?_
                  refine ev_iload d_MD_block_130 rfl ?_
                  refine ev_iload_n (i := 3) d_MD_block_132 rfl rfl ?_
                  refine es_iast d_MD_block_133 rfl (ez_vinN (by omega) (by omega)) ?_
                  rw [nI_clamp (show 24 * j + em_n (sE S (nI j)) < 2 ^ 31 by omega)]
                  refine ev_aload_n (i := 0) d_MD_block_134 rfl rfl ?_
                  refine es_getR d_MD_block_135 f_MD_23 rfl rfl ?_
                  refine ev_iload d_MD_block_138 rfl ?_
                  refine ev_iconst (v := (-1)) d_MD_block_140 rfl ?_
                  refine es_iast d_MD_block_141 rfl (ez_vinN (by omega) (by omega)) ?_
                  rw [nI_clamp (show 24 * j + em_n (sE S (nI j)) < 2 ^ 31 by omega)]
                  refine ev_aload_n (i := 0) d_MD_block_142 rfl rfl ?_
                  refine es_getR d_MD_block_143 f_MD_26 rfl rfl ?_
                  refine ev_iload d_MD_block_146 rfl ?_
                  refine ev_iconst (v := (-1)) d_MD_block_148 rfl ?_
                  refine es_iast d_MD_block_149 rfl (ez_vinN (by omega) (by omega)) ?_
                  rw [nI_clamp (show 24 * j + em_n (sE S (nI j)) < 2 ^ 31 by omega)]
                  refine ev_aload_n (i := 0) d_MD_block_150 rfl rfl ?_
                  refine es_getR d_MD_block_151 f_MD_13 rfl rfl ?_
                  refine ev_iload_n (i := 1) d_MD_block_154 rfl rfl ?_
                  refine ev_dup2 d_MD_block_155 rfl rfl ?_
                  refine es_iald d_MD_block_156 rfl (ez_vinN (by omega) (by omega)) ?_
                  rw [hcj, es_upf _ _ _ _ (show (48 : Nat) ≠ 52 by decide), es_upf _ _ _ _ (show (48 : Nat) ≠ 51 by decide), es_upf _ _ _ _ (show (48 : Nat) ≠ 50 by decide), es_upf _ _ _ _ (show (48 : Nat) ≠ 49 by decide), es_upf _ _ _ _ (show (48 : Nat) ≠ 46 by decide), hmd.1]
                  refine ev_iconst (v := 1) d_MD_block_157 rfl ?_
                  refine ev_iadd d_MD_block_158 ?_
                  rw [nI_1]
                  refine es_iast d_MD_block_159 rfl (ez_vinN (by omega) (by omega)) ?_
                  rw [hcj]
                  refine ev_aload_n (i := 0) d_MD_block_160 rfl rfl ?_
                  refine es_getR d_MD_block_161 f_MD_13 rfl rfl ?_
                  refine ev_iload_n (i := 1) d_MD_block_164 rfl rfl ?_
                  refine es_iald d_MD_block_165 rfl (ez_vinN (by omega) (by omega)) ?_
                  rw [hcj, es_up_eq]
                  refine ev_iconst (v := 1) d_MD_block_166 rfl ?_
                  refine ev_isub d_MD_block_167 ?_
                  rw [nI_pred]
                  refine es_iret d_MD_block_168 rfl ⟨Nat.zero_le _, Nat.zero_le _⟩ ⟨_, rfl, ?_⟩
                  refine ⟨Or.inr (Or.inr ⟨hgd, hst, by simp [es_upx], rfl, rm_set hj hm (n_block_wf hm.1 hgd hst) (by simp [es_upx]) (by rw [es_upf _ _ _ _ (show (47 : Nat) ≠ 48 by decide), es_upf _ _ _ _ (show (47 : Nat) ≠ 52 by decide), es_upf _ _ _ _ (show (47 : Nat) ≠ 51 by decide), es_upf _ _ _ _ (show (47 : Nat) ≠ 50 by decide), es_upf _ _ _ _ (show (47 : Nat) ≠ 49 by decide), es_upf _ _ _ _ (show (47 : Nat) ≠ 46 by decide)]) (md_add (e := j) (k := tn (nI q)) (m := m) hw hmd (by simp [es_upx]) (fun b => ?_) (fun b => ?_) (fun b => ?_) (fun b => ?_) (by rw [es_upf _ _ _ _ (show (53 : Nat) ≠ 48 by decide), es_upf _ _ _ _ (show (53 : Nat) ≠ 52 by decide), es_upf _ _ _ _ (show (53 : Nat) ≠ 51 by decide), es_upf _ _ _ _ (show (53 : Nat) ≠ 50 by decide), es_upf _ _ _ _ (show (53 : Nat) ≠ 49 by decide), es_upf _ _ _ _ (show (53 : Nat) ≠ 46 by decide)])) (fun Y hY h => md_oth h hY ?_ (fun b hb => ?_) (fun i hi => ?_))⟩), fun k hk => by rw [es_upf _ _ _ _ (by omega), es_upf _ _ _ _ (by omega), es_upf _ _ _ _ (by omega), es_upf _ _ _ _ (by omega), es_upf _ _ _ _ (by omega), es_upf _ _ _ _ (by omega)]⟩
                  · rw [hq2]; simp [es_upx]
                  · simp [es_upx]
                  · simp [es_upx]
                  · simp [es_upx]
                  · simp [es_upx]; omega
                  · have e1 : ¬ 24 * (1 - j) + b = 24 * j + em_n (sE S (nI j)) := by omega
                    simp [es_upx, e1]
                  · simp [es_upx]
      · refine ev_iload_n (i := 3) d_MD_block_23 rfl rfl ?_
        refine ev_iconst (v := 0) d_MD_block_24 rfl ?_
        refine ev_aload_n (i := 0) d_MD_block_25 rfl rfl ?_
        refine es_getI d_MD_block_26 f_MD_62 rfl rfl ?_
        refine ev_iconst (v := 1) d_MD_block_29 rfl ?_
        refine ev_isub d_MD_block_30 ?_
        refine es_cSI ls_MD_block_31 d_MD_block_31 c_MD_in rfl rfl (Nat.le_of_ble_eq_true rfl) (fun x31 σ31 h31 => ?_) (fun _ _ h => h.elim)
        obtain ⟨rfl, e31⟩ := h31
        rw [e31, hm.2.1, ei_ew (by omega)]
        refine ev_if_eq d_MD_block_34 (fun h34 => ?_) (fun h34 => ?_)
        · rw [eb_0] at h34
          refine ev_iconst (v := 0) d_MD_block_55 rfl ?_
          refine ev_istore d_MD_block_56 (by decide) ?_
          dsimp only [List.set_cons_zero, List.set_cons_succ]
          refine ev_aload_n (i := 0) d_MD_block_58 rfl rfl ?_
          refine ev_iload d_MD_block_59 rfl ?_
          refine ev_iload d_MD_block_61 rfl ?_
          refine ev_if_eq d_MD_block_63 (fun _ => ?_) (fun h => absurd h (by decide))
          refine ev_iconst (v := 0) d_MD_block_96 rfl ?_
          refine es_cVI ls_MD_block_97 d_MD_block_97 rfl (c_MD_goes0 (s := false)) rfl rfl (Nat.le_of_ble_eq_true rfl) (fun x97 σ97 h97 => ?_) (fun _ _ h => h.elim)
          obtain ⟨rfl, rfl⟩ := h97
          refine ev_if_ne d_MD_block_100 (fun h => absurd h (by decide)) (fun _ => ?_)
          refine ev_iconst (v := 0) d_MD_block_103 rfl ?_
          refine es_iret d_MD_block_104 rfl ⟨Nat.zero_le _, Nat.zero_le _⟩ ⟨_, rfl, ?_⟩
          first
            | exact ⟨Or.inr (Or.inl ⟨⟨h6, h16, fun g => by first | exact h34 | exact absurd g h20, fun g => by first | exact h48 | exact absurd g h39⟩, fun g => absurd (g.2 (Classical.not_not.mp h80)) (by omega), by simp [es_upx], rm_thrown hm _⟩), fun k hk => es_upf _ _ _ _ (by omega)⟩
            | exact ⟨Or.inr (Or.inl ⟨⟨h6, h16, fun g => by first | exact h34 | exact absurd g h20, fun g => by first | exact h48 | exact absurd g h39⟩, fun g => absurd (g.2 h80) (by omega), by simp [es_upx], rm_thrown hm _⟩), fun k hk => es_upf _ _ _ _ (by omega)⟩
            | exact ⟨Or.inr (Or.inl ⟨⟨h6, h16, fun g => by first | exact h34 | exact absurd g h20, fun g => by first | exact h48 | exact absurd g h39⟩, fun g => absurd g.1 (by omega), by simp [es_upx], rm_thrown hm _⟩), fun k hk => es_upf _ _ _ _ (by omega)⟩
            | exact ⟨Or.inl ⟨fun g => absurd (g.2.2.2 h39) (by rw [h48]; decide), by simp [es_upx], rm_thrown hm _⟩, fun k hk => es_upf _ _ _ _ (by omega)⟩
            | exact ⟨Or.inl ⟨fun g => absurd (g.2.2.1 h20) (by rw [h34]; decide), by simp [es_upx], rm_thrown hm _⟩, fun k hk => es_upf _ _ _ _ (by omega)⟩
            | exact ⟨Or.inl ⟨fun g => absurd g.2.1 (by rw [h16]; decide), by simp [es_upx], rm_thrown hm _⟩, fun k hk => es_upf _ _ _ _ (by omega)⟩
            | exact ⟨Or.inl ⟨fun g => absurd g.1 (by rw [h6]; decide), by simp [es_upx], rm_thrown hm _⟩, fun k hk => es_upf _ _ _ _ (by omega)⟩
        · rw [eb_0, Bool.not_eq_false] at h34
          refine ev_iload_n (i := 2) d_MD_block_37 rfl rfl ?_
          refine ev_iconst (v := 1) d_MD_block_38 rfl ?_
          refine ev_icmp_ne d_MD_block_39 (fun h39 => ?_) (fun h39 => ?_)
          · refine ev_iconst (v := 1) d_MD_block_51 rfl ?_
            refine ev_goto d_MD_block_52 ?_
            refine ev_istore d_MD_block_56 (by decide) ?_
            dsimp only [List.set_cons_zero, List.set_cons_succ]
            refine ev_aload_n (i := 0) d_MD_block_58 rfl rfl ?_
            refine ev_iload d_MD_block_59 rfl ?_
            refine ev_iload d_MD_block_61 rfl ?_
            refine ev_if_eq d_MD_block_63 (fun h => absurd h (by decide)) (fun _ => ?_)
            refine ev_aload_n (i := 0) d_MD_block_66 rfl rfl ?_
            refine es_getR d_MD_block_67 f_MD_13 rfl rfl ?_
            refine ev_iload_n (i := 1) d_MD_block_70 rfl rfl ?_
            refine es_iald d_MD_block_71 rfl (ez_vinN (by omega) (by omega)) ?_
            rw [hcj, hmd.1]
            refine ev_bipush (v := 24) d_MD_block_72 rfl ?_
            refine ev_icmp_ge d_MD_block_74 (fun h74 => ?_) (fun h74 => ?_)
            · rw [show (24 : Int32) = nI 24 from rfl, nI_leI (by omega) (by omega)] at h74
              refine ev_iconst (v := 0) d_MD_block_96 rfl ?_
              refine es_cVI ls_MD_block_97 d_MD_block_97 rfl c_MD_goes10 rfl rfl (Nat.le_of_ble_eq_true rfl) (fun x97 σ97 h97 => ?_) (fun _ _ h => h.elim)
              obtain ⟨rfl, rfl⟩ := h97
              refine ev_if_ne d_MD_block_100 (fun h => absurd h (by decide)) (fun _ => ?_)
              refine ev_iconst (v := 0) d_MD_block_103 rfl ?_
              refine es_iret d_MD_block_104 rfl ⟨Nat.zero_le _, Nat.zero_le _⟩ ⟨_, rfl, ?_⟩
              first
                | exact ⟨Or.inr (Or.inl ⟨⟨h6, h16, fun g => by first | exact h34 | exact absurd g h20, fun g => by first | exact h48 | exact absurd g h39⟩, fun g => absurd (g.2 (Classical.not_not.mp h80)) (by omega), by simp [es_upx], rm_thrown hm _⟩), fun k hk => es_upf _ _ _ _ (by omega)⟩
                | exact ⟨Or.inr (Or.inl ⟨⟨h6, h16, fun g => by first | exact h34 | exact absurd g h20, fun g => by first | exact h48 | exact absurd g h39⟩, fun g => absurd (g.2 h80) (by omega), by simp [es_upx], rm_thrown hm _⟩), fun k hk => es_upf _ _ _ _ (by omega)⟩
                | exact ⟨Or.inr (Or.inl ⟨⟨h6, h16, fun g => by first | exact h34 | exact absurd g h20, fun g => by first | exact h48 | exact absurd g h39⟩, fun g => absurd g.1 (by omega), by simp [es_upx], rm_thrown hm _⟩), fun k hk => es_upf _ _ _ _ (by omega)⟩
                | exact ⟨Or.inl ⟨fun g => absurd (g.2.2.2 h39) (by rw [h48]; decide), by simp [es_upx], rm_thrown hm _⟩, fun k hk => es_upf _ _ _ _ (by omega)⟩
                | exact ⟨Or.inl ⟨fun g => absurd (g.2.2.1 h20) (by rw [h34]; decide), by simp [es_upx], rm_thrown hm _⟩, fun k hk => es_upf _ _ _ _ (by omega)⟩
                | exact ⟨Or.inl ⟨fun g => absurd g.2.1 (by rw [h16]; decide), by simp [es_upx], rm_thrown hm _⟩, fun k hk => es_upf _ _ _ _ (by omega)⟩
                | exact ⟨Or.inl ⟨fun g => absurd g.1 (by rw [h6]; decide), by simp [es_upx], rm_thrown hm _⟩, fun k hk => es_upf _ _ _ _ (by omega)⟩
            · rw [show (24 : Int32) = nI 24 from rfl, nI_leI (by omega) (by omega), Nat.not_le] at h74
              refine ev_iload_n (i := 2) d_MD_block_77 rfl rfl ?_
              refine ev_bipush (v := 6) d_MD_block_78 rfl ?_
              refine ev_icmp_ne d_MD_block_80 (fun h80 => ?_) (fun h80 => ?_)
              · refine ev_iconst (v := 1) d_MD_block_92 rfl ?_
                refine ev_goto d_MD_block_93 ?_
                refine es_cVI ls_MD_block_97 d_MD_block_97 rfl c_MD_goes11 rfl rfl (Nat.le_of_ble_eq_true rfl) (fun x97 σ97 h97 => ?_) (fun _ _ h => h.elim)
                obtain ⟨rfl, rfl⟩ := h97
                refine ev_if_ne d_MD_block_100 (fun _ => ?_) (fun h => absurd h (by decide))
                have hgd : g_block S (nI j) x m := ⟨h6, h16, fun g => by first | exact h34 | exact absurd g h20, fun g => by first | exact h48 | exact absurd g h39⟩
                have hst : s_block S (nI j) x := ⟨h74, fun g => by first | exact h89 | exact absurd g h80⟩
                obtain ⟨q, hq, rfl, hq2⟩ := ew_ex (n := 7) h16 (by omega)
                have hx : em_n (sE S (nI j)) < 24 := h74
                refine ev_bipush (v := 24) d_MD_block_105 rfl ?_
                refine ev_iload_n (i := 1) d_MD_block_107 rfl rfl ?_
                refine ev_imul d_MD_block_108 ?_
                refine ev_aload_n (i := 0) d_MD_block_109 rfl rfl ?_
                refine es_getR d_MD_block_110 f_MD_13 rfl rfl ?_
                refine ev_iload_n (i := 1) d_MD_block_113 rfl rfl ?_
                refine es_iald d_MD_block_114 rfl (ez_vinN (by omega) (by omega)) ?_
                rw [hcj, es_upf _ _ _ _ (show (48 : Nat) ≠ 46 by decide), hmd.1]
                refine ev_iadd d_MD_block_115 ?_
                rw [ix24]
                refine ev_istore d_MD_block_116 (by decide) ?_
                dsimp only [List.set_cons_zero, List.set_cons_succ]
                refine ev_aload_n (i := 0) d_MD_block_118 rfl rfl ?_
                refine es_getR d_MD_block_119 f_MD_17 rfl rfl ?_
                refine ev_iload d_MD_block_122 rfl ?_
                refine ev_iload_n (i := 2) d_MD_block_124 rfl rfl ?_
                refine es_iast d_MD_block_125 rfl (ez_vinN (by omega) (by omega)) ?_
                rw [nI_clamp (show 24 * j + em_n (sE S (nI j)) < 2 ^ 31 by omega)]
                refine ev_aload_n (i := 0) d_MD_block_126 rfl rfl ?_
                refine es_getR d_MD_block_127 f_MD_20 rfl rfl ?_
                refine ev_iload d_MD_block_130 rfl ?_
                refine ev_iload_n (i := 3) d_MD_block_132 rfl rfl ?_
                refine es_iast d_MD_block_133 rfl (ez_vinN (by omega) (by omega)) ?_
                rw [nI_clamp (show 24 * j + em_n (sE S (nI j)) < 2 ^ 31 by omega)]
                refine ev_aload_n (i := 0) d_MD_block_134 rfl rfl ?_
                refine es_getR d_MD_block_135 f_MD_23 rfl rfl ?_
                refine ev_iload d_MD_block_138 rfl ?_
                refine ev_iconst (v := (-1)) d_MD_block_140 rfl ?_
                refine es_iast d_MD_block_141 rfl (ez_vinN (by omega) (by omega)) ?_
                rw [nI_clamp (show 24 * j + em_n (sE S (nI j)) < 2 ^ 31 by omega)]
                refine ev_aload_n (i := 0) d_MD_block_142 rfl rfl ?_
                refine es_getR d_MD_block_143 f_MD_26 rfl rfl ?_
                refine ev_iload d_MD_block_146 rfl ?_
                refine ev_iconst (v := (-1)) d_MD_block_148 rfl ?_
                refine es_iast d_MD_block_149 rfl (ez_vinN (by omega) (by omega)) ?_
                rw [nI_clamp (show 24 * j + em_n (sE S (nI j)) < 2 ^ 31 by omega)]
                refine ev_aload_n (i := 0) d_MD_block_150 rfl rfl ?_
                refine es_getR d_MD_block_151 f_MD_13 rfl rfl ?_
                refine ev_iload_n (i := 1) d_MD_block_154 rfl rfl ?_
                refine ev_dup2 d_MD_block_155 rfl rfl ?_
                refine es_iald d_MD_block_156 rfl (ez_vinN (by omega) (by omega)) ?_
                rw [hcj, es_upf _ _ _ _ (show (48 : Nat) ≠ 52 by decide), es_upf _ _ _ _ (show (48 : Nat) ≠ 51 by decide), es_upf _ _ _ _ (show (48 : Nat) ≠ 50 by decide), es_upf _ _ _ _ (show (48 : Nat) ≠ 49 by decide), es_upf _ _ _ _ (show (48 : Nat) ≠ 46 by decide), hmd.1]
                refine ev_iconst (v := 1) d_MD_block_157 rfl ?_
                refine ev_iadd d_MD_block_158 ?_
                rw [nI_1]
                refine es_iast d_MD_block_159 rfl (ez_vinN (by omega) (by omega)) ?_
                rw [hcj]
                refine ev_aload_n (i := 0) d_MD_block_160 rfl rfl ?_
                refine es_getR d_MD_block_161 f_MD_13 rfl rfl ?_
                refine ev_iload_n (i := 1) d_MD_block_164 rfl rfl ?_
                refine es_iald d_MD_block_165 rfl (ez_vinN (by omega) (by omega)) ?_
                rw [hcj, es_up_eq]
                refine ev_iconst (v := 1) d_MD_block_166 rfl ?_
                refine ev_isub d_MD_block_167 ?_
                rw [nI_pred]
                refine es_iret d_MD_block_168 rfl ⟨Nat.zero_le _, Nat.zero_le _⟩ ⟨_, rfl, ?_⟩
                refine ⟨Or.inr (Or.inr ⟨hgd, hst, by simp [es_upx], rfl, rm_set hj hm (n_block_wf hm.1 hgd hst) (by simp [es_upx]) (by rw [es_upf _ _ _ _ (show (47 : Nat) ≠ 48 by decide), es_upf _ _ _ _ (show (47 : Nat) ≠ 52 by decide), es_upf _ _ _ _ (show (47 : Nat) ≠ 51 by decide), es_upf _ _ _ _ (show (47 : Nat) ≠ 50 by decide), es_upf _ _ _ _ (show (47 : Nat) ≠ 49 by decide), es_upf _ _ _ _ (show (47 : Nat) ≠ 46 by decide)]) (md_add (e := j) (k := tn (nI q)) (m := m) hw hmd (by simp [es_upx]) (fun b => ?_) (fun b => ?_) (fun b => ?_) (fun b => ?_) (by rw [es_upf _ _ _ _ (show (53 : Nat) ≠ 48 by decide), es_upf _ _ _ _ (show (53 : Nat) ≠ 52 by decide), es_upf _ _ _ _ (show (53 : Nat) ≠ 51 by decide), es_upf _ _ _ _ (show (53 : Nat) ≠ 50 by decide), es_upf _ _ _ _ (show (53 : Nat) ≠ 49 by decide), es_upf _ _ _ _ (show (53 : Nat) ≠ 46 by decide)])) (fun Y hY h => md_oth h hY ?_ (fun b hb => ?_) (fun i hi => ?_))⟩), fun k hk => by rw [es_upf _ _ _ _ (by omega), es_upf _ _ _ _ (by omega), es_upf _ _ _ _ (by omega), es_upf _ _ _ _ (by omega), es_upf _ _ _ _ (by omega), es_upf _ _ _ _ (by omega)]⟩
                · rw [hq2]; simp [es_upx]
                · simp [es_upx]
                · simp [es_upx]
                · simp [es_upx]
                · simp [es_upx]; omega
                · have e1 : ¬ 24 * (1 - j) + b = 24 * j + em_n (sE S (nI j)) := by omega
                  simp [es_upx, e1]
                · simp [es_upx]
              · refine ev_aload_n (i := 0) d_MD_block_83 rfl rfl ?_
                refine ev_iload_n (i := 1) d_MD_block_84 rfl rfl ?_
                refine es_cVI ls_MD_block_85 d_MD_block_85 rfl (c_MD_delays hw hj hmd) rfl rfl (Nat.le_of_ble_eq_true rfl) (fun x85 σ85 h85 => ?_) (fun _ _ h => h.elim)
                obtain ⟨rfl, e85⟩ := h85
                rw [e85]
                have hd5 := hw.2.2.2.2.2.2
                refine ev_iconst (v := 5) d_MD_block_88 rfl ?_
                refine ev_icmp_ge d_MD_block_89 (fun h89 => ?_) (fun h89 => ?_)
                · rw [show (5 : Int32) = nI 5 from rfl, nI_leI (by omega) (by omega)] at h89
                  refine ev_iconst (v := 0) d_MD_block_96 rfl ?_
                  refine es_cVI ls_MD_block_97 d_MD_block_97 rfl c_MD_goes10 rfl rfl (Nat.le_of_ble_eq_true rfl) (fun x97 σ97 h97 => ?_) (fun _ _ h => h.elim)
                  obtain ⟨rfl, rfl⟩ := h97
                  refine ev_if_ne d_MD_block_100 (fun h => absurd h (by decide)) (fun _ => ?_)
                  refine ev_iconst (v := 0) d_MD_block_103 rfl ?_
                  refine es_iret d_MD_block_104 rfl ⟨Nat.zero_le _, Nat.zero_le _⟩ ⟨_, rfl, ?_⟩
                  first
                    | exact ⟨Or.inr (Or.inl ⟨⟨h6, h16, fun g => by first | exact h34 | exact absurd g h20, fun g => by first | exact h48 | exact absurd g h39⟩, fun g => absurd (g.2 (Classical.not_not.mp h80)) (by omega), by simp [es_upx], rm_thrown hm _⟩), fun k hk => es_upf _ _ _ _ (by omega)⟩
                    | exact ⟨Or.inr (Or.inl ⟨⟨h6, h16, fun g => by first | exact h34 | exact absurd g h20, fun g => by first | exact h48 | exact absurd g h39⟩, fun g => absurd (g.2 h80) (by omega), by simp [es_upx], rm_thrown hm _⟩), fun k hk => es_upf _ _ _ _ (by omega)⟩
                    | exact ⟨Or.inr (Or.inl ⟨⟨h6, h16, fun g => by first | exact h34 | exact absurd g h20, fun g => by first | exact h48 | exact absurd g h39⟩, fun g => absurd g.1 (by omega), by simp [es_upx], rm_thrown hm _⟩), fun k hk => es_upf _ _ _ _ (by omega)⟩
                    | exact ⟨Or.inl ⟨fun g => absurd (g.2.2.2 h39) (by rw [h48]; decide), by simp [es_upx], rm_thrown hm _⟩, fun k hk => es_upf _ _ _ _ (by omega)⟩
                    | exact ⟨Or.inl ⟨fun g => absurd (g.2.2.1 h20) (by rw [h34]; decide), by simp [es_upx], rm_thrown hm _⟩, fun k hk => es_upf _ _ _ _ (by omega)⟩
                    | exact ⟨Or.inl ⟨fun g => absurd g.2.1 (by rw [h16]; decide), by simp [es_upx], rm_thrown hm _⟩, fun k hk => es_upf _ _ _ _ (by omega)⟩
                    | exact ⟨Or.inl ⟨fun g => absurd g.1 (by rw [h6]; decide), by simp [es_upx], rm_thrown hm _⟩, fun k hk => es_upf _ _ _ _ (by omega)⟩
                · rw [show (5 : Int32) = nI 5 from rfl, nI_leI (by omega) (by omega), Nat.not_le] at h89
                  refine ev_iconst (v := 1) d_MD_block_92 rfl ?_
                  refine ev_goto d_MD_block_93 ?_
                  refine es_cVI ls_MD_block_97 d_MD_block_97 rfl c_MD_goes11 rfl rfl (Nat.le_of_ble_eq_true rfl) (fun x97 σ97 h97 => ?_) (fun _ _ h => h.elim)
                  obtain ⟨rfl, rfl⟩ := h97
                  refine ev_if_ne d_MD_block_100 (fun _ => ?_) (fun h => absurd h (by decide))
                  have hgd : g_block S (nI j) x m := ⟨h6, h16, fun g => by first | exact h34 | exact absurd g h20, fun g => by first | exact h48 | exact absurd g h39⟩
                  have hst : s_block S (nI j) x := ⟨h74, fun g => by first | exact h89 | exact absurd g h80⟩
                  obtain ⟨q, hq, rfl, hq2⟩ := ew_ex (n := 7) h16 (by omega)
                  have hx : em_n (sE S (nI j)) < 24 := h74
                  refine ev_bipush (v := 24) d_MD_block_105 rfl ?_
                  refine ev_iload_n (i := 1) d_MD_block_107 rfl rfl ?_
                  refine ev_imul d_MD_block_108 ?_
                  refine ev_aload_n (i := 0) d_MD_block_109 rfl rfl ?_
                  refine es_getR d_MD_block_110 f_MD_13 rfl rfl ?_
                  refine ev_iload_n (i := 1) d_MD_block_113 rfl rfl ?_
                  refine es_iald d_MD_block_114 rfl (ez_vinN (by omega) (by omega)) ?_
                  rw [hcj, es_upf _ _ _ _ (show (48 : Nat) ≠ 46 by decide), hmd.1]
                  refine ev_iadd d_MD_block_115 ?_
                  rw [ix24]
                  refine ev_istore d_MD_block_116 (by decide) ?_
                  dsimp only [List.set_cons_zero, List.set_cons_succ]
                  refine ev_aload_n (i := 0) d_MD_block_118 rfl rfl ?_
                  refine es_getR d_MD_block_119 f_MD_17 rfl rfl ?_
                  refine ev_iload d_MD_block_122 rfl ?_
                  refine ev_iload_n (i := 2) d_MD_block_124 rfl rfl ?_
                  refine es_iast d_MD_block_125 rfl (ez_vinN (by omega) (by omega)) ?_
                  rw [nI_clamp (show 24 * j + em_n (sE S (nI j)) < 2 ^ 31 by omega)]
                  refine ev_aload_n (i := 0) d_MD_block_126 rfl rfl ?_
                  refine es_getR d_MD_block_127 f_MD_20 rfl rfl ?_
                  refine ev_iload d_MD_block_130 rfl ?_
                  refine ev_iload_n (i := 3) d_MD_block_132 rfl rfl ?_
                  refine es_iast d_MD_block_133 rfl (ez_vinN (by omega) (by omega)) ?_
                  rw [nI_clamp (show 24 * j + em_n (sE S (nI j)) < 2 ^ 31 by omega)]
                  refine ev_aload_n (i := 0) d_MD_block_134 rfl rfl ?_
                  refine es_getR d_MD_block_135 f_MD_23 rfl rfl ?_
                  refine ev_iload d_MD_block_138 rfl ?_
                  refine ev_iconst (v := (-1)) d_MD_block_140 rfl ?_
                  refine es_iast d_MD_block_141 rfl (ez_vinN (by omega) (by omega)) ?_
                  rw [nI_clamp (show 24 * j + em_n (sE S (nI j)) < 2 ^ 31 by omega)]
                  refine ev_aload_n (i := 0) d_MD_block_142 rfl rfl ?_
                  refine es_getR d_MD_block_143 f_MD_26 rfl rfl ?_
                  refine ev_iload d_MD_block_146 rfl ?_
                  refine ev_iconst (v := (-1)) d_MD_block_148 rfl ?_
                  refine es_iast d_MD_block_149 rfl (ez_vinN (by omega) (by omega)) ?_
                  rw [nI_clamp (show 24 * j + em_n (sE S (nI j)) < 2 ^ 31 by omega)]
                  refine ev_aload_n (i := 0) d_MD_block_150 rfl rfl ?_
                  refine es_getR d_MD_block_151 f_MD_13 rfl rfl ?_
                  refine ev_iload_n (i := 1) d_MD_block_154 rfl rfl ?_
                  refine ev_dup2 d_MD_block_155 rfl rfl ?_
                  refine es_iald d_MD_block_156 rfl (ez_vinN (by omega) (by omega)) ?_
                  rw [hcj, es_upf _ _ _ _ (show (48 : Nat) ≠ 52 by decide), es_upf _ _ _ _ (show (48 : Nat) ≠ 51 by decide), es_upf _ _ _ _ (show (48 : Nat) ≠ 50 by decide), es_upf _ _ _ _ (show (48 : Nat) ≠ 49 by decide), es_upf _ _ _ _ (show (48 : Nat) ≠ 46 by decide), hmd.1]
                  refine ev_iconst (v := 1) d_MD_block_157 rfl ?_
                  refine ev_iadd d_MD_block_158 ?_
                  rw [nI_1]
                  refine es_iast d_MD_block_159 rfl (ez_vinN (by omega) (by omega)) ?_
                  rw [hcj]
                  refine ev_aload_n (i := 0) d_MD_block_160 rfl rfl ?_
                  refine es_getR d_MD_block_161 f_MD_13 rfl rfl ?_
                  refine ev_iload_n (i := 1) d_MD_block_164 rfl rfl ?_
                  refine es_iald d_MD_block_165 rfl (ez_vinN (by omega) (by omega)) ?_
                  rw [hcj, es_up_eq]
                  refine ev_iconst (v := 1) d_MD_block_166 rfl ?_
                  refine ev_isub d_MD_block_167 ?_
                  rw [nI_pred]
                  refine es_iret d_MD_block_168 rfl ⟨Nat.zero_le _, Nat.zero_le _⟩ ⟨_, rfl, ?_⟩
                  refine ⟨Or.inr (Or.inr ⟨hgd, hst, by simp [es_upx], rfl, rm_set hj hm (n_block_wf hm.1 hgd hst) (by simp [es_upx]) (by rw [es_upf _ _ _ _ (show (47 : Nat) ≠ 48 by decide), es_upf _ _ _ _ (show (47 : Nat) ≠ 52 by decide), es_upf _ _ _ _ (show (47 : Nat) ≠ 51 by decide), es_upf _ _ _ _ (show (47 : Nat) ≠ 50 by decide), es_upf _ _ _ _ (show (47 : Nat) ≠ 49 by decide), es_upf _ _ _ _ (show (47 : Nat) ≠ 46 by decide)]) (md_add (e := j) (k := tn (nI q)) (m := m) hw hmd (by simp [es_upx]) (fun b => ?_) (fun b => ?_) (fun b => ?_) (fun b => ?_) (by rw [es_upf _ _ _ _ (show (53 : Nat) ≠ 48 by decide), es_upf _ _ _ _ (show (53 : Nat) ≠ 52 by decide), es_upf _ _ _ _ (show (53 : Nat) ≠ 51 by decide), es_upf _ _ _ _ (show (53 : Nat) ≠ 50 by decide), es_upf _ _ _ _ (show (53 : Nat) ≠ 49 by decide), es_upf _ _ _ _ (show (53 : Nat) ≠ 46 by decide)])) (fun Y hY h => md_oth h hY ?_ (fun b hb => ?_) (fun i hi => ?_))⟩), fun k hk => by rw [es_upf _ _ _ _ (by omega), es_upf _ _ _ _ (by omega), es_upf _ _ _ _ (by omega), es_upf _ _ _ _ (by omega), es_upf _ _ _ _ (by omega), es_upf _ _ _ _ (by omega)]⟩
                  · rw [hq2]; simp [es_upx]
                  · simp [es_upx]
                  · simp [es_upx]
                  · simp [es_upx]
                  · simp [es_upx]; omega
                  · have e1 : ¬ 24 * (1 - j) + b = 24 * j + em_n (sE S (nI j)) := by omega
                    simp [es_upx, e1]
                  · simp [es_upx]
          · refine ev_iload_n (i := 3) d_MD_block_42 rfl rfl ?_
            refine ev_iconst (v := 0) d_MD_block_43 rfl ?_
            refine ev_iconst (v := 1) d_MD_block_44 rfl ?_
            refine es_cSI ls_MD_block_45 d_MD_block_45 c_MD_in rfl rfl (Nat.le_of_ble_eq_true rfl) (fun x45 σ45 h45 => ?_) (fun _ _ h => h.elim)
            obtain ⟨rfl, e45⟩ := h45
            rw [e45, ei1]
            refine ev_if_eq d_MD_block_48 (fun h48 => ?_) (fun h48 => ?_)
            · rw [eb_0] at h48
              refine ev_iconst (v := 0) d_MD_block_55 rfl ?_
              refine ev_istore d_MD_block_56 (by decide) ?_
              dsimp only [List.set_cons_zero, List.set_cons_succ]
              refine ev_aload_n (i := 0) d_MD_block_58 rfl rfl ?_
              refine ev_iload d_MD_block_59 rfl ?_
              refine ev_iload d_MD_block_61 rfl ?_
              refine ev_if_eq d_MD_block_63 (fun _ => ?_) (fun h => absurd h (by decide))
              refine ev_iconst (v := 0) d_MD_block_96 rfl ?_
              refine es_cVI ls_MD_block_97 d_MD_block_97 rfl (c_MD_goes0 (s := false)) rfl rfl (Nat.le_of_ble_eq_true rfl) (fun x97 σ97 h97 => ?_) (fun _ _ h => h.elim)
              obtain ⟨rfl, rfl⟩ := h97
              refine ev_if_ne d_MD_block_100 (fun h => absurd h (by decide)) (fun _ => ?_)
              refine ev_iconst (v := 0) d_MD_block_103 rfl ?_
              refine es_iret d_MD_block_104 rfl ⟨Nat.zero_le _, Nat.zero_le _⟩ ⟨_, rfl, ?_⟩
              first
                | exact ⟨Or.inr (Or.inl ⟨⟨h6, h16, fun g => by first | exact h34 | exact absurd g h20, fun g => by first | exact h48 | exact absurd g h39⟩, fun g => absurd (g.2 (Classical.not_not.mp h80)) (by omega), by simp [es_upx], rm_thrown hm _⟩), fun k hk => es_upf _ _ _ _ (by omega)⟩
                | exact ⟨Or.inr (Or.inl ⟨⟨h6, h16, fun g => by first | exact h34 | exact absurd g h20, fun g => by first | exact h48 | exact absurd g h39⟩, fun g => absurd (g.2 h80) (by omega), by simp [es_upx], rm_thrown hm _⟩), fun k hk => es_upf _ _ _ _ (by omega)⟩
                | exact ⟨Or.inr (Or.inl ⟨⟨h6, h16, fun g => by first | exact h34 | exact absurd g h20, fun g => by first | exact h48 | exact absurd g h39⟩, fun g => absurd g.1 (by omega), by simp [es_upx], rm_thrown hm _⟩), fun k hk => es_upf _ _ _ _ (by omega)⟩
                | exact ⟨Or.inl ⟨fun g => absurd (g.2.2.2 h39) (by rw [h48]; decide), by simp [es_upx], rm_thrown hm _⟩, fun k hk => es_upf _ _ _ _ (by omega)⟩
                | exact ⟨Or.inl ⟨fun g => absurd (g.2.2.1 h20) (by rw [h34]; decide), by simp [es_upx], rm_thrown hm _⟩, fun k hk => es_upf _ _ _ _ (by omega)⟩
                | exact ⟨Or.inl ⟨fun g => absurd g.2.1 (by rw [h16]; decide), by simp [es_upx], rm_thrown hm _⟩, fun k hk => es_upf _ _ _ _ (by omega)⟩
                | exact ⟨Or.inl ⟨fun g => absurd g.1 (by rw [h6]; decide), by simp [es_upx], rm_thrown hm _⟩, fun k hk => es_upf _ _ _ _ (by omega)⟩
            · rw [eb_0, Bool.not_eq_false] at h48
              refine ev_iconst (v := 1) d_MD_block_51 rfl ?_
              refine ev_goto d_MD_block_52 ?_
              refine ev_istore d_MD_block_56 (by decide) ?_
              dsimp only [List.set_cons_zero, List.set_cons_succ]
              refine ev_aload_n (i := 0) d_MD_block_58 rfl rfl ?_
              refine ev_iload d_MD_block_59 rfl ?_
              refine ev_iload d_MD_block_61 rfl ?_
              refine ev_if_eq d_MD_block_63 (fun h => absurd h (by decide)) (fun _ => ?_)
              refine ev_aload_n (i := 0) d_MD_block_66 rfl rfl ?_
              refine es_getR d_MD_block_67 f_MD_13 rfl rfl ?_
              refine ev_iload_n (i := 1) d_MD_block_70 rfl rfl ?_
              refine es_iald d_MD_block_71 rfl (ez_vinN (by omega) (by omega)) ?_
              rw [hcj, hmd.1]
              refine ev_bipush (v := 24) d_MD_block_72 rfl ?_
              refine ev_icmp_ge d_MD_block_74 (fun h74 => ?_) (fun h74 => ?_)
              · rw [show (24 : Int32) = nI 24 from rfl, nI_leI (by omega) (by omega)] at h74
                refine ev_iconst (v := 0) d_MD_block_96 rfl ?_
                refine es_cVI ls_MD_block_97 d_MD_block_97 rfl c_MD_goes10 rfl rfl (Nat.le_of_ble_eq_true rfl) (fun x97 σ97 h97 => ?_) (fun _ _ h => h.elim)
                obtain ⟨rfl, rfl⟩ := h97
                refine ev_if_ne d_MD_block_100 (fun h => absurd h (by decide)) (fun _ => ?_)
                refine ev_iconst (v := 0) d_MD_block_103 rfl ?_
                refine es_iret d_MD_block_104 rfl ⟨Nat.zero_le _, Nat.zero_le _⟩ ⟨_, rfl, ?_⟩
                first
                  | exact ⟨Or.inr (Or.inl ⟨⟨h6, h16, fun g => by first | exact h34 | exact absurd g h20, fun g => by first | exact h48 | exact absurd g h39⟩, fun g => absurd (g.2 (Classical.not_not.mp h80)) (by omega), by simp [es_upx], rm_thrown hm _⟩), fun k hk => es_upf _ _ _ _ (by omega)⟩
                  | exact ⟨Or.inr (Or.inl ⟨⟨h6, h16, fun g => by first | exact h34 | exact absurd g h20, fun g => by first | exact h48 | exact absurd g h39⟩, fun g => absurd (g.2 h80) (by omega), by simp [es_upx], rm_thrown hm _⟩), fun k hk => es_upf _ _ _ _ (by omega)⟩
                  | exact ⟨Or.inr (Or.inl ⟨⟨h6, h16, fun g => by first | exact h34 | exact absurd g h20, fun g => by first | exact h48 | exact absurd g h39⟩, fun g => absurd g.1 (by omega), by simp [es_upx], rm_thrown hm _⟩), fun k hk => es_upf _ _ _ _ (by omega)⟩
                  | exact ⟨Or.inl ⟨fun g => absurd (g.2.2.2 h39) (by rw [h48]; decide), by simp [es_upx], rm_thrown hm _⟩, fun k hk => es_upf _ _ _ _ (by omega)⟩
                  | exact ⟨Or.inl ⟨fun g => absurd (g.2.2.1 h20) (by rw [h34]; decide), by simp [es_upx], rm_thrown hm _⟩, fun k hk => es_upf _ _ _ _ (by omega)⟩
                  | exact ⟨Or.inl ⟨fun g => absurd g.2.1 (by rw [h16]; decide), by simp [es_upx], rm_thrown hm _⟩, fun k hk => es_upf _ _ _ _ (by omega)⟩
                  | exact ⟨Or.inl ⟨fun g => absurd g.1 (by rw [h6]; decide), by simp [es_upx], rm_thrown hm _⟩, fun k hk => es_upf _ _ _ _ (by omega)⟩
              · rw [show (24 : Int32) = nI 24 from rfl, nI_leI (by omega) (by omega), Nat.not_le] at h74
                refine ev_iload_n (i := 2) d_MD_block_77 rfl rfl ?_
                refine ev_bipush (v := 6) d_MD_block_78 rfl ?_
                refine ev_icmp_ne d_MD_block_80 (fun h80 => ?_) (fun h80 => ?_)
                · refine ev_iconst (v := 1) d_MD_block_92 rfl ?_
                  refine ev_goto d_MD_block_93 ?_
                  refine es_cVI ls_MD_block_97 d_MD_block_97 rfl c_MD_goes11 rfl rfl (Nat.le_of_ble_eq_true rfl) (fun x97 σ97 h97 => ?_) (fun _ _ h => h.elim)
                  obtain ⟨rfl, rfl⟩ := h97
                  refine ev_if_ne d_MD_block_100 (fun _ => ?_) (fun h => absurd h (by decide))
                  have hgd : g_block S (nI j) x m := ⟨h6, h16, fun g => by first | exact h34 | exact absurd g h20, fun g => by first | exact h48 | exact absurd g h39⟩
                  have hst : s_block S (nI j) x := ⟨h74, fun g => by first | exact h89 | exact absurd g h80⟩
                  obtain ⟨q, hq, rfl, hq2⟩ := ew_ex (n := 7) h16 (by omega)
                  have hx : em_n (sE S (nI j)) < 24 := h74
                  refine ev_bipush (v := 24) d_MD_block_105 rfl ?_
                  refine ev_iload_n (i := 1) d_MD_block_107 rfl rfl ?_
                  refine ev_imul d_MD_block_108 ?_
                  refine ev_aload_n (i := 0) d_MD_block_109 rfl rfl ?_
                  refine es_getR d_MD_block_110 f_MD_13 rfl rfl ?_
                  refine ev_iload_n (i := 1) d_MD_block_113 rfl rfl ?_
                  refine es_iald d_MD_block_114 rfl (ez_vinN (by omega) (by omega)) ?_
                  rw [hcj, es_upf _ _ _ _ (show (48 : Nat) ≠ 46 by decide), hmd.1]
                  refine ev_iadd d_MD_block_115 ?_
                  rw [ix24]
                  refine ev_istore d_MD_block_116 (by decide) ?_
                  dsimp only [List.set_cons_zero, List.set_cons_succ]
                  refine ev_aload_n (i := 0) d_MD_block_118 rfl rfl ?_
                  refine es_getR d_MD_block_119 f_MD_17 rfl rfl ?_
                  refine ev_iload d_MD_block_122 rfl ?_
                  refine ev_iload_n (i := 2) d_MD_block_124 rfl rfl ?_
                  refine es_iast d_MD_block_125 rfl (ez_vinN (by omega) (by omega)) ?_
                  rw [nI_clamp (show 24 * j + em_n (sE S (nI j)) < 2 ^ 31 by omega)]
                  refine ev_aload_n (i := 0) d_MD_block_126 rfl rfl ?_
                  refine es_getR d_MD_block_127 f_MD_20 rfl rfl ?_
                  refine ev_iload d_MD_block_130 rfl ?_
                  refine ev_iload_n (i := 3) d_MD_block_132 rfl rfl ?_
                  refine es_iast d_MD_block_133 rfl (ez_vinN (by omega) (by omega)) ?_
                  rw [nI_clamp (show 24 * j + em_n (sE S (nI j)) < 2 ^ 31 by omega)]
                  refine ev_aload_n (i := 0) d_MD_block_134 rfl rfl ?_
                  refine es_getR d_MD_block_135 f_MD_23 rfl rfl ?_
                  refine ev_iload d_MD_block_138 rfl ?_
                  refine ev_iconst (v := (-1)) d_MD_block_140 rfl ?_
                  refine es_iast d_MD_block_141 rfl (ez_vinN (by omega) (by omega)) ?_
                  rw [nI_clamp (show 24 * j + em_n (sE S (nI j)) < 2 ^ 31 by omega)]
                  refine ev_aload_n (i := 0) d_MD_block_142 rfl rfl ?_
                  refine es_getR d_MD_block_143 f_MD_26 rfl rfl ?_
                  refine ev_iload d_MD_block_146 rfl ?_
                  refine ev_iconst (v := (-1)) d_MD_block_148 rfl ?_
                  refine es_iast d_MD_block_149 rfl (ez_vinN (by omega) (by omega)) ?_
                  rw [nI_clamp (show 24 * j + em_n (sE S (nI j)) < 2 ^ 31 by omega)]
                  refine ev_aload_n (i := 0) d_MD_block_150 rfl rfl ?_
                  refine es_getR d_MD_block_151 f_MD_13 rfl rfl ?_
                  refine ev_iload_n (i := 1) d_MD_block_154 rfl rfl ?_
                  refine ev_dup2 d_MD_block_155 rfl rfl ?_
                  refine es_iald d_MD_block_156 rfl (ez_vinN (by omega) (by omega)) ?_
                  rw [hcj, es_upf _ _ _ _ (show (48 : Nat) ≠ 52 by decide), es_upf _ _ _ _ (show (48 : Nat) ≠ 51 by decide), es_upf _ _ _ _ (show (48 : Nat) ≠ 50 by decide), es_upf _ _ _ _ (show (48 : Nat) ≠ 49 by decide), es_upf _ _ _ _ (show (48 : Nat) ≠ 46 by decide), hmd.1]
                  refine ev_iconst (v := 1) d_MD_block_157 rfl ?_
                  refine ev_iadd d_MD_block_158 ?_
                  rw [nI_1]
                  refine es_iast d_MD_block_159 rfl (ez_vinN (by omega) (by omega)) ?_
                  rw [hcj]
                  refine ev_aload_n (i := 0) d_MD_block_160 rfl rfl ?_
                  refine es_getR d_MD_block_161 f_MD_13 rfl rfl ?_
                  refine ev_iload_n (i := 1) d_MD_block_164 rfl rfl ?_
                  refine es_iald d_MD_block_165 rfl (ez_vinN (by omega) (by omega)) ?_
                  rw [hcj, es_up_eq]
                  refine ev_iconst (v := 1) d_MD_block_166 rfl ?_
                  refine ev_isub d_MD_block_167 ?_
                  rw [nI_pred]
                  refine es_iret d_MD_block_168 rfl ⟨Nat.zero_le _, Nat.zero_le _⟩ ⟨_, rfl, ?_⟩
                  refine ⟨Or.inr (Or.inr ⟨hgd, hst, by simp [es_upx], rfl, rm_set hj hm (n_block_wf hm.1 hgd hst) (by simp [es_upx]) (by rw [es_upf _ _ _ _ (show (47 : Nat) ≠ 48 by decide), es_upf _ _ _ _ (show (47 : Nat) ≠ 52 by decide), es_upf _ _ _ _ (show (47 : Nat) ≠ 51 by decide), es_upf _ _ _ _ (show (47 : Nat) ≠ 50 by decide), es_upf _ _ _ _ (show (47 : Nat) ≠ 49 by decide), es_upf _ _ _ _ (show (47 : Nat) ≠ 46 by decide)]) (md_add (e := j) (k := tn (nI q)) (m := m) hw hmd (by simp [es_upx]) (fun b => ?_) (fun b => ?_) (fun b => ?_) (fun b => ?_) (by rw [es_upf _ _ _ _ (show (53 : Nat) ≠ 48 by decide), es_upf _ _ _ _ (show (53 : Nat) ≠ 52 by decide), es_upf _ _ _ _ (show (53 : Nat) ≠ 51 by decide), es_upf _ _ _ _ (show (53 : Nat) ≠ 50 by decide), es_upf _ _ _ _ (show (53 : Nat) ≠ 49 by decide), es_upf _ _ _ _ (show (53 : Nat) ≠ 46 by decide)])) (fun Y hY h => md_oth h hY ?_ (fun b hb => ?_) (fun i hi => ?_))⟩), fun k hk => by rw [es_upf _ _ _ _ (by omega), es_upf _ _ _ _ (by omega), es_upf _ _ _ _ (by omega), es_upf _ _ _ _ (by omega), es_upf _ _ _ _ (by omega), es_upf _ _ _ _ (by omega)]⟩
                  · rw [hq2]; simp [es_upx]
                  · simp [es_upx]
                  · simp [es_upx]
                  · simp [es_upx]
                  · simp [es_upx]; omega
                  · have e1 : ¬ 24 * (1 - j) + b = 24 * j + em_n (sE S (nI j)) := by omega
                    simp [es_upx, e1]
                  · simp [es_upx]
                · refine ev_aload_n (i := 0) d_MD_block_83 rfl rfl ?_
                  refine ev_iload_n (i := 1) d_MD_block_84 rfl rfl ?_
                  refine es_cVI ls_MD_block_85 d_MD_block_85 rfl (c_MD_delays hw hj hmd) rfl rfl (Nat.le_of_ble_eq_true rfl) (fun x85 σ85 h85 => ?_) (fun _ _ h => h.elim)
                  obtain ⟨rfl, e85⟩ := h85
                  rw [e85]
                  have hd5 := hw.2.2.2.2.2.2
                  refine ev_iconst (v := 5) d_MD_block_88 rfl ?_
                  refine ev_icmp_ge d_MD_block_89 (fun h89 => ?_) (fun h89 => ?_)
                  · rw [show (5 : Int32) = nI 5 from rfl, nI_leI (by omega) (by omega)] at h89
                    refine ev_iconst (v := 0) d_MD_block_96 rfl ?_
                    refine es_cVI ls_MD_block_97 d_MD_block_97 rfl c_MD_goes10 rfl rfl (Nat.le_of_ble_eq_true rfl) (fun x97 σ97 h97 => ?_) (fun _ _ h => h.elim)
                    obtain ⟨rfl, rfl⟩ := h97
                    refine ev_if_ne d_MD_block_100 (fun h => absurd h (by decide)) (fun _ => ?_)
                    refine ev_iconst (v := 0) d_MD_block_103 rfl ?_
                    refine es_iret d_MD_block_104 rfl ⟨Nat.zero_le _, Nat.zero_le _⟩ ⟨_, rfl, ?_⟩
                    first
                      | exact ⟨Or.inr (Or.inl ⟨⟨h6, h16, fun g => by first | exact h34 | exact absurd g h20, fun g => by first | exact h48 | exact absurd g h39⟩, fun g => absurd (g.2 (Classical.not_not.mp h80)) (by omega), by simp [es_upx], rm_thrown hm _⟩), fun k hk => es_upf _ _ _ _ (by omega)⟩
                      | exact ⟨Or.inr (Or.inl ⟨⟨h6, h16, fun g => by first | exact h34 | exact absurd g h20, fun g => by first | exact h48 | exact absurd g h39⟩, fun g => absurd (g.2 h80) (by omega), by simp [es_upx], rm_thrown hm _⟩), fun k hk => es_upf _ _ _ _ (by omega)⟩
                      | exact ⟨Or.inr (Or.inl ⟨⟨h6, h16, fun g => by first | exact h34 | exact absurd g h20, fun g => by first | exact h48 | exact absurd g h39⟩, fun g => absurd g.1 (by omega), by simp [es_upx], rm_thrown hm _⟩), fun k hk => es_upf _ _ _ _ (by omega)⟩
                      | exact ⟨Or.inl ⟨fun g => absurd (g.2.2.2 h39) (by rw [h48]; decide), by simp [es_upx], rm_thrown hm _⟩, fun k hk => es_upf _ _ _ _ (by omega)⟩
                      | exact ⟨Or.inl ⟨fun g => absurd (g.2.2.1 h20) (by rw [h34]; decide), by simp [es_upx], rm_thrown hm _⟩, fun k hk => es_upf _ _ _ _ (by omega)⟩
                      | exact ⟨Or.inl ⟨fun g => absurd g.2.1 (by rw [h16]; decide), by simp [es_upx], rm_thrown hm _⟩, fun k hk => es_upf _ _ _ _ (by omega)⟩
                      | exact ⟨Or.inl ⟨fun g => absurd g.1 (by rw [h6]; decide), by simp [es_upx], rm_thrown hm _⟩, fun k hk => es_upf _ _ _ _ (by omega)⟩
                  · rw [show (5 : Int32) = nI 5 from rfl, nI_leI (by omega) (by omega), Nat.not_le] at h89
                    refine ev_iconst (v := 1) d_MD_block_92 rfl ?_
                    refine ev_goto d_MD_block_93 ?_
                    refine es_cVI ls_MD_block_97 d_MD_block_97 rfl c_MD_goes11 rfl rfl (Nat.le_of_ble_eq_true rfl) (fun x97 σ97 h97 => ?_) (fun _ _ h => h.elim)
                    obtain ⟨rfl, rfl⟩ := h97
                    refine ev_if_ne d_MD_block_100 (fun _ => ?_) (fun h => absurd h (by decide))
                    have hgd : g_block S (nI j) x m := ⟨h6, h16, fun g => by first | exact h34 | exact absurd g h20, fun g => by first | exact h48 | exact absurd g h39⟩
                    have hst : s_block S (nI j) x := ⟨h74, fun g => by first | exact h89 | exact absurd g h80⟩
                    obtain ⟨q, hq, rfl, hq2⟩ := ew_ex (n := 7) h16 (by omega)
                    have hx : em_n (sE S (nI j)) < 24 := h74
                    refine ev_bipush (v := 24) d_MD_block_105 rfl ?_
                    refine ev_iload_n (i := 1) d_MD_block_107 rfl rfl ?_
                    refine ev_imul d_MD_block_108 ?_
                    refine ev_aload_n (i := 0) d_MD_block_109 rfl rfl ?_
                    refine es_getR d_MD_block_110 f_MD_13 rfl rfl ?_
                    refine ev_iload_n (i := 1) d_MD_block_113 rfl rfl ?_
                    refine es_iald d_MD_block_114 rfl (ez_vinN (by omega) (by omega)) ?_
                    rw [hcj, es_upf _ _ _ _ (show (48 : Nat) ≠ 46 by decide), hmd.1]
                    refine ev_iadd d_MD_block_115 ?_
                    rw [ix24]
                    refine ev_istore d_MD_block_116 (by decide) ?_
                    dsimp only [List.set_cons_zero, List.set_cons_succ]
                    refine ev_aload_n (i := 0) d_MD_block_118 rfl rfl ?_
                    refine es_getR d_MD_block_119 f_MD_17 rfl rfl ?_
                    refine ev_iload d_MD_block_122 rfl ?_
                    refine ev_iload_n (i := 2) d_MD_block_124 rfl rfl ?_
                    refine es_iast d_MD_block_125 rfl (ez_vinN (by omega) (by omega)) ?_
                    rw [nI_clamp (show 24 * j + em_n (sE S (nI j)) < 2 ^ 31 by omega)]
                    refine ev_aload_n (i := 0) d_MD_block_126 rfl rfl ?_
                    refine es_getR d_MD_block_127 f_MD_20 rfl rfl ?_
                    refine ev_iload d_MD_block_130 rfl ?_
                    refine ev_iload_n (i := 3) d_MD_block_132 rfl rfl ?_
                    refine es_iast d_MD_block_133 rfl (ez_vinN (by omega) (by omega)) ?_
                    rw [nI_clamp (show 24 * j + em_n (sE S (nI j)) < 2 ^ 31 by omega)]
                    refine ev_aload_n (i := 0) d_MD_block_134 rfl rfl ?_
                    refine es_getR d_MD_block_135 f_MD_23 rfl rfl ?_
                    refine ev_iload d_MD_block_138 rfl ?_
                    refine ev_iconst (v := (-1)) d_MD_block_140 rfl ?_
                    refine es_iast d_MD_block_141 rfl (ez_vinN (by omega) (by omega)) ?_
                    rw [nI_clamp (show 24 * j + em_n (sE S (nI j)) < 2 ^ 31 by omega)]
                    refine ev_aload_n (i := 0) d_MD_block_142 rfl rfl ?_
                    refine es_getR d_MD_block_143 f_MD_26 rfl rfl ?_
                    refine ev_iload d_MD_block_146 rfl ?_
                    refine ev_iconst (v := (-1)) d_MD_block_148 rfl ?_
                    refine es_iast d_MD_block_149 rfl (ez_vinN (by omega) (by omega)) ?_
                    rw [nI_clamp (show 24 * j + em_n (sE S (nI j)) < 2 ^ 31 by omega)]
                    refine ev_aload_n (i := 0) d_MD_block_150 rfl rfl ?_
                    refine es_getR d_MD_block_151 f_MD_13 rfl rfl ?_
                    refine ev_iload_n (i := 1) d_MD_block_154 rfl rfl ?_
                    refine ev_dup2 d_MD_block_155 rfl rfl ?_
                    refine es_iald d_MD_block_156 rfl (ez_vinN (by omega) (by omega)) ?_
                    rw [hcj, es_upf _ _ _ _ (show (48 : Nat) ≠ 52 by decide), es_upf _ _ _ _ (show (48 : Nat) ≠ 51 by decide), es_upf _ _ _ _ (show (48 : Nat) ≠ 50 by decide), es_upf _ _ _ _ (show (48 : Nat) ≠ 49 by decide), es_upf _ _ _ _ (show (48 : Nat) ≠ 46 by decide), hmd.1]
                    refine ev_iconst (v := 1) d_MD_block_157 rfl ?_
                    refine ev_iadd d_MD_block_158 ?_
                    rw [nI_1]
                    refine es_iast d_MD_block_159 rfl (ez_vinN (by omega) (by omega)) ?_
                    rw [hcj]
                    refine ev_aload_n (i := 0) d_MD_block_160 rfl rfl ?_
                    refine es_getR d_MD_block_161 f_MD_13 rfl rfl ?_
                    refine ev_iload_n (i := 1) d_MD_block_164 rfl rfl ?_
                    refine es_iald d_MD_block_165 rfl (ez_vinN (by omega) (by omega)) ?_
                    rw [hcj, es_up_eq]
                    refine ev_iconst (v := 1) d_MD_block_166 rfl ?_
                    refine ev_isub d_MD_block_167 ?_
                    rw [nI_pred]
                    refine es_iret d_MD_block_168 rfl ⟨Nat.zero_le _, Nat.zero_le _⟩ ⟨_, rfl, ?_⟩
                    refine ⟨Or.inr (Or.inr ⟨hgd, hst, by simp [es_upx], rfl, rm_set hj hm (n_block_wf hm.1 hgd hst) (by simp [es_upx]) (by rw [es_upf _ _ _ _ (show (47 : Nat) ≠ 48 by decide), es_upf _ _ _ _ (show (47 : Nat) ≠ 52 by decide), es_upf _ _ _ _ (show (47 : Nat) ≠ 51 by decide), es_upf _ _ _ _ (show (47 : Nat) ≠ 50 by decide), es_upf _ _ _ _ (show (47 : Nat) ≠ 49 by decide), es_upf _ _ _ _ (show (47 : Nat) ≠ 46 by decide)]) (md_add (e := j) (k := tn (nI q)) (m := m) hw hmd (by simp [es_upx]) (fun b => ?_) (fun b => ?_) (fun b => ?_) (fun b => ?_) (by rw [es_upf _ _ _ _ (show (53 : Nat) ≠ 48 by decide), es_upf _ _ _ _ (show (53 : Nat) ≠ 52 by decide), es_upf _ _ _ _ (show (53 : Nat) ≠ 51 by decide), es_upf _ _ _ _ (show (53 : Nat) ≠ 50 by decide), es_upf _ _ _ _ (show (53 : Nat) ≠ 49 by decide), es_upf _ _ _ _ (show (53 : Nat) ≠ 46 by decide)])) (fun Y hY h => md_oth h hY ?_ (fun b hb => ?_) (fun i hi => ?_))⟩), fun k hk => by rw [es_upf _ _ _ _ (by omega), es_upf _ _ _ _ (by omega), es_upf _ _ _ _ (by omega), es_upf _ _ _ _ (by omega), es_upf _ _ _ _ (by omega), es_upf _ _ _ _ (by omega)]⟩
                    · rw [hq2]; simp [es_upx]
                    · simp [es_upx]
                    · simp [es_upx]
                    · simp [es_upx]
                    · simp [es_upx]; omega
                    · have e1 : ¬ 24 * (1 - j) + b = 24 * j + em_n (sE S (nI j)) := by omega
                      simp [es_upx, e1]
                    · simp [es_upx]
theorem c_MD_wire {S : sp_S} (hm : rm S σ) {e x i t : Int32} : ez_Ct l G X_MD_wire [.ref 46, .int e, .int x, .int i, .int t] (es_H σ) (es_Q (es_I fun y σ' => mR S (g_wire S e x i t) (True) (en (em_w (sE S e) (tn x) (tn i))) (n_wire S e x i t) y σ' ∧ ∀ k, (k < 46 ∨ 63 < k) → σ' k = σ k) es_no) := by
  refine es_Ct_of (ls := [some (.ref 46), some (.int e), some (.int x), some (.int i), some (.int t), none, none]) ok_MD_wire rfl (Nat.le_of_ble_eq_true rfl) rfl ?_
  refine ev_aload_n (i := 0) d_MD_wire_0 rfl rfl ?_
  refine ev_aload_n (i := 0) d_MD_wire_1 rfl rfl ?_
  refine ev_iload_n (i := 1) d_MD_wire_2 rfl rfl ?_
  refine ev_iload_n (i := 2) d_MD_wire_3 rfl rfl ?_
  refine es_cVI ls_MD_wire_4 d_MD_wire_4 rfl (c_MD_isBlock hm) rfl rfl (Nat.le_of_ble_eq_true rfl) (fun x4 σ4 h4 => ?_) (fun _ _ h => h.elim)
  obtain ⟨rfl, e4⟩ := h4
  rw [e4]
  refine ev_if_eq d_MD_wire_7 (fun h7 => ?_) (fun h7 => ?_)
  · rw [eb_0] at h7
    refine ev_iconst (v := 0) d_MD_wire_39 rfl ?_
    refine ev_iconst (v := 1) d_MD_wire_40 rfl ?_
    refine es_cVI ls_MD_wire_41 d_MD_wire_41 rfl (c_MD_goes0 (s := true)) rfl rfl (Nat.le_of_ble_eq_true rfl) (fun x41 σ41 h41 => ?_) (fun _ _ h => h.elim)
    obtain ⟨rfl, rfl⟩ := h41
    refine ev_if_ne d_MD_wire_44 (fun h => absurd h (by decide)) (fun _ => ?_)
    refine ev_iconst (v := 0) d_MD_wire_47 rfl ?_
    refine es_iret d_MD_wire_48 rfl ⟨Nat.zero_le _, Nat.zero_le _⟩ ⟨_, rfl, ?_⟩
    first
      | exact ⟨Or.inl ⟨fun g => g.2.2.2.elim (fun q => absurd q h22) (fun q => bd_f.mp h32 ⟨g.1, q⟩), by simp [es_upx], rm_thrown hm _⟩, fun k hk => es_upf _ _ _ _ (by omega)⟩
      | exact ⟨Or.inl ⟨fun g => absurd g.2.2.1 (by rw [h16]; decide), by simp [es_upx], rm_thrown hm _⟩, fun k hk => es_upf _ _ _ _ (by omega)⟩
      | exact ⟨Or.inl ⟨fun g => bd_f.mp h7 ⟨g.1, g.2.1⟩, by simp [es_upx], rm_thrown hm _⟩, fun k hk => es_upf _ _ _ _ (by omega)⟩
  · rw [eb_0, Bool.not_eq_false] at h7
    refine ev_iload_n (i := 3) d_MD_wire_10 rfl rfl ?_
    refine ev_iconst (v := 0) d_MD_wire_11 rfl ?_
    refine ev_iconst (v := 1) d_MD_wire_12 rfl ?_
    refine es_cSI ls_MD_wire_13 d_MD_wire_13 c_MD_in rfl rfl (Nat.le_of_ble_eq_true rfl) (fun x13 σ13 h13 => ?_) (fun _ _ h => h.elim)
    obtain ⟨rfl, e13⟩ := h13
    rw [e13, ei1]
    refine ev_if_eq d_MD_wire_16 (fun h16 => ?_) (fun h16 => ?_)
    · rw [eb_0] at h16
      refine ev_iconst (v := 0) d_MD_wire_39 rfl ?_
      refine ev_iconst (v := 1) d_MD_wire_40 rfl ?_
      refine es_cVI ls_MD_wire_41 d_MD_wire_41 rfl (c_MD_goes0 (s := true)) rfl rfl (Nat.le_of_ble_eq_true rfl) (fun x41 σ41 h41 => ?_) (fun _ _ h => h.elim)
      obtain ⟨rfl, rfl⟩ := h41
      refine ev_if_ne d_MD_wire_44 (fun h => absurd h (by decide)) (fun _ => ?_)
      refine ev_iconst (v := 0) d_MD_wire_47 rfl ?_
      refine es_iret d_MD_wire_48 rfl ⟨Nat.zero_le _, Nat.zero_le _⟩ ⟨_, rfl, ?_⟩
      first
        | exact ⟨Or.inl ⟨fun g => g.2.2.2.elim (fun q => absurd q h22) (fun q => bd_f.mp h32 ⟨g.1, q⟩), by simp [es_upx], rm_thrown hm _⟩, fun k hk => es_upf _ _ _ _ (by omega)⟩
        | exact ⟨Or.inl ⟨fun g => absurd g.2.2.1 (by rw [h16]; decide), by simp [es_upx], rm_thrown hm _⟩, fun k hk => es_upf _ _ _ _ (by omega)⟩
        | exact ⟨Or.inl ⟨fun g => bd_f.mp h7 ⟨g.1, g.2.1⟩, by simp [es_upx], rm_thrown hm _⟩, fun k hk => es_upf _ _ _ _ (by omega)⟩
    · rw [eb_0, Bool.not_eq_false] at h16
      refine ev_iload d_MD_wire_19 rfl ?_
      refine ev_iconst (v := (-1)) d_MD_wire_21 rfl ?_
      refine ev_icmp_eq d_MD_wire_22 (fun h22 => ?_) (fun h22 => ?_)
      · refine ev_iconst (v := 1) d_MD_wire_35 rfl ?_
        refine ev_goto d_MD_wire_36 ?_
        refine ev_iconst (v := 1) d_MD_wire_40 rfl ?_
        refine es_cVI ls_MD_wire_41 d_MD_wire_41 rfl c_MD_goes11 rfl rfl (Nat.le_of_ble_eq_true rfl) (fun x41 σ41 h41 => ?_) (fun _ _ h => h.elim)
        obtain ⟨rfl, rfl⟩ := h41
        refine ev_if_ne d_MD_wire_44 (fun _ => ?_) (fun h => absurd h (by decide))
        have hgd : g_wire S e x i t := ⟨(bd_t.mp h7).1, (bd_t.mp h7).2, h16, by first | exact Or.inl h22 | exact Or.inr (bd_t.mp h32).2⟩
        obtain ⟨j, hj, rfl, hj2⟩ := ew_ex (n := 2) hgd.1 (by omega)
        have hmd := rm_md hm hj
        have hw := sE_wf hm.1 (nI j)
        have hn := hw.1
        obtain ⟨jx, hjx, rfl, hjx2⟩ := ew_ex hgd.2.1 (by omega)
        obtain ⟨ji, hji, rfl, hji2⟩ := ew_ex (n := 2) h16 (by omega)
        have hon := on_n hn hgd.2.2.2
        have hmd1 : md (sE S (nI j)) j (es_up σ 46 0 0) := md_off hmd (fun k g1 g2 => es_upf _ _ _ _ (by omega))
        have hcx : (nI (24 * j + jx)).toNatClampNeg = 24 * j + jx := nI_clamp (by omega)
        refine ev_bipush (v := 24) d_MD_wire_49 rfl ?_
        refine ev_iload_n (i := 1) d_MD_wire_51 rfl rfl ?_
        refine ev_imul d_MD_wire_52 ?_
        refine ev_iload_n (i := 2) d_MD_wire_53 rfl rfl ?_
        refine ev_iadd d_MD_wire_54 ?_
        rw [ix24]
        refine ev_istore d_MD_wire_55 (by decide) ?_
        dsimp only [List.set_cons_zero, List.set_cons_succ]
        refine ev_aload_n (i := 0) d_MD_wire_57 rfl rfl ?_
        refine ev_iload_n (i := 1) d_MD_wire_58 rfl rfl ?_
        refine ev_iload_n (i := 2) d_MD_wire_59 rfl rfl ?_
        refine ev_iload_n (i := 3) d_MD_wire_60 rfl rfl ?_
        refine es_cVI ls_MD_wire_61 d_MD_wire_61 rfl (c_MD_input hw hj hmd1 hjx hji) rfl rfl (Nat.le_of_ble_eq_true rfl) (fun x61 σ61 h61 => ?_) (fun _ _ h => h.elim)
        obtain ⟨rfl, e61⟩ := h61
        rw [e61]
        refine ev_istore d_MD_wire_64 (by decide) ?_
        dsimp only [List.set_cons_zero, List.set_cons_succ]
        refine ev_aload_n (i := 0) d_MD_wire_66 rfl rfl ?_
        refine es_getR d_MD_wire_67 f_MD_23 rfl rfl ?_
        refine ev_iload d_MD_wire_70 rfl ?_
        refine ev_iload_n (i := 3) d_MD_wire_72 rfl rfl ?_
        refine ev_if_ne d_MD_wire_73 (fun h73 => ?_) (fun h73 => ?_)
        · rw [show (0 : Int32) = nI 0 from rfl, nI_eq (by omega) (by omega)] at h73
          refine ev_aload_n (i := 0) d_MD_wire_81 rfl rfl ?_
          refine es_getR d_MD_wire_82 f_MD_23 rfl rfl ?_
          refine ev_iload d_MD_wire_85 rfl ?_
          refine es_iald d_MD_wire_87 rfl (ez_vinN (by omega) (by omega)) ?_
          rw [hcx]
          refine es_iast d_MD_wire_88 rfl (ez_vinN (by omega) (by omega)) ?_
          rw [hcx]
          refine ev_aload_n (i := 0) d_MD_wire_89 rfl rfl ?_
          refine es_getR d_MD_wire_90 f_MD_26 rfl rfl ?_
          refine ev_iload d_MD_wire_93 rfl ?_
          refine ev_iload_n (i := 3) d_MD_wire_95 rfl rfl ?_
          refine ev_iconst (v := 1) d_MD_wire_96 rfl ?_
          refine ev_icmp_ne d_MD_wire_97 (fun h97 => ?_) (fun h97 => ?_)
          · rw [show (1 : Int32) = nI 1 from rfl, nI_eq (by omega) (by omega)] at h97
            refine ev_aload_n (i := 0) d_MD_wire_105 rfl rfl ?_
            refine es_getR d_MD_wire_106 f_MD_26 rfl rfl ?_
            refine ev_iload d_MD_wire_109 rfl ?_
            refine es_iald d_MD_wire_111 rfl (ez_vinN (by omega) (by omega)) ?_
            rw [hcx]
            refine es_iast d_MD_wire_112 rfl (ez_vinN (by omega) (by omega)) ?_
            rw [hcx]
            refine ev_iload d_MD_wire_113 rfl ?_
            refine es_iret d_MD_wire_115 rfl ⟨Nat.zero_le _, Nat.zero_le _⟩ ⟨_, rfl, ?_⟩
            refine ⟨Or.inr (Or.inr ⟨hgd, trivial, by simp [es_upx], by rw [hjx2, hji2], rm_set hj hm (n_wire_wf hm.1 hgd) (by simp [es_upx]) (by rw [es_upf _ _ _ _ (show (47 : Nat) ≠ 52 by decide), es_upf _ _ _ _ (show (47 : Nat) ≠ 51 by decide), es_upf _ _ _ _ (show (47 : Nat) ≠ 46 by decide)]) (md_rw hmd (by rw [es_upf _ _ _ _ (show (48 : Nat) ≠ 52 by decide), es_upf _ _ _ _ (show (48 : Nat) ≠ 51 by decide), es_upf _ _ _ _ (show (48 : Nat) ≠ 46 by decide)]) (by rw [es_upf _ _ _ _ (show (49 : Nat) ≠ 52 by decide), es_upf _ _ _ _ (show (49 : Nat) ≠ 51 by decide), es_upf _ _ _ _ (show (49 : Nat) ≠ 46 by decide)]) (by rw [es_upf _ _ _ _ (show (50 : Nat) ≠ 52 by decide), es_upf _ _ _ _ (show (50 : Nat) ≠ 51 by decide), es_upf _ _ _ _ (show (50 : Nat) ≠ 46 by decide)]) (by rw [es_upf _ _ _ _ (show (53 : Nat) ≠ 52 by decide), es_upf _ _ _ _ (show (53 : Nat) ≠ 51 by decide), es_upf _ _ _ _ (show (53 : Nat) ≠ 46 by decide)]) (fun b => ?_) (fun b => ?_)) (fun Y hY h => md_oth h hY (by rw [es_upf _ _ _ _ (show (48 : Nat) ≠ 52 by decide), es_upf _ _ _ _ (show (48 : Nat) ≠ 51 by decide), es_upf _ _ _ _ (show (48 : Nat) ≠ 46 by decide)]) (fun b hb => ?_) (fun i hi => by rw [es_upf _ _ _ _ (show (53 : Nat) ≠ 52 by decide), es_upf _ _ _ _ (show (53 : Nat) ≠ 51 by decide), es_upf _ _ _ _ (show (53 : Nat) ≠ 46 by decide)]))⟩), fun k hk => by rw [es_upf _ _ _ _ (by omega), es_upf _ _ _ _ (by omega), es_upf _ _ _ _ (by omega)]⟩
            · rw [hjx2, hji2, hon.1]
              by_cases hb : b = jx
              · first | simp [es_upx, hb, h73] | simp [es_upx, hb, h73, h97]
              · simp [es_upx, hb]
            · rw [hjx2, hji2, hon.1]
              by_cases hb : b = jx
              · simp [es_upx, hb, h97]
              · simp [es_upx, hb]
            · have e1 : ¬ 24 * (1 - j) + b = 24 * j + jx := by omega
              simp [es_upx, e1]
          · rw [show (1 : Int32) = nI 1 from rfl, nI_eq (by omega) (by omega)] at h97
            refine ev_iload d_MD_wire_100 rfl ?_
            refine ev_goto d_MD_wire_102 ?_
            refine es_iast d_MD_wire_112 rfl (ez_vinN (by omega) (by omega)) ?_
            rw [hcx]
            refine ev_iload d_MD_wire_113 rfl ?_
            refine es_iret d_MD_wire_115 rfl ⟨Nat.zero_le _, Nat.zero_le _⟩ ⟨_, rfl, ?_⟩
            refine ⟨Or.inr (Or.inr ⟨hgd, trivial, by simp [es_upx], by rw [hjx2, hji2], rm_set hj hm (n_wire_wf hm.1 hgd) (by simp [es_upx]) (by rw [es_upf _ _ _ _ (show (47 : Nat) ≠ 52 by decide), es_upf _ _ _ _ (show (47 : Nat) ≠ 51 by decide), es_upf _ _ _ _ (show (47 : Nat) ≠ 46 by decide)]) (md_rw hmd (by rw [es_upf _ _ _ _ (show (48 : Nat) ≠ 52 by decide), es_upf _ _ _ _ (show (48 : Nat) ≠ 51 by decide), es_upf _ _ _ _ (show (48 : Nat) ≠ 46 by decide)]) (by rw [es_upf _ _ _ _ (show (49 : Nat) ≠ 52 by decide), es_upf _ _ _ _ (show (49 : Nat) ≠ 51 by decide), es_upf _ _ _ _ (show (49 : Nat) ≠ 46 by decide)]) (by rw [es_upf _ _ _ _ (show (50 : Nat) ≠ 52 by decide), es_upf _ _ _ _ (show (50 : Nat) ≠ 51 by decide), es_upf _ _ _ _ (show (50 : Nat) ≠ 46 by decide)]) (by rw [es_upf _ _ _ _ (show (53 : Nat) ≠ 52 by decide), es_upf _ _ _ _ (show (53 : Nat) ≠ 51 by decide), es_upf _ _ _ _ (show (53 : Nat) ≠ 46 by decide)]) (fun b => ?_) (fun b => ?_)) (fun Y hY h => md_oth h hY (by rw [es_upf _ _ _ _ (show (48 : Nat) ≠ 52 by decide), es_upf _ _ _ _ (show (48 : Nat) ≠ 51 by decide), es_upf _ _ _ _ (show (48 : Nat) ≠ 46 by decide)]) (fun b hb => ?_) (fun i hi => by rw [es_upf _ _ _ _ (show (53 : Nat) ≠ 52 by decide), es_upf _ _ _ _ (show (53 : Nat) ≠ 51 by decide), es_upf _ _ _ _ (show (53 : Nat) ≠ 46 by decide)]))⟩), fun k hk => by rw [es_upf _ _ _ _ (by omega), es_upf _ _ _ _ (by omega), es_upf _ _ _ _ (by omega)]⟩
            · rw [hjx2, hji2, hon.1]
              by_cases hb : b = jx
              · first | simp [es_upx, hb, h73] | simp [es_upx, hb, h73, h97]
              · simp [es_upx, hb]
            · rw [hjx2, hji2, hon.1]
              by_cases hb : b = jx
              · simp [es_upx, hb, h97]
              · simp [es_upx, hb]
            · have e1 : ¬ 24 * (1 - j) + b = 24 * j + jx := by omega
              simp [es_upx, e1]
        · rw [show (0 : Int32) = nI 0 from rfl, nI_eq (by omega) (by omega)] at h73
          refine ev_iload d_MD_wire_76 rfl ?_
          refine ev_goto d_MD_wire_78 ?_
          refine es_iast d_MD_wire_88 rfl (ez_vinN (by omega) (by omega)) ?_
          rw [hcx]
          refine ev_aload_n (i := 0) d_MD_wire_89 rfl rfl ?_
          refine es_getR d_MD_wire_90 f_MD_26 rfl rfl ?_
          refine ev_iload d_MD_wire_93 rfl ?_
          refine ev_iload_n (i := 3) d_MD_wire_95 rfl rfl ?_
          refine ev_iconst (v := 1) d_MD_wire_96 rfl ?_
          refine ev_icmp_ne d_MD_wire_97 (fun h97 => ?_) (fun h97 => ?_)
          · rw [show (1 : Int32) = nI 1 from rfl, nI_eq (by omega) (by omega)] at h97
            refine ev_aload_n (i := 0) d_MD_wire_105 rfl rfl ?_
            refine es_getR d_MD_wire_106 f_MD_26 rfl rfl ?_
            refine ev_iload d_MD_wire_109 rfl ?_
            refine es_iald d_MD_wire_111 rfl (ez_vinN (by omega) (by omega)) ?_
            rw [hcx]
            refine es_iast d_MD_wire_112 rfl (ez_vinN (by omega) (by omega)) ?_
            rw [hcx]
            refine ev_iload d_MD_wire_113 rfl ?_
            refine es_iret d_MD_wire_115 rfl ⟨Nat.zero_le _, Nat.zero_le _⟩ ⟨_, rfl, ?_⟩
            refine ⟨Or.inr (Or.inr ⟨hgd, trivial, by simp [es_upx], by rw [hjx2, hji2], rm_set hj hm (n_wire_wf hm.1 hgd) (by simp [es_upx]) (by rw [es_upf _ _ _ _ (show (47 : Nat) ≠ 52 by decide), es_upf _ _ _ _ (show (47 : Nat) ≠ 51 by decide), es_upf _ _ _ _ (show (47 : Nat) ≠ 46 by decide)]) (md_rw hmd (by rw [es_upf _ _ _ _ (show (48 : Nat) ≠ 52 by decide), es_upf _ _ _ _ (show (48 : Nat) ≠ 51 by decide), es_upf _ _ _ _ (show (48 : Nat) ≠ 46 by decide)]) (by rw [es_upf _ _ _ _ (show (49 : Nat) ≠ 52 by decide), es_upf _ _ _ _ (show (49 : Nat) ≠ 51 by decide), es_upf _ _ _ _ (show (49 : Nat) ≠ 46 by decide)]) (by rw [es_upf _ _ _ _ (show (50 : Nat) ≠ 52 by decide), es_upf _ _ _ _ (show (50 : Nat) ≠ 51 by decide), es_upf _ _ _ _ (show (50 : Nat) ≠ 46 by decide)]) (by rw [es_upf _ _ _ _ (show (53 : Nat) ≠ 52 by decide), es_upf _ _ _ _ (show (53 : Nat) ≠ 51 by decide), es_upf _ _ _ _ (show (53 : Nat) ≠ 46 by decide)]) (fun b => ?_) (fun b => ?_)) (fun Y hY h => md_oth h hY (by rw [es_upf _ _ _ _ (show (48 : Nat) ≠ 52 by decide), es_upf _ _ _ _ (show (48 : Nat) ≠ 51 by decide), es_upf _ _ _ _ (show (48 : Nat) ≠ 46 by decide)]) (fun b hb => ?_) (fun i hi => by rw [es_upf _ _ _ _ (show (53 : Nat) ≠ 52 by decide), es_upf _ _ _ _ (show (53 : Nat) ≠ 51 by decide), es_upf _ _ _ _ (show (53 : Nat) ≠ 46 by decide)]))⟩), fun k hk => by rw [es_upf _ _ _ _ (by omega), es_upf _ _ _ _ (by omega), es_upf _ _ _ _ (by omega)]⟩
            · rw [hjx2, hji2, hon.1]
              by_cases hb : b = jx
              · first | simp [es_upx, hb, h73] | simp [es_upx, hb, h73, h97]
              · simp [es_upx, hb]
            · rw [hjx2, hji2, hon.1]
              by_cases hb : b = jx
              · simp [es_upx, hb, h97]
              · simp [es_upx, hb]
            · have e1 : ¬ 24 * (1 - j) + b = 24 * j + jx := by omega
              simp [es_upx, e1]
          · rw [show (1 : Int32) = nI 1 from rfl, nI_eq (by omega) (by omega)] at h97
            refine ev_iload d_MD_wire_100 rfl ?_
            refine ev_goto d_MD_wire_102 ?_
            refine es_iast d_MD_wire_112 rfl (ez_vinN (by omega) (by omega)) ?_
            rw [hcx]
            refine ev_iload d_MD_wire_113 rfl ?_
            refine es_iret d_MD_wire_115 rfl ⟨Nat.zero_le _, Nat.zero_le _⟩ ⟨_, rfl, ?_⟩
            refine ⟨Or.inr (Or.inr ⟨hgd, trivial, by simp [es_upx], by rw [hjx2, hji2], rm_set hj hm (n_wire_wf hm.1 hgd) (by simp [es_upx]) (by rw [es_upf _ _ _ _ (show (47 : Nat) ≠ 52 by decide), es_upf _ _ _ _ (show (47 : Nat) ≠ 51 by decide), es_upf _ _ _ _ (show (47 : Nat) ≠ 46 by decide)]) (md_rw hmd (by rw [es_upf _ _ _ _ (show (48 : Nat) ≠ 52 by decide), es_upf _ _ _ _ (show (48 : Nat) ≠ 51 by decide), es_upf _ _ _ _ (show (48 : Nat) ≠ 46 by decide)]) (by rw [es_upf _ _ _ _ (show (49 : Nat) ≠ 52 by decide), es_upf _ _ _ _ (show (49 : Nat) ≠ 51 by decide), es_upf _ _ _ _ (show (49 : Nat) ≠ 46 by decide)]) (by rw [es_upf _ _ _ _ (show (50 : Nat) ≠ 52 by decide), es_upf _ _ _ _ (show (50 : Nat) ≠ 51 by decide), es_upf _ _ _ _ (show (50 : Nat) ≠ 46 by decide)]) (by rw [es_upf _ _ _ _ (show (53 : Nat) ≠ 52 by decide), es_upf _ _ _ _ (show (53 : Nat) ≠ 51 by decide), es_upf _ _ _ _ (show (53 : Nat) ≠ 46 by decide)]) (fun b => ?_) (fun b => ?_)) (fun Y hY h => md_oth h hY (by rw [es_upf _ _ _ _ (show (48 : Nat) ≠ 52 by decide), es_upf _ _ _ _ (show (48 : Nat) ≠ 51 by decide), es_upf _ _ _ _ (show (48 : Nat) ≠ 46 by decide)]) (fun b hb => ?_) (fun i hi => by rw [es_upf _ _ _ _ (show (53 : Nat) ≠ 52 by decide), es_upf _ _ _ _ (show (53 : Nat) ≠ 51 by decide), es_upf _ _ _ _ (show (53 : Nat) ≠ 46 by decide)]))⟩), fun k hk => by rw [es_upf _ _ _ _ (by omega), es_upf _ _ _ _ (by omega), es_upf _ _ _ _ (by omega)]⟩
            · rw [hjx2, hji2, hon.1]
              by_cases hb : b = jx
              · first | simp [es_upx, hb, h73] | simp [es_upx, hb, h73, h97]
              · simp [es_upx, hb]
            · rw [hjx2, hji2, hon.1]
              by_cases hb : b = jx
              · simp [es_upx, hb, h97]
              · simp [es_upx, hb]
            · have e1 : ¬ 24 * (1 - j) + b = 24 * j + jx := by omega
              simp [es_upx, e1]
      · refine ev_aload_n (i := 0) d_MD_wire_25 rfl rfl ?_
        refine ev_iload_n (i := 1) d_MD_wire_26 rfl rfl ?_
        refine ev_iload d_MD_wire_27 rfl ?_
        refine es_cVI ls_MD_wire_29 d_MD_wire_29 rfl (c_MD_isBlock hm) rfl rfl (Nat.le_of_ble_eq_true rfl) (fun x29 σ29 h29 => ?_) (fun _ _ h => h.elim)
        obtain ⟨rfl, e29⟩ := h29
        rw [e29]
        refine ev_if_eq d_MD_wire_32 (fun h32 => ?_) (fun h32 => ?_)
        · rw [eb_0] at h32
          refine ev_iconst (v := 0) d_MD_wire_39 rfl ?_
          refine ev_iconst (v := 1) d_MD_wire_40 rfl ?_
          refine es_cVI ls_MD_wire_41 d_MD_wire_41 rfl (c_MD_goes0 (s := true)) rfl rfl (Nat.le_of_ble_eq_true rfl) (fun x41 σ41 h41 => ?_) (fun _ _ h => h.elim)
          obtain ⟨rfl, rfl⟩ := h41
          refine ev_if_ne d_MD_wire_44 (fun h => absurd h (by decide)) (fun _ => ?_)
          refine ev_iconst (v := 0) d_MD_wire_47 rfl ?_
          refine es_iret d_MD_wire_48 rfl ⟨Nat.zero_le _, Nat.zero_le _⟩ ⟨_, rfl, ?_⟩
          first
            | exact ⟨Or.inl ⟨fun g => g.2.2.2.elim (fun q => absurd q h22) (fun q => bd_f.mp h32 ⟨g.1, q⟩), by simp [es_upx], rm_thrown hm _⟩, fun k hk => es_upf _ _ _ _ (by omega)⟩
            | exact ⟨Or.inl ⟨fun g => absurd g.2.2.1 (by rw [h16]; decide), by simp [es_upx], rm_thrown hm _⟩, fun k hk => es_upf _ _ _ _ (by omega)⟩
            | exact ⟨Or.inl ⟨fun g => bd_f.mp h7 ⟨g.1, g.2.1⟩, by simp [es_upx], rm_thrown hm _⟩, fun k hk => es_upf _ _ _ _ (by omega)⟩
        · rw [eb_0, Bool.not_eq_false] at h32
          refine ev_iconst (v := 1) d_MD_wire_35 rfl ?_
          refine ev_goto d_MD_wire_36 ?_
          refine ev_iconst (v := 1) d_MD_wire_40 rfl ?_
          refine es_cVI ls_MD_wire_41 d_MD_wire_41 rfl c_MD_goes11 rfl rfl (Nat.le_of_ble_eq_true rfl) (fun x41 σ41 h41 => ?_) (fun _ _ h => h.elim)
          obtain ⟨rfl, rfl⟩ := h41
          refine ev_if_ne d_MD_wire_44 (fun _ => ?_) (fun h => absurd h (by decide))
          have hgd : g_wire S e x i t := ⟨(bd_t.mp h7).1, (bd_t.mp h7).2, h16, by first | exact Or.inl h22 | exact Or.inr (bd_t.mp h32).2⟩
          obtain ⟨j, hj, rfl, hj2⟩ := ew_ex (n := 2) hgd.1 (by omega)
          have hmd := rm_md hm hj
          have hw := sE_wf hm.1 (nI j)
          have hn := hw.1
          obtain ⟨jx, hjx, rfl, hjx2⟩ := ew_ex hgd.2.1 (by omega)
          obtain ⟨ji, hji, rfl, hji2⟩ := ew_ex (n := 2) h16 (by omega)
          have hon := on_n hn hgd.2.2.2
          have hmd1 : md (sE S (nI j)) j (es_up σ 46 0 0) := md_off hmd (fun k g1 g2 => es_upf _ _ _ _ (by omega))
          have hcx : (nI (24 * j + jx)).toNatClampNeg = 24 * j + jx := nI_clamp (by omega)
          refine ev_bipush (v := 24) d_MD_wire_49 rfl ?_
          refine ev_iload_n (i := 1) d_MD_wire_51 rfl rfl ?_
          refine ev_imul d_MD_wire_52 ?_
          refine ev_iload_n (i := 2) d_MD_wire_53 rfl rfl ?_
          refine ev_iadd d_MD_wire_54 ?_
          rw [ix24]
          refine ev_istore d_MD_wire_55 (by decide) ?_
          dsimp only [List.set_cons_zero, List.set_cons_succ]
          refine ev_aload_n (i := 0) d_MD_wire_57 rfl rfl ?_
          refine ev_iload_n (i := 1) d_MD_wire_58 rfl rfl ?_
          refine ev_iload_n (i := 2) d_MD_wire_59 rfl rfl ?_
          refine ev_iload_n (i := 3) d_MD_wire_60 rfl rfl ?_
          refine es_cVI ls_MD_wire_61 d_MD_wire_61 rfl (c_MD_input hw hj hmd1 hjx hji) rfl rfl (Nat.le_of_ble_eq_true rfl) (fun x61 σ61 h61 => ?_) (fun _ _ h => h.elim)
          obtain ⟨rfl, e61⟩ := h61
          rw [e61]
          refine ev_istore d_MD_wire_64 (by decide) ?_
          dsimp only [List.set_cons_zero, List.set_cons_succ]
          refine ev_aload_n (i := 0) d_MD_wire_66 rfl rfl ?_
          refine es_getR d_MD_wire_67 f_MD_23 rfl rfl ?_
          refine ev_iload d_MD_wire_70 rfl ?_
          refine ev_iload_n (i := 3) d_MD_wire_72 rfl rfl ?_
          refine ev_if_ne d_MD_wire_73 (fun h73 => ?_) (fun h73 => ?_)
          · rw [show (0 : Int32) = nI 0 from rfl, nI_eq (by omega) (by omega)] at h73
            refine ev_aload_n (i := 0) d_MD_wire_81 rfl rfl ?_
            refine es_getR d_MD_wire_82 f_MD_23 rfl rfl ?_
            refine ev_iload d_MD_wire_85 rfl ?_
            refine es_iald d_MD_wire_87 rfl (ez_vinN (by omega) (by omega)) ?_
            rw [hcx]
            refine es_iast d_MD_wire_88 rfl (ez_vinN (by omega) (by omega)) ?_
            rw [hcx]
            refine ev_aload_n (i := 0) d_MD_wire_89 rfl rfl ?_
            refine es_getR d_MD_wire_90 f_MD_26 rfl rfl ?_
            refine ev_iload d_MD_wire_93 rfl ?_
            refine ev_iload_n (i := 3) d_MD_wire_95 rfl rfl ?_
            refine ev_iconst (v := 1) d_MD_wire_96 rfl ?_
            refine ev_icmp_ne d_MD_wire_97 (fun h97 => ?_) (fun h97 => ?_)
            · rw [show (1 : Int32) = nI 1 from rfl, nI_eq (by omega) (by omega)] at h97
              refine ev_aload_n (i := 0) d_MD_wire_105 rfl rfl ?_
              refine es_getR d_MD_wire_106 f_MD_26 rfl rfl ?_
              refine ev_iload d_MD_wire_109 rfl ?_
              refine es_iald d_MD_wire_111 rfl (ez_vinN (by omega) (by omega)) ?_
              rw [hcx]
              refine es_iast d_MD_wire_112 rfl (ez_vinN (by omega) (by omega)) ?_
              rw [hcx]
              refine ev_iload d_MD_wire_113 rfl ?_
              refine es_iret d_MD_wire_115 rfl ⟨Nat.zero_le _, Nat.zero_le _⟩ ⟨_, rfl, ?_⟩
              refine ⟨Or.inr (Or.inr ⟨hgd, trivial, by simp [es_upx], by rw [hjx2, hji2], rm_set hj hm (n_wire_wf hm.1 hgd) (by simp [es_upx]) (by rw [es_upf _ _ _ _ (show (47 : Nat) ≠ 52 by decide), es_upf _ _ _ _ (show (47 : Nat) ≠ 51 by decide), es_upf _ _ _ _ (show (47 : Nat) ≠ 46 by decide)]) (md_rw hmd (by rw [es_upf _ _ _ _ (show (48 : Nat) ≠ 52 by decide), es_upf _ _ _ _ (show (48 : Nat) ≠ 51 by decide), es_upf _ _ _ _ (show (48 : Nat) ≠ 46 by decide)]) (by rw [es_upf _ _ _ _ (show (49 : Nat) ≠ 52 by decide), es_upf _ _ _ _ (show (49 : Nat) ≠ 51 by decide), es_upf _ _ _ _ (show (49 : Nat) ≠ 46 by decide)]) (by rw [es_upf _ _ _ _ (show (50 : Nat) ≠ 52 by decide), es_upf _ _ _ _ (show (50 : Nat) ≠ 51 by decide), es_upf _ _ _ _ (show (50 : Nat) ≠ 46 by decide)]) (by rw [es_upf _ _ _ _ (show (53 : Nat) ≠ 52 by decide), es_upf _ _ _ _ (show (53 : Nat) ≠ 51 by decide), es_upf _ _ _ _ (show (53 : Nat) ≠ 46 by decide)]) (fun b => ?_) (fun b => ?_)) (fun Y hY h => md_oth h hY (by rw [es_upf _ _ _ _ (show (48 : Nat) ≠ 52 by decide), es_upf _ _ _ _ (show (48 : Nat) ≠ 51 by decide), es_upf _ _ _ _ (show (48 : Nat) ≠ 46 by decide)]) (fun b hb => ?_) (fun i hi => by rw [es_upf _ _ _ _ (show (53 : Nat) ≠ 52 by decide), es_upf _ _ _ _ (show (53 : Nat) ≠ 51 by decide), es_upf _ _ _ _ (show (53 : Nat) ≠ 46 by decide)]))⟩), fun k hk => by rw [es_upf _ _ _ _ (by omega), es_upf _ _ _ _ (by omega), es_upf _ _ _ _ (by omega)]⟩
              · rw [hjx2, hji2, hon.1]
                by_cases hb : b = jx
                · first | simp [es_upx, hb, h73] | simp [es_upx, hb, h73, h97]
                · simp [es_upx, hb]
              · rw [hjx2, hji2, hon.1]
                by_cases hb : b = jx
                · simp [es_upx, hb, h97]
                · simp [es_upx, hb]
              · have e1 : ¬ 24 * (1 - j) + b = 24 * j + jx := by omega
                simp [es_upx, e1]
            · rw [show (1 : Int32) = nI 1 from rfl, nI_eq (by omega) (by omega)] at h97
              refine ev_iload d_MD_wire_100 rfl ?_
              refine ev_goto d_MD_wire_102 ?_
              refine es_iast d_MD_wire_112 rfl (ez_vinN (by omega) (by omega)) ?_
              rw [hcx]
              refine ev_iload d_MD_wire_113 rfl ?_
              refine es_iret d_MD_wire_115 rfl ⟨Nat.zero_le _, Nat.zero_le _⟩ ⟨_, rfl, ?_⟩
              refine ⟨Or.inr (Or.inr ⟨hgd, trivial, by simp [es_upx], by rw [hjx2, hji2], rm_set hj hm (n_wire_wf hm.1 hgd) (by simp [es_upx]) (by rw [es_upf _ _ _ _ (show (47 : Nat) ≠ 52 by decide), es_upf _ _ _ _ (show (47 : Nat) ≠ 51 by decide), es_upf _ _ _ _ (show (47 : Nat) ≠ 46 by decide)]) (md_rw hmd (by rw [es_upf _ _ _ _ (show (48 : Nat) ≠ 52 by decide), es_upf _ _ _ _ (show (48 : Nat) ≠ 51 by decide), es_upf _ _ _ _ (show (48 : Nat) ≠ 46 by decide)]) (by rw [es_upf _ _ _ _ (show (49 : Nat) ≠ 52 by decide), es_upf _ _ _ _ (show (49 : Nat) ≠ 51 by decide), es_upf _ _ _ _ (show (49 : Nat) ≠ 46 by decide)]) (by rw [es_upf _ _ _ _ (show (50 : Nat) ≠ 52 by decide), es_upf _ _ _ _ (show (50 : Nat) ≠ 51 by decide), es_upf _ _ _ _ (show (50 : Nat) ≠ 46 by decide)]) (by rw [es_upf _ _ _ _ (show (53 : Nat) ≠ 52 by decide), es_upf _ _ _ _ (show (53 : Nat) ≠ 51 by decide), es_upf _ _ _ _ (show (53 : Nat) ≠ 46 by decide)]) (fun b => ?_) (fun b => ?_)) (fun Y hY h => md_oth h hY (by rw [es_upf _ _ _ _ (show (48 : Nat) ≠ 52 by decide), es_upf _ _ _ _ (show (48 : Nat) ≠ 51 by decide), es_upf _ _ _ _ (show (48 : Nat) ≠ 46 by decide)]) (fun b hb => ?_) (fun i hi => by rw [es_upf _ _ _ _ (show (53 : Nat) ≠ 52 by decide), es_upf _ _ _ _ (show (53 : Nat) ≠ 51 by decide), es_upf _ _ _ _ (show (53 : Nat) ≠ 46 by decide)]))⟩), fun k hk => by rw [es_upf _ _ _ _ (by omega), es_upf _ _ _ _ (by omega), es_upf _ _ _ _ (by omega)]⟩
              · rw [hjx2, hji2, hon.1]
                by_cases hb : b = jx
                · first | simp [es_upx, hb, h73] | simp [es_upx, hb, h73, h97]
                · simp [es_upx, hb]
              · rw [hjx2, hji2, hon.1]
                by_cases hb : b = jx
                · simp [es_upx, hb, h97]
                · simp [es_upx, hb]
              · have e1 : ¬ 24 * (1 - j) + b = 24 * j + jx := by omega
                simp [es_upx, e1]
          · rw [show (0 : Int32) = nI 0 from rfl, nI_eq (by omega) (by omega)] at h73
            refine ev_iload d_MD_wire_76 rfl ?_
            refine ev_goto d_MD_wire_78 ?_
            refine es_iast d_MD_wire_88 rfl (ez_vinN (by omega) (by omega)) ?_
            rw [hcx]
            refine ev_aload_n (i := 0) d_MD_wire_89 rfl rfl ?_
            refine es_getR d_MD_wire_90 f_MD_26 rfl rfl ?_
            refine ev_iload d_MD_wire_93 rfl ?_
            refine ev_iload_n (i := 3) d_MD_wire_95 rfl rfl ?_
            refine ev_iconst (v := 1) d_MD_wire_96 rfl ?_
            refine ev_icmp_ne d_MD_wire_97 (fun h97 => ?_) (fun h97 => ?_)
            · rw [show (1 : Int32) = nI 1 from rfl, nI_eq (by omega) (by omega)] at h97
              refine ev_aload_n (i := 0) d_MD_wire_105 rfl rfl ?_
              refine es_getR d_MD_wire_106 f_MD_26 rfl rfl ?_
              refine ev_iload d_MD_wire_109 rfl ?_
              refine es_iald d_MD_wire_111 rfl (ez_vinN (by omega) (by omega)) ?_
              rw [hcx]
              refine es_iast d_MD_wire_112 rfl (ez_vinN (by omega) (by omega)) ?_
              rw [hcx]
              refine ev_iload d_MD_wire_113 rfl ?_
              refine es_iret d_MD_wire_115 rfl ⟨Nat.zero_le _, Nat.zero_le _⟩ ⟨_, rfl, ?_⟩
              refine ⟨Or.inr (Or.inr ⟨hgd, trivial, by simp [es_upx], by rw [hjx2, hji2], rm_set hj hm (n_wire_wf hm.1 hgd) (by simp [es_upx]) (by rw [es_upf _ _ _ _ (show (47 : Nat) ≠ 52 by decide), es_upf _ _ _ _ (show (47 : Nat) ≠ 51 by decide), es_upf _ _ _ _ (show (47 : Nat) ≠ 46 by decide)]) (md_rw hmd (by rw [es_upf _ _ _ _ (show (48 : Nat) ≠ 52 by decide), es_upf _ _ _ _ (show (48 : Nat) ≠ 51 by decide), es_upf _ _ _ _ (show (48 : Nat) ≠ 46 by decide)]) (by rw [es_upf _ _ _ _ (show (49 : Nat) ≠ 52 by decide), es_upf _ _ _ _ (show (49 : Nat) ≠ 51 by decide), es_upf _ _ _ _ (show (49 : Nat) ≠ 46 by decide)]) (by rw [es_upf _ _ _ _ (show (50 : Nat) ≠ 52 by decide), es_upf _ _ _ _ (show (50 : Nat) ≠ 51 by decide), es_upf _ _ _ _ (show (50 : Nat) ≠ 46 by decide)]) (by rw [es_upf _ _ _ _ (show (53 : Nat) ≠ 52 by decide), es_upf _ _ _ _ (show (53 : Nat) ≠ 51 by decide), es_upf _ _ _ _ (show (53 : Nat) ≠ 46 by decide)]) (fun b => ?_) (fun b => ?_)) (fun Y hY h => md_oth h hY (by rw [es_upf _ _ _ _ (show (48 : Nat) ≠ 52 by decide), es_upf _ _ _ _ (show (48 : Nat) ≠ 51 by decide), es_upf _ _ _ _ (show (48 : Nat) ≠ 46 by decide)]) (fun b hb => ?_) (fun i hi => by rw [es_upf _ _ _ _ (show (53 : Nat) ≠ 52 by decide), es_upf _ _ _ _ (show (53 : Nat) ≠ 51 by decide), es_upf _ _ _ _ (show (53 : Nat) ≠ 46 by decide)]))⟩), fun k hk => by rw [es_upf _ _ _ _ (by omega), es_upf _ _ _ _ (by omega), es_upf _ _ _ _ (by omega)]⟩
              · rw [hjx2, hji2, hon.1]
                by_cases hb : b = jx
                · first | simp [es_upx, hb, h73] | simp [es_upx, hb, h73, h97]
                · simp [es_upx, hb]
              · rw [hjx2, hji2, hon.1]
                by_cases hb : b = jx
                · simp [es_upx, hb, h97]
                · simp [es_upx, hb]
              · have e1 : ¬ 24 * (1 - j) + b = 24 * j + jx := by omega
                simp [es_upx, e1]
            · rw [show (1 : Int32) = nI 1 from rfl, nI_eq (by omega) (by omega)] at h97
              refine ev_iload d_MD_wire_100 rfl ?_
              refine ev_goto d_MD_wire_102 ?_
              refine es_iast d_MD_wire_112 rfl (ez_vinN (by omega) (by omega)) ?_
              rw [hcx]
              refine ev_iload d_MD_wire_113 rfl ?_
              refine es_iret d_MD_wire_115 rfl ⟨Nat.zero_le _, Nat.zero_le _⟩ ⟨_, rfl, ?_⟩
              refine ⟨Or.inr (Or.inr ⟨hgd, trivial, by simp [es_upx], by rw [hjx2, hji2], rm_set hj hm (n_wire_wf hm.1 hgd) (by simp [es_upx]) (by rw [es_upf _ _ _ _ (show (47 : Nat) ≠ 52 by decide), es_upf _ _ _ _ (show (47 : Nat) ≠ 51 by decide), es_upf _ _ _ _ (show (47 : Nat) ≠ 46 by decide)]) (md_rw hmd (by rw [es_upf _ _ _ _ (show (48 : Nat) ≠ 52 by decide), es_upf _ _ _ _ (show (48 : Nat) ≠ 51 by decide), es_upf _ _ _ _ (show (48 : Nat) ≠ 46 by decide)]) (by rw [es_upf _ _ _ _ (show (49 : Nat) ≠ 52 by decide), es_upf _ _ _ _ (show (49 : Nat) ≠ 51 by decide), es_upf _ _ _ _ (show (49 : Nat) ≠ 46 by decide)]) (by rw [es_upf _ _ _ _ (show (50 : Nat) ≠ 52 by decide), es_upf _ _ _ _ (show (50 : Nat) ≠ 51 by decide), es_upf _ _ _ _ (show (50 : Nat) ≠ 46 by decide)]) (by rw [es_upf _ _ _ _ (show (53 : Nat) ≠ 52 by decide), es_upf _ _ _ _ (show (53 : Nat) ≠ 51 by decide), es_upf _ _ _ _ (show (53 : Nat) ≠ 46 by decide)]) (fun b => ?_) (fun b => ?_)) (fun Y hY h => md_oth h hY (by rw [es_upf _ _ _ _ (show (48 : Nat) ≠ 52 by decide), es_upf _ _ _ _ (show (48 : Nat) ≠ 51 by decide), es_upf _ _ _ _ (show (48 : Nat) ≠ 46 by decide)]) (fun b hb => ?_) (fun i hi => by rw [es_upf _ _ _ _ (show (53 : Nat) ≠ 52 by decide), es_upf _ _ _ _ (show (53 : Nat) ≠ 51 by decide), es_upf _ _ _ _ (show (53 : Nat) ≠ 46 by decide)]))⟩), fun k hk => by rw [es_upf _ _ _ _ (by omega), es_upf _ _ _ _ (by omega), es_upf _ _ _ _ (by omega)]⟩
              · rw [hjx2, hji2, hon.1]
                by_cases hb : b = jx
                · first | simp [es_upx, hb, h73] | simp [es_upx, hb, h73, h97]
                · simp [es_upx, hb]
              · rw [hjx2, hji2, hon.1]
                by_cases hb : b = jx
                · simp [es_upx, hb, h97]
                · simp [es_upx, hb]
              · have e1 : ¬ 24 * (1 - j) + b = 24 * j + jx := by omega
                simp [es_upx, e1]
theorem c_MD_out {S : sp_S} (hm : rm S σ) {e x t : Int32} : ez_Ct l G X_MD_out [.ref 46, .int e, .int x, .int t] (es_H σ) (es_Q (es_I fun y σ' => mR S (g_out S e x t) (True) (en (em_o (sE S e) (tn x))) (n_out S e x t) y σ' ∧ ∀ k, (k < 46 ∨ 63 < k) → σ' k = σ k) es_no) := by
  refine es_Ct_of (ls := [some (.ref 46), some (.int e), some (.int x), some (.int t), none]) ok_MD_out rfl (Nat.le_of_ble_eq_true rfl) rfl ?_
  refine ev_aload_n (i := 0) d_MD_out_0 rfl rfl ?_
  refine ev_iload_n (i := 1) d_MD_out_1 rfl rfl ?_
  refine ev_iconst (v := 0) d_MD_out_2 rfl ?_
  refine ev_iconst (v := 1) d_MD_out_3 rfl ?_
  refine es_cSI ls_MD_out_4 d_MD_out_4 c_MD_in rfl rfl (Nat.le_of_ble_eq_true rfl) (fun x4 σ4 h4 => ?_) (fun _ _ h => h.elim)
  obtain ⟨rfl, e4⟩ := h4
  rw [e4, ei1]
  refine ev_if_eq d_MD_out_7 (fun h7 => ?_) (fun h7 => ?_)
  · rw [eb_0] at h7
    refine ev_iconst (v := 0) d_MD_out_37 rfl ?_
    refine ev_iconst (v := 1) d_MD_out_38 rfl ?_
    refine es_cVI ls_MD_out_39 d_MD_out_39 rfl (c_MD_goes0 (s := true)) rfl rfl (Nat.le_of_ble_eq_true rfl) (fun x39 σ39 h39 => ?_) (fun _ _ h => h.elim)
    obtain ⟨rfl, rfl⟩ := h39
    refine ev_if_ne d_MD_out_42 (fun h => absurd h (by decide)) (fun _ => ?_)
    refine ev_iconst (v := 0) d_MD_out_45 rfl ?_
    refine es_iret d_MD_out_46 rfl ⟨Nat.zero_le _, Nat.zero_le _⟩ ⟨_, rfl, ?_⟩
    first
      | exact ⟨Or.inl ⟨fun g => g.2.2.elim (fun q => absurd q h21) (fun q => bd_f.mp h30 ⟨g.1, q⟩), by simp [es_upx], rm_thrown hm _⟩, fun k hk => es_upf _ _ _ _ (by omega)⟩
      | exact ⟨Or.inl ⟨fun g => absurd g.2.1 (by rw [h16]; decide), by simp [es_upx], rm_thrown hm _⟩, fun k hk => es_upf _ _ _ _ (by omega)⟩
      | exact ⟨Or.inl ⟨fun g => absurd g.1 (by rw [h7]; decide), by simp [es_upx], rm_thrown hm _⟩, fun k hk => es_upf _ _ _ _ (by omega)⟩
  · rw [eb_0, Bool.not_eq_false] at h7
    refine ev_iload_n (i := 2) d_MD_out_10 rfl rfl ?_
    refine ev_iconst (v := 0) d_MD_out_11 rfl ?_
    refine ev_iconst (v := 2) d_MD_out_12 rfl ?_
    refine es_cSI ls_MD_out_13 d_MD_out_13 c_MD_in rfl rfl (Nat.le_of_ble_eq_true rfl) (fun x13 σ13 h13 => ?_) (fun _ _ h => h.elim)
    obtain ⟨rfl, e13⟩ := h13
    rw [e13, ei2]
    refine ev_if_eq d_MD_out_16 (fun h16 => ?_) (fun h16 => ?_)
    · rw [eb_0] at h16
      refine ev_iconst (v := 0) d_MD_out_37 rfl ?_
      refine ev_iconst (v := 1) d_MD_out_38 rfl ?_
      refine es_cVI ls_MD_out_39 d_MD_out_39 rfl (c_MD_goes0 (s := true)) rfl rfl (Nat.le_of_ble_eq_true rfl) (fun x39 σ39 h39 => ?_) (fun _ _ h => h.elim)
      obtain ⟨rfl, rfl⟩ := h39
      refine ev_if_ne d_MD_out_42 (fun h => absurd h (by decide)) (fun _ => ?_)
      refine ev_iconst (v := 0) d_MD_out_45 rfl ?_
      refine es_iret d_MD_out_46 rfl ⟨Nat.zero_le _, Nat.zero_le _⟩ ⟨_, rfl, ?_⟩
      first
        | exact ⟨Or.inl ⟨fun g => g.2.2.elim (fun q => absurd q h21) (fun q => bd_f.mp h30 ⟨g.1, q⟩), by simp [es_upx], rm_thrown hm _⟩, fun k hk => es_upf _ _ _ _ (by omega)⟩
        | exact ⟨Or.inl ⟨fun g => absurd g.2.1 (by rw [h16]; decide), by simp [es_upx], rm_thrown hm _⟩, fun k hk => es_upf _ _ _ _ (by omega)⟩
        | exact ⟨Or.inl ⟨fun g => absurd g.1 (by rw [h7]; decide), by simp [es_upx], rm_thrown hm _⟩, fun k hk => es_upf _ _ _ _ (by omega)⟩
    · rw [eb_0, Bool.not_eq_false] at h16
      refine ev_iload_n (i := 3) d_MD_out_19 rfl rfl ?_
      refine ev_iconst (v := (-1)) d_MD_out_20 rfl ?_
      refine ev_icmp_eq d_MD_out_21 (fun h21 => ?_) (fun h21 => ?_)
      · refine ev_iconst (v := 1) d_MD_out_33 rfl ?_
        refine ev_goto d_MD_out_34 ?_
        refine ev_iconst (v := 1) d_MD_out_38 rfl ?_
        refine es_cVI ls_MD_out_39 d_MD_out_39 rfl c_MD_goes11 rfl rfl (Nat.le_of_ble_eq_true rfl) (fun x39 σ39 h39 => ?_) (fun _ _ h => h.elim)
        obtain ⟨rfl, rfl⟩ := h39
        refine ev_if_ne d_MD_out_42 (fun _ => ?_) (fun h => absurd h (by decide))
        have hgd : g_out S e x t := ⟨h7, h16, by first | exact Or.inl h21 | exact Or.inr (bd_t.mp h30).2⟩
        obtain ⟨j, hj, rfl, hj2⟩ := ew_ex (n := 2) hgd.1 (by omega)
        have hmd := rm_md hm hj
        have hw := sE_wf hm.1 (nI j)
        have hn := hw.1
        obtain ⟨jx, hjx, rfl, hjx2⟩ := ew_ex (n := 3) h16 (by omega)
        have hon := on_n hn hgd.2.2
        have hcx : (nI (3 * j + jx)).toNatClampNeg = 3 * j + jx := nI_clamp (by omega)
        refine ev_aload_n (i := 0) d_MD_out_47 rfl rfl ?_
        refine es_getR d_MD_out_48 f_MD_29 rfl rfl ?_
        refine ev_iconst (v := 3) d_MD_out_51 rfl ?_
        refine ev_iload_n (i := 1) d_MD_out_52 rfl rfl ?_
        refine ev_imul d_MD_out_53 ?_
        refine ev_iload_n (i := 2) d_MD_out_54 rfl rfl ?_
        refine ev_iadd d_MD_out_55 ?_
        rw [ix3]
        refine es_iald d_MD_out_56 rfl (ez_vinN (by omega) (by omega)) ?_
        rw [hcx, es_upf _ _ _ _ (show (53 : Nat) ≠ 46 by decide), hmd.2.2 jx hjx]
        refine ev_istore d_MD_out_57 (by decide) ?_
        dsimp only [List.set_cons_zero, List.set_cons_succ]
        refine ev_aload_n (i := 0) d_MD_out_59 rfl rfl ?_
        refine es_getR d_MD_out_60 f_MD_29 rfl rfl ?_
        refine ev_iconst (v := 3) d_MD_out_63 rfl ?_
        refine ev_iload_n (i := 1) d_MD_out_64 rfl rfl ?_
        refine ev_imul d_MD_out_65 ?_
        refine ev_iload_n (i := 2) d_MD_out_66 rfl rfl ?_
        refine ev_iadd d_MD_out_67 ?_
        rw [ix3]
        refine ev_iload_n (i := 3) d_MD_out_68 rfl rfl ?_
        refine es_iast d_MD_out_69 rfl (ez_vinN (by omega) (by omega)) ?_
        rw [hcx]
        refine ev_iload d_MD_out_70 rfl ?_
        refine es_iret d_MD_out_72 rfl ⟨Nat.zero_le _, Nat.zero_le _⟩ ⟨_, rfl, ?_⟩
        refine ⟨Or.inr (Or.inr ⟨hgd, trivial, by simp [es_upx], by rw [hjx2], rm_set hj hm (n_out_wf hm.1 hgd) (by simp [es_upx]) (by rw [es_upf _ _ _ _ (show (47 : Nat) ≠ 53 by decide), es_upf _ _ _ _ (show (47 : Nat) ≠ 46 by decide)]) (md_co hmd (fun k g1 g2 => by rw [es_upf _ _ _ _ (by omega), es_upf _ _ _ _ (by omega)]) (fun b hb => ?_)) (fun Y hY h => md_oth h hY (by rw [es_upf _ _ _ _ (show (48 : Nat) ≠ 53 by decide), es_upf _ _ _ _ (show (48 : Nat) ≠ 46 by decide)]) (fun b hb => ?_) (fun i hi => ?_))⟩), fun k hk => by rw [es_upf _ _ _ _ (by omega), es_upf _ _ _ _ (by omega)]⟩
        · rw [hjx2, hon.1]
          by_cases hbx : b = jx
          · simp [es_upx, hbx]
          · simp [es_upx, hbx]
        · simp [es_upx]
        · have e1 : ¬ 3 * (1 - j) + i = 3 * j + jx := by omega
          simp [es_upx, e1]
      · refine ev_aload_n (i := 0) d_MD_out_24 rfl rfl ?_
        refine ev_iload_n (i := 1) d_MD_out_25 rfl rfl ?_
        refine ev_iload_n (i := 3) d_MD_out_26 rfl rfl ?_
        refine es_cVI ls_MD_out_27 d_MD_out_27 rfl (c_MD_isBlock hm) rfl rfl (Nat.le_of_ble_eq_true rfl) (fun x27 σ27 h27 => ?_) (fun _ _ h => h.elim)
        obtain ⟨rfl, e27⟩ := h27
        rw [e27]
        refine ev_if_eq d_MD_out_30 (fun h30 => ?_) (fun h30 => ?_)
        · rw [eb_0] at h30
          refine ev_iconst (v := 0) d_MD_out_37 rfl ?_
          refine ev_iconst (v := 1) d_MD_out_38 rfl ?_
          refine es_cVI ls_MD_out_39 d_MD_out_39 rfl (c_MD_goes0 (s := true)) rfl rfl (Nat.le_of_ble_eq_true rfl) (fun x39 σ39 h39 => ?_) (fun _ _ h => h.elim)
          obtain ⟨rfl, rfl⟩ := h39
          refine ev_if_ne d_MD_out_42 (fun h => absurd h (by decide)) (fun _ => ?_)
          refine ev_iconst (v := 0) d_MD_out_45 rfl ?_
          refine es_iret d_MD_out_46 rfl ⟨Nat.zero_le _, Nat.zero_le _⟩ ⟨_, rfl, ?_⟩
          first
            | exact ⟨Or.inl ⟨fun g => g.2.2.elim (fun q => absurd q h21) (fun q => bd_f.mp h30 ⟨g.1, q⟩), by simp [es_upx], rm_thrown hm _⟩, fun k hk => es_upf _ _ _ _ (by omega)⟩
            | exact ⟨Or.inl ⟨fun g => absurd g.2.1 (by rw [h16]; decide), by simp [es_upx], rm_thrown hm _⟩, fun k hk => es_upf _ _ _ _ (by omega)⟩
            | exact ⟨Or.inl ⟨fun g => absurd g.1 (by rw [h7]; decide), by simp [es_upx], rm_thrown hm _⟩, fun k hk => es_upf _ _ _ _ (by omega)⟩
        · rw [eb_0, Bool.not_eq_false] at h30
          refine ev_iconst (v := 1) d_MD_out_33 rfl ?_
          refine ev_goto d_MD_out_34 ?_
          refine ev_iconst (v := 1) d_MD_out_38 rfl ?_
          refine es_cVI ls_MD_out_39 d_MD_out_39 rfl c_MD_goes11 rfl rfl (Nat.le_of_ble_eq_true rfl) (fun x39 σ39 h39 => ?_) (fun _ _ h => h.elim)
          obtain ⟨rfl, rfl⟩ := h39
          refine ev_if_ne d_MD_out_42 (fun _ => ?_) (fun h => absurd h (by decide))
          have hgd : g_out S e x t := ⟨h7, h16, by first | exact Or.inl h21 | exact Or.inr (bd_t.mp h30).2⟩
          obtain ⟨j, hj, rfl, hj2⟩ := ew_ex (n := 2) hgd.1 (by omega)
          have hmd := rm_md hm hj
          have hw := sE_wf hm.1 (nI j)
          have hn := hw.1
          obtain ⟨jx, hjx, rfl, hjx2⟩ := ew_ex (n := 3) h16 (by omega)
          have hon := on_n hn hgd.2.2
          have hcx : (nI (3 * j + jx)).toNatClampNeg = 3 * j + jx := nI_clamp (by omega)
          refine ev_aload_n (i := 0) d_MD_out_47 rfl rfl ?_
          refine es_getR d_MD_out_48 f_MD_29 rfl rfl ?_
          refine ev_iconst (v := 3) d_MD_out_51 rfl ?_
          refine ev_iload_n (i := 1) d_MD_out_52 rfl rfl ?_
          refine ev_imul d_MD_out_53 ?_
          refine ev_iload_n (i := 2) d_MD_out_54 rfl rfl ?_
          refine ev_iadd d_MD_out_55 ?_
          rw [ix3]
          refine es_iald d_MD_out_56 rfl (ez_vinN (by omega) (by omega)) ?_
          rw [hcx, es_upf _ _ _ _ (show (53 : Nat) ≠ 46 by decide), hmd.2.2 jx hjx]
          refine ev_istore d_MD_out_57 (by decide) ?_
          dsimp only [List.set_cons_zero, List.set_cons_succ]
          refine ev_aload_n (i := 0) d_MD_out_59 rfl rfl ?_
          refine es_getR d_MD_out_60 f_MD_29 rfl rfl ?_
          refine ev_iconst (v := 3) d_MD_out_63 rfl ?_
          refine ev_iload_n (i := 1) d_MD_out_64 rfl rfl ?_
          refine ev_imul d_MD_out_65 ?_
          refine ev_iload_n (i := 2) d_MD_out_66 rfl rfl ?_
          refine ev_iadd d_MD_out_67 ?_
          rw [ix3]
          refine ev_iload_n (i := 3) d_MD_out_68 rfl rfl ?_
          refine es_iast d_MD_out_69 rfl (ez_vinN (by omega) (by omega)) ?_
          rw [hcx]
          refine ev_iload d_MD_out_70 rfl ?_
          refine es_iret d_MD_out_72 rfl ⟨Nat.zero_le _, Nat.zero_le _⟩ ⟨_, rfl, ?_⟩
          refine ⟨Or.inr (Or.inr ⟨hgd, trivial, by simp [es_upx], by rw [hjx2], rm_set hj hm (n_out_wf hm.1 hgd) (by simp [es_upx]) (by rw [es_upf _ _ _ _ (show (47 : Nat) ≠ 53 by decide), es_upf _ _ _ _ (show (47 : Nat) ≠ 46 by decide)]) (md_co hmd (fun k g1 g2 => by rw [es_upf _ _ _ _ (by omega), es_upf _ _ _ _ (by omega)]) (fun b hb => ?_)) (fun Y hY h => md_oth h hY (by rw [es_upf _ _ _ _ (show (48 : Nat) ≠ 53 by decide), es_upf _ _ _ _ (show (48 : Nat) ≠ 46 by decide)]) (fun b hb => ?_) (fun i hi => ?_))⟩), fun k hk => by rw [es_upf _ _ _ _ (by omega), es_upf _ _ _ _ (by omega)]⟩
          · rw [hjx2, hon.1]
            by_cases hbx : b = jx
            · simp [es_upx, hbx]
            · simp [es_upx, hbx]
          · simp [es_upx]
          · have e1 : ¬ 3 * (1 - j) + i = 3 * j + jx := by omega
            simp [es_upx, e1]
theorem c_MD_bar {S : sp_S} (hm : rm S σ) {x : Int32} {c : Bool} : ez_Ct l G X_MD_bar [.ref 46, .int x, .int (eb c)] (es_H σ) (es_Q (es_I fun y σ' => mR S (g_row S x) (True) (v_bar S x) (n_bar S x c) y σ' ∧ ∀ k, (k < 46 ∨ 63 < k) → σ' k = σ k) es_no) := by
  have hP := rm_P hm
  refine es_Ct_of (ls := [some (.ref 46), some (.int x), some (.int (eb c)), none]) ok_MD_bar rfl (Nat.le_of_ble_eq_true rfl) rfl ?_
  refine ev_aload_n (i := 0) d_MD_bar_0 rfl rfl ?_
  refine ev_aload_n (i := 0) d_MD_bar_1 rfl rfl ?_
  refine ev_iload_n (i := 1) d_MD_bar_2 rfl rfl ?_
  refine es_cVI ls_MD_bar_3 d_MD_bar_3 rfl (c_MD_isRow hm) rfl rfl (Nat.le_of_ble_eq_true rfl) (fun x3 σ3 h3 => ?_) (fun _ _ h => h.elim)
  obtain ⟨rfl, e3⟩ := h3
  rw [e3]
  refine ev_iconst (v := 1) d_MD_bar_6 rfl ?_
  refine es_cVI ls_MD_bar_7 d_MD_bar_7 rfl (c_MD_goes (s := true)) rfl rfl (Nat.le_of_ble_eq_true rfl) (fun x7 σ7 h7 => ?_) (fun _ _ h => h.elim)
  obtain ⟨rfl, rfl⟩ := h7
  rw [Bool.and_true]
  refine ev_if_ne d_MD_bar_10 (fun h10 => ?_) (fun h10 => ?_)
  · rw [eb_0, Bool.not_eq_false] at h10
    have hx := bd_t.mp h10
    rw [h10, if_pos rfl, if_pos rfl]
    obtain ⟨j, hj, rfl, hj2⟩ := ew_ex hx (by omega)
    have hcj : (nI j).toNatClampNeg = j := nI_clamp (by omega)
    refine ev_aload_n (i := 0) d_MD_bar_15 rfl rfl ?_
    refine es_getR d_MD_bar_16 f_MD_7 rfl rfl ?_
    refine ev_iload_n (i := 1) d_MD_bar_19 rfl rfl ?_
    refine es_zald d_MD_bar_20 rfl (ez_vinN (by omega) (by omega)) ?_
    rw [hcj, es_upf _ _ _ _ (show (47 : Nat) ≠ 46 by decide), hm.2.2.1 j hj]
    refine ev_istore_n (i := 3) d_MD_bar_21 rfl (by decide) ?_
    dsimp only [List.set_cons_zero, List.set_cons_succ]
    refine ev_aload_n (i := 0) d_MD_bar_22 rfl rfl ?_
    refine es_getR d_MD_bar_23 f_MD_7 rfl rfl ?_
    refine ev_iload_n (i := 1) d_MD_bar_26 rfl rfl ?_
    refine ev_iload_n (i := 2) d_MD_bar_27 rfl rfl ?_
    refine es_zast d_MD_bar_28 rfl (ez_vinN (by omega) (by omega)) ?_
    rw [hcj, nar_eb]
    refine ev_iload_n (i := 3) d_MD_bar_29 rfl rfl ?_
    refine es_zret d_MD_bar_30 rfl (eb_nar _) ⟨Nat.zero_le _, Nat.zero_le _⟩ ⟨_, rfl, ?_⟩
    refine ⟨Or.inr (Or.inr ⟨hx, trivial, by simp [es_upx], by unfold v_bar; rw [hj2]; rfl, n_bar_wf hm.1, by simp [es_upx, hm.2.1]; rfl, fun r hr => ?_, md_off hm.2.2.2.1 (fun k g1 g2 => by rw [es_upf _ _ _ _ (by omega), es_upf _ _ _ _ (by omega)]), md_off hm.2.2.2.2 (fun k g1 g2 => by rw [es_upf _ _ _ _ (by omega), es_upf _ _ _ _ (by omega)])⟩), fun k hk => by rw [es_upf _ _ _ _ (by omega), es_upf _ _ _ _ (by omega)]⟩
    show _ = eb (bd (if r = tn (nI j) then c = true else sB S r))
    rw [hj2]
    by_cases hrj : r = j
    · simp only [hrj, if_true, es_upx]
      rw [← bd_of (b := c) Iff.rfl]
    · simp only [hrj, if_false, es_upx, if_true]
      simp
      exact hm.2.2.1 r hr
  · rw [eb_0] at h10
    refine ev_iconst (v := 0) d_MD_bar_13 rfl ?_
    refine es_zret d_MD_bar_14 rfl rfl ⟨Nat.zero_le _, Nat.zero_le _⟩ ⟨_, rfl, ?_⟩
    rw [h10]
    exact ⟨Or.inl ⟨fun g => bd_f.mp h10 g, by simp [es_upx], rm_thrown hm _⟩, fun k hk => es_upf _ _ _ _ (by omega)⟩
end
