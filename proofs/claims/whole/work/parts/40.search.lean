/-! ===== PairSearch ===== -/
section
variable {l : Launch} {G : ez_G} {σ : es_S}
theorem sb19 : sb_BH 19 1 := Or.inl ⟨rfl, rfl⟩
theorem sb28 : sb_BH 28 10 := Or.inr ⟨rfl, rfl⟩
/-- the class's cells of the search -/
def pc_R (A : ps_A) (Z : ps_Z) (σ : es_S) : Prop := σ 37 6 = nI (zc Z) ∧ σ 37 7 = nI (ps_n Z) ∧ (∀ a b, zd Z = some (a, b) → σ 37 8 = nI a ∧ σ 37 9 = nI b) ∧ (σ 37 10 = ps_l1 A Z ∧ σ 37 11 = ps_l2 A Z) ∧ (∀ i, i < zc Z → σ 39 i = nI (zq Z i)) ∧ (∀ i, 0 < i → i < zc Z → σ 40 i = nI (zf Z i) ∧ σ 41 i = nI (zb Z i)) ∧ (∀ a c, a < 32 → c < 32 → (bt (σ 38 a) c = true ↔ zs Z (a * 32 + c)))
theorem pc_R_off {A : ps_A} {Z : ps_Z} {σ σ' : es_S} (h : pc_R A Z σ) (hs : ∀ k, 37 ≤ k → k ≤ 41 → σ' k = σ k) : pc_R A Z σ' := by
  unfold pc_R
  rw [hs 37 (by omega) (by omega), hs 38 (by omega) (by omega), hs 39 (by omega) (by omega), hs 40 (by omega) (by omega), hs 41 (by omega) (by omega)]
  exact h
theorem ps_put_n {N1 N2 : Nat} {A : ps_A} {Z : ps_Z} (hI : ps_I N1 N2 A Z) (p f b : Nat) : ps_n (ps_put Z p f b) = ps_n Z ∧ ps_l1 A (ps_put Z p f b) = ps_l1 A Z ∧ ps_l2 A (ps_put Z p f b) = ps_l2 A Z := by
  unfold ps_n ps_l1 ps_l2
  rw [show zd (ps_put Z p f b) = zd Z from rfl]
  cases hd : zd Z with
  | none => exact ⟨rfl, rfl, rfl⟩
  | some ab =>
    obtain ⟨a, c⟩ := ab
    have ha := (hI.2.2.2 a c hd).1
    have e1 : ps_dep (zf (ps_put Z p f b)) a = ps_dep (zf Z) a := (ps_dep_eq a (fun i i1 i2 => hI.2.2.1 i i1 (by omega)) (fun i i1 i2 => by show zf Z i = if i = zc Z then f else zf Z i; rw [if_neg (by omega)])).symm
    have e2 : zq (ps_put Z p f b) a = zq Z a := by show (if a = zc Z then p else zq Z a) = _; rw [if_neg (by omega)]
    exact ⟨by simp only [e1], by simp only [e2], by simp only [e2]⟩
theorem pc_put {N1 N2 : Nat} {A : ps_A} {Z : ps_Z} {σ : es_S} (h : pc_R A Z σ) (hI : ps_I N1 N2 A Z) {a c f b : Nat} (ha : a < 32) (hc : c < 32) : pc_R A (ps_put Z (a * 32 + c) f b) (es_up (es_up (es_up (es_up (es_up σ 38 a (σ 38 a ||| eo (nI c))) 39 (zc Z) (nI (a * 32 + c))) 40 (zc Z) (nI f)) 41 (zc Z) (nI b)) 37 6 (nI (zc Z + 1))) := by
  obtain ⟨h1, h2, h3, h4, h5, h6, h7⟩ := h
  obtain ⟨e1, e2, e3⟩ := ps_put_n hI (a * 32 + c) f b
  refine ⟨by simp [es_upx]; rfl, by rw [e1]; simp [es_upx, h2], fun x y hd => by have := h3 x y hd; simp [es_upx, this], by rw [e2, e3]; simp [es_upx, h4], fun i hi => ?_, fun i i1 i2 => ?_, fun x y hx hy => ?_⟩
  · change i < zc Z + 1 at hi
    show _ = nI (if i = zc Z then a * 32 + c else zq Z i)
    by_cases hc : i = zc Z
    · simp [es_upx, hc]
    · simp [es_upx, hc, h5 i (by omega)]
  · change i < zc Z + 1 at i2
    show _ = nI (if i = zc Z then f else zf Z i) ∧ _ = nI (if i = zc Z then b else zb Z i)
    by_cases hc : i = zc Z
    · simp [es_upx, hc]
    · simp [es_upx, hc, h6 i i1 (by omega)]
  · rw [ps_put_s, ← h7 x y hx hy]
    by_cases hxa : x = a
    · simp only [es_upx, hxa, if_true]
      simp [b_or, bt_eo (show c < 2 ^ 31 by omega) hy]
    · simp [es_upx, hxa]
      intro g
      omega
theorem c_PS_forget  : ez_Ct l G X_PS_forget [.ref 37] (es_H σ) (es_Q (es_V fun σ' => σ' = es_up σ 37 12 0) es_no) := by
  refine es_Ct_of (ls := [some (.ref 37)]) ok_PS_forget rfl (Nat.le_of_ble_eq_true rfl) rfl ?_
  refine ev_aload_n (i := 0) d_PS_forget_0 rfl rfl ?_
  refine ev_iconst (v := 0) d_PS_forget_1 rfl ?_
  refine es_putI d_PS_forget_2 f_PS_43 y_PS_known rfl rfl ⟨rfl, rfl⟩ ?_
  refine es_vret d_PS_forget_5 rfl ⟨Nat.zero_le _, Nat.zero_le _⟩ ⟨rfl, ?_⟩
  rfl
theorem c_PS_countPairs  : ez_Ct l G X_PS_countPairs [.ref 37] (es_H σ) (es_Q (es_I fun y σ' => y = σ 37 6 ∧ σ' = σ) es_no) := by
  refine es_Ct_of (ls := [some (.ref 37)]) ok_PS_countPairs rfl (Nat.le_of_ble_eq_true rfl) rfl ?_
  refine ev_aload_n (i := 0) d_PS_countPairs_0 rfl rfl ?_
  refine es_getI d_PS_countPairs_1 f_PS_24 rfl rfl ?_
  refine es_iret d_PS_countPairs_4 rfl ⟨Nat.zero_le _, Nat.zero_le _⟩ ⟨_, rfl, ?_⟩
  exact ⟨rfl, rfl⟩
theorem c_PS_countShown  : ez_Ct l G X_PS_countShown [.ref 37] (es_H σ) (es_Q (es_I fun y σ' => y = σ 37 7 ∧ σ' = σ) es_no) := by
  refine es_Ct_of (ls := [some (.ref 37)]) ok_PS_countShown rfl (Nat.le_of_ble_eq_true rfl) rfl ?_
  refine ev_aload_n (i := 0) d_PS_countShown_0 rfl rfl ?_
  refine es_getI d_PS_countShown_1 f_PS_28 rfl rfl ?_
  refine es_iret d_PS_countShown_4 rfl ⟨Nat.zero_le _, Nat.zero_le _⟩ ⟨_, rfl, ?_⟩
  exact ⟨rfl, rfl⟩
theorem c_PS_lastOuts {x : Int32} : ez_Ct l G X_PS_lastOuts [.ref 37, .int x] (es_H σ) (es_Q (es_I fun y σ' => y = (if x = 0 then σ 37 10 else σ 37 11) ∧ σ' = σ) es_no) := by
  refine es_Ct_of (ls := [some (.ref 37), some (.int x)]) ok_PS_lastOuts rfl (Nat.le_of_ble_eq_true rfl) rfl ?_
  refine ev_iload_n (i := 1) d_PS_lastOuts_0 rfl rfl ?_
  refine ev_if_ne d_PS_lastOuts_1 (fun h1 => ?_) (fun h1 => ?_)
  · refine ev_aload_n (i := 0) d_PS_lastOuts_11 rfl rfl ?_
    refine es_getI d_PS_lastOuts_12 f_PS_40 rfl rfl ?_
    refine es_iret d_PS_lastOuts_15 rfl ⟨Nat.zero_le _, Nat.zero_le _⟩ ⟨_, rfl, ?_⟩
    first | (rw [if_pos h1]; exact ⟨rfl, rfl⟩) | (rw [if_neg h1]; exact ⟨rfl, rfl⟩)
  · refine ev_aload_n (i := 0) d_PS_lastOuts_4 rfl rfl ?_
    refine es_getI d_PS_lastOuts_5 f_PS_37 rfl rfl ?_
    refine ev_goto d_PS_lastOuts_8 ?_
    refine es_iret d_PS_lastOuts_15 rfl ⟨Nat.zero_le _, Nat.zero_le _⟩ ⟨_, rfl, ?_⟩
    first | (rw [if_pos h1]; exact ⟨rfl, rfl⟩) | (rw [if_neg h1]; exact ⟨rfl, rfl⟩)
theorem c_PS_meet {N1 N2 : Nat} {A : ps_A} {Z : ps_Z} (hR : pc_R A Z σ) (hI : ps_I N1 N2 A Z) {a c f b : Nat} (ha : a < 32) (hc : c < 32) : ez_Ct l G X_PS_meet [.ref 37, .int (nI a), .int (nI c), .int (nI f), .int (nI b)] (es_H σ) (es_Q (es_V fun σ' => pc_R A (ps_meet Z (a * 32 + c) f b) σ' ∧ ∀ k, (k < 37 ∨ 41 < k) → σ' k = σ k) es_no) := by
  have hZ := hI.1.1
  have hca : (nI a).toNatClampNeg = a := nI_clamp (by omega)
  have hcz : (nI (zc Z)).toNatClampNeg = zc Z := nI_clamp (by omega)
  have h6c := hR.1
  have h7 := hR.2.2.2.2.2.2 a c ha hc
  refine es_Ct_of (ls := [some (.ref 37), some (.int (nI a)), some (.int (nI c)), some (.int (nI f)), some (.int (nI b)), none]) ok_PS_meet rfl (Nat.le_of_ble_eq_true rfl) rfl ?_
  refine ev_iload_n (i := 1) d_PS_meet_0 rfl rfl ?_
  refine ev_bipush (v := 32) d_PS_meet_1 rfl ?_
  refine es_cSI ls_PS_meet_3 d_PS_meet_3 c_EE_isWithin rfl rfl (Nat.le_of_ble_eq_true rfl) (fun x3 σ3 h3 => ?_) (fun _ _ h => h.elim)
  obtain ⟨rfl, e3⟩ := h3
  rw [e3]
  refine ev_if_eq d_PS_meet_6 (fun h6 => ?_) (fun h6 => ?_)
  · exact absurd h6 (by rw [show (32 : Int32) = nI 32 from rfl, ew_nI (by omega) (by omega), decide_eq_true ha]; decide)
  · refine ev_aload_n (i := 0) d_PS_meet_9 rfl rfl ?_
    refine es_getR d_PS_meet_10 f_PS_9 rfl rfl ?_
    refine ev_iload_n (i := 1) d_PS_meet_13 rfl rfl ?_
    refine es_iald d_PS_meet_14 rfl (ez_vinN (by omega) (by omega)) ?_
    refine ev_iload_n (i := 2) d_PS_meet_15 rfl rfl ?_
    refine es_cSI ls_PS_meet_16 d_PS_meet_16 c_EE_holds rfl rfl (Nat.le_of_ble_eq_true rfl) (fun x16 σ16 h16 => ?_) (fun _ _ h => h.elim)
    obtain ⟨rfl, e16⟩ := h16
    rw [e16]
    refine ev_if_ne d_PS_meet_19 (fun h19 => ?_) (fun h19 => ?_)
    · rw [hca, eh_nI _ (by omega), eb_0, Bool.not_eq_false] at h19
      have hs := h7.mp h19
      refine ev_iconst (v := 0) d_PS_meet_26 rfl ?_
      refine ev_istore d_PS_meet_27 (by decide) ?_
      dsimp only [List.set_cons_zero, List.set_cons_succ]
      refine ev_iload d_PS_meet_29 rfl ?_
      refine ev_if_eq d_PS_meet_31 (fun _ => ?_) (fun h => absurd h (by decide))
      refine es_vret d_PS_meet_103 rfl ⟨Nat.zero_le _, Nat.zero_le _⟩ ⟨rfl, ?_⟩
      first
        | exact ⟨by rw [ps_meet_old hs]; exact hR, fun _ _ => rfl⟩
        | (rw [ps_meet_new hs]
           exact ⟨pc_put hR hI ha hc, fun k hk => by rw [es_upf _ _ _ _ (by omega), es_upf _ _ _ _ (by omega), es_upf _ _ _ _ (by omega), es_upf _ _ _ _ (by omega), es_upf _ _ _ _ (by omega)]⟩)
    · rw [hca, eh_nI _ (by omega), eb_0] at h19
      have hs : ¬ zs Z (a * 32 + c) := fun h => by rw [h7.mpr h] at h19; cases h19
      have hroom := ps_room hI (show a * 32 + c < 1024 by omega) hs
      refine ev_iconst (v := 1) d_PS_meet_22 rfl ?_
      refine ev_goto d_PS_meet_23 ?_
      refine ev_istore d_PS_meet_27 (by decide) ?_
      dsimp only [List.set_cons_zero, List.set_cons_succ]
      refine ev_iload d_PS_meet_29 rfl ?_
      refine ev_if_eq d_PS_meet_31 (fun h => absurd h (by decide)) (fun _ => ?_)
      refine ev_aload_n (i := 0) d_PS_meet_34 rfl rfl ?_
      refine es_getI d_PS_meet_35 f_PS_24 rfl rfl ?_
      rw [h6c]
      refine ev_sipush (v := 1024) d_PS_meet_38 rfl ?_
      refine ev_icmp_ge d_PS_meet_41 (fun h41 => ?_) (fun h41 => ?_)
      · exact absurd h41 (by rw [show (1024 : Int32) = nI 1024 from rfl, nI_leI (by omega) (by omega)]; omega)
      · refine ev_aload_n (i := 0) d_PS_meet_44 rfl rfl ?_
        refine es_getR d_PS_meet_45 f_PS_9 rfl rfl ?_
        refine ev_iload_n (i := 1) d_PS_meet_48 rfl rfl ?_
        refine ev_dup2 d_PS_meet_49 rfl rfl ?_
        refine es_iald d_PS_meet_50 rfl (ez_vinN (by omega) (by omega)) ?_
        refine ev_iload_n (i := 2) d_PS_meet_51 rfl rfl ?_
        refine es_cSI ls_PS_meet_52 d_PS_meet_52 c_EE_bitOf rfl rfl (Nat.le_of_ble_eq_true rfl) (fun x52 σ52 h52 => ?_) (fun _ _ h => h.elim)
        obtain ⟨rfl, e52⟩ := h52
        rw [e52]
        refine ev_ior d_PS_meet_55 ?_
        refine es_iast d_PS_meet_56 rfl (ez_vinN (by omega) (by omega)) ?_
        rw [hca]
        refine ev_aload_n (i := 0) d_PS_meet_57 rfl rfl ?_
        refine es_getR d_PS_meet_58 f_PS_15 rfl rfl ?_
        refine ev_aload_n (i := 0) d_PS_meet_61 rfl rfl ?_
        refine es_getI d_PS_meet_62 f_PS_24 rfl rfl ?_
        rw [es_upf _ _ _ _ (show (37 : Nat) ≠ 38 by decide), h6c]
        refine ev_iload_n (i := 1) d_PS_meet_65 rfl rfl ?_
        refine ev_bipush (v := 32) d_PS_meet_66 rfl ?_
        refine ev_imul d_PS_meet_68 ?_
        refine ev_iload_n (i := 2) d_PS_meet_69 rfl rfl ?_
        refine ev_iadd d_PS_meet_70 ?_
        refine es_iast d_PS_meet_71 rfl (ez_vinN hroom (by omega)) ?_
        rw [hcz, show (32 : Int32) = nI 32 from rfl, nI_mul, nI_add]
        refine ev_aload_n (i := 0) d_PS_meet_72 rfl rfl ?_
        refine es_getR d_PS_meet_73 f_PS_18 rfl rfl ?_
        refine ev_aload_n (i := 0) d_PS_meet_76 rfl rfl ?_
        refine es_getI d_PS_meet_77 f_PS_24 rfl rfl ?_
        rw [es_upf _ _ _ _ (show (37 : Nat) ≠ 39 by decide), es_upf _ _ _ _ (show (37 : Nat) ≠ 38 by decide), h6c]
        refine ev_iload_n (i := 3) d_PS_meet_80 rfl rfl ?_
        refine es_iast d_PS_meet_81 rfl (ez_vinN hroom (by omega)) ?_
        rw [hcz]
        refine ev_aload_n (i := 0) d_PS_meet_82 rfl rfl ?_
        refine es_getR d_PS_meet_83 f_PS_21 rfl rfl ?_
        refine ev_aload_n (i := 0) d_PS_meet_86 rfl rfl ?_
        refine es_getI d_PS_meet_87 f_PS_24 rfl rfl ?_
        rw [es_upf _ _ _ _ (show (37 : Nat) ≠ 40 by decide), es_upf _ _ _ _ (show (37 : Nat) ≠ 39 by decide), es_upf _ _ _ _ (show (37 : Nat) ≠ 38 by decide), h6c]
        refine ev_iload d_PS_meet_90 rfl ?_
        refine es_iast d_PS_meet_92 rfl (ez_vinN hroom (by omega)) ?_
        rw [hcz]
        refine ev_aload_n (i := 0) d_PS_meet_93 rfl rfl ?_
        refine ev_dup d_PS_meet_94 rfl ?_
        refine es_getI d_PS_meet_95 f_PS_24 rfl rfl ?_
        rw [es_upf _ _ _ _ (show (37 : Nat) ≠ 41 by decide), es_upf _ _ _ _ (show (37 : Nat) ≠ 40 by decide), es_upf _ _ _ _ (show (37 : Nat) ≠ 39 by decide), es_upf _ _ _ _ (show (37 : Nat) ≠ 38 by decide), h6c]
        refine ev_iconst (v := 1) d_PS_meet_98 rfl ?_
        refine ev_iadd d_PS_meet_99 ?_
        rw [nI_1]
        refine es_putI d_PS_meet_100 f_PS_24 y_PS_pairCount rfl rfl ⟨rfl, rfl⟩ ?_
        refine es_vret d_PS_meet_103 rfl ⟨Nat.zero_le _, Nat.zero_le _⟩ ⟨rfl, ?_⟩
        first
          | exact ⟨by rw [ps_meet_old hs]; exact hR, fun _ _ => rfl⟩
          | (rw [ps_meet_new hs]
             exact ⟨pc_put hR hI ha hc, fun k hk => by rw [es_upf _ _ _ _ (by omega), es_upf _ _ _ _ (by omega), es_upf _ _ _ _ (by omega), es_upf _ _ _ _ (by omega), es_upf _ _ _ _ (by omega)]⟩)
theorem c_PS_placeBefore {i : Nat} (hi : i < 1024) : ez_Ct l G X_PS_placeBefore [.ref 37, .int (nI i)] (es_H σ) (es_Q (es_I fun y σ' => y = σ 40 i ∧ σ' = σ) es_no) := by
  refine es_Ct_of (ls := [some (.ref 37), some (.int (nI i))]) ok_PS_placeBefore rfl (Nat.le_of_ble_eq_true rfl) rfl ?_
  refine ev_iload_n (i := 1) d_PS_placeBefore_0 rfl rfl ?_
  refine ev_sipush (v := 1024) d_PS_placeBefore_1 rfl ?_
  refine es_cSI ls_PS_placeBefore_4 d_PS_placeBefore_4 c_EE_isWithin rfl rfl (Nat.le_of_ble_eq_true rfl) (fun x4 σ4 h4 => ?_) (fun _ _ h => h.elim)
  obtain ⟨rfl, e4⟩ := h4
  rw [e4]
  refine ev_if_eq d_PS_placeBefore_7 (fun h7 => ?_) (fun h7 => ?_)
  · exact absurd h7 (by rw [show (1024 : Int32) = nI 1024 from rfl, ew_nI (by omega) (by omega), decide_eq_true hi]; decide)
  · refine ev_aload_n (i := 0) d_PS_placeBefore_10 rfl rfl ?_
    refine es_getR d_PS_placeBefore_11 f_PS_18 rfl rfl ?_
    refine ev_iload_n (i := 1) d_PS_placeBefore_14 rfl rfl ?_
    refine es_iald d_PS_placeBefore_15 rfl (ez_vinN (by omega) (by omega)) ?_
    rw [nI_clamp (by omega)]
    refine ev_goto d_PS_placeBefore_16 ?_
    refine es_iret d_PS_placeBefore_20 rfl ⟨Nat.zero_le _, Nat.zero_le _⟩ ⟨_, rfl, ?_⟩
    exact ⟨rfl, rfl⟩
theorem lp_PS_keepShown_17 {f : Nat → Nat} {h r : Nat} (hh : h < 1024) (hf : ∀ i, 0 < i → i ≤ h → f i < i ∧ σ 40 i = nI (f i)) : ∀ (d : Nat) (a c : Nat) (σ1 : es_S), a = d → (a ≤ h ∧ c + a ≤ h + 1 ∧ c + ps_dep f a = ps_dep f h + 1 ∧ (∀ k, k ≠ 37 → σ1 k = σ k) ∧ σ1 37 7 = nI c ∧ σ1 37 8 = nI h ∧ σ1 37 9 = nI r ∧ ∀ j, j ≠ 7 → j ≠ 8 → j ≠ 9 → σ1 37 j = σ 37 j) → ez_Ev l G X_PS_keepShown 0 0 17 [some (.ref 37), some (.int (nI h)), some (.int (nI r)), some (.int (nI a))] [] (es_H σ1) (es_Q (es_V fun σ' => (∀ k, k ≠ 37 → σ' k = σ k) ∧ σ' 37 7 = nI (ps_dep f h + 1) ∧ σ' 37 8 = nI h ∧ σ' 37 9 = nI r ∧ ∀ j, j ≠ 7 → j ≠ 8 → j ≠ 9 → σ' 37 j = σ 37 j) es_no) := by
  intro d
  induction d using Nat.strongRecOn with
  | _ d ih =>
    intro a c σ1 hm hinv
    obtain ⟨ha, hca, hcd, hoff, h7, h8, h9, hj⟩ := hinv
    refine ev_iload_n (i := 3) d_PS_keepShown_17 rfl rfl ?_
    refine ev_if_le d_PS_keepShown_18 (fun h18 => ?_) (fun h18 => ?_)
    · rw [show (0 : Int32) = nI 0 from rfl, nI_leI (by omega) (by omega)] at h18
      have ha0 : a = 0 := by omega
      rw [ha0, ps_dep_0, Nat.add_zero] at hcd
      refine es_vret d_PS_keepShown_50 rfl ⟨Nat.zero_le _, Nat.zero_le _⟩ ⟨rfl, ?_⟩
      exact ⟨hoff, by rw [h7, hcd], h8, h9, hj⟩
    · rw [show (0 : Int32) = nI 0 from rfl, nI_leI (by omega) (by omega)] at h18
      refine ev_aload_n (i := 0) d_PS_keepShown_21 rfl rfl ?_
      refine es_getI d_PS_keepShown_22 f_PS_28 rfl rfl ?_
      rw [h7]
      refine ev_sipush (v := 1024) d_PS_keepShown_25 rfl ?_
      refine ev_icmp_ge d_PS_keepShown_28 (fun h28 => ?_) (fun h28 => ?_)
      · exact absurd h28 (by rw [show (1024 : Int32) = nI 1024 from rfl, nI_leI (by omega) (by omega)]; omega)
      · refine ev_aload_n (i := 0) d_PS_keepShown_31 rfl rfl ?_
        refine ev_dup d_PS_keepShown_32 rfl ?_
        refine es_getI d_PS_keepShown_33 f_PS_28 rfl rfl ?_
        rw [h7]
        refine ev_iconst (v := 1) d_PS_keepShown_36 rfl ?_
        refine ev_iadd d_PS_keepShown_37 ?_
        rw [nI_1]
        refine es_putI d_PS_keepShown_38 f_PS_28 y_PS_shownCount rfl rfl ⟨rfl, rfl⟩ ?_
        refine ev_aload_n (i := 0) d_PS_keepShown_41 rfl rfl ?_
        refine ev_iload_n (i := 3) d_PS_keepShown_42 rfl rfl ?_
        refine es_cVI ls_PS_keepShown_43 d_PS_keepShown_43 rfl (c_PS_placeBefore (show a < 1024 by omega)) rfl rfl (Nat.le_of_ble_eq_true rfl) (fun x43 σ43 h43 => ?_) (fun _ _ h => h.elim)
        obtain ⟨rfl, e43⟩ := h43
        rw [e43, es_upf _ _ _ _ (show (40 : Nat) ≠ 37 by decide), hoff 40 (by decide), (hf a (by omega) ha).2]
        refine ev_istore_n (i := 3) d_PS_keepShown_46 rfl (by decide) ?_
        dsimp only [List.set_cons_zero, List.set_cons_succ]
        refine ev_goto d_PS_keepShown_47 ?_
        have hfa := hf a (by omega) ha
        have hds := ps_dep_s (f := f) (k := a) (by omega) (fun i i1 i2 => (hf i i1 (by omega)).1)
        refine ih _ (by omega) (f a) (c + 1) _ rfl ⟨by omega, by omega, by omega, fun k hk => by rw [es_upf _ _ _ _ hk]; exact hoff k hk, by simp [es_upx], by simp [es_upx, h8], by simp [es_upx, h9], fun j j1 j2 j3 => by simp [es_upx, j1, hj j j1 j2 j3]⟩
theorem c_PS_keepShown {f : Nat → Nat} {h r : Nat} (hh : h < 1024) (hf : ∀ i, 0 < i → i ≤ h → f i < i ∧ σ 40 i = nI (f i)) : ez_Ct l G X_PS_keepShown [.ref 37, .int (nI h), .int (nI r)] (es_H σ) (es_Q (es_V fun σ' => (∀ k, k ≠ 37 → σ' k = σ k) ∧ σ' 37 7 = nI (ps_dep f h + 1) ∧ σ' 37 8 = nI h ∧ σ' 37 9 = nI r ∧ ∀ j, j ≠ 7 → j ≠ 8 → j ≠ 9 → σ' 37 j = σ 37 j) es_no) := by
  refine es_Ct_of (ls := [some (.ref 37), some (.int (nI h)), some (.int (nI r)), none]) ok_PS_keepShown rfl (Nat.le_of_ble_eq_true rfl) rfl ?_
  refine ev_aload_n (i := 0) d_PS_keepShown_0 rfl rfl ?_
  refine ev_iload_n (i := 1) d_PS_keepShown_1 rfl rfl ?_
  refine es_putI d_PS_keepShown_2 f_PS_31 y_PS_shownFrom rfl rfl ⟨rfl, rfl⟩ ?_
  refine ev_aload_n (i := 0) d_PS_keepShown_5 rfl rfl ?_
  refine ev_iload_n (i := 2) d_PS_keepShown_6 rfl rfl ?_
  refine es_putI d_PS_keepShown_7 f_PS_34 y_PS_shownLast rfl rfl ⟨rfl, rfl⟩ ?_
  refine ev_aload_n (i := 0) d_PS_keepShown_10 rfl rfl ?_
  refine ev_iconst (v := 1) d_PS_keepShown_11 rfl ?_
  refine es_putI d_PS_keepShown_12 f_PS_28 y_PS_shownCount rfl rfl ⟨rfl, rfl⟩ ?_
  refine ev_iload_n (i := 1) d_PS_keepShown_15 rfl rfl ?_
  refine ev_istore_n (i := 3) d_PS_keepShown_16 rfl (by decide) ?_
  dsimp only [List.set_cons_zero, List.set_cons_succ]
  refine lp_PS_keepShown_17 hh hf _ h 1 _ rfl ⟨Nat.le_refl _, by omega, by omega, fun k hk => by rw [es_upf _ _ _ _ hk, es_upf _ _ _ _ hk, es_upf _ _ _ _ hk], by simp [es_upx]; rfl, by simp [es_upx], by simp [es_upx], fun j j1 j2 j3 => by simp [es_upx, j1, j2, j3]⟩
theorem lp_PS_shownRow_27 {N1 N2 : Nat} {A : ps_A} {Z : ps_Z} (hR : pc_R A Z σ) (hI : ps_I N1 N2 A Z) {x y k : Nat} (hd : zd Z = some (x, y)) (hk : k < ps_n Z) (hkn : ¬ ps_n Z ≤ k + 1) : ∀ (d : Nat) (j : Nat), ps_n Z - j = d → (j ≤ ps_n Z - 2 - k) → ez_Ev l G X_PS_shownRow 0 0 27 [some (.ref 37), some (.int (nI k)), some (.int (nI (ps_anc (zf Z) x j))), some (.int (nI (ps_n Z - 2 - j)))] [] (es_H σ) (es_Q (es_I fun v σ' => v = nI (ps_row Z k) ∧ σ' = σ) es_no) := by
  intro d
  induction d using Nat.strongRecOn with
  | _ d ih =>
    intro j hm hj
    have hx := (hI.2.2.2 x y hd).1
    have hZ := hI.1.1
    have hn : ps_n Z = ps_dep (zf Z) x + 1 := by unfold ps_n; rw [hd]
    have hfx : ∀ i, 0 < i → i ≤ x → zf Z i < i := fun i i1 i2 => hI.2.2.1 i i1 (by omega)
    have hle := ps_dep_le x hfx
    have han := ps_anc_dep hfx j (by omega)
    have hpos : 0 < ps_anc (zf Z) x j := ps_dep_pos (fun i i1 i2 => hfx i i1 (by omega)) (by omega)
    have hcell := hR.2.2.2.2.2.1 _ hpos (show ps_anc (zf Z) x j < zc Z by omega)
    refine ev_iload_n (i := 3) d_PS_shownRow_27 rfl rfl ?_
    refine ev_iload_n (i := 1) d_PS_shownRow_28 rfl rfl ?_
    refine ev_icmp_le d_PS_shownRow_29 (fun h29 => ?_) (fun h29 => ?_)
    · rw [nI_leI (by omega) (by omega)] at h29
      refine ev_iload_n (i := 2) d_PS_shownRow_44 rfl rfl ?_
      refine ev_sipush (v := 1024) d_PS_shownRow_45 rfl ?_
      refine es_cSI ls_PS_shownRow_48 d_PS_shownRow_48 c_EE_isWithin rfl rfl (Nat.le_of_ble_eq_true rfl) (fun x48 σ48 h48 => ?_) (fun _ _ h => h.elim)
      obtain ⟨rfl, e48⟩ := h48
      rw [e48]
      refine ev_if_eq d_PS_shownRow_51 (fun h51 => ?_) (fun h51 => ?_)
      · exact absurd h51 (by rw [show (1024 : Int32) = nI 1024 from rfl, ew_nI (by omega) (by omega), decide_eq_true (show ps_anc (zf Z) x j < 1024 by omega)]; decide)
      · refine ev_aload_n (i := 0) d_PS_shownRow_54 rfl rfl ?_
        refine es_getR d_PS_shownRow_55 f_PS_21 rfl rfl ?_
        refine ev_iload_n (i := 2) d_PS_shownRow_58 rfl rfl ?_
        refine es_iald d_PS_shownRow_59 rfl (ez_vinN (by omega) (by omega)) ?_
        rw [nI_clamp (by omega), hcell.2]
        refine ev_goto d_PS_shownRow_60 ?_
        refine es_iret d_PS_shownRow_64 rfl ⟨Nat.zero_le _, Nat.zero_le _⟩ ⟨_, rfl, ?_⟩
        refine ⟨?_, rfl⟩
        unfold ps_row
        rw [hd]
        simp only
        rw [if_neg hkn, show j = ps_n Z - 2 - k by omega]
    · rw [nI_leI (by omega) (by omega)] at h29
      refine ev_aload_n (i := 0) d_PS_shownRow_32 rfl rfl ?_
      refine ev_iload_n (i := 2) d_PS_shownRow_33 rfl rfl ?_
      refine es_cVI ls_PS_shownRow_34 d_PS_shownRow_34 rfl (c_PS_placeBefore (show ps_anc (zf Z) x j < 1024 by omega)) rfl rfl (Nat.le_of_ble_eq_true rfl) (fun x34 σ34 h34 => ?_) (fun _ _ h => h.elim)
      obtain ⟨rfl, e34⟩ := h34
      rw [e34, hcell.1]
      refine ev_istore_n (i := 2) d_PS_shownRow_37 rfl (by decide) ?_
      dsimp only [List.set_cons_zero, List.set_cons_succ]
      refine ev_iinc d_PS_shownRow_38 rfl (show nI (ps_n Z - 2 - j) + Int32.ofInt (-1) = nI (ps_n Z - 2 - (j + 1)) from by rw [show Int32.ofInt (-1) = -1 from rfl, sb_m1 (by omega)]; congr 1) (by decide) ?_
      dsimp only [List.set_cons_zero, List.set_cons_succ]
      refine ev_goto d_PS_shownRow_41 ?_
      exact ih _ (by omega) (j + 1) rfl (by omega)
theorem c_PS_shownRow {N1 N2 : Nat} {A : ps_A} {Z : ps_Z} (hR : pc_R A Z σ) (hI : ps_I N1 N2 A Z) {x y k : Nat} (hd : zd Z = some (x, y)) (hk : k < ps_n Z) : ez_Ct l G X_PS_shownRow [.ref 37, .int (nI k)] (es_H σ) (es_Q (es_I fun v σ' => v = nI (ps_row Z k) ∧ σ' = σ) es_no) := by
  have hx := (hI.2.2.2 x y hd).1
  have hZ := hI.1.1
  have hn : ps_n Z = ps_dep (zf Z) x + 1 := by unfold ps_n; rw [hd]
  have hfx : ∀ i, 0 < i → i ≤ x → zf Z i < i := fun i i1 i2 => hI.2.2.1 i i1 (by omega)
  have hle := ps_dep_le x hfx
  have h7c := hR.2.1
  have h89 := hR.2.2.1 x y hd
  refine es_Ct_of (ls := [some (.ref 37), some (.int (nI k)), none, none]) ok_PS_shownRow rfl (Nat.le_of_ble_eq_true rfl) rfl ?_
  refine ev_iload_n (i := 1) d_PS_shownRow_0 rfl rfl ?_
  refine ev_aload_n (i := 0) d_PS_shownRow_1 rfl rfl ?_
  refine es_getI d_PS_shownRow_2 f_PS_28 rfl rfl ?_
  refine ev_iconst (v := 1) d_PS_shownRow_5 rfl ?_
  refine ev_isub d_PS_shownRow_6 ?_
  rw [h7c, show (1 : Int32) = nI 1 from rfl, nI_sub (by omega)]
  refine ev_icmp_lt d_PS_shownRow_7 (fun h7 => ?_) (fun h7 => ?_)
  · rw [nI_ltI (by omega) (by omega)] at h7
    refine ev_aload_n (i := 0) d_PS_shownRow_15 rfl rfl ?_
    refine es_getI d_PS_shownRow_16 f_PS_31 rfl rfl ?_
    rw [h89.1]
    refine ev_istore_n (i := 2) d_PS_shownRow_19 rfl (by decide) ?_
    dsimp only [List.set_cons_zero, List.set_cons_succ]
    refine ev_aload_n (i := 0) d_PS_shownRow_20 rfl rfl ?_
    refine es_getI d_PS_shownRow_21 f_PS_28 rfl rfl ?_
    refine ev_iconst (v := 2) d_PS_shownRow_24 rfl ?_
    refine ev_isub d_PS_shownRow_25 ?_
    rw [h7c, show (2 : Int32) = nI 2 from rfl, nI_sub (by omega)]
    refine ev_istore_n (i := 3) d_PS_shownRow_26 rfl (by decide) ?_
    dsimp only [List.set_cons_zero, List.set_cons_succ]
    exact lp_PS_shownRow_27 hR hI hd hk (by omega) _ 0 rfl (by omega)
  · rw [nI_ltI (by omega) (by omega)] at h7
    refine ev_aload_n (i := 0) d_PS_shownRow_10 rfl rfl ?_
    refine es_getI d_PS_shownRow_11 f_PS_34 rfl rfl ?_
    rw [h89.2]
    refine es_iret d_PS_shownRow_14 rfl ⟨Nat.zero_le _, Nat.zero_le _⟩ ⟨_, rfl, ?_⟩
    refine ⟨?_, rfl⟩
    unfold ps_row
    rw [hd]
    simp only
    rw [if_pos (by omega)]
end
