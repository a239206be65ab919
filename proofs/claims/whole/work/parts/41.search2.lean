/-! ===== PairSearch: going on ===== -/
section
variable {l : Launch} {G : ez_G} {σ : es_S}
/-- a behaviour's tables -/
def tT (ou nx : Nat → Nat → Nat) (op : Nat → Prop) (d b : Nat) (σ : es_S) : Prop := σ b 10 = nI (2 ^ d) ∧ ∀ s r, s < 2 ^ d → op r → σ (b + 3) (r * 32 + s) = nI (ou s r) ∧ σ (b + 4) (r * 32 + s) = nI (nx s r)
def ps_T (A : ps_A) (d1 d2 : Nat) (σ : es_S) : Prop := tT (po1 A) (pn1 A) (pop A) d1 19 σ ∧ tT (po2 A) (pn2 A) (pop A) d2 28 σ
theorem ps_T_off {A : ps_A} {d1 d2 : Nat} {σ σ' : es_S} (h : ps_T A d1 d2 σ) (hs : ∀ k, k < 37 → σ' k = σ k) : ps_T A d1 d2 σ' := by
  unfold ps_T tT
  rw [hs 19 (by omega), hs (19 + 3) (by omega), hs (19 + 4) (by omega), hs 28 (by omega), hs (28 + 3) (by omega), hs (28 + 4) (by omega)]
  exact h
theorem pc_mark {A : ps_A} {Z : ps_Z} {σ σ' : es_S} (h : pc_R A Z σ) {a r : Nat} (hk : ∀ k, k ≠ 37 → σ' k = σ k) (h6 : σ' 37 6 = σ 37 6) (h7 : σ' 37 7 = nI (ps_dep (zf Z) a + 1)) (h8 : σ' 37 8 = nI a) (h9 : σ' 37 9 = nI r) (h10 : σ' 37 10 = nI (po1 A (zq Z a / 32) r)) (h11 : σ' 37 11 = nI (po2 A (zq Z a % 32) r)) : pc_R A (ps_mark Z a r) σ' := by
  obtain ⟨g1, g2, g3, g4, g5, g6, g7⟩ := h
  refine ⟨h6.trans g1, h7, fun x y hd => ?_, ⟨h10, h11⟩, ?_, ?_, ?_⟩
  · have e : some (a, r) = some (x, y) := hd
    injection e with e
    injection e with e1 e2
    rw [← e1, ← e2]
    exact ⟨h8, h9⟩
  · rw [hk 39 (by decide)]; exact g5
  · rw [hk 40 (by decide), hk 41 (by decide)]; exact g6
  · rw [hk 38 (by decide)]; exact g7
theorem ps_n0 {Z : ps_Z} : ps_n Z = 0 ↔ zd Z = none := by
  unfold ps_n
  cases hd : zd Z with
  | none => simp
  | some ab => simp
theorem ps_n_le {N1 N2 : Nat} {A : ps_A} {Z : ps_Z} (hI : ps_I N1 N2 A Z) : ps_n Z ≤ 1024 := by
  unfold ps_n
  cases hd : zd Z with
  | none => simp
  | some ab =>
    obtain ⟨a, b⟩ := ab
    have ha := (hI.2.2.2 a b hd).1
    have := ps_dep_le (f := zf Z) a (fun i i1 i2 => hI.2.2.1 i i1 (by omega))
    have := hI.1.1
    simp only
    omega
theorem lp_PS_goOnFrom_24 {A : ps_A} {d1 d2 : Nat} (hd1 : d1 ≤ 5) (hd2 : d2 ≤ 5) (hn1 : ∀ s r, pn1 A s r < 2 ^ d1) (hn2 : ∀ s r, pn2 A s r < 2 ^ d2) (ho1 : ∀ s r, po1 A s r < 8) (ho2 : ∀ s r, po2 A s r < 8) (hop : ∀ r, pop A r → r < 16) {O : Int32} (hO : ∀ r, r < 16 → (bt O r = true ↔ pop A r)) (hT : ps_T A d1 d2 σ) {Z : ps_Z} (hI : ps_I (2 ^ d1) (2 ^ d2) A Z) {h : Nat} (hh : h < zc Z) : ∀ (d : Nat) (r : Nat) (σ1 : es_S), 16 - r = d → (r ≤ 16 ∧ pc_R A (ps_rows A h Z r) σ1 ∧ ∀ k, (k < 37 ∨ 41 < k) → σ1 k = σ k) → ez_Ev l G X_PS_goOnFrom 0 0 24 [some (.ref 37), some (.int (nI h)), some (.int O), some (.int (nI (zq Z h / 32))), some (.int (nI (zq Z h % 32))), some (.int (nI r))] [] (es_H σ1) (es_Q (es_V fun σ' => pc_R A (ps_rows A h Z 16) σ' ∧ ∀ k, (k < 37 ∨ 41 < k) → σ' k = σ k) es_no) := by
  intro d
  induction d using Nat.strongRecOn with
  | _ d ih =>
    intro r σ1 hm hinv
    obtain ⟨hr, hR1, hoff⟩ := hinv
    have h32 : 2 ^ d1 ≤ 2 ^ 5 := Nat.pow_le_pow_right (by omega) hd1
    have h33 : 2 ^ d2 ≤ 2 ^ 5 := Nat.pow_le_pow_right (by omega) hd2
    have hT1 : ps_T A d1 d2 σ1 := ps_T_off hT (fun k hk => hoff k (by omega))
    have hZr := ps_rows_I (by omega) (by omega) hn1 hn2 hI hh r
    have hqe := hZr.2.2 h hh
    have hq1 := (hI.2.1 h hh).1
    have hq2 := (hI.2.1 h hh).2
    have hnl := ps_n_le hZr.1
    have hZl := hZr.1.1.1
    refine ev_iload d_PS_goOnFrom_24 rfl ?_
    refine ev_bipush (v := 16) d_PS_goOnFrom_26 rfl ?_
    refine ev_icmp_ge d_PS_goOnFrom_28 (fun h28 => ?_) (fun h28 => ?_)
    · rw [show (16 : Int32) = nI 16 from rfl, nI_leI (by omega) (by omega)] at h28
      refine es_vret d_PS_goOnFrom_141 rfl ⟨Nat.zero_le _, Nat.zero_le _⟩ ⟨rfl, ?_⟩
      rw [show r = 16 by omega] at hR1
      exact ⟨hR1, hoff⟩
    · rw [show (16 : Int32) = nI 16 from rfl, nI_leI (by omega) (by omega), Nat.not_le] at h28
      refine ev_iload_n (i := 2) d_PS_goOnFrom_31 rfl rfl ?_
      refine ev_iload d_PS_goOnFrom_32 rfl ?_
      refine es_cSI ls_PS_goOnFrom_34 d_PS_goOnFrom_34 c_EE_holds rfl rfl (Nat.le_of_ble_eq_true rfl) (fun x34 σ34 h34 => ?_) (fun _ _ h => h.elim)
      obtain ⟨rfl, e34⟩ := h34
      rw [e34]
      refine ev_if_eq d_PS_goOnFrom_37 (fun h37 => ?_) (fun h37 => ?_)
      · rw [eh_nI _ (by omega), eb_0] at h37
        have hno : ¬ pop A r := fun g => by have := (hO r h28).mpr g; rw [h37] at this; cases this
        refine ev_iinc d_PS_goOnFrom_135 rfl (ez_inc _) (by decide) ?_
        dsimp only [List.set_cons_zero, List.set_cons_succ]
        refine ev_goto d_PS_goOnFrom_138 ?_
        first
          | (refine ih _ (by omega) (r + 1) σ1 rfl ⟨by omega, ?_, hoff⟩
             show pc_R A (ps_step A h r (ps_rows A h Z r)) σ1
             rw [ps_step_f hno]; exact hR1)
          | (refine ih _ (by omega) (r + 1) σ132 rfl ⟨by omega, ?_, fun k hk => by rw [m2 k hk]; exact hox k hk⟩
             show pc_R A (ps_step A h r (ps_rows A h Z r)) σ132
             rw [ps_step_t hyes]; unfold ps_to; rw [hqe]; exact m1)
      · rw [eh_nI _ (by omega), eb_0, Bool.not_eq_false] at h37
        have hyes := (hO r h28).mp h37
        have g1 := ho1 (zq Z h / 32) r
        have g2 := ho2 (zq Z h % 32) r
        have g3 := hn1 (zq Z h / 32) r
        have g4 := hn2 (zq Z h % 32) r
        refine ev_aload_n (i := 0) d_PS_goOnFrom_40 rfl rfl ?_
        refine es_getI d_PS_goOnFrom_41 f_PS_28 rfl rfl ?_
        refine ev_if_ne d_PS_goOnFrom_44 (fun h44 => ?_) (fun h44 => ?_)
        · rw [hR1.2.1, show (0 : Int32) = nI 0 from rfl, nI_eq (by omega) (by omega), ps_n0] at h44
          have hdn : ¬ ps_dif A h r (ps_rows A h Z r) := fun g => h44 g.1
          have hRd : pc_R A (ps_diff A h r (ps_rows A h Z r)) σ1 := by rw [ps_diff_f hdn]; exact hR1
          have hTx := hT1
          have hox : ∀ k, (k < 37 ∨ 41 < k) → σ1 k = σ k := hoff
          refine ev_aload_n (i := 0) d_PS_goOnFrom_107 rfl rfl ?_
          refine ev_aload_n (i := 0) d_PS_goOnFrom_108 rfl rfl ?_
          refine es_getR d_PS_goOnFrom_109 f_PS_47 rfl rfl ?_
          refine ev_iload_n (i := 3) d_PS_goOnFrom_112 rfl rfl ?_
          refine ev_iload d_PS_goOnFrom_113 rfl ?_
          refine es_cVI ls_PS_goOnFrom_115 d_PS_goOnFrom_115 rfl (c_BH_stateAfter sb19 h28 (by omega) hd1 hTx.1.1) rfl rfl (Nat.le_of_ble_eq_true rfl) (fun x115 σ115 h115 => ?_) (fun _ _ h => h.elim)
          obtain ⟨rfl, e115⟩ := h115
          rw [e115, Nat.mod_eq_of_lt hq1, (hTx.1.2 _ _ hq1 hyes).2]
          refine ev_aload_n (i := 0) d_PS_goOnFrom_118 rfl rfl ?_
          refine es_getR d_PS_goOnFrom_119 f_PS_51 rfl rfl ?_
          refine ev_iload d_PS_goOnFrom_122 rfl ?_
          refine ev_iload d_PS_goOnFrom_124 rfl ?_
          refine es_cVI ls_PS_goOnFrom_126 d_PS_goOnFrom_126 rfl (c_BH_stateAfter sb28 h28 (by omega) hd2 hTx.2.1) rfl rfl (Nat.le_of_ble_eq_true rfl) (fun x126 σ126 h126 => ?_) (fun _ _ h => h.elim)
          obtain ⟨rfl, e126⟩ := h126
          rw [e126, Nat.mod_eq_of_lt hq2, (hTx.2.2 _ _ hq2 hyes).2]
          refine ev_iload_n (i := 1) d_PS_goOnFrom_129 rfl rfl ?_
          refine ev_iload d_PS_goOnFrom_130 rfl ?_
          refine es_cVV ls_PS_goOnFrom_132 d_PS_goOnFrom_132 rfl (c_PS_meet hRd (ps_I_diff hZr.1 (show h < zc (ps_rows A h Z r) by omega) hyes).1 (show pn1 A (zq Z h / 32) r < 32 by omega) (show pn2 A (zq Z h % 32) r < 32 by omega)) rfl rfl (Nat.le_of_ble_eq_true rfl) (fun σ132 h132 => ?_) (fun _ _ h => h.elim)
          obtain ⟨m1, m2⟩ := h132
          refine ev_iinc d_PS_goOnFrom_135 rfl (ez_inc _) (by decide) ?_
          dsimp only [List.set_cons_zero, List.set_cons_succ]
          refine ev_goto d_PS_goOnFrom_138 ?_
          first
            | (refine ih _ (by omega) (r + 1) σ1 rfl ⟨by omega, ?_, hoff⟩
               show pc_R A (ps_step A h r (ps_rows A h Z r)) σ1
               rw [ps_step_f hno]; exact hR1)
            | (refine ih _ (by omega) (r + 1) σ132 rfl ⟨by omega, ?_, fun k hk => by rw [m2 k hk]; exact hox k hk⟩
               show pc_R A (ps_step A h r (ps_rows A h Z r)) σ132
               rw [ps_step_t hyes]; unfold ps_to; rw [hqe]; exact m1)
        · rw [hR1.2.1, show (0 : Int32) = nI 0 from rfl, nI_eq (by omega) (by omega), ps_n0] at h44
          refine ev_aload_n (i := 0) d_PS_goOnFrom_47 rfl rfl ?_
          refine es_getR d_PS_goOnFrom_48 f_PS_47 rfl rfl ?_
          refine ev_iload_n (i := 3) d_PS_goOnFrom_51 rfl rfl ?_
          refine ev_iload d_PS_goOnFrom_52 rfl ?_
          refine es_cVI ls_PS_goOnFrom_54 d_PS_goOnFrom_54 rfl (c_BH_outsOf sb19 h28 (by omega) hd1 hT1.1.1) rfl rfl (Nat.le_of_ble_eq_true rfl) (fun x54 σ54 h54 => ?_) (fun _ _ h => h.elim)
          obtain ⟨rfl, e54⟩ := h54
          rw [e54, Nat.mod_eq_of_lt hq1, (hT1.1.2 _ _ hq1 hyes).1]
          refine ev_aload_n (i := 0) d_PS_goOnFrom_57 rfl rfl ?_
          refine es_getR d_PS_goOnFrom_58 f_PS_51 rfl rfl ?_
          refine ev_iload d_PS_goOnFrom_61 rfl ?_
          refine ev_iload d_PS_goOnFrom_63 rfl ?_
          refine es_cVI ls_PS_goOnFrom_65 d_PS_goOnFrom_65 rfl (c_BH_outsOf sb28 h28 (by omega) hd2 hT1.2.1) rfl rfl (Nat.le_of_ble_eq_true rfl) (fun x65 σ65 h65 => ?_) (fun _ _ h => h.elim)
          obtain ⟨rfl, e65⟩ := h65
          rw [e65, Nat.mod_eq_of_lt hq2, (hT1.2.2 _ _ hq2 hyes).1]
          refine ev_icmp_eq d_PS_goOnFrom_68 (fun h68 => ?_) (fun h68 => ?_)
          · rw [nI_eq (by omega) (by omega)] at h68
            have hdn : ¬ ps_dif A h r (ps_rows A h Z r) := fun g => g.2 (by rw [hqe]; exact h68)
            have hRd : pc_R A (ps_diff A h r (ps_rows A h Z r)) σ1 := by rw [ps_diff_f hdn]; exact hR1
            have hTx := hT1
            have hox : ∀ k, (k < 37 ∨ 41 < k) → σ1 k = σ k := hoff
            refine ev_aload_n (i := 0) d_PS_goOnFrom_107 rfl rfl ?_
            refine ev_aload_n (i := 0) d_PS_goOnFrom_108 rfl rfl ?_
            refine es_getR d_PS_goOnFrom_109 f_PS_47 rfl rfl ?_
            refine ev_iload_n (i := 3) d_PS_goOnFrom_112 rfl rfl ?_
            refine ev_iload d_PS_goOnFrom_113 rfl ?_
            refine es_cVI ls_PS_goOnFrom_115 d_PS_goOnFrom_115 rfl (c_BH_stateAfter sb19 h28 (by omega) hd1 hTx.1.1) rfl rfl (Nat.le_of_ble_eq_true rfl) (fun x115 σ115 h115 => ?_) (fun _ _ h => h.elim)
            obtain ⟨rfl, e115⟩ := h115
            rw [e115, Nat.mod_eq_of_lt hq1, (hTx.1.2 _ _ hq1 hyes).2]
            refine ev_aload_n (i := 0) d_PS_goOnFrom_118 rfl rfl ?_
            refine es_getR d_PS_goOnFrom_119 f_PS_51 rfl rfl ?_
            refine ev_iload d_PS_goOnFrom_122 rfl ?_
            refine ev_iload d_PS_goOnFrom_124 rfl ?_
            refine es_cVI ls_PS_goOnFrom_126 d_PS_goOnFrom_126 rfl (c_BH_stateAfter sb28 h28 (by omega) hd2 hTx.2.1) rfl rfl (Nat.le_of_ble_eq_true rfl) (fun x126 σ126 h126 => ?_) (fun _ _ h => h.elim)
            obtain ⟨rfl, e126⟩ := h126
            rw [e126, Nat.mod_eq_of_lt hq2, (hTx.2.2 _ _ hq2 hyes).2]
            refine ev_iload_n (i := 1) d_PS_goOnFrom_129 rfl rfl ?_
            refine ev_iload d_PS_goOnFrom_130 rfl ?_
            refine es_cVV ls_PS_goOnFrom_132 d_PS_goOnFrom_132 rfl (c_PS_meet hRd (ps_I_diff hZr.1 (show h < zc (ps_rows A h Z r) by omega) hyes).1 (show pn1 A (zq Z h / 32) r < 32 by omega) (show pn2 A (zq Z h % 32) r < 32 by omega)) rfl rfl (Nat.le_of_ble_eq_true rfl) (fun σ132 h132 => ?_) (fun _ _ h => h.elim)
            obtain ⟨m1, m2⟩ := h132
            refine ev_iinc d_PS_goOnFrom_135 rfl (ez_inc _) (by decide) ?_
            dsimp only [List.set_cons_zero, List.set_cons_succ]
            refine ev_goto d_PS_goOnFrom_138 ?_
            first
              | (refine ih _ (by omega) (r + 1) σ1 rfl ⟨by omega, ?_, hoff⟩
                 show pc_R A (ps_step A h r (ps_rows A h Z r)) σ1
                 rw [ps_step_f hno]; exact hR1)
              | (refine ih _ (by omega) (r + 1) σ132 rfl ⟨by omega, ?_, fun k hk => by rw [m2 k hk]; exact hox k hk⟩
                 show pc_R A (ps_step A h r (ps_rows A h Z r)) σ132
                 rw [ps_step_t hyes]; unfold ps_to; rw [hqe]; exact m1)
          · rw [nI_eq (by omega) (by omega)] at h68
            have hdy : ps_dif A h r (ps_rows A h Z r) := ⟨h44, by rw [hqe]; exact h68⟩
            refine ev_aload_n (i := 0) d_PS_goOnFrom_71 rfl rfl ?_
            refine ev_aload_n (i := 0) d_PS_goOnFrom_72 rfl rfl ?_
            refine es_getR d_PS_goOnFrom_73 f_PS_47 rfl rfl ?_
            refine ev_iload_n (i := 3) d_PS_goOnFrom_76 rfl rfl ?_
            refine ev_iload d_PS_goOnFrom_77 rfl ?_
            refine es_cVI ls_PS_goOnFrom_79 d_PS_goOnFrom_79 rfl (c_BH_outsOf sb19 h28 (by omega) hd1 hT1.1.1) rfl rfl (Nat.le_of_ble_eq_true rfl) (fun x79 σ79 h79 => ?_) (fun _ _ h => h.elim)
            obtain ⟨rfl, e79⟩ := h79
            rw [e79, Nat.mod_eq_of_lt hq1, (hT1.1.2 _ _ hq1 hyes).1]
            refine es_putI d_PS_goOnFrom_82 f_PS_37 y_PS_firstOuts rfl rfl ⟨rfl, rfl⟩ ?_
            refine ev_aload_n (i := 0) d_PS_goOnFrom_85 rfl rfl ?_
            refine ev_aload_n (i := 0) d_PS_goOnFrom_86 rfl rfl ?_
            refine es_getR d_PS_goOnFrom_87 f_PS_51 rfl rfl ?_
            refine ev_iload d_PS_goOnFrom_90 rfl ?_
            refine ev_iload d_PS_goOnFrom_92 rfl ?_
            refine es_cVI ls_PS_goOnFrom_94 d_PS_goOnFrom_94 rfl (c_BH_outsOf sb28 h28 (by omega) hd2 (ps_T_off hT1 (fun k hk => es_upf _ _ _ _ (by omega)) : ps_T A d1 d2 (es_up σ1 37 10 (nI (po1 A (zq Z h / 32) r)))).2.1) rfl rfl (Nat.le_of_ble_eq_true rfl) (fun x94 σ94 h94 => ?_) (fun _ _ h => h.elim)
            obtain ⟨rfl, e94⟩ := h94
            rw [e94, Nat.mod_eq_of_lt hq2, ((ps_T_off hT1 (fun k hk => es_upf _ _ _ _ (by omega)) : ps_T A d1 d2 (es_up σ1 37 10 (nI (po1 A (zq Z h / 32) r)))).2.2 _ _ hq2 hyes).1]
            refine es_putI d_PS_goOnFrom_97 f_PS_40 y_PS_secondOuts rfl rfl ⟨rfl, rfl⟩ ?_
            refine ev_aload_n (i := 0) d_PS_goOnFrom_100 rfl rfl ?_
            refine ev_iload_n (i := 1) d_PS_goOnFrom_101 rfl rfl ?_
            refine ev_iload d_PS_goOnFrom_102 rfl ?_
            refine es_cVV ls_PS_goOnFrom_104 d_PS_goOnFrom_104 rfl (c_PS_keepShown (f := zf (ps_rows A h Z r)) (show h < 1024 by omega) (fun i i1 i2 => ⟨hZr.1.2.2.1 i i1 (by omega), by rw [es_upf _ _ _ _ (by omega), es_upf _ _ _ _ (by omega)]; exact (hR1.2.2.2.2.2.1 i i1 (by omega)).1⟩)) rfl rfl (Nat.le_of_ble_eq_true rfl) (fun σ104 h104 => ?_) (fun _ _ h => h.elim)
            obtain ⟨k1, k2, k3, k4, k5⟩ := h104
            have hRd : pc_R A (ps_diff A h r (ps_rows A h Z r)) σ104 := by
              rw [ps_diff_t hdy]
              exact pc_mark hR1 (fun k hk => by rw [k1 k hk, es_upf _ _ _ _ hk, es_upf _ _ _ _ hk]) (by rw [k5 6 (by decide) (by decide) (by decide)]; simp [es_upx]) k2 k3 k4 (by rw [k5 10 (by decide) (by decide) (by decide), hqe]; simp [es_upx]) (by rw [k5 11 (by decide) (by decide) (by decide), hqe]; simp [es_upx])
            have hox : ∀ k, (k < 37 ∨ 41 < k) → σ104 k = σ k := fun k hk => by rw [k1 k (by omega), es_upf _ _ _ _ (by omega), es_upf _ _ _ _ (by omega)]; exact hoff k hk
            have hTx : ps_T A d1 d2 σ104 := ps_T_off hT (fun k hk => hox k (by omega))
            refine ev_aload_n (i := 0) d_PS_goOnFrom_107 rfl rfl ?_
            refine ev_aload_n (i := 0) d_PS_goOnFrom_108 rfl rfl ?_
            refine es_getR d_PS_goOnFrom_109 f_PS_47 rfl rfl ?_
            refine ev_iload_n (i := 3) d_PS_goOnFrom_112 rfl rfl ?_
            refine ev_iload d_PS_goOnFrom_113 rfl ?_
            refine es_cVI ls_PS_goOnFrom_115 d_PS_goOnFrom_115 rfl (c_BH_stateAfter sb19 h28 (by omega) hd1 hTx.1.1) rfl rfl (Nat.le_of_ble_eq_true rfl) (fun x115 σ115 h115 => ?_) (fun _ _ h => h.elim)
            obtain ⟨rfl, e115⟩ := h115
            rw [e115, Nat.mod_eq_of_lt hq1, (hTx.1.2 _ _ hq1 hyes).2]
            refine ev_aload_n (i := 0) d_PS_goOnFrom_118 rfl rfl ?_
            refine es_getR d_PS_goOnFrom_119 f_PS_51 rfl rfl ?_
            refine ev_iload d_PS_goOnFrom_122 rfl ?_
            refine ev_iload d_PS_goOnFrom_124 rfl ?_
            refine es_cVI ls_PS_goOnFrom_126 d_PS_goOnFrom_126 rfl (c_BH_stateAfter sb28 h28 (by omega) hd2 hTx.2.1) rfl rfl (Nat.le_of_ble_eq_true rfl) (fun x126 σ126 h126 => ?_) (fun _ _ h => h.elim)
            obtain ⟨rfl, e126⟩ := h126
            rw [e126, Nat.mod_eq_of_lt hq2, (hTx.2.2 _ _ hq2 hyes).2]
            refine ev_iload_n (i := 1) d_PS_goOnFrom_129 rfl rfl ?_
            refine ev_iload d_PS_goOnFrom_130 rfl ?_
            refine es_cVV ls_PS_goOnFrom_132 d_PS_goOnFrom_132 rfl (c_PS_meet hRd (ps_I_diff hZr.1 (show h < zc (ps_rows A h Z r) by omega) hyes).1 (show pn1 A (zq Z h / 32) r < 32 by omega) (show pn2 A (zq Z h % 32) r < 32 by omega)) rfl rfl (Nat.le_of_ble_eq_true rfl) (fun σ132 h132 => ?_) (fun _ _ h => h.elim)
            obtain ⟨m1, m2⟩ := h132
            refine ev_iinc d_PS_goOnFrom_135 rfl (ez_inc _) (by decide) ?_
            dsimp only [List.set_cons_zero, List.set_cons_succ]
            refine ev_goto d_PS_goOnFrom_138 ?_
            first
              | (refine ih _ (by omega) (r + 1) σ1 rfl ⟨by omega, ?_, hoff⟩
                 show pc_R A (ps_step A h r (ps_rows A h Z r)) σ1
                 rw [ps_step_f hno]; exact hR1)
              | (refine ih _ (by omega) (r + 1) σ132 rfl ⟨by omega, ?_, fun k hk => by rw [m2 k hk]; exact hox k hk⟩
                 show pc_R A (ps_step A h r (ps_rows A h Z r)) σ132
                 rw [ps_step_t hyes]; unfold ps_to; rw [hqe]; exact m1)
theorem c_PS_goOnFrom {A : ps_A} {d1 d2 : Nat} (hd1 : d1 ≤ 5) (hd2 : d2 ≤ 5) (hn1 : ∀ s r, pn1 A s r < 2 ^ d1) (hn2 : ∀ s r, pn2 A s r < 2 ^ d2) (ho1 : ∀ s r, po1 A s r < 8) (ho2 : ∀ s r, po2 A s r < 8) (hop : ∀ r, pop A r → r < 16) {O : Int32} (hO : ∀ r, r < 16 → (bt O r = true ↔ pop A r)) (hT : ps_T A d1 d2 σ) {Z : ps_Z} (hI : ps_I (2 ^ d1) (2 ^ d2) A Z) {h : Nat} (hh : h < zc Z) (hR : pc_R A Z σ) : ez_Ct l G X_PS_goOnFrom [.ref 37, .int (nI h), .int O] (es_H σ) (es_Q (es_V fun σ' => pc_R A (ps_rows A h Z 16) σ' ∧ ∀ k, (k < 37 ∨ 41 < k) → σ' k = σ k) es_no) := by
  have h32 : 2 ^ d1 ≤ 2 ^ 5 := Nat.pow_le_pow_right (by omega) hd1
  have h33 : 2 ^ d2 ≤ 2 ^ 5 := Nat.pow_le_pow_right (by omega) hd2
  have hZl := hI.1.1
  have hq1 := (hI.2.1 h hh).1
  have hq2 := (hI.2.1 h hh).2
  have hqc := hR.2.2.2.2.1 h hh
  have hch : (nI h).toNatClampNeg = h := nI_clamp (by omega)
  refine es_Ct_of (ls := [some (.ref 37), some (.int (nI h)), some (.int O), none, none, none]) ok_PS_goOnFrom rfl (Nat.le_of_ble_eq_true rfl) rfl ?_
  refine ev_aload_n (i := 0) d_PS_goOnFrom_0 rfl rfl ?_
  refine es_getR d_PS_goOnFrom_1 f_PS_15 rfl rfl ?_
  refine ev_iload_n (i := 1) d_PS_goOnFrom_4 rfl rfl ?_
  refine es_iald d_PS_goOnFrom_5 rfl (ez_vinN (by omega) (by omega)) ?_
  rw [hch, hqc]
  refine ev_bipush (v := 32) d_PS_goOnFrom_6 rfl ?_
  refine ev_idiv d_PS_goOnFrom_8 (by decide) ?_
  rw [show (32 : Int32) = nI 32 from rfl, pk_div (by omega) (by omega) (by omega)]
  refine ev_istore_n (i := 3) d_PS_goOnFrom_9 rfl (by decide) ?_
  dsimp only [List.set_cons_zero, List.set_cons_succ]
  refine ev_aload_n (i := 0) d_PS_goOnFrom_10 rfl rfl ?_
  refine es_getR d_PS_goOnFrom_11 f_PS_15 rfl rfl ?_
  refine ev_iload_n (i := 1) d_PS_goOnFrom_14 rfl rfl ?_
  refine es_iald d_PS_goOnFrom_15 rfl (ez_vinN (by omega) (by omega)) ?_
  rw [hch, hqc]
  refine ev_bipush (v := 32) d_PS_goOnFrom_16 rfl ?_
  refine ev_irem d_PS_goOnFrom_18 (by decide) ?_
  rw [show (32 : Int32) = nI 32 from rfl, pk_rem (by omega) (by omega) (by omega)]
  refine ev_istore d_PS_goOnFrom_19 (by decide) ?_
  dsimp only [List.set_cons_zero, List.set_cons_succ]
  refine ev_iconst (v := 0) d_PS_goOnFrom_21 rfl ?_
  refine ev_istore d_PS_goOnFrom_22 (by decide) ?_
  dsimp only [List.set_cons_zero, List.set_cons_succ]
  exact lp_PS_goOnFrom_24 hd1 hd2 hn1 hn2 ho1 ho2 hop hO hT hI hh _ 0 σ rfl ⟨by omega, hR, fun _ _ => rfl⟩
theorem pc_0 (A : ps_A) (σ : es_S) : pc_R A ps_ze (es_up (es_up (es_up (es_up (es_arr σ 38 (fun j => if j < 32 then 0 else σ 38 j)) 37 6 0) 37 7 0) 37 10 (-1)) 37 11 (-1)) := by
  refine ⟨by simp [es_upx]; rfl, by simp [es_upx]; rfl, fun a b hd => ?_, ⟨by simp [es_upx]; rfl, by simp [es_upx]; rfl⟩, fun i hi => absurd hi (Nat.not_lt_zero _), fun i _ hi => absurd hi (Nat.not_lt_zero _), fun a c ha hc => ⟨fun g => by simp [es_upx, es_arr, ha, b_0] at g, fun g => absurd g (ps_ze_s _)⟩⟩
  have e : (none : Option (Nat × Nat)) = some (a, b) := hd
  cases e
theorem lp_PS_learn_46 {A : ps_A} {d1 d2 : Nat} (hd1 : d1 ≤ 5) (hd2 : d2 ≤ 5) (hn1 : ∀ s r, pn1 A s r < 2 ^ d1) (hn2 : ∀ s r, pn2 A s r < 2 ^ d2) (ho1 : ∀ s r, po1 A s r < 8) (ho2 : ∀ s r, po2 A s r < 8) (hop : ∀ r, pop A r → r < 16) {O : Int32} (hO : ∀ r, r < 16 → (bt O r = true ↔ pop A r)) (hT : ps_T A d1 d2 σ) : ∀ (d : Nat) (h : Nat) (σ1 : es_S), 1024 - h = d → (h ≤ zc (ps_at A h) ∧ (∀ g, g < h → g < zc (ps_at A g)) ∧ pc_R A (ps_at A h) σ1 ∧ ∀ k, (k < 37 ∨ 41 < k) → σ1 k = σ k) → ez_Ev l G X_PS_learn 0 0 46 [some (.ref 37), some (.int O), some (.int (nI h))] [] (es_H σ1) (es_Q (es_V fun σ' => (∃ h, ps_fin A h ∧ pc_R A (ps_at A h) σ') ∧ σ' 37 12 = 1 ∧ ∀ k, (k < 37 ∨ 41 < k) → σ' k = σ k) es_no) := by
  intro d
  induction d using Nat.strongRecOn with
  | _ d ih =>
    intro h σ1 hm hinv
    obtain ⟨hhc, hg, hR1, hoff⟩ := hinv
    have h32 : 2 ^ d1 ≤ 2 ^ 5 := Nat.pow_le_pow_right (by omega) hd1
    have h33 : 2 ^ d2 ≤ 2 ^ 5 := Nat.pow_le_pow_right (by omega) hd2
    have hI := (ps_at_I (by omega) (by omega) hn1 hn2 h hg).1
    have hZl := hI.1.1
    refine ev_iload_n (i := 2) d_PS_learn_46 rfl rfl ?_
    refine ev_aload_n (i := 0) d_PS_learn_47 rfl rfl ?_
    refine es_getI d_PS_learn_48 f_PS_24 rfl rfl ?_
    rw [hR1.1]
    refine ev_icmp_ge d_PS_learn_51 (fun h51 => ?_) (fun h51 => ?_)
    · rw [nI_leI (by omega) (by omega)] at h51
      refine ev_aload_n (i := 0) d_PS_learn_73 rfl rfl ?_
      refine ev_iconst (v := 1) d_PS_learn_74 rfl ?_
      refine es_putI d_PS_learn_75 f_PS_43 y_PS_known rfl rfl ⟨rfl, rfl⟩ ?_
      refine es_vret d_PS_learn_78 rfl ⟨Nat.zero_le _, Nat.zero_le _⟩ ⟨rfl, ?_⟩
      refine ⟨⟨h, ⟨h51, hg⟩, ?_⟩, by simp [es_upx], fun k hk => by rw [es_upf _ _ _ _ (by omega)]; exact hoff k hk⟩
      obtain ⟨g1, g2, g3, g4, g5, g6, g7⟩ := hR1
      exact ⟨by simp [es_upx, g1], by simp [es_upx, g2], fun a b hd => by have := g3 a b hd; simp [es_upx, this], by simp [es_upx, g4], by simp only [es_upf _ _ _ _ (show (39 : Nat) ≠ 37 by decide)]; exact g5, by simp only [es_upf _ _ _ _ (show (40 : Nat) ≠ 37 by decide), es_upf _ _ _ _ (show (41 : Nat) ≠ 37 by decide)]; exact g6, by simp only [es_upf _ _ _ _ (show (38 : Nat) ≠ 37 by decide)]; exact g7⟩
    · rw [nI_leI (by omega) (by omega), Nat.not_le] at h51
      refine ev_iload_n (i := 2) d_PS_learn_54 rfl rfl ?_
      refine ev_sipush (v := 1024) d_PS_learn_55 rfl ?_
      refine ev_icmp_ge d_PS_learn_58 (fun h58 => ?_) (fun h58 => ?_)
      · exact absurd h58 (by rw [show (1024 : Int32) = nI 1024 from rfl, nI_leI (by omega) (by omega)]; omega)
      · refine ev_aload_n (i := 0) d_PS_learn_61 rfl rfl ?_
        refine ev_iload_n (i := 2) d_PS_learn_62 rfl rfl ?_
        refine ev_iload_n (i := 1) d_PS_learn_63 rfl rfl ?_
        refine es_cVV ls_PS_learn_64 d_PS_learn_64 rfl (c_PS_goOnFrom hd1 hd2 hn1 hn2 ho1 ho2 hop hO (ps_T_off hT (fun k hk => hoff k (by omega))) hI h51 hR1) rfl rfl (Nat.le_of_ble_eq_true rfl) (fun σ64 h64 => ?_) (fun _ _ h => h.elim)
        obtain ⟨m1, m2⟩ := h64
        refine ev_iinc d_PS_learn_67 rfl (ez_inc _) (by decide) ?_
        dsimp only [List.set_cons_zero, List.set_cons_succ]
        refine ev_goto d_PS_learn_70 ?_
        have hmo := (ps_rows_I (by omega) (by omega) hn1 hn2 hI h51 16).2.1
        refine ih _ (by omega) (h + 1) σ64 rfl ⟨?_, fun g hgl => ?_, m1, fun k hk => by rw [m2 k hk]; exact hoff k hk⟩
        · show h + 1 ≤ zc (ps_rows A h (ps_at A h) 16)
          omega
        · by_cases hgh : g = h
          · rw [hgh]; exact h51
          · exact hg g (by omega)
theorem c_PS_learn {A : ps_A} {d1 d2 : Nat} (hd1 : d1 ≤ 5) (hd2 : d2 ≤ 5) (hn1 : ∀ s r, pn1 A s r < 2 ^ d1) (hn2 : ∀ s r, pn2 A s r < 2 ^ d2) (ho1 : ∀ s r, po1 A s r < 8) (ho2 : ∀ s r, po2 A s r < 8) (hop : ∀ r, pop A r → r < 16) {O : Int32} (hO : ∀ r, r < 16 → (bt O r = true ↔ pop A r)) (hT : ps_T A d1 d2 σ) (hkn : σ 37 12 = 0 ∨ (σ 37 12 = 1 ∧ ∃ h, ps_fin A h ∧ pc_R A (ps_at A h) σ)) : ez_Ct l G X_PS_learn [.ref 37, .int O] (es_H σ) (es_Q (es_V fun σ' => (∃ h, ps_fin A h ∧ pc_R A (ps_at A h) σ') ∧ σ' 37 12 = 1 ∧ ∀ k, (k < 37 ∨ 41 < k) → σ' k = σ k) es_no) := by
  refine es_Ct_of (ls := [some (.ref 37), some (.int O), none]) ok_PS_learn rfl (Nat.le_of_ble_eq_true rfl) rfl ?_
  refine ev_aload_n (i := 0) d_PS_learn_0 rfl rfl ?_
  refine es_getI d_PS_learn_1 f_PS_43 rfl rfl ?_
  refine ev_if_eq d_PS_learn_4 (fun h4 => ?_) (fun h4 => ?_)
  · refine ev_aload_n (i := 0) d_PS_learn_8 rfl rfl ?_
    refine es_getR d_PS_learn_9 f_PS_9 rfl rfl ?_
    refine ev_iconst (v := 0) d_PS_learn_12 rfl ?_
    refine es_cSV ls_PS_learn_13 d_PS_learn_13 (c_JA_fill (k := 38) (n := 32) rfl (by decide)) rfl rfl (Nat.le_of_ble_eq_true rfl) (fun σ13 h13 => ?_) (fun _ _ h => h.elim)
    subst h13
    refine ev_aload_n (i := 0) d_PS_learn_16 rfl rfl ?_
    refine ev_iconst (v := 0) d_PS_learn_17 rfl ?_
    refine es_putI d_PS_learn_18 f_PS_24 y_PS_pairCount rfl rfl ⟨rfl, rfl⟩ ?_
    refine ev_aload_n (i := 0) d_PS_learn_21 rfl rfl ?_
    refine ev_iconst (v := 0) d_PS_learn_22 rfl ?_
    refine es_putI d_PS_learn_23 f_PS_28 y_PS_shownCount rfl rfl ⟨rfl, rfl⟩ ?_
    refine ev_aload_n (i := 0) d_PS_learn_26 rfl rfl ?_
    refine ev_iconst (v := (-1)) d_PS_learn_27 rfl ?_
    refine es_putI d_PS_learn_28 f_PS_37 y_PS_firstOuts rfl rfl ⟨rfl, rfl⟩ ?_
    refine ev_aload_n (i := 0) d_PS_learn_31 rfl rfl ?_
    refine ev_iconst (v := (-1)) d_PS_learn_32 rfl ?_
    refine es_putI d_PS_learn_33 f_PS_40 y_PS_secondOuts rfl rfl ⟨rfl, rfl⟩ ?_
    refine ev_aload_n (i := 0) d_PS_learn_36 rfl rfl ?_
    refine ev_iconst (v := 0) d_PS_learn_37 rfl ?_
    refine ev_iconst (v := 0) d_PS_learn_38 rfl ?_
    refine ev_iconst (v := 0) d_PS_learn_39 rfl ?_
    refine ev_iconst (v := 0) d_PS_learn_40 rfl ?_
    refine es_cVV ls_PS_learn_41 d_PS_learn_41 rfl (c_PS_meet (a := 0) (c := 0) (f := 0) (b := 0) (pc_0 A σ) (ps_I_e (N1 := 2 ^ d1) (N2 := 2 ^ d2)) (by decide) (by decide)) rfl rfl (Nat.le_of_ble_eq_true rfl) (fun σ41 h41 => ?_) (fun _ _ h => h.elim)
    obtain ⟨m1, m2⟩ := h41
    rw [ps_meet_new (ps_ze_s _)] at m1
    refine ev_iconst (v := 0) d_PS_learn_44 rfl ?_
    refine ev_istore_n (i := 2) d_PS_learn_45 rfl (by decide) ?_
    dsimp only [List.set_cons_zero, List.set_cons_succ]
    refine lp_PS_learn_46 hd1 hd2 hn1 hn2 ho1 ho2 hop hO hT _ 0 σ41 rfl ⟨Nat.zero_le _, fun g hg => absurd hg (Nat.not_lt_zero _), m1, fun k hk => ?_⟩
    rw [m2 k hk, es_upf _ _ _ _ (by omega), es_upf _ _ _ _ (by omega), es_upf _ _ _ _ (by omega), es_upf _ _ _ _ (by omega)]
    exact if_neg (by omega)
  · have hk1 : σ 37 12 = 1 ∧ ∃ h, ps_fin A h ∧ pc_R A (ps_at A h) σ := hkn.elim (fun g => absurd g h4) id
    refine es_vret d_PS_learn_7 rfl ⟨Nat.zero_le _, Nat.zero_le _⟩ ⟨rfl, ?_⟩
    exact ⟨hk1.2, hk1.1, fun _ _ => rfl⟩
end
