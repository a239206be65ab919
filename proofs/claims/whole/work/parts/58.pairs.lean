/-! ===== Model: the search over pairs ===== -/
section
variable {l : Launch} {G : ez_G} {σ : es_S}
/-- the model's cells of the search -/
def qR (Z : ps_Z) (σ : es_S) : Prop := σ 46 14 = nI (zc Z) ∧ σ 46 19 = en ((zd Z).map Prod.fst) ∧ (∀ a b, zd Z = some (a, b) → σ 46 20 = nI b) ∧ (∀ i, i < zc Z → σ 59 i = nI (zq Z i)) ∧ (∀ i, 0 < i → i < zc Z → σ 60 i = nI (zf Z i) ∧ σ 61 i = nI (zb Z i)) ∧ (0 < zc Z → σ 60 0 = -1) ∧ (∀ k, k < 1024 → σ 62 k = eb (bd (zs Z k)))
theorem qR_off {Z : ps_Z} {σ σ' : es_S} (h : qR Z σ) (h46 : ∀ j, 14 ≤ j → σ' 46 j = σ 46 j) (hs : ∀ k, 59 ≤ k → k ≤ 62 → σ' k = σ k) : qR Z σ' := by
  unfold qR
  rw [h46 14 (by omega), h46 19 (by omega), h46 20 (by omega), hs 59 (by omega) (by omega), hs 60 (by omega) (by omega), hs 61 (by omega) (by omega), hs 62 (by omega) (by omega)]
  exact h
theorem qR_put {N1 N2 : Nat} {A : ps_A} {Z : ps_Z} {σ : es_S} (h : qR Z σ) (hI : ps_I N1 N2 A Z) {p nf nb : Nat} {f b : Int32} (h0 : zc Z = 0 → f = -1) (h1 : 0 < zc Z → f = nI nf ∧ b = nI nb) : qR (ps_put Z p nf nb) (es_up (es_up (es_up (es_up (es_up σ 62 p 1) 59 (zc Z) (nI p)) 60 (zc Z) f) 61 (zc Z) b) 46 14 (nI (zc Z + 1))) := by
  obtain ⟨g1, g2, g3, g4, g5, g6, g7⟩ := h
  refine ⟨by simp [es_upx]; rfl, by simp [es_upx, g2]; rfl, fun x y hd => by have := g3 x y hd; simp [es_upx, this], fun i hi => ?_, fun i i1 i2 => ?_, fun _ => ?_, fun k hk => ?_⟩
  · change i < zc Z + 1 at hi
    show _ = nI (if i = zc Z then p else zq Z i)
    by_cases hc : i = zc Z
    · simp [es_upx, hc]
    · simp [es_upx, hc, g4 i (by omega)]
  · change i < zc Z + 1 at i2
    show _ = nI (if i = zc Z then nf else zf Z i) ∧ _ = nI (if i = zc Z then nb else zb Z i)
    by_cases hc : i = zc Z
    · have := h1 (by omega)
      simp [es_upx, hc, this]
    · simp [es_upx, hc, g5 i i1 (by omega)]
  · by_cases hc : zc Z = 0
    · simp [es_upx, hc, h0 hc]
    · have e1 : ¬ 0 = zc Z := fun q => hc q.symm
      simp [es_upx, e1, g6 (by omega)]
  · by_cases hkp : k = p
    · rw [bd_t.mpr ((ps_put_s Z p nf nb k).mpr (Or.inr hkp))]
      simp [es_upx, hkp]
      rfl
    · have e1 : bd (zs (ps_put Z p nf nb) k) = bd (zs Z k) := by
        cases hq : bd (zs Z k) with
        | true => exact bd_t.mpr ((ps_put_s Z p nf nb k).mpr (Or.inl (bd_t.mp hq)))
        | false => exact bd_f.mpr (fun q => ((ps_put_s Z p nf nb k).mp q).elim (bd_f.mp hq) hkp)
      rw [e1]
      simp [es_upx, hkp, g7 k hk]
theorem qR_mark {Z : ps_Z} {σ : es_S} (h : qR Z σ) (a r : Nat) : qR (ps_mark Z a r) (es_up (es_up σ 46 19 (nI a)) 46 20 (nI r)) := by
  obtain ⟨g1, g2, g3, g4, g5, g6, g7⟩ := h
  refine ⟨by simp [es_upx, g1]; rfl, by simp [es_upx]; rfl, fun x y hd => ?_, ?_, ?_, ?_, ?_⟩
  · have e : some (a, r) = some (x, y) := hd
    injection e with e
    injection e with e1 e2
    rw [← e2]
    simp [es_upx]
  · simp only [es_upf _ _ _ _ (show (59 : Nat) ≠ 46 by decide)]; exact g4
  · simp only [es_upf _ _ _ _ (show (60 : Nat) ≠ 46 by decide), es_upf _ _ _ _ (show (61 : Nat) ≠ 46 by decide)]; exact g5
  · simp only [es_upf _ _ _ _ (show (60 : Nat) ≠ 46 by decide)]; exact g6
  · simp only [es_upf _ _ _ _ (show (62 : Nat) ≠ 46 by decide)]; exact g7
theorem c_MD_meet {N1 N2 : Nat} {A : ps_A} {Z : ps_Z} (hR : qR Z σ) (hI : ps_I N1 N2 A Z) {p nf nb : Nat} {f b : Int32} (hp : p < 1024) (h0 : zc Z = 0 → f = -1) (h1 : 0 < zc Z → f = nI nf ∧ b = nI nb) : ez_Ct l G X_MD_meet [.ref 46, .int (nI p), .int f, .int b] (es_H σ) (es_Q (es_V fun σ' => qR (ps_meet Z p nf nb) σ' ∧ (∀ k, k ≠ 46 → k ≠ 59 → k ≠ 60 → k ≠ 61 → k ≠ 62 → σ' k = σ k) ∧ ∀ j, j < 14 → σ' 46 j = σ 46 j) es_no) := by
  have hZ := hI.1.1
  have hcp : (nI p).toNatClampNeg = p := nI_clamp (by omega)
  have hcz : (nI (zc Z)).toNatClampNeg = zc Z := nI_clamp (by omega)
  have hc14 := hR.1
  have h62 := hR.2.2.2.2.2.2 p hp
  refine es_Ct_of (ls := [some (.ref 46), some (.int (nI p)), some (.int f), some (.int b)]) ok_MD_meet rfl (Nat.le_of_ble_eq_true rfl) rfl ?_
  refine ev_aload_n (i := 0) d_MD_meet_0 rfl rfl ?_
  refine es_getR d_MD_meet_1 f_MD_56 rfl rfl ?_
  refine ev_iload_n (i := 1) d_MD_meet_4 rfl rfl ?_
  refine es_zald d_MD_meet_5 rfl (ez_vinN (by omega) (by omega)) ?_
  rw [hcp, h62]
  refine ev_if_ne d_MD_meet_6 (fun h6 => ?_) (fun h6 => ?_)
  · rw [eb_0, Bool.not_eq_false, bd_t] at h6
    refine es_vret d_MD_meet_56 rfl ⟨Nat.zero_le _, Nat.zero_le _⟩ ⟨rfl, ?_⟩
    first
      | exact ⟨by rw [ps_meet_old h6]; exact hR, fun _ _ _ _ _ _ => rfl, fun _ _ => rfl⟩
      | (rw [ps_meet_new h6]
         exact ⟨qR_put hR hI h0 h1, fun k k1 k2 k3 k4 k5 => by rw [es_upf _ _ _ _ k1, es_upf _ _ _ _ k4, es_upf _ _ _ _ k3, es_upf _ _ _ _ k2, es_upf _ _ _ _ k5], fun j hj => by rw [es_upx, if_pos rfl, if_neg (by omega), es_upf _ _ _ _ (by decide), es_upf _ _ _ _ (by decide), es_upf _ _ _ _ (by decide), es_upf _ _ _ _ (by decide)]⟩)
  · rw [eb_0, bd_f] at h6
    have hroom := ps_room hI hp h6
    refine ev_aload_n (i := 0) d_MD_meet_9 rfl rfl ?_
    refine es_getR d_MD_meet_10 f_MD_56 rfl rfl ?_
    refine ev_iload_n (i := 1) d_MD_meet_13 rfl rfl ?_
    refine ev_iconst (v := 1) d_MD_meet_14 rfl ?_
    refine es_zast d_MD_meet_15 rfl (ez_vinN (by omega) (by omega)) ?_
    rw [hcp, show vp_nar .boolean 1 = 1 from rfl]
    refine ev_aload_n (i := 0) d_MD_meet_16 rfl rfl ?_
    refine es_getR d_MD_meet_17 f_MD_47 rfl rfl ?_
    refine ev_aload_n (i := 0) d_MD_meet_20 rfl rfl ?_
    refine es_getI d_MD_meet_21 f_MD_129 rfl rfl ?_
    rw [es_upf _ _ _ _ (show (46 : Nat) ≠ 62 by decide), hc14]
    refine ev_iload_n (i := 1) d_MD_meet_24 rfl rfl ?_
    refine es_iast d_MD_meet_25 rfl (ez_vinN (by omega) (by omega)) ?_
    rw [hcz]
    refine ev_aload_n (i := 0) d_MD_meet_26 rfl rfl ?_
    refine es_getR d_MD_meet_27 f_MD_50 rfl rfl ?_
    refine ev_aload_n (i := 0) d_MD_meet_30 rfl rfl ?_
    refine es_getI d_MD_meet_31 f_MD_129 rfl rfl ?_
    rw [es_upf _ _ _ _ (show (46 : Nat) ≠ 59 by decide), es_upf _ _ _ _ (show (46 : Nat) ≠ 62 by decide), hc14]
    refine ev_iload_n (i := 2) d_MD_meet_34 rfl rfl ?_
    refine es_iast d_MD_meet_35 rfl (ez_vinN (by omega) (by omega)) ?_
    rw [hcz]
    refine ev_aload_n (i := 0) d_MD_meet_36 rfl rfl ?_
    refine es_getR d_MD_meet_37 f_MD_53 rfl rfl ?_
    refine ev_aload_n (i := 0) d_MD_meet_40 rfl rfl ?_
    refine es_getI d_MD_meet_41 f_MD_129 rfl rfl ?_
    rw [es_upf _ _ _ _ (show (46 : Nat) ≠ 60 by decide), es_upf _ _ _ _ (show (46 : Nat) ≠ 59 by decide), es_upf _ _ _ _ (show (46 : Nat) ≠ 62 by decide), hc14]
    refine ev_iload_n (i := 3) d_MD_meet_44 rfl rfl ?_
    refine es_iast d_MD_meet_45 rfl (ez_vinN (by omega) (by omega)) ?_
    rw [hcz]
    refine ev_aload_n (i := 0) d_MD_meet_46 rfl rfl ?_
    refine ev_dup d_MD_meet_47 rfl ?_
    refine es_getI d_MD_meet_48 f_MD_129 rfl rfl ?_
    rw [es_upf _ _ _ _ (show (46 : Nat) ≠ 61 by decide), es_upf _ _ _ _ (show (46 : Nat) ≠ 60 by decide), es_upf _ _ _ _ (show (46 : Nat) ≠ 59 by decide), es_upf _ _ _ _ (show (46 : Nat) ≠ 62 by decide), hc14]
    refine ev_iconst (v := 1) d_MD_meet_51 rfl ?_
    refine ev_iadd d_MD_meet_52 ?_
    rw [nI_1]
    refine es_putI d_MD_meet_53 f_MD_129 y_MD_pairCount rfl rfl ⟨rfl, rfl⟩ ?_
    refine es_vret d_MD_meet_56 rfl ⟨Nat.zero_le _, Nat.zero_le _⟩ ⟨rfl, ?_⟩
    first
      | exact ⟨by rw [ps_meet_old h6]; exact hR, fun _ _ _ _ _ _ => rfl, fun _ _ => rfl⟩
      | (rw [ps_meet_new h6]
         exact ⟨qR_put hR hI h0 h1, fun k k1 k2 k3 k4 k5 => by rw [es_upf _ _ _ _ k1, es_upf _ _ _ _ k4, es_upf _ _ _ _ k3, es_upf _ _ _ _ k2, es_upf _ _ _ _ k5], fun j hj => by rw [es_upx, if_pos rfl, if_neg (by omega), es_upf _ _ _ _ (by decide), es_upf _ _ _ _ (by decide), es_upf _ _ _ _ (by decide), es_upf _ _ _ _ (by decide)]⟩)
theorem lp_MD_goOver_61 {S : sp_S} (hm : rm S σ) (hbo : sBoth S) (hx0 : xt (s0 S) (sP S) 0 σ) (hx1 : xt (s1 S) (sP S) 1 σ) {Qv : es_S → Prop} (hQ : ∀ σ', (qR (sZ S) σ' ∧ ps_I (2 ^ em_dl (s0 S) (em_n (s0 S))) (2 ^ em_dl (s1 S) (em_n (s1 S))) (sA S) (sZ S) ∧ xt (s0 S) (sP S) 0 σ' ∧ xt (s1 S) (sP S) 1 σ' ∧ (∀ k, k ≠ 46 → k ≠ 59 → k ≠ 60 → k ≠ 61 → k ≠ 62 → σ' k = σ k) ∧ ∀ j, j < 14 → σ' 46 j = σ 46 j) → Qv σ') {Z : ps_Z} (hI : ps_I (2 ^ em_dl (s0 S) (em_n (s0 S))) (2 ^ em_dl (s1 S) (em_n (s1 S))) (sA S) Z) {h : Nat} (hh : h < zc Z) (hex : ∀ σ1 : es_S, qR (ps_rows (sA S) h Z 16) σ1 → ((∀ k, k ≠ 46 → k ≠ 59 → k ≠ 60 → k ≠ 61 → k ≠ 62 → σ1 k = σ k) ∧ ∀ j, j < 14 → σ1 46 j = σ 46 j) → ez_Ev l G X_MD_goOver 0 0 188 [some (.ref 46), some (.int (nI h)), none, none, none] [] (es_H σ1) (es_Q (es_V Qv) es_no)) : ∀ (d : Nat) (r : Nat) (σ1 : es_S), 16 - r = d → (r ≤ 2 ^ sP S ∧ qR (ps_rows (sA S) h Z r) σ1 ∧ ((∀ k, k ≠ 46 → k ≠ 59 → k ≠ 60 → k ≠ 61 → k ≠ 62 → σ1 k = σ k) ∧ ∀ j, j < 14 → σ1 46 j = σ 46 j)) → ez_Ev l G X_MD_goOver 0 0 61 [some (.ref 46), some (.int (nI h)), some (.int (nI r)), none, none] [] (es_H σ1) (es_Q (es_V Qv) es_no) := by
  intro d
  induction d using Nat.strongRecOn with
  | _ d ih =>
    intro r σ1 hmm hinv
    obtain ⟨hr, hR1, hoff⟩ := hinv
    have hlt := sA_lt S hm.1
    have hN1 : 2 ^ em_dl (s0 S) (em_n (s0 S)) ≤ 2 ^ 5 := Nat.pow_le_pow_right (by omega) hm.1.2.1.2.2.2.2.2.2
    have hN2 : 2 ^ em_dl (s1 S) (em_n (s1 S)) ≤ 2 ^ 5 := Nat.pow_le_pow_right (by omega) hm.1.2.2.2.2.2.2.2.2
    have hP16 := rm_P hm
    have hP4 := hm.1.1.2
    have hZr := ps_rows_I (by omega) (by omega) hlt.1 hlt.2.1 hI hh r
    have hqe := hZr.2.2 h hh
    have hq1 := (hI.2.1 h hh).1
    have hq2 := (hI.2.1 h hh).2
    have hZl := hZr.1.1.1
    have hch : (nI h).toNatClampNeg = h := nI_clamp (by omega)
    have hqh := hR1.2.2.2.1 h (by omega)
    rw [hqe] at hqh
    have ht0 : r < 2 ^ sP S → σ1 56 (16 * (zq Z h / 32) + r) = nI (xv (s0 S) (zq Z h / 32) r) := fun hr2 => by rw [hoff.1 56 (by decide) (by decide) (by decide) (by decide) (by decide)]; have := hx0 (zq Z h / 32) r hq1 hr2; rw [Nat.mul_zero, Nat.zero_add] at this; exact this
    have ht1 : r < 2 ^ sP S → σ1 56 (16 * (32 + zq Z h % 32) + r) = nI (xv (s1 S) (zq Z h % 32) r) := fun hr2 => by rw [hoff.1 56 (by decide) (by decide) (by decide) (by decide) (by decide)]; exact hx1 (zq Z h % 32) r hq2 hr2
    have hxl0 := xv_lt hm.1.2.1 (zq Z h / 32) r
    have hxl1 := xv_lt hm.1.2.2 (zq Z h % 32) r
    have hou0 : em_ou (s0 S) (zq Z h / 32) r < 8 := em_os_lt _ _
    have hou1 : em_ou (s1 S) (zq Z h % 32) r < 8 := em_os_lt _ _
    have hnx0 := em_nx_lt (s0 S) (zq Z h / 32) r
    have hnx1 := em_nx_lt (s1 S) (zq Z h % 32) r
    refine ev_iload_n (i := 2) d_MD_goOver_61 rfl rfl ?_
    refine ev_iconst (v := 1) d_MD_goOver_62 rfl ?_
    refine ev_aload_n (i := 0) d_MD_goOver_63 rfl rfl ?_
    refine es_getI d_MD_goOver_64 f_MD_62 rfl rfl ?_
    rw [hoff.2 1 (by decide), hm.2.1]
    refine ev_ishl d_MD_goOver_67 ?_
    rw [shl1 (by omega)]
    refine ev_icmp_ge d_MD_goOver_68 (fun h68 => ?_) (fun h68 => ?_)
    · rw [nI_leI (by omega) (by omega)] at h68
      have hre : r = 2 ^ sP S := by omega
      have hmore := ps_rows_more (A := sA S) (h := h) (Z := Z) (n := 2 ^ sP S) (fun q hq => hq.1) (16 - 2 ^ sP S)
      rw [Nat.add_sub_cancel' (by omega), ← hre] at hmore
      rw [← hmore] at hR1
      exact ev_mask [true, true, false, false, false] rfl (hex σ1 hR1 hoff)
    · rw [nI_leI (by omega) (by omega), Nat.not_le] at h68
      obtain ⟨bb, hb1, hbb⟩ := rm_br hm r h68
      refine ev_aload_n (i := 0) d_MD_goOver_71 rfl rfl ?_
      refine es_getR d_MD_goOver_72 f_MD_38 rfl rfl ?_
      refine ev_bipush (v := 16) d_MD_goOver_75 rfl ?_
      refine ev_aload_n (i := 0) d_MD_goOver_77 rfl rfl ?_
      refine es_getR d_MD_goOver_78 f_MD_47 rfl rfl ?_
      refine ev_iload_n (i := 1) d_MD_goOver_81 rfl rfl ?_
      refine es_iald d_MD_goOver_82 rfl (ez_vinN (by omega) (by omega)) ?_
      rw [hch, hqh]
      refine ev_bipush (v := 32) d_MD_goOver_83 rfl ?_
      refine ev_idiv d_MD_goOver_85 (by decide) ?_
      rw [show (32 : Int32) = nI 32 from rfl, pk_div (by omega) (by omega) (by omega)]
      refine ev_imul d_MD_goOver_86 ?_
      refine ev_iload_n (i := 2) d_MD_goOver_87 rfl rfl ?_
      refine ev_iadd d_MD_goOver_88 ?_
      rw [ix16]
      refine es_iald d_MD_goOver_89 rfl (ez_vinN (by omega) (by omega)) ?_
      rw [nI_clamp (by omega), ht0 h68]
      refine ev_istore_n (i := 3) d_MD_goOver_90 rfl (by decide) ?_
      dsimp only [List.set_cons_zero, List.set_cons_succ]
      refine ev_aload_n (i := 0) d_MD_goOver_91 rfl rfl ?_
      refine es_getR d_MD_goOver_92 f_MD_38 rfl rfl ?_
      refine ev_bipush (v := 16) d_MD_goOver_95 rfl ?_
      refine ev_bipush (v := 32) d_MD_goOver_97 rfl ?_
      refine ev_aload_n (i := 0) d_MD_goOver_99 rfl rfl ?_
      refine es_getR d_MD_goOver_100 f_MD_47 rfl rfl ?_
      refine ev_iload_n (i := 1) d_MD_goOver_103 rfl rfl ?_
      refine es_iald d_MD_goOver_104 rfl (ez_vinN (by omega) (by omega)) ?_
      rw [hch, hqh]
      refine ev_bipush (v := 32) d_MD_goOver_105 rfl ?_
      refine ev_irem d_MD_goOver_107 (by decide) ?_
      rw [show (32 : Int32) = nI 32 from rfl, pk_rem (by omega) (by omega) (by omega)]
      refine ev_iadd d_MD_goOver_108 ?_
      rw [nI_add]
      refine ev_imul d_MD_goOver_109 ?_
      refine ev_iload_n (i := 2) d_MD_goOver_110 rfl rfl ?_
      refine ev_iadd d_MD_goOver_111 ?_
      rw [ix16]
      refine es_iald d_MD_goOver_112 rfl (ez_vinN (by omega) (by omega)) ?_
      rw [nI_clamp (by omega), ht1 h68]
      refine ev_istore d_MD_goOver_113 (by decide) ?_
      dsimp only [List.set_cons_zero, List.set_cons_succ]
      refine ev_aload_n (i := 0) d_MD_goOver_115 rfl rfl ?_
      refine es_getR d_MD_goOver_116 f_MD_7 rfl rfl ?_
      refine ev_iload_n (i := 2) d_MD_goOver_119 rfl rfl ?_
      refine es_zald d_MD_goOver_120 rfl (ez_vinN (by omega) (by omega)) ?_
      rw [nI_clamp (show r < 2 ^ 31 by omega), hoff.1 47 (by decide) (by decide) (by decide) (by decide) (by decide), hb1]
      refine ev_if_ne d_MD_goOver_121 (fun h121 => ?_) (fun h121 => ?_)
      · rw [eb_0, Bool.not_eq_false] at h121
        have hno : ¬ pop (sA S) r := fun g => by rw [hbb.mpr g] at h121; cases h121
        have hox : (∀ k, k ≠ 46 → k ≠ 59 → k ≠ 60 → k ≠ 61 → k ≠ 62 → σ1 k = σ k) ∧ ∀ j, j < 14 → σ1 46 j = σ 46 j := hoff
        refine ev_aload_n (i := 0) d_MD_goOver_154 rfl rfl ?_
        refine es_getR d_MD_goOver_155 f_MD_7 rfl rfl ?_
        refine ev_iload_n (i := 2) d_MD_goOver_158 rfl rfl ?_
        refine es_zald d_MD_goOver_159 rfl (ez_vinN (by omega) (by omega)) ?_
        rw [nI_clamp (show r < 2 ^ 31 by omega), hox.1 47 (by decide) (by decide) (by decide) (by decide) (by decide), hb1]
        refine ev_if_ne d_MD_goOver_160 (fun h160 => ?_) (fun h160 => ?_)
        · rw [eb_0, Bool.not_eq_false] at h160
          refine ev_iinc d_MD_goOver_182 rfl (ez_inc _) (by decide) ?_
          dsimp only [List.set_cons_zero, List.set_cons_succ]
          refine ev_goto d_MD_goOver_185 ?_
          refine ev_mask [true, true, true, false, false] rfl ?_
          first
            | (refine ih _ (by omega) (r + 1) σ1 rfl ⟨by omega, ?_, hoff⟩
               show qR (ps_step (sA S) h r (ps_rows (sA S) h Z r)) σ1
               rw [ps_step_f hno]; exact hR1)
            | (refine ih _ (by omega) (r + 1) σ179 rfl ⟨by omega, ?_, ⟨fun k k1 k2 k3 k4 k5 => by rw [m2 k k1 k2 k3 k4 k5]; exact hox.1 k k1 k2 k3 k4 k5, fun j hj => by rw [m3 j hj]; exact hox.2 j hj⟩⟩
               show qR (ps_step (sA S) h r (ps_rows (sA S) h Z r)) σ179
               rw [ps_step_t hyes]; unfold ps_to; rw [hqe, Nat.mul_comm]; exact m1)
        · rw [eb_0] at h160
          rw [h121] at h160; cases h160
      · rw [eb_0] at h121
        have hyes : pop (sA S) r := hbb.mp h121
        have hq19 : ∀ t, (zd (ps_rows (sA S) h Z r)).map Prod.fst = some t → t < 2 ^ 31 := fun t ht => by
          cases hd : zd (ps_rows (sA S) h Z r) with
          | none => rw [hd] at ht; cases ht
          | some ab => rw [hd] at ht; injection ht with ht; have := (hZr.1.2.2.2 ab.1 ab.2 hd).1; omega
        refine ev_aload_n (i := 0) d_MD_goOver_124 rfl rfl ?_
        refine es_getI d_MD_goOver_125 f_MD_132 rfl rfl ?_
        rw [hR1.2.1]
        refine ev_iconst (v := (-1)) d_MD_goOver_128 rfl ?_
        refine ev_icmp_ne d_MD_goOver_129 (fun h129 => ?_) (fun h129 => ?_)
        · rw [en_none hq19, Option.map_eq_none_iff] at h129
          have hdn : ¬ ps_dif (sA S) h r (ps_rows (sA S) h Z r) := fun g => h129 g.1
          have hRd : qR (ps_diff (sA S) h r (ps_rows (sA S) h Z r)) σ1 := by rw [ps_diff_f hdn]; exact hR1
          have hox : (∀ k, k ≠ 46 → k ≠ 59 → k ≠ 60 → k ≠ 61 → k ≠ 62 → σ1 k = σ k) ∧ ∀ j, j < 14 → σ1 46 j = σ 46 j := hoff
          refine ev_aload_n (i := 0) d_MD_goOver_154 rfl rfl ?_
          refine es_getR d_MD_goOver_155 f_MD_7 rfl rfl ?_
          refine ev_iload_n (i := 2) d_MD_goOver_158 rfl rfl ?_
          refine es_zald d_MD_goOver_159 rfl (ez_vinN (by omega) (by omega)) ?_
          rw [nI_clamp (show r < 2 ^ 31 by omega), hox.1 47 (by decide) (by decide) (by decide) (by decide) (by decide), hb1]
          refine ev_if_ne d_MD_goOver_160 (fun h160 => ?_) (fun h160 => ?_)
          · rw [eb_0, Bool.not_eq_false] at h160
            rw [h121] at h160; cases h160
          · rw [eb_0] at h160
            refine ev_aload_n (i := 0) d_MD_goOver_163 rfl rfl ?_
            refine ev_bipush (v := 32) d_MD_goOver_164 rfl ?_
            refine ev_iload_n (i := 3) d_MD_goOver_166 rfl rfl ?_
            refine ev_bipush (v := 8) d_MD_goOver_167 rfl ?_
            refine ev_idiv d_MD_goOver_169 (by decide) ?_
            rw [show (8 : Int32) = nI 8 from rfl, pk_div (by omega) (by omega) (by omega), (xv_d (s0 S) _ r).1]
            refine ev_imul d_MD_goOver_170 ?_
            refine ev_iload d_MD_goOver_171 rfl ?_
            refine ev_bipush (v := 8) d_MD_goOver_173 rfl ?_
            refine ev_idiv d_MD_goOver_175 (by decide) ?_
            rw [show (8 : Int32) = nI 8 from rfl, pk_div (by omega) (by omega) (by omega), (xv_d (s1 S) _ r).1]
            refine ev_iadd d_MD_goOver_176 ?_
            rw [ix32]
            refine ev_iload_n (i := 1) d_MD_goOver_177 rfl rfl ?_
            refine ev_iload_n (i := 2) d_MD_goOver_178 rfl rfl ?_
            refine es_cVV ls_MD_goOver_179 d_MD_goOver_179 rfl (c_MD_meet (nf := h) (nb := r) hRd (ps_I_diff hZr.1 (show h < zc (ps_rows (sA S) h Z r) by omega) hyes).1 (show 32 * em_nx (s0 S) (zq Z h / 32) r + em_nx (s1 S) (zq Z h % 32) r < 1024 by omega) (fun q => absurd q (by rw [(ps_I_diff hZr.1 (show h < zc (ps_rows (sA S) h Z r) by omega) hyes).2.1]; omega)) (fun _ => ⟨rfl, rfl⟩)) rfl rfl (Nat.le_of_ble_eq_true rfl) (fun σ179 h179 => ?_) (fun _ _ h => h.elim)
            obtain ⟨m1, m2, m3⟩ := h179
            refine ev_iinc d_MD_goOver_182 rfl (ez_inc _) (by decide) ?_
            dsimp only [List.set_cons_zero, List.set_cons_succ]
            refine ev_goto d_MD_goOver_185 ?_
            refine ev_mask [true, true, true, false, false] rfl ?_
            first
              | (refine ih _ (by omega) (r + 1) σ1 rfl ⟨by omega, ?_, hoff⟩
                 show qR (ps_step (sA S) h r (ps_rows (sA S) h Z r)) σ1
                 rw [ps_step_f hno]; exact hR1)
              | (refine ih _ (by omega) (r + 1) σ179 rfl ⟨by omega, ?_, ⟨fun k k1 k2 k3 k4 k5 => by rw [m2 k k1 k2 k3 k4 k5]; exact hox.1 k k1 k2 k3 k4 k5, fun j hj => by rw [m3 j hj]; exact hox.2 j hj⟩⟩
                 show qR (ps_step (sA S) h r (ps_rows (sA S) h Z r)) σ179
                 rw [ps_step_t hyes]; unfold ps_to; rw [hqe, Nat.mul_comm]; exact m1)
        · rw [en_none hq19, Option.map_eq_none_iff] at h129
          refine ev_iload_n (i := 3) d_MD_goOver_132 rfl rfl ?_
          refine ev_bipush (v := 8) d_MD_goOver_133 rfl ?_
          refine ev_irem d_MD_goOver_135 (by decide) ?_
          rw [show (8 : Int32) = nI 8 from rfl, pk_rem (by omega) (by omega) (by omega), (xv_d (s0 S) _ r).2]
          refine ev_iload d_MD_goOver_136 rfl ?_
          refine ev_bipush (v := 8) d_MD_goOver_138 rfl ?_
          refine ev_irem d_MD_goOver_140 (by decide) ?_
          rw [show (8 : Int32) = nI 8 from rfl, pk_rem (by omega) (by omega) (by omega), (xv_d (s1 S) _ r).2]
          refine ev_icmp_eq d_MD_goOver_141 (fun h141 => ?_) (fun h141 => ?_)
          · rw [nI_eq (by omega) (by omega)] at h141
            have hdn : ¬ ps_dif (sA S) h r (ps_rows (sA S) h Z r) := fun g => g.2 (by rw [hqe]; exact h141)
            have hRd : qR (ps_diff (sA S) h r (ps_rows (sA S) h Z r)) σ1 := by rw [ps_diff_f hdn]; exact hR1
            have hox : (∀ k, k ≠ 46 → k ≠ 59 → k ≠ 60 → k ≠ 61 → k ≠ 62 → σ1 k = σ k) ∧ ∀ j, j < 14 → σ1 46 j = σ 46 j := hoff
            refine ev_aload_n (i := 0) d_MD_goOver_154 rfl rfl ?_
            refine es_getR d_MD_goOver_155 f_MD_7 rfl rfl ?_
            refine ev_iload_n (i := 2) d_MD_goOver_158 rfl rfl ?_
            refine es_zald d_MD_goOver_159 rfl (ez_vinN (by omega) (by omega)) ?_
            rw [nI_clamp (show r < 2 ^ 31 by omega), hox.1 47 (by decide) (by decide) (by decide) (by decide) (by decide), hb1]
            refine ev_if_ne d_MD_goOver_160 (fun h160 => ?_) (fun h160 => ?_)
            · rw [eb_0, Bool.not_eq_false] at h160
              rw [h121] at h160; cases h160
            · rw [eb_0] at h160
              refine ev_aload_n (i := 0) d_MD_goOver_163 rfl rfl ?_
              refine ev_bipush (v := 32) d_MD_goOver_164 rfl ?_
              refine ev_iload_n (i := 3) d_MD_goOver_166 rfl rfl ?_
              refine ev_bipush (v := 8) d_MD_goOver_167 rfl ?_
              refine ev_idiv d_MD_goOver_169 (by decide) ?_
              rw [show (8 : Int32) = nI 8 from rfl, pk_div (by omega) (by omega) (by omega), (xv_d (s0 S) _ r).1]
              refine ev_imul d_MD_goOver_170 ?_
              refine ev_iload d_MD_goOver_171 rfl ?_
              refine ev_bipush (v := 8) d_MD_goOver_173 rfl ?_
              refine ev_idiv d_MD_goOver_175 (by decide) ?_
              rw [show (8 : Int32) = nI 8 from rfl, pk_div (by omega) (by omega) (by omega), (xv_d (s1 S) _ r).1]
              refine ev_iadd d_MD_goOver_176 ?_
              rw [ix32]
              refine ev_iload_n (i := 1) d_MD_goOver_177 rfl rfl ?_
              refine ev_iload_n (i := 2) d_MD_goOver_178 rfl rfl ?_
              refine es_cVV ls_MD_goOver_179 d_MD_goOver_179 rfl (c_MD_meet (nf := h) (nb := r) hRd (ps_I_diff hZr.1 (show h < zc (ps_rows (sA S) h Z r) by omega) hyes).1 (show 32 * em_nx (s0 S) (zq Z h / 32) r + em_nx (s1 S) (zq Z h % 32) r < 1024 by omega) (fun q => absurd q (by rw [(ps_I_diff hZr.1 (show h < zc (ps_rows (sA S) h Z r) by omega) hyes).2.1]; omega)) (fun _ => ⟨rfl, rfl⟩)) rfl rfl (Nat.le_of_ble_eq_true rfl) (fun σ179 h179 => ?_) (fun _ _ h => h.elim)
              obtain ⟨m1, m2, m3⟩ := h179
              refine ev_iinc d_MD_goOver_182 rfl (ez_inc _) (by decide) ?_
              dsimp only [List.set_cons_zero, List.set_cons_succ]
              refine ev_goto d_MD_goOver_185 ?_
              refine ev_mask [true, true, true, false, false] rfl ?_
              first
                | (refine ih _ (by omega) (r + 1) σ1 rfl ⟨by omega, ?_, hoff⟩
                   show qR (ps_step (sA S) h r (ps_rows (sA S) h Z r)) σ1
                   rw [ps_step_f hno]; exact hR1)
                | (refine ih _ (by omega) (r + 1) σ179 rfl ⟨by omega, ?_, ⟨fun k k1 k2 k3 k4 k5 => by rw [m2 k k1 k2 k3 k4 k5]; exact hox.1 k k1 k2 k3 k4 k5, fun j hj => by rw [m3 j hj]; exact hox.2 j hj⟩⟩
                   show qR (ps_step (sA S) h r (ps_rows (sA S) h Z r)) σ179
                   rw [ps_step_t hyes]; unfold ps_to; rw [hqe, Nat.mul_comm]; exact m1)
          · rw [nI_eq (by omega) (by omega)] at h141
            have hdy : ps_dif (sA S) h r (ps_rows (sA S) h Z r) := ⟨h129, by rw [hqe]; exact h141⟩
            refine ev_aload_n (i := 0) d_MD_goOver_144 rfl rfl ?_
            refine ev_iload_n (i := 1) d_MD_goOver_145 rfl rfl ?_
            refine es_putI d_MD_goOver_146 f_MD_132 y_MD_differsAt rfl rfl ⟨rfl, rfl⟩ ?_
            refine ev_aload_n (i := 0) d_MD_goOver_149 rfl rfl ?_
            refine ev_iload_n (i := 2) d_MD_goOver_150 rfl rfl ?_
            refine es_putI d_MD_goOver_151 f_MD_138 y_MD_differsBy rfl rfl ⟨rfl, rfl⟩ ?_
            have hRd : qR (ps_diff (sA S) h r (ps_rows (sA S) h Z r)) (es_up (es_up σ1 46 19 (nI h)) 46 20 (nI r)) := by rw [ps_diff_t hdy]; exact qR_mark hR1 h r
            have hox : (∀ k, k ≠ 46 → k ≠ 59 → k ≠ 60 → k ≠ 61 → k ≠ 62 → es_up (es_up σ1 46 19 (nI h)) 46 20 (nI r) k = σ k) ∧ ∀ j, j < 14 → es_up (es_up σ1 46 19 (nI h)) 46 20 (nI r) 46 j = σ 46 j := ⟨fun k k1 k2 k3 k4 k5 => by rw [es_upf _ _ _ _ k1, es_upf _ _ _ _ k1]; exact hoff.1 k k1 k2 k3 k4 k5, fun j hj => by rw [es_upx, if_pos rfl, if_neg (by omega), es_upx, if_pos rfl, if_neg (by omega)]; exact hoff.2 j hj⟩
            refine ev_aload_n (i := 0) d_MD_goOver_154 rfl rfl ?_
            refine es_getR d_MD_goOver_155 f_MD_7 rfl rfl ?_
            refine ev_iload_n (i := 2) d_MD_goOver_158 rfl rfl ?_
            refine es_zald d_MD_goOver_159 rfl (ez_vinN (by omega) (by omega)) ?_
            rw [nI_clamp (show r < 2 ^ 31 by omega), hox.1 47 (by decide) (by decide) (by decide) (by decide) (by decide), hb1]
            refine ev_if_ne d_MD_goOver_160 (fun h160 => ?_) (fun h160 => ?_)
            · rw [eb_0, Bool.not_eq_false] at h160
              rw [h121] at h160; cases h160
            · rw [eb_0] at h160
              refine ev_aload_n (i := 0) d_MD_goOver_163 rfl rfl ?_
              refine ev_bipush (v := 32) d_MD_goOver_164 rfl ?_
              refine ev_iload_n (i := 3) d_MD_goOver_166 rfl rfl ?_
              refine ev_bipush (v := 8) d_MD_goOver_167 rfl ?_
              refine ev_idiv d_MD_goOver_169 (by decide) ?_
              rw [show (8 : Int32) = nI 8 from rfl, pk_div (by omega) (by omega) (by omega), (xv_d (s0 S) _ r).1]
              refine ev_imul d_MD_goOver_170 ?_
              refine ev_iload d_MD_goOver_171 rfl ?_
              refine ev_bipush (v := 8) d_MD_goOver_173 rfl ?_
              refine ev_idiv d_MD_goOver_175 (by decide) ?_
              rw [show (8 : Int32) = nI 8 from rfl, pk_div (by omega) (by omega) (by omega), (xv_d (s1 S) _ r).1]
              refine ev_iadd d_MD_goOver_176 ?_
              rw [ix32]
              refine ev_iload_n (i := 1) d_MD_goOver_177 rfl rfl ?_
              refine ev_iload_n (i := 2) d_MD_goOver_178 rfl rfl ?_
              refine es_cVV ls_MD_goOver_179 d_MD_goOver_179 rfl (c_MD_meet (nf := h) (nb := r) hRd (ps_I_diff hZr.1 (show h < zc (ps_rows (sA S) h Z r) by omega) hyes).1 (show 32 * em_nx (s0 S) (zq Z h / 32) r + em_nx (s1 S) (zq Z h % 32) r < 1024 by omega) (fun q => absurd q (by rw [(ps_I_diff hZr.1 (show h < zc (ps_rows (sA S) h Z r) by omega) hyes).2.1]; omega)) (fun _ => ⟨rfl, rfl⟩)) rfl rfl (Nat.le_of_ble_eq_true rfl) (fun σ179 h179 => ?_) (fun _ _ h => h.elim)
              obtain ⟨m1, m2, m3⟩ := h179
              refine ev_iinc d_MD_goOver_182 rfl (ez_inc _) (by decide) ?_
              dsimp only [List.set_cons_zero, List.set_cons_succ]
              refine ev_goto d_MD_goOver_185 ?_
              refine ev_mask [true, true, true, false, false] rfl ?_
              first
                | (refine ih _ (by omega) (r + 1) σ1 rfl ⟨by omega, ?_, hoff⟩
                   show qR (ps_step (sA S) h r (ps_rows (sA S) h Z r)) σ1
                   rw [ps_step_f hno]; exact hR1)
                | (refine ih _ (by omega) (r + 1) σ179 rfl ⟨by omega, ?_, ⟨fun k k1 k2 k3 k4 k5 => by rw [m2 k k1 k2 k3 k4 k5]; exact hox.1 k k1 k2 k3 k4 k5, fun j hj => by rw [m3 j hj]; exact hox.2 j hj⟩⟩
                   show qR (ps_step (sA S) h r (ps_rows (sA S) h Z r)) σ179
                   rw [ps_step_t hyes]; unfold ps_to; rw [hqe, Nat.mul_comm]; exact m1)
theorem lp_MD_goOver_51 {S : sp_S} (hm : rm S σ) (hbo : sBoth S) (hx0 : xt (s0 S) (sP S) 0 σ) (hx1 : xt (s1 S) (sP S) 1 σ) {Qv : es_S → Prop} (hQ : ∀ σ', (qR (sZ S) σ' ∧ ps_I (2 ^ em_dl (s0 S) (em_n (s0 S))) (2 ^ em_dl (s1 S) (em_n (s1 S))) (sA S) (sZ S) ∧ xt (s0 S) (sP S) 0 σ' ∧ xt (s1 S) (sP S) 1 σ' ∧ (∀ k, k ≠ 46 → k ≠ 59 → k ≠ 60 → k ≠ 61 → k ≠ 62 → σ' k = σ k) ∧ ∀ j, j < 14 → σ' 46 j = σ 46 j) → Qv σ') : ∀ (d : Nat) (h : Nat) (σ1 : es_S), 1024 - h = d → (h ≤ zc (ps_at (sA S) h) ∧ (∀ g, g < h → g < zc (ps_at (sA S) g)) ∧ qR (ps_at (sA S) h) σ1 ∧ ((∀ k, k ≠ 46 → k ≠ 59 → k ≠ 60 → k ≠ 61 → k ≠ 62 → σ1 k = σ k) ∧ ∀ j, j < 14 → σ1 46 j = σ 46 j)) → ez_Ev l G X_MD_goOver 0 0 51 [some (.ref 46), some (.int (nI h)), none, none, none] [] (es_H σ1) (es_Q (es_V Qv) es_no) := by
  intro d
  induction d using Nat.strongRecOn with
  | _ d ih =>
    intro h σ1 hmm hinv
    obtain ⟨hhc, hg, hR1, hoff⟩ := hinv
    have hlt := sA_lt S hm.1
    have hN1 : 2 ^ em_dl (s0 S) (em_n (s0 S)) ≤ 2 ^ 5 := Nat.pow_le_pow_right (by omega) hm.1.2.1.2.2.2.2.2.2
    have hN2 : 2 ^ em_dl (s1 S) (em_n (s1 S)) ≤ 2 ^ 5 := Nat.pow_le_pow_right (by omega) hm.1.2.2.2.2.2.2.2.2
    have hP16 := rm_P hm
    have hP4 := hm.1.1.2
    have hI := (ps_at_I (by omega) (by omega) hlt.1 hlt.2.1 h hg).1
    have hZl := hI.1.1
    refine ev_iload_n (i := 1) d_MD_goOver_51 rfl rfl ?_
    refine ev_aload_n (i := 0) d_MD_goOver_52 rfl rfl ?_
    refine es_getI d_MD_goOver_53 f_MD_129 rfl rfl ?_
    rw [hR1.1]
    refine ev_icmp_ge d_MD_goOver_56 (fun h56 => ?_) (fun h56 => ?_)
    · rw [nI_leI (by omega) (by omega)] at h56
      refine es_vret d_MD_goOver_194 rfl ⟨Nat.zero_le _, Nat.zero_le _⟩ ⟨rfl, ?_⟩
      have hfin : ps_fin (sA S) h := ⟨h56, hg⟩
      have hZe : sZ S = ps_at (sA S) h := by unfold sZ; rw [ps_end_eq hfin]
      refine hQ σ1 ?_
      rw [hZe]
      exact ⟨hR1, hI, fun s r g1 g2 => by rw [hoff.1 56 (by decide) (by decide) (by decide) (by decide) (by decide)]; exact hx0 s r g1 g2, fun s r g1 g2 => by rw [hoff.1 56 (by decide) (by decide) (by decide) (by decide) (by decide)]; exact hx1 s r g1 g2, hoff⟩
    · rw [nI_leI (by omega) (by omega), Nat.not_le] at h56
      refine ev_iconst (v := 0) d_MD_goOver_59 rfl ?_
      refine ev_istore_n (i := 2) d_MD_goOver_60 rfl (by decide) ?_
      dsimp only [List.set_cons_zero, List.set_cons_succ]
      refine ev_mask [true, true, true, false, false] rfl ?_
      refine lp_MD_goOver_61 hm hbo hx0 hx1 hQ hI h56 (fun σ2 k1 k2 => ?_) _ 0 σ1 rfl ⟨Nat.zero_le _, hR1, hoff⟩
      refine ev_iinc d_MD_goOver_188 rfl (ez_inc _) (by decide) ?_
      dsimp only [List.set_cons_zero, List.set_cons_succ]
      refine ev_goto d_MD_goOver_191 ?_
      have hmo := (ps_rows_I (by omega) (by omega) hlt.1 hlt.2.1 hI h56 16).2.1
      refine ih _ (by omega) (h + 1) σ2 rfl ⟨?_, fun g hgl => ?_, k1, k2⟩
      · show h + 1 ≤ zc (ps_rows (sA S) h (ps_at (sA S) h) 16)
        omega
      · by_cases hgh : g = h
        · rw [hgh]; exact h56
        · exact hg g (by omega)
theorem qR_0 {σ : es_S} (hz : ∀ q, q < 1024 → σ 62 q = eb false) : qR ps_ze (es_up (es_up σ 46 14 0) 46 19 (-1)) :=
  ⟨by simp [es_upx]; rfl, by simp [es_upx]; rfl, (fun a b hd => by have e : (none : Option (Nat × Nat)) = some (a, b) := hd; cases e), fun i hi => absurd hi (Nat.not_lt_zero _), fun i _ hi => absurd hi (Nat.not_lt_zero _), fun h => absurd h (Nat.not_lt_zero _), fun k hk => by rw [es_upf _ _ _ _ (by decide), es_upf _ _ _ _ (by decide), hz k hk, bd_f.mpr (ps_ze_s k)]⟩
theorem lp_MD_goOver_12 {S : sp_S} (hm : rm S σ) (hbo : sBoth S) (hx0 : xt (s0 S) (sP S) 0 σ) (hx1 : xt (s1 S) (sP S) 1 σ) {Qv : es_S → Prop} (hQ : ∀ σ', (qR (sZ S) σ' ∧ ps_I (2 ^ em_dl (s0 S) (em_n (s0 S))) (2 ^ em_dl (s1 S) (em_n (s1 S))) (sA S) (sZ S) ∧ xt (s0 S) (sP S) 0 σ' ∧ xt (s1 S) (sP S) 1 σ' ∧ (∀ k, k ≠ 46 → k ≠ 59 → k ≠ 60 → k ≠ 61 → k ≠ 62 → σ' k = σ k) ∧ ∀ j, j < 14 → σ' 46 j = σ 46 j) → Qv σ') : ∀ (d : Nat) (k : Nat) (σ1 : es_S), 1024 - k = d → (k ≤ 1024 ∧ (∀ q, q < k → σ1 62 q = eb false) ∧ ((∀ k, k ≠ 46 → k ≠ 59 → k ≠ 60 → k ≠ 61 → k ≠ 62 → σ1 k = σ k) ∧ ∀ j, j < 14 → σ1 46 j = σ 46 j)) → ez_Ev l G X_MD_goOver 0 0 12 [some (.ref 46), some (.int (nI k)), none, none, none] [] (es_H σ1) (es_Q (es_V Qv) es_no) := by
  intro d
  induction d using Nat.strongRecOn with
  | _ d ih =>
    intro k σ1 hmm hinv
    obtain ⟨hk, hz, hoff⟩ := hinv
    have hlt := sA_lt S hm.1
    have hN1 : 2 ^ em_dl (s0 S) (em_n (s0 S)) ≤ 2 ^ 5 := Nat.pow_le_pow_right (by omega) hm.1.2.1.2.2.2.2.2.2
    have hN2 : 2 ^ em_dl (s1 S) (em_n (s1 S)) ≤ 2 ^ 5 := Nat.pow_le_pow_right (by omega) hm.1.2.2.2.2.2.2.2.2
    have hP16 := rm_P hm
    have hP4 := hm.1.1.2
    refine ev_iload_n (i := 1) d_MD_goOver_12 rfl rfl ?_
    refine ev_sipush (v := 1024) d_MD_goOver_13 rfl ?_
    refine ev_icmp_ge d_MD_goOver_16 (fun h16 => ?_) (fun h16 => ?_)
    · rw [show (1024 : Int32) = nI 1024 from rfl, nI_leI (by omega) (by omega)] at h16
      refine ev_aload_n (i := 0) d_MD_goOver_32 rfl rfl ?_
      refine ev_iconst (v := 0) d_MD_goOver_33 rfl ?_
      refine es_putI d_MD_goOver_34 f_MD_129 y_MD_pairCount rfl rfl ⟨rfl, rfl⟩ ?_
      refine ev_aload_n (i := 0) d_MD_goOver_37 rfl rfl ?_
      refine ev_iconst (v := (-1)) d_MD_goOver_38 rfl ?_
      refine es_putI d_MD_goOver_39 f_MD_132 y_MD_differsAt rfl rfl ⟨rfl, rfl⟩ ?_
      refine ev_aload_n (i := 0) d_MD_goOver_42 rfl rfl ?_
      refine ev_iconst (v := 0) d_MD_goOver_43 rfl ?_
      refine ev_iconst (v := (-1)) d_MD_goOver_44 rfl ?_
      refine ev_iconst (v := (-1)) d_MD_goOver_45 rfl ?_
      refine es_cVV ls_MD_goOver_46 d_MD_goOver_46 rfl (c_MD_meet (A := sA S) (nf := 0) (nb := 0) (p := 0) (qR_0 (fun q hq => hz q (by omega))) (ps_I_e (N1 := 2 ^ em_dl (s0 S) (em_n (s0 S))) (N2 := 2 ^ em_dl (s1 S) (em_n (s1 S)))) (by decide) (fun _ => rfl) (fun q => absurd q (Nat.lt_irrefl _))) rfl rfl (Nat.le_of_ble_eq_true rfl) (fun σ46 h46 => ?_) (fun _ _ h => h.elim)
      obtain ⟨m1, m2, m3⟩ := h46
      rw [ps_meet_new (ps_ze_s _)] at m1
      refine ev_iconst (v := 0) d_MD_goOver_49 rfl ?_
      refine ev_istore_n (i := 1) d_MD_goOver_50 rfl (by decide) ?_
      dsimp only [List.set_cons_zero, List.set_cons_succ]
      refine lp_MD_goOver_51 hm hbo hx0 hx1 hQ _ 0 σ46 rfl ⟨Nat.zero_le _, fun g hg => absurd hg (Nat.not_lt_zero _), m1, ⟨fun k k1 k2 k3 k4 k5 => by rw [m2 k k1 k2 k3 k4 k5, es_upf _ _ _ _ k1, es_upf _ _ _ _ k1]; exact hoff.1 k k1 k2 k3 k4 k5, fun j hj => by rw [m3 j hj, es_upx, if_pos rfl, if_neg (by omega), es_upx, if_pos rfl, if_neg (by omega)]; exact hoff.2 j hj⟩⟩
    · rw [show (1024 : Int32) = nI 1024 from rfl, nI_leI (by omega) (by omega), Nat.not_le] at h16
      refine ev_aload_n (i := 0) d_MD_goOver_19 rfl rfl ?_
      refine es_getR d_MD_goOver_20 f_MD_56 rfl rfl ?_
      refine ev_iload_n (i := 1) d_MD_goOver_23 rfl rfl ?_
      refine ev_iconst (v := 0) d_MD_goOver_24 rfl ?_
      refine es_zast d_MD_goOver_25 rfl (ez_vinN (by omega) (by omega)) ?_
      rw [nI_clamp (by omega)]
      refine ev_iinc d_MD_goOver_26 rfl (ez_inc _) (by decide) ?_
      dsimp only [List.set_cons_zero, List.set_cons_succ]
      refine ev_goto d_MD_goOver_29 ?_
      refine ih _ (by omega) (k + 1) _ rfl ⟨by omega, fun q hq => ?_, ⟨fun k k1 k2 k3 k4 k5 => by rw [es_upf _ _ _ _ k5]; exact hoff.1 k k1 k2 k3 k4 k5, fun j hj => by rw [es_upf _ _ _ _ (by decide)]; exact hoff.2 j hj⟩⟩
      by_cases hqk : q = k
      · rw [hqk, es_upx, if_pos rfl, if_pos rfl]; rfl
      · rw [es_upx, if_pos rfl, if_neg hqk]; exact hz q (by omega)
theorem c_MD_goOver {S : sp_S} (hm : rm S σ) (hbo : sBoth S) : ez_Ct l G X_MD_goOver [.ref 46] (es_H σ) (es_Q (es_V fun σ' => qR (sZ S) σ' ∧ ps_I (2 ^ em_dl (s0 S) (em_n (s0 S))) (2 ^ em_dl (s1 S) (em_n (s1 S))) (sA S) (sZ S) ∧ xt (s0 S) (sP S) 0 σ' ∧ xt (s1 S) (sP S) 1 σ' ∧ (∀ k, (k < 46 ∨ (46 < k ∧ k < 55) ∨ 62 < k) → σ' k = σ k) ∧ ∀ j, j < 14 → σ' 46 j = σ 46 j) es_no) := by
  refine es_Ct_of (ls := [some (.ref 46), none, none, none, none]) ok_MD_goOver rfl (Nat.le_of_ble_eq_true rfl) rfl ?_
  refine ev_aload_n (i := 0) d_MD_goOver_0 rfl rfl ?_
  refine ev_iconst (v := 0) d_MD_goOver_1 rfl ?_
  refine es_cVV ls_MD_goOver_2 d_MD_goOver_2 rfl (c_MD_explore (e := 0) hm.1.2.1 (by decide) hm.2.2.2.1 hm.1.1.2 hbo.1 hm.2.1 (op := sop S) (fun r hr => hr.1) (rm_br hm)) rfl rfl (Nat.le_of_ble_eq_true rfl) (fun σ2 h2 => ?_) (fun _ _ h => h.elim)
  obtain ⟨x1, x2, x3, x4, x5⟩ := h2
  have hm2 := rm_57 hm x5
  refine ev_aload_n (i := 0) d_MD_goOver_5 rfl rfl ?_
  refine ev_iconst (v := 1) d_MD_goOver_6 rfl ?_
  refine es_cVV ls_MD_goOver_7 d_MD_goOver_7 rfl (c_MD_explore (e := 1) hm.1.2.2 (by decide) hm2.2.2.2.2 hm.1.1.2 hbo.2 hm2.2.1 (op := sop S) (fun r hr => hr.1) (rm_br hm2)) rfl rfl (Nat.le_of_ble_eq_true rfl) (fun σ7 h7 => ?_) (fun _ _ h => h.elim)
  obtain ⟨y1, y2, y3, y4, y5⟩ := h7
  have hm3 := rm_57 hm2 y5
  refine ev_iconst (v := 0) d_MD_goOver_10 rfl ?_
  refine ev_istore_n (i := 1) d_MD_goOver_11 rfl (by decide) ?_
  dsimp only [List.set_cons_zero, List.set_cons_succ]
  have hN1 : 2 ^ em_dl (s0 S) (em_n (s0 S)) ≤ 2 ^ 5 := Nat.pow_le_pow_right (by omega) hm.1.2.1.2.2.2.2.2.2
  have hP16 := rm_P hm
  refine lp_MD_goOver_12 hm3 hbo (fun s r g1 g2 => by rw [y3 _ (by omega)]; exact x1 s r g1 g2) y1 (fun σ9 h9 => ?_) _ 0 σ7 rfl ⟨by omega, fun q hq => absurd hq (Nat.not_lt_zero _), fun _ _ _ _ _ _ => rfl, fun _ _ => rfl⟩
  obtain ⟨z1, z2, z3, z4, z5, z6⟩ := h9
  exact ⟨z1, z2, z3, z4, fun k hk => by rw [z5 k (by omega) (by omega) (by omega) (by omega) (by omega), y5 k (by omega) (by omega) (by omega), x5 k (by omega) (by omega) (by omega)], fun j hj => by rw [z6 j hj, y5 46 (by decide) (by decide) (by decide), x5 46 (by decide) (by decide) (by decide)]⟩
end
