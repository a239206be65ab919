/-! ===== Model: answers ===== -/
section
variable {l : Launch} {G : ez_G} {σ : es_S}
theorem or_ish {a : Nat} {x : Bool} {q : Nat} (ha : a < 2 ^ q) (hq : q < 32) : nI a ||| (eb x <<< (nI q &&& 31)) = nI (a + bn x * 2 ^ q) := by
  rw [eb_bn]
  exact nI_orbit ha (bn_le x) hq
theorem lp_MD_answer_70 {X : em_E} {P : Nat} (hw : em_wf P X) {e : Nat} (he : e < 2) (hm : md X e σ) (hri : em_right X) {s : Int32} {r : Nat} {V : Nat → Bool} (hV : ∀ b, b < em_n X → σ 55 b = eb (V b)) {σ0 : es_S} (hoff : ∀ k, k ≠ 55 → σ k = σ0 k) : ∀ (d : Nat) (b : Nat), em_n X - b = d → (b ≤ em_n X) → ez_Ev l G X_MD_answer 0 0 70 [some (.ref 46), some (.int (nI e)), some (.int s), some (.int (nI r)), some (.int (nI (em_or X V 3 + 8 * em_nr X V b))), some (.int (nI (3 + em_dl X b))), some (.int (nI b))] [] (es_H σ) (es_Q (es_I fun y σ' => y = nI (em_os X V + 8 * em_ns X V) ∧ ∀ k, k ≠ 55 → σ' k = σ0 k) es_no) := by
  intro d
  induction d using Nat.strongRecOn with
  | _ d ih =>
    intro b hmm hb
    have hn := hw.1
    have hce : (nI e).toNatClampNeg = e := nI_clamp (by omega)
    have hdl : em_dl X (b + 1) = em_dl X b + if em_k X b = 6 then 1 else 0 := rfl
    have hnr : em_nr X V (b + 1) = em_nr X V b + if em_k X b = 6 then bn (em_vo V (em_w X b 0)) * 2 ^ em_dl X b else 0 := rfl
    have ho3 : em_or X V 3 < 8 := em_or_lt X V 3
    have hnl := em_nr_lt X V b
    refine ev_iload d_MD_answer_70 rfl ?_
    refine ev_aload_n (i := 0) d_MD_answer_72 rfl rfl ?_
    refine es_getR d_MD_answer_73 f_MD_13 rfl rfl ?_
    refine ev_iload_n (i := 1) d_MD_answer_76 rfl rfl ?_
    refine es_iald d_MD_answer_77 rfl (ez_vinN he (by omega)) ?_
    rw [hce, hm.1]
    refine ev_icmp_ge d_MD_answer_78 (fun h78 => ?_) (fun h78 => ?_)
    · rw [nI_leI (by omega) (by omega)] at h78
      refine ev_iload d_MD_answer_128 rfl ?_
      refine es_iret d_MD_answer_130 rfl ⟨Nat.zero_le _, Nat.zero_le _⟩ ⟨_, rfl, ?_⟩
      have hbe : b = em_n X := by omega
      subst hbe
      exact ⟨by rw [em_os_or]; rfl, hoff⟩
    · rw [nI_leI (by omega) (by omega), Nat.not_le] at h78
      have hk := hw.2.1 b h78
      refine ev_aload_n (i := 0) d_MD_answer_81 rfl rfl ?_
      refine es_getR d_MD_answer_82 f_MD_17 rfl rfl ?_
      refine ev_bipush (v := 24) d_MD_answer_85 rfl ?_
      refine ev_iload_n (i := 1) d_MD_answer_87 rfl rfl ?_
      refine ev_imul d_MD_answer_88 ?_
      refine ev_iload d_MD_answer_89 rfl ?_
      refine ev_iadd d_MD_answer_91 ?_
      rw [ix24]
      refine es_iald d_MD_answer_92 rfl (ez_vinN (by omega) (by omega)) ?_
      rw [nI_clamp (by omega), (hm.2.1 b h78).1]
      refine ev_bipush (v := 6) d_MD_answer_93 rfl ?_
      refine ev_icmp_ne d_MD_answer_95 (fun h95 => ?_) (fun h95 => ?_)
      · rw [show (6 : Int32) = nI 6 from rfl, nI_eq (by omega) (by omega)] at h95
        refine ev_iinc d_MD_answer_122 rfl (ez_inc _) (by decide) ?_
        dsimp only [List.set_cons_zero, List.set_cons_succ]
        refine ev_goto d_MD_answer_125 ?_
        first
          | (rw [if_pos h95] at hdl hnr
             have hvo : em_vo V (em_w X b 0) = V t := by rw [ht]; rfl
             rw [hvo] at hnr
             rw [show em_or X V 3 + 8 * em_nr X V b + bn (V t) * 2 ^ (3 + em_dl X b) = em_or X V 3 + 8 * em_nr X V (b + 1) from by rw [hnr, hp8, Nat.mul_add, ← Nat.add_assoc]; congr 1; rw [Nat.mul_left_comm], show 3 + em_dl X b + 1 = 3 + em_dl X (b + 1) from by rw [hdl]; rfl]
             exact ih _ (by omega) (b + 1) rfl (by omega))
          | (have hd2 : em_dl X (b + 1) = em_dl X b := by rw [hdl, if_neg h95]; rfl
             have hn2 : em_nr X V (b + 1) = em_nr X V b := by rw [hnr, if_neg h95]; rfl
             rw [← hd2, ← hn2]
             exact ih _ (by omega) (b + 1) rfl (by omega))
      · rw [show (6 : Int32) = nI 6 from rfl, nI_eq (by omega) (by omega)] at h95
        have hd6 := em_dl_lt h78 h95
        have hd5 := hw.2.2.2.2.2.2
        obtain ⟨t, ht⟩ := Option.ne_none_iff_exists'.mp (fun q => hri.1 b h78 ⟨0, by rw [h95]; decide, q⟩ : em_w X b 0 ≠ none)
        have htl := (hw.2.2.1 b 0 t ht).2
        have hct : (nI t).toNatClampNeg = t := nI_clamp (by omega)
        have hp8 : 2 ^ (3 + em_dl X b) = 8 * 2 ^ em_dl X b := by rw [Nat.pow_add]
        refine ev_iload d_MD_answer_98 rfl ?_
        refine ev_aload_n (i := 0) d_MD_answer_100 rfl rfl ?_
        refine es_getR d_MD_answer_101 f_MD_35 rfl rfl ?_
        refine ev_aload_n (i := 0) d_MD_answer_104 rfl rfl ?_
        refine ev_iload_n (i := 1) d_MD_answer_105 rfl rfl ?_
        refine ev_iload d_MD_answer_106 rfl ?_
        refine ev_iconst (v := 0) d_MD_answer_108 rfl ?_
        refine es_cVI ls_MD_answer_109 d_MD_answer_109 rfl (c_MD_input hw he hm h78 (show 0 < 2 by omega)) rfl rfl (Nat.le_of_ble_eq_true rfl) (fun x109 σ109 h109 => ?_) (fun _ _ h => h.elim)
        obtain ⟨rfl, e109⟩ := h109
        rw [e109, ht, show en (some t) = nI t from rfl]
        refine es_iald d_MD_answer_112 rfl (ez_vinN (by omega) (by omega)) ?_
        rw [hct, hV t htl]
        refine ev_iload d_MD_answer_113 rfl ?_
        refine ev_ishl d_MD_answer_115 ?_
        refine ev_ior d_MD_answer_116 ?_
        rw [or_ish (by omega) (by omega)]
        refine ev_istore d_MD_answer_117 (by decide) ?_
        dsimp only [List.set_cons_zero, List.set_cons_succ]
        refine ev_iinc d_MD_answer_119 rfl (ez_inc _) (by decide) ?_
        dsimp only [List.set_cons_zero, List.set_cons_succ]
        refine ev_iinc d_MD_answer_122 rfl (ez_inc _) (by decide) ?_
        dsimp only [List.set_cons_zero, List.set_cons_succ]
        refine ev_goto d_MD_answer_125 ?_
        first
          | (rw [if_pos h95] at hdl hnr
             have hvo : em_vo V (em_w X b 0) = V t := by rw [ht]; rfl
             rw [hvo] at hnr
             rw [show em_or X V 3 + 8 * em_nr X V b + bn (V t) * 2 ^ (3 + em_dl X b) = em_or X V 3 + 8 * em_nr X V (b + 1) from by rw [hnr, hp8, Nat.mul_add, ← Nat.add_assoc]; congr 1; rw [Nat.mul_left_comm], show 3 + em_dl X b + 1 = 3 + em_dl X (b + 1) from by rw [hdl]; rfl]
             exact ih _ (by omega) (b + 1) rfl (by omega))
          | (have hd2 : em_dl X (b + 1) = em_dl X b := by rw [hdl, if_neg h95]; rfl
             have hn2 : em_nr X V (b + 1) = em_nr X V b := by rw [hnr, if_neg h95]; rfl
             rw [← hd2, ← hn2]
             exact ih _ (by omega) (b + 1) rfl (by omega))
theorem lp_MD_answer_13 {X : em_E} {P : Nat} (hw : em_wf P X) {e : Nat} (he : e < 2) (hm : md X e σ) (hri : em_right X) {s : Int32} {r : Nat} {V : Nat → Bool} (hV : ∀ b, b < em_n X → σ 55 b = eb (V b)) {σ0 : es_S} (hoff : ∀ k, k ≠ 55 → σ k = σ0 k) : ∀ (d : Nat) (o : Nat), 3 - o = d → (o ≤ 3) → ez_Ev l G X_MD_answer 0 0 13 [some (.ref 46), some (.int (nI e)), some (.int s), some (.int (nI r)), some (.int (nI (em_or X V o))), some (.int (nI o)), none] [] (es_H σ) (es_Q (es_I fun y σ' => y = nI (em_os X V + 8 * em_ns X V) ∧ ∀ k, k ≠ 55 → σ' k = σ0 k) es_no) := by
  intro d
  induction d using Nat.strongRecOn with
  | _ d ih =>
    intro o hmm ho
    have hn := hw.1
    have hol := em_or_lt X V o
    have hos : em_or X V (o + 1) = em_or X V o + bn (em_vo V (em_o X o)) * 2 ^ o := rfl
    have hbo : ∀ t, em_o X o = some t → t < 2 ^ 31 := fun t ht => by have := hw.2.2.2.1 o t ht; omega
    refine ev_iload d_MD_answer_13 rfl ?_
    refine ev_iconst (v := 3) d_MD_answer_15 rfl ?_
    refine ev_icmp_ge d_MD_answer_16 (fun h16 => ?_) (fun h16 => ?_)
    · rw [show (3 : Int32) = nI 3 from rfl, nI_leI (by omega) (by omega)] at h16
      refine ev_iconst (v := 3) d_MD_answer_64 rfl ?_
      refine ev_istore d_MD_answer_65 (by decide) ?_
      dsimp only [List.set_cons_zero, List.set_cons_succ]
      refine ev_iconst (v := 0) d_MD_answer_67 rfl ?_
      refine ev_istore d_MD_answer_68 (by decide) ?_
      dsimp only [List.set_cons_zero, List.set_cons_succ]
      have hoe : o = 3 := by omega
      subst hoe
      exact lp_MD_answer_70 hw he hm hri hV hoff _ 0 rfl (Nat.zero_le _)
    · rw [show (3 : Int32) = nI 3 from rfl, nI_leI (by omega) (by omega), Nat.not_le] at h16
      refine ev_aload_n (i := 0) d_MD_answer_19 rfl rfl ?_
      refine es_getR d_MD_answer_20 f_MD_29 rfl rfl ?_
      refine ev_iconst (v := 3) d_MD_answer_23 rfl ?_
      refine ev_iload_n (i := 1) d_MD_answer_24 rfl rfl ?_
      refine ev_imul d_MD_answer_25 ?_
      refine ev_iload d_MD_answer_26 rfl ?_
      refine ev_iadd d_MD_answer_28 ?_
      rw [ix3]
      refine es_iald d_MD_answer_29 rfl (ez_vinN (by omega) (by omega)) ?_
      rw [nI_clamp (by omega), hm.2.2 o h16]
      refine ev_istore d_MD_answer_30 (by decide) ?_
      dsimp only [List.set_cons_zero, List.set_cons_succ]
      refine ev_iload d_MD_answer_32 rfl ?_
      refine ev_iconst (v := (-1)) d_MD_answer_34 rfl ?_
      refine ev_icmp_ne d_MD_answer_35 (fun h35 => ?_) (fun h35 => ?_)
      · rw [en_none hbo] at h35
        obtain ⟨t, ht⟩ := Option.ne_none_iff_exists'.mp h35
        have htl := hw.2.2.2.1 o t ht
        rw [ht, show en (some t) = nI t from rfl]
        have hct : (nI t).toNatClampNeg = t := nI_clamp (by omega)
        refine ev_iload d_MD_answer_43 rfl ?_
        refine ev_aload_n (i := 0) d_MD_answer_45 rfl rfl ?_
        refine es_getR d_MD_answer_46 f_MD_35 rfl rfl ?_
        refine ev_iload d_MD_answer_49 rfl ?_
        refine es_iald d_MD_answer_51 rfl (ez_vinN (by omega) (by omega)) ?_
        rw [hct, hV t htl]
        refine ev_iload d_MD_answer_52 rfl ?_
        refine ev_ishl d_MD_answer_54 ?_
        refine ev_ior d_MD_answer_55 ?_
        rw [or_ish (by omega) (by omega)]
        refine ev_istore d_MD_answer_56 (by decide) ?_
        dsimp only [List.set_cons_zero, List.set_cons_succ]
        refine ev_iinc d_MD_answer_58 rfl (ez_inc _) (by decide) ?_
        dsimp only [List.set_cons_zero, List.set_cons_succ]
        refine ev_goto d_MD_answer_61 ?_
        refine ev_mask [true, true, true, true, true, true, false] rfl ?_
        first
          | (have h2 : em_vo V (em_o X o) = V t := by rw [ht]; rfl
             rw [h2] at hos
             rw [← hos]
             exact ih _ (by omega) (o + 1) rfl (by omega))
          | (have h2 : em_or X V (o + 1) = em_or X V o := by rw [hos, h35]; simp [em_vo, bn]
             rw [← h2]
             exact ih _ (by omega) (o + 1) rfl (by omega))
      · rw [en_none hbo] at h35
        refine ev_iload d_MD_answer_38 rfl ?_
        refine ev_goto d_MD_answer_40 ?_
        refine ev_istore d_MD_answer_56 (by decide) ?_
        dsimp only [List.set_cons_zero, List.set_cons_succ]
        refine ev_iinc d_MD_answer_58 rfl (ez_inc _) (by decide) ?_
        dsimp only [List.set_cons_zero, List.set_cons_succ]
        refine ev_goto d_MD_answer_61 ?_
        refine ev_mask [true, true, true, true, true, true, false] rfl ?_
        first
          | (have h2 : em_vo V (em_o X o) = V t := by rw [ht]; rfl
             rw [h2] at hos
             rw [← hos]
             exact ih _ (by omega) (o + 1) rfl (by omega))
          | (have h2 : em_or X V (o + 1) = em_or X V o := by rw [hos, h35]; simp [em_vo, bn]
             rw [← h2]
             exact ih _ (by omega) (o + 1) rfl (by omega))
theorem c_MD_answer {X : em_E} {P : Nat} (hw : em_wf P X) {e : Nat} (he : e < 2) (hm : md X e σ) (hP4 : P ≤ 4) (hri : em_right X) {s : Int32} {r : Nat} (hr16 : r < 16) : ez_Ct l G X_MD_answer [.ref 46, .int (nI e), .int s, .int (nI r)] (es_H σ) (es_Q (es_I fun y σ' => y = nI (em_os X (em_val X (bt s) (tb r)) + 8 * em_ns X (em_val X (bt s) (tb r))) ∧ ∀ k, k ≠ 55 → σ' k = σ k) es_no) := by
  refine es_Ct_of (ls := [some (.ref 46), some (.int (nI e)), some (.int s), some (.int (nI r)), none, none, none]) ok_MD_answer rfl (Nat.le_of_ble_eq_true rfl) rfl ?_
  refine ev_aload_n (i := 0) d_MD_answer_0 rfl rfl ?_
  refine ev_iload_n (i := 1) d_MD_answer_1 rfl rfl ?_
  refine ev_iload_n (i := 2) d_MD_answer_2 rfl rfl ?_
  refine ev_iload_n (i := 3) d_MD_answer_3 rfl rfl ?_
  refine es_cVV ls_MD_answer_4 d_MD_answer_4 rfl (c_MD_settle hw he hm hP4 hri (s := s) hr16) rfl rfl (Nat.le_of_ble_eq_true rfl) (fun σ4 h4 => ?_) (fun _ _ h => h.elim)
  obtain ⟨hV, hoff⟩ := h4
  have hm4 : md X e σ4 := md_off hm (fun k g1 g2 => hoff k (by omega))
  refine ev_iconst (v := 0) d_MD_answer_7 rfl ?_
  refine ev_istore d_MD_answer_8 (by decide) ?_
  dsimp only [List.set_cons_zero, List.set_cons_succ]
  refine ev_iconst (v := 0) d_MD_answer_10 rfl ?_
  refine ev_istore d_MD_answer_11 (by decide) ?_
  dsimp only [List.set_cons_zero, List.set_cons_succ]
  exact lp_MD_answer_13 (σ := σ4) (V := (em_val X (bt s) (tb r))) hw he hm4 hri hV hoff _ 0 rfl (by omega)
theorem val_sj {X : em_E} {P : Nat} (hw : em_wf P X) (s : Int32) (r : Nat → Bool) : em_val X (bt s) r = em_val X (tb (sj s)) r := by
  funext b
  exact em_val_s hw (fun i hi => (sj_bit s hi).symm) b
theorem rm_55 {S : sp_S} {σ σ' : es_S} (h : rm S σ) (hs : ∀ k, k ≠ 55 → σ' k = σ k) : rm S σ' := rm_off h (by rw [hs 46 (by decide)]) (fun k g1 g2 => hs k (by omega))
theorem c_MD_value {S : sp_S} (hm : rm S σ) {e x s rr : Int32} : ez_Ct l G X_MD_value [.ref 46, .int e, .int x, .int s, .int rr] (es_H σ) (es_Q (es_I fun y σ' => mR S (g_value S e x rr) (em_right (sE S e)) (v_value S e x s rr) (S) y σ' ∧ ∀ k, (k < 46 ∨ 63 < k) → σ' k = σ k) es_no) := by
  refine es_Ct_of (ls := [some (.ref 46), some (.int e), some (.int x), some (.int s), some (.int rr)]) ok_MD_value rfl (Nat.le_of_ble_eq_true rfl) rfl ?_
  refine ev_aload_n (i := 0) d_MD_value_0 rfl rfl ?_
  refine ev_aload_n (i := 0) d_MD_value_1 rfl rfl ?_
  refine ev_iload_n (i := 1) d_MD_value_2 rfl rfl ?_
  refine ev_iload_n (i := 2) d_MD_value_3 rfl rfl ?_
  refine es_cVI ls_MD_value_4 d_MD_value_4 rfl (c_MD_isBlock hm) rfl rfl (Nat.le_of_ble_eq_true rfl) (fun x4 σ4 h4 => ?_) (fun _ _ h => h.elim)
  obtain ⟨rfl, e4⟩ := h4
  rw [e4]
  refine ev_if_eq d_MD_value_7 (fun h7 => ?_) (fun h7 => ?_)
  · rw [eb_0] at h7
    refine ev_iconst (v := 0) d_MD_value_23 rfl ?_
    refine ev_aload_n (i := 0) d_MD_value_24 rfl rfl ?_
    refine ev_iload_n (i := 1) d_MD_value_25 rfl rfl ?_
    refine es_cVI ls_MD_value_26 d_MD_value_26 rfl (c_MD_isRight hm) rfl rfl (Nat.le_of_ble_eq_true rfl) (fun x26 σ26 h26 => ?_) (fun _ _ h => h.elim)
    obtain ⟨rfl, e26⟩ := h26
    have hm2 := rm_54 hm e26
    refine es_cVI ls_MD_value_29 d_MD_value_29 rfl c_MD_goes0 rfl rfl (Nat.le_of_ble_eq_true rfl) (fun x29 σ29 h29 => ?_) (fun _ _ h => h.elim)
    obtain ⟨rfl, rfl⟩ := h29
    refine ev_if_ne d_MD_value_32 (fun h => absurd h (by decide)) (fun _ => ?_)
    refine ev_iconst (v := 0) d_MD_value_35 rfl ?_
    refine es_iret d_MD_value_36 rfl ⟨Nat.zero_le _, Nat.zero_le _⟩ ⟨_, rfl, ?_⟩
    first
      | (rw [h32]; exact ⟨Or.inr (Or.inl ⟨⟨(bd_t.mp h7).1, (bd_t.mp h7).2, bd_t.mp h16⟩, fun g => bd_f.mp h32 ⟨(bd_t.mp h7).1, g⟩, by simp [es_upx], rm_thrown hm2 _⟩), fun k hk => by rw [es_upf _ _ _ _ (by omega)]; exact e26 k (by omega)⟩)
      | exact ⟨Or.inl ⟨fun g => bd_f.mp h16 g.2.2, by simp [es_upx], rm_thrown hm2 _⟩, fun k hk => by rw [es_upf _ _ _ _ (by omega)]; exact e26 k (by omega)⟩
      | exact ⟨Or.inl ⟨fun g => bd_f.mp h7 ⟨g.1, g.2.1⟩, by simp [es_upx], rm_thrown hm2 _⟩, fun k hk => by rw [es_upf _ _ _ _ (by omega)]; exact e26 k (by omega)⟩
  · rw [eb_0, Bool.not_eq_false] at h7
    refine ev_aload_n (i := 0) d_MD_value_10 rfl rfl ?_
    refine ev_iload d_MD_value_11 rfl ?_
    refine es_cVI ls_MD_value_13 d_MD_value_13 rfl (c_MD_isRow hm) rfl rfl (Nat.le_of_ble_eq_true rfl) (fun x13 σ13 h13 => ?_) (fun _ _ h => h.elim)
    obtain ⟨rfl, e13⟩ := h13
    rw [e13]
    refine ev_if_eq d_MD_value_16 (fun h16 => ?_) (fun h16 => ?_)
    · rw [eb_0] at h16
      refine ev_iconst (v := 0) d_MD_value_23 rfl ?_
      refine ev_aload_n (i := 0) d_MD_value_24 rfl rfl ?_
      refine ev_iload_n (i := 1) d_MD_value_25 rfl rfl ?_
      refine es_cVI ls_MD_value_26 d_MD_value_26 rfl (c_MD_isRight hm) rfl rfl (Nat.le_of_ble_eq_true rfl) (fun x26 σ26 h26 => ?_) (fun _ _ h => h.elim)
      obtain ⟨rfl, e26⟩ := h26
      have hm2 := rm_54 hm e26
      refine es_cVI ls_MD_value_29 d_MD_value_29 rfl c_MD_goes0 rfl rfl (Nat.le_of_ble_eq_true rfl) (fun x29 σ29 h29 => ?_) (fun _ _ h => h.elim)
      obtain ⟨rfl, rfl⟩ := h29
      refine ev_if_ne d_MD_value_32 (fun h => absurd h (by decide)) (fun _ => ?_)
      refine ev_iconst (v := 0) d_MD_value_35 rfl ?_
      refine es_iret d_MD_value_36 rfl ⟨Nat.zero_le _, Nat.zero_le _⟩ ⟨_, rfl, ?_⟩
      first
        | (rw [h32]; exact ⟨Or.inr (Or.inl ⟨⟨(bd_t.mp h7).1, (bd_t.mp h7).2, bd_t.mp h16⟩, fun g => bd_f.mp h32 ⟨(bd_t.mp h7).1, g⟩, by simp [es_upx], rm_thrown hm2 _⟩), fun k hk => by rw [es_upf _ _ _ _ (by omega)]; exact e26 k (by omega)⟩)
        | exact ⟨Or.inl ⟨fun g => bd_f.mp h16 g.2.2, by simp [es_upx], rm_thrown hm2 _⟩, fun k hk => by rw [es_upf _ _ _ _ (by omega)]; exact e26 k (by omega)⟩
        | exact ⟨Or.inl ⟨fun g => bd_f.mp h7 ⟨g.1, g.2.1⟩, by simp [es_upx], rm_thrown hm2 _⟩, fun k hk => by rw [es_upf _ _ _ _ (by omega)]; exact e26 k (by omega)⟩
    · rw [eb_0, Bool.not_eq_false] at h16
      refine ev_iconst (v := 1) d_MD_value_19 rfl ?_
      refine ev_goto d_MD_value_20 ?_
      refine ev_aload_n (i := 0) d_MD_value_24 rfl rfl ?_
      refine ev_iload_n (i := 1) d_MD_value_25 rfl rfl ?_
      refine es_cVI ls_MD_value_26 d_MD_value_26 rfl (c_MD_isRight hm) rfl rfl (Nat.le_of_ble_eq_true rfl) (fun x26 σ26 h26 => ?_) (fun _ _ h => h.elim)
      obtain ⟨rfl, e26⟩ := h26
      have hm2 := rm_54 hm e26
      refine es_cVI ls_MD_value_29 d_MD_value_29 rfl (c_MD_goes (a := true)) rfl rfl (Nat.le_of_ble_eq_true rfl) (fun x29 σ29 h29 => ?_) (fun _ _ h => h.elim)
      obtain ⟨rfl, rfl⟩ := h29
      rw [Bool.true_and, if_pos rfl]
      refine ev_if_ne d_MD_value_32 (fun h32 => ?_) (fun h32 => ?_)
      · rw [eb_0, Bool.not_eq_false] at h32
        have hri := (bd_t.mp h32).2
        obtain ⟨j, hj, rfl, hj2⟩ := ew_ex (n := 2) (bd_t.mp h7).1 (by omega)
        have hw := sE_wf hm.1 (nI j)
        have hn := hw.1
        have hP := rm_P hm
        have hgd : g_value S (nI j) x rr := ⟨(bd_t.mp h7).1, (bd_t.mp h7).2, bd_t.mp h16⟩
        obtain ⟨jx, hjx, rfl, hjx2⟩ := ew_ex hgd.2.1 (by omega)
        obtain ⟨jr, hjr, rfl, hjr2⟩ := ew_ex hgd.2.2 (by omega)
        rw [h32, if_pos rfl]
        have hm3 := rm_thrown hm2 0
        have hmd := rm_md hm3 hj
        have hcx : (nI jx).toNatClampNeg = jx := nI_clamp (by omega)
        refine ev_aload_n (i := 0) d_MD_value_37 rfl rfl ?_
        refine ev_iload_n (i := 1) d_MD_value_38 rfl rfl ?_
        refine ev_iload_n (i := 3) d_MD_value_39 rfl rfl ?_
        refine ev_iload d_MD_value_40 rfl ?_
        refine es_cVV ls_MD_value_42 d_MD_value_42 rfl (c_MD_settle hw hj hmd hm.1.1.2 hri (s := s) (show jr < 16 by omega)) rfl rfl (Nat.le_of_ble_eq_true rfl) (fun σ42 h42 => ?_) (fun _ _ h => h.elim)
        obtain ⟨hV, hoff⟩ := h42
        refine ev_aload_n (i := 0) d_MD_value_45 rfl rfl ?_
        refine es_getR d_MD_value_46 f_MD_35 rfl rfl ?_
        refine ev_iload_n (i := 2) d_MD_value_49 rfl rfl ?_
        refine es_iald d_MD_value_50 rfl (ez_vinN (by omega) (by omega)) ?_
        rw [hcx, hV jx hjx]
        refine es_iret d_MD_value_51 rfl ⟨Nat.zero_le _, Nat.zero_le _⟩ ⟨_, rfl, ?_⟩
        refine ⟨Or.inr (Or.inr ⟨hgd, hri, by rw [hoff 46 (by decide)]; simp [es_upx], ?_, rm_55 hm3 hoff⟩), fun k hk => by rw [hoff k (by omega), es_upf _ _ _ _ (by omega)]; exact e26 k (by omega)⟩
        unfold v_value
        rw [hjx2, hjr2, val_sj hw]
      · rw [eb_0] at h32
        refine ev_iconst (v := 0) d_MD_value_35 rfl ?_
        refine es_iret d_MD_value_36 rfl ⟨Nat.zero_le _, Nat.zero_le _⟩ ⟨_, rfl, ?_⟩
        first
          | (rw [h32]; exact ⟨Or.inr (Or.inl ⟨⟨(bd_t.mp h7).1, (bd_t.mp h7).2, bd_t.mp h16⟩, fun g => bd_f.mp h32 ⟨(bd_t.mp h7).1, g⟩, by simp [es_upx], rm_thrown hm2 _⟩), fun k hk => by rw [es_upf _ _ _ _ (by omega)]; exact e26 k (by omega)⟩)
          | exact ⟨Or.inl ⟨fun g => bd_f.mp h16 g.2.2, by simp [es_upx], rm_thrown hm2 _⟩, fun k hk => by rw [es_upf _ _ _ _ (by omega)]; exact e26 k (by omega)⟩
          | exact ⟨Or.inl ⟨fun g => bd_f.mp h7 ⟨g.1, g.2.1⟩, by simp [es_upx], rm_thrown hm2 _⟩, fun k hk => by rw [es_upf _ _ _ _ (by omega)]; exact e26 k (by omega)⟩
theorem c_MD_tick {S : sp_S} (hm : rm S σ) {e s rr : Int32} : ez_Ct l G X_MD_tick [.ref 46, .int e, .int s, .int rr] (es_H σ) (es_Q (es_I fun y σ' => mR S (g_tick S e rr) (em_right (sE S e)) (v_tick S e s rr) (S) y σ' ∧ ∀ k, (k < 46 ∨ 63 < k) → σ' k = σ k) es_no) := by
  refine es_Ct_of (ls := [some (.ref 46), some (.int e), some (.int s), some (.int rr)]) ok_MD_tick rfl (Nat.le_of_ble_eq_true rfl) rfl ?_
  refine ev_aload_n (i := 0) d_MD_tick_0 rfl rfl ?_
  refine ev_iload_n (i := 1) d_MD_tick_1 rfl rfl ?_
  refine ev_iconst (v := 0) d_MD_tick_2 rfl ?_
  refine ev_iconst (v := 1) d_MD_tick_3 rfl ?_
  refine es_cSI ls_MD_tick_4 d_MD_tick_4 c_MD_in rfl rfl (Nat.le_of_ble_eq_true rfl) (fun x4 σ4 h4 => ?_) (fun _ _ h => h.elim)
  obtain ⟨rfl, e4⟩ := h4
  rw [e4, ei1]
  refine ev_if_eq d_MD_tick_7 (fun h7 => ?_) (fun h7 => ?_)
  · rw [eb_0] at h7
    refine ev_iconst (v := 0) d_MD_tick_22 rfl ?_
    refine ev_aload_n (i := 0) d_MD_tick_23 rfl rfl ?_
    refine ev_iload_n (i := 1) d_MD_tick_24 rfl rfl ?_
    refine es_cVI ls_MD_tick_25 d_MD_tick_25 rfl (c_MD_isRight hm) rfl rfl (Nat.le_of_ble_eq_true rfl) (fun x25 σ25 h25 => ?_) (fun _ _ h => h.elim)
    obtain ⟨rfl, e25⟩ := h25
    have hm2 := rm_54 hm e25
    refine es_cVI ls_MD_tick_28 d_MD_tick_28 rfl c_MD_goes0 rfl rfl (Nat.le_of_ble_eq_true rfl) (fun x28 σ28 h28 => ?_) (fun _ _ h => h.elim)
    obtain ⟨rfl, rfl⟩ := h28
    refine ev_if_eq d_MD_tick_31 (fun _ => ?_) (fun h => absurd h (by decide))
    refine ev_iconst (v := 0) d_MD_tick_44 rfl ?_
    refine es_iret d_MD_tick_45 rfl ⟨Nat.zero_le _, Nat.zero_le _⟩ ⟨_, rfl, ?_⟩
    first
      | (refine ⟨Or.inr (Or.inr ⟨hgd, hri, by rw [hoff 46 (by decide)]; simp [es_upx], ?_, rm_55 hm3 hoff⟩), fun k hk => by rw [hoff k (by omega), es_upf _ _ _ _ (by omega)]; exact e25 k (by omega)⟩
         unfold v_tick
         rw [hjr2, val_sj hw]
         rfl)
      | (rw [h31]; exact ⟨Or.inr (Or.inl ⟨⟨h7, bd_t.mp h15⟩, fun g => bd_f.mp h31 ⟨h7, g⟩, by simp [es_upx], rm_thrown hm2 _⟩), fun k hk => by rw [es_upf _ _ _ _ (by omega)]; exact e25 k (by omega)⟩)
      | exact ⟨Or.inl ⟨fun g => bd_f.mp h15 g.2, by simp [es_upx], rm_thrown hm2 _⟩, fun k hk => by rw [es_upf _ _ _ _ (by omega)]; exact e25 k (by omega)⟩
      | exact ⟨Or.inl ⟨fun g => absurd g.1 (by rw [h7]; decide), by simp [es_upx], rm_thrown hm2 _⟩, fun k hk => by rw [es_upf _ _ _ _ (by omega)]; exact e25 k (by omega)⟩
  · rw [eb_0, Bool.not_eq_false] at h7
    refine ev_aload_n (i := 0) d_MD_tick_10 rfl rfl ?_
    refine ev_iload_n (i := 3) d_MD_tick_11 rfl rfl ?_
    refine es_cVI ls_MD_tick_12 d_MD_tick_12 rfl (c_MD_isRow hm) rfl rfl (Nat.le_of_ble_eq_true rfl) (fun x12 σ12 h12 => ?_) (fun _ _ h => h.elim)
    obtain ⟨rfl, e12⟩ := h12
    rw [e12]
    refine ev_if_eq d_MD_tick_15 (fun h15 => ?_) (fun h15 => ?_)
    · rw [eb_0] at h15
      refine ev_iconst (v := 0) d_MD_tick_22 rfl ?_
      refine ev_aload_n (i := 0) d_MD_tick_23 rfl rfl ?_
      refine ev_iload_n (i := 1) d_MD_tick_24 rfl rfl ?_
      refine es_cVI ls_MD_tick_25 d_MD_tick_25 rfl (c_MD_isRight hm) rfl rfl (Nat.le_of_ble_eq_true rfl) (fun x25 σ25 h25 => ?_) (fun _ _ h => h.elim)
      obtain ⟨rfl, e25⟩ := h25
      have hm2 := rm_54 hm e25
      refine es_cVI ls_MD_tick_28 d_MD_tick_28 rfl c_MD_goes0 rfl rfl (Nat.le_of_ble_eq_true rfl) (fun x28 σ28 h28 => ?_) (fun _ _ h => h.elim)
      obtain ⟨rfl, rfl⟩ := h28
      refine ev_if_eq d_MD_tick_31 (fun _ => ?_) (fun h => absurd h (by decide))
      refine ev_iconst (v := 0) d_MD_tick_44 rfl ?_
      refine es_iret d_MD_tick_45 rfl ⟨Nat.zero_le _, Nat.zero_le _⟩ ⟨_, rfl, ?_⟩
      first
        | (refine ⟨Or.inr (Or.inr ⟨hgd, hri, by rw [hoff 46 (by decide)]; simp [es_upx], ?_, rm_55 hm3 hoff⟩), fun k hk => by rw [hoff k (by omega), es_upf _ _ _ _ (by omega)]; exact e25 k (by omega)⟩
           unfold v_tick
           rw [hjr2, val_sj hw]
           rfl)
        | (rw [h31]; exact ⟨Or.inr (Or.inl ⟨⟨h7, bd_t.mp h15⟩, fun g => bd_f.mp h31 ⟨h7, g⟩, by simp [es_upx], rm_thrown hm2 _⟩), fun k hk => by rw [es_upf _ _ _ _ (by omega)]; exact e25 k (by omega)⟩)
        | exact ⟨Or.inl ⟨fun g => bd_f.mp h15 g.2, by simp [es_upx], rm_thrown hm2 _⟩, fun k hk => by rw [es_upf _ _ _ _ (by omega)]; exact e25 k (by omega)⟩
        | exact ⟨Or.inl ⟨fun g => absurd g.1 (by rw [h7]; decide), by simp [es_upx], rm_thrown hm2 _⟩, fun k hk => by rw [es_upf _ _ _ _ (by omega)]; exact e25 k (by omega)⟩
    · rw [eb_0, Bool.not_eq_false] at h15
      refine ev_iconst (v := 1) d_MD_tick_18 rfl ?_
      refine ev_goto d_MD_tick_19 ?_
      refine ev_aload_n (i := 0) d_MD_tick_23 rfl rfl ?_
      refine ev_iload_n (i := 1) d_MD_tick_24 rfl rfl ?_
      refine es_cVI ls_MD_tick_25 d_MD_tick_25 rfl (c_MD_isRight hm) rfl rfl (Nat.le_of_ble_eq_true rfl) (fun x25 σ25 h25 => ?_) (fun _ _ h => h.elim)
      obtain ⟨rfl, e25⟩ := h25
      have hm2 := rm_54 hm e25
      refine es_cVI ls_MD_tick_28 d_MD_tick_28 rfl (c_MD_goes (a := true)) rfl rfl (Nat.le_of_ble_eq_true rfl) (fun x28 σ28 h28 => ?_) (fun _ _ h => h.elim)
      obtain ⟨rfl, rfl⟩ := h28
      rw [Bool.true_and, if_pos rfl]
      refine ev_if_eq d_MD_tick_31 (fun h31 => ?_) (fun h31 => ?_)
      · rw [eb_0] at h31
        refine ev_iconst (v := 0) d_MD_tick_44 rfl ?_
        refine es_iret d_MD_tick_45 rfl ⟨Nat.zero_le _, Nat.zero_le _⟩ ⟨_, rfl, ?_⟩
        first
          | (refine ⟨Or.inr (Or.inr ⟨hgd, hri, by rw [hoff 46 (by decide)]; simp [es_upx], ?_, rm_55 hm3 hoff⟩), fun k hk => by rw [hoff k (by omega), es_upf _ _ _ _ (by omega)]; exact e25 k (by omega)⟩
             unfold v_tick
             rw [hjr2, val_sj hw]
             rfl)
          | (rw [h31]; exact ⟨Or.inr (Or.inl ⟨⟨h7, bd_t.mp h15⟩, fun g => bd_f.mp h31 ⟨h7, g⟩, by simp [es_upx], rm_thrown hm2 _⟩), fun k hk => by rw [es_upf _ _ _ _ (by omega)]; exact e25 k (by omega)⟩)
          | exact ⟨Or.inl ⟨fun g => bd_f.mp h15 g.2, by simp [es_upx], rm_thrown hm2 _⟩, fun k hk => by rw [es_upf _ _ _ _ (by omega)]; exact e25 k (by omega)⟩
          | exact ⟨Or.inl ⟨fun g => absurd g.1 (by rw [h7]; decide), by simp [es_upx], rm_thrown hm2 _⟩, fun k hk => by rw [es_upf _ _ _ _ (by omega)]; exact e25 k (by omega)⟩
      · rw [eb_0, Bool.not_eq_false] at h31
        have hri := (bd_t.mp h31).2
        obtain ⟨j, hj, rfl, hj2⟩ := ew_ex (n := 2) h7 (by omega)
        have hw := sE_wf hm.1 (nI j)
        have hP := rm_P hm
        have hgd : g_tick S (nI j) rr := ⟨h7, bd_t.mp h15⟩
        obtain ⟨jr, hjr, rfl, hjr2⟩ := ew_ex hgd.2 (by omega)
        rw [h31, if_pos rfl]
        have hm3 := rm_thrown hm2 0
        have hmd := rm_md hm3 hj
        refine ev_aload_n (i := 0) d_MD_tick_34 rfl rfl ?_
        refine ev_iload_n (i := 1) d_MD_tick_35 rfl rfl ?_
        refine ev_iload_n (i := 2) d_MD_tick_36 rfl rfl ?_
        refine ev_iload_n (i := 3) d_MD_tick_37 rfl rfl ?_
        refine es_cVI ls_MD_tick_38 d_MD_tick_38 rfl (c_MD_answer hw hj hmd hm.1.1.2 hri (s := s) (show jr < 16 by omega)) rfl rfl (Nat.le_of_ble_eq_true rfl) (fun x38 σ38 h38 => ?_) (fun _ _ h => h.elim)
        obtain ⟨rfl, hoff⟩ := h38
        refine ev_goto d_MD_tick_41 ?_
        refine es_iret d_MD_tick_45 rfl ⟨Nat.zero_le _, Nat.zero_le _⟩ ⟨_, rfl, ?_⟩
        first
          | (refine ⟨Or.inr (Or.inr ⟨hgd, hri, by rw [hoff 46 (by decide)]; simp [es_upx], ?_, rm_55 hm3 hoff⟩), fun k hk => by rw [hoff k (by omega), es_upf _ _ _ _ (by omega)]; exact e25 k (by omega)⟩
             unfold v_tick
             rw [hjr2, val_sj hw]
             rfl)
          | (rw [h31]; exact ⟨Or.inr (Or.inl ⟨⟨h7, bd_t.mp h15⟩, fun g => bd_f.mp h31 ⟨h7, g⟩, by simp [es_upx], rm_thrown hm2 _⟩), fun k hk => by rw [es_upf _ _ _ _ (by omega)]; exact e25 k (by omega)⟩)
          | exact ⟨Or.inl ⟨fun g => bd_f.mp h15 g.2, by simp [es_upx], rm_thrown hm2 _⟩, fun k hk => by rw [es_upf _ _ _ _ (by omega)]; exact e25 k (by omega)⟩
          | exact ⟨Or.inl ⟨fun g => absurd g.1 (by rw [h7]; decide), by simp [es_upx], rm_thrown hm2 _⟩, fun k hk => by rw [es_upf _ _ _ _ (by omega)]; exact e25 k (by omega)⟩
end
