/-! ===== Behaviour: ticks, reached states, learning ===== -/
section
variable {l : Launch} {G : ez_G} {σ : es_S}
theorem lp_BH_fillTicks_21 {b e : Nat} (hb : sb_BH b e) {E : em_E} {P : Nat} (hw : em_wf P E) (hP4 : P ≤ 4) (hr : rc E e σ) (hright : em_right E) {r : Nat} (hr16 : r < 16) (h10 : σ b 10 = nI (2 ^ em_dl E (em_n E))) (hSat : ∀ s, s < 32 → em_Sat E (tb s) (tb r) (fun u => bt (σ (b + 2) (r * 24 + u)) s)) {s : Nat} (hs32 : s < 32) {σ1 : es_S} (hoff : ∀ k, k ≠ b + 3 → k ≠ b + 4 → σ1 k = σ k) (hex : ez_Ev l G X_BH_fillTicks 0 0 54 [some (.ref b), some (.int (nI r)), some (.int (nI s)), some (.int (nI (em_ou E s r))), none, none, none] [] (es_H σ1) (es_Q (es_V fun σ' => (∀ k, k ≠ b + 3 → k ≠ b + 4 → σ' k = σ k) ∧ (∀ x, (x < r * 32 ∨ r * 32 + 32 ≤ x) → σ' (b + 3) x = σ (b + 3) x ∧ σ' (b + 4) x = σ (b + 4) x) ∧ ∀ s, s < 2 ^ em_dl E (em_n E) → σ' (b + 3) (r * 32 + s) = nI (em_ou E s r) ∧ σ' (b + 4) (r * 32 + s) = nI (em_nx E s r)) es_no)) : ∀ (d : Nat) (q : Nat), 3 - q = d → q ≤ 3 → ez_Ev l G X_BH_fillTicks 0 0 21 [some (.ref b), some (.int (nI r)), some (.int (nI s)), some (.int (nI (em_or E (em_val E (tb s) (tb r)) q))), some (.int (nI q)), none, none] [] (es_H σ1) (es_Q (es_V fun σ' => (∀ k, k ≠ b + 3 → k ≠ b + 4 → σ' k = σ k) ∧ (∀ x, (x < r * 32 ∨ r * 32 + 32 ≤ x) → σ' (b + 3) x = σ (b + 3) x ∧ σ' (b + 4) x = σ (b + 4) x) ∧ ∀ s, s < 2 ^ em_dl E (em_n E) → σ' (b + 3) (r * 32 + s) = nI (em_ou E s r) ∧ σ' (b + 4) (r * 32 + s) = nI (em_nx E s r)) es_no) := by
  intro d
  induction d using Nat.strongRecOn with
  | _ d ih =>
    intro q hm hq
    have hn := hw.1
    have hbe := hb.ne
    have hr1 : rc E e σ1 := rc_off hr (fun k g1 g2 => hoff k (by omega) (by omega))
    have hd5 := hw.2.2.2.2.2.2
    have hsj := sj_nI hs32
    have hval : ∀ o : Option Nat, (∀ t, o = some t → t < em_n E) → em_vo (fun t => bt (σ1 (b + 2) (r * 24 + t)) (sj (nI s))) o = em_vo (em_val E (tb s) (tb r)) o := fun o ho => em_vo_congr fun t ht => by
      rw [hsj, hoff _ (by omega) (by omega)]
      exact (em_val_eq hw hright (hSat s hs32) (ho t ht)).symm
    refine ev_iload d_BH_fillTicks_21 rfl ?_
    refine ev_iconst (v := 3) d_BH_fillTicks_23 rfl ?_
    refine ev_icmp_ge d_BH_fillTicks_24 (fun h24 => ?_) (fun h24 => ?_)
    · rw [show (3 : Int32) = nI 3 from rfl, nI_leI (by omega) (by omega)] at h24
      have e3 : q = 3 := by omega
      subst e3
      rw [em_os_or]
      exact ev_mask [true, true, true, true, false, false, false] rfl hex
    · rw [show (3 : Int32) = nI 3 from rfl, nI_leI (by omega) (by omega), Nat.not_le] at h24
      refine ev_iload_n (i := 3) d_BH_fillTicks_27 rfl rfl ?_
      refine ev_aload_n (i := 0) d_BH_fillTicks_28 rfl rfl ?_
      refine ev_aload_n (i := 0) d_BH_fillTicks_29 rfl rfl ?_
      refine es_getR d_BH_fillTicks_30 f_BH_50 (sh_BH hb) rfl ?_
      refine ev_iload d_BH_fillTicks_33 rfl ?_
      refine es_cVI ls_BH_fillTicks_35 d_BH_fillTicks_35 (sh_ED hb.ed) (c_ED_outputAt hb.ed hr1 h24) rfl rfl (Nat.le_of_ble_eq_true rfl) (fun x35 σ35 h35 => ?_) (fun _ _ h => h.elim)
      obtain ⟨rfl, e35⟩ := h35
      rw [e35]
      refine ev_iload_n (i := 2) d_BH_fillTicks_38 rfl rfl ?_
      refine ev_iload_n (i := 1) d_BH_fillTicks_39 rfl rfl ?_
      refine es_cVI ls_BH_fillTicks_40 d_BH_fillTicks_40 (sh_BH hb) (c_BH_valueOf hb (fun t ht => by have := hw.2.2.2.1 q t ht; omega) hr16) rfl rfl (Nat.le_of_ble_eq_true rfl) (fun x40 σ40 h40 => ?_) (fun _ _ h => h.elim)
      obtain ⟨rfl, e40⟩ := h40
      rw [e40]
      refine ev_iload d_BH_fillTicks_43 rfl ?_
      refine ev_ishl d_BH_fillTicks_45 ?_
      refine ev_ior d_BH_fillTicks_46 ?_
      refine ev_istore_n (i := 3) d_BH_fillTicks_47 rfl (by decide) ?_
      dsimp only [List.set_cons_zero, List.set_cons_succ]
      refine ev_iinc d_BH_fillTicks_48 rfl (ez_inc _) (by decide) ?_
      dsimp only [List.set_cons_zero, List.set_cons_succ]
      refine ev_goto d_BH_fillTicks_51 ?_
      rw [hval _ (fun t ht => hw.2.2.2.1 q t ht), eb_bn, nI_orbit (em_or_lt E _ q) (bn_le _) (by omega)]
      exact ih _ (by omega) (q + 1) rfl (by omega)
theorem lp_BH_fillTicks_60 {b e : Nat} (hb : sb_BH b e) {E : em_E} {P : Nat} (hw : em_wf P E) (hP4 : P ≤ 4) (hr : rc E e σ) (hright : em_right E) {r : Nat} (hr16 : r < 16) (h10 : σ b 10 = nI (2 ^ em_dl E (em_n E))) (hSat : ∀ s, s < 32 → em_Sat E (tb s) (tb r) (fun u => bt (σ (b + 2) (r * 24 + u)) s)) {s : Nat} (hs32 : s < 32) {σ1 : es_S} (hoff : ∀ k, k ≠ b + 3 → k ≠ b + 4 → σ1 k = σ k) (hex : ez_Ev l G X_BH_fillTicks 0 0 113 [some (.ref b), some (.int (nI r)), some (.int (nI s)), some (.int (nI (em_ou E s r))), some (.int (nI (em_nx E s r))), none, none] [] (es_H σ1) (es_Q (es_V fun σ' => (∀ k, k ≠ b + 3 → k ≠ b + 4 → σ' k = σ k) ∧ (∀ x, (x < r * 32 ∨ r * 32 + 32 ≤ x) → σ' (b + 3) x = σ (b + 3) x ∧ σ' (b + 4) x = σ (b + 4) x) ∧ ∀ s, s < 2 ^ em_dl E (em_n E) → σ' (b + 3) (r * 32 + s) = nI (em_ou E s r) ∧ σ' (b + 4) (r * 32 + s) = nI (em_nx E s r)) es_no)) : ∀ (d : Nat) (q a : Nat), em_dl E (em_n E) - q = d → (q ≤ em_dl E (em_n E) ∧ a < 2 ^ q ∧ ∀ t, em_dl E t = q → em_nr E (em_val E (tb s) (tb r)) t = a) → ez_Ev l G X_BH_fillTicks 0 0 60 [some (.ref b), some (.int (nI r)), some (.int (nI s)), some (.int (nI (em_ou E s r))), some (.int (nI a)), some (.int (nI q)), none] [] (es_H σ1) (es_Q (es_V fun σ' => (∀ k, k ≠ b + 3 → k ≠ b + 4 → σ' k = σ k) ∧ (∀ x, (x < r * 32 ∨ r * 32 + 32 ≤ x) → σ' (b + 3) x = σ (b + 3) x ∧ σ' (b + 4) x = σ (b + 4) x) ∧ ∀ s, s < 2 ^ em_dl E (em_n E) → σ' (b + 3) (r * 32 + s) = nI (em_ou E s r) ∧ σ' (b + 4) (r * 32 + s) = nI (em_nx E s r)) es_no) := by
  intro d
  induction d using Nat.strongRecOn with
  | _ d ih =>
    intro q a hm hinv
    obtain ⟨hq, ha, hnr⟩ := hinv
    have hn := hw.1
    have hbe := hb.ne
    have hr1 : rc E e σ1 := rc_off hr (fun k g1 g2 => hoff k (by omega) (by omega))
    have hd5 := hw.2.2.2.2.2.2
    have hsj := sj_nI hs32
    have hval : ∀ o : Option Nat, (∀ t, o = some t → t < em_n E) → em_vo (fun t => bt (σ1 (b + 2) (r * 24 + t)) (sj (nI s))) o = em_vo (em_val E (tb s) (tb r)) o := fun o ho => em_vo_congr fun t ht => by
      rw [hsj, hoff _ (by omega) (by omega)]
      exact (em_val_eq hw hright (hSat s hs32) (ho t ht)).symm
    refine ev_iload d_BH_fillTicks_60 rfl ?_
    refine ev_aload_n (i := 0) d_BH_fillTicks_62 rfl rfl ?_
    refine es_getR d_BH_fillTicks_63 f_BH_50 (sh_BH hb) rfl ?_
    refine es_cVI ls_BH_fillTicks_66 d_BH_fillTicks_66 (sh_ED hb.ed) (c_ED_countDelays hb.ed) rfl rfl (Nat.le_of_ble_eq_true rfl) (fun x66 σ66 h66 => ?_) (fun _ _ h => h.elim)
    obtain ⟨rfl, e66⟩ := h66
    rw [e66]
    refine ev_icmp_ge d_BH_fillTicks_69 (fun h69 => ?_) (fun h69 => ?_)
    · rw [hr1.2.1, nI_leI (by omega) (by omega)] at h69
      have e3 : q = em_dl E (em_n E) := by omega
      have e4 : a = em_nx E s r := (hnr (em_n E) e3.symm).symm
      rw [e4]
      exact ev_mask [true, true, true, true, true, false, false] rfl hex
    · rw [hr1.2.1, nI_leI (by omega) (by omega), Nat.not_le] at h69
      obtain ⟨t, t1, t2, t3, t4⟩ := hr1.2.2.2.2.2.2.2.2 q h69
      have hnd : (if 0 < em_nd (em_k E t) then em_w E t 0 else none) = em_w E t 0 := by rw [t2]; rfl
      refine ev_aload_n (i := 0) d_BH_fillTicks_72 rfl rfl ?_
      refine es_getR d_BH_fillTicks_73 f_BH_50 (sh_BH hb) rfl ?_
      refine ev_aload_n (i := 0) d_BH_fillTicks_76 rfl rfl ?_
      refine es_getR d_BH_fillTicks_77 f_BH_50 (sh_BH hb) rfl ?_
      refine ev_iload d_BH_fillTicks_80 rfl ?_
      refine es_cVI ls_BH_fillTicks_82 d_BH_fillTicks_82 (sh_ED hb.ed) (c_ED_delayAt hb.ed hw hr1 h69) rfl rfl (Nat.le_of_ble_eq_true rfl) (fun x82 σ82 h82 => ?_) (fun _ _ h => h.elim)
      obtain ⟨rfl, e82⟩ := h82
      rw [e82, t4]
      refine ev_iconst (v := 0) d_BH_fillTicks_85 rfl ?_
      refine es_cVI ls_BH_fillTicks_86 d_BH_fillTicks_86 (sh_ED hb.ed) (c_ED_neededAt (i := 0) hb.ed hw hr1 t1 (by omega)) rfl rfl (Nat.le_of_ble_eq_true rfl) (fun x86 σ86 h86 => ?_) (fun _ _ h => h.elim)
      obtain ⟨rfl, e86⟩ := h86
      rw [e86, hnd]
      refine ev_istore d_BH_fillTicks_89 (by decide) ?_
      dsimp only [List.set_cons_zero, List.set_cons_succ]
      refine ev_iload d_BH_fillTicks_91 rfl ?_
      refine ev_aload_n (i := 0) d_BH_fillTicks_93 rfl rfl ?_
      refine ev_iload d_BH_fillTicks_94 rfl ?_
      refine ev_iload_n (i := 2) d_BH_fillTicks_96 rfl rfl ?_
      refine ev_iload_n (i := 1) d_BH_fillTicks_97 rfl rfl ?_
      refine es_cVI ls_BH_fillTicks_98 d_BH_fillTicks_98 (sh_BH hb) (c_BH_valueOf hb (fun u hu => by have := (hw.2.2.1 t 0 u hu).2; omega) hr16) rfl rfl (Nat.le_of_ble_eq_true rfl) (fun x98 σ98 h98 => ?_) (fun _ _ h => h.elim)
      obtain ⟨rfl, e98⟩ := h98
      rw [e98]
      refine ev_iload d_BH_fillTicks_101 rfl ?_
      refine ev_ishl d_BH_fillTicks_103 ?_
      refine ev_ior d_BH_fillTicks_104 ?_
      refine ev_istore d_BH_fillTicks_105 (by decide) ?_
      dsimp only [List.set_cons_zero, List.set_cons_succ]
      refine ev_iinc d_BH_fillTicks_107 rfl (ez_inc _) (by decide) ?_
      dsimp only [List.set_cons_zero, List.set_cons_succ]
      refine ev_goto d_BH_fillTicks_110 ?_
      refine ev_mask [true, true, true, true, true, true, false] rfl ?_
      rw [hval _ (fun u hu => (hw.2.2.1 t 0 u hu).2), eb_bn, nI_orbit ha (bn_le _) (by omega)]
      have e5 : em_nr E (em_val E (tb s) (tb r)) (t + 1) = a + bn (em_vo (em_val E (tb s) (tb r)) (em_w E t 0)) * 2 ^ q := by
        simp only [em_nr, t2, if_true, t3, hnr t t3]
      have e6 : em_dl E (t + 1) = q + 1 := by simp only [em_dl, t2, if_true, t3]
      refine ih _ (by omega) (q + 1) _ rfl ⟨by omega, ?_, fun u hu => ?_⟩
      · have := em_nr_lt E (em_val E (tb s) (tb r)) (t + 1)
        rw [e5, e6] at this
        exact this
      · rw [← e5]; exact em_nr_dl (hu.trans e6.symm)
theorem lp_BH_fillTicks_2 {b e : Nat} (hb : sb_BH b e) {E : em_E} {P : Nat} (hw : em_wf P E) (hP4 : P ≤ 4) (hr : rc E e σ) (hright : em_right E) {r : Nat} (hr16 : r < 16) (h10 : σ b 10 = nI (2 ^ em_dl E (em_n E))) (hSat : ∀ s, s < 32 → em_Sat E (tb s) (tb r) (fun u => bt (σ (b + 2) (r * 24 + u)) s)) : ∀ (d : Nat) (s : Nat) (σ1 : es_S), 2 ^ em_dl E (em_n E) - s = d → (s ≤ 2 ^ em_dl E (em_n E) ∧ (∀ k, k ≠ b + 3 → k ≠ b + 4 → σ1 k = σ k) ∧ (∀ x, (x < r * 32 ∨ r * 32 + 32 ≤ x) → σ1 (b + 3) x = σ (b + 3) x ∧ σ1 (b + 4) x = σ (b + 4) x) ∧ ∀ q, q < s → σ1 (b + 3) (r * 32 + q) = nI (em_ou E q r) ∧ σ1 (b + 4) (r * 32 + q) = nI (em_nx E q r)) → ez_Ev l G X_BH_fillTicks 0 0 2 [some (.ref b), some (.int (nI r)), some (.int (nI s)), none, none, none, none] [] (es_H σ1) (es_Q (es_V fun σ' => (∀ k, k ≠ b + 3 → k ≠ b + 4 → σ' k = σ k) ∧ (∀ x, (x < r * 32 ∨ r * 32 + 32 ≤ x) → σ' (b + 3) x = σ (b + 3) x ∧ σ' (b + 4) x = σ (b + 4) x) ∧ ∀ s, s < 2 ^ em_dl E (em_n E) → σ' (b + 3) (r * 32 + s) = nI (em_ou E s r) ∧ σ' (b + 4) (r * 32 + s) = nI (em_nx E s r)) es_no) := by
  intro d
  induction d using Nat.strongRecOn with
  | _ d ih =>
    intro s σ1 hm hinv
    obtain ⟨hs, hoff, hxx, hdone⟩ := hinv
    have hn := hw.1
    have hbe := hb.ne
    have hd5 := hw.2.2.2.2.2.2
    have h32 : 2 ^ em_dl E (em_n E) ≤ 2 ^ 5 := Nat.pow_le_pow_right (by omega) hd5
    have h101 : σ1 b 10 = nI (2 ^ em_dl E (em_n E)) := by rw [hoff b (by omega) (by omega)]; exact h10
    have hix : ∀ t, t < 32 → nI r * 32 + nI t = nI (r * 32 + t) := fun t ht => by rw [show (32 : Int32) = nI 32 from rfl, nI_mul, nI_add]
    refine ev_iload_n (i := 2) d_BH_fillTicks_2 rfl rfl ?_
    refine ev_aload_n (i := 0) d_BH_fillTicks_3 rfl rfl ?_
    refine es_getI d_BH_fillTicks_4 f_BH_40 (sh_BH hb) rfl ?_
    refine ev_icmp_ge d_BH_fillTicks_7 (fun h7 => ?_) (fun h7 => ?_)
    · rw [h101, nI_leI (by omega) (by omega)] at h7
      refine es_vret d_BH_fillTicks_144 rfl ⟨Nat.zero_le _, Nat.zero_le _⟩ ⟨rfl, ?_⟩
      exact ⟨hoff, hxx, fun q hq => hdone q (by omega)⟩
    · rw [h101, nI_leI (by omega) (by omega), Nat.not_le] at h7
      refine ev_iload_n (i := 2) d_BH_fillTicks_10 rfl rfl ?_
      refine ev_bipush (v := 32) d_BH_fillTicks_11 rfl ?_
      refine ev_icmp_ge d_BH_fillTicks_13 (fun h13 => ?_) (fun h13 => ?_)
      · rw [show (32 : Int32) = nI 32 from rfl, nI_leI (by omega) (by omega)] at h13
        omega
      · rw [show (32 : Int32) = nI 32 from rfl, nI_leI (by omega) (by omega), Nat.not_le] at h13
        refine ev_iconst (v := 0) d_BH_fillTicks_16 rfl ?_
        refine ev_istore_n (i := 3) d_BH_fillTicks_17 rfl (by decide) ?_
        dsimp only [List.set_cons_zero, List.set_cons_succ]
        refine ev_iconst (v := 0) d_BH_fillTicks_18 rfl ?_
        refine ev_istore d_BH_fillTicks_19 (by decide) ?_
        dsimp only [List.set_cons_zero, List.set_cons_succ]
        refine lp_BH_fillTicks_21 hb hw hP4 hr hright hr16 h10 hSat (s := s) h13 hoff ?_ _ 0 rfl (Nat.zero_le _)
        refine ev_iconst (v := 0) d_BH_fillTicks_54 rfl ?_
        refine ev_istore d_BH_fillTicks_55 (by decide) ?_
        dsimp only [List.set_cons_zero, List.set_cons_succ]
        refine ev_iconst (v := 0) d_BH_fillTicks_57 rfl ?_
        refine ev_istore d_BH_fillTicks_58 (by decide) ?_
        dsimp only [List.set_cons_zero, List.set_cons_succ]
        refine lp_BH_fillTicks_60 hb hw hP4 hr hright hr16 h10 hSat (s := s) h13 hoff ?_ _ 0 0 rfl ⟨Nat.zero_le _, by decide, fun t ht => by rw [em_nr_dl (t' := 0) ht]; rfl⟩
        refine ev_aload_n (i := 0) d_BH_fillTicks_113 rfl rfl ?_
        refine es_getR d_BH_fillTicks_114 f_BH_18 (sh_BH hb) rfl ?_
        refine ev_iload_n (i := 1) d_BH_fillTicks_117 rfl rfl ?_
        refine ev_bipush (v := 32) d_BH_fillTicks_118 rfl ?_
        refine ev_imul d_BH_fillTicks_120 ?_
        refine ev_iload_n (i := 2) d_BH_fillTicks_121 rfl rfl ?_
        refine ev_iadd d_BH_fillTicks_122 ?_
        refine ev_iload_n (i := 3) d_BH_fillTicks_123 rfl rfl ?_
        refine es_iast d_BH_fillTicks_124 (sa_BH_outs hb) (by rw [hix s h13]; exact ez_vinN (by omega) (by omega)) ?_
        refine ev_aload_n (i := 0) d_BH_fillTicks_125 rfl rfl ?_
        refine es_getR d_BH_fillTicks_126 f_BH_21 (sh_BH hb) rfl ?_
        refine ev_iload_n (i := 1) d_BH_fillTicks_129 rfl rfl ?_
        refine ev_bipush (v := 32) d_BH_fillTicks_130 rfl ?_
        refine ev_imul d_BH_fillTicks_132 ?_
        refine ev_iload_n (i := 2) d_BH_fillTicks_133 rfl rfl ?_
        refine ev_iadd d_BH_fillTicks_134 ?_
        refine ev_iload d_BH_fillTicks_135 rfl ?_
        refine es_iast d_BH_fillTicks_137 (sa_BH_nextStates hb) (by rw [hix s h13]; exact ez_vinN (by omega) (by omega)) ?_
        refine ev_iinc d_BH_fillTicks_138 rfl (ez_inc _) (by decide) ?_
        dsimp only [List.set_cons_zero, List.set_cons_succ]
        refine ev_goto d_BH_fillTicks_141 ?_
        refine ev_mask [true, true, true, false, false, false, false] rfl ?_
        rw [hix s h13, nI_clamp (by omega)]
        refine ih _ (by omega) (s + 1) _ rfl ⟨by omega, fun k k1 k2 => by rw [es_upf _ _ _ _ k2, es_upf _ _ _ _ k1]; exact hoff k k1 k2, fun x hx => ?_, fun q hq => ?_⟩
        · simp only [es_upx, show ¬ b + 3 = b + 4 by omega, show ¬ b + 4 = b + 3 by omega, show ¬ x = r * 32 + s by omega, if_true, if_false]; exact hxx x hx
        · by_cases hqs : q = s
          · subst hqs; simp only [es_upx, show ¬ b + 3 = b + 4 by omega, show ¬ b + 4 = b + 3 by omega, if_true, if_false]; exact ⟨trivial, trivial⟩
          · simp only [es_upx, show ¬ b + 3 = b + 4 by omega, show ¬ b + 4 = b + 3 by omega, show ¬ r * 32 + q = r * 32 + s by omega, if_true, if_false]; exact hdone q (by omega)
theorem c_BH_fillTicks {b e : Nat} (hb : sb_BH b e) {E : em_E} {P : Nat} (hw : em_wf P E) (hP4 : P ≤ 4) (hr : rc E e σ) (hright : em_right E) {r : Nat} (hr16 : r < 16) (h10 : σ b 10 = nI (2 ^ em_dl E (em_n E))) (hSat : ∀ s, s < 32 → em_Sat E (tb s) (tb r) (fun u => bt (σ (b + 2) (r * 24 + u)) s)) : ez_Ct l G X_BH_fillTicks [.ref b, .int (nI r)] (es_H σ) (es_Q (es_V fun σ' => (∀ k, k ≠ b + 3 → k ≠ b + 4 → σ' k = σ k) ∧ (∀ x, (x < r * 32 ∨ r * 32 + 32 ≤ x) → σ' (b + 3) x = σ (b + 3) x ∧ σ' (b + 4) x = σ (b + 4) x) ∧ ∀ s, s < 2 ^ em_dl E (em_n E) → σ' (b + 3) (r * 32 + s) = nI (em_ou E s r) ∧ σ' (b + 4) (r * 32 + s) = nI (em_nx E s r)) es_no) := by
  refine es_Ct_of (ls := [some (.ref b), some (.int (nI r)), none, none, none, none, none]) ok_BH_fillTicks rfl (Nat.le_of_ble_eq_true rfl) rfl ?_
  refine ev_iconst (v := 0) d_BH_fillTicks_0 rfl ?_
  refine ev_istore_n (i := 2) d_BH_fillTicks_1 rfl (by decide) ?_
  dsimp only [List.set_cons_zero, List.set_cons_succ]
  exact lp_BH_fillTicks_2 hb hw hP4 hr hright hr16 h10 hSat _ 0 σ rfl ⟨Nat.zero_le _, fun _ _ _ => rfl, fun _ _ => ⟨rfl, rfl⟩, fun q hq => by omega⟩
end
