/-! ===== Model: reached, state, least ===== -/
section
variable {l : Launch} {G : ez_G} {σ : es_S}
theorem rm_57 {S : sp_S} {σ σ' : es_S} (h : rm S σ) (hs : ∀ k, k ≠ 55 → k ≠ 56 → k ≠ 57 → σ' k = σ k) : rm S σ' := rm_off h (by rw [hs 46 (by decide) (by decide) (by decide)]) (fun k g1 g2 => hs k (by omega) (by omega) (by omega))
theorem rm_58 {S : sp_S} {σ σ' : es_S} (h : rm S σ) (hs : ∀ k, k ≠ 58 → σ' k = σ k) : rm S σ' := rm_off h (by rw [hs 46 (by decide)]) (fun k g1 g2 => hs k (by omega))
theorem rm_br {S : sp_S} {σ : es_S} (h : rm S σ) : ∀ r, r < 2 ^ sP S → ∃ c : Bool, σ 47 r = eb c ∧ (c = false ↔ sop S r) := fun r hr => ⟨bd (sB S r), h.2.2.1 r hr, by rw [bd_f]; exact ⟨fun g => ⟨hr, g⟩, fun g => g.2⟩⟩
theorem em_ct_more {p : Nat → Prop} {n : Nat} (h : ∀ x, n ≤ x → ¬ p x) : ∀ d, em_ct p (n + d) = em_ct p n := by
  intro d
  induction d with
  | zero => rfl
  | succ d ih => rw [← Nat.add_assoc, (em_ct_succ p (n + d)).2 (h _ (by omega)), ih]
theorem lp_MD_reachedCount_4 {e : Nat} (he : e < 2) {pr : Nat → Prop} (hxc : xc (fun s => bd (pr s)) e σ) : ∀ (d : Nat) (s : Nat), 32 - s = d → (s ≤ 32) → ez_Ev l G X_MD_reachedCount 0 0 4 [some (.ref 46), some (.int (nI e)), some (.int (nI (em_ct pr s))), some (.int (nI s))] [] (es_H σ) (es_Q (es_I fun y σ' => y = nI (em_ct pr 32) ∧ σ' = σ) es_no) := by
  intro d
  induction d using Nat.strongRecOn with
  | _ d ih =>
    intro s hmm hs
    have hct := em_ct_n pr s
    have hsu := em_ct_succ pr s
    refine ev_iload_n (i := 3) d_MD_reachedCount_4 rfl rfl ?_
    refine ev_bipush (v := 32) d_MD_reachedCount_5 rfl ?_
    refine ev_icmp_ge d_MD_reachedCount_7 (fun h7 => ?_) (fun h7 => ?_)
    · rw [show (32 : Int32) = nI 32 from rfl, nI_leI (by omega) (by omega)] at h7
      refine ev_iload_n (i := 2) d_MD_reachedCount_38 rfl rfl ?_
      refine es_iret d_MD_reachedCount_39 rfl ⟨Nat.zero_le _, Nat.zero_le _⟩ ⟨_, rfl, ?_⟩
      exact ⟨by rw [show s = 32 by omega], rfl⟩
    · rw [show (32 : Int32) = nI 32 from rfl, nI_leI (by omega) (by omega), Nat.not_le] at h7
      refine ev_aload_n (i := 0) d_MD_reachedCount_10 rfl rfl ?_
      refine es_getR d_MD_reachedCount_11 f_MD_41 rfl rfl ?_
      refine ev_bipush (v := 32) d_MD_reachedCount_14 rfl ?_
      refine ev_iload_n (i := 1) d_MD_reachedCount_16 rfl rfl ?_
      refine ev_imul d_MD_reachedCount_17 ?_
      refine ev_iload_n (i := 3) d_MD_reachedCount_18 rfl rfl ?_
      refine ev_iadd d_MD_reachedCount_19 ?_
      rw [ix32]
      refine es_zald d_MD_reachedCount_20 rfl (ez_vinN (by omega) (by omega)) ?_
      rw [nI_clamp (by omega), hxc s h7]
      refine ev_if_eq d_MD_reachedCount_21 (fun h21 => ?_) (fun h21 => ?_)
      · rw [eb_0, bd_f] at h21
        refine ev_iload_n (i := 2) d_MD_reachedCount_30 rfl rfl ?_
        refine ev_istore_n (i := 2) d_MD_reachedCount_31 rfl (by decide) ?_
        dsimp only [List.set_cons_zero, List.set_cons_succ]
        refine ev_iinc d_MD_reachedCount_32 rfl (ez_inc _) (by decide) ?_
        dsimp only [List.set_cons_zero, List.set_cons_succ]
        refine ev_goto d_MD_reachedCount_35 ?_
        first
          | (rw [← hsu.1 h21]; exact ih _ (by omega) (s + 1) rfl (by omega))
          | (rw [← hsu.2 h21]; exact ih _ (by omega) (s + 1) rfl (by omega))
      · rw [eb_0, Bool.not_eq_false, bd_t] at h21
        refine ev_iload_n (i := 2) d_MD_reachedCount_24 rfl rfl ?_
        refine ev_iconst (v := 1) d_MD_reachedCount_25 rfl ?_
        refine ev_iadd d_MD_reachedCount_26 ?_
        rw [nI_1]
        refine ev_goto d_MD_reachedCount_27 ?_
        refine ev_istore_n (i := 2) d_MD_reachedCount_31 rfl (by decide) ?_
        dsimp only [List.set_cons_zero, List.set_cons_succ]
        refine ev_iinc d_MD_reachedCount_32 rfl (ez_inc _) (by decide) ?_
        dsimp only [List.set_cons_zero, List.set_cons_succ]
        refine ev_goto d_MD_reachedCount_35 ?_
        first
          | (rw [← hsu.1 h21]; exact ih _ (by omega) (s + 1) rfl (by omega))
          | (rw [← hsu.2 h21]; exact ih _ (by omega) (s + 1) rfl (by omega))
theorem c_MD_reachedCount {e : Nat} (he : e < 2) {pr : Nat → Prop} (hxc : xc (fun s => bd (pr s)) e σ) : ez_Ct l G X_MD_reachedCount [.ref 46, .int (nI e)] (es_H σ) (es_Q (es_I fun y σ' => y = nI (em_ct pr 32) ∧ σ' = σ) es_no) := by
  refine es_Ct_of (ls := [some (.ref 46), some (.int (nI e)), none, none]) ok_MD_reachedCount rfl (Nat.le_of_ble_eq_true rfl) rfl ?_
  refine ev_iconst (v := 0) d_MD_reachedCount_0 rfl ?_
  refine ev_istore_n (i := 2) d_MD_reachedCount_1 rfl (by decide) ?_
  dsimp only [List.set_cons_zero, List.set_cons_succ]
  refine ev_iconst (v := 0) d_MD_reachedCount_2 rfl ?_
  refine ev_istore_n (i := 3) d_MD_reachedCount_3 rfl (by decide) ?_
  dsimp only [List.set_cons_zero, List.set_cons_succ]
  exact lp_MD_reachedCount_4 he hxc _ 0 rfl (Nat.zero_le _)
theorem c_MD_reached {S : sp_S} (hm : rm S σ) {e : Int32} : ez_Ct l G X_MD_reached [.ref 46, .int e] (es_H σ) (es_Q (es_I fun y σ' => mR S (g_ed e) (em_right (sE S e)) (v_reached S e) (S) y σ' ∧ ∀ k, (k < 46 ∨ 63 < k) → σ' k = σ k) es_no) := by
  refine es_Ct_of (ls := [some (.ref 46), some (.int e)]) ok_MD_reached rfl (Nat.le_of_ble_eq_true rfl) rfl ?_
  refine ev_aload_n (i := 0) d_MD_reached_0 rfl rfl ?_
  refine ev_iload_n (i := 1) d_MD_reached_1 rfl rfl ?_
  refine ev_iconst (v := 0) d_MD_reached_2 rfl ?_
  refine ev_iconst (v := 1) d_MD_reached_3 rfl ?_
  refine es_cSI ls_MD_reached_4 d_MD_reached_4 c_MD_in rfl rfl (Nat.le_of_ble_eq_true rfl) (fun x4 σ4 h4 => ?_) (fun _ _ h => h.elim)
  obtain ⟨rfl, e4⟩ := h4
  rw [e4, ei1]
  refine ev_aload_n (i := 0) d_MD_reached_7 rfl rfl ?_
  refine ev_iload_n (i := 1) d_MD_reached_8 rfl rfl ?_
  refine es_cVI ls_MD_reached_9 d_MD_reached_9 rfl (c_MD_isRight hm) rfl rfl (Nat.le_of_ble_eq_true rfl) (fun x9 σ9 h9 => ?_) (fun _ _ h => h.elim)
  obtain ⟨rfl, e9⟩ := h9
  have hm2 := rm_54 hm e9
  refine es_cVI ls_MD_reached_12 d_MD_reached_12 rfl (c_MD_goes (a := ew e 2)) rfl rfl (Nat.le_of_ble_eq_true rfl) (fun x12 σ12 h12 => ?_) (fun _ _ h => h.elim)
  obtain ⟨rfl, rfl⟩ := h12
  refine ev_if_ne d_MD_reached_15 (fun h15 => ?_) (fun h15 => ?_)
  · rw [eb_0, Bool.not_eq_false, Bool.and_eq_true, bd_t] at h15
    have hri := h15.2.2
    rw [if_pos h15.1, if_pos (bd_t.mpr h15.2)]
    obtain ⟨j, hj, rfl, hj2⟩ := ew_ex (n := 2) h15.1 (by omega)
    have hw := sE_wf hm.1 (nI j)
    have hm3 := rm_thrown hm2 0
    have hmd := rm_md hm3 hj
    refine ev_aload_n (i := 0) d_MD_reached_20 rfl rfl ?_
    refine ev_iload_n (i := 1) d_MD_reached_21 rfl rfl ?_
    refine es_cVV ls_MD_reached_22 d_MD_reached_22 rfl (c_MD_explore hw hj hmd hm.1.1.2 hri hm3.2.1 (op := sop S) (fun r hr => hr.1) (rm_br hm3)) rfl rfl (Nat.le_of_ble_eq_true rfl) (fun σ22 h22 => ?_) (fun _ _ h => h.elim)
    obtain ⟨x1, x2, x3, x4, x5⟩ := h22
    have hm4 := rm_57 hm3 x5
    have ho4 : ∀ k, (k < 46 ∨ 63 < k) → σ22 k = σ k := fun k hk => by rw [x5 k (by omega) (by omega) (by omega), es_upf _ _ _ _ (by omega)]; exact e9 k (by omega)
    have ht4 : σ22 46 0 = 0 := by rw [x5 46 (by decide) (by decide) (by decide)]; simp [es_upx]
    refine ev_aload_n (i := 0) d_MD_reached_25 rfl rfl ?_
    refine ev_iload_n (i := 1) d_MD_reached_26 rfl rfl ?_
    refine es_cVI ls_MD_reached_27 d_MD_reached_27 rfl (c_MD_reachedCount hj x2) rfl rfl (Nat.le_of_ble_eq_true rfl) (fun x27 σ27 h27 => ?_) (fun _ _ h => h.elim)
    obtain ⟨rfl, e27⟩ := h27
    rw [e27]
    refine es_iret d_MD_reached_30 rfl ⟨Nat.zero_le _, Nat.zero_le _⟩ ⟨_, rfl, ?_⟩
    exact ⟨Or.inr (Or.inr ⟨h15.1, hri, ht4, rfl, hm4⟩), ho4⟩
  · rw [eb_0] at h15
    refine ev_iconst (v := 0) d_MD_reached_18 rfl ?_
    refine es_iret d_MD_reached_19 rfl ⟨Nat.zero_le _, Nat.zero_le _⟩ ⟨_, rfl, ?_⟩
    by_cases hee : ew e 2 = true
    · have hb : bd (ew e 2 = true ∧ em_right (sE S e)) = false := (Bool.and_eq_false_iff.mp h15).resolve_left (by rw [hee]; decide)
      rw [if_pos hee, hb, if_neg (by decide)]
      exact ⟨Or.inr (Or.inl ⟨hee, fun g => bd_f.mp hb ⟨hee, g⟩, by simp [es_upx], rm_thrown hm2 _⟩), fun k hk => by rw [es_upf _ _ _ _ (by omega)]; exact e9 k (by omega)⟩
    · rw [if_neg hee]
      exact ⟨Or.inl ⟨fun g => hee g, by simp [es_upx], rm_thrown hm2 _⟩, fun k hk => by rw [es_upf _ _ _ _ (by omega)]; exact e9 k (by omega)⟩
theorem lp_MD_state_42 {e : Nat} (he : e < 2) {pr : Nat → Prop} (hxc : xc (fun s => bd (pr s)) e σ) {k : Nat} (hk : k < 2 ^ 31) {Qy : Int32 → es_S → Prop} (hQ : Qy (en (em_nth pr 32 k)) σ) : ∀ (d : Nat) (s : Nat), 32 - s = d → (s ≤ 32 ∧ em_ct pr s ≤ k ∧ ∀ u, u < s → ¬ (pr u ∧ em_ct pr u = k)) → ez_Ev l G X_MD_state 0 0 42 [some (.ref 46), some (.int (nI e)), some (.int (nI k)), some (.int (nI (k - em_ct pr s))), some (.int (nI s))] [] (es_H σ) (es_Q (es_I Qy) es_no) := by
  intro d
  induction d using Nat.strongRecOn with
  | _ d ih =>
    intro s hmm hinv
    obtain ⟨hs, hle, hno⟩ := hinv
    have hct := em_ct_n pr s
    have hsu := em_ct_succ pr s
    refine ev_iload d_MD_state_42 rfl ?_
    refine ev_bipush (v := 32) d_MD_state_44 rfl ?_
    refine ev_icmp_ge d_MD_state_46 (fun h46 => ?_) (fun h46 => ?_)
    · rw [show (32 : Int32) = nI 32 from rfl, nI_leI (by omega) (by omega)] at h46
      refine ev_iconst (v := (-1)) d_MD_state_80 rfl ?_
      refine es_iret d_MD_state_81 rfl ⟨Nat.zero_le _, Nat.zero_le _⟩ ⟨_, rfl, ?_⟩
      have h9 : em_nth pr 32 k = none := em_fst_none (fun u hu => hno u (by omega))
      rw [h9] at hQ
      exact hQ
    · rw [show (32 : Int32) = nI 32 from rfl, nI_leI (by omega) (by omega), Nat.not_le] at h46
      refine ev_aload_n (i := 0) d_MD_state_49 rfl rfl ?_
      refine es_getR d_MD_state_50 f_MD_41 rfl rfl ?_
      refine ev_bipush (v := 32) d_MD_state_53 rfl ?_
      refine ev_iload_n (i := 1) d_MD_state_55 rfl rfl ?_
      refine ev_imul d_MD_state_56 ?_
      refine ev_iload d_MD_state_57 rfl ?_
      refine ev_iadd d_MD_state_59 ?_
      rw [ix32]
      refine es_zald d_MD_state_60 rfl (ez_vinN (by omega) (by omega)) ?_
      rw [nI_clamp (by omega), hxc s h46]
      refine ev_if_eq d_MD_state_61 (fun h61 => ?_) (fun h61 => ?_)
      · rw [eb_0, bd_f] at h61
        refine ev_iinc d_MD_state_74 rfl (ez_inc _) (by decide) ?_
        dsimp only [List.set_cons_zero, List.set_cons_succ]
        refine ev_goto d_MD_state_77 ?_
        first
          | (have h9 := hsu.1 h61
             refine ih _ (by omega) (s + 1) rfl ⟨by omega, by omega, fun u hu => ?_⟩
             by_cases hus : u = s
             · rw [hus]; intro g; omega
             · exact hno u (by omega))
          | (have h9 := hsu.2 h61
             rw [← h9]
             refine ih _ (by omega) (s + 1) rfl ⟨by omega, by omega, fun u hu => ?_⟩
             by_cases hus : u = s
             · rw [hus]; exact fun g => h61 g.1
             · exact hno u (by omega))
      · rw [eb_0, Bool.not_eq_false, bd_t] at h61
        refine ev_iload_n (i := 3) d_MD_state_64 rfl rfl ?_
        refine ev_if_ne d_MD_state_65 (fun h65 => ?_) (fun h65 => ?_)
        · rw [show (0 : Int32) = nI 0 from rfl, nI_eq (by omega) (by omega)] at h65
          refine ev_iinc d_MD_state_71 rfl (show nI (k - em_ct pr s) + Int32.ofInt (-1) = nI (k - em_ct pr (s + 1)) from by rw [show Int32.ofInt (-1) = -1 from rfl, sb_m1 (by omega), hsu.1 h61]; congr 1) (by decide) ?_
          dsimp only [List.set_cons_zero, List.set_cons_succ]
          refine ev_iinc d_MD_state_74 rfl (ez_inc _) (by decide) ?_
          dsimp only [List.set_cons_zero, List.set_cons_succ]
          refine ev_goto d_MD_state_77 ?_
          first
            | (have h9 := hsu.1 h61
               refine ih _ (by omega) (s + 1) rfl ⟨by omega, by omega, fun u hu => ?_⟩
               by_cases hus : u = s
               · rw [hus]; intro g; omega
               · exact hno u (by omega))
            | (have h9 := hsu.2 h61
               rw [← h9]
               refine ih _ (by omega) (s + 1) rfl ⟨by omega, by omega, fun u hu => ?_⟩
               by_cases hus : u = s
               · rw [hus]; exact fun g => h61 g.1
               · exact hno u (by omega))
        · rw [show (0 : Int32) = nI 0 from rfl, nI_eq (by omega) (by omega)] at h65
          refine ev_iload d_MD_state_68 rfl ?_
          refine es_iret d_MD_state_70 rfl ⟨Nat.zero_le _, Nat.zero_le _⟩ ⟨_, rfl, ?_⟩
          have h9 : em_nth pr 32 k = some s := em_fst_some (p := fun t => pr t ∧ em_ct pr t = k) ⟨h61, by omega⟩ hno h46
          rw [h9] at hQ
          exact hQ
theorem c_MD_state {S : sp_S} (hm : rm S σ) {e x : Int32} : ez_Ct l G X_MD_state [.ref 46, .int e, .int x] (es_H σ) (es_Q (es_I fun y σ' => mR S (g_state e x) (em_right (sE S e)) (v_state S e x) (S) y σ' ∧ ∀ k, (k < 46 ∨ 63 < k) → σ' k = σ k) es_no) := by
  refine es_Ct_of (ls := [some (.ref 46), some (.int e), some (.int x), none, none]) ok_MD_state rfl (Nat.le_of_ble_eq_true rfl) rfl ?_
  refine ev_aload_n (i := 0) d_MD_state_0 rfl rfl ?_
  refine ev_iload_n (i := 1) d_MD_state_1 rfl rfl ?_
  refine ev_iconst (v := 0) d_MD_state_2 rfl ?_
  refine ev_iconst (v := 1) d_MD_state_3 rfl ?_
  refine es_cSI ls_MD_state_4 d_MD_state_4 c_MD_in rfl rfl (Nat.le_of_ble_eq_true rfl) (fun x4 σ4 h4 => ?_) (fun _ _ h => h.elim)
  obtain ⟨rfl, e4⟩ := h4
  rw [e4, ei1]
  refine ev_if_eq d_MD_state_7 (fun h7 => ?_) (fun h7 => ?_)
  · rw [eb_0] at h7
    refine ev_iconst (v := 0) d_MD_state_18 rfl ?_
    refine ev_aload_n (i := 0) d_MD_state_19 rfl rfl ?_
    refine ev_iload_n (i := 1) d_MD_state_20 rfl rfl ?_
    refine es_cVI ls_MD_state_21 d_MD_state_21 rfl (c_MD_isRight hm) rfl rfl (Nat.le_of_ble_eq_true rfl) (fun x21 σ21 h21 => ?_) (fun _ _ h => h.elim)
    obtain ⟨rfl, e21⟩ := h21
    have hm2 := rm_54 hm e21
    refine es_cVI ls_MD_state_24 d_MD_state_24 rfl c_MD_goes0 rfl rfl (Nat.le_of_ble_eq_true rfl) (fun x24 σ24 h24 => ?_) (fun _ _ h => h.elim)
    obtain ⟨rfl, rfl⟩ := h24
    refine ev_if_ne d_MD_state_27 (fun h => absurd h (by decide)) (fun _ => ?_)
    refine ev_iconst (v := 0) d_MD_state_30 rfl ?_
    refine es_iret d_MD_state_31 rfl ⟨Nat.zero_le _, Nat.zero_le _⟩ ⟨_, rfl, ?_⟩
    first
      | (rw [h27]; exact ⟨Or.inr (Or.inl ⟨⟨h7, Int32.not_lt.mp h11⟩, fun g => bd_f.mp h27 ⟨h7, g⟩, by simp [es_upx], rm_thrown hm2 _⟩), fun k hk => by rw [es_upf _ _ _ _ (by omega)]; exact e21 k (by omega)⟩)
      | exact ⟨Or.inl ⟨fun g => h11 |> Int32.not_le.mpr |> (fun q => q g.2), by simp [es_upx], rm_thrown hm2 _⟩, fun k hk => by rw [es_upf _ _ _ _ (by omega)]; exact e21 k (by omega)⟩
      | exact ⟨Or.inl ⟨fun g => absurd g.1 (by rw [h7]; decide), by simp [es_upx], rm_thrown hm2 _⟩, fun k hk => by rw [es_upf _ _ _ _ (by omega)]; exact e21 k (by omega)⟩
  · rw [eb_0, Bool.not_eq_false] at h7
    refine ev_iload_n (i := 2) d_MD_state_10 rfl rfl ?_
    refine ev_if_lt d_MD_state_11 (fun h11 => ?_) (fun h11 => ?_)
    · refine ev_iconst (v := 0) d_MD_state_18 rfl ?_
      refine ev_aload_n (i := 0) d_MD_state_19 rfl rfl ?_
      refine ev_iload_n (i := 1) d_MD_state_20 rfl rfl ?_
      refine es_cVI ls_MD_state_21 d_MD_state_21 rfl (c_MD_isRight hm) rfl rfl (Nat.le_of_ble_eq_true rfl) (fun x21 σ21 h21 => ?_) (fun _ _ h => h.elim)
      obtain ⟨rfl, e21⟩ := h21
      have hm2 := rm_54 hm e21
      refine es_cVI ls_MD_state_24 d_MD_state_24 rfl c_MD_goes0 rfl rfl (Nat.le_of_ble_eq_true rfl) (fun x24 σ24 h24 => ?_) (fun _ _ h => h.elim)
      obtain ⟨rfl, rfl⟩ := h24
      refine ev_if_ne d_MD_state_27 (fun h => absurd h (by decide)) (fun _ => ?_)
      refine ev_iconst (v := 0) d_MD_state_30 rfl ?_
      refine es_iret d_MD_state_31 rfl ⟨Nat.zero_le _, Nat.zero_le _⟩ ⟨_, rfl, ?_⟩
      first
        | (rw [h27]; exact ⟨Or.inr (Or.inl ⟨⟨h7, Int32.not_lt.mp h11⟩, fun g => bd_f.mp h27 ⟨h7, g⟩, by simp [es_upx], rm_thrown hm2 _⟩), fun k hk => by rw [es_upf _ _ _ _ (by omega)]; exact e21 k (by omega)⟩)
        | exact ⟨Or.inl ⟨fun g => h11 |> Int32.not_le.mpr |> (fun q => q g.2), by simp [es_upx], rm_thrown hm2 _⟩, fun k hk => by rw [es_upf _ _ _ _ (by omega)]; exact e21 k (by omega)⟩
        | exact ⟨Or.inl ⟨fun g => absurd g.1 (by rw [h7]; decide), by simp [es_upx], rm_thrown hm2 _⟩, fun k hk => by rw [es_upf _ _ _ _ (by omega)]; exact e21 k (by omega)⟩
    · refine ev_iconst (v := 1) d_MD_state_14 rfl ?_
      refine ev_goto d_MD_state_15 ?_
      refine ev_aload_n (i := 0) d_MD_state_19 rfl rfl ?_
      refine ev_iload_n (i := 1) d_MD_state_20 rfl rfl ?_
      refine es_cVI ls_MD_state_21 d_MD_state_21 rfl (c_MD_isRight hm) rfl rfl (Nat.le_of_ble_eq_true rfl) (fun x21 σ21 h21 => ?_) (fun _ _ h => h.elim)
      obtain ⟨rfl, e21⟩ := h21
      have hm2 := rm_54 hm e21
      refine es_cVI ls_MD_state_24 d_MD_state_24 rfl (c_MD_goes (a := true)) rfl rfl (Nat.le_of_ble_eq_true rfl) (fun x24 σ24 h24 => ?_) (fun _ _ h => h.elim)
      obtain ⟨rfl, rfl⟩ := h24
      rw [Bool.true_and, if_pos rfl]
      refine ev_if_ne d_MD_state_27 (fun h27 => ?_) (fun h27 => ?_)
      · rw [eb_0, Bool.not_eq_false] at h27
        have hgd : g_state e x := ⟨h7, Int32.not_lt.mp h11⟩
        have hri := (bd_t.mp h27).2
        rw [h27, if_pos rfl]
        obtain ⟨j, hj, rfl, hj2⟩ := ew_ex (n := 2) h7 (by omega)
        obtain ⟨jk, hjk, rfl, hjk2⟩ := g0_ex hgd.2
        have hw := sE_wf hm.1 (nI j)
        have hm3 := rm_thrown hm2 0
        have hmd := rm_md hm3 hj
        refine ev_aload_n (i := 0) d_MD_state_32 rfl rfl ?_
        refine ev_iload_n (i := 1) d_MD_state_33 rfl rfl ?_
        refine es_cVV ls_MD_state_34 d_MD_state_34 rfl (c_MD_explore hw hj hmd hm.1.1.2 hri hm3.2.1 (op := sop S) (fun r hr => hr.1) (rm_br hm3)) rfl rfl (Nat.le_of_ble_eq_true rfl) (fun σ34 h34 => ?_) (fun _ _ h => h.elim)
        obtain ⟨x1, x2, x3, x4, x5⟩ := h34
        have hm4 := rm_57 hm3 x5
        refine ev_iload_n (i := 2) d_MD_state_37 rfl rfl ?_
        refine ev_istore_n (i := 3) d_MD_state_38 rfl (by decide) ?_
        dsimp only [List.set_cons_zero, List.set_cons_succ]
        refine ev_iconst (v := 0) d_MD_state_39 rfl ?_
        refine ev_istore d_MD_state_40 (by decide) ?_
        dsimp only [List.set_cons_zero, List.set_cons_succ]
        refine lp_MD_state_42 hj x2 hjk ?_ _ 0 rfl ⟨by omega, Nat.zero_le _, fun u hu => absurd hu (Nat.not_lt_zero _)⟩
        refine ⟨Or.inr (Or.inr ⟨hgd, hri, by rw [x5 46 (by decide) (by decide) (by decide)]; simp [es_upx], ?_, hm4⟩), fun k hk => by rw [x5 k (by omega) (by omega) (by omega), es_upf _ _ _ _ (by omega)]; exact e21 k (by omega)⟩
        unfold v_state
        rw [hjk2]
        rfl
      · rw [eb_0] at h27
        refine ev_iconst (v := 0) d_MD_state_30 rfl ?_
        refine es_iret d_MD_state_31 rfl ⟨Nat.zero_le _, Nat.zero_le _⟩ ⟨_, rfl, ?_⟩
        first
          | (rw [h27]; exact ⟨Or.inr (Or.inl ⟨⟨h7, Int32.not_lt.mp h11⟩, fun g => bd_f.mp h27 ⟨h7, g⟩, by simp [es_upx], rm_thrown hm2 _⟩), fun k hk => by rw [es_upf _ _ _ _ (by omega)]; exact e21 k (by omega)⟩)
          | exact ⟨Or.inl ⟨fun g => h11 |> Int32.not_le.mpr |> (fun q => q g.2), by simp [es_upx], rm_thrown hm2 _⟩, fun k hk => by rw [es_upf _ _ _ _ (by omega)]; exact e21 k (by omega)⟩
          | exact ⟨Or.inl ⟨fun g => absurd g.1 (by rw [h7]; decide), by simp [es_upx], rm_thrown hm2 _⟩, fun k hk => by rw [es_upf _ _ _ _ (by omega)]; exact e21 k (by omega)⟩
/-- the model's marks of pairs told apart -/
def ac (a : Nat → Bool) (σ : es_S) : Prop := ∀ k, k < 1024 → σ 58 k = eb (a k)
theorem lp_MD_tells_6 {X : em_E} {P : Nat} (hw : em_wf P X) {e : Nat} (he : e < 2) (hP4 : P ≤ 4) (h1c : σ 46 1 = nI P) {op : Nat → Prop} (hop : ∀ r, op r → r < 2 ^ P) (hbr : ∀ r, r < 2 ^ P → ∃ c : Bool, σ 47 r = eb c ∧ (c = false ↔ op r)) (hxt : xt X P e σ) {a : Nat → Bool} (hac : ac a σ) {s t : Nat} (hs : s < 2 ^ em_dl X (em_n X)) (ht : t < 2 ^ em_dl X (em_n X)) : ∀ (d : Nat) (r : Nat) (g : Bool), 16 - r = d → (r ≤ 2 ^ P ∧ (g = true ↔ ∃ q, q < r ∧ op q ∧ (em_ou X s q ≠ em_ou X t q ∨ a (32 * em_nx X s q + em_nx X t q) = true))) → ez_Ev l G X_MD_tells 0 0 6 [some (.ref 46), some (.int (nI e)), some (.int (nI s)), some (.int (nI t)), some (.int (eb g)), some (.int (nI r)), none, none] [] (es_H σ) (es_Q (es_I fun y σ' => (∃ g : Bool, y = eb g ∧ (g = true ↔ ∃ q, op q ∧ (em_ou X s q ≠ em_ou X t q ∨ a (32 * em_nx X s q + em_nx X t q) = true))) ∧ σ' = σ) es_no) := by
  intro d
  induction d using Nat.strongRecOn with
  | _ d ih =>
    intro r g hmm hinv
    obtain ⟨hr, hg⟩ := hinv
    have hN : 2 ^ em_dl X (em_n X) ≤ 2 ^ 5 := Nat.pow_le_pow_right (by omega) hw.2.2.2.2.2.2
    have hP16 : 2 ^ P ≤ 2 ^ 4 := Nat.pow_le_pow_right (by omega) hP4
    have hl1 := xv_lt hw s r
    have hl2 := xv_lt hw t r
    have hn1 := em_nx_lt X s r
    have hn2 := em_nx_lt X t r
    have ho1 : em_ou X s r < 8 := em_os_lt X _
    have ho2 : em_ou X t r < 8 := em_os_lt X _
    refine ev_iload d_MD_tells_6 rfl ?_
    refine ev_iconst (v := 1) d_MD_tells_8 rfl ?_
    refine ev_aload_n (i := 0) d_MD_tells_9 rfl rfl ?_
    refine es_getI d_MD_tells_10 f_MD_62 rfl rfl ?_
    rw [h1c]
    refine ev_ishl d_MD_tells_13 ?_
    rw [shl1 (by omega)]
    refine ev_icmp_ge d_MD_tells_14 (fun h14 => ?_) (fun h14 => ?_)
    · rw [nI_leI (by omega) (by omega)] at h14
      refine ev_iload d_MD_tells_118 rfl ?_
      refine es_zret d_MD_tells_120 rfl (eb_nar _) ⟨Nat.zero_le _, Nat.zero_le _⟩ ⟨_, rfl, ?_⟩
      refine ⟨⟨g, rfl, hg.trans ⟨fun ⟨q, _, q2⟩ => ⟨q, q2⟩, fun ⟨q, q2⟩ => ⟨q, by have := hop q q2.1; omega, q2⟩⟩⟩, rfl⟩
    · rw [nI_leI (by omega) (by omega), Nat.not_le] at h14
      have hdec : 16 - (r + 1) < d := by clear hg; omega
      have hr1 : r + 1 ≤ 2 ^ P := h14
      obtain ⟨bb, hb1, hbb⟩ := hbr r h14
      refine ev_aload_n (i := 0) d_MD_tells_17 rfl rfl ?_
      refine es_getR d_MD_tells_18 f_MD_38 rfl rfl ?_
      refine ev_bipush (v := 16) d_MD_tells_21 rfl ?_
      refine ev_bipush (v := 32) d_MD_tells_23 rfl ?_
      refine ev_iload_n (i := 1) d_MD_tells_25 rfl rfl ?_
      refine ev_imul d_MD_tells_26 ?_
      refine ev_iload_n (i := 2) d_MD_tells_27 rfl rfl ?_
      refine ev_iadd d_MD_tells_28 ?_
      rw [ix32]
      refine ev_imul d_MD_tells_29 ?_
      refine ev_iload d_MD_tells_30 rfl ?_
      refine ev_iadd d_MD_tells_32 ?_
      rw [ix16]
      refine es_iald d_MD_tells_33 rfl (ez_vinN (by omega) (by omega)) ?_
      rw [nI_clamp (by omega), hxt s r hs h14]
      refine ev_istore d_MD_tells_34 (by decide) ?_
      dsimp only [List.set_cons_zero, List.set_cons_succ]
      refine ev_aload_n (i := 0) d_MD_tells_36 rfl rfl ?_
      refine es_getR d_MD_tells_37 f_MD_38 rfl rfl ?_
      refine ev_bipush (v := 16) d_MD_tells_40 rfl ?_
      refine ev_bipush (v := 32) d_MD_tells_42 rfl ?_
      refine ev_iload_n (i := 1) d_MD_tells_44 rfl rfl ?_
      refine ev_imul d_MD_tells_45 ?_
      refine ev_iload_n (i := 3) d_MD_tells_46 rfl rfl ?_
      refine ev_iadd d_MD_tells_47 ?_
      rw [ix32]
      refine ev_imul d_MD_tells_48 ?_
      refine ev_iload d_MD_tells_49 rfl ?_
      refine ev_iadd d_MD_tells_51 ?_
      rw [ix16]
      refine es_iald d_MD_tells_52 rfl (ez_vinN (by omega) (by omega)) ?_
      rw [nI_clamp (by omega), hxt t r ht h14]
      refine ev_istore d_MD_tells_53 (by decide) ?_
      dsimp only [List.set_cons_zero, List.set_cons_succ]
      refine ev_iload d_MD_tells_55 rfl ?_
      refine ev_if_ne d_MD_tells_57 (fun h57 => ?_) (fun h57 => ?_)
      · rw [eb_0, Bool.not_eq_false] at h57
        refine ev_iconst (v := 1) d_MD_tells_105 rfl ?_
        refine ev_goto d_MD_tells_106 ?_
        refine ev_istore d_MD_tells_110 (by decide) ?_
        dsimp only [List.set_cons_zero, List.set_cons_succ]
        refine ev_iinc d_MD_tells_112 rfl (ez_inc _) (by decide) ?_
        dsimp only [List.set_cons_zero, List.set_cons_succ]
        refine ev_goto d_MD_tells_115 ?_
        refine ev_mask [true, true, true, true, true, true, false, false] rfl (ih _ hdec (r + 1) true rfl ⟨hr1, ⟨fun _ => ?_, fun _ => rfl⟩⟩)
        obtain ⟨q, q1, q2⟩ := hg.mp h57; exact ⟨q, Nat.lt_succ_of_lt q1, q2⟩
      · rw [eb_0] at h57
        refine ev_aload_n (i := 0) d_MD_tells_60 rfl rfl ?_
        refine es_getR d_MD_tells_61 f_MD_7 rfl rfl ?_
        refine ev_iload d_MD_tells_64 rfl ?_
        refine es_zald d_MD_tells_66 rfl (ez_vinN (by omega) (by omega)) ?_
        rw [nI_clamp (show r < 2 ^ 31 by omega), hb1]
        refine ev_if_ne d_MD_tells_67 (fun h67 => ?_) (fun h67 => ?_)
        · rw [eb_0, Bool.not_eq_false] at h67
          refine ev_iconst (v := 0) d_MD_tells_109 rfl ?_
          refine ev_istore d_MD_tells_110 (by decide) ?_
          dsimp only [List.set_cons_zero, List.set_cons_succ]
          refine ev_iinc d_MD_tells_112 rfl (ez_inc _) (by decide) ?_
          dsimp only [List.set_cons_zero, List.set_cons_succ]
          refine ev_goto d_MD_tells_115 ?_
          refine ev_mask [true, true, true, true, true, true, false, false] rfl (ih _ hdec (r + 1) false rfl ⟨hr1, ⟨(fun q => by cases q), fun ⟨q, q1, q2, q3⟩ => ?_⟩⟩)
          by_cases hqr : q = r
          · rw [hqr] at q2; rw [hbb.mpr q2] at h67; cases h67
          · rw [← h57]; exact hg.mpr ⟨q, by clear hg; omega, q2, q3⟩
        · rw [eb_0] at h67
          refine ev_iload d_MD_tells_70 rfl ?_
          refine ev_bipush (v := 8) d_MD_tells_72 rfl ?_
          refine ev_irem d_MD_tells_74 (by decide) ?_
          rw [show (8 : Int32) = nI 8 from rfl, pk_rem (by omega) (by omega) (by omega), (xv_d X s r).2]
          refine ev_iload d_MD_tells_75 rfl ?_
          refine ev_bipush (v := 8) d_MD_tells_77 rfl ?_
          refine ev_irem d_MD_tells_79 (by decide) ?_
          rw [show (8 : Int32) = nI 8 from rfl, pk_rem (by omega) (by omega) (by omega), (xv_d X t r).2]
          refine ev_icmp_ne d_MD_tells_80 (fun h80 => ?_) (fun h80 => ?_)
          · rw [nI_eq (by omega) (by omega)] at h80
            refine ev_iconst (v := 1) d_MD_tells_105 rfl ?_
            refine ev_goto d_MD_tells_106 ?_
            refine ev_istore d_MD_tells_110 (by decide) ?_
            dsimp only [List.set_cons_zero, List.set_cons_succ]
            refine ev_iinc d_MD_tells_112 rfl (ez_inc _) (by decide) ?_
            dsimp only [List.set_cons_zero, List.set_cons_succ]
            refine ev_goto d_MD_tells_115 ?_
            refine ev_mask [true, true, true, true, true, true, false, false] rfl (ih _ hdec (r + 1) true rfl ⟨hr1, ⟨fun _ => ?_, fun _ => rfl⟩⟩)
            exact ⟨r, Nat.lt_succ_self r, hbb.mp h67, Or.inl h80⟩
          · rw [nI_eq (by omega) (by omega)] at h80
            refine ev_aload_n (i := 0) d_MD_tells_83 rfl rfl ?_
            refine es_getR d_MD_tells_84 f_MD_44 rfl rfl ?_
            refine ev_bipush (v := 32) d_MD_tells_87 rfl ?_
            refine ev_iload d_MD_tells_89 rfl ?_
            refine ev_bipush (v := 8) d_MD_tells_91 rfl ?_
            refine ev_idiv d_MD_tells_93 (by decide) ?_
            rw [show (8 : Int32) = nI 8 from rfl, pk_div (by omega) (by omega) (by omega), (xv_d X s r).1]
            refine ev_imul d_MD_tells_94 ?_
            refine ev_iload d_MD_tells_95 rfl ?_
            refine ev_bipush (v := 8) d_MD_tells_97 rfl ?_
            refine ev_idiv d_MD_tells_99 (by decide) ?_
            rw [show (8 : Int32) = nI 8 from rfl, pk_div (by omega) (by omega) (by omega), (xv_d X t r).1]
            refine ev_iadd d_MD_tells_100 ?_
            rw [ix32]
            refine es_zald d_MD_tells_101 rfl (ez_vinN (by omega) (by omega)) ?_
            rw [nI_clamp (by omega), hac _ (by omega)]
            refine ev_if_eq d_MD_tells_102 (fun h102 => ?_) (fun h102 => ?_)
            · rw [eb_0] at h102
              refine ev_iconst (v := 0) d_MD_tells_109 rfl ?_
              refine ev_istore d_MD_tells_110 (by decide) ?_
              dsimp only [List.set_cons_zero, List.set_cons_succ]
              refine ev_iinc d_MD_tells_112 rfl (ez_inc _) (by decide) ?_
              dsimp only [List.set_cons_zero, List.set_cons_succ]
              refine ev_goto d_MD_tells_115 ?_
              refine ev_mask [true, true, true, true, true, true, false, false] rfl (ih _ hdec (r + 1) false rfl ⟨hr1, ⟨(fun q => by cases q), fun ⟨q, q1, q2, q3⟩ => ?_⟩⟩)
              by_cases hqr : q = r
              · rw [hqr] at q3
                rcases q3 with q3 | q3
                · exact absurd h80 q3
                · rw [h102] at q3; cases q3
              · rw [← h57]; exact hg.mpr ⟨q, by clear hg; omega, q2, q3⟩
            · rw [eb_0, Bool.not_eq_false] at h102
              refine ev_iconst (v := 1) d_MD_tells_105 rfl ?_
              refine ev_goto d_MD_tells_106 ?_
              refine ev_istore d_MD_tells_110 (by decide) ?_
              dsimp only [List.set_cons_zero, List.set_cons_succ]
              refine ev_iinc d_MD_tells_112 rfl (ez_inc _) (by decide) ?_
              dsimp only [List.set_cons_zero, List.set_cons_succ]
              refine ev_goto d_MD_tells_115 ?_
              refine ev_mask [true, true, true, true, true, true, false, false] rfl (ih _ hdec (r + 1) true rfl ⟨hr1, ⟨fun _ => ?_, fun _ => rfl⟩⟩)
              exact ⟨r, Nat.lt_succ_self r, hbb.mp h67, Or.inr h102⟩
theorem c_MD_tells {X : em_E} {P : Nat} (hw : em_wf P X) {e : Nat} (he : e < 2) (hP4 : P ≤ 4) (h1c : σ 46 1 = nI P) {op : Nat → Prop} (hop : ∀ r, op r → r < 2 ^ P) (hbr : ∀ r, r < 2 ^ P → ∃ c : Bool, σ 47 r = eb c ∧ (c = false ↔ op r)) (hxt : xt X P e σ) {a : Nat → Bool} (hac : ac a σ) {s t : Nat} (hs : s < 2 ^ em_dl X (em_n X)) (ht : t < 2 ^ em_dl X (em_n X)) : ez_Ct l G X_MD_tells [.ref 46, .int (nI e), .int (nI s), .int (nI t)] (es_H σ) (es_Q (es_I fun y σ' => (∃ g : Bool, y = eb g ∧ (g = true ↔ ∃ q, op q ∧ (em_ou X s q ≠ em_ou X t q ∨ a (32 * em_nx X s q + em_nx X t q) = true))) ∧ σ' = σ) es_no) := by
  refine es_Ct_of (ls := [some (.ref 46), some (.int (nI e)), some (.int (nI s)), some (.int (nI t)), none, none, none, none]) ok_MD_tells rfl (Nat.le_of_ble_eq_true rfl) rfl ?_
  refine ev_iconst (v := 0) d_MD_tells_0 rfl ?_
  refine ev_istore d_MD_tells_1 (by decide) ?_
  dsimp only [List.set_cons_zero, List.set_cons_succ]
  refine ev_iconst (v := 0) d_MD_tells_3 rfl ?_
  refine ev_istore d_MD_tells_4 (by decide) ?_
  dsimp only [List.set_cons_zero, List.set_cons_succ]
  exact lp_MD_tells_6 hw he hP4 h1c hop hbr hxt hac hs ht _ 0 false rfl ⟨Nat.zero_le _, ⟨(fun q => by cases q), fun ⟨q, q1, _⟩ => absurd q1 (Nat.not_lt_zero _)⟩⟩
end
