/-! ===== the law: its loop, its beginning ===== -/
section
variable {l : Launch} {G : ez_G} {σ : es_S}
theorem ez_Ev_mono {X : ez_X} {uc us uc' us' pc : Nat} {ls : List (Option Value)} {st : List Value} {h : ez_H} {Q : ez_R → Prop} (h1 : uc ≤ uc') (h2 : us ≤ us') (k : ez_Ev l G X uc' us' pc ls st h Q) : ez_Ev l G X uc us pc ls st h Q := by
  intro p e s m args below meth c A n0 ad0 ad H locs cells slots L I
  obtain ⟨a1, a2, a3, a4, a5, a6, a7, a8, a9, b1, b2⟩ := I
  exact k p e s m args below meth c A n0 ad0 ad H locs cells slots L ⟨a1, a2, a3, a4, a5, a6, a7, a8, a9, Nat.le_trans b1 h1, Nat.le_trans b2 h2⟩
theorem law_in {L k : Nat} (hL : L ≤ 2561) (hk : k ≤ 512) (h : ¬ nI L - 5 < nI (1 + 5 * k)) : 6 + 5 * k ≤ L := by
  by_cases h5 : 5 ≤ L
  · rw [show (5 : Int32) = nI 5 from rfl, nI_sub h5, nI_ltI (by omega) (by omega)] at h
    omega
  · exfalso
    apply h
    have hn : nI L - 5 < 0 := by
      have : L = 0 ∨ L = 1 ∨ L = 2 ∨ L = 3 ∨ L = 4 := by omega
      rcases this with rfl | rfl | rfl | rfl | rfl <;> decide
    refine Int32.lt_of_lt_of_le hn ?_
    rw [show (0 : Int32) = nI 0 from rfl, nI_leI (by omega) (by omega)]
    omega
theorem law_off : ∀ j, j < 32 → 18 ≤ j → 17 < (nI j).toInt := by decide +kernel
theorem law_loop (hl : l.stackTraces = false) (hG : G.2.2.2.1 ≤ 2561) : ∀ (d k : Nat) (S : sp_S) (σ : es_S) (a5 a6 : Option Value), 513 - k = d → k ≤ 512 → ci S σ → rm S σ → ez_Ev l G X_LW_law (65 + k) (13793 + 6 * k) 33 [some (.ref 901), some (.ref 0), some (.ref 46), some (.ref 64), some (.int (nI (1 + 5 * k))), a5, a6] [] (es_H σ) (es_Q (es_I fun y _ => y = 1) es_no) := by
  intro d
  induction d using Nat.strongRecOn with
  | _ d ih =>
    intro k S σ a5 a6 hd hk hc hm
    refine ev_iload d_LW_law_33 rfl ?_
    refine ev_aload_n (i := 0) d_LW_law_35 rfl rfl ?_
    refine ev_slen d_LW_law_36 ?_
    refine ev_iconst (v := 5) d_LW_law_37 rfl ?_
    refine ev_isub d_LW_law_38 ?_
    refine ev_icmp_gt d_LW_law_39 (fun h39 => ?_) (fun h39 => ?_)
    · refine ev_iconst (v := 1) d_LW_law_1324 rfl ?_
      exact es_zret d_LW_law_1325 rfl rfl ⟨show 65 + k ≤ 1102 by omega, show 13793 + 6 * k ≤ 22063 by omega⟩ ⟨_, rfl, rfl⟩
    · have hb := law_in hG hk h39
      refine ev_aload_n (i := 0) d_LW_law_42 rfl rfl ?_
      refine ev_iload d_LW_law_43 rfl ?_
      refine ev_sld d_LW_law_45 (ez_vinN (by omega) (by omega)) ?_
      refine ev_bipush (v := 31) d_LW_law_46 rfl ?_
      refine ev_iand d_LW_law_48 ?_
      have hu : 65 + k + 1 ≤ 1102 ∧ 13793 + 6 * k + 6 ≤ 22063 := ⟨by omega, by omega⟩
      have i1 : vp_in (nI (1 + 5 * k) + 1) G.2.2.2.1 := by rw [show (1 : Int32) = nI 1 from rfl, nI_add]; exact ez_vinN (by omega) (by omega)
      have i2 : vp_in (nI (1 + 5 * k) + 2) G.2.2.2.1 := by rw [show (2 : Int32) = nI 2 from rfl, nI_add]; exact ez_vinN (by omega) (by omega)
      have i3 : vp_in (nI (1 + 5 * k) + 3) G.2.2.2.1 := by rw [show (3 : Int32) = nI 3 from rfl, nI_add]; exact ez_vinN (by omega) (by omega)
      have i4 : vp_in (nI (1 + 5 * k) + 4) G.2.2.2.1 := by rw [show (4 : Int32) = nI 4 from rfl, nI_add]; exact ez_vinN (by omega) (by omega)
      have nx : ∀ (S2 : sp_S) (σ2 : es_S) (b5 b6 : Option Value), ci S2 σ2 → rm S2 σ2 → ez_Ev l G X_LW_law (65 + k + 1) (13793 + 6 * k + 6) 1318 [some (.ref 901), some (.ref 0), some (.ref 46), some (.ref 64), some (.int (nI (1 + 5 * k))), b5, b6] [] (es_H σ2) (es_Q (es_I fun y _ => y = 1) es_no) := by
        intro S2 σ2 b5 b6 g1 g2
        refine ev_iinc (v := nI (1 + 5 * (k + 1))) d_LW_law_1318 rfl (by rw [show Int32.ofInt 5 = nI 5 from rfl, nI_add]; congr 1) (by decide) ?_
        dsimp only [List.set_cons_zero, List.set_cons_succ]
        refine ev_goto d_LW_law_1321 ?_
        have hr := ih (513 - (k + 1)) (by omega) (k + 1) S2 σ2 b5 b6 rfl (by omega) g1 g2
        rw [show 65 + (k + 1) = 65 + k + 1 from by omega, show 13793 + 6 * (k + 1) = 13793 + 6 * k + 6 from by omega] at hr
        exact hr
      have hx : ∃ j, j < 32 ∧ G.2.2.2.2 (nI (1 + 5 * k)).toNatClampNeg &&& 31 = nI j := ⟨sj _, sj_lt _, (ez_pos (sj_nonneg _)).symm⟩
      obtain ⟨j, hj, ej⟩ := hx
      rw [ej]
      have hcs : j = 0 ∨ j = 1 ∨ j = 2 ∨ j = 3 ∨ j = 4 ∨ j = 5 ∨ j = 6 ∨ j = 7 ∨ j = 8 ∨ j = 9 ∨ j = 10 ∨ j = 11 ∨ j = 12 ∨ j = 13 ∨ j = 14 ∨ j = 15 ∨ j = 16 ∨ j = 17 ∨ 18 ≤ j := by omega
      rcases hcs with rfl | rfl | rfl | rfl | rfl | rfl | rfl | rfl | rfl | rfl | rfl | rfl | rfl | rfl | rfl | rfl | rfl | rfl | hj2
      · exact ev_tableIn (tgt := 136) (off := 87) d_LW_law_49 (by decide) (by decide) (by decide) (by decide) (law_block hl hc hm hu i1 i2 i3 i4 nx)
      · exact ev_tableIn (tgt := 216) (off := 167) d_LW_law_49 (by decide) (by decide) (by decide) (by decide) (law_wire hl hc hm hu i1 i2 i3 i4 nx)
      · exact ev_tableIn (tgt := 308) (off := 259) d_LW_law_49 (by decide) (by decide) (by decide) (by decide) (law_out hl hc hm hu i1 i2 i3 i4 nx)
      · exact ev_tableIn (tgt := 388) (off := 339) d_LW_law_49 (by decide) (by decide) (by decide) (by decide) (law_bar hl hc hm hu i1 i2 i3 i4 nx)
      · exact ev_tableIn (tgt := 479) (off := 430) d_LW_law_49 (by decide) (by decide) (by decide) (by decide) (law_wrong hl hc hm hu i1 i2 i3 i4 nx)
      · exact ev_tableIn (tgt := 535) (off := 486) d_LW_law_49 (by decide) (by decide) (by decide) (by decide) (law_value hl hc hm hu i1 i2 i3 i4 nx)
      · exact ev_tableIn (tgt := 627) (off := 578) d_LW_law_49 (by decide) (by decide) (by decide) (by decide) (law_tick hl hc hm hu i1 i2 i3 i4 nx)
      · exact ev_tableIn (tgt := 707) (off := 658) d_LW_law_49 (by decide) (by decide) (by decide) (by decide) (law_reached hl hc hm hu i1 i2 i3 i4 nx)
      · exact ev_tableIn (tgt := 763) (off := 714) d_LW_law_49 (by decide) (by decide) (by decide) (by decide) (law_state hl hc hm hu i1 i2 i3 i4 nx)
      · exact ev_tableIn (tgt := 831) (off := 782) d_LW_law_49 (by decide) (by decide) (by decide) (by decide) (law_least hl hc hm hu i1 i2 i3 i4 nx)
      · exact ev_tableIn (tgt := 887) (off := 838) d_LW_law_49 (by decide) (by decide) (by decide) (by decide) (law_compare hl hc hm hu i1 i2 i3 i4 nx)
      · exact ev_tableIn (tgt := 931) (off := 882) d_LW_law_49 (by decide) (by decide) (by decide) (by decide) (law_shown hl hc hm hu i1 i2 i3 i4 nx)
      · exact ev_tableIn (tgt := 987) (off := 938) d_LW_law_49 (by decide) (by decide) (by decide) (by decide) (law_last hl hc hm hu i1 i2 i3 i4 nx)
      · exact ev_tableIn (tgt := 1043) (off := 994) d_LW_law_49 (by decide) (by decide) (by decide) (by decide) (law_pairs hl hc hm hu i1 i2 i3 i4 nx)
      · exact ev_tableIn (tgt := 1087) (off := 1038) d_LW_law_49 (by decide) (by decide) (by decide) (by decide) (law_same hl hc hm hu i1 i2 i3 i4 nx)
      · exact ev_tableIn (tgt := 1138) (off := 1089) d_LW_law_49 (by decide) (by decide) (by decide) (by decide) (law_matched hl hc hm hu i1 i2 i3 i4 nx)
      · exact ev_tableIn (tgt := 1194) (off := 1145) d_LW_law_49 (by decide) (by decide) (by decide) (by decide) (law_idle hl hc hm hu i1 i2 i3 i4 nx)
      · exact ev_tableIn (tgt := 1262) (off := 1213) d_LW_law_49 (by decide) (by decide) (by decide) (by decide) (law_blocks hl hc hm hu i1 i2 i3 i4 nx)
      · exact ev_tableOut (tgt := 1318) d_LW_law_49 (Or.inr (law_off j hj hj2)) (by decide) (ez_Ev_mono (Nat.le_succ _) (Nat.le_add_right _ _) (nx S σ _ _ hc hm))
theorem w46_H (x : Int32) : pw_H (w46 x) 46 := ⟨rfl, rfl⟩
theorem pw_cell {uc us pc pc' : Nat} {ls : List (Option Value)} {h : ez_H} {rest : List Value} {Q : ez_R → Prop} (hG : G.2.2.2.1 ≤ 2561) (hlk : es_lkS X_LW_law X_LW_cell 74 2) (hd : ez_at X_LW_law pc (.invokestatic 74) 3 pc') (hroom : ez_fits X_LW_law X_LW_cell uc us) (hrest : (rest.map fun v => v.category).sum ≤ 8) (hth : uc + ez_mc X_LW_cell ≤ ez_mc X_LW_law ∧ us + ez_ms X_LW_cell ≤ ez_ms X_LW_law)
    (kk : ez_Ev l G X_LW_law uc us pc' ls (.int (lx G) :: rest) h Q) : ez_Ev l G X_LW_law uc us pc ls (.int 0 :: .ref 901 :: rest) h Q := by
  refine ev_calls (as := [.ref 901, .int 0]) (rest := rest) hlk.1 hlk.2.1 hlk.2.2 hd (c_LW_cell hG) rfl rfl hroom hrest rfl hth (fun v h' hq => ?_) (fun k h' hq => ?_)
  · have hq2 : ((.inl v, h') : ez_R) = (.inl (some (.int (lx G))), h) := hq
    obtain ⟨q1, q2⟩ := Prod.mk.inj hq2
    have q3 := Sum.inl.inj q1
    subst q3
    subst q2
    exact ⟨ez_still_eq _ _ _, kk⟩
  · have hq2 : ((.inr k, h') : ez_R) = (.inl (some (.int (lx G))), h) := hq
    have q1 := (Prod.mk.inj hq2).1
    cases q1
theorem law_start (hl : l.stackTraces = false) (hG : G.2.2.2.1 ≤ 2561) : ez_Ev l G X_LW_law 0 0 0 [some (.ref 901), none, none, none, none, none, none] [] [] (es_Q (es_I fun y _ => y = 1) es_no) := by
  have hh : pw_H [] 0 := ⟨rfl, rfl⟩
  have hh2 := w46_H (lx G)
  show ez_Ev l G X_LW_law 0 0 0 _ [] ([] ++ []) _
  refine pw_new (r := 0) (l1 := [.inr (0, [.int 0, .int 0, .null, .null, .null, .null, .null, .null, .int 0])]) hh d_LW_law_0 mk_LW_8 rfl (by decide) (by decide) (by decide) rfl rfl rfl rfl ?_
  refine ev_dup d_LW_law_3 rfl ?_
  refine ev_aload_n (i := 0) d_LW_law_4 rfl rfl ?_
  refine ev_iconst (v := 0) d_LW_law_5 rfl ?_
  refine pw_cell hG lk_LW_law_6 d_LW_law_6 ⟨⟨by decide, by decide⟩, by decide, by decide⟩ (Nat.le_of_ble_eq_true rfl) ⟨by decide, by decide⟩ ?_
  refine pw_calli (m := 1) (l1 := w46 (lx G)) (a := 1) (c := 46) (as := [.int (lx G)]) (rest := [.ref 0]) lk_LW_law_9 rfl rfl rfl d_LW_law_9 c_EE_init rfl rfl ⟨⟨by decide, by decide⟩, by decide, by decide⟩ (Nat.le_of_ble_eq_true rfl) rfl rfl rfl rfl rfl rfl ?_
  refine ev_astore_n (i := 1) d_LW_law_12 rfl (by decide) ?_
  dsimp only [List.set_cons_zero, List.set_cons_succ]
  rw [List.nil_append, ← List.append_nil (w46 (lx G))]
  refine pw_new (r := 46) (l1 := [.inr (5, [.int 0, .int 0, .null, .null, .null, .null, .null, .null, .null, .null, .null, .null, .null, .null, .int 0, .null, .null, .null, .null, .int 0, .int 0, .null])]) hh2 d_LW_law_13 mk_LW_83 rfl (by decide) (by decide) (by decide) rfl rfl rfl rfl ?_
  refine ev_dup d_LW_law_16 rfl ?_
  refine ev_aload_n (i := 0) d_LW_law_17 rfl rfl ?_
  refine ev_iconst (v := 0) d_LW_law_18 rfl ?_
  refine pw_cell hG lk_LW_law_19 d_LW_law_19 ⟨⟨by decide, by decide⟩, by decide, by decide⟩ (Nat.le_of_ble_eq_true rfl) ⟨by decide, by decide⟩ ?_
  refine pw_calli (m := 1) (l1 := w18 (cl (lx G))) (a := 47) (c := 64) (as := [.int (lx G)]) (rest := [.ref 46]) lk_LW_law_22 rfl rfl rfl d_LW_law_22 (c_MD_init hh2) rfl rfl ⟨⟨by decide, by decide⟩, by decide, by decide⟩ (Nat.le_of_ble_eq_true rfl) rfl rfl rfl rfl rfl rfl ?_
  refine ev_astore_n (i := 2) d_LW_law_25 rfl (by decide) ?_
  dsimp only [List.set_cons_zero, List.set_cons_succ]
  refine ev_iconst (v := 1) d_LW_law_26 rfl ?_
  refine pw_newl (N := 1) (r := 64) (l1 := w18 (cl (lx G)) ++ [.inl (.long, (1, .inr (.inl fun _ => 0)))]) hh2 d_LW_law_27 w_aJ (by decide) (by decide) (by decide) rfl (by decide) (by decide) (by decide) rfl rfl rfl rfl ?_
  refine ev_astore_n (i := 3) d_LW_law_29 rfl (by decide) ?_
  dsimp only [List.set_cons_zero, List.set_cons_succ]
  refine ev_iconst (v := 1) d_LW_law_30 rfl ?_
  refine ev_istore d_LW_law_31 (by decide) ?_
  dsimp only [List.set_cons_zero, List.set_cons_succ]
  rw [z0_world]
  exact law_loop hl hG 513 0 (S_0 (lx G)) (z0 (lx G)) none none rfl (Nat.zero_le _) (ci_0 _) (rm_0 _)
end
