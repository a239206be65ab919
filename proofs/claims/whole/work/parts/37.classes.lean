/-! ===== Arrays.fill; Behaviour: classes ===== -/
section
variable {l : Launch} {G : ez_G} {σ : es_S}
theorem lp_JA_fill {h : ez_H} {k n : Nat} {f : Nat → Int32} {v : Int32} (hk : h[k]? = some (.inl (.int, (n, .inl f)))) (hn : n < 2 ^ 31) : ∀ (d i : Nat), n - i = d → i ≤ n → ez_Ev l G X_JA_fill 0 0 5 [some (.ref k), some (.int v), some (.int (nI i)), some (.int (nI n))] [] (h.set k (.inl (.int, (n, .inl (fun j => if j < i then v else f j))))) (fun r => r = (.inl none, h.set k (.inl (.int, (n, .inl (fun j => if j < n then v else f j)))))) := by
  have hkl := (List.getElem?_eq_some_iff.mp hk).1
  intro d
  induction d using Nat.strongRecOn with
  | _ d ih =>
    intro i hm hi
    refine ev_iload_n (i := 2) d_JA_fill_5 rfl rfl ?_
    refine ev_iload_n (i := 3) d_JA_fill_6 rfl rfl ?_
    refine ev_icmp_ge d_JA_fill_7 (fun h7 => ?_) (fun h7 => ?_)
    · rw [nI_leI (by omega) (by omega)] at h7
      have e : i = n := by omega
      subst e
      exact ev_vret d_JA_fill_20 rfl ⟨Nat.zero_le _, Nat.zero_le _⟩ rfl
    · rw [nI_leI (by omega) (by omega), Nat.not_le] at h7
      refine ev_aload_n (i := 0) d_JA_fill_10 rfl rfl ?_
      refine ev_iload_n (i := 2) d_JA_fill_11 rfl rfl ?_
      refine ev_iload_n (i := 1) d_JA_fill_12 rfl rfl ?_
      refine ev_iast d_JA_fill_13 (List.getElem?_set_self hkl) (ez_vinN h7 hn) ?_
      refine ev_iinc d_JA_fill_14 rfl (ez_inc i) (by decide) ?_
      dsimp only [List.set_cons_zero, List.set_cons_succ]
      refine ev_goto d_JA_fill_17 ?_
      rw [List.set_set, nI_clamp (by omega)]
      have e : upd (fun j => if j < i then v else f j) i v = fun j => if j < i + 1 then v else f j := by
        funext j
        unfold upd
        by_cases hj : j = i
        · simp [hj]
        · simp only [hj, if_false, show (j < i + 1) = (j < i) from propext ⟨fun h => by omega, fun h => by omega⟩]
      rw [e]
      exact ih _ (by omega) (i + 1) rfl (by omega)
theorem c_JA_fillH {h : ez_H} {k n : Nat} {f : Nat → Int32} {v : Int32} (hk : h[k]? = some (.inl (.int, (n, .inl f)))) (hn : n < 2 ^ 31) : ez_Ct l G X_JA_fill [.ref k, .int v] h (fun r => r = (.inl none, h.set k (.inl (.int, (n, .inl (fun j => if j < n then v else f j)))))) := by
  have hkl := (List.getElem?_eq_some_iff.mp hk).1
  refine es_Ct_of (ls := [some (.ref k), some (.int v), none, none]) ok_JA_fill rfl (Nat.le_of_ble_eq_true rfl) rfl ?_
  refine ev_iconst (v := 0) d_JA_fill_0 rfl ?_
  refine ev_istore_n (i := 2) d_JA_fill_1 rfl (by decide) ?_
  dsimp only [List.set_cons_zero, List.set_cons_succ]
  refine ev_aload_n (i := 0) d_JA_fill_2 rfl rfl ?_
  refine ev_alen (v := nI n) d_JA_fill_3 hk rfl ?_
  refine ev_istore_n (i := 3) d_JA_fill_4 rfl (by decide) ?_
  dsimp only [List.set_cons_zero, List.set_cons_succ]
  have e : h = h.set k (.inl (.int, (n, .inl (fun j => if j < 0 then v else f j)))) := by
    have e1 : (fun j => if j < 0 then v else f j) = f := by funext j; simp
    rw [e1]
    have h9 := List.set_getElem_self hkl
    rw [(List.getElem?_eq_some_iff.mp hk).2] at h9
    exact h9.symm
  have := lp_JA_fill (l := l) (G := G) (v := v) hk hn _ 0 rfl (Nat.zero_le _)
  rw [← e] at this
  exact this
theorem c_JA_fill {k n : Nat} {v : Int32} (hk : es_SH[k]? = some (.inl (.int, n))) (hn : n < 2 ^ 31) : ez_Ct l G X_JA_fill [.ref k, .int v] (es_H σ) (es_Q (es_V fun σ' => σ' = es_arr σ k (fun j => if j < n then v else σ k j)) es_no) := by
  have h1 := c_JA_fillH (l := l) (G := G) (v := v) (es_get (σ := σ) hk) hn
  have h2 := es_set (σ := σ) hk (fun j => if j < n then v else σ k j)
  have e2 : es_cell (.inl (.int, n)) (fun j => if j < n then v else σ k j) = .inl (.int, (n, .inl (fun j => if j < n then v else σ k j))) := rfl
  rw [e2] at h2
  intro ad sz
  have h3 := h1 ad sz
  rw [h2] at h3
  intro p e ha hc hcl s m args below hf happ hP hK
  obtain ⟨nn, o, g1, g2, g3, ⟨⟨⟨r, ad', c1, c2⟩, g5⟩, g6⟩⟩ := h3 p e ha hc hcl s m args below hf happ hP hK
  refine ⟨nn, o, g1, g2, g3, ⟨⟨⟨r, ad', ?_, c2⟩, g5⟩, g6⟩⟩
  subst c1
  exact ⟨_, rfl, rfl, rfl⟩
theorem lp_BH_reachedAt_4 {b e : Nat} (hb : sb_BH b e) {pr : Nat → Prop} (hp : ∀ s, s < 32 → (bt (σ b 11) s = true ↔ pr s)) {k : Nat} (hk : k < 2 ^ 31) : ∀ (d : Nat) (t : Nat), 32 - t = d → (t ≤ 32 ∧ ∀ u, u < t → ¬ (pr u ∧ em_ct pr u = k)) → ez_Ev l G X_BH_reachedAt 0 0 4 [some (.ref b), some (.int (nI k)), some (.int (nI (em_ct pr t))), some (.int (nI t))] [] (es_H σ) (es_Q (es_I fun y σ' => y = en (em_nth pr 32 k) ∧ σ' = σ) es_no) := by
  intro d
  induction d using Nat.strongRecOn with
  | _ d ih =>
    intro t hm hinv
    obtain ⟨hi, hno⟩ := hinv
    have hct := em_ct_n pr t
    have hsu := em_ct_succ pr t
    refine ev_iload_n (i := 3) d_BH_reachedAt_4 rfl rfl ?_
    refine ev_bipush (v := 32) d_BH_reachedAt_5 rfl ?_
    refine ev_icmp_ge d_BH_reachedAt_7 (fun h7 => ?_) (fun h7 => ?_)
    · rw [show (32 : Int32) = nI 32 from rfl, nI_leI (by omega) (by omega)] at h7
      refine ev_iconst (v := (-1)) d_BH_reachedAt_37 rfl ?_
      refine es_iret d_BH_reachedAt_38 rfl ⟨Nat.zero_le _, Nat.zero_le _⟩ ⟨_, rfl, ?_⟩
      refine ⟨?_, rfl⟩
      unfold em_nth
      rw [em_fst_none (fun u hu => hno u (by omega))]
      rfl
    · rw [show (32 : Int32) = nI 32 from rfl, nI_leI (by omega) (by omega), Nat.not_le] at h7
      refine ev_aload_n (i := 0) d_BH_reachedAt_10 rfl rfl ?_
      refine es_getI d_BH_reachedAt_11 f_BH_43 (sh_BH hb) rfl ?_
      refine ev_iload_n (i := 3) d_BH_reachedAt_14 rfl rfl ?_
      refine es_cSI ls_BH_reachedAt_15 d_BH_reachedAt_15 c_EE_holds rfl rfl (Nat.le_of_ble_eq_true rfl) (fun x15 σ15 h15 => ?_) (fun _ _ h => h.elim)
      obtain ⟨rfl, e15⟩ := h15
      rw [e15]
      refine ev_if_eq d_BH_reachedAt_18 (fun h18 => ?_) (fun h18 => ?_)
      · rw [eh_nI _ (by omega), eb_0] at h18
        have hlv : ¬ pr t := fun h => by have := (hp t h7).mpr h; rw [h18] at this; cases this
        refine ev_iinc d_BH_reachedAt_31 rfl (ez_inc _) (by decide) ?_
        dsimp only [List.set_cons_zero, List.set_cons_succ]
        refine ev_goto d_BH_reachedAt_34 ?_
        first
          | (rw [← hsu.1 hlv]
             refine ih _ (by omega) (t + 1) rfl ⟨by omega, fun u hu => ?_⟩
             by_cases hut : u = t
             · rw [hut]; exact fun h => h23 h.2
             · exact hno u (by omega))
          | (rw [← hsu.2 hlv]
             refine ih _ (by omega) (t + 1) rfl ⟨by omega, fun u hu => ?_⟩
             by_cases hut : u = t
             · rw [hut]; exact fun h => hlv h.1
             · exact hno u (by omega))
      · rw [eh_nI _ (by omega), eb_0, Bool.not_eq_false] at h18
        have hlv := (hp t h7).mp h18
        refine ev_iload_n (i := 2) d_BH_reachedAt_21 rfl rfl ?_
        refine ev_iload_n (i := 1) d_BH_reachedAt_22 rfl rfl ?_
        refine ev_icmp_ne d_BH_reachedAt_23 (fun h23 => ?_) (fun h23 => ?_)
        · rw [nI_eq (by omega) (by omega)] at h23
          refine ev_iinc d_BH_reachedAt_28 rfl (ez_inc _) (by decide) ?_
          dsimp only [List.set_cons_zero, List.set_cons_succ]
          refine ev_iinc d_BH_reachedAt_31 rfl (ez_inc _) (by decide) ?_
          dsimp only [List.set_cons_zero, List.set_cons_succ]
          refine ev_goto d_BH_reachedAt_34 ?_
          first
            | (rw [← hsu.1 hlv]
               refine ih _ (by omega) (t + 1) rfl ⟨by omega, fun u hu => ?_⟩
               by_cases hut : u = t
               · rw [hut]; exact fun h => h23 h.2
               · exact hno u (by omega))
            | (rw [← hsu.2 hlv]
               refine ih _ (by omega) (t + 1) rfl ⟨by omega, fun u hu => ?_⟩
               by_cases hut : u = t
               · rw [hut]; exact fun h => hlv h.1
               · exact hno u (by omega))
        · rw [nI_eq (by omega) (by omega)] at h23
          refine ev_iload_n (i := 3) d_BH_reachedAt_26 rfl rfl ?_
          refine es_iret d_BH_reachedAt_27 rfl ⟨Nat.zero_le _, Nat.zero_le _⟩ ⟨_, rfl, ?_⟩
          refine ⟨?_, rfl⟩
          unfold em_nth
          rw [em_fst_some (p := fun t => pr t ∧ em_ct pr t = k) ⟨hlv, h23⟩ hno h7]
          rfl
theorem c_BH_reachedAt {b e : Nat} (hb : sb_BH b e) {pr : Nat → Prop} (hp : ∀ s, s < 32 → (bt (σ b 11) s = true ↔ pr s)) {k : Nat} (hk : k < 2 ^ 31) : ez_Ct l G X_BH_reachedAt [.ref b, .int (nI k)] (es_H σ) (es_Q (es_I fun y σ' => y = en (em_nth pr 32 k) ∧ σ' = σ) es_no) := by
  refine es_Ct_of (ls := [some (.ref b), some (.int (nI k)), none, none]) ok_BH_reachedAt rfl (Nat.le_of_ble_eq_true rfl) rfl ?_
  refine ev_iconst (v := 0) d_BH_reachedAt_0 rfl ?_
  refine ev_istore_n (i := 2) d_BH_reachedAt_1 rfl (by decide) ?_
  dsimp only [List.set_cons_zero, List.set_cons_succ]
  refine ev_iconst (v := 0) d_BH_reachedAt_2 rfl ?_
  refine ev_istore_n (i := 3) d_BH_reachedAt_3 rfl (by decide) ?_
  dsimp only [List.set_cons_zero, List.set_cons_succ]
  exact lp_BH_reachedAt_4 hb hp hk _ 0 rfl ⟨Nat.zero_le _, fun u hu => by omega⟩
theorem lp_BH_firstLike_2 {b e : Nat} (hb : sb_BH b e) {pr : Nat → Prop} (hp : ∀ s, s < 32 → (bt (σ b 11) s = true ↔ pr s)) {s : Nat} (hs : s < 32) : ∀ (d : Nat) (t : Nat), s - t = d → (t ≤ s ∧ ∀ u, u < t → ¬ (pr u ∧ (σ (b + 6) u = σ (b + 6) s ∧ σ (b + 7) u = σ (b + 7) s))) → ez_Ev l G X_BH_firstLike 0 0 2 [some (.ref b), some (.int (nI s)), some (.int (nI t)), none] [] (es_H σ) (es_Q (es_I fun y σ' => (∃ f, y = nI f ∧ f ≤ s ∧ (∀ u, u < f → ¬ (pr u ∧ (σ (b + 6) u = σ (b + 6) s ∧ σ (b + 7) u = σ (b + 7) s))) ∧ (f < s → pr f ∧ (σ (b + 6) f = σ (b + 6) s ∧ σ (b + 7) f = σ (b + 7) s))) ∧ σ' = σ) es_no) := by
  intro d
  induction d using Nat.strongRecOn with
  | _ d ih =>
    intro t hm hinv
    obtain ⟨hi, hno⟩ := hinv
    have hct : (nI t).toNatClampNeg = t := nI_clamp (by omega)
    have hcs : (nI s).toNatClampNeg = s := nI_clamp (by omega)
    refine ev_iload_n (i := 2) d_BH_firstLike_2 rfl rfl ?_
    refine ev_iload_n (i := 1) d_BH_firstLike_3 rfl rfl ?_
    refine ev_icmp_ge d_BH_firstLike_4 (fun h4 => ?_) (fun h4 => ?_)
    · rw [nI_leI (by omega) (by omega)] at h4
      refine ev_iload_n (i := 1) d_BH_firstLike_66 rfl rfl ?_
      refine es_iret d_BH_firstLike_67 rfl ⟨Nat.zero_le _, Nat.zero_le _⟩ ⟨_, rfl, ?_⟩
      exact ⟨⟨s, rfl, Nat.le_refl _, fun u hu => hno u (by omega), fun h => by omega⟩, rfl⟩
    · rw [nI_leI (by omega) (by omega), Nat.not_le] at h4
      refine ev_aload_n (i := 0) d_BH_firstLike_7 rfl rfl ?_
      refine es_getR d_BH_firstLike_8 f_BH_27 (sh_BH hb) rfl ?_
      refine ev_iload_n (i := 2) d_BH_firstLike_11 rfl rfl ?_
      refine es_iald d_BH_firstLike_12 (sa_BH_classes hb) (ez_vinN (by omega) (by omega)) ?_
      refine ev_aload_n (i := 0) d_BH_firstLike_13 rfl rfl ?_
      refine es_getR d_BH_firstLike_14 f_BH_27 (sh_BH hb) rfl ?_
      refine ev_iload_n (i := 1) d_BH_firstLike_17 rfl rfl ?_
      refine es_iald d_BH_firstLike_18 (sa_BH_classes hb) (ez_vinN (by omega) (by omega)) ?_
      refine ev_icmp_ne d_BH_firstLike_19 (fun h19 => ?_) (fun h19 => ?_)
      · rw [hct, hcs] at h19
        refine ev_iconst (v := 0) d_BH_firstLike_41 rfl ?_
        refine ev_istore_n (i := 3) d_BH_firstLike_42 rfl (by decide) ?_
        dsimp only [List.set_cons_zero, List.set_cons_succ]
        refine ev_iload_n (i := 3) d_BH_firstLike_43 rfl rfl ?_
        refine ev_if_eq d_BH_firstLike_44 (fun _ => ?_) (fun h => absurd h (by decide))
        refine ev_iinc d_BH_firstLike_60 rfl (ez_inc _) (by decide) ?_
        dsimp only [List.set_cons_zero, List.set_cons_succ]
        refine ev_goto d_BH_firstLike_63 ?_
        refine ev_mask [true, true, true, false] rfl ?_
        refine ih _ (by omega) (t + 1) rfl ⟨by omega, fun u hu => ?_⟩
        by_cases hut : u = t
        · rw [hut]; first | exact fun h => hlv h.1 | exact fun h => h34 h.2.2 | exact fun h => h19 h.2.1
        · exact hno u (by omega)
      · rw [hct, hcs] at h19
        refine ev_aload_n (i := 0) d_BH_firstLike_22 rfl rfl ?_
        refine es_getR d_BH_firstLike_23 f_BH_30 (sh_BH hb) rfl ?_
        refine ev_iload_n (i := 2) d_BH_firstLike_26 rfl rfl ?_
        refine es_iald d_BH_firstLike_27 (sa_BH_keys hb) (ez_vinN (by omega) (by omega)) ?_
        refine ev_aload_n (i := 0) d_BH_firstLike_28 rfl rfl ?_
        refine es_getR d_BH_firstLike_29 f_BH_30 (sh_BH hb) rfl ?_
        refine ev_iload_n (i := 1) d_BH_firstLike_32 rfl rfl ?_
        refine es_iald d_BH_firstLike_33 (sa_BH_keys hb) (ez_vinN (by omega) (by omega)) ?_
        refine ev_icmp_ne d_BH_firstLike_34 (fun h34 => ?_) (fun h34 => ?_)
        · rw [hct, hcs] at h34
          refine ev_iconst (v := 0) d_BH_firstLike_41 rfl ?_
          refine ev_istore_n (i := 3) d_BH_firstLike_42 rfl (by decide) ?_
          dsimp only [List.set_cons_zero, List.set_cons_succ]
          refine ev_iload_n (i := 3) d_BH_firstLike_43 rfl rfl ?_
          refine ev_if_eq d_BH_firstLike_44 (fun _ => ?_) (fun h => absurd h (by decide))
          refine ev_iinc d_BH_firstLike_60 rfl (ez_inc _) (by decide) ?_
          dsimp only [List.set_cons_zero, List.set_cons_succ]
          refine ev_goto d_BH_firstLike_63 ?_
          refine ev_mask [true, true, true, false] rfl ?_
          refine ih _ (by omega) (t + 1) rfl ⟨by omega, fun u hu => ?_⟩
          by_cases hut : u = t
          · rw [hut]; first | exact fun h => hlv h.1 | exact fun h => h34 h.2.2 | exact fun h => h19 h.2.1
          · exact hno u (by omega)
        · rw [hct, hcs] at h34
          refine ev_iconst (v := 1) d_BH_firstLike_37 rfl ?_
          refine ev_goto d_BH_firstLike_38 ?_
          refine ev_istore_n (i := 3) d_BH_firstLike_42 rfl (by decide) ?_
          dsimp only [List.set_cons_zero, List.set_cons_succ]
          refine ev_iload_n (i := 3) d_BH_firstLike_43 rfl rfl ?_
          refine ev_if_eq d_BH_firstLike_44 (fun h => absurd h (by decide)) (fun _ => ?_)
          refine ev_aload_n (i := 0) d_BH_firstLike_47 rfl rfl ?_
          refine es_getI d_BH_firstLike_48 f_BH_43 (sh_BH hb) rfl ?_
          refine ev_iload_n (i := 2) d_BH_firstLike_51 rfl rfl ?_
          refine es_cSI ls_BH_firstLike_52 d_BH_firstLike_52 c_EE_holds rfl rfl (Nat.le_of_ble_eq_true rfl) (fun x52 σ52 h52 => ?_) (fun _ _ h => h.elim)
          obtain ⟨rfl, e52⟩ := h52
          rw [e52]
          refine ev_if_eq d_BH_firstLike_55 (fun h55 => ?_) (fun h55 => ?_)
          · rw [eh_nI _ (by omega), eb_0] at h55
            have hlv : ¬ pr t := fun h => by have := (hp t (by omega)).mpr h; rw [h55] at this; cases this
            refine ev_iinc d_BH_firstLike_60 rfl (ez_inc _) (by decide) ?_
            dsimp only [List.set_cons_zero, List.set_cons_succ]
            refine ev_goto d_BH_firstLike_63 ?_
            refine ev_mask [true, true, true, false] rfl ?_
            refine ih _ (by omega) (t + 1) rfl ⟨by omega, fun u hu => ?_⟩
            by_cases hut : u = t
            · rw [hut]; first | exact fun h => hlv h.1 | exact fun h => h34 h.2.2 | exact fun h => h19 h.2.1
            · exact hno u (by omega)
          · rw [eh_nI _ (by omega), eb_0, Bool.not_eq_false] at h55
            have hlv := (hp t (by omega)).mp h55
            refine ev_iload_n (i := 2) d_BH_firstLike_58 rfl rfl ?_
            refine es_iret d_BH_firstLike_59 rfl ⟨Nat.zero_le _, Nat.zero_le _⟩ ⟨_, rfl, ?_⟩
            exact ⟨⟨t, rfl, hi, hno, fun _ => ⟨hlv, h19, h34⟩⟩, rfl⟩
theorem c_BH_firstLike {b e : Nat} (hb : sb_BH b e) {pr : Nat → Prop} (hp : ∀ s, s < 32 → (bt (σ b 11) s = true ↔ pr s)) {s : Nat} (hs : s < 32) : ez_Ct l G X_BH_firstLike [.ref b, .int (nI s)] (es_H σ) (es_Q (es_I fun y σ' => (∃ f, y = nI f ∧ f ≤ s ∧ (∀ u, u < f → ¬ (pr u ∧ (σ (b + 6) u = σ (b + 6) s ∧ σ (b + 7) u = σ (b + 7) s))) ∧ (f < s → pr f ∧ (σ (b + 6) f = σ (b + 6) s ∧ σ (b + 7) f = σ (b + 7) s))) ∧ σ' = σ) es_no) := by
  refine es_Ct_of (ls := [some (.ref b), some (.int (nI s)), none, none]) ok_BH_firstLike rfl (Nat.le_of_ble_eq_true rfl) rfl ?_
  refine ev_iconst (v := 0) d_BH_firstLike_0 rfl ?_
  refine ev_istore_n (i := 2) d_BH_firstLike_1 rfl (by decide) ?_
  dsimp only [List.set_cons_zero, List.set_cons_succ]
  exact lp_BH_firstLike_2 hb hp hs _ 0 rfl ⟨Nat.zero_le _, fun u hu => by omega⟩
/-- alike by class and key -/
def pz_E (σ : es_S) (b s t : Nat) : Prop := σ (b + 6) s = σ (b + 6) t ∧ σ (b + 7) s = σ (b + 7) t
theorem pz_eq (σ : es_S) (b : Nat) (p : Nat → Prop) : (∀ s, p s → pz_E σ b s s) ∧ (∀ s t, p s → p t → pz_E σ b s t → pz_E σ b t s) ∧ (∀ s t u, p s → p t → p u → pz_E σ b s t → pz_E σ b t u → pz_E σ b s u) :=
  ⟨fun _ _ => ⟨rfl, rfl⟩, fun _ _ _ _ h => ⟨h.1.symm, h.2.symm⟩, fun _ _ _ _ _ _ h g => ⟨h.1.trans g.1, h.2.trans g.2⟩⟩
theorem lp_BH_partByKeys_4 {b e : Nat} (hb : sb_BH b e) {pr : Nat → Prop} (hp : ∀ s, s < 32 → (bt (σ b 11) s = true ↔ pr s)) (hpl : ∀ s, pr s → s < 32) (hex : ∀ σ1 : es_S, (∀ k, k ≠ b + 8 → σ1 k = σ k) → (∀ t, t < 32 → pr t → ∃ f, f ≤ t ∧ em_ft pr (pz_E σ b) f ∧ pz_E σ b t f ∧ σ1 (b + 8) t = nI (em_ct (em_ft pr (pz_E σ b)) f)) → ez_Ev l G X_BH_partByKeys 0 0 67 [some (.ref b), some (.int (nI (em_ct (em_ft pr (pz_E σ b)) 32))), none, none] [] (es_H σ1) (es_Q (es_I fun y σ' => y = nI (em_ct (em_ft pr (pz_E σ b)) 32) ∧ (∀ s t, s < 32 → t < 32 → pr s → pr t → (σ' (b + 6) s = σ' (b + 6) t ↔ pz_E σ b s t)) ∧ ∀ k, k ≠ b + 6 → k ≠ b + 8 → σ' k = σ k) es_no)) : ∀ (d : Nat) (s : Nat) (σ1 : es_S), 32 - s = d → (s ≤ 32 ∧ (∀ k, k ≠ b + 8 → σ1 k = σ k) ∧ (∀ t, t < s → pr t → ∃ f, f ≤ t ∧ em_ft pr (pz_E σ b) f ∧ pz_E σ b t f ∧ σ1 (b + 8) t = nI (em_ct (em_ft pr (pz_E σ b)) f))) → ez_Ev l G X_BH_partByKeys 0 0 4 [some (.ref b), some (.int (nI (em_ct (em_ft pr (pz_E σ b)) s))), some (.int (nI s)), none] [] (es_H σ1) (es_Q (es_I fun y σ' => y = nI (em_ct (em_ft pr (pz_E σ b)) 32) ∧ (∀ s t, s < 32 → t < 32 → pr s → pr t → (σ' (b + 6) s = σ' (b + 6) t ↔ pz_E σ b s t)) ∧ ∀ k, k ≠ b + 6 → k ≠ b + 8 → σ' k = σ k) es_no) := by
  intro d
  induction d using Nat.strongRecOn with
  | _ d ih =>
    intro s σ1 hm hinv
    obtain ⟨hs, hoff, hnc⟩ := hinv
    have hct := em_ct_n (em_ft pr (pz_E σ b)) s
    have hsu := em_ct_succ (em_ft pr (pz_E σ b)) s
    have hp1 : ∀ s, s < 32 → (bt (σ1 b 11) s = true ↔ pr s) := fun s hs => by rw [hoff b (by omega)]; exact hp s hs
    refine ev_iload_n (i := 2) d_BH_partByKeys_4 rfl rfl ?_
    refine ev_bipush (v := 32) d_BH_partByKeys_5 rfl ?_
    refine ev_icmp_ge d_BH_partByKeys_7 (fun h7 => ?_) (fun h7 => ?_)
    · rw [show (32 : Int32) = nI 32 from rfl, nI_leI (by omega) (by omega)] at h7
      have e32 : s = 32 := by omega
      subst e32
      exact ev_mask [true, true, false, false] rfl (hex σ1 hoff hnc)
    · rw [show (32 : Int32) = nI 32 from rfl, nI_leI (by omega) (by omega), Nat.not_le] at h7
      refine ev_aload_n (i := 0) d_BH_partByKeys_10 rfl rfl ?_
      refine es_getI d_BH_partByKeys_11 f_BH_43 (sh_BH hb) rfl ?_
      refine ev_iload_n (i := 2) d_BH_partByKeys_14 rfl rfl ?_
      refine es_cSI ls_BH_partByKeys_15 d_BH_partByKeys_15 c_EE_holds rfl rfl (Nat.le_of_ble_eq_true rfl) (fun x15 σ15 h15 => ?_) (fun _ _ h => h.elim)
      obtain ⟨rfl, e15⟩ := h15
      rw [e15]
      refine ev_if_eq d_BH_partByKeys_18 (fun h18 => ?_) (fun h18 => ?_)
      · rw [eh_nI _ (by omega), eb_0] at h18
        have hlv : ¬ pr s := fun h => by have := (hp1 s h7).mpr h; rw [h18] at this; cases this
        refine ev_iinc d_BH_partByKeys_61 rfl (ez_inc _) (by decide) ?_
        dsimp only [List.set_cons_zero, List.set_cons_succ]
        refine ev_goto d_BH_partByKeys_64 ?_
        refine ev_mask [true, true, true, false] rfl ?_
        first
          | (rw [← hsu.2 (fun h => hlv h.1)]
             refine ih _ (by omega) (s + 1) σ1 rfl ⟨by omega, hoff, fun t ht hpt => ?_⟩
             by_cases hts : t = s
             · rw [hts] at hpt; exact absurd hpt hlv
             · exact hnc t (by omega) hpt)
          | (have hfs : f = s := by omega
             have hft : em_ft pr (pz_E σ b) s := ⟨hlv, fun t ht hpt hE => f2 t (by omega) ⟨hpt, (e67 t s).mpr ((pz_eq σ b pr).2.1 s t hlv hpt hE)⟩⟩
             rw [nI_1, ← hsu.1 hft, nI_clamp (show s < 2 ^ 31 by omega)]
             refine ih _ (by omega) (s + 1) _ rfl ⟨by omega, fun k hk => by rw [es_upf _ _ _ _ hk]; exact hoff k hk, fun t ht hpt => ?_⟩
             by_cases hts : t = s
             · subst hts; exact ⟨t, Nat.le_refl _, hft, ⟨rfl, rfl⟩, by simp [es_upx]⟩
             · obtain ⟨g, g1, g2, g3, g4⟩ := hnc t (by omega) hpt
               exact ⟨g, g1, g2, g3, by simp [es_upx, hts, g4]⟩)
          | (have hf3 := f3 (by omega)
             have hEsf : pz_E σ b s f := (pz_eq σ b pr).2.1 f s hf3.1 hlv ((e67 f s).mp hf3.2)
             have hnf : ¬ em_ft pr (pz_E σ b) s := fun h => h.2 f (by omega) hf3.1 hEsf
             obtain ⟨g, g1, g2, g3, g4⟩ := hnc f (by omega) hf3.1
             rw [show nI (em_ct (em_ft pr (pz_E σ b)) s) + 0 = nI (em_ct (em_ft pr (pz_E σ b)) s) from Int32.add_zero _, ← hsu.2 hnf, nI_clamp (show s < 2 ^ 31 by omega), nI_clamp (show f < 2 ^ 31 by omega)]
             refine ih _ (by omega) (s + 1) _ rfl ⟨by omega, fun k hk => by rw [es_upf _ _ _ _ hk]; exact hoff k hk, fun t ht hpt => ?_⟩
             by_cases hts : t = s
             · subst hts; exact ⟨g, by omega, g2, (pz_eq σ b pr).2.2 t f g hlv hf3.1 g2.1 hEsf g3, by simp [es_upx, g4]⟩
             · obtain ⟨g, g1, g2, g3, g4⟩ := hnc t (by omega) hpt
               exact ⟨g, g1, g2, g3, by simp [es_upx, hts, g4]⟩)
      · rw [eh_nI _ (by omega), eb_0, Bool.not_eq_false] at h18
        have hlv := (hp1 s h7).mp h18
        refine ev_aload_n (i := 0) d_BH_partByKeys_21 rfl rfl ?_
        refine ev_iload_n (i := 2) d_BH_partByKeys_22 rfl rfl ?_
        refine es_cVI ls_BH_partByKeys_23 d_BH_partByKeys_23 (sh_BH hb) (c_BH_firstLike hb hp1 h7) rfl rfl (Nat.le_of_ble_eq_true rfl) (fun x23 σ23 h23 => ?_) (fun _ _ h => h.elim)
        obtain ⟨⟨f, rfl, f1, f2, f3⟩, e23⟩ := h23
        rw [e23]
        have e67 : ∀ x y, (σ1 (b + 6) x = σ1 (b + 6) y ∧ σ1 (b + 7) x = σ1 (b + 7) y) ↔ pz_E σ b x y := fun x y => by unfold pz_E; rw [hoff (b + 6) (by omega), hoff (b + 7) (by omega)]
        refine ev_istore_n (i := 3) d_BH_partByKeys_26 rfl (by decide) ?_
        dsimp only [List.set_cons_zero, List.set_cons_succ]
        refine ev_aload_n (i := 0) d_BH_partByKeys_27 rfl rfl ?_
        refine es_getR d_BH_partByKeys_28 f_BH_33 (sh_BH hb) rfl ?_
        refine ev_iload_n (i := 2) d_BH_partByKeys_31 rfl rfl ?_
        refine ev_iload_n (i := 3) d_BH_partByKeys_32 rfl rfl ?_
        refine ev_iload_n (i := 2) d_BH_partByKeys_33 rfl rfl ?_
        refine ev_icmp_ge d_BH_partByKeys_34 (fun h34 => ?_) (fun h34 => ?_)
        · rw [nI_leI (by omega) (by omega)] at h34
          refine ev_iload_n (i := 1) d_BH_partByKeys_46 rfl rfl ?_
          refine es_iast d_BH_partByKeys_47 (sa_BH_newClasses hb) (ez_vinN (by omega) (by omega)) ?_
          refine ev_iload_n (i := 1) d_BH_partByKeys_48 rfl rfl ?_
          refine ev_iload_n (i := 3) d_BH_partByKeys_49 rfl rfl ?_
          refine ev_iload_n (i := 2) d_BH_partByKeys_50 rfl rfl ?_
          refine ev_icmp_ge d_BH_partByKeys_51 (fun h51 => ?_) (fun h51 => ?_)
          · rw [nI_leI (by omega) (by omega)] at h51
            refine ev_iconst (v := 1) d_BH_partByKeys_58 rfl ?_
            refine ev_iadd d_BH_partByKeys_59 ?_
            refine ev_istore_n (i := 1) d_BH_partByKeys_60 rfl (by decide) ?_
            dsimp only [List.set_cons_zero, List.set_cons_succ]
            refine ev_iinc d_BH_partByKeys_61 rfl (ez_inc _) (by decide) ?_
            dsimp only [List.set_cons_zero, List.set_cons_succ]
            refine ev_goto d_BH_partByKeys_64 ?_
            refine ev_mask [true, true, true, false] rfl ?_
            first
              | (rw [← hsu.2 (fun h => hlv h.1)]
                 refine ih _ (by omega) (s + 1) σ1 rfl ⟨by omega, hoff, fun t ht hpt => ?_⟩
                 by_cases hts : t = s
                 · rw [hts] at hpt; exact absurd hpt hlv
                 · exact hnc t (by omega) hpt)
              | (have hfs : f = s := by omega
                 have hft : em_ft pr (pz_E σ b) s := ⟨hlv, fun t ht hpt hE => f2 t (by omega) ⟨hpt, (e67 t s).mpr ((pz_eq σ b pr).2.1 s t hlv hpt hE)⟩⟩
                 rw [nI_1, ← hsu.1 hft, nI_clamp (show s < 2 ^ 31 by omega)]
                 refine ih _ (by omega) (s + 1) _ rfl ⟨by omega, fun k hk => by rw [es_upf _ _ _ _ hk]; exact hoff k hk, fun t ht hpt => ?_⟩
                 by_cases hts : t = s
                 · subst hts; exact ⟨t, Nat.le_refl _, hft, ⟨rfl, rfl⟩, by simp [es_upx]⟩
                 · obtain ⟨g, g1, g2, g3, g4⟩ := hnc t (by omega) hpt
                   exact ⟨g, g1, g2, g3, by simp [es_upx, hts, g4]⟩)
              | (have hf3 := f3 (by omega)
                 have hEsf : pz_E σ b s f := (pz_eq σ b pr).2.1 f s hf3.1 hlv ((e67 f s).mp hf3.2)
                 have hnf : ¬ em_ft pr (pz_E σ b) s := fun h => h.2 f (by omega) hf3.1 hEsf
                 obtain ⟨g, g1, g2, g3, g4⟩ := hnc f (by omega) hf3.1
                 rw [show nI (em_ct (em_ft pr (pz_E σ b)) s) + 0 = nI (em_ct (em_ft pr (pz_E σ b)) s) from Int32.add_zero _, ← hsu.2 hnf, nI_clamp (show s < 2 ^ 31 by omega), nI_clamp (show f < 2 ^ 31 by omega)]
                 refine ih _ (by omega) (s + 1) _ rfl ⟨by omega, fun k hk => by rw [es_upf _ _ _ _ hk]; exact hoff k hk, fun t ht hpt => ?_⟩
                 by_cases hts : t = s
                 · subst hts; exact ⟨g, by omega, g2, (pz_eq σ b pr).2.2 t f g hlv hf3.1 g2.1 hEsf g3, by simp [es_upx, g4]⟩
                 · obtain ⟨g, g1, g2, g3, g4⟩ := hnc t (by omega) hpt
                   exact ⟨g, g1, g2, g3, by simp [es_upx, hts, g4]⟩)
          · rw [nI_leI (by omega) (by omega)] at h51; omega
        · rw [nI_leI (by omega) (by omega), Nat.not_le] at h34
          refine ev_aload_n (i := 0) d_BH_partByKeys_37 rfl rfl ?_
          refine es_getR d_BH_partByKeys_38 f_BH_33 (sh_BH hb) rfl ?_
          refine ev_iload_n (i := 3) d_BH_partByKeys_41 rfl rfl ?_
          refine es_iald d_BH_partByKeys_42 (sa_BH_newClasses hb) (ez_vinN (by omega) (by omega)) ?_
          refine ev_goto d_BH_partByKeys_43 ?_
          refine es_iast d_BH_partByKeys_47 (sa_BH_newClasses hb) (ez_vinN (by omega) (by omega)) ?_
          refine ev_iload_n (i := 1) d_BH_partByKeys_48 rfl rfl ?_
          refine ev_iload_n (i := 3) d_BH_partByKeys_49 rfl rfl ?_
          refine ev_iload_n (i := 2) d_BH_partByKeys_50 rfl rfl ?_
          refine ev_icmp_ge d_BH_partByKeys_51 (fun h51 => ?_) (fun h51 => ?_)
          · rw [nI_leI (by omega) (by omega)] at h51; omega
          · rw [nI_leI (by omega) (by omega), Nat.not_le] at h51
            refine ev_iconst (v := 0) d_BH_partByKeys_54 rfl ?_
            refine ev_goto d_BH_partByKeys_55 ?_
            refine ev_iadd d_BH_partByKeys_59 ?_
            refine ev_istore_n (i := 1) d_BH_partByKeys_60 rfl (by decide) ?_
            dsimp only [List.set_cons_zero, List.set_cons_succ]
            refine ev_iinc d_BH_partByKeys_61 rfl (ez_inc _) (by decide) ?_
            dsimp only [List.set_cons_zero, List.set_cons_succ]
            refine ev_goto d_BH_partByKeys_64 ?_
            refine ev_mask [true, true, true, false] rfl ?_
            first
              | (rw [← hsu.2 (fun h => hlv h.1)]
                 refine ih _ (by omega) (s + 1) σ1 rfl ⟨by omega, hoff, fun t ht hpt => ?_⟩
                 by_cases hts : t = s
                 · rw [hts] at hpt; exact absurd hpt hlv
                 · exact hnc t (by omega) hpt)
              | (have hfs : f = s := by omega
                 have hft : em_ft pr (pz_E σ b) s := ⟨hlv, fun t ht hpt hE => f2 t (by omega) ⟨hpt, (e67 t s).mpr ((pz_eq σ b pr).2.1 s t hlv hpt hE)⟩⟩
                 rw [nI_1, ← hsu.1 hft, nI_clamp (show s < 2 ^ 31 by omega)]
                 refine ih _ (by omega) (s + 1) _ rfl ⟨by omega, fun k hk => by rw [es_upf _ _ _ _ hk]; exact hoff k hk, fun t ht hpt => ?_⟩
                 by_cases hts : t = s
                 · subst hts; exact ⟨t, Nat.le_refl _, hft, ⟨rfl, rfl⟩, by simp [es_upx]⟩
                 · obtain ⟨g, g1, g2, g3, g4⟩ := hnc t (by omega) hpt
                   exact ⟨g, g1, g2, g3, by simp [es_upx, hts, g4]⟩)
              | (have hf3 := f3 (by omega)
                 have hEsf : pz_E σ b s f := (pz_eq σ b pr).2.1 f s hf3.1 hlv ((e67 f s).mp hf3.2)
                 have hnf : ¬ em_ft pr (pz_E σ b) s := fun h => h.2 f (by omega) hf3.1 hEsf
                 obtain ⟨g, g1, g2, g3, g4⟩ := hnc f (by omega) hf3.1
                 rw [show nI (em_ct (em_ft pr (pz_E σ b)) s) + 0 = nI (em_ct (em_ft pr (pz_E σ b)) s) from Int32.add_zero _, ← hsu.2 hnf, nI_clamp (show s < 2 ^ 31 by omega), nI_clamp (show f < 2 ^ 31 by omega)]
                 refine ih _ (by omega) (s + 1) _ rfl ⟨by omega, fun k hk => by rw [es_upf _ _ _ _ hk]; exact hoff k hk, fun t ht hpt => ?_⟩
                 by_cases hts : t = s
                 · subst hts; exact ⟨g, by omega, g2, (pz_eq σ b pr).2.2 t f g hlv hf3.1 g2.1 hEsf g3, by simp [es_upx, g4]⟩
                 · obtain ⟨g, g1, g2, g3, g4⟩ := hnc t (by omega) hpt
                   exact ⟨g, g1, g2, g3, by simp [es_upx, hts, g4]⟩)
theorem w_ac1 : Cond.methodLink "EditionEqual$Behaviour" 151 arraycopyName ∈ ez_T := ez_r3 (List.mem_of_getElem? (i := 108) rfl) rfl
theorem w_ac2 : Cond.native arraycopyName ∈ ez_T := ez_r3 (List.mem_of_getElem? (i := 110) rfl) rfl
theorem w_ac3 : Cond.static arraycopyName ∈ ez_T := ez_r3 (List.mem_of_getElem? (i := 109) rfl) rfl
theorem w_ac4 : Cond.initialized "java/lang/System" ∈ ez_T := ez_r1 (List.mem_of_getElem? (i := 15) rfl) rfl
theorem c_BH_partByKeys {b e : Nat} (hb : sb_BH b e) {pr : Nat → Prop} (hp : ∀ s, s < 32 → (bt (σ b 11) s = true ↔ pr s)) (hpl : ∀ s, pr s → s < 32) : ez_Ct l G X_BH_partByKeys [.ref b] (es_H σ) (es_Q (es_I fun y σ' => y = nI (em_ct (em_ft pr (pz_E σ b)) 32) ∧ (∀ s t, s < 32 → t < 32 → pr s → pr t → (σ' (b + 6) s = σ' (b + 6) t ↔ pz_E σ b s t)) ∧ ∀ k, k ≠ b + 6 → k ≠ b + 8 → σ' k = σ k) es_no) := by
  refine es_Ct_of (ls := [some (.ref b), none, none, none]) ok_BH_partByKeys rfl (Nat.le_of_ble_eq_true rfl) rfl ?_
  refine ev_iconst (v := 0) d_BH_partByKeys_0 rfl ?_
  refine ev_istore_n (i := 1) d_BH_partByKeys_1 rfl (by decide) ?_
  dsimp only [List.set_cons_zero, List.set_cons_succ]
  refine ev_iconst (v := 0) d_BH_partByKeys_2 rfl ?_
  refine ev_istore_n (i := 2) d_BH_partByKeys_3 rfl (by decide) ?_
  dsimp only [List.set_cons_zero, List.set_cons_succ]
  refine lp_BH_partByKeys_4 hb hp hpl (fun σ1 hoff hnc => ?_) _ 0 σ rfl ⟨by omega, fun _ _ => rfl, fun t ht => by omega⟩
  refine ev_aload_n (i := 0) d_BH_partByKeys_67 rfl rfl ?_
  refine es_getR d_BH_partByKeys_68 f_BH_33 (sh_BH hb) rfl ?_
  refine ev_iconst (v := 0) d_BH_partByKeys_71 rfl ?_
  refine ev_aload_n (i := 0) d_BH_partByKeys_72 rfl rfl ?_
  refine es_getR d_BH_partByKeys_73 f_BH_27 (sh_BH hb) rfl ?_
  refine ev_iconst (v := 0) d_BH_partByKeys_76 rfl ?_
  refine ev_bipush (v := 32) d_BH_partByKeys_77 rfl ?_
  refine ev_copy d_BH_partByKeys_79 w_ac1 w_ac2 w_ac3 w_ac4 (es_get (sa_BH_newClasses hb)) (es_get (sa_BH_classes hb)) (by decide) (by decide) (by decide) (by decide) (by decide) ⟨by decide, by decide⟩ (Nat.le_of_ble_eq_true rfl) ?_
  have e9 := es_set (σ := σ1) (sa_BH_classes hb) (va_cpy (σ1 (b + 8)) (σ1 (b + 6)) (0 : Int32).toNatClampNeg (0 : Int32).toNatClampNeg (32 : Int32).toNatClampNeg)
  have e8 : es_cell (.inl (.int, 32)) (va_cpy (σ1 (b + 8)) (σ1 (b + 6)) (0 : Int32).toNatClampNeg (0 : Int32).toNatClampNeg (32 : Int32).toNatClampNeg) = .inl (.int, (32, .inl (va_cpy (σ1 (b + 8)) (σ1 (b + 6)) (0 : Int32).toNatClampNeg (0 : Int32).toNatClampNeg (32 : Int32).toNatClampNeg))) := rfl
  rw [e8] at e9
  rw [e9]
  refine ev_iload_n (i := 1) d_BH_partByKeys_82 rfl rfl ?_
  refine es_iret d_BH_partByKeys_83 rfl ⟨Nat.zero_le _, Nat.zero_le _⟩ ⟨_, rfl, ?_⟩
  have hcp : ∀ t, t < 32 → es_arr σ1 (b + 6) (va_cpy (σ1 (b + 8)) (σ1 (b + 6)) (0 : Int32).toNatClampNeg (0 : Int32).toNatClampNeg (32 : Int32).toNatClampNeg) (b + 6) t = σ1 (b + 8) t := fun t ht => by
    rw [show es_arr σ1 (b + 6) (va_cpy (σ1 (b + 8)) (σ1 (b + 6)) (0 : Int32).toNatClampNeg (0 : Int32).toNatClampNeg (32 : Int32).toNatClampNeg) (b + 6) = va_cpy (σ1 (b + 8)) (σ1 (b + 6)) 0 0 32 from if_pos rfl]
    exact sb_cpy0 ht
  refine ⟨rfl, fun s t hs ht ps pt => ?_, fun k k1 k2 => by rw [show es_arr σ1 (b + 6) _ k = σ1 k from if_neg k1]; exact hoff k k2⟩
  rw [hcp s hs, hcp t ht]
  obtain ⟨f, f1, f2, f3, f4⟩ := hnc s hs ps
  obtain ⟨g, g1, g2, g3, g4⟩ := hnc t ht pt
  have hq := pz_eq σ b pr
  have c1 := em_ct_n (em_ft pr (pz_E σ b)) f
  have c2 := em_ct_n (em_ft pr (pz_E σ b)) g
  rw [f4, g4, nI_eq (by omega) (by omega)]
  constructor
  · intro h
    have hfg := em_ct_inj f2 g2 h
    subst hfg
    exact hq.2.2 s f t ps f2.1 pt f3 (hq.2.1 t f pt f2.1 g3)
  · intro h
    have hE : pz_E σ b f g := hq.2.2 f s g f2.1 ps g2.1 (hq.2.1 s f ps f2.1 f3) (hq.2.2 s t g ps pt g2.1 h g3)
    rcases Nat.lt_trichotomy f g with h1 | h1 | h1
    · exact absurd (hq.2.1 f g f2.1 g2.1 hE) (g2.2 f h1 f2.1)
    · rw [h1]
    · exact absurd hE (f2.2 g h1 g2.1)
end
