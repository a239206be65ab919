/-! ===== Model: faults ===== -/
section
variable {l : Launch} {G : ez_G} {σ : es_S}
/-- the model's marks -/
def cm (c : Nat → Bool) (σ : es_S) : Prop := ∀ t, t < 24 → σ 54 t = eb (c t)
theorem cm_off {c : Nat → Bool} {σ σ' : es_S} (h : cm c σ) (hs : σ' 54 = σ 54) : cm c σ' := by unfold cm; rw [hs]; exact h
theorem cm_up {c : Nat → Bool} {σ : es_S} (h : cm c σ) (u : Nat) (v : Bool) {x : Int32} (hx : x = eb v) : cm (fun t => if t = u then v else c t) (es_up σ 54 u x) := fun t ht => by
  by_cases g : t = u
  · simp [es_upx, g, hx]
  · simp [es_upx, g, h t ht]
theorem lp_MD_mark_18 {X : em_E} {P : Nat} (hw : em_wf P X) {e : Nat} (he : e < 2) (hm : md X e σ) {b : Nat} (hb : b < em_n X) (hun : ¬ em_unw X b) {c : Nat → Bool} (hk6 : em_k X b ≠ 6) : ∀ (d : Nat) (i : Nat) (g : Bool) (c1 : Nat → Bool) (σ1 : es_S), em_nd (em_k X b) - i = d → (i ≤ em_nd (em_k X b) ∧ cm c1 σ1 ∧ (∀ k, k ≠ 54 → σ1 k = σ k) ∧ (∀ t, c1 t = true ↔ (c t = true ∨ ∃ z, z < i ∧ em_w X b z = some t)) ∧ (g = true ↔ ∃ z t, z < i ∧ em_w X b z = some t ∧ c t = false)) → ez_Ev l G X_MD_mark 0 0 18 [some (.ref 46), some (.int (nI e)), some (.int (nI b)), some (.int (nI (em_k X b))), some (.int (eb g)), some (.int (nI i)), none] [] (es_H σ1) (es_Q (es_I fun y σ' => (∃ (g : Bool) (c' : Nat → Bool), y = eb g ∧ cm c' σ' ∧ (∀ t, c' t = true ↔ (c t = true ∨ em_ed X b t)) ∧ (g = true ↔ ∃ t, em_ed X b t ∧ c t = false)) ∧ ∀ k, k ≠ 54 → σ' k = σ k) es_no) := by
  intro d
  induction d using Nat.strongRecOn with
  | _ d ih =>
    intro i g c1 σ1 hmm hinv
    obtain ⟨hi, hc1, hoff, hct, hg⟩ := hinv
    have hn := hw.1
    have hk := hw.2.1 b hb
    have hnd := em_nd_le (em_k X b)
    have hm1 : md X e σ1 := md_off hm (fun k g1 g2 => hoff k (by omega))
    refine ev_iload d_MD_mark_18 rfl ?_
    refine ev_iload_n (i := 3) d_MD_mark_20 rfl rfl ?_
    refine es_cSI ls_MD_mark_21 d_MD_mark_21 (c_MD_needs hk) rfl rfl (Nat.le_of_ble_eq_true rfl) (fun x21 σ21 h21 => ?_) (fun _ _ h => h.elim)
    obtain ⟨rfl, e21⟩ := h21
    rw [e21]
    refine ev_icmp_ge d_MD_mark_24 (fun h24 => ?_) (fun h24 => ?_)
    · rw [nI_leI (by omega) (by omega)] at h24
      refine ev_iload d_MD_mark_79 rfl ?_
      refine es_zret d_MD_mark_81 rfl (eb_nar _) ⟨Nat.zero_le _, Nat.zero_le _⟩ ⟨_, rfl, ?_⟩
      have hie : i = em_nd (em_k X b) := by omega
      subst hie
      refine ⟨⟨g, c1, rfl, hc1, fun t => ?_, ?_⟩, hoff⟩
      · rw [hct t]
        exact ⟨fun q => q.imp id (fun ⟨z, z1, z2⟩ => ⟨⟨hb, z, z1, z2⟩, hk6⟩), fun q => q.imp id (fun ⟨⟨_, z, z1, z2⟩, _⟩ => ⟨z, z1, z2⟩)⟩
      · rw [hg]
        exact ⟨fun ⟨z, t, z1, z2, z3⟩ => ⟨t, ⟨⟨hb, z, z1, z2⟩, hk6⟩, z3⟩, fun ⟨t, ⟨⟨_, z, z1, z2⟩, _⟩, z3⟩ => ⟨z, t, z1, z2, z3⟩⟩
    · rw [nI_leI (by omega) (by omega), Nat.not_le] at h24
      obtain ⟨to, hto⟩ := Option.ne_none_iff_exists'.mp (fun q => hun ⟨i, h24, q⟩ : em_w X b i ≠ none)
      have htl := (hw.2.2.1 b i to hto).2
      have hct2 : (nI to).toNatClampNeg = to := nI_clamp (by omega)
      refine ev_iload_n (i := 3) d_MD_mark_27 rfl rfl ?_
      refine ev_bipush (v := 6) d_MD_mark_28 rfl ?_
      refine ev_icmp_eq d_MD_mark_30 (fun h30 => ?_) (fun h30 => ?_)
      · rw [show (6 : Int32) = nI 6 from rfl, nI_eq (by omega) (by omega)] at h30
        exact absurd h30 hk6
      · refine ev_aload_n (i := 0) d_MD_mark_33 rfl rfl ?_
        refine ev_iload_n (i := 1) d_MD_mark_34 rfl rfl ?_
        refine ev_iload_n (i := 2) d_MD_mark_35 rfl rfl ?_
        refine ev_iload d_MD_mark_36 rfl ?_
        refine es_cVI ls_MD_mark_38 d_MD_mark_38 rfl (c_MD_input hw he hm1 hb (show i < 2 by omega)) rfl rfl (Nat.le_of_ble_eq_true rfl) (fun x38 σ38 h38 => ?_) (fun _ _ h => h.elim)
        obtain ⟨rfl, e38⟩ := h38
        rw [e38, hto, show en (some to) = nI to from rfl]
        refine ev_istore d_MD_mark_41 (by decide) ?_
        dsimp only [List.set_cons_zero, List.set_cons_succ]
        refine ev_iload d_MD_mark_43 rfl ?_
        refine ev_if_ne d_MD_mark_45 (fun h45 => ?_) (fun h45 => ?_)
        · rw [eb_0, Bool.not_eq_false] at h45
          refine ev_iconst (v := 1) d_MD_mark_58 rfl ?_
          refine ev_goto d_MD_mark_59 ?_
          refine ev_istore d_MD_mark_63 (by decide) ?_
          dsimp only [List.set_cons_zero, List.set_cons_succ]
          refine ev_aload_n (i := 0) d_MD_mark_65 rfl rfl ?_
          refine es_getR d_MD_mark_66 f_MD_32 rfl rfl ?_
          refine ev_iload d_MD_mark_69 rfl ?_
          refine ev_iconst (v := 1) d_MD_mark_71 rfl ?_
          refine es_zast d_MD_mark_72 rfl (ez_vinN (by omega) (by omega)) ?_
          rw [hct2]
          refine ev_iinc d_MD_mark_73 rfl (ez_inc _) (by decide) ?_
          dsimp only [List.set_cons_zero, List.set_cons_succ]
          refine ev_goto d_MD_mark_76 ?_
          refine ev_mask [true, true, true, true, true, true, false] rfl ?_
          have hc2 := cm_up hc1 to true (x := vp_nar .boolean 1) rfl
          have hnew : ∀ t, (if t = to then true else c1 t) = true ↔ (c t = true ∨ ∃ z, z < i + 1 ∧ em_w X b z = some t) := fun t => by
            by_cases g1 : t = to
            · simp only [g1, if_true, true_iff]
              exact Or.inr ⟨i, by omega, hto⟩
            · simp only [g1, if_false]
              rw [hct t]
              constructor
              · rintro (q | ⟨z, z1, z2⟩)
                · exact Or.inl q
                · exact Or.inr ⟨z, by omega, z2⟩
              · rintro (q | ⟨z, z1, z2⟩)
                · exact Or.inl q
                · by_cases zi : z = i
                  · rw [zi, hto] at z2; injection z2 with z2; exact absurd z2.symm g1
                  · exact Or.inr ⟨z, by omega, z2⟩
          have hof : ∀ k, k ≠ 54 → es_up σ1 54 to (vp_nar .boolean 1) k = σ k := fun k hk => by rw [es_upf _ _ _ _ hk]; exact hoff k hk
          first
            | (refine ih _ (by omega) (i + 1) false _ _ rfl ⟨by omega, hc2, hof, hnew, ⟨(fun q => by cases q), fun ⟨z, t, z1, z2, z3⟩ => ?_⟩⟩
               by_cases zi : z = i
               · rw [zi, hto] at z2; injection z2 with z2
                 rcases (hct to).mp h55 with q | ⟨y, y1, y2⟩
                 · rw [z2, z3] at q; cases q
                 · rw [← h45]; exact hg.mpr ⟨y, t, y1, by rw [y2, z2], z3⟩
               · rw [← h45]; exact hg.mpr ⟨z, t, by omega, z2, z3⟩)
            | (refine ih _ (by omega) (i + 1) true _ _ rfl ⟨by omega, hc2, hof, hnew, ⟨fun _ => ⟨i, to, by omega, hto, ?_⟩, fun _ => rfl⟩⟩
               cases hq : c to with
               | false => rfl
               | true => rw [(hct to).mpr (Or.inl hq)] at h55; cases h55)
            | (refine ih _ (by omega) (i + 1) true _ _ rfl ⟨by omega, hc2, hof, hnew, ⟨fun _ => ?_, fun _ => rfl⟩⟩
               obtain ⟨z, t, z1, z2, z3⟩ := hg.mp h45
               exact ⟨z, t, by omega, z2, z3⟩)
        · rw [eb_0] at h45
          refine ev_aload_n (i := 0) d_MD_mark_48 rfl rfl ?_
          refine es_getR d_MD_mark_49 f_MD_32 rfl rfl ?_
          refine ev_iload d_MD_mark_52 rfl ?_
          refine es_zald d_MD_mark_54 rfl (ez_vinN (by omega) (by omega)) ?_
          rw [hct2, hc1 to (by omega)]
          refine ev_if_ne d_MD_mark_55 (fun h55 => ?_) (fun h55 => ?_)
          · rw [eb_0, Bool.not_eq_false] at h55
            refine ev_iconst (v := 0) d_MD_mark_62 rfl ?_
            refine ev_istore d_MD_mark_63 (by decide) ?_
            dsimp only [List.set_cons_zero, List.set_cons_succ]
            refine ev_aload_n (i := 0) d_MD_mark_65 rfl rfl ?_
            refine es_getR d_MD_mark_66 f_MD_32 rfl rfl ?_
            refine ev_iload d_MD_mark_69 rfl ?_
            refine ev_iconst (v := 1) d_MD_mark_71 rfl ?_
            refine es_zast d_MD_mark_72 rfl (ez_vinN (by omega) (by omega)) ?_
            rw [hct2]
            refine ev_iinc d_MD_mark_73 rfl (ez_inc _) (by decide) ?_
            dsimp only [List.set_cons_zero, List.set_cons_succ]
            refine ev_goto d_MD_mark_76 ?_
            refine ev_mask [true, true, true, true, true, true, false] rfl ?_
            have hc2 := cm_up hc1 to true (x := vp_nar .boolean 1) rfl
            have hnew : ∀ t, (if t = to then true else c1 t) = true ↔ (c t = true ∨ ∃ z, z < i + 1 ∧ em_w X b z = some t) := fun t => by
              by_cases g1 : t = to
              · simp only [g1, if_true, true_iff]
                exact Or.inr ⟨i, by omega, hto⟩
              · simp only [g1, if_false]
                rw [hct t]
                constructor
                · rintro (q | ⟨z, z1, z2⟩)
                  · exact Or.inl q
                  · exact Or.inr ⟨z, by omega, z2⟩
                · rintro (q | ⟨z, z1, z2⟩)
                  · exact Or.inl q
                  · by_cases zi : z = i
                    · rw [zi, hto] at z2; injection z2 with z2; exact absurd z2.symm g1
                    · exact Or.inr ⟨z, by omega, z2⟩
            have hof : ∀ k, k ≠ 54 → es_up σ1 54 to (vp_nar .boolean 1) k = σ k := fun k hk => by rw [es_upf _ _ _ _ hk]; exact hoff k hk
            first
              | (refine ih _ (by omega) (i + 1) false _ _ rfl ⟨by omega, hc2, hof, hnew, ⟨(fun q => by cases q), fun ⟨z, t, z1, z2, z3⟩ => ?_⟩⟩
                 by_cases zi : z = i
                 · rw [zi, hto] at z2; injection z2 with z2
                   rcases (hct to).mp h55 with q | ⟨y, y1, y2⟩
                   · rw [z2, z3] at q; cases q
                   · rw [← h45]; exact hg.mpr ⟨y, t, y1, by rw [y2, z2], z3⟩
                 · rw [← h45]; exact hg.mpr ⟨z, t, by omega, z2, z3⟩)
              | (refine ih _ (by omega) (i + 1) true _ _ rfl ⟨by omega, hc2, hof, hnew, ⟨fun _ => ⟨i, to, by omega, hto, ?_⟩, fun _ => rfl⟩⟩
                 cases hq : c to with
                 | false => rfl
                 | true => rw [(hct to).mpr (Or.inl hq)] at h55; cases h55)
              | (refine ih _ (by omega) (i + 1) true _ _ rfl ⟨by omega, hc2, hof, hnew, ⟨fun _ => ?_, fun _ => rfl⟩⟩
                 obtain ⟨z, t, z1, z2, z3⟩ := hg.mp h45
                 exact ⟨z, t, by omega, z2, z3⟩)
          · rw [eb_0] at h55
            refine ev_iconst (v := 1) d_MD_mark_58 rfl ?_
            refine ev_goto d_MD_mark_59 ?_
            refine ev_istore d_MD_mark_63 (by decide) ?_
            dsimp only [List.set_cons_zero, List.set_cons_succ]
            refine ev_aload_n (i := 0) d_MD_mark_65 rfl rfl ?_
            refine es_getR d_MD_mark_66 f_MD_32 rfl rfl ?_
            refine ev_iload d_MD_mark_69 rfl ?_
            refine ev_iconst (v := 1) d_MD_mark_71 rfl ?_
            refine es_zast d_MD_mark_72 rfl (ez_vinN (by omega) (by omega)) ?_
            rw [hct2]
            refine ev_iinc d_MD_mark_73 rfl (ez_inc _) (by decide) ?_
            dsimp only [List.set_cons_zero, List.set_cons_succ]
            refine ev_goto d_MD_mark_76 ?_
            refine ev_mask [true, true, true, true, true, true, false] rfl ?_
            have hc2 := cm_up hc1 to true (x := vp_nar .boolean 1) rfl
            have hnew : ∀ t, (if t = to then true else c1 t) = true ↔ (c t = true ∨ ∃ z, z < i + 1 ∧ em_w X b z = some t) := fun t => by
              by_cases g1 : t = to
              · simp only [g1, if_true, true_iff]
                exact Or.inr ⟨i, by omega, hto⟩
              · simp only [g1, if_false]
                rw [hct t]
                constructor
                · rintro (q | ⟨z, z1, z2⟩)
                  · exact Or.inl q
                  · exact Or.inr ⟨z, by omega, z2⟩
                · rintro (q | ⟨z, z1, z2⟩)
                  · exact Or.inl q
                  · by_cases zi : z = i
                    · rw [zi, hto] at z2; injection z2 with z2; exact absurd z2.symm g1
                    · exact Or.inr ⟨z, by omega, z2⟩
            have hof : ∀ k, k ≠ 54 → es_up σ1 54 to (vp_nar .boolean 1) k = σ k := fun k hk => by rw [es_upf _ _ _ _ hk]; exact hoff k hk
            first
              | (refine ih _ (by omega) (i + 1) false _ _ rfl ⟨by omega, hc2, hof, hnew, ⟨(fun q => by cases q), fun ⟨z, t, z1, z2, z3⟩ => ?_⟩⟩
                 by_cases zi : z = i
                 · rw [zi, hto] at z2; injection z2 with z2
                   rcases (hct to).mp h55 with q | ⟨y, y1, y2⟩
                   · rw [z2, z3] at q; cases q
                   · rw [← h45]; exact hg.mpr ⟨y, t, y1, by rw [y2, z2], z3⟩
                 · rw [← h45]; exact hg.mpr ⟨z, t, by omega, z2, z3⟩)
              | (refine ih _ (by omega) (i + 1) true _ _ rfl ⟨by omega, hc2, hof, hnew, ⟨fun _ => ⟨i, to, by omega, hto, ?_⟩, fun _ => rfl⟩⟩
                 cases hq : c to with
                 | false => rfl
                 | true => rw [(hct to).mpr (Or.inl hq)] at h55; cases h55)
              | (refine ih _ (by omega) (i + 1) true _ _ rfl ⟨by omega, hc2, hof, hnew, ⟨fun _ => ?_, fun _ => rfl⟩⟩
                 obtain ⟨z, t, z1, z2, z3⟩ := hg.mp h45
                 exact ⟨z, t, by omega, z2, z3⟩)
theorem c_MD_mark {X : em_E} {P : Nat} (hw : em_wf P X) {e : Nat} (he : e < 2) (hm : md X e σ) {b : Nat} (hb : b < em_n X) (hun : ¬ em_unw X b) {c : Nat → Bool} (hcm : cm c σ) : ez_Ct l G X_MD_mark [.ref 46, .int (nI e), .int (nI b)] (es_H σ) (es_Q (es_I fun y σ' => (∃ (g : Bool) (c' : Nat → Bool), y = eb g ∧ cm c' σ' ∧ (∀ t, c' t = true ↔ (c t = true ∨ em_ed X b t)) ∧ (g = true ↔ ∃ t, em_ed X b t ∧ c t = false)) ∧ ∀ k, k ≠ 54 → σ' k = σ k) es_no) := by
  have hn := hw.1
  have hk := hw.2.1 b hb
  refine es_Ct_of (ls := [some (.ref 46), some (.int (nI e)), some (.int (nI b)), none, none, none, none]) ok_MD_mark rfl (Nat.le_of_ble_eq_true rfl) rfl ?_
  refine ev_aload_n (i := 0) d_MD_mark_0 rfl rfl ?_
  refine es_getR d_MD_mark_1 f_MD_17 rfl rfl ?_
  refine ev_bipush (v := 24) d_MD_mark_4 rfl ?_
  refine ev_iload_n (i := 1) d_MD_mark_6 rfl rfl ?_
  refine ev_imul d_MD_mark_7 ?_
  refine ev_iload_n (i := 2) d_MD_mark_8 rfl rfl ?_
  refine ev_iadd d_MD_mark_9 ?_
  rw [ix24]
  refine es_iald d_MD_mark_10 rfl (ez_vinN (by omega) (by omega)) ?_
  rw [nI_clamp (by omega), (hm.2.1 b hb).1]
  refine ev_istore_n (i := 3) d_MD_mark_11 rfl (by decide) ?_
  dsimp only [List.set_cons_zero, List.set_cons_succ]
  refine ev_iconst (v := 0) d_MD_mark_12 rfl ?_
  refine ev_istore d_MD_mark_13 (by decide) ?_
  dsimp only [List.set_cons_zero, List.set_cons_succ]
  refine ev_iconst (v := 0) d_MD_mark_15 rfl ?_
  refine ev_istore d_MD_mark_16 (by decide) ?_
  dsimp only [List.set_cons_zero, List.set_cons_succ]
  by_cases hk6 : em_k X b = 6
  · rw [hk6]
    refine ev_iload d_MD_mark_18 rfl ?_
    refine ev_iload_n (i := 3) d_MD_mark_20 rfl rfl ?_
    refine es_cSI ls_MD_mark_21 d_MD_mark_21 (c_MD_needs (k := 6) (by omega)) rfl rfl (Nat.le_of_ble_eq_true rfl) (fun x21 σ21 h21 => ?_) (fun _ _ h => h.elim)
    obtain ⟨rfl, e21⟩ := h21
    rw [e21]
    refine ev_icmp_ge d_MD_mark_24 (fun h24 => ?_) (fun h24 => ?_)
    · exact absurd h24 (by decide)
    · refine ev_iload_n (i := 3) d_MD_mark_27 rfl rfl ?_
      refine ev_bipush (v := 6) d_MD_mark_28 rfl ?_
      refine ev_icmp_eq d_MD_mark_30 (fun h30 => ?_) (fun h30 => ?_)
      · refine ev_iload d_MD_mark_79 rfl ?_
        refine es_zret d_MD_mark_81 rfl rfl ⟨Nat.zero_le _, Nat.zero_le _⟩ ⟨_, rfl, ?_⟩
        refine ⟨⟨false, c, rfl, hcm, fun t => ⟨Or.inl, fun q => q.elim id (fun q => absurd hk6 q.2)⟩, ⟨(fun q => by cases q), fun ⟨t, q, _⟩ => absurd hk6 q.2⟩⟩, fun _ _ => rfl⟩
      · exact absurd rfl h30
  · exact lp_MD_mark_18 hw he hm hb hun hk6 _ 0 false c σ rfl ⟨Nat.zero_le _, hcm, fun _ _ => rfl, fun t => ⟨Or.inl, fun q => q.elim id (fun ⟨z, z1, _⟩ => absurd z1 (Nat.not_lt_zero _))⟩, ⟨(fun q => by cases q), fun ⟨z, t, z1, _⟩ => absurd z1 (Nat.not_lt_zero _)⟩⟩
theorem lp_MD_isRound_48 {X : em_E} {P : Nat} (hw : em_wf P X) {e : Nat} (he : e < 2) (hm : md X e σ) {b : Nat} (hb : b < em_n X) (hun : ∀ b, b < em_n X → ¬ em_unw X b) {c0 : Nat → Bool} (hex : ∀ (g : Bool) (c1 : Nat → Bool) (σ1 : es_S), cm c1 σ1 → (∀ k, k ≠ 54 → σ1 k = σ k) → (∀ t, c1 t = true → Relation.TransGen (em_ed X) b t) → (∀ t, em_ed X b t → c1 t = true) → (∀ t, c0 t = true → c1 t = true) → (g = true → em_ct (fun t => c0 t = true) 24 < em_ct (fun t => c1 t = true) 24) → (g = false → (∀ u, c1 u = true → ∀ t, em_ed X u t → c1 t = true)) → ez_Ev l G X_MD_isRound 0 0 95 [some (.ref 46), some (.int (nI e)), some (.int (nI b)), some (.int (eb g)), none] [] (es_H σ1) (es_Q (es_I fun y σ' => y = eb (bd (em_cyc X b)) ∧ ∀ k, k ≠ 54 → σ' k = σ k) es_no)) : ∀ (d : Nat) (u : Nat) (g : Bool) (c1 : Nat → Bool) (σ1 : es_S), 24 - u = d → (u ≤ em_n X ∧ cm c1 σ1 ∧ (∀ k, k ≠ 54 → σ1 k = σ k) ∧ (∀ t, c1 t = true → Relation.TransGen (em_ed X) b t) ∧ (∀ t, em_ed X b t → c1 t = true) ∧ (∀ t, c0 t = true → c1 t = true) ∧ (g = true → em_ct (fun t => c0 t = true) 24 < em_ct (fun t => c1 t = true) 24) ∧ (g = false → (∀ t, c1 t = true → c0 t = true) ∧ ∀ v, v < u → c1 v = true → ∀ t, em_ed X v t → c1 t = true)) → ez_Ev l G X_MD_isRound 0 0 48 [some (.ref 46), some (.int (nI e)), some (.int (nI b)), some (.int (eb g)), some (.int (nI u))] [] (es_H σ1) (es_Q (es_I fun y σ' => y = eb (bd (em_cyc X b)) ∧ ∀ k, k ≠ 54 → σ' k = σ k) es_no) := by
  intro d
  induction d using Nat.strongRecOn with
  | _ d ih =>
    intro u g c1 σ1 hmm hinv
    obtain ⟨hu, hc1, hoff, hsn, hba, hsub, hgt, hgf⟩ := hinv
    have hn := hw.1
    have hm1 : md X e σ1 := md_off hm (fun k g1 g2 => hoff k (by omega))
    have hce : (nI e).toNatClampNeg = e := nI_clamp (by omega)
    have hel : ∀ u t, em_ed X u t → t < 24 := fun u t q => by obtain ⟨⟨-, z, -, q2⟩, -⟩ := q; have := (hw.2.2.1 u z t q2).2; omega
    refine ev_iload d_MD_isRound_48 rfl ?_
    refine ev_aload_n (i := 0) d_MD_isRound_50 rfl rfl ?_
    refine es_getR d_MD_isRound_51 f_MD_13 rfl rfl ?_
    refine ev_iload_n (i := 1) d_MD_isRound_54 rfl rfl ?_
    refine es_iald d_MD_isRound_55 rfl (ez_vinN he (by omega)) ?_
    rw [hce, hm1.1]
    refine ev_icmp_ge d_MD_isRound_56 (fun h56 => ?_) (fun h56 => ?_)
    · rw [nI_leI (by omega) (by omega)] at h56
      refine ev_mask [true, true, true, true, false] rfl (hex g c1 σ1 hc1 hoff hsn hba hsub hgt (fun q v hv t ht => (hgf q).2 v ?_ hv t ht))
      obtain ⟨⟨hvn, -⟩, -⟩ := ht
      omega
    · rw [nI_leI (by omega) (by omega), Nat.not_le] at h56
      refine ev_aload_n (i := 0) d_MD_isRound_59 rfl rfl ?_
      refine es_getR d_MD_isRound_60 f_MD_32 rfl rfl ?_
      refine ev_iload d_MD_isRound_63 rfl ?_
      refine es_zald d_MD_isRound_65 rfl (ez_vinN (by omega) (by omega)) ?_
      rw [nI_clamp (by omega), hc1 u (by omega)]
      refine ev_if_eq d_MD_isRound_66 (fun h66 => ?_) (fun h66 => ?_)
      · rw [eb_0] at h66
        refine ev_iload_n (i := 3) d_MD_isRound_79 rfl rfl ?_
        refine ev_if_eq d_MD_isRound_80 (fun h80 => ?_) (fun h80 => ?_)
        · rw [eb_0] at h80
          refine ev_iconst (v := 0) d_MD_isRound_87 rfl ?_
          refine ev_istore_n (i := 3) d_MD_isRound_88 rfl (by decide) ?_
          dsimp only [List.set_cons_zero, List.set_cons_succ]
          refine ev_iinc d_MD_isRound_89 rfl (ez_inc _) (by decide) ?_
          dsimp only [List.set_cons_zero, List.set_cons_succ]
          refine ev_goto d_MD_isRound_92 ?_
          first
            | (exact ih _ (by omega) (u + 1) false c1 σ1 rfl ⟨by omega, hc1, hoff, hsn, hba, hsub, (fun q => by cases q), fun _ => ⟨(hgf h80).1, fun v hv q t ht => by
                 by_cases hvu : v = u
                 · rw [hvu, h66] at q; cases q
                 · exact (hgf h80).2 v (by omega) q t ht⟩⟩)
            | (exact ih _ (by omega) (u + 1) true c1 σ1 rfl ⟨by omega, hc1, hoff, hsn, hba, hsub, fun _ => hgt h80, (fun q => by cases q)⟩)
            | (refine (hg2.mp h76).elim (fun t2 q2 => ?_)
               obtain ⟨t3, t4⟩ := q2
               have hlt := em_ct_lt (p := fun t => c1 t = true) (q := fun t => c2 t = true) 24 (fun t _ q => hup t q) t2 (hel u t2 t3) ((hc3 t2).mpr (Or.inr t3)) (by rw [t4]; decide)
               have hle0 := em_ct_le (p := fun t => c0 t = true) (q := fun t => c1 t = true) 24 (fun t _ q => hsub t q)
               exact ih _ (by omega) (u + 1) true c2 σ73 rfl ⟨by omega, hc2, hof2, hsn2, fun t q => hup t (hba t q), fun t q => hup t (hsub t q), fun _ => by omega, (fun q => by cases q)⟩)
            | (have hsame : ∀ t, c2 t = true → c1 t = true := fun t q => ((hc3 t).mp q).elim id (fun q => Classical.byContradiction fun q2 => by rw [hg2.mpr ⟨t, q, by simpa using q2⟩] at h76; cases h76)
               exact ih _ (by omega) (u + 1) false c2 σ73 rfl ⟨by omega, hc2, hof2, hsn2, fun t q => hup t (hba t q), fun t q => hup t (hsub t q), (fun q => by cases q), fun _ => ⟨fun t q => (hgf h80).1 t (hsame t q), fun v hv q t ht => by
                 by_cases hvu : v = u
                 · rw [hvu] at ht; exact (hc3 t).mpr (Or.inr ht)
                 · exact hup t ((hgf h80).2 v (by omega) (hsame v q) t ht)⟩⟩)
            | (exact ih _ (by omega) (u + 1) true c2 σ73 rfl ⟨by omega, hc2, hof2, hsn2, fun t q => hup t (hba t q), fun t q => hup t (hsub t q), fun _ => Nat.lt_of_lt_of_le (hgt h80) hle, (fun q => by cases q)⟩)
        · rw [eb_0, Bool.not_eq_false] at h80
          refine ev_iconst (v := 1) d_MD_isRound_83 rfl ?_
          refine ev_goto d_MD_isRound_84 ?_
          refine ev_istore_n (i := 3) d_MD_isRound_88 rfl (by decide) ?_
          dsimp only [List.set_cons_zero, List.set_cons_succ]
          refine ev_iinc d_MD_isRound_89 rfl (ez_inc _) (by decide) ?_
          dsimp only [List.set_cons_zero, List.set_cons_succ]
          refine ev_goto d_MD_isRound_92 ?_
          first
            | (exact ih _ (by omega) (u + 1) false c1 σ1 rfl ⟨by omega, hc1, hoff, hsn, hba, hsub, (fun q => by cases q), fun _ => ⟨(hgf h80).1, fun v hv q t ht => by
                 by_cases hvu : v = u
                 · rw [hvu, h66] at q; cases q
                 · exact (hgf h80).2 v (by omega) q t ht⟩⟩)
            | (exact ih _ (by omega) (u + 1) true c1 σ1 rfl ⟨by omega, hc1, hoff, hsn, hba, hsub, fun _ => hgt h80, (fun q => by cases q)⟩)
            | (refine (hg2.mp h76).elim (fun t2 q2 => ?_)
               obtain ⟨t3, t4⟩ := q2
               have hlt := em_ct_lt (p := fun t => c1 t = true) (q := fun t => c2 t = true) 24 (fun t _ q => hup t q) t2 (hel u t2 t3) ((hc3 t2).mpr (Or.inr t3)) (by rw [t4]; decide)
               have hle0 := em_ct_le (p := fun t => c0 t = true) (q := fun t => c1 t = true) 24 (fun t _ q => hsub t q)
               exact ih _ (by omega) (u + 1) true c2 σ73 rfl ⟨by omega, hc2, hof2, hsn2, fun t q => hup t (hba t q), fun t q => hup t (hsub t q), fun _ => by omega, (fun q => by cases q)⟩)
            | (have hsame : ∀ t, c2 t = true → c1 t = true := fun t q => ((hc3 t).mp q).elim id (fun q => Classical.byContradiction fun q2 => by rw [hg2.mpr ⟨t, q, by simpa using q2⟩] at h76; cases h76)
               exact ih _ (by omega) (u + 1) false c2 σ73 rfl ⟨by omega, hc2, hof2, hsn2, fun t q => hup t (hba t q), fun t q => hup t (hsub t q), (fun q => by cases q), fun _ => ⟨fun t q => (hgf h80).1 t (hsame t q), fun v hv q t ht => by
                 by_cases hvu : v = u
                 · rw [hvu] at ht; exact (hc3 t).mpr (Or.inr ht)
                 · exact hup t ((hgf h80).2 v (by omega) (hsame v q) t ht)⟩⟩)
            | (exact ih _ (by omega) (u + 1) true c2 σ73 rfl ⟨by omega, hc2, hof2, hsn2, fun t q => hup t (hba t q), fun t q => hup t (hsub t q), fun _ => Nat.lt_of_lt_of_le (hgt h80) hle, (fun q => by cases q)⟩)
      · rw [eb_0, Bool.not_eq_false] at h66
        refine ev_aload_n (i := 0) d_MD_isRound_69 rfl rfl ?_
        refine ev_iload_n (i := 1) d_MD_isRound_70 rfl rfl ?_
        refine ev_iload d_MD_isRound_71 rfl ?_
        refine es_cVI ls_MD_isRound_73 d_MD_isRound_73 rfl (c_MD_mark hw he hm1 h56 (hun u h56) hc1) rfl rfl (Nat.le_of_ble_eq_true rfl) (fun x73 σ73 h73 => ?_) (fun _ _ h => h.elim)
        obtain ⟨⟨g2, c2, rfl, hc2, hc3, hg2⟩, ho2⟩ := h73
        have hof2 : ∀ k, k ≠ 54 → σ73 k = σ k := fun k hk => by rw [ho2 k hk]; exact hoff k hk
        have hsn2 : ∀ t, c2 t = true → Relation.TransGen (em_ed X) b t := fun t q => ((hc3 t).mp q).elim (hsn t) (fun q => Relation.TransGen.tail (hsn u h66) q)
        have hup : ∀ t, c1 t = true → c2 t = true := fun t q => (hc3 t).mpr (Or.inl q)
        have hle := em_ct_le (p := fun t => c1 t = true) (q := fun t => c2 t = true) 24 (fun t _ q => hup t q)
        refine ev_if_ne d_MD_isRound_76 (fun h76 => ?_) (fun h76 => ?_)
        · rw [eb_0, Bool.not_eq_false] at h76
          refine ev_iconst (v := 1) d_MD_isRound_83 rfl ?_
          refine ev_goto d_MD_isRound_84 ?_
          refine ev_istore_n (i := 3) d_MD_isRound_88 rfl (by decide) ?_
          dsimp only [List.set_cons_zero, List.set_cons_succ]
          refine ev_iinc d_MD_isRound_89 rfl (ez_inc _) (by decide) ?_
          dsimp only [List.set_cons_zero, List.set_cons_succ]
          refine ev_goto d_MD_isRound_92 ?_
          first
            | (exact ih _ (by omega) (u + 1) false c1 σ1 rfl ⟨by omega, hc1, hoff, hsn, hba, hsub, (fun q => by cases q), fun _ => ⟨(hgf h80).1, fun v hv q t ht => by
                 by_cases hvu : v = u
                 · rw [hvu, h66] at q; cases q
                 · exact (hgf h80).2 v (by omega) q t ht⟩⟩)
            | (exact ih _ (by omega) (u + 1) true c1 σ1 rfl ⟨by omega, hc1, hoff, hsn, hba, hsub, fun _ => hgt h80, (fun q => by cases q)⟩)
            | (refine (hg2.mp h76).elim (fun t2 q2 => ?_)
               obtain ⟨t3, t4⟩ := q2
               have hlt := em_ct_lt (p := fun t => c1 t = true) (q := fun t => c2 t = true) 24 (fun t _ q => hup t q) t2 (hel u t2 t3) ((hc3 t2).mpr (Or.inr t3)) (by rw [t4]; decide)
               have hle0 := em_ct_le (p := fun t => c0 t = true) (q := fun t => c1 t = true) 24 (fun t _ q => hsub t q)
               exact ih _ (by omega) (u + 1) true c2 σ73 rfl ⟨by omega, hc2, hof2, hsn2, fun t q => hup t (hba t q), fun t q => hup t (hsub t q), fun _ => by omega, (fun q => by cases q)⟩)
            | (have hsame : ∀ t, c2 t = true → c1 t = true := fun t q => ((hc3 t).mp q).elim id (fun q => Classical.byContradiction fun q2 => by rw [hg2.mpr ⟨t, q, by simpa using q2⟩] at h76; cases h76)
               exact ih _ (by omega) (u + 1) false c2 σ73 rfl ⟨by omega, hc2, hof2, hsn2, fun t q => hup t (hba t q), fun t q => hup t (hsub t q), (fun q => by cases q), fun _ => ⟨fun t q => (hgf h80).1 t (hsame t q), fun v hv q t ht => by
                 by_cases hvu : v = u
                 · rw [hvu] at ht; exact (hc3 t).mpr (Or.inr ht)
                 · exact hup t ((hgf h80).2 v (by omega) (hsame v q) t ht)⟩⟩)
            | (exact ih _ (by omega) (u + 1) true c2 σ73 rfl ⟨by omega, hc2, hof2, hsn2, fun t q => hup t (hba t q), fun t q => hup t (hsub t q), fun _ => Nat.lt_of_lt_of_le (hgt h80) hle, (fun q => by cases q)⟩)
        · rw [eb_0] at h76
          refine ev_iload_n (i := 3) d_MD_isRound_79 rfl rfl ?_
          refine ev_if_eq d_MD_isRound_80 (fun h80 => ?_) (fun h80 => ?_)
          · rw [eb_0] at h80
            refine ev_iconst (v := 0) d_MD_isRound_87 rfl ?_
            refine ev_istore_n (i := 3) d_MD_isRound_88 rfl (by decide) ?_
            dsimp only [List.set_cons_zero, List.set_cons_succ]
            refine ev_iinc d_MD_isRound_89 rfl (ez_inc _) (by decide) ?_
            dsimp only [List.set_cons_zero, List.set_cons_succ]
            refine ev_goto d_MD_isRound_92 ?_
            first
              | (exact ih _ (by omega) (u + 1) false c1 σ1 rfl ⟨by omega, hc1, hoff, hsn, hba, hsub, (fun q => by cases q), fun _ => ⟨(hgf h80).1, fun v hv q t ht => by
                   by_cases hvu : v = u
                   · rw [hvu, h66] at q; cases q
                   · exact (hgf h80).2 v (by omega) q t ht⟩⟩)
              | (exact ih _ (by omega) (u + 1) true c1 σ1 rfl ⟨by omega, hc1, hoff, hsn, hba, hsub, fun _ => hgt h80, (fun q => by cases q)⟩)
              | (refine (hg2.mp h76).elim (fun t2 q2 => ?_)
                 obtain ⟨t3, t4⟩ := q2
                 have hlt := em_ct_lt (p := fun t => c1 t = true) (q := fun t => c2 t = true) 24 (fun t _ q => hup t q) t2 (hel u t2 t3) ((hc3 t2).mpr (Or.inr t3)) (by rw [t4]; decide)
                 have hle0 := em_ct_le (p := fun t => c0 t = true) (q := fun t => c1 t = true) 24 (fun t _ q => hsub t q)
                 exact ih _ (by omega) (u + 1) true c2 σ73 rfl ⟨by omega, hc2, hof2, hsn2, fun t q => hup t (hba t q), fun t q => hup t (hsub t q), fun _ => by omega, (fun q => by cases q)⟩)
              | (have hsame : ∀ t, c2 t = true → c1 t = true := fun t q => ((hc3 t).mp q).elim id (fun q => Classical.byContradiction fun q2 => by rw [hg2.mpr ⟨t, q, by simpa using q2⟩] at h76; cases h76)
                 exact ih _ (by omega) (u + 1) false c2 σ73 rfl ⟨by omega, hc2, hof2, hsn2, fun t q => hup t (hba t q), fun t q => hup t (hsub t q), (fun q => by cases q), fun _ => ⟨fun t q => (hgf h80).1 t (hsame t q), fun v hv q t ht => by
                   by_cases hvu : v = u
                   · rw [hvu] at ht; exact (hc3 t).mpr (Or.inr ht)
                   · exact hup t ((hgf h80).2 v (by omega) (hsame v q) t ht)⟩⟩)
              | (exact ih _ (by omega) (u + 1) true c2 σ73 rfl ⟨by omega, hc2, hof2, hsn2, fun t q => hup t (hba t q), fun t q => hup t (hsub t q), fun _ => Nat.lt_of_lt_of_le (hgt h80) hle, (fun q => by cases q)⟩)
          · rw [eb_0, Bool.not_eq_false] at h80
            refine ev_iconst (v := 1) d_MD_isRound_83 rfl ?_
            refine ev_goto d_MD_isRound_84 ?_
            refine ev_istore_n (i := 3) d_MD_isRound_88 rfl (by decide) ?_
            dsimp only [List.set_cons_zero, List.set_cons_succ]
            refine ev_iinc d_MD_isRound_89 rfl (ez_inc _) (by decide) ?_
            dsimp only [List.set_cons_zero, List.set_cons_succ]
            refine ev_goto d_MD_isRound_92 ?_
            first
              | (exact ih _ (by omega) (u + 1) false c1 σ1 rfl ⟨by omega, hc1, hoff, hsn, hba, hsub, (fun q => by cases q), fun _ => ⟨(hgf h80).1, fun v hv q t ht => by
                   by_cases hvu : v = u
                   · rw [hvu, h66] at q; cases q
                   · exact (hgf h80).2 v (by omega) q t ht⟩⟩)
              | (exact ih _ (by omega) (u + 1) true c1 σ1 rfl ⟨by omega, hc1, hoff, hsn, hba, hsub, fun _ => hgt h80, (fun q => by cases q)⟩)
              | (refine (hg2.mp h76).elim (fun t2 q2 => ?_)
                 obtain ⟨t3, t4⟩ := q2
                 have hlt := em_ct_lt (p := fun t => c1 t = true) (q := fun t => c2 t = true) 24 (fun t _ q => hup t q) t2 (hel u t2 t3) ((hc3 t2).mpr (Or.inr t3)) (by rw [t4]; decide)
                 have hle0 := em_ct_le (p := fun t => c0 t = true) (q := fun t => c1 t = true) 24 (fun t _ q => hsub t q)
                 exact ih _ (by omega) (u + 1) true c2 σ73 rfl ⟨by omega, hc2, hof2, hsn2, fun t q => hup t (hba t q), fun t q => hup t (hsub t q), fun _ => by omega, (fun q => by cases q)⟩)
              | (have hsame : ∀ t, c2 t = true → c1 t = true := fun t q => ((hc3 t).mp q).elim id (fun q => Classical.byContradiction fun q2 => by rw [hg2.mpr ⟨t, q, by simpa using q2⟩] at h76; cases h76)
                 exact ih _ (by omega) (u + 1) false c2 σ73 rfl ⟨by omega, hc2, hof2, hsn2, fun t q => hup t (hba t q), fun t q => hup t (hsub t q), (fun q => by cases q), fun _ => ⟨fun t q => (hgf h80).1 t (hsame t q), fun v hv q t ht => by
                   by_cases hvu : v = u
                   · rw [hvu] at ht; exact (hc3 t).mpr (Or.inr ht)
                   · exact hup t ((hgf h80).2 v (by omega) (hsame v q) t ht)⟩⟩)
              | (exact ih _ (by omega) (u + 1) true c2 σ73 rfl ⟨by omega, hc2, hof2, hsn2, fun t q => hup t (hba t q), fun t q => hup t (hsub t q), fun _ => Nat.lt_of_lt_of_le (hgt h80) hle, (fun q => by cases q)⟩)
theorem lp_MD_isRound_30 {X : em_E} {P : Nat} (hw : em_wf P X) {e : Nat} (he : e < 2) (hm : md X e σ) {b : Nat} (hb : b < em_n X) (hun : ∀ b, b < em_n X → ¬ em_unw X b) : ∀ (d : Nat) (g : Bool) (c1 : Nat → Bool) (σ1 : es_S), 2 * (24 - em_ct (fun t => c1 t = true) 24) + bn g = d → (cm c1 σ1 ∧ (∀ k, k ≠ 54 → σ1 k = σ k) ∧ (∀ t, c1 t = true → Relation.TransGen (em_ed X) b t) ∧ (∀ t, em_ed X b t → c1 t = true) ∧ (g = false → (∀ u, c1 u = true → ∀ t, em_ed X u t → c1 t = true))) → ez_Ev l G X_MD_isRound 0 0 30 [some (.ref 46), some (.int (nI e)), some (.int (nI b)), some (.int (eb g)), none] [] (es_H σ1) (es_Q (es_I fun y σ' => y = eb (bd (em_cyc X b)) ∧ ∀ k, k ≠ 54 → σ' k = σ k) es_no) := by
  intro d
  induction d using Nat.strongRecOn with
  | _ d ih =>
    intro g c1 σ1 hmm hinv
    obtain ⟨hc1, hoff, hsn, hba, hcl⟩ := hinv
    have hn := hw.1
    have hm1 : md X e σ1 := md_off hm (fun k g1 g2 => hoff k (by omega))
    have hce : (nI e).toNatClampNeg = e := nI_clamp (by omega)
    have hcb : (nI b).toNatClampNeg = b := nI_clamp (by omega)
    have hcb2 := hc1 b (by omega)
    refine ev_iload_n (i := 3) d_MD_isRound_30 rfl rfl ?_
    refine ev_if_eq d_MD_isRound_31 (fun h31 => ?_) (fun h31 => ?_)
    · rw [eb_0] at h31
      refine ev_aload_n (i := 0) d_MD_isRound_98 rfl rfl ?_
      refine es_getR d_MD_isRound_99 f_MD_32 rfl rfl ?_
      refine ev_iload_n (i := 2) d_MD_isRound_102 rfl rfl ?_
      refine es_zald d_MD_isRound_103 rfl (ez_vinN (by omega) (by omega)) ?_
      rw [hcb, hcb2]
      refine es_zret d_MD_isRound_104 rfl (eb_nar _) ⟨Nat.zero_le _, Nat.zero_le _⟩ ⟨_, rfl, ?_⟩
      refine ⟨?_, hoff⟩
      rw [← bd_of (b := c1 b)]
      refine ⟨hsn b, fun q => ?_⟩
      first
        | exact h40
        | (have hall : ∀ t, Relation.TransGen (em_ed X) b t → c1 t = true := fun t q => by
             induction q with
             | single q => exact hba _ q
             | tail _ q ih2 => exact hcl h31 _ ih2 _ q
           exact hall b q)
    · rw [eb_0, Bool.not_eq_false] at h31
      refine ev_aload_n (i := 0) d_MD_isRound_34 rfl rfl ?_
      refine es_getR d_MD_isRound_35 f_MD_32 rfl rfl ?_
      refine ev_iload_n (i := 2) d_MD_isRound_38 rfl rfl ?_
      refine es_zald d_MD_isRound_39 rfl (ez_vinN (by omega) (by omega)) ?_
      rw [hcb, hcb2]
      refine ev_if_ne d_MD_isRound_40 (fun h40 => ?_) (fun h40 => ?_)
      · rw [eb_0, Bool.not_eq_false] at h40
        refine ev_aload_n (i := 0) d_MD_isRound_98 rfl rfl ?_
        refine es_getR d_MD_isRound_99 f_MD_32 rfl rfl ?_
        refine ev_iload_n (i := 2) d_MD_isRound_102 rfl rfl ?_
        refine es_zald d_MD_isRound_103 rfl (ez_vinN (by omega) (by omega)) ?_
        rw [hcb, hcb2]
        refine es_zret d_MD_isRound_104 rfl (eb_nar _) ⟨Nat.zero_le _, Nat.zero_le _⟩ ⟨_, rfl, ?_⟩
        refine ⟨?_, hoff⟩
        rw [← bd_of (b := c1 b)]
        refine ⟨hsn b, fun q => ?_⟩
        first
          | exact h40
          | (have hall : ∀ t, Relation.TransGen (em_ed X) b t → c1 t = true := fun t q => by
               induction q with
               | single q => exact hba _ q
               | tail _ q ih2 => exact hcl h31 _ ih2 _ q
             exact hall b q)
      · rw [eb_0] at h40
        refine ev_iconst (v := 0) d_MD_isRound_43 rfl ?_
        refine ev_istore_n (i := 3) d_MD_isRound_44 rfl (by decide) ?_
        dsimp only [List.set_cons_zero, List.set_cons_succ]
        refine ev_iconst (v := 0) d_MD_isRound_45 rfl ?_
        refine ev_istore d_MD_isRound_46 (by decide) ?_
        dsimp only [List.set_cons_zero, List.set_cons_succ]
        refine lp_MD_isRound_48 hw he hm hb hun (c0 := c1) (fun g2 c2 σ2 k1 k2 k3 k4 k5 k6 k7 => ?_) _ 0 false c1 σ1 rfl ⟨Nat.zero_le _, hc1, hoff, hsn, hba, fun _ q => q, (fun q => by cases q), fun _ => ⟨fun _ q => q, fun v hv => absurd hv (Nat.not_lt_zero _)⟩⟩
        refine ev_goto d_MD_isRound_95 ?_
        have hl2 := em_ct_n (fun t => c2 t = true) 24
        have hl0 := em_ct_le (p := fun t => c1 t = true) (q := fun t => c2 t = true) 24 (fun t _ q => k5 t q)
        have hbn := bn_le g2
        refine ih _ ?_ g2 c2 σ2 rfl ⟨k1, k2, k3, k4, k7⟩
        cases g2 with
        | true => have := k6 rfl; simp only [h31, bn, if_true] at hmm ⊢; omega
        | false => simp only [h31, bn, if_true] at hmm ⊢; simp; omega
theorem lp_MD_isRound_2 {X : em_E} {P : Nat} (hw : em_wf P X) {e : Nat} (he : e < 2) (hm : md X e σ) {b : Nat} (hb : b < em_n X) (hun : ∀ b, b < em_n X → ¬ em_unw X b) : ∀ (d : Nat) (u : Nat) (σ1 : es_S), 24 - u = d → (u ≤ 24 ∧ (∀ t, t < u → σ1 54 t = eb false) ∧ (∀ k, k ≠ 54 → σ1 k = σ k)) → ez_Ev l G X_MD_isRound 0 0 2 [some (.ref 46), some (.int (nI e)), some (.int (nI b)), some (.int (nI u)), none] [] (es_H σ1) (es_Q (es_I fun y σ' => y = eb (bd (em_cyc X b)) ∧ ∀ k, k ≠ 54 → σ' k = σ k) es_no) := by
  intro d
  induction d using Nat.strongRecOn with
  | _ d ih =>
    intro u σ1 hmm hinv
    obtain ⟨hu, hz, hoff⟩ := hinv
    have hn := hw.1
    have hm1 : md X e σ1 := md_off hm (fun k g1 g2 => hoff k (by omega))
    have hce : (nI e).toNatClampNeg = e := nI_clamp (by omega)
    refine ev_iload_n (i := 3) d_MD_isRound_2 rfl rfl ?_
    refine ev_bipush (v := 24) d_MD_isRound_3 rfl ?_
    refine ev_icmp_ge d_MD_isRound_5 (fun h5 => ?_) (fun h5 => ?_)
    · rw [show (24 : Int32) = nI 24 from rfl, nI_leI (by omega) (by omega)] at h5
      refine ev_aload_n (i := 0) d_MD_isRound_21 rfl rfl ?_
      refine ev_iload_n (i := 1) d_MD_isRound_22 rfl rfl ?_
      refine ev_iload_n (i := 2) d_MD_isRound_23 rfl rfl ?_
      refine es_cVI ls_MD_isRound_24 d_MD_isRound_24 rfl (c_MD_mark hw he hm1 hb (hun b hb) (c := fun _ => false) (fun t ht => hz t (by omega))) rfl rfl (Nat.le_of_ble_eq_true rfl) (fun x24 σ24 h24 => ?_) (fun _ _ h => h.elim)
      obtain ⟨⟨g2, c2, rfl, hc2, hc3, hg2⟩, ho2⟩ := h24
      refine ev_pop d_MD_isRound_27 rfl ?_
      refine ev_iconst (v := 1) d_MD_isRound_28 rfl ?_
      refine ev_istore_n (i := 3) d_MD_isRound_29 rfl (by decide) ?_
      dsimp only [List.set_cons_zero, List.set_cons_succ]
      exact lp_MD_isRound_30 hw he hm hb hun _ true c2 σ24 rfl ⟨hc2, fun k hk => by rw [ho2 k hk]; exact hoff k hk, fun t q => ((hc3 t).mp q).elim (fun q => by cases q) (fun q => Relation.TransGen.single q), fun t q => (hc3 t).mpr (Or.inr q), (fun q => by cases q)⟩
    · rw [show (24 : Int32) = nI 24 from rfl, nI_leI (by omega) (by omega), Nat.not_le] at h5
      refine ev_aload_n (i := 0) d_MD_isRound_8 rfl rfl ?_
      refine es_getR d_MD_isRound_9 f_MD_32 rfl rfl ?_
      refine ev_iload_n (i := 3) d_MD_isRound_12 rfl rfl ?_
      refine ev_iconst (v := 0) d_MD_isRound_13 rfl ?_
      refine es_zast d_MD_isRound_14 rfl (ez_vinN (by omega) (by omega)) ?_
      rw [nI_clamp (by omega)]
      refine ev_iinc d_MD_isRound_15 rfl (ez_inc _) (by decide) ?_
      dsimp only [List.set_cons_zero, List.set_cons_succ]
      refine ev_goto d_MD_isRound_18 ?_
      refine ih _ (by omega) (u + 1) _ rfl ⟨by omega, fun t ht => ?_, fun k hk => by rw [es_upf _ _ _ _ hk]; exact hoff k hk⟩
      by_cases htu : t = u
      · simp [es_upx, htu]; rfl
      · simp [es_upx, htu]; exact hz t (by omega)
theorem c_MD_isRound {X : em_E} {P : Nat} (hw : em_wf P X) {e : Nat} (he : e < 2) (hm : md X e σ) {b : Nat} (hb : b < em_n X) (hun : ∀ b, b < em_n X → ¬ em_unw X b) : ez_Ct l G X_MD_isRound [.ref 46, .int (nI e), .int (nI b)] (es_H σ) (es_Q (es_I fun y σ' => y = eb (bd (em_cyc X b)) ∧ ∀ k, k ≠ 54 → σ' k = σ k) es_no) := by
  refine es_Ct_of (ls := [some (.ref 46), some (.int (nI e)), some (.int (nI b)), none, none]) ok_MD_isRound rfl (Nat.le_of_ble_eq_true rfl) rfl ?_
  refine ev_iconst (v := 0) d_MD_isRound_0 rfl ?_
  refine ev_istore_n (i := 3) d_MD_isRound_1 rfl (by decide) ?_
  dsimp only [List.set_cons_zero, List.set_cons_succ]
  exact lp_MD_isRound_2 hw he hm hb hun _ 0 σ rfl ⟨by omega, fun t ht => absurd ht (Nat.not_lt_zero _), fun _ _ => rfl⟩
theorem lp_MD_fault_59 {X : em_E} {P : Nat} (hw : em_wf P X) {e : Nat} (he : e < 2) (hm : md X e σ) (hun : ∀ b, b < em_n X → ¬ em_unw X b) : ∀ (d : Nat) (b : Nat) (σ1 : es_S), em_n X - b = d → (b ≤ em_n X ∧ (∀ u, u < b → ¬ em_cyc X u) ∧ (∀ k, k ≠ 54 → σ1 k = σ k)) → ez_Ev l G X_MD_fault 0 0 59 [some (.ref 46), some (.int (nI e)), some (.int (nI b)), none] [] (es_H σ1) (es_Q (es_I fun y σ' => y = en (em_fault X) ∧ ∀ k, k ≠ 54 → σ' k = σ k) es_no) := by
  intro d
  induction d using Nat.strongRecOn with
  | _ d ih =>
    intro b σ1 hmm hinv
    obtain ⟨hb, hno, hoff⟩ := hinv
    have hn := hw.1
    have hm1 : md X e σ1 := md_off hm (fun k g1 g2 => hoff k (by omega))
    have hce : (nI e).toNatClampNeg = e := nI_clamp (by omega)
    refine ev_iload_n (i := 2) d_MD_fault_59 rfl rfl ?_
    refine ev_aload_n (i := 0) d_MD_fault_60 rfl rfl ?_
    refine es_getR d_MD_fault_61 f_MD_13 rfl rfl ?_
    refine ev_iload_n (i := 1) d_MD_fault_64 rfl rfl ?_
    refine es_iald d_MD_fault_65 rfl (ez_vinN he (by omega)) ?_
    rw [hce, hm1.1]
    refine ev_icmp_ge d_MD_fault_66 (fun h66 => ?_) (fun h66 => ?_)
    · rw [nI_leI (by omega) (by omega)] at h66
      refine ev_iconst (v := (-1)) d_MD_fault_86 rfl ?_
      refine es_iret d_MD_fault_87 rfl ⟨Nat.zero_le _, Nat.zero_le _⟩ ⟨_, rfl, ?_⟩
      refine ⟨?_, hoff⟩
      unfold em_fault
      rw [em_fst_none hun]
      simp only
      rw [em_fst_none (fun u hu => hno u (by omega))]
      rfl
    · rw [nI_leI (by omega) (by omega), Nat.not_le] at h66
      refine ev_aload_n (i := 0) d_MD_fault_69 rfl rfl ?_
      refine ev_iload_n (i := 1) d_MD_fault_70 rfl rfl ?_
      refine ev_iload_n (i := 2) d_MD_fault_71 rfl rfl ?_
      refine es_cVI ls_MD_fault_72 d_MD_fault_72 rfl (c_MD_isRound hw he hm1 h66 hun) rfl rfl (Nat.le_of_ble_eq_true rfl) (fun x72 σ72 h72 => ?_) (fun _ _ h => h.elim)
      obtain ⟨rfl, e72⟩ := h72
      have hof2 : ∀ k, k ≠ 54 → σ72 k = σ k := fun k hk => by rw [e72 k hk]; exact hoff k hk
      refine ev_if_eq d_MD_fault_75 (fun h75 => ?_) (fun h75 => ?_)
      · rw [eb_0, bd_f] at h75
        refine ev_iinc d_MD_fault_80 rfl (ez_inc _) (by decide) ?_
        dsimp only [List.set_cons_zero, List.set_cons_succ]
        refine ev_goto d_MD_fault_83 ?_
        refine ih _ (by omega) (b + 1) σ72 rfl ⟨by omega, fun u hu => ?_, hof2⟩
        by_cases hub : u = b
        · rw [hub]; exact h75
        · exact hno u (by omega)
      · rw [eb_0, Bool.not_eq_false, bd_t] at h75
        refine ev_iload_n (i := 2) d_MD_fault_78 rfl rfl ?_
        refine es_iret d_MD_fault_79 rfl ⟨Nat.zero_le _, Nat.zero_le _⟩ ⟨_, rfl, ?_⟩
        refine ⟨?_, hof2⟩
        unfold em_fault
        rw [em_fst_none hun]
        simp only
        rw [em_fst_some h75 hno h66]
        rfl
theorem lp_MD_fault_14 {X : em_E} {P : Nat} (hw : em_wf P X) {e : Nat} (he : e < 2) (hm : md X e σ) {b : Nat} (hb : b < em_n X) (hno : ∀ u, u < b → ¬ em_unw X u) (hex : ¬ em_unw X b → ez_Ev l G X_MD_fault 0 0 51 [some (.ref 46), some (.int (nI e)), some (.int (nI b)), none] [] (es_H σ) (es_Q (es_I fun y σ' => y = en (em_fault X) ∧ ∀ k, k ≠ 54 → σ' k = σ k) es_no)) : ∀ (d : Nat) (i : Nat), 2 - i = d → (i ≤ em_nd (em_k X b) ∧ ∀ z, z < i → em_w X b z ≠ none) → ez_Ev l G X_MD_fault 0 0 14 [some (.ref 46), some (.int (nI e)), some (.int (nI b)), some (.int (nI i))] [] (es_H σ) (es_Q (es_I fun y σ' => y = en (em_fault X) ∧ ∀ k, k ≠ 54 → σ' k = σ k) es_no) := by
  intro d
  induction d using Nat.strongRecOn with
  | _ d ih =>
    intro i hmm hinv
    obtain ⟨hi, hz⟩ := hinv
    have hn := hw.1
    have hk := hw.2.1 b hb
    have hnd := em_nd_le (em_k X b)
    refine ev_iload_n (i := 3) d_MD_fault_14 rfl rfl ?_
    refine ev_aload_n (i := 0) d_MD_fault_15 rfl rfl ?_
    refine es_getR d_MD_fault_16 f_MD_17 rfl rfl ?_
    refine ev_bipush (v := 24) d_MD_fault_19 rfl ?_
    refine ev_iload_n (i := 1) d_MD_fault_21 rfl rfl ?_
    refine ev_imul d_MD_fault_22 ?_
    refine ev_iload_n (i := 2) d_MD_fault_23 rfl rfl ?_
    refine ev_iadd d_MD_fault_24 ?_
    rw [ix24]
    refine es_iald d_MD_fault_25 rfl (ez_vinN (by omega) (by omega)) ?_
    rw [nI_clamp (by omega), (hm.2.1 b hb).1]
    refine es_cSI ls_MD_fault_26 d_MD_fault_26 (c_MD_needs hk) rfl rfl (Nat.le_of_ble_eq_true rfl) (fun x26 σ26 h26 => ?_) (fun _ _ h => h.elim)
    obtain ⟨rfl, e26⟩ := h26
    rw [e26]
    refine ev_icmp_ge d_MD_fault_29 (fun h29 => ?_) (fun h29 => ?_)
    · rw [nI_leI (by omega) (by omega)] at h29
      refine ev_mask [true, true, true, false] rfl (hex (fun ⟨z, z1, z2⟩ => hz z (by omega) z2))
    · rw [nI_leI (by omega) (by omega), Nat.not_le] at h29
      refine ev_aload_n (i := 0) d_MD_fault_32 rfl rfl ?_
      refine ev_iload_n (i := 1) d_MD_fault_33 rfl rfl ?_
      refine ev_iload_n (i := 2) d_MD_fault_34 rfl rfl ?_
      refine ev_iload_n (i := 3) d_MD_fault_35 rfl rfl ?_
      refine es_cVI ls_MD_fault_36 d_MD_fault_36 rfl (c_MD_input hw he hm hb (show i < 2 by omega)) rfl rfl (Nat.le_of_ble_eq_true rfl) (fun x36 σ36 h36 => ?_) (fun _ _ h => h.elim)
      obtain ⟨rfl, e36⟩ := h36
      rw [e36]
      have hwb : ∀ t, em_w X b i = some t → t < 2 ^ 31 := fun t ht => by have := (hw.2.2.1 b i t ht).2; omega
      refine ev_iconst (v := (-1)) d_MD_fault_39 rfl ?_
      refine ev_icmp_ne d_MD_fault_40 (fun h40 => ?_) (fun h40 => ?_)
      · rw [en_none hwb] at h40
        refine ev_iinc d_MD_fault_45 rfl (ez_inc _) (by decide) ?_
        dsimp only [List.set_cons_zero, List.set_cons_succ]
        refine ev_goto d_MD_fault_48 ?_
        refine ih _ (by omega) (i + 1) rfl ⟨by omega, fun z hz2 => ?_⟩
        by_cases hzi : z = i
        · rw [hzi]; exact h40
        · exact hz z (by omega)
      · rw [en_none hwb] at h40
        refine ev_iload_n (i := 2) d_MD_fault_43 rfl rfl ?_
        refine es_iret d_MD_fault_44 rfl ⟨Nat.zero_le _, Nat.zero_le _⟩ ⟨_, rfl, ?_⟩
        refine ⟨?_, fun _ _ => rfl⟩
        unfold em_fault
        rw [em_fst_some (p := em_unw X) ⟨i, h29, h40⟩ hno hb]
        rfl
theorem lp_MD_fault_2 {X : em_E} {P : Nat} (hw : em_wf P X) {e : Nat} (he : e < 2) (hm : md X e σ) : ∀ (d : Nat) (b : Nat), em_n X - b = d → (b ≤ em_n X ∧ ∀ u, u < b → ¬ em_unw X u) → ez_Ev l G X_MD_fault 0 0 2 [some (.ref 46), some (.int (nI e)), some (.int (nI b)), none] [] (es_H σ) (es_Q (es_I fun y σ' => y = en (em_fault X) ∧ ∀ k, k ≠ 54 → σ' k = σ k) es_no) := by
  intro d
  induction d using Nat.strongRecOn with
  | _ d ih =>
    intro b hmm hinv
    obtain ⟨hb, hno⟩ := hinv
    have hn := hw.1
    have hce : (nI e).toNatClampNeg = e := nI_clamp (by omega)
    refine ev_iload_n (i := 2) d_MD_fault_2 rfl rfl ?_
    refine ev_aload_n (i := 0) d_MD_fault_3 rfl rfl ?_
    refine es_getR d_MD_fault_4 f_MD_13 rfl rfl ?_
    refine ev_iload_n (i := 1) d_MD_fault_7 rfl rfl ?_
    refine es_iald d_MD_fault_8 rfl (ez_vinN he (by omega)) ?_
    rw [hce, hm.1]
    refine ev_icmp_ge d_MD_fault_9 (fun h9 => ?_) (fun h9 => ?_)
    · rw [nI_leI (by omega) (by omega)] at h9
      refine ev_iconst (v := 0) d_MD_fault_57 rfl ?_
      refine ev_istore_n (i := 2) d_MD_fault_58 rfl (by decide) ?_
      dsimp only [List.set_cons_zero, List.set_cons_succ]
      exact lp_MD_fault_59 hw he hm (fun u hu => hno u (by omega)) _ 0 σ rfl ⟨Nat.zero_le _, fun u hu => absurd hu (Nat.not_lt_zero _), fun _ _ => rfl⟩
    · rw [nI_leI (by omega) (by omega), Nat.not_le] at h9
      refine ev_iconst (v := 0) d_MD_fault_12 rfl ?_
      refine ev_istore_n (i := 3) d_MD_fault_13 rfl (by decide) ?_
      dsimp only [List.set_cons_zero, List.set_cons_succ]
      refine lp_MD_fault_14 hw he hm h9 hno (fun hnb => ?_) _ 0 rfl ⟨Nat.zero_le _, fun z hz => absurd hz (Nat.not_lt_zero _)⟩
      refine ev_iinc d_MD_fault_51 rfl (ez_inc _) (by decide) ?_
      dsimp only [List.set_cons_zero, List.set_cons_succ]
      refine ev_goto d_MD_fault_54 ?_
      refine ih _ (by omega) (b + 1) rfl ⟨by omega, fun u hu => ?_⟩
      by_cases hub : u = b
      · rw [hub]; exact hnb
      · exact hno u (by omega)
theorem c_MD_fault {X : em_E} {P : Nat} (hw : em_wf P X) {e : Nat} (he : e < 2) (hm : md X e σ) : ez_Ct l G X_MD_fault [.ref 46, .int (nI e)] (es_H σ) (es_Q (es_I fun y σ' => y = en (em_fault X) ∧ ∀ k, k ≠ 54 → σ' k = σ k) es_no) := by
  refine es_Ct_of (ls := [some (.ref 46), some (.int (nI e)), none, none]) ok_MD_fault rfl (Nat.le_of_ble_eq_true rfl) rfl ?_
  refine ev_iconst (v := 0) d_MD_fault_0 rfl ?_
  refine ev_istore_n (i := 2) d_MD_fault_1 rfl (by decide) ?_
  dsimp only [List.set_cons_zero, List.set_cons_succ]
  exact lp_MD_fault_2 hw he hm _ 0 rfl ⟨Nat.zero_le _, fun u hu => absurd hu (Nat.not_lt_zero _)⟩
theorem rm_54 {S : sp_S} {σ σ' : es_S} (h : rm S σ) (hs : ∀ k, k ≠ 54 → σ' k = σ k) : rm S σ' := rm_off h (by rw [hs 46 (by decide)]) (fun k g1 g2 => hs k (by omega))
theorem sE_0 (S : sp_S) : sE S 0 = s0 S := if_pos rfl
theorem sE_1 (S : sp_S) : sE S 1 = s1 S := if_neg (by decide)
theorem fb {X : em_E} {P : Nat} (hw : em_wf P X) : ∀ t, em_fault X = some t → t < 2 ^ 31 := flt_b hw
theorem c_MD_isRight {S : sp_S} (hm : rm S σ) {e : Int32} : ez_Ct l G X_MD_isRight [.ref 46, .int e] (es_H σ) (es_Q (es_I fun y σ' => y = eb (bd (ew e 2 = true ∧ em_right (sE S e))) ∧ ∀ k, k ≠ 54 → σ' k = σ k) es_no) := by
  refine es_Ct_of (ls := [some (.ref 46), some (.int e)]) ok_MD_isRight rfl (Nat.le_of_ble_eq_true rfl) rfl ?_
  refine ev_iload_n (i := 1) d_MD_isRight_0 rfl rfl ?_
  refine ev_iconst (v := 0) d_MD_isRight_1 rfl ?_
  refine ev_iconst (v := 1) d_MD_isRight_2 rfl ?_
  refine es_cSI ls_MD_isRight_3 d_MD_isRight_3 c_MD_in rfl rfl (Nat.le_of_ble_eq_true rfl) (fun x3 σ3 h3 => ?_) (fun _ _ h => h.elim)
  obtain ⟨rfl, e3⟩ := h3
  rw [e3, ei1]
  refine ev_if_eq d_MD_isRight_6 (fun h6 => ?_) (fun h6 => ?_)
  · rw [eb_0] at h6
    refine ev_iconst (v := 0) d_MD_isRight_22 rfl ?_
    refine es_zret d_MD_isRight_23 rfl rfl ⟨Nat.zero_le _, Nat.zero_le _⟩ ⟨_, rfl, ?_⟩
    first
      | exact ⟨by rw [bd_t.mpr ⟨h6, h15⟩]; rfl, e11⟩
      | exact ⟨by rw [bd_f.mpr (fun g => h15 g.2)]; rfl, e11⟩
      | exact ⟨by rw [bd_f.mpr (fun g => absurd g.1 (by rw [h6]; decide))]; rfl, fun _ _ => rfl⟩
  · rw [eb_0, Bool.not_eq_false] at h6
    obtain ⟨j, hj, rfl, hj2⟩ := ew_ex (n := 2) h6 (by omega)
    have hmd := rm_md hm hj
    have hw := sE_wf hm.1 (nI j)
    have hn := hw.1
    have hcj : (nI j).toNatClampNeg = j := nI_clamp (by omega)
    refine ev_aload_n (i := 0) d_MD_isRight_9 rfl rfl ?_
    refine ev_iload_n (i := 1) d_MD_isRight_10 rfl rfl ?_
    refine es_cVI ls_MD_isRight_11 d_MD_isRight_11 rfl (c_MD_fault hw hj hmd) rfl rfl (Nat.le_of_ble_eq_true rfl) (fun x11 σ11 h11 => ?_) (fun _ _ h => h.elim)
    obtain ⟨rfl, e11⟩ := h11
    refine ev_iconst (v := (-1)) d_MD_isRight_14 rfl ?_
    refine ev_icmp_ne d_MD_isRight_15 (fun h15 => ?_) (fun h15 => ?_)
    · rw [en_none (fb hw), em_fault_none] at h15
      refine ev_iconst (v := 0) d_MD_isRight_22 rfl ?_
      refine es_zret d_MD_isRight_23 rfl rfl ⟨Nat.zero_le _, Nat.zero_le _⟩ ⟨_, rfl, ?_⟩
      first
        | exact ⟨by rw [bd_t.mpr ⟨h6, h15⟩]; rfl, e11⟩
        | exact ⟨by rw [bd_f.mpr (fun g => h15 g.2)]; rfl, e11⟩
        | exact ⟨by rw [bd_f.mpr (fun g => absurd g.1 (by rw [h6]; decide))]; rfl, fun _ _ => rfl⟩
    · rw [en_none (fb hw), em_fault_none] at h15
      refine ev_iconst (v := 1) d_MD_isRight_18 rfl ?_
      refine ev_goto d_MD_isRight_19 ?_
      refine es_zret d_MD_isRight_23 rfl rfl ⟨Nat.zero_le _, Nat.zero_le _⟩ ⟨_, rfl, ?_⟩
      first
        | exact ⟨by rw [bd_t.mpr ⟨h6, h15⟩]; rfl, e11⟩
        | exact ⟨by rw [bd_f.mpr (fun g => h15 g.2)]; rfl, e11⟩
        | exact ⟨by rw [bd_f.mpr (fun g => absurd g.1 (by rw [h6]; decide))]; rfl, fun _ _ => rfl⟩
theorem c_MD_areRight {S : sp_S} (hm : rm S σ) : ez_Ct l G X_MD_areRight [.ref 46] (es_H σ) (es_Q (es_I fun y σ' => y = eb (bd (sBoth S)) ∧ ∀ k, k ≠ 54 → σ' k = σ k) es_no) := by
  refine es_Ct_of (ls := [some (.ref 46)]) ok_MD_areRight rfl (Nat.le_of_ble_eq_true rfl) rfl ?_
  refine ev_aload_n (i := 0) d_MD_areRight_0 rfl rfl ?_
  refine ev_iconst (v := 0) d_MD_areRight_1 rfl ?_
  refine es_cVI ls_MD_areRight_2 d_MD_areRight_2 rfl (c_MD_isRight hm (e := 0)) rfl rfl (Nat.le_of_ble_eq_true rfl) (fun x2 σ2 h2 => ?_) (fun _ _ h => h.elim)
  obtain ⟨rfl, e2⟩ := h2
  refine ev_if_eq d_MD_areRight_5 (fun h5 => ?_) (fun h5 => ?_)
  · rw [eb_0, bd_f, sE_0] at h5
    refine ev_iconst (v := 0) d_MD_areRight_20 rfl ?_
    refine es_zret d_MD_areRight_21 rfl rfl ⟨Nat.zero_le _, Nat.zero_le _⟩ ⟨_, rfl, ?_⟩
    first
      | (have hq : sBoth S := ⟨h5.2, h13.2⟩
         exact ⟨by rw [bd_t.mpr hq]; rfl, fun k hk => by rw [e10 k hk, e2 k hk]⟩)
      | exact ⟨by rw [bd_f.mpr (fun g : sBoth S => h13 ⟨rfl, g.2⟩)]; rfl, fun k hk => by rw [e10 k hk, e2 k hk]⟩
      | exact ⟨by rw [bd_f.mpr (fun g : sBoth S => h5 ⟨rfl, g.1⟩)]; rfl, e2⟩
  · rw [eb_0, Bool.not_eq_false, bd_t, sE_0] at h5
    refine ev_aload_n (i := 0) d_MD_areRight_8 rfl rfl ?_
    refine ev_iconst (v := 1) d_MD_areRight_9 rfl ?_
    refine es_cVI ls_MD_areRight_10 d_MD_areRight_10 rfl (c_MD_isRight (rm_54 hm e2) (e := 1)) rfl rfl (Nat.le_of_ble_eq_true rfl) (fun x10 σ10 h10 => ?_) (fun _ _ h => h.elim)
    obtain ⟨rfl, e10⟩ := h10
    refine ev_if_eq d_MD_areRight_13 (fun h13 => ?_) (fun h13 => ?_)
    · rw [eb_0, bd_f, sE_1] at h13
      refine ev_iconst (v := 0) d_MD_areRight_20 rfl ?_
      refine es_zret d_MD_areRight_21 rfl rfl ⟨Nat.zero_le _, Nat.zero_le _⟩ ⟨_, rfl, ?_⟩
      first
        | (have hq : sBoth S := ⟨h5.2, h13.2⟩
           exact ⟨by rw [bd_t.mpr hq]; rfl, fun k hk => by rw [e10 k hk, e2 k hk]⟩)
        | exact ⟨by rw [bd_f.mpr (fun g : sBoth S => h13 ⟨rfl, g.2⟩)]; rfl, fun k hk => by rw [e10 k hk, e2 k hk]⟩
        | exact ⟨by rw [bd_f.mpr (fun g : sBoth S => h5 ⟨rfl, g.1⟩)]; rfl, e2⟩
    · rw [eb_0, Bool.not_eq_false, bd_t, sE_1] at h13
      refine ev_iconst (v := 1) d_MD_areRight_16 rfl ?_
      refine ev_goto d_MD_areRight_17 ?_
      refine es_zret d_MD_areRight_21 rfl rfl ⟨Nat.zero_le _, Nat.zero_le _⟩ ⟨_, rfl, ?_⟩
      first
        | (have hq : sBoth S := ⟨h5.2, h13.2⟩
           exact ⟨by rw [bd_t.mpr hq]; rfl, fun k hk => by rw [e10 k hk, e2 k hk]⟩)
        | exact ⟨by rw [bd_f.mpr (fun g : sBoth S => h13 ⟨rfl, g.2⟩)]; rfl, fun k hk => by rw [e10 k hk, e2 k hk]⟩
        | exact ⟨by rw [bd_f.mpr (fun g : sBoth S => h5 ⟨rfl, g.1⟩)]; rfl, e2⟩
theorem c_MD_wrong {S : sp_S} (hm : rm S σ) {e : Int32} : ez_Ct l G X_MD_wrong [.ref 46, .int e] (es_H σ) (es_Q (es_I fun y σ' => mR S (g_ed e) (True) (en (em_fault (sE S e))) (S) y σ' ∧ ∀ k, (k < 46 ∨ 63 < k) → σ' k = σ k) es_no) := by
  refine es_Ct_of (ls := [some (.ref 46), some (.int e)]) ok_MD_wrong rfl (Nat.le_of_ble_eq_true rfl) rfl ?_
  refine ev_aload_n (i := 0) d_MD_wrong_0 rfl rfl ?_
  refine ev_iload_n (i := 1) d_MD_wrong_1 rfl rfl ?_
  refine ev_iconst (v := 0) d_MD_wrong_2 rfl ?_
  refine ev_iconst (v := 1) d_MD_wrong_3 rfl ?_
  refine es_cSI ls_MD_wrong_4 d_MD_wrong_4 c_MD_in rfl rfl (Nat.le_of_ble_eq_true rfl) (fun x4 σ4 h4 => ?_) (fun _ _ h => h.elim)
  obtain ⟨rfl, e4⟩ := h4
  rw [e4, ei1]
  refine ev_iconst (v := 1) d_MD_wrong_7 rfl ?_
  refine es_cVI ls_MD_wrong_8 d_MD_wrong_8 rfl (c_MD_goes (s := true)) rfl rfl (Nat.le_of_ble_eq_true rfl) (fun x8 σ8 h8 => ?_) (fun _ _ h => h.elim)
  obtain ⟨rfl, rfl⟩ := h8
  rw [Bool.and_true]
  refine ev_if_eq d_MD_wrong_11 (fun h11 => ?_) (fun h11 => ?_)
  · rw [eb_0] at h11
    refine ev_iconst (v := 0) d_MD_wrong_22 rfl ?_
    refine es_iret d_MD_wrong_23 rfl ⟨Nat.zero_le _, Nat.zero_le _⟩ ⟨_, rfl, ?_⟩
    first
      | exact ⟨Or.inr (Or.inr ⟨h11, trivial, by rw [e16 46 (by decide)]; simp [es_upx], rfl, rm_54 (rm_thrown hm _) e16⟩), fun k hk => by rw [e16 k (by omega)]; exact es_upf _ _ _ _ (by omega)⟩
      | (rw [h11]; exact ⟨Or.inl ⟨fun g => absurd (show ew e 2 = true from g) (by rw [h11]; decide), by simp [es_upx], rm_thrown hm _⟩, fun k hk => es_upf _ _ _ _ (by omega)⟩)
  · rw [eb_0, Bool.not_eq_false] at h11
    obtain ⟨j, hj, rfl, hj2⟩ := ew_ex (n := 2) h11 (by omega)
    have hmd := rm_md hm hj
    have hw := sE_wf hm.1 (nI j)
    have hn := hw.1
    have hcj : (nI j).toNatClampNeg = j := nI_clamp (by omega)
    rw [h11, if_pos rfl, if_pos rfl]
    refine ev_aload_n (i := 0) d_MD_wrong_14 rfl rfl ?_
    refine ev_iload_n (i := 1) d_MD_wrong_15 rfl rfl ?_
    refine es_cVI ls_MD_wrong_16 d_MD_wrong_16 rfl (c_MD_fault hw hj (md_off hmd (fun k g1 g2 => es_upf _ _ _ _ (by omega)))) rfl rfl (Nat.le_of_ble_eq_true rfl) (fun x16 σ16 h16 => ?_) (fun _ _ h => h.elim)
    obtain ⟨rfl, e16⟩ := h16
    refine ev_goto d_MD_wrong_19 ?_
    refine es_iret d_MD_wrong_23 rfl ⟨Nat.zero_le _, Nat.zero_le _⟩ ⟨_, rfl, ?_⟩
    first
      | exact ⟨Or.inr (Or.inr ⟨h11, trivial, by rw [e16 46 (by decide)]; simp [es_upx], rfl, rm_54 (rm_thrown hm _) e16⟩), fun k hk => by rw [e16 k (by omega)]; exact es_upf _ _ _ _ (by omega)⟩
      | (rw [h11]; exact ⟨Or.inl ⟨fun g => absurd (show ew e 2 = true from g) (by rw [h11]; decide), by simp [es_upx], rm_thrown hm _⟩, fun k hk => es_upf _ _ _ _ (by omega)⟩)
theorem c_MD_blocks {S : sp_S} (hm : rm S σ) {e : Int32} : ez_Ct l G X_MD_blocks [.ref 46, .int e] (es_H σ) (es_Q (es_I fun y σ' => mR S (g_ed e) (True) (nI (em_n (sE S e))) (S) y σ' ∧ ∀ k, (k < 46 ∨ 63 < k) → σ' k = σ k) es_no) := by
  refine es_Ct_of (ls := [some (.ref 46), some (.int e)]) ok_MD_blocks rfl (Nat.le_of_ble_eq_true rfl) rfl ?_
  refine ev_aload_n (i := 0) d_MD_blocks_0 rfl rfl ?_
  refine ev_iload_n (i := 1) d_MD_blocks_1 rfl rfl ?_
  refine ev_iconst (v := 0) d_MD_blocks_2 rfl ?_
  refine ev_iconst (v := 1) d_MD_blocks_3 rfl ?_
  refine es_cSI ls_MD_blocks_4 d_MD_blocks_4 c_MD_in rfl rfl (Nat.le_of_ble_eq_true rfl) (fun x4 σ4 h4 => ?_) (fun _ _ h => h.elim)
  obtain ⟨rfl, e4⟩ := h4
  rw [e4, ei1]
  refine ev_iconst (v := 1) d_MD_blocks_7 rfl ?_
  refine es_cVI ls_MD_blocks_8 d_MD_blocks_8 rfl (c_MD_goes (s := true)) rfl rfl (Nat.le_of_ble_eq_true rfl) (fun x8 σ8 h8 => ?_) (fun _ _ h => h.elim)
  obtain ⟨rfl, rfl⟩ := h8
  rw [Bool.and_true]
  refine ev_if_eq d_MD_blocks_11 (fun h11 => ?_) (fun h11 => ?_)
  · rw [eb_0] at h11
    refine ev_iconst (v := 0) d_MD_blocks_23 rfl ?_
    refine es_iret d_MD_blocks_24 rfl ⟨Nat.zero_le _, Nat.zero_le _⟩ ⟨_, rfl, ?_⟩
    first
      | exact ⟨Or.inr (Or.inr ⟨h11, trivial, by simp [es_upx], rfl, rm_thrown hm _⟩), fun k hk => es_upf _ _ _ _ (by omega)⟩
      | (rw [h11]; exact ⟨Or.inl ⟨fun g => absurd (show ew e 2 = true from g) (by rw [h11]; decide), by simp [es_upx], rm_thrown hm _⟩, fun k hk => es_upf _ _ _ _ (by omega)⟩)
  · rw [eb_0, Bool.not_eq_false] at h11
    obtain ⟨j, hj, rfl, hj2⟩ := ew_ex (n := 2) h11 (by omega)
    have hmd := rm_md hm hj
    have hw := sE_wf hm.1 (nI j)
    have hn := hw.1
    have hcj : (nI j).toNatClampNeg = j := nI_clamp (by omega)
    rw [h11, if_pos rfl, if_pos rfl]
    refine ev_aload_n (i := 0) d_MD_blocks_14 rfl rfl ?_
    refine es_getR d_MD_blocks_15 f_MD_13 rfl rfl ?_
    refine ev_iload_n (i := 1) d_MD_blocks_18 rfl rfl ?_
    refine es_iald d_MD_blocks_19 rfl (ez_vinN hj (by omega)) ?_
    rw [hcj, es_upf _ _ _ _ (show (48 : Nat) ≠ 46 by decide), hmd.1]
    refine ev_goto d_MD_blocks_20 ?_
    refine es_iret d_MD_blocks_24 rfl ⟨Nat.zero_le _, Nat.zero_le _⟩ ⟨_, rfl, ?_⟩
    first
      | exact ⟨Or.inr (Or.inr ⟨h11, trivial, by simp [es_upx], rfl, rm_thrown hm _⟩), fun k hk => es_upf _ _ _ _ (by omega)⟩
      | (rw [h11]; exact ⟨Or.inl ⟨fun g => absurd (show ew e 2 = true from g) (by rw [h11]; decide), by simp [es_upx], rm_thrown hm _⟩, fun k hk => es_upf _ _ _ _ (by omega)⟩)
end
