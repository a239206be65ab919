/-! ===== Behaviour: columns ===== -/
section
variable {l : Launch} {G : ez_G} {σ : es_S}
theorem sb_BH.ne {b e : Nat} (hb : sb_BH b e) : e + 8 < b := by
  rcases hb with ⟨rfl, rfl⟩ | ⟨rfl, rfl⟩ <;> decide
/-- the column of a block by a row, none has 0 -/
def cv (σ : es_S) (b r : Nat) (o : Option Nat) : Int32 := match o with
  | some t => σ (b + 2) (r * 24 + t)
  | none => 0
theorem bt_cv (σ : es_S) (b r : Nat) (o : Option Nat) (s : Nat) : bt (cv σ b r o) s = em_vo (fun t => bt (σ (b + 2) (r * 24 + t)) s) o := by
  cases o with
  | none => exact b_0 s
  | some t => rfl
theorem c_BH_forget {b e : Nat} (hb : sb_BH b e) : ez_Ct l G X_BH_forget [.ref b] (es_H σ) (es_Q (es_V fun σ' => σ' = es_up σ b 12 0) es_no) := by
  refine es_Ct_of (ls := [some (.ref b)]) ok_BH_forget rfl (Nat.le_of_ble_eq_true rfl) rfl ?_
  refine ev_aload_n (i := 0) d_BH_forget_0 rfl rfl ?_
  refine ev_iconst (v := 0) d_BH_forget_1 rfl ?_
  refine es_putI d_BH_forget_2 f_BH_46 y_BH_known (sh_BH hb) rfl ⟨rfl, rfl⟩ ?_
  refine es_vret d_BH_forget_5 rfl ⟨Nat.zero_le _, Nat.zero_le _⟩ ⟨rfl, ?_⟩
  rfl
theorem c_BH_columnAt {b e : Nat} (hb : sb_BH b e) {o : Option Nat} (ho : ∀ t, o = some t → t < 24) {r : Nat} (hr16 : r < 16) : ez_Ct l G X_BH_columnAt [.ref b, .int (en o), .int (nI r)] (es_H σ) (es_Q (es_I fun y σ' => y = cv σ b r o ∧ σ' = σ) es_no) := by
  have e24 : (24 : Int32) = nI 24 := rfl
  have e16 : (16 : Int32) = nI 16 := rfl
  have h16 : ew (nI r) 16 = true := by rw [e16, ew_nI (by omega) (by omega), decide_eq_true hr16]
  have hewo : ew (en o) 24 = o.isSome := by
    cases ho2 : o with
    | none => exact ew_m1 _
    | some t => show ew (nI t) 24 = true; have := ho t ho2; rw [e24, ew_nI (by omega) (by omega), decide_eq_true this]
  have hix : ∀ t, t < 24 → nI r * 24 + nI t = nI (r * 24 + t) := fun t ht => by rw [e24, nI_mul, nI_add]
  refine es_Ct_of (ls := [some (.ref b), some (.int (en o)), some (.int (nI r)), none]) ok_BH_columnAt rfl (Nat.le_of_ble_eq_true rfl) rfl ?_
  refine ev_iload_n (i := 1) d_BH_columnAt_0 rfl rfl ?_
  refine ev_bipush (v := 24) d_BH_columnAt_1 rfl ?_
  refine es_cSI ls_BH_columnAt_3 d_BH_columnAt_3 c_EE_isWithin rfl rfl (Nat.le_of_ble_eq_true rfl) (fun x3 σ3 h3 => ?_) (fun _ _ h => h.elim)
  obtain ⟨rfl, e3⟩ := h3
  rw [e3]
  refine ev_if_eq d_BH_columnAt_6 (fun h6 => ?_) (fun h6 => ?_)
  · rw [hewo, eb_0] at h6
    refine ev_iconst (v := 0) d_BH_columnAt_22 rfl ?_
    refine ev_istore_n (i := 3) d_BH_columnAt_23 rfl (by decide) ?_
    dsimp only [List.set_cons_zero, List.set_cons_succ]
    refine ev_iload_n (i := 3) d_BH_columnAt_24 rfl rfl ?_
    refine ev_if_eq d_BH_columnAt_25 (fun _ => ?_) (fun h => absurd h (by decide))
    refine ev_iconst (v := 0) d_BH_columnAt_42 rfl ?_
    refine es_iret d_BH_columnAt_43 rfl ⟨Nat.zero_le _, Nat.zero_le _⟩ ⟨_, rfl, ?_⟩
    refine ⟨?_, rfl⟩
    first
      | (rw [hix t ht, nI_clamp (by omega)]; rfl)
      | (have hn : o = none := by cases o with | none => rfl | some t => cases h6
         rw [hn]; rfl)
  · rw [hewo, eb_0, Bool.not_eq_false] at h6
    obtain ⟨t, rfl⟩ : ∃ t, o = some t := Option.isSome_iff_exists.mp h6
    have ht := ho t rfl
    simp only [en]
    refine ev_iload_n (i := 2) d_BH_columnAt_9 rfl rfl ?_
    refine ev_bipush (v := 16) d_BH_columnAt_10 rfl ?_
    refine es_cSI ls_BH_columnAt_12 d_BH_columnAt_12 c_EE_isWithin rfl rfl (Nat.le_of_ble_eq_true rfl) (fun x12 σ12 h12 => ?_) (fun _ _ h => h.elim)
    obtain ⟨rfl, e12⟩ := h12
    rw [e12]
    refine ev_if_eq d_BH_columnAt_15 (fun h15 => ?_) (fun h15 => ?_)
    · exact absurd h15 (by rw [h16]; decide)
    · refine ev_iconst (v := 1) d_BH_columnAt_18 rfl ?_
      refine ev_goto d_BH_columnAt_19 ?_
      refine ev_istore_n (i := 3) d_BH_columnAt_23 rfl (by decide) ?_
      dsimp only [List.set_cons_zero, List.set_cons_succ]
      refine ev_iload_n (i := 3) d_BH_columnAt_24 rfl rfl ?_
      refine ev_if_eq d_BH_columnAt_25 (fun h => absurd h (by decide)) (fun _ => ?_)
      refine ev_aload_n (i := 0) d_BH_columnAt_28 rfl rfl ?_
      refine es_getR d_BH_columnAt_29 f_BH_15 (sh_BH hb) rfl ?_
      refine ev_iload_n (i := 2) d_BH_columnAt_32 rfl rfl ?_
      refine ev_bipush (v := 24) d_BH_columnAt_33 rfl ?_
      refine ev_imul d_BH_columnAt_35 ?_
      refine ev_iload_n (i := 1) d_BH_columnAt_36 rfl rfl ?_
      refine ev_iadd d_BH_columnAt_37 ?_
      refine es_iald d_BH_columnAt_38 (sa_BH_columns hb) (by rw [hix t ht]; exact ez_vinN (by omega) (by omega)) ?_
      refine ev_goto d_BH_columnAt_39 ?_
      refine es_iret d_BH_columnAt_43 rfl ⟨Nat.zero_le _, Nat.zero_le _⟩ ⟨_, rfl, ?_⟩
      refine ⟨?_, rfl⟩
      first
        | (rw [hix t ht, nI_clamp (by omega)]; rfl)
        | (have hn : o = none := by cases o with | none => rfl | some t => cases h6
           rw [hn]; rfl)
theorem c_BH_valueOf {b e : Nat} (hb : sb_BH b e) {o : Option Nat} (ho : ∀ t, o = some t → t < 24) {r : Nat} (hr16 : r < 16) {s : Int32} : ez_Ct l G X_BH_valueOf [.ref b, .int (en o), .int s, .int (nI r)] (es_H σ) (es_Q (es_I fun y σ' => y = eb (em_vo (fun t => bt (σ (b + 2) (r * 24 + t)) (sj s)) o) ∧ σ' = σ) es_no) := by
  refine es_Ct_of (ls := [some (.ref b), some (.int (en o)), some (.int s), some (.int (nI r))]) ok_BH_valueOf rfl (Nat.le_of_ble_eq_true rfl) rfl ?_
  refine ev_aload_n (i := 0) d_BH_valueOf_0 rfl rfl ?_
  refine ev_iload_n (i := 1) d_BH_valueOf_1 rfl rfl ?_
  refine ev_iload_n (i := 3) d_BH_valueOf_2 rfl rfl ?_
  refine es_cVI ls_BH_valueOf_3 d_BH_valueOf_3 (sh_BH hb) (c_BH_columnAt hb ho hr16) rfl rfl (Nat.le_of_ble_eq_true rfl) (fun x3 σ3 h3 => ?_) (fun _ _ h => h.elim)
  obtain ⟨rfl, e3⟩ := h3
  rw [e3]
  refine ev_iload_n (i := 2) d_BH_valueOf_6 rfl rfl ?_
  refine ev_bipush (v := 31) d_BH_valueOf_7 rfl ?_
  refine ev_iand d_BH_valueOf_9 ?_
  refine ev_iushr d_BH_valueOf_10 ?_
  refine ev_iconst (v := 1) d_BH_valueOf_11 rfl ?_
  refine ev_iand d_BH_valueOf_12 ?_
  refine es_iret d_BH_valueOf_13 rfl ⟨Nat.zero_le _, Nat.zero_le _⟩ ⟨_, rfl, ?_⟩
  refine ⟨?_, rfl⟩
  rw [sj_eq, shr_bit _ (sj_lt s), bt_cv]
theorem c_BH_placeOf {b e : Nat} (hb : sb_BH b e) {s : Nat} {r dc : Nat} (hr16 : r < 16) (hs : s < 2 ^ 31) (hd : dc ≤ 5) (hsc : σ b 10 = nI (2 ^ dc)) : ez_Ct l G X_BH_placeOf [.ref b, .int (nI s), .int (nI r)] (es_H σ) (es_Q (es_I fun y σ' => y = nI (r * 32 + s % 2 ^ dc) ∧ σ' = σ) es_no) := by
  refine es_Ct_of (ls := [some (.ref b), some (.int (nI s)), some (.int (nI r))]) ok_BH_placeOf rfl (Nat.le_of_ble_eq_true rfl) rfl ?_
  refine ev_iload_n (i := 2) d_BH_placeOf_0 rfl rfl ?_
  refine ev_bipush (v := 32) d_BH_placeOf_1 rfl ?_
  refine ev_imul d_BH_placeOf_3 ?_
  refine ev_iload_n (i := 1) d_BH_placeOf_4 rfl rfl ?_
  refine ev_aload_n (i := 0) d_BH_placeOf_5 rfl rfl ?_
  refine es_getI d_BH_placeOf_6 f_BH_40 (sh_BH hb) rfl ?_
  refine ev_iconst (v := 1) d_BH_placeOf_9 rfl ?_
  refine ev_isub d_BH_placeOf_10 ?_
  refine ev_iand d_BH_placeOf_11 ?_
  refine ev_iadd d_BH_placeOf_12 ?_
  refine es_iret d_BH_placeOf_13 rfl ⟨Nat.zero_le _, Nat.zero_le _⟩ ⟨_, rfl, ?_⟩
  refine ⟨?_, rfl⟩
  have h1 : 1 ≤ 2 ^ dc := Nat.one_le_two_pow
  rw [hsc, show (1 : Int32) = nI 1 from rfl, nI_sub h1, nI_mod hs hd, show (32 : Int32) = nI 32 from rfl, nI_mul, nI_add]
theorem c_BH_outsOf {b e : Nat} (hb : sb_BH b e) {s : Nat} {r dc : Nat} (hr16 : r < 16) (hs : s < 2 ^ 31) (hd : dc ≤ 5) (hsc : σ b 10 = nI (2 ^ dc)) : ez_Ct l G X_BH_outsOf [.ref b, .int (nI s), .int (nI r)] (es_H σ) (es_Q (es_I fun y σ' => y = σ (b + 3) (r * 32 + s % 2 ^ dc) ∧ σ' = σ) es_no) := by
  have e16 : (16 : Int32) = nI 16 := rfl
  have h16 : ew (nI r) 16 = true := by rw [e16, ew_nI (by omega) (by omega), decide_eq_true hr16]
  have h2 : s % 2 ^ dc < 32 := Nat.lt_of_lt_of_le (Nat.mod_lt _ (Nat.two_pow_pos dc)) (by have := Nat.pow_le_pow_right (n := 2) (by omega) hd; omega)
  refine es_Ct_of (ls := [some (.ref b), some (.int (nI s)), some (.int (nI r))]) ok_BH_outsOf rfl (Nat.le_of_ble_eq_true rfl) rfl ?_
  refine ev_iload_n (i := 2) d_BH_outsOf_0 rfl rfl ?_
  refine ev_bipush (v := 16) d_BH_outsOf_1 rfl ?_
  refine es_cSI ls_BH_outsOf_3 d_BH_outsOf_3 c_EE_isWithin rfl rfl (Nat.le_of_ble_eq_true rfl) (fun x3 σ3 h3 => ?_) (fun _ _ h => h.elim)
  obtain ⟨rfl, e3⟩ := h3
  rw [e3]
  refine ev_if_eq d_BH_outsOf_6 (fun h6 => ?_) (fun h6 => ?_)
  · exact absurd h6 (by rw [h16]; decide)
  · refine ev_aload_n (i := 0) d_BH_outsOf_9 rfl rfl ?_
    refine es_getR d_BH_outsOf_10 f_BH_18 (sh_BH hb) rfl ?_
    refine ev_aload_n (i := 0) d_BH_outsOf_13 rfl rfl ?_
    refine ev_iload_n (i := 1) d_BH_outsOf_14 rfl rfl ?_
    refine ev_iload_n (i := 2) d_BH_outsOf_15 rfl rfl ?_
    refine es_cVI ls_BH_outsOf_16 d_BH_outsOf_16 (sh_BH hb) (c_BH_placeOf hb hr16 hs hd hsc) rfl rfl (Nat.le_of_ble_eq_true rfl) (fun x16 σ16 h16 => ?_) (fun _ _ h => h.elim)
    obtain ⟨rfl, e16⟩ := h16
    rw [e16]
    refine es_iald d_BH_outsOf_19 (sa_BH_outs hb) (ez_vinN (by omega) (by omega)) ?_
    refine ev_goto d_BH_outsOf_20 ?_
    refine es_iret d_BH_outsOf_24 rfl ⟨Nat.zero_le _, Nat.zero_le _⟩ ⟨_, rfl, ?_⟩
    refine ⟨?_, rfl⟩
    rw [nI_clamp (by omega)]
theorem c_BH_stateAfter {b e : Nat} (hb : sb_BH b e) {s : Nat} {r dc : Nat} (hr16 : r < 16) (hs : s < 2 ^ 31) (hd : dc ≤ 5) (hsc : σ b 10 = nI (2 ^ dc)) : ez_Ct l G X_BH_stateAfter [.ref b, .int (nI s), .int (nI r)] (es_H σ) (es_Q (es_I fun y σ' => y = σ (b + 4) (r * 32 + s % 2 ^ dc) ∧ σ' = σ) es_no) := by
  have e16 : (16 : Int32) = nI 16 := rfl
  have h16 : ew (nI r) 16 = true := by rw [e16, ew_nI (by omega) (by omega), decide_eq_true hr16]
  have h2 : s % 2 ^ dc < 32 := Nat.lt_of_lt_of_le (Nat.mod_lt _ (Nat.two_pow_pos dc)) (by have := Nat.pow_le_pow_right (n := 2) (by omega) hd; omega)
  refine es_Ct_of (ls := [some (.ref b), some (.int (nI s)), some (.int (nI r))]) ok_BH_stateAfter rfl (Nat.le_of_ble_eq_true rfl) rfl ?_
  refine ev_iload_n (i := 2) d_BH_stateAfter_0 rfl rfl ?_
  refine ev_bipush (v := 16) d_BH_stateAfter_1 rfl ?_
  refine es_cSI ls_BH_stateAfter_3 d_BH_stateAfter_3 c_EE_isWithin rfl rfl (Nat.le_of_ble_eq_true rfl) (fun x3 σ3 h3 => ?_) (fun _ _ h => h.elim)
  obtain ⟨rfl, e3⟩ := h3
  rw [e3]
  refine ev_if_eq d_BH_stateAfter_6 (fun h6 => ?_) (fun h6 => ?_)
  · exact absurd h6 (by rw [h16]; decide)
  · refine ev_aload_n (i := 0) d_BH_stateAfter_9 rfl rfl ?_
    refine es_getR d_BH_stateAfter_10 f_BH_21 (sh_BH hb) rfl ?_
    refine ev_aload_n (i := 0) d_BH_stateAfter_13 rfl rfl ?_
    refine ev_iload_n (i := 1) d_BH_stateAfter_14 rfl rfl ?_
    refine ev_iload_n (i := 2) d_BH_stateAfter_15 rfl rfl ?_
    refine es_cVI ls_BH_stateAfter_16 d_BH_stateAfter_16 (sh_BH hb) (c_BH_placeOf hb hr16 hs hd hsc) rfl rfl (Nat.le_of_ble_eq_true rfl) (fun x16 σ16 h16 => ?_) (fun _ _ h => h.elim)
    obtain ⟨rfl, e16⟩ := h16
    rw [e16]
    refine es_iald d_BH_stateAfter_19 (sa_BH_nextStates hb) (ez_vinN (by omega) (by omega)) ?_
    refine ev_goto d_BH_stateAfter_20 ?_
    refine es_iret d_BH_stateAfter_24 rfl ⟨Nat.zero_le _, Nat.zero_le _⟩ ⟨_, rfl, ?_⟩
    refine ⟨?_, rfl⟩
    rw [nI_clamp (by omega)]
def bo_I (E : em_E) (b : Nat) (σ σ1 : es_S) (c : Nat) (S : Int32) : Prop :=
  (c ≤ em_n E ∧ c = em_ct (fun t => bt S t = true) (em_n E)) ∧ σ1 b 9 = nI c ∧ (∀ k, k ≠ b → k ≠ b + 1 → σ1 k = σ k) ∧ (∀ j, j ≠ 9 → σ1 b j = σ b j) ∧
  ∃ ord : Nat → Nat, (∀ i, i < c → σ1 (b + 1) i = nI (ord i) ∧ ord i < em_n E) ∧ (∀ i j, i < c → j < c → ord i = ord j → i = j) ∧ (∀ i, i < c → ∀ t, em_ed E (ord i) t → ∃ j, j < i ∧ ord j = t) ∧ (∀ t, t < 32 → (bt S t = true ↔ ∃ i, i < c ∧ ord i = t))
/-- an order of the blocks: each behind those on which it hangs in the same tick -/
def bo_O (E : em_E) (a : Nat → Int32) : Prop :=
  ∃ ord : Nat → Nat, (∀ i, i < em_n E → a i = nI (ord i) ∧ ord i < em_n E) ∧ (∀ i j, i < em_n E → j < em_n E → ord i = ord j → i = j) ∧ (∀ i, i < em_n E → ∀ t, em_ed E (ord i) t → ∃ j, j < i ∧ ord j = t) ∧ ∀ t, t < em_n E → ∃ i, i < em_n E ∧ ord i = t
theorem bo_add {E : em_E} {P : Nat} (hw : em_wf P E) {b : Nat} {σ σ1 : es_S} {c u : Nat} {S : Int32} (h : bo_I E b σ σ1 c S) (hu : u < em_n E) (hS : bt S u = false) (hr : ∀ t, em_ed E u t → bt S t = true) :
    bo_I E b σ (es_up (es_up σ1 (b + 1) c (nI u)) b 9 (nI (c + 1))) (c + 1) (S ||| eo (nI u)) := by
  obtain ⟨⟨h1, h2⟩, h3, h4, h5, ord, o1, o2, o3, o4⟩ := h
  have hn := hw.1
  have hbit : ∀ t, t < 32 → (bt (S ||| eo (nI u)) t = true ↔ bt S t = true ∨ t = u) := fun t ht => by
    rw [b_or, bt_eo (by omega) ht, Bool.or_eq_true, decide_eq_true_eq]
  have hnew : ¬ ∃ i, i < c ∧ ord i = u := fun hc => by
    have := (o4 u (by omega)).mpr hc
    rw [hS] at this
    cases this
  have hct : em_ct (fun t => bt (S ||| eo (nI u)) t = true) (em_n E) = c + 1 := by
    rw [h2]
    have e1 : em_ct (fun t => bt (S ||| eo (nI u)) t = true) (em_n E) = em_ct (fun t => bt S t = true ∨ t = u) (em_n E) := em_ct_congr _ (fun x hx => hbit x (by omega))
    rw [e1]
    exact em_ct_add (p := fun t => bt S t = true) (by simp [hS]) (fun y => Iff.rfl) _ hu
  refine ⟨⟨?_, hct.symm⟩, by simp [es_upx], fun k g1 g2 => by rw [es_upf _ _ _ _ g1, es_upf _ _ _ _ g2]; exact h4 k g1 g2, fun j hj => by simp [es_upx, hj, h5 j hj], fun i => if i = c then u else ord i, fun i hi => ?_, fun i j hi hj hij => ?_, fun i hi t ht => ?_, fun t ht => ?_⟩
  · rw [← hct]
    exact em_ct_n _ _
  · by_cases hic : i = c
    · simp [es_upx, hic, hu]
    · simp only [hic, if_false]
      have := o1 i (by omega)
      simp [es_upx, hic, this]
  · by_cases hic : i = c <;> by_cases hjc : j = c
    · omega
    · simp only [hic, hjc, if_true, if_false] at hij
      exact absurd ⟨j, by omega, hij.symm⟩ hnew
    · simp only [hic, hjc, if_true, if_false] at hij
      exact absurd ⟨i, by omega, hij⟩ hnew
    · simp only [hic, hjc, if_false] at hij
      exact o2 i j (by omega) (by omega) hij
  · by_cases hic : i = c
    · simp only [hic, if_true] at ht
      have ht32 : t < 32 := by obtain ⟨⟨-, q, -, hq⟩, -⟩ := ht; have := (hw.2.2.1 u q t hq).2; omega
      obtain ⟨j, j1, j2⟩ := (o4 t ht32).mp (hr t ht)
      exact ⟨j, by omega, by simp only [show ¬ j = c by omega, if_false]; exact j2⟩
    · simp only [hic, if_false] at ht
      obtain ⟨j, j1, j2⟩ := o3 i (by omega) t ht
      exact ⟨j, j1, by simp only [show ¬ j = c by omega, if_false]; exact j2⟩
  · rw [hbit t ht, o4 t ht]
    constructor
    · rintro (⟨i, i1, i2⟩ | h)
      · exact ⟨i, by omega, by simp only [show ¬ i = c by omega, if_false]; exact i2⟩
      · exact ⟨c, by omega, by simp [h]⟩
    · rintro ⟨i, i1, i2⟩
      by_cases hic : i = c
      · simp only [hic, if_true] at i2
        exact Or.inr i2.symm
      · simp only [hic, if_false] at i2
        exact Or.inl ⟨i, by omega, i2⟩
/-- while some block isn't ordered, one is ready -/
theorem bo_next {E : em_E} {P : Nat} (hw : em_wf P E) (hright : em_right E) {b : Nat} {σ σ1 : es_S} {c : Nat} {S : Int32} (h : bo_I E b σ σ1 c S) (hc : c < em_n E) : ∃ u, u < em_n E ∧ bt S u = false ∧ ∀ t, em_ed E u t → bt S t = true := by
  have hne : ∃ v, v < em_n E ∧ bt S v = false := Classical.byContradiction fun hno => by
    have : em_ct (fun t => bt S t = true) (em_n E) = em_n E := by
      have e1 : em_ct (fun t => bt S t = true) (em_n E) = em_ct (fun _ => True) (em_n E) := em_ct_congr _ (fun x hx => ⟨fun _ => trivial, fun _ => by cases hb : bt S x; exact absurd ⟨x, hx, hb⟩ hno; rfl⟩)
      rw [e1]
      refine Nat.le_antisymm (em_ct_n _ _) ?_
      have : ∀ n, n ≤ em_ct (fun _ => True) n := by
        intro n
        induction n with
        | zero => exact Nat.le_refl _
        | succ n ih => rw [(em_ct_succ (fun _ => True) n).1 trivial]; omega
      exact this _
    have h2 := h.1.2
    omega
  obtain ⟨v, hv⟩ := hne
  obtain ⟨u, ⟨u1, u2⟩, u3⟩ := em_min (p := fun v => v < em_n E ∧ bt S v = false) (em_rk E) hv
  refine ⟨u, u1, u2, fun t ht => ?_⟩
  have htn : t < em_n E := by obtain ⟨⟨-, q, -, hq⟩, -⟩ := ht; exact (hw.2.2.1 u q t hq).2
  cases hb : bt S t
  · have := u3 t ⟨htn, hb⟩
    have := em_rk_lt hw hright ht
    omega
  · rfl
theorem lp_BH_orderBlocks_31 {b e : Nat} (hb : sb_BH b e) {E : em_E} {P : Nat} (hw : em_wf P E) (hr : rc E e σ) (hright : em_right E) {pz c0 : Nat} {S0 : Int32} (hc0 : c0 < em_n E) (hex : ∀ (σ1 : es_S) (c : Nat) (S : Int32), bo_I E b σ σ1 c S → c0 < c → ez_Ev l G X_BH_orderBlocks 0 0 119 [some (.ref b), some (.int S), some (.int (nI pz)), none, none] [] (es_H σ1) (es_Q (es_V fun σ' => (∀ k, k ≠ b → k ≠ b + 1 → σ' k = σ k) ∧ (∀ j, j ≠ 9 → σ' b j = σ b j) ∧ σ' b 9 = nI (em_n E) ∧ bo_O E (σ' (b + 1))) es_no)) : ∀ (d : Nat) (u c : Nat) (S : Int32) (σ1 : es_S), em_n E - u = d → (u ≤ em_n E ∧ bo_I E b σ σ1 c S ∧ (∀ t, t < 32 → bt S0 t = true → bt S t = true) ∧ (∀ v, v < u → (∀ t, em_ed E v t → bt S0 t = true) → bt S v = true) ∧ c0 ≤ c ∧ (c = c0 → S = S0) ∧ (∃ σ0, bo_I E b σ σ0 c0 S0)) → ez_Ev l G X_BH_orderBlocks 0 0 31 [some (.ref b), some (.int S), some (.int (nI pz)), some (.int (nI u)), none] [] (es_H σ1) (es_Q (es_V fun σ' => (∀ k, k ≠ b → k ≠ b + 1 → σ' k = σ k) ∧ (∀ j, j ≠ 9 → σ' b j = σ b j) ∧ σ' b 9 = nI (em_n E) ∧ bo_O E (σ' (b + 1))) es_no) := by
  intro d
  induction d using Nat.strongRecOn with
  | _ d ih =>
    intro u c S σ1 hm hinv
    obtain ⟨hu, hI, hmo, hrd, hcc, hcS, σ0, hI0⟩ := hinv
    have hbe := hb.ne
    have hn := hw.1
    have hr1 : rc E e σ1 := rc_off hr (fun k g1 g2 => hI.2.2.1 k (by omega) (by omega))
    have h9 : σ1 b 9 = nI c := hI.2.1
    have hcn := hI.1.1
    refine ev_iload_n (i := 3) d_BH_orderBlocks_31 rfl rfl ?_
    refine ev_aload_n (i := 0) d_BH_orderBlocks_32 rfl rfl ?_
    refine es_getR d_BH_orderBlocks_33 f_BH_50 (sh_BH hb) rfl ?_
    refine es_cVI ls_BH_orderBlocks_36 d_BH_orderBlocks_36 (sh_ED hb.ed) (c_ED_countBlocks hb.ed) rfl rfl (Nat.le_of_ble_eq_true rfl) (fun x36 σ36 h36 => ?_) (fun _ _ h => h.elim)
    obtain ⟨rfl, e36⟩ := h36
    rw [e36]
    refine ev_icmp_ge d_BH_orderBlocks_39 (fun h39 => ?_) (fun h39 => ?_)
    · rw [hr1.1, nI_leI (by omega) (by omega)] at h39
      refine ev_mask [true, true, true, false, false] rfl (hex σ1 c S hI ?_)
      obtain ⟨v, v1, v2, v3⟩ := bo_next hw hright hI0 hc0
      have hSv := hrd v (by omega) v3
      have hne : ¬ c = c0 := fun h => by rw [hcS h, v2] at hSv; cases hSv
      omega
    · rw [hr1.1, nI_leI (by omega) (by omega), Nat.not_le] at h39
      have hed : ∀ t, t < 32 → (bt (if em_k E u = 6 then 0 else σ1 (e + 5) u) t = true ↔ em_ed E u t) := fun t ht => by
        by_cases h6 : em_k E u = 6
        · rw [if_pos h6, b_0]
          exact ⟨(fun h => by cases h), fun h => absurd h6 h.2⟩
        · rw [if_neg h6]
          exact (hr1.2.2.2.2.2.2.1 u t (by omega) ht).trans ⟨fun h => ⟨h, h6⟩, fun h => h.1⟩
      have hedl : ∀ t, em_ed E u t → t < 32 := fun t ht => by obtain ⟨⟨-, q, -, hq⟩, -⟩ := ht; have := (hw.2.2.1 u q t hq).2; omega
      refine ev_aload_n (i := 0) d_BH_orderBlocks_42 rfl rfl ?_
      refine es_getR d_BH_orderBlocks_43 f_BH_50 (sh_BH hb) rfl ?_
      refine ev_iload_n (i := 3) d_BH_orderBlocks_46 rfl rfl ?_
      refine es_cVI ls_BH_orderBlocks_47 d_BH_orderBlocks_47 (sh_ED hb.ed) (c_ED_neededInTick hb.ed hw hr1 h39) rfl rfl (Nat.le_of_ble_eq_true rfl) (fun x47 σ47 h47 => ?_) (fun _ _ h => h.elim)
      obtain ⟨rfl, e47⟩ := h47
      rw [e47]
      refine ev_iload_n (i := 1) d_BH_orderBlocks_50 rfl rfl ?_
      refine ev_iconst (v := (-1)) d_BH_orderBlocks_51 rfl ?_
      refine ev_ixor d_BH_orderBlocks_52 ?_
      refine ev_iand d_BH_orderBlocks_53 ?_
      refine ev_if_ne d_BH_orderBlocks_54 (fun h54 => ?_) (fun h54 => ?_)
      · rw [not_and0] at h54
        have hnr : ¬ ∀ t, em_ed E u t → bt S t = true := fun h => h54 (fun i hi hb2 => h i ((hed i hi).mp hb2))
        refine ev_iconst (v := 0) d_BH_orderBlocks_61 rfl ?_
        refine ev_istore d_BH_orderBlocks_62 (by decide) ?_
        dsimp only [List.set_cons_zero, List.set_cons_succ]
        refine ev_iload d_BH_orderBlocks_64 rfl ?_
        refine ev_if_eq d_BH_orderBlocks_66 (fun _ => ?_) (fun h => absurd h (by decide))
        refine ev_iinc d_BH_orderBlocks_113 rfl (ez_inc _) (by decide) ?_
        dsimp only [List.set_cons_zero, List.set_cons_succ]
        refine ev_goto d_BH_orderBlocks_116 ?_
        refine ev_mask [true, true, true, true, false] rfl ?_
        first
          | (have h99 := h83
             have e99 : (es_up (es_up σ1 (b + 1) (σ1 b 9).toNatClampNeg (nI u)) b 9 (es_up σ1 (b + 1) (σ1 b 9).toNatClampNeg (nI u) b 9 + 1)) = es_up (es_up σ1 (b + 1) c (nI u)) b 9 (nI (c + 1)) := by
               rw [h9, nI_clamp (by omega), es_upf _ _ _ _ (show b ≠ b + 1 by omega), h9, nI_succ]
             rw [e99]
             refine ih _ (by omega) (u + 1) (c + 1) _ _ rfl ⟨by omega, hadd, fun t ht h => by rw [b_or, hmo t ht h, Bool.true_or], fun v hv h => ?_, by omega, fun h => by omega, σ0, hI0⟩
             by_cases hvu : v = u
             · rw [hvu, b_or, bt_eo (by omega) (by omega)]; simp
             · rw [b_or, hrd v (by omega) h, Bool.true_or])
          | (refine ih _ (by omega) (u + 1) c S σ1 rfl ⟨by omega, hI, hmo, fun v hv h => ?_, hcc, hcS, σ0, hI0⟩
             by_cases hvu : v = u
             · rw [hvu]; first | exact h74 | (rw [hvu] at h; exact absurd (fun t ht => hmo t (hedl t ht) (h t ht)) hnr)
             · exact hrd v (by omega) h)
      · rw [not_and0] at h54
        have hrdy : ∀ t, em_ed E u t → bt S t = true := fun t ht => h54 t (hedl t ht) ((hed t (hedl t ht)).mpr ht)
        refine ev_iconst (v := 1) d_BH_orderBlocks_57 rfl ?_
        refine ev_goto d_BH_orderBlocks_58 ?_
        refine ev_istore d_BH_orderBlocks_62 (by decide) ?_
        dsimp only [List.set_cons_zero, List.set_cons_succ]
        refine ev_iload d_BH_orderBlocks_64 rfl ?_
        refine ev_if_eq d_BH_orderBlocks_66 (fun h => absurd h (by decide)) (fun _ => ?_)
        refine ev_iload_n (i := 1) d_BH_orderBlocks_69 rfl rfl ?_
        refine ev_iload_n (i := 3) d_BH_orderBlocks_70 rfl rfl ?_
        refine es_cSI ls_BH_orderBlocks_71 d_BH_orderBlocks_71 c_EE_holds rfl rfl (Nat.le_of_ble_eq_true rfl) (fun x71 σ71 h71 => ?_) (fun _ _ h => h.elim)
        obtain ⟨rfl, e71⟩ := h71
        rw [e71]
        refine ev_if_ne d_BH_orderBlocks_74 (fun h74 => ?_) (fun h74 => ?_)
        · rw [eh_nI _ (by omega), eb_0, Bool.not_eq_false] at h74
          refine ev_iinc d_BH_orderBlocks_113 rfl (ez_inc _) (by decide) ?_
          dsimp only [List.set_cons_zero, List.set_cons_succ]
          refine ev_goto d_BH_orderBlocks_116 ?_
          refine ev_mask [true, true, true, true, false] rfl ?_
          first
            | (have h99 := h83
               have e99 : (es_up (es_up σ1 (b + 1) (σ1 b 9).toNatClampNeg (nI u)) b 9 (es_up σ1 (b + 1) (σ1 b 9).toNatClampNeg (nI u) b 9 + 1)) = es_up (es_up σ1 (b + 1) c (nI u)) b 9 (nI (c + 1)) := by
                 rw [h9, nI_clamp (by omega), es_upf _ _ _ _ (show b ≠ b + 1 by omega), h9, nI_succ]
               rw [e99]
               refine ih _ (by omega) (u + 1) (c + 1) _ _ rfl ⟨by omega, hadd, fun t ht h => by rw [b_or, hmo t ht h, Bool.true_or], fun v hv h => ?_, by omega, fun h => by omega, σ0, hI0⟩
               by_cases hvu : v = u
               · rw [hvu, b_or, bt_eo (by omega) (by omega)]; simp
               · rw [b_or, hrd v (by omega) h, Bool.true_or])
            | (refine ih _ (by omega) (u + 1) c S σ1 rfl ⟨by omega, hI, hmo, fun v hv h => ?_, hcc, hcS, σ0, hI0⟩
               by_cases hvu : v = u
               · rw [hvu]; first | exact h74 | (rw [hvu] at h; exact absurd (fun t ht => hmo t (hedl t ht) (h t ht)) hnr)
               · exact hrd v (by omega) h)
        · rw [eh_nI _ (by omega), eb_0] at h74
          have hadd := bo_add hw hI h39 h74 hrdy
          have hlt : c < em_n E := by have := hadd.1.1; omega
          refine ev_aload_n (i := 0) d_BH_orderBlocks_77 rfl rfl ?_
          refine es_getI d_BH_orderBlocks_78 f_BH_36 (sh_BH hb) rfl ?_
          refine ev_bipush (v := 24) d_BH_orderBlocks_81 rfl ?_
          refine ev_icmp_ge d_BH_orderBlocks_83 (fun h83 => ?_) (fun h83 => ?_)
          · rw [h9, show (24 : Int32) = nI 24 from rfl, nI_leI (by omega) (by omega)] at h83
            omega
          · refine ev_aload_n (i := 0) d_BH_orderBlocks_86 rfl rfl ?_
            refine es_getR d_BH_orderBlocks_87 f_BH_9 (sh_BH hb) rfl ?_
            refine ev_aload_n (i := 0) d_BH_orderBlocks_90 rfl rfl ?_
            refine es_getI d_BH_orderBlocks_91 f_BH_36 (sh_BH hb) rfl ?_
            refine ev_iload_n (i := 3) d_BH_orderBlocks_94 rfl rfl ?_
            refine es_iast d_BH_orderBlocks_95 (sa_BH_order hb) (by rw [h9]; exact ez_vinN (by omega) (by omega)) ?_
            refine ev_aload_n (i := 0) d_BH_orderBlocks_96 rfl rfl ?_
            refine ev_dup d_BH_orderBlocks_97 rfl ?_
            refine es_getI d_BH_orderBlocks_98 f_BH_36 (sh_BH hb) rfl ?_
            refine ev_iconst (v := 1) d_BH_orderBlocks_101 rfl ?_
            refine ev_iadd d_BH_orderBlocks_102 ?_
            refine es_putI d_BH_orderBlocks_103 f_BH_36 y_BH_orderedCount (sh_BH hb) rfl ⟨rfl, rfl⟩ ?_
            refine ev_iload_n (i := 1) d_BH_orderBlocks_106 rfl rfl ?_
            refine ev_iload_n (i := 3) d_BH_orderBlocks_107 rfl rfl ?_
            refine es_cSI ls_BH_orderBlocks_108 d_BH_orderBlocks_108 c_EE_bitOf rfl rfl (Nat.le_of_ble_eq_true rfl) (fun x108 σ108 h108 => ?_) (fun _ _ h => h.elim)
            obtain ⟨rfl, e108⟩ := h108
            rw [e108]
            refine ev_ior d_BH_orderBlocks_111 ?_
            refine ev_istore_n (i := 1) d_BH_orderBlocks_112 rfl (by decide) ?_
            dsimp only [List.set_cons_zero, List.set_cons_succ]
            refine ev_iinc d_BH_orderBlocks_113 rfl (ez_inc _) (by decide) ?_
            dsimp only [List.set_cons_zero, List.set_cons_succ]
            refine ev_goto d_BH_orderBlocks_116 ?_
            refine ev_mask [true, true, true, true, false] rfl ?_
            first
              | (have h99 := h83
                 have e99 : (es_up (es_up σ1 (b + 1) (σ1 b 9).toNatClampNeg (nI u)) b 9 (es_up σ1 (b + 1) (σ1 b 9).toNatClampNeg (nI u) b 9 + 1)) = es_up (es_up σ1 (b + 1) c (nI u)) b 9 (nI (c + 1)) := by
                   rw [h9, nI_clamp (by omega), es_upf _ _ _ _ (show b ≠ b + 1 by omega), h9, nI_succ]
                 rw [e99]
                 refine ih _ (by omega) (u + 1) (c + 1) _ _ rfl ⟨by omega, hadd, fun t ht h => by rw [b_or, hmo t ht h, Bool.true_or], fun v hv h => ?_, by omega, fun h => by omega, σ0, hI0⟩
                 by_cases hvu : v = u
                 · rw [hvu, b_or, bt_eo (by omega) (by omega)]; simp
                 · rw [b_or, hrd v (by omega) h, Bool.true_or])
              | (refine ih _ (by omega) (u + 1) c S σ1 rfl ⟨by omega, hI, hmo, fun v hv h => ?_, hcc, hcS, σ0, hI0⟩
                 by_cases hvu : v = u
                 · rw [hvu]; first | exact h74 | (rw [hvu] at h; exact absurd (fun t ht => hmo t (hedl t ht) (h t ht)) hnr)
                 · exact hrd v (by omega) h)
theorem lp_BH_orderBlocks_9 {b e : Nat} (hb : sb_BH b e) {E : em_E} {P : Nat} (hw : em_wf P E) (hr : rc E e σ) (hright : em_right E) : ∀ (d : Nat) (pz c : Nat) (S : Int32) (σ1 : es_S), 24 - pz = d → (pz ≤ 24 ∧ bo_I E b σ σ1 c S ∧ (pz ≤ c ∨ c = em_n E)) → ez_Ev l G X_BH_orderBlocks 0 0 9 [some (.ref b), some (.int S), some (.int (nI pz)), none, none] [] (es_H σ1) (es_Q (es_V fun σ' => (∀ k, k ≠ b → k ≠ b + 1 → σ' k = σ k) ∧ (∀ j, j ≠ 9 → σ' b j = σ b j) ∧ σ' b 9 = nI (em_n E) ∧ bo_O E (σ' (b + 1))) es_no) := by
  intro d
  induction d using Nat.strongRecOn with
  | _ d ih =>
    intro pz c S σ1 hm hinv
    obtain ⟨hp, hI, hpc⟩ := hinv
    have hbe := hb.ne
    have hn := hw.1
    have hr1 : rc E e σ1 := rc_off hr (fun k g1 g2 => hI.2.2.1 k (by omega) (by omega))
    have h9 : σ1 b 9 = nI c := hI.2.1
    have hcn := hI.1.1
    have hfin : c = em_n E → (es_V fun σ' => (∀ k, k ≠ b → k ≠ b + 1 → σ' k = σ k) ∧ (∀ j, j ≠ 9 → σ' b j = σ b j) ∧ σ' b 9 = nI (em_n E) ∧ bo_O E (σ' (b + 1))) none σ1 := fun hc => ⟨rfl, hI.2.2.1, hI.2.2.2.1, by rw [h9, hc], by
      obtain ⟨⟨-, hct⟩, -, -, -, ord, o1, o2, o3, o4⟩ := hI
      subst hc
      exact ⟨ord, o1, o2, o3, fun t ht => (o4 t (by omega)).mp (em_ct_full _ hct.symm t ht)⟩⟩
    refine ev_iload_n (i := 2) d_BH_orderBlocks_9 rfl rfl ?_
    refine ev_bipush (v := 24) d_BH_orderBlocks_10 rfl ?_
    refine ev_icmp_ge d_BH_orderBlocks_12 (fun h12 => ?_) (fun h12 => ?_)
    · rw [show (24 : Int32) = nI 24 from rfl, nI_leI (by omega) (by omega)] at h12
      refine es_vret d_BH_orderBlocks_125 rfl ⟨Nat.zero_le _, Nat.zero_le _⟩ ⟨rfl, ?_⟩
      exact (hfin (by omega)).2
    · rw [show (24 : Int32) = nI 24 from rfl, nI_leI (by omega) (by omega), Nat.not_le] at h12
      refine ev_aload_n (i := 0) d_BH_orderBlocks_15 rfl rfl ?_
      refine es_getI d_BH_orderBlocks_16 f_BH_36 (sh_BH hb) rfl ?_
      refine ev_aload_n (i := 0) d_BH_orderBlocks_19 rfl rfl ?_
      refine es_getR d_BH_orderBlocks_20 f_BH_50 (sh_BH hb) rfl ?_
      refine es_cVI ls_BH_orderBlocks_23 d_BH_orderBlocks_23 (sh_ED hb.ed) (c_ED_countBlocks hb.ed) rfl rfl (Nat.le_of_ble_eq_true rfl) (fun x23 σ23 h23 => ?_) (fun _ _ h => h.elim)
      obtain ⟨rfl, e23⟩ := h23
      rw [e23]
      refine ev_icmp_ge d_BH_orderBlocks_26 (fun h26 => ?_) (fun h26 => ?_)
      · rw [hr1.1, h9, nI_leI (by omega) (by omega)] at h26
        refine es_vret d_BH_orderBlocks_125 rfl ⟨Nat.zero_le _, Nat.zero_le _⟩ ⟨rfl, ?_⟩
        exact (hfin (by omega)).2
      · refine ev_iconst (v := 0) d_BH_orderBlocks_29 rfl ?_
        refine ev_istore_n (i := 3) d_BH_orderBlocks_30 rfl (by decide) ?_
        dsimp only [List.set_cons_zero, List.set_cons_succ]
        rw [hr1.1, h9, nI_leI (by omega) (by omega), Nat.not_le] at h26
        refine lp_BH_orderBlocks_31 hb hw hr hright (pz := pz) h26 (fun σ2 c2 S2 hI2 hc2 => ?_) _ 0 c S σ1 rfl ⟨Nat.zero_le _, hI, fun t _ h => h, fun v hv => by omega, Nat.le_refl _, fun _ => rfl, σ1, hI⟩
        refine ev_iinc d_BH_orderBlocks_119 rfl (ez_inc _) (by decide) ?_
        dsimp only [List.set_cons_zero, List.set_cons_succ]
        refine ev_goto d_BH_orderBlocks_122 ?_
        exact ih _ (by omega) (pz + 1) c2 S2 σ2 rfl ⟨by omega, hI2, by rcases hpc with h | h <;> exact Or.inl (by omega)⟩
theorem c_BH_orderBlocks {b e : Nat} (hb : sb_BH b e) {E : em_E} {P : Nat} (hw : em_wf P E) (hr : rc E e σ) (hright : em_right E) : ez_Ct l G X_BH_orderBlocks [.ref b] (es_H σ) (es_Q (es_V fun σ' => (∀ k, k ≠ b → k ≠ b + 1 → σ' k = σ k) ∧ (∀ j, j ≠ 9 → σ' b j = σ b j) ∧ σ' b 9 = nI (em_n E) ∧ bo_O E (σ' (b + 1))) es_no) := by
  refine es_Ct_of (ls := [some (.ref b), none, none, none, none]) ok_BH_orderBlocks rfl (Nat.le_of_ble_eq_true rfl) rfl ?_
  refine ev_iconst (v := 0) d_BH_orderBlocks_0 rfl ?_
  refine ev_istore_n (i := 1) d_BH_orderBlocks_1 rfl (by decide) ?_
  dsimp only [List.set_cons_zero, List.set_cons_succ]
  refine ev_aload_n (i := 0) d_BH_orderBlocks_2 rfl rfl ?_
  refine ev_iconst (v := 0) d_BH_orderBlocks_3 rfl ?_
  refine es_putI d_BH_orderBlocks_4 f_BH_36 y_BH_orderedCount (sh_BH hb) rfl ⟨rfl, rfl⟩ ?_
  refine ev_iconst (v := 0) d_BH_orderBlocks_7 rfl ?_
  refine ev_istore_n (i := 2) d_BH_orderBlocks_8 rfl (by decide) ?_
  dsimp only [List.set_cons_zero, List.set_cons_succ]
  refine lp_BH_orderBlocks_9 hb hw hr hright _ 0 0 0 _ rfl ⟨Nat.zero_le _, ⟨⟨Nat.zero_le _, (em_ct_none _ (fun x _ => by rw [b_0]; decide)).symm⟩, by simp [es_upx]; rfl, fun k g1 _ => es_upf _ _ _ _ g1, fun j hj => by simp [es_upx, hj], fun _ => 0, fun i hi => by omega, fun i j hi => by omega, fun i hi => by omega, fun t ht => by rw [b_0]; exact ⟨(fun h => by cases h), fun ⟨i, hi, _⟩ => by omega⟩⟩, Or.inl (Nat.zero_le _)⟩
end
