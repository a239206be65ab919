/-! ===== EditionEqual: what the calls share ===== -/
section
variable {l : Launch} {G : ez_G} {σ : es_S}
theorem em_Sat_d {E : em_E} {P : Nat} (hw : em_wf P E) {s s' r v : Nat → Bool} (hs : ∀ i, i < em_dl E (em_n E) → s i = s' i) (h : em_Sat E s r v) : em_Sat E s' r v := by
  intro b hb
  rw [h b hb]
  unfold em_f
  have hk := hw.2.1 b hb
  by_cases h6 : em_k E b = 6
  · have h1 := em_dl_lt hb h6
    simp only [h6]
    simp only [show ¬ (6 = 0) from by decide, show ¬ (6 = 1) from by decide, show ¬ (6 = 2) from by decide, show ¬ (6 = 3) from by decide, show ¬ (6 = 4) from by decide, show ¬ (6 = 5) from by decide, if_false]
    exact hs _ (by omega)
  · by_cases h0 : em_k E b = 0
    · simp [h0]
    by_cases h1 : em_k E b = 1
    · simp [h1]
    by_cases h2 : em_k E b = 2
    · simp [h2]
    by_cases h3 : em_k E b = 3
    · simp [h3]
    by_cases h4 : em_k E b = 4
    · simp [h4]
    by_cases h5 : em_k E b = 5
    · simp [h5]
    omega
theorem em_val_d {P : Nat} {E : em_E} (hw : em_wf P E) {s s' r : Nat → Bool} (hs : ∀ i, i < em_dl E (em_n E) → s i = s' i) : em_val E s r = em_val E s' r := by
  funext b
  unfold em_val
  have : (∃ v, em_Sat E s r v ∧ v b = true) ↔ (∃ v, em_Sat E s' r v ∧ v b = true) := ⟨fun ⟨v, h, h2⟩ => ⟨v, em_Sat_d hw hs h, h2⟩, fun ⟨v, h, h2⟩ => ⟨v, em_Sat_d hw (fun i hi => (hs i hi).symm) h, h2⟩⟩
  cases hd : @decide (∃ v, em_Sat E s' r v ∧ v b = true) (Classical.propDecidable _) with
  | true => exact @decide_eq_true _ (Classical.propDecidable _) (this.mpr (@of_decide_eq_true _ (Classical.propDecidable _) hd))
  | false => exact @decide_eq_false _ (Classical.propDecidable _) (fun h => @of_decide_eq_false _ (Classical.propDecidable _) hd (this.mp h))
theorem em_mod {P : Nat} {E : em_E} (hw : em_wf P E) (x r : Nat) : em_ou E (x % 2 ^ em_dl E (em_n E)) r = em_ou E x r ∧ em_nx E (x % 2 ^ em_dl E (em_n E)) r = em_nx E x r := by
  unfold em_ou em_nx
  rw [em_val_d hw (s := tb (x % 2 ^ em_dl E (em_n E))) (s' := tb x) (fun i hi => by unfold tb; rw [Nat.testBit_mod_two_pow]; simp [hi])]
  exact ⟨rfl, rfl⟩
theorem sj_mod (s : Int32) {d : Nat} (hd : d ≤ 5) : s &&& nI (2 ^ d - 1) = nI (sj s % 2 ^ d) := by
  apply b_ext
  intro i hi
  rw [b_and, bt_nI _ hi, bt_nI _ hi]
  unfold tb
  rw [Nat.testBit_two_pow_sub_one, Nat.testBit_mod_two_pow]
  by_cases hid : i < d
  · have := sj_bit s (show i < 5 by omega)
    unfold tb at this
    simp [hid, this]
  · simp [hid]
/-- the class's cells -/
def ci (S : sp_S) (σ : es_S) : Prop := sWf S ∧ (σ 0 0 = nI (sP S) ∧ σ 0 1 = nI (2 ^ sP S)) ∧ (rc (s0 S) 1 σ ∧ rc (s1 S) 10 σ) ∧ (∀ r, r < 2 ^ sP S → (bt (σ 0 8) r = true ↔ sB S r)) ∧
  ((σ 19 12 = 0 ∨ (σ 19 12 = 1 ∧ bh (s0 S) (sP S) (sop S) 19 σ)) ∧ (σ 28 12 = 0 ∨ (σ 28 12 = 1 ∧ bh (s1 S) (sP S) (sop S) 28 σ))) ∧ (σ 37 12 = 0 ∨ (σ 37 12 = 1 ∧ ∃ h, ps_fin (sA S) h ∧ pc_R (sA S) (ps_at (sA S) h) σ))
def cq (k : Nat) : Prop := k < 42 ∧ k ≠ 9 ∧ k ≠ 18 ∧ k ≠ 25 ∧ k ≠ 26 ∧ k ≠ 27 ∧ k ≠ 34 ∧ k ≠ 35 ∧ k ≠ 36
theorem ci_keep {S : sp_S} {σ σ' : es_S} (h : ci S σ) (hs : ∀ k, cq k → σ' k = σ k) : ci S σ' := by
  obtain ⟨h1, h2, h3, h4, h5, h6⟩ := h
  have q : ∀ k, k < 42 ∧ k ≠ 9 ∧ k ≠ 18 ∧ k ≠ 25 ∧ k ≠ 26 ∧ k ≠ 27 ∧ k ≠ 34 ∧ k ≠ 35 ∧ k ≠ 36 → σ' k = σ k := fun k hk => hs k hk
  refine ⟨h1, by rw [q 0 (by decide)]; exact h2, ⟨rc_off h3.1 (fun k g1 g2 => q k (by omega)), rc_off h3.2 (fun k g1 g2 => q k (by omega))⟩, by rw [q 0 (by decide)]; exact h4, ⟨?_, ?_⟩, ?_⟩
  · rw [q 19 (by decide)]
    exact h5.1.imp id (fun g => ⟨g.1, bh_off g.2 (by rw [q 19 (by decide)]) (by rw [q 19 (by decide)]) (q 21 (by decide)) (q 22 (by decide)) (q 23 (by decide))⟩)
  · rw [q 28 (by decide)]
    exact h5.2.imp id (fun g => ⟨g.1, bh_off g.2 (by rw [q 28 (by decide)]) (by rw [q 28 (by decide)]) (q 30 (by decide)) (q 31 (by decide)) (q 32 (by decide))⟩)
  · rw [q 37 (by decide)]
    exact h6.imp id (fun ⟨g1, x, g2, g3⟩ => ⟨g1, x, g2, pc_R_off g3 (fun k k1 k2 => q k (by omega))⟩)
def edp (e : Int32) : Nat := if e = 0 then 1 else 10
def bhp (e : Int32) : Nat := if e = 0 then 19 else 28
theorem sb_edp (e : Int32) : sb_ED (edp e) := by unfold edp; split; exact Or.inl rfl; exact Or.inr rfl
theorem sb_bhp (e : Int32) : sb_BH (bhp e) (edp e) := by unfold edp bhp; split; exact Or.inl ⟨rfl, rfl⟩; exact Or.inr ⟨rfl, rfl⟩
theorem edp_lt (e : Int32) : (edp e = 1 ∨ edp e = 10) := by unfold edp; split <;> omega
theorem bhp_lt (e : Int32) : (bhp e = 19 ∨ bhp e = 28) := by unfold bhp; split <;> omega
theorem ci_rc {S : sp_S} {σ : es_S} (h : ci S σ) (e : Int32) : rc (sE S e) (edp e) σ := by
  unfold sE edp
  split
  · exact h.2.2.1.1
  · exact h.2.2.1.2
theorem ci_bh {S : sp_S} {σ : es_S} (h : ci S σ) (e : Int32) : σ (bhp e) 12 = 0 ∨ (σ (bhp e) 12 = 1 ∧ bh (sE S e) (sP S) (sop S) (bhp e) σ) := by
  unfold sE bhp
  split
  · exact h.2.2.2.2.1.1
  · exact h.2.2.2.2.1.2
theorem ci_learn {S : sp_S} {σ σ' : es_S} (h : ci S σ) (e : Int32) (h1 : bh (sE S e) (sP S) (sop S) (bhp e) σ') (h2 : σ' (bhp e) 12 = 1) (h3 : ∀ k, (k < bhp e ∨ bhp e + 8 < k) → σ' k = σ k) : ci S σ' := by
  have hb := bhp_lt e
  obtain ⟨a1, a2, a3, a4, a5, a6⟩ := h
  refine ⟨a1, by rw [h3 0 (by omega)]; exact a2, ⟨rc_off a3.1 (fun k g1 g2 => h3 k (by omega)), rc_off a3.2 (fun k g1 g2 => h3 k (by omega))⟩, by rw [h3 0 (by omega)]; exact a4, ⟨?_, ?_⟩, ?_⟩
  · by_cases he : e = 0
    · simp only [sE, bhp, he, if_true] at h1 h2
      exact Or.inr ⟨h2, h1⟩
    · have e1 : bhp e = 28 := if_neg he
      rw [h3 19 (by omega)]
      exact a5.1.imp id (fun g => ⟨g.1, bh_off g.2 (by rw [h3 19 (by omega)]) (by rw [h3 19 (by omega)]) (h3 21 (by omega)) (h3 22 (by omega)) (h3 23 (by omega))⟩)
  · by_cases he : e = 0
    · have e1 : bhp e = 19 := if_pos he
      rw [h3 28 (by omega)]
      exact a5.2.imp id (fun g => ⟨g.1, bh_off g.2 (by rw [h3 28 (by omega)]) (by rw [h3 28 (by omega)]) (h3 30 (by omega)) (h3 31 (by omega)) (h3 32 (by omega))⟩)
    · simp only [sE, bhp, he, if_false] at h1 h2
      exact Or.inr ⟨h2, h1⟩
  · rw [h3 37 (by omega)]
    exact a6.imp id (fun ⟨g1, x, g2, g3⟩ => ⟨g1, x, g2, pc_R_off g3 (fun k k1 k2 => h3 k (by omega))⟩)
/-- everything is forgotten, something else has changed -/
theorem ci_new {S : sp_S} {σ : es_S} (h1 : sWf S) (h2 : σ 0 0 = nI (sP S) ∧ σ 0 1 = nI (2 ^ sP S)) (h3 : rc (s0 S) 1 σ ∧ rc (s1 S) 10 σ) (h4 : ∀ r, r < 2 ^ sP S → (bt (σ 0 8) r = true ↔ sB S r)) (h5 : σ 19 12 = 0) (h6 : σ 28 12 = 0) (h7 : σ 37 12 = 0) : ci S σ :=
  ⟨h1, h2, h3, h4, ⟨Or.inl h5, Or.inl h6⟩, Or.inl h7⟩
theorem ci_set {S : sp_S} {σ σ' : es_S} (h : ci S σ) (e : Int32) {X : em_E} (hw : sWf (sSet S e X)) (hr : rc X (edp e) σ') (h3 : ∀ q, (q < edp e ∨ edp e + 8 ≤ q) → σ' q = es_up (es_up (es_up σ 19 12 0) 28 12 0) 37 12 0 q) : ci (sSet S e X) σ' := by
  have hb := edp_lt e
  obtain ⟨a1, a2, a3, a4, a5, a6⟩ := h
  have k0 : σ' 0 = σ 0 := by rw [h3 0 (by omega), es_upf _ _ _ _ (by decide), es_upf _ _ _ _ (by decide), es_upf _ _ _ _ (by decide)]
  have k1 : σ' 19 12 = 0 := by rw [h3 19 (by omega)]; simp [es_upx]
  have k2 : σ' 28 12 = 0 := by rw [h3 28 (by omega)]; simp [es_upx]
  have k3 : σ' 37 12 = 0 := by rw [h3 37 (by omega)]; simp [es_upx]
  have hoth : ∀ b, b = 1 ∨ b = 10 → b ≠ edp e → ∀ k, b ≤ k → k ≤ b + 7 → σ' k = σ k := fun b hbb hne k g1 g2 => by
    rw [h3 k (by omega), es_upf _ _ _ _ (by omega), es_upf _ _ _ _ (by omega), es_upf _ _ _ _ (by omega)]
  by_cases he : e = 0
  · have e1 : edp e = 1 := if_pos he
    have e2 : sSet S e X = (sP S, sB S, X, s1 S) := if_pos he
    rw [e2] at hw ⊢
    rw [e1] at hr hoth
    exact ci_new hw (by rw [k0]; exact a2) ⟨hr, rc_off a3.2 (hoth 10 (by omega) (by omega))⟩ (by rw [k0]; exact a4) k1 k2 k3
  · have e1 : edp e = 10 := if_neg he
    have e2 : sSet S e X = (sP S, sB S, s0 S, X) := if_neg he
    rw [e2] at hw ⊢
    rw [e1] at hr hoth
    exact ci_new hw (by rw [k0]; exact a2) ⟨rc_off a3.1 (hoth 1 (by omega) (by omega)), hr⟩ (by rw [k0]; exact a4) k1 k2 k3
theorem open_bit {P : Nat} (hP : P ≤ 4) (x : Int32) {r : Nat} (hr : r < 32) : bt ((1 <<< (nI (2 ^ P) &&& 31) - 1) &&& (x ^^^ (-1))) r = (decide (r < 2 ^ P) && !bt x r) := by
  have h16 : 2 ^ P ≤ 2 ^ 4 := Nat.pow_le_pow_right (by omega) hP
  rw [b_and, b_xor, b_m1 r hr, shl1 (by omega), show (1 : Int32) = nI 1 from rfl, nI_sub Nat.one_le_two_pow, bt_nI _ hr]
  unfold tb
  rw [Nat.testBit_two_pow_sub_one]
  cases bt x r <;> simp
theorem ci_P {S : sp_S} {σ : es_S} (h : ci S σ) : 2 ^ sP S ≤ 16 := Nat.pow_le_pow_right (n := 2) (j := 4) (by omega) h.1.1.2
theorem c_BH_placeOfX {b e : Nat} (hb : sb_BH b e) {s : Int32} {r dc : Nat} (hr16 : r < 16) (hd : dc ≤ 5) (hsc : σ b 10 = nI (2 ^ dc)) : ez_Ct l G X_BH_placeOf [.ref b, .int s, .int (nI r)] (es_H σ) (es_Q (es_I fun y σ' => y = nI (r * 32 + sj s % 2 ^ dc) ∧ σ' = σ) es_no) := by
  refine es_Ct_of (ls := [some (.ref b), some (.int s), some (.int (nI r))]) ok_BH_placeOf rfl (Nat.le_of_ble_eq_true rfl) rfl ?_
  refine ev_iload_n (i := 2) d_BH_placeOf_0 rfl rfl ?_
  refine ev_bipush (v := 32) d_BH_placeOf_1 rfl ?_
  refine ev_imul d_BH_placeOf_3 ?_
  refine ev_iload_n (i := 1) d_BH_placeOf_4 rfl rfl ?_
  refine ev_aload_n (i := 0) d_BH_placeOf_5 rfl rfl ?_
  refine es_getI d_BH_placeOf_6 f_BH_40 (sh_BH hb) rfl ?_
  refine ev_iconst (v := 1) d_BH_placeOf_9 rfl ?_
  refine ev_isub d_BH_placeOf_10 ?_
  refine ev_iand d_BH_placeOf_11 ?_
  refine ev_iadd d_BH_placeOf_12 ?_
  refine es_iret d_BH_placeOf_13 rfl ⟨Nat.zero_le _, Nat.zero_le _⟩ ⟨_, rfl, ?_⟩
  refine ⟨?_, rfl⟩
  have h1 : 1 ≤ 2 ^ dc := Nat.one_le_two_pow
  rw [hsc, show (1 : Int32) = nI 1 from rfl, nI_sub h1, sj_mod s hd, show (32 : Int32) = nI 32 from rfl, nI_mul, nI_add]
theorem c_BH_outsOfX {b e : Nat} (hb : sb_BH b e) {s : Int32} {r dc : Nat} (hr16 : r < 16) (hd : dc ≤ 5) (hsc : σ b 10 = nI (2 ^ dc)) : ez_Ct l G X_BH_outsOf [.ref b, .int s, .int (nI r)] (es_H σ) (es_Q (es_I fun y σ' => y = σ (b + 3) (r * 32 + sj s % 2 ^ dc) ∧ σ' = σ) es_no) := by
  have h16 : ew (nI r) 16 = true := by rw [show (16 : Int32) = nI 16 from rfl, ew_nI (by omega) (by omega), decide_eq_true hr16]
  have h2 : sj s % 2 ^ dc < 32 := Nat.lt_of_lt_of_le (Nat.mod_lt _ (Nat.two_pow_pos dc)) (by have := Nat.pow_le_pow_right (n := 2) (by omega) hd; omega)
  refine es_Ct_of (ls := [some (.ref b), some (.int s), some (.int (nI r))]) ok_BH_outsOf rfl (Nat.le_of_ble_eq_true rfl) rfl ?_
  refine ev_iload_n (i := 2) d_BH_outsOf_0 rfl rfl ?_
  refine ev_bipush (v := 16) d_BH_outsOf_1 rfl ?_
  refine es_cSI ls_BH_outsOf_3 d_BH_outsOf_3 c_EE_isWithin rfl rfl (Nat.le_of_ble_eq_true rfl) (fun x3 σ3 h3 => ?_) (fun _ _ h => h.elim)
  obtain ⟨rfl, e3⟩ := h3
  rw [e3]
  refine ev_if_eq d_BH_outsOf_6 (fun h6 => ?_) (fun h6 => ?_)
  · exact absurd h6 (by rw [h16]; decide)
  · refine ev_aload_n (i := 0) d_BH_outsOf_9 rfl rfl ?_
    refine es_getR d_BH_outsOf_10 f_BH_18 (sh_BH hb) rfl ?_
    refine ev_aload_n (i := 0) d_BH_outsOf_13 rfl rfl ?_
    refine ev_iload_n (i := 1) d_BH_outsOf_14 rfl rfl ?_
    refine ev_iload_n (i := 2) d_BH_outsOf_15 rfl rfl ?_
    refine es_cVI ls_BH_outsOf_16 d_BH_outsOf_16 (sh_BH hb) (c_BH_placeOfX hb hr16 hd hsc) rfl rfl (Nat.le_of_ble_eq_true rfl) (fun x16 σ16 h16 => ?_) (fun _ _ h => h.elim)
    obtain ⟨rfl, e16⟩ := h16
    rw [e16]
    refine es_iald d_BH_outsOf_19 (sa_BH_outs hb) (ez_vinN (by omega) (by omega)) ?_
    refine ev_goto d_BH_outsOf_20 ?_
    refine es_iret d_BH_outsOf_24 rfl ⟨Nat.zero_le _, Nat.zero_le _⟩ ⟨_, rfl, ?_⟩
    refine ⟨?_, rfl⟩
    rw [nI_clamp (by omega)]
theorem c_BH_stateAfterX {b e : Nat} (hb : sb_BH b e) {s : Int32} {r dc : Nat} (hr16 : r < 16) (hd : dc ≤ 5) (hsc : σ b 10 = nI (2 ^ dc)) : ez_Ct l G X_BH_stateAfter [.ref b, .int s, .int (nI r)] (es_H σ) (es_Q (es_I fun y σ' => y = σ (b + 4) (r * 32 + sj s % 2 ^ dc) ∧ σ' = σ) es_no) := by
  have h16 : ew (nI r) 16 = true := by rw [show (16 : Int32) = nI 16 from rfl, ew_nI (by omega) (by omega), decide_eq_true hr16]
  have h2 : sj s % 2 ^ dc < 32 := Nat.lt_of_lt_of_le (Nat.mod_lt _ (Nat.two_pow_pos dc)) (by have := Nat.pow_le_pow_right (n := 2) (by omega) hd; omega)
  refine es_Ct_of (ls := [some (.ref b), some (.int s), some (.int (nI r))]) ok_BH_stateAfter rfl (Nat.le_of_ble_eq_true rfl) rfl ?_
  refine ev_iload_n (i := 2) d_BH_stateAfter_0 rfl rfl ?_
  refine ev_bipush (v := 16) d_BH_stateAfter_1 rfl ?_
  refine es_cSI ls_BH_stateAfter_3 d_BH_stateAfter_3 c_EE_isWithin rfl rfl (Nat.le_of_ble_eq_true rfl) (fun x3 σ3 h3 => ?_) (fun _ _ h => h.elim)
  obtain ⟨rfl, e3⟩ := h3
  rw [e3]
  refine ev_if_eq d_BH_stateAfter_6 (fun h6 => ?_) (fun h6 => ?_)
  · exact absurd h6 (by rw [h16]; decide)
  · refine ev_aload_n (i := 0) d_BH_stateAfter_9 rfl rfl ?_
    refine es_getR d_BH_stateAfter_10 f_BH_21 (sh_BH hb) rfl ?_
    refine ev_aload_n (i := 0) d_BH_stateAfter_13 rfl rfl ?_
    refine ev_iload_n (i := 1) d_BH_stateAfter_14 rfl rfl ?_
    refine ev_iload_n (i := 2) d_BH_stateAfter_15 rfl rfl ?_
    refine es_cVI ls_BH_stateAfter_16 d_BH_stateAfter_16 (sh_BH hb) (c_BH_placeOfX hb hr16 hd hsc) rfl rfl (Nat.le_of_ble_eq_true rfl) (fun x16 σ16 h16 => ?_) (fun _ _ h => h.elim)
    obtain ⟨rfl, e16⟩ := h16
    rw [e16]
    refine es_iald d_BH_stateAfter_19 (sa_BH_nextStates hb) (ez_vinN (by omega) (by omega)) ?_
    refine ev_goto d_BH_stateAfter_20 ?_
    refine es_iret d_BH_stateAfter_24 rfl ⟨Nat.zero_le _, Nat.zero_le _⟩ ⟨_, rfl, ?_⟩
    refine ⟨?_, rfl⟩
    rw [nI_clamp (by omega)]
theorem c_EE_checkEdition (hl : l.stackTraces = false) {e : Int32} : ez_Ct l G X_EE_checkEdition [.int e] (es_H σ) (es_Q (es_V fun σ' => ew e 2 = true ∧ σ' = σ) (fun k σ' => k = 0 ∧ ¬ ew e 2 = true ∧ σ' = σ)) := by
  refine es_Ct_of (ls := [some (.int e)]) ok_EE_checkEdition rfl (Nat.le_of_ble_eq_true rfl) rfl ?_
  refine ev_iload_n (i := 0) d_EE_checkEdition_0 rfl rfl ?_
  refine ev_iconst (v := 2) d_EE_checkEdition_1 rfl ?_
  refine es_cSI ls_EE_checkEdition_2 d_EE_checkEdition_2 c_EE_isWithin rfl rfl (Nat.le_of_ble_eq_true rfl) (fun x2 σ2 h2 => ?_) (fun _ _ h => h.elim)
  obtain ⟨rfl, e2⟩ := h2
  rw [e2]
  refine ev_if_ne d_EE_checkEdition_5 (fun h5 => ?_) (fun h5 => ?_)
  · rw [eb_0, Bool.not_eq_false] at h5
    refine es_vret d_EE_checkEdition_18 rfl ⟨Nat.zero_le _, Nat.zero_le _⟩ ⟨rfl, ?_⟩
    exact ⟨h5, rfl⟩
  · rw [eb_0] at h5
    refine es_throw hl th_EE_checkEdition_8 rfl ⟨⟨by decide, by decide⟩, by decide, by decide⟩ ?_
    exact ⟨rfl, by rw [h5]; decide, rfl⟩
theorem c_EE_checkBlock (hl : l.stackTraces = false) {b : Nat} (hb : sb_ED b) {x : Int32} : ez_Ct l G X_EE_checkBlock [.ref b, .int x] (es_H σ) (es_Q (es_V fun σ' => ew x (σ b 8) = true ∧ σ' = σ) (fun k σ' => k = 0 ∧ ¬ ew x (σ b 8) = true ∧ σ' = σ)) := by
  refine es_Ct_of (ls := [some (.ref b), some (.int x)]) ok_EE_checkBlock rfl (Nat.le_of_ble_eq_true rfl) rfl ?_
  refine ev_aload_n (i := 0) d_EE_checkBlock_0 rfl rfl ?_
  refine ev_iload_n (i := 1) d_EE_checkBlock_1 rfl rfl ?_
  refine es_cVI ls_EE_checkBlock_2 d_EE_checkBlock_2 (sh_ED hb) (c_ED_hasBlock hb) rfl rfl (Nat.le_of_ble_eq_true rfl) (fun x2 σ2 h2 => ?_) (fun _ _ h => h.elim)
  obtain ⟨rfl, e2⟩ := h2
  rw [e2]
  refine ev_if_ne d_EE_checkBlock_5 (fun h5 => ?_) (fun h5 => ?_)
  · rw [eb_0, Bool.not_eq_false] at h5
    refine es_vret d_EE_checkBlock_18 rfl ⟨Nat.zero_le _, Nat.zero_le _⟩ ⟨rfl, ?_⟩
    exact ⟨h5, rfl⟩
  · rw [eb_0] at h5
    refine es_throw hl th_EE_checkBlock_8 rfl ⟨⟨by decide, by decide⟩, by decide, by decide⟩ ?_
    exact ⟨rfl, by rw [h5]; decide, rfl⟩
theorem c_EE_checkRow (hl : l.stackTraces = false) {x : Int32} : ez_Ct l G X_EE_checkRow [.ref 0, .int x] (es_H σ) (es_Q (es_V fun σ' => ew x (σ 0 1) = true ∧ σ' = σ) (fun k σ' => k = 0 ∧ ¬ ew x (σ 0 1) = true ∧ σ' = σ)) := by
  refine es_Ct_of (ls := [some (.ref 0), some (.int x)]) ok_EE_checkRow rfl (Nat.le_of_ble_eq_true rfl) rfl ?_
  refine ev_iload_n (i := 1) d_EE_checkRow_0 rfl rfl ?_
  refine ev_aload_n (i := 0) d_EE_checkRow_1 rfl rfl ?_
  refine es_getI d_EE_checkRow_2 f_EE_22 rfl rfl ?_
  refine es_cSI ls_EE_checkRow_5 d_EE_checkRow_5 c_EE_isWithin rfl rfl (Nat.le_of_ble_eq_true rfl) (fun x5 σ5 h5 => ?_) (fun _ _ h => h.elim)
  obtain ⟨rfl, e5⟩ := h5
  rw [e5]
  refine ev_if_ne d_EE_checkRow_8 (fun h8 => ?_) (fun h8 => ?_)
  · rw [eb_0, Bool.not_eq_false] at h8
    refine es_vret d_EE_checkRow_21 rfl ⟨Nat.zero_le _, Nat.zero_le _⟩ ⟨rfl, ?_⟩
    exact ⟨h8, rfl⟩
  · rw [eb_0] at h8
    refine es_throw hl th_EE_checkRow_11 rfl ⟨⟨by decide, by decide⟩, by decide, by decide⟩ ?_
    exact ⟨rfl, by rw [h8]; decide, rfl⟩
theorem c_EE_editionOf (hl : l.stackTraces = false) {e : Int32} : ez_Ct l G X_EE_editionOf [.ref 0, .int e] (es_H σ) (es_Q (es_P fun b σ' => ew e 2 = true ∧ b = edp e ∧ σ' = σ) (fun k σ' => k = 0 ∧ ¬ ew e 2 = true ∧ σ' = σ)) := by
  refine es_Ct_of (ls := [some (.ref 0), some (.int e)]) ok_EE_editionOf rfl (Nat.le_of_ble_eq_true rfl) rfl ?_
  refine ev_iload_n (i := 1) d_EE_editionOf_0 rfl rfl ?_
  refine es_cSV ls_EE_editionOf_1 d_EE_editionOf_1 (c_EE_checkEdition hl) rfl rfl (Nat.le_of_ble_eq_true rfl) (fun σ1 h1 => ?_) (fun _ _ h => h)
  obtain ⟨he, e1⟩ := h1
  rw [e1]
  refine ev_iload_n (i := 1) d_EE_editionOf_4 rfl rfl ?_
  refine ev_if_ne d_EE_editionOf_5 (fun h5 => ?_) (fun h5 => ?_)
  · refine ev_aload_n (i := 0) d_EE_editionOf_15 rfl rfl ?_
    refine es_getR d_EE_editionOf_16 f_EE_32 rfl rfl ?_
    refine es_aret d_EE_editionOf_19 rfl ⟨Nat.zero_le _, Nat.zero_le _⟩ ⟨_, rfl, ?_⟩
    first | exact ⟨he, (if_pos h5).symm, rfl⟩ | exact ⟨he, (if_neg h5).symm, rfl⟩
  · refine ev_aload_n (i := 0) d_EE_editionOf_8 rfl rfl ?_
    refine es_getR d_EE_editionOf_9 f_EE_28 rfl rfl ?_
    refine ev_goto d_EE_editionOf_12 ?_
    refine es_aret d_EE_editionOf_19 rfl ⟨Nat.zero_le _, Nat.zero_le _⟩ ⟨_, rfl, ?_⟩
    first | exact ⟨he, (if_pos h5).symm, rfl⟩ | exact ⟨he, (if_neg h5).symm, rfl⟩
theorem c_EE_openRows {S : sp_S} (hc : ci S σ) : ez_Ct l G X_EE_openRows [.ref 0] (es_H σ) (es_Q (es_I fun y σ' => y = ((1 <<< (nI (2 ^ sP S) &&& 31) - 1) &&& (σ 0 8 ^^^ (-1))) ∧ σ' = σ) es_no) := by
  refine es_Ct_of (ls := [some (.ref 0)]) ok_EE_openRows rfl (Nat.le_of_ble_eq_true rfl) rfl ?_
  refine ev_iconst (v := 1) d_EE_openRows_0 rfl ?_
  refine ev_aload_n (i := 0) d_EE_openRows_1 rfl rfl ?_
  refine es_getI d_EE_openRows_2 f_EE_22 rfl rfl ?_
  refine ev_ishl d_EE_openRows_5 ?_
  refine ev_iconst (v := 1) d_EE_openRows_6 rfl ?_
  refine ev_isub d_EE_openRows_7 ?_
  refine ev_aload_n (i := 0) d_EE_openRows_8 rfl rfl ?_
  refine es_getI d_EE_openRows_9 f_EE_65 rfl rfl ?_
  refine ev_iconst (v := (-1)) d_EE_openRows_12 rfl ?_
  refine ev_ixor d_EE_openRows_13 ?_
  refine ev_iand d_EE_openRows_14 ?_
  refine es_iret d_EE_openRows_15 rfl ⟨Nat.zero_le _, Nat.zero_le _⟩ ⟨_, rfl, ?_⟩
  exact ⟨by rw [hc.2.1.2], rfl⟩
theorem c_EE_forgetAnswers  : ez_Ct l G X_EE_forgetAnswers [.ref 0] (es_H σ) (es_Q (es_V fun σ' => σ' = es_up (es_up (es_up σ 19 12 0) 28 12 0) 37 12 0) es_no) := by
  refine es_Ct_of (ls := [some (.ref 0)]) ok_EE_forgetAnswers rfl (Nat.le_of_ble_eq_true rfl) rfl ?_
  refine ev_aload_n (i := 0) d_EE_forgetAnswers_0 rfl rfl ?_
  refine es_getR d_EE_forgetAnswers_1 f_EE_40 rfl rfl ?_
  refine es_cVV ls_EE_forgetAnswers_4 d_EE_forgetAnswers_4 rfl (c_BH_forget sb19) rfl rfl (Nat.le_of_ble_eq_true rfl) (fun σ4 h4 => ?_) (fun _ _ h => h.elim)
  subst h4
  refine ev_aload_n (i := 0) d_EE_forgetAnswers_7 rfl rfl ?_
  refine es_getR d_EE_forgetAnswers_8 f_EE_44 rfl rfl ?_
  refine es_cVV ls_EE_forgetAnswers_11 d_EE_forgetAnswers_11 rfl (c_BH_forget sb28) rfl rfl (Nat.le_of_ble_eq_true rfl) (fun σ11 h11 => ?_) (fun _ _ h => h.elim)
  subst h11
  refine ev_aload_n (i := 0) d_EE_forgetAnswers_14 rfl rfl ?_
  refine es_getR d_EE_forgetAnswers_15 f_EE_52 rfl rfl ?_
  refine es_cVV ls_EE_forgetAnswers_18 d_EE_forgetAnswers_18 rfl c_PS_forget rfl rfl (Nat.le_of_ble_eq_true rfl) (fun σ18 h18 => ?_) (fun _ _ h => h.elim)
  subst h18
  refine es_vret d_EE_forgetAnswers_21 rfl ⟨Nat.zero_le _, Nat.zero_le _⟩ ⟨rfl, ?_⟩
  rfl
theorem c_EE_isNumberOfKind {S : sp_S} (hc : ci S σ) {x m : Int32} (hk : ew x 7 = true) : ez_Ct l G X_EE_isNumberOfKind [.ref 0, .int x, .int m] (es_H σ) (es_Q (es_I fun y σ' => (∃ g : Bool, y = eb g ∧ (g = true ↔ (x = 0 → ew m (nI (sP S)) = true) ∧ (x = 1 → ew m 2 = true))) ∧ σ' = σ) es_no) := by
  have hk2 := ew_n (n := 7) hk (by omega)
  rw [← hk2.2]
  generalize x.toNatClampNeg = k at hk2
  have hk3 := hk2.1
  clear hk2 hk
  have h : k = 0 ∨ k = 1 ∨ k = 2 ∨ k = 3 ∨ k = 4 ∨ k = 5 ∨ k = 6 := by omega
  rcases h with rfl | rfl | rfl | rfl | rfl | rfl | rfl
  · refine es_Ct_of (ls := [some (.ref 0), some (.int (nI 0)), some (.int m)]) ok_EE_isNumberOfKind rfl (Nat.le_of_ble_eq_true rfl) rfl ?_
    refine ev_iload_n (i := 1) d_EE_isNumberOfKind_0 rfl rfl ?_
    refine ev_lookup (off := 27) (tgt := 28) d_EE_isNumberOfKind_1 (by decide) (by decide) rfl ?_
    refine ev_iload_n (i := 2) d_EE_isNumberOfKind_28 rfl rfl ?_
    refine ev_aload_n (i := 0) d_EE_isNumberOfKind_29 rfl rfl ?_
    refine es_getI d_EE_isNumberOfKind_30 f_EE_18 rfl rfl ?_
    refine es_cSI ls_EE_isNumberOfKind_33 d_EE_isNumberOfKind_33 c_EE_isWithin rfl rfl (Nat.le_of_ble_eq_true rfl) (fun x33 σ33 h33 => ?_) (fun _ _ h => h.elim)
    obtain ⟨rfl, e33⟩ := h33
    rw [e33]
    refine es_zret d_EE_isNumberOfKind_36 rfl (eb_nar _) ⟨Nat.zero_le _, Nat.zero_le _⟩ ⟨_, rfl, ?_⟩
    exact ⟨⟨_, rfl, ⟨fun g => ⟨fun _ => by rw [← hc.2.1.1]; exact g, fun g => absurd g (by decide)⟩, fun g => by rw [hc.2.1.1]; exact g.1 rfl⟩⟩, rfl⟩
  · refine es_Ct_of (ls := [some (.ref 0), some (.int (nI 1)), some (.int m)]) ok_EE_isNumberOfKind rfl (Nat.le_of_ble_eq_true rfl) rfl ?_
    refine ev_iload_n (i := 1) d_EE_isNumberOfKind_0 rfl rfl ?_
    refine ev_lookup (off := 36) (tgt := 37) d_EE_isNumberOfKind_1 (by decide) (by decide) rfl ?_
    refine ev_iload_n (i := 2) d_EE_isNumberOfKind_37 rfl rfl ?_
    refine ev_iconst (v := 2) d_EE_isNumberOfKind_38 rfl ?_
    refine es_cSI ls_EE_isNumberOfKind_39 d_EE_isNumberOfKind_39 c_EE_isWithin rfl rfl (Nat.le_of_ble_eq_true rfl) (fun x39 σ39 h39 => ?_) (fun _ _ h => h.elim)
    obtain ⟨rfl, e39⟩ := h39
    rw [e39]
    refine es_zret d_EE_isNumberOfKind_42 rfl (eb_nar _) ⟨Nat.zero_le _, Nat.zero_le _⟩ ⟨_, rfl, ?_⟩
    exact ⟨⟨_, rfl, ⟨fun g => ⟨fun g => absurd g (by decide), fun _ => g⟩, fun g => g.2 rfl⟩⟩, rfl⟩
  · refine es_Ct_of (ls := [some (.ref 0), some (.int (nI 2)), some (.int m)]) ok_EE_isNumberOfKind rfl (Nat.le_of_ble_eq_true rfl) rfl ?_
    refine ev_iload_n (i := 1) d_EE_isNumberOfKind_0 rfl rfl ?_
    refine ev_lookup (off := 42) (tgt := 43) d_EE_isNumberOfKind_1 (by decide) (by decide) rfl ?_
    refine ev_iconst (v := 1) d_EE_isNumberOfKind_43 rfl ?_
    refine es_zret d_EE_isNumberOfKind_44 rfl rfl ⟨Nat.zero_le _, Nat.zero_le _⟩ ⟨_, rfl, ?_⟩
    exact ⟨⟨true, rfl, ⟨fun _ => ⟨fun g => absurd g (by decide), fun g => absurd g (by decide)⟩, fun _ => rfl⟩⟩, rfl⟩
  · refine es_Ct_of (ls := [some (.ref 0), some (.int (nI 3)), some (.int m)]) ok_EE_isNumberOfKind rfl (Nat.le_of_ble_eq_true rfl) rfl ?_
    refine ev_iload_n (i := 1) d_EE_isNumberOfKind_0 rfl rfl ?_
    refine ev_lookup (off := 42) (tgt := 43) d_EE_isNumberOfKind_1 (by decide) (by decide) rfl ?_
    refine ev_iconst (v := 1) d_EE_isNumberOfKind_43 rfl ?_
    refine es_zret d_EE_isNumberOfKind_44 rfl rfl ⟨Nat.zero_le _, Nat.zero_le _⟩ ⟨_, rfl, ?_⟩
    exact ⟨⟨true, rfl, ⟨fun _ => ⟨fun g => absurd g (by decide), fun g => absurd g (by decide)⟩, fun _ => rfl⟩⟩, rfl⟩
  · refine es_Ct_of (ls := [some (.ref 0), some (.int (nI 4)), some (.int m)]) ok_EE_isNumberOfKind rfl (Nat.le_of_ble_eq_true rfl) rfl ?_
    refine ev_iload_n (i := 1) d_EE_isNumberOfKind_0 rfl rfl ?_
    refine ev_lookup (off := 42) (tgt := 43) d_EE_isNumberOfKind_1 (by decide) (by decide) rfl ?_
    refine ev_iconst (v := 1) d_EE_isNumberOfKind_43 rfl ?_
    refine es_zret d_EE_isNumberOfKind_44 rfl rfl ⟨Nat.zero_le _, Nat.zero_le _⟩ ⟨_, rfl, ?_⟩
    exact ⟨⟨true, rfl, ⟨fun _ => ⟨fun g => absurd g (by decide), fun g => absurd g (by decide)⟩, fun _ => rfl⟩⟩, rfl⟩
  · refine es_Ct_of (ls := [some (.ref 0), some (.int (nI 5)), some (.int m)]) ok_EE_isNumberOfKind rfl (Nat.le_of_ble_eq_true rfl) rfl ?_
    refine ev_iload_n (i := 1) d_EE_isNumberOfKind_0 rfl rfl ?_
    refine ev_lookup (off := 42) (tgt := 43) d_EE_isNumberOfKind_1 (by decide) (by decide) rfl ?_
    refine ev_iconst (v := 1) d_EE_isNumberOfKind_43 rfl ?_
    refine es_zret d_EE_isNumberOfKind_44 rfl rfl ⟨Nat.zero_le _, Nat.zero_le _⟩ ⟨_, rfl, ?_⟩
    exact ⟨⟨true, rfl, ⟨fun _ => ⟨fun g => absurd g (by decide), fun g => absurd g (by decide)⟩, fun _ => rfl⟩⟩, rfl⟩
  · refine es_Ct_of (ls := [some (.ref 0), some (.int (nI 6)), some (.int m)]) ok_EE_isNumberOfKind rfl (Nat.le_of_ble_eq_true rfl) rfl ?_
    refine ev_iload_n (i := 1) d_EE_isNumberOfKind_0 rfl rfl ?_
    refine ev_lookup (off := 42) (tgt := 43) d_EE_isNumberOfKind_1 (by decide) (by decide) rfl ?_
    refine ev_iconst (v := 1) d_EE_isNumberOfKind_43 rfl ?_
    refine es_zret d_EE_isNumberOfKind_44 rfl rfl ⟨Nat.zero_le _, Nat.zero_le _⟩ ⟨_, rfl, ?_⟩
    exact ⟨⟨true, rfl, ⟨fun _ => ⟨fun g => absurd g (by decide), fun g => absurd g (by decide)⟩, fun _ => rfl⟩⟩, rfl⟩
theorem flt_b {E : em_E} {P : Nat} (hw : em_wf P E) : ∀ t, em_fault E = some t → t < 2 ^ 31 := fun t ht => by have := em_fault_lt ht; have := hw.1; omega
theorem c_EE_checkBothRight (hl : l.stackTraces = false) {S : sp_S} (hc : ci S σ) : ez_Ct l G X_EE_checkBothRight [.ref 0] (es_H σ) (es_Q (es_V fun σ' => sBoth S ∧ ∀ k, k ≠ 9 → k ≠ 18 → σ' k = σ k) (fun k σ' => k = 1 ∧ ¬ sBoth S ∧ ∀ k, k ≠ 9 → k ≠ 18 → σ' k = σ k)) := by
  refine es_Ct_of (ls := [some (.ref 0)]) ok_EE_checkBothRight rfl (Nat.le_of_ble_eq_true rfl) rfl ?_
  refine ev_aload_n (i := 0) d_EE_checkBothRight_0 rfl rfl ?_
  refine es_getR d_EE_checkBothRight_1 f_EE_28 rfl rfl ?_
  refine es_cVI ls_EE_checkBothRight_4 d_EE_checkBothRight_4 rfl (c_ED_firstFault (Or.inl rfl) hc.1.2.1 hc.2.2.1.1) rfl rfl (Nat.le_of_ble_eq_true rfl) (fun x4 σ4 h4 => ?_) (fun _ _ h => h.elim)
  obtain ⟨rfl, e4⟩ := h4
  refine ev_iconst (v := (-1)) d_EE_checkBothRight_7 rfl ?_
  refine ev_icmp_ne d_EE_checkBothRight_8 (fun h8 => ?_) (fun h8 => ?_)
  · rw [en_none (flt_b hc.1.2.1), em_fault_none] at h8
    refine es_throw hl th_EE_checkBothRight_22 rfl ⟨⟨by decide, by decide⟩, by decide, by decide⟩ ?_
    first | exact ⟨rfl, fun g => h8 g.1, fun k g1 g2 => e4 k (by omega)⟩ | exact ⟨rfl, fun g => h19 g.2, fun k g1 g2 => by rw [e15 k (by omega), e4 k (by omega)]⟩
  · rw [en_none (flt_b hc.1.2.1), em_fault_none] at h8
    refine ev_aload_n (i := 0) d_EE_checkBothRight_11 rfl rfl ?_
    refine es_getR d_EE_checkBothRight_12 f_EE_32 rfl rfl ?_
    refine es_cVI ls_EE_checkBothRight_15 d_EE_checkBothRight_15 rfl (c_ED_firstFault (Or.inr rfl) hc.1.2.2 (rc_off hc.2.2.1.2 (fun k g1 g2 => e4 k (by omega)))) rfl rfl (Nat.le_of_ble_eq_true rfl) (fun x15 σ15 h15 => ?_) (fun _ _ h => h.elim)
    obtain ⟨rfl, e15⟩ := h15
    refine ev_iconst (v := (-1)) d_EE_checkBothRight_18 rfl ?_
    refine ev_icmp_eq d_EE_checkBothRight_19 (fun h19 => ?_) (fun h19 => ?_)
    · rw [en_none (flt_b hc.1.2.2), em_fault_none] at h19
      refine es_vret d_EE_checkBothRight_32 rfl ⟨Nat.zero_le _, Nat.zero_le _⟩ ⟨rfl, ?_⟩
      exact ⟨⟨h8, h19⟩, fun k g1 g2 => by rw [e15 k (by omega), e4 k (by omega)]⟩
    · rw [en_none (flt_b hc.1.2.2), em_fault_none] at h19
      refine es_throw hl th_EE_checkBothRight_22 rfl ⟨⟨by decide, by decide⟩, by decide, by decide⟩ ?_
      first | exact ⟨rfl, fun g => h8 g.1, fun k g1 g2 => e4 k (by omega)⟩ | exact ⟨rfl, fun g => h19 g.2, fun k g1 g2 => by rw [e15 k (by omega), e4 k (by omega)]⟩
end
