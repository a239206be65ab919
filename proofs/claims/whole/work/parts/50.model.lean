/-! ===== Model: cells and leaves ===== -/
section
variable {l : Launch} {G : ez_G} {σ : es_S}
noncomputable def bd (p : Prop) : Bool := @decide p (Classical.propDecidable p)
theorem bd_t {p : Prop} : bd p = true ↔ p := ⟨fun h => @of_decide_eq_true _ (Classical.propDecidable p) h, fun h => @decide_eq_true _ (Classical.propDecidable p) h⟩
theorem bd_f {p : Prop} : bd p = false ↔ ¬ p := ⟨fun h => @of_decide_eq_false _ (Classical.propDecidable p) h, fun h => @decide_eq_false _ (Classical.propDecidable p) h⟩
theorem bd_of {p : Prop} {b : Bool} (h : b = true ↔ p) : b = bd p := by
  cases hb : bd p with
  | true => exact h.mpr (bd_t.mp hb)
  | false => cases hbb : b with
    | false => rfl
    | true => exact absurd (h.mp hbb) (bd_f.mp hb)
def ei (a lo hi : Int32) : Bool := !decide (a < lo) && !decide (hi < a)
theorem ei_ew {a : Int32} {n : Nat} (hn : n < 2 ^ 30) : ei a 0 (nI n - 1) = ew a (nI n) := by
  unfold ei ew
  congr 2
  have h1 := pk_sub_toInt (a := n) (b := 1) hn (by decide)
  have h2 := nI_toInt (n := n) (by omega)
  rw [show nI 1 = (1 : Int32) from rfl] at h1
  have h3 : (nI n - 1 < a) ↔ (nI n ≤ a) := by
    rw [Int32.lt_iff_toInt_lt, Int32.le_iff_toInt_le, h1, h2]
    omega
  simp only [h3]
theorem ei_c {a hi : Int32} (n : Nat) (hn : n < 2 ^ 30) (h : hi = nI n - 1) : ei a 0 hi = ew a (nI n) := by rw [h]; exact ei_ew hn
theorem ei1 (a : Int32) : ei a 0 1 = ew a 2 := ei_c 2 (by decide) rfl
theorem ei2 (a : Int32) : ei a 0 2 = ew a 3 := ei_c 3 (by decide) rfl
theorem ei6 (a : Int32) : ei a 0 6 = ew a 7 := ei_c 7 (by decide) rfl
/-- the model's cells of an edition -/
def md (X : em_E) (e : Nat) (σ : es_S) : Prop := σ 48 e = nI (em_n X) ∧ (∀ b, b < em_n X → σ 49 (24 * e + b) = nI (em_k X b) ∧ σ 50 (24 * e + b) = em_m X b ∧ σ 51 (24 * e + b) = en (em_w X b 0) ∧ σ 52 (24 * e + b) = en (em_w X b 1)) ∧ ∀ j, j < 3 → σ 53 (3 * e + j) = en (em_o X j)
theorem md_off {X : em_E} {e : Nat} {σ σ' : es_S} (h : md X e σ) (hs : ∀ k, 48 ≤ k → k ≤ 53 → σ' k = σ k) : md X e σ' := by
  unfold md
  rw [hs 48 (by omega) (by omega), hs 49 (by omega) (by omega), hs 50 (by omega) (by omega), hs 51 (by omega) (by omega), hs 52 (by omega) (by omega), hs 53 (by omega) (by omega)]
  exact h
def rm (S : sp_S) (σ : es_S) : Prop := sWf S ∧ σ 46 1 = nI (sP S) ∧ (∀ r, r < 2 ^ sP S → σ 47 r = eb (bd (sB S r))) ∧ md (s0 S) 0 σ ∧ md (s1 S) 1 σ
theorem rm_off {S : sp_S} {σ σ' : es_S} (h : rm S σ) (h1 : σ' 46 1 = σ 46 1) (hs : ∀ k, 47 ≤ k → k ≤ 53 → σ' k = σ k) : rm S σ' :=
  ⟨h.1, h1.trans h.2.1, by rw [hs 47 (by omega) (by omega)]; exact h.2.2.1, md_off h.2.2.2.1 (fun k g1 g2 => hs k (by omega) g2), md_off h.2.2.2.2 (fun k g1 g2 => hs k (by omega) g2)⟩
theorem rm_thrown {S : sp_S} {σ : es_S} (h : rm S σ) (v : Int32) : rm S (es_up σ 46 0 v) := rm_off h (by simp [es_upx]) (fun k g1 g2 => es_upf _ _ _ _ (by omega))
theorem rm_P {S : sp_S} {σ : es_S} (h : rm S σ) : 2 ^ sP S ≤ 16 := Nat.pow_le_pow_right (n := 2) (j := 4) (by omega) h.1.1.2
theorem rm_md {S : sp_S} {σ : es_S} (h : rm S σ) {j : Nat} (hj : j < 2) : md (sE S (nI j)) j σ := by
  have : j = 0 ∨ j = 1 := by omega
  rcases this with rfl | rfl
  · exact h.2.2.2.1
  · exact h.2.2.2.2
theorem rm_set {S : sp_S} {σ σ' : es_S} {j : Nat} (hj : j < 2) {X : em_E} (h : rm S σ) (hw : sWf (sSet S (nI j) X)) (h1 : σ' 46 1 = σ 46 1) (h47 : σ' 47 = σ 47) (hX : md X j σ') (ho : ∀ Y, em_n Y ≤ 24 → md Y (1 - j) σ → md Y (1 - j) σ') : rm (sSet S (nI j) X) σ' := by
  have : j = 0 ∨ j = 1 := by omega
  rcases this with rfl | rfl
  · exact ⟨hw, h1.trans h.2.1, by rw [h47]; exact h.2.2.1, hX, ho _ h.1.2.2.1 h.2.2.2.2⟩
  · exact ⟨hw, h1.trans h.2.1, by rw [h47]; exact h.2.2.1, ho _ h.1.2.1.1 h.2.2.2.1, hX⟩
def mR (S : sp_S) (good state : Prop) (val : Int32) (new : sp_S) (y : Int32) (σ' : es_S) : Prop := (¬ good ∧ σ' 46 0 = 1 ∧ rm S σ') ∨ (good ∧ ¬ state ∧ σ' 46 0 = 2 ∧ rm S σ') ∨ (good ∧ state ∧ σ' 46 0 = 0 ∧ y = val ∧ rm new σ')
theorem ix24 {e b : Nat} : (24 : Int32) * nI e + nI b = nI (24 * e + b) := by rw [show (24 : Int32) = nI 24 from rfl, nI_mul, nI_add]
theorem ix3 {e b : Nat} : (3 : Int32) * nI e + nI b = nI (3 * e + b) := by rw [show (3 : Int32) = nI 3 from rfl, nI_mul, nI_add]
theorem c_MD_thrown  : ez_Ct l G X_MD_thrown [.ref 46] (es_H σ) (es_Q (es_I fun y σ' => y = σ 46 0 ∧ σ' = σ) es_no) := by
  refine es_Ct_of (ls := [some (.ref 46)]) ok_MD_thrown rfl (Nat.le_of_ble_eq_true rfl) rfl ?_
  refine ev_aload_n (i := 0) d_MD_thrown_0 rfl rfl ?_
  refine es_getI d_MD_thrown_1 f_MD_66 rfl rfl ?_
  refine es_iret d_MD_thrown_4 rfl ⟨Nat.zero_le _, Nat.zero_le _⟩ ⟨_, rfl, ?_⟩
  exact ⟨rfl, rfl⟩
theorem c_MD_in {a lo hi : Int32} : ez_Ct l G X_MD_in [.int a, .int lo, .int hi] (es_H σ) (es_Q (es_I fun y σ' => y = eb (ei a lo hi) ∧ σ' = σ) es_no) := by
  refine es_Ct_of (ls := [some (.int a), some (.int lo), some (.int hi)]) ok_MD_in rfl (Nat.le_of_ble_eq_true rfl) rfl ?_
  refine ev_iload_n (i := 0) d_MD_in_0 rfl rfl ?_
  refine ev_iload_n (i := 1) d_MD_in_1 rfl rfl ?_
  refine ev_icmp_lt d_MD_in_2 (fun h2 => ?_) (fun h2 => ?_)
  · refine ev_iconst (v := 0) d_MD_in_14 rfl ?_
    refine es_zret d_MD_in_15 rfl rfl ⟨Nat.zero_le _, Nat.zero_le _⟩ ⟨_, rfl, ?_⟩
    refine ⟨?_, rfl⟩
    unfold ei
    simp_all [eb]
  · refine ev_iload_n (i := 0) d_MD_in_5 rfl rfl ?_
    refine ev_iload_n (i := 2) d_MD_in_6 rfl rfl ?_
    refine ev_icmp_gt d_MD_in_7 (fun h7 => ?_) (fun h7 => ?_)
    · refine ev_iconst (v := 0) d_MD_in_14 rfl ?_
      refine es_zret d_MD_in_15 rfl rfl ⟨Nat.zero_le _, Nat.zero_le _⟩ ⟨_, rfl, ?_⟩
      refine ⟨?_, rfl⟩
      unfold ei
      simp_all [eb]
    · refine ev_iconst (v := 1) d_MD_in_10 rfl ?_
      refine ev_goto d_MD_in_11 ?_
      refine es_zret d_MD_in_15 rfl rfl ⟨Nat.zero_le _, Nat.zero_le _⟩ ⟨_, rfl, ?_⟩
      refine ⟨?_, rfl⟩
      unfold ei
      simp_all [eb]
theorem c_MD_goes {a s : Bool} : ez_Ct l G X_MD_goes [.ref 46, .int (eb a), .int (eb s)] (es_H σ) (es_Q (es_I fun y σ' => y = eb (a && s) ∧ σ' = es_up σ 46 0 (if a = true then (if s = true then 0 else 2) else 1)) es_no) := by
  refine es_Ct_of (ls := [some (.ref 46), some (.int (eb a)), some (.int (eb s))]) ok_MD_goes rfl (Nat.le_of_ble_eq_true rfl) rfl ?_
  refine ev_aload_n (i := 0) d_MD_goes_0 rfl rfl ?_
  refine ev_iload_n (i := 1) d_MD_goes_1 rfl rfl ?_
  refine ev_if_ne d_MD_goes_2 (fun h2 => ?_) (fun h2 => ?_)
  · rw [eb_0, Bool.not_eq_false] at h2
    subst h2
    refine ev_iload_n (i := 2) d_MD_goes_9 rfl rfl ?_
    refine ev_if_ne d_MD_goes_10 (fun h10 => ?_) (fun h10 => ?_)
    · rw [eb_0, Bool.not_eq_false] at h10
      subst h10
      refine ev_iconst (v := 0) d_MD_goes_17 rfl ?_
      refine es_putI d_MD_goes_18 f_MD_66 y_MD_thrown rfl rfl ⟨rfl, rfl⟩ ?_
      refine ev_aload_n (i := 0) d_MD_goes_21 rfl rfl ?_
      refine es_getI d_MD_goes_22 f_MD_66 rfl rfl ?_
      rw [es_up_eq]
      refine ev_if_ne d_MD_goes_25 (fun h25 => ?_) (fun h25 => ?_)
      · exact absurd rfl h25
      · refine ev_iconst (v := 1) d_MD_goes_28 rfl ?_
        refine ev_goto d_MD_goes_29 ?_
        refine es_zret d_MD_goes_33 rfl rfl ⟨Nat.zero_le _, Nat.zero_le _⟩ ⟨_, rfl, ?_⟩
        exact ⟨rfl, rfl⟩
    · rw [eb_0] at h10
      subst h10
      refine ev_iconst (v := 2) d_MD_goes_13 rfl ?_
      refine ev_goto d_MD_goes_14 ?_
      refine es_putI d_MD_goes_18 f_MD_66 y_MD_thrown rfl rfl ⟨rfl, rfl⟩ ?_
      refine ev_aload_n (i := 0) d_MD_goes_21 rfl rfl ?_
      refine es_getI d_MD_goes_22 f_MD_66 rfl rfl ?_
      rw [es_up_eq]
      refine ev_if_ne d_MD_goes_25 (fun h25 => ?_) (fun h25 => ?_)
      · refine ev_iconst (v := 0) d_MD_goes_32 rfl ?_
        refine es_zret d_MD_goes_33 rfl rfl ⟨Nat.zero_le _, Nat.zero_le _⟩ ⟨_, rfl, ?_⟩
        exact ⟨rfl, rfl⟩
      · exact absurd h25 (by decide)
  · rw [eb_0] at h2
    subst h2
    refine ev_iconst (v := 1) d_MD_goes_5 rfl ?_
    refine ev_goto d_MD_goes_6 ?_
    refine es_putI d_MD_goes_18 f_MD_66 y_MD_thrown rfl rfl ⟨rfl, rfl⟩ ?_
    refine ev_aload_n (i := 0) d_MD_goes_21 rfl rfl ?_
    refine es_getI d_MD_goes_22 f_MD_66 rfl rfl ?_
    rw [es_up_eq]
    refine ev_if_ne d_MD_goes_25 (fun h25 => ?_) (fun h25 => ?_)
    · refine ev_iconst (v := 0) d_MD_goes_32 rfl ?_
      refine es_zret d_MD_goes_33 rfl rfl ⟨Nat.zero_le _, Nat.zero_le _⟩ ⟨_, rfl, ?_⟩
      exact ⟨rfl, rfl⟩
    · exact absurd h25 (by decide)
theorem c_MD_goes11 : ez_Ct l G X_MD_goes [.ref 46, .int 1, .int 1] (es_H σ) (es_Q (es_I fun y σ' => y = 1 ∧ σ' = es_up σ 46 0 0) es_no) := c_MD_goes (a := true) (s := true)
theorem c_MD_goes10 : ez_Ct l G X_MD_goes [.ref 46, .int 1, .int 0] (es_H σ) (es_Q (es_I fun y σ' => y = 0 ∧ σ' = es_up σ 46 0 2) es_no) := c_MD_goes (a := true) (s := false)
theorem c_MD_goes0 {s : Bool} : ez_Ct l G X_MD_goes [.ref 46, .int 0, .int (eb s)] (es_H σ) (es_Q (es_I fun y σ' => y = 0 ∧ σ' = es_up σ 46 0 1) es_no) := c_MD_goes (a := false) (s := s)
theorem c_MD_isBlock {S : sp_S} (hm : rm S σ) {e b : Int32} : ez_Ct l G X_MD_isBlock [.ref 46, .int e, .int b] (es_H σ) (es_Q (es_I fun y σ' => y = eb (bd (ew e 2 = true ∧ isB (sE S e) b)) ∧ σ' = σ) es_no) := by
  refine es_Ct_of (ls := [some (.ref 46), some (.int e), some (.int b)]) ok_MD_isBlock rfl (Nat.le_of_ble_eq_true rfl) rfl ?_
  refine ev_iload_n (i := 1) d_MD_isBlock_0 rfl rfl ?_
  refine ev_iconst (v := 0) d_MD_isBlock_1 rfl ?_
  refine ev_iconst (v := 1) d_MD_isBlock_2 rfl ?_
  refine es_cSI ls_MD_isBlock_3 d_MD_isBlock_3 c_MD_in rfl rfl (Nat.le_of_ble_eq_true rfl) (fun x3 σ3 h3 => ?_) (fun _ _ h => h.elim)
  obtain ⟨rfl, e3⟩ := h3
  rw [e3, ei1]
  refine ev_if_eq d_MD_isBlock_6 (fun h6 => ?_) (fun h6 => ?_)
  · rw [eb_0] at h6
    refine ev_iconst (v := 0) d_MD_isBlock_29 rfl ?_
    refine es_zret d_MD_isBlock_30 rfl rfl ⟨Nat.zero_le _, Nat.zero_le _⟩ ⟨_, rfl, ?_⟩
    refine ⟨?_, rfl⟩
    first
      | (rw [bd_t.mpr ⟨h6, h22⟩]; rfl)
      | (rw [bd_f.mpr (fun g => by have g8 : ew b (nI (em_n (sE S (nI j)))) = true := g.2; rw [h22] at g8; cases g8)]; rfl)
      | (rw [bd_f.mpr (fun g => by have := g.1; rw [h6] at this; cases this)]; rfl)
  · rw [eb_0, Bool.not_eq_false] at h6
    obtain ⟨j, hj, rfl, hj2⟩ := ew_ex (n := 2) h6 (by omega)
    have hmd := rm_md hm hj
    have hn := (sE_wf hm.1 (nI j)).1
    refine ev_iload_n (i := 2) d_MD_isBlock_9 rfl rfl ?_
    refine ev_iconst (v := 0) d_MD_isBlock_10 rfl ?_
    refine ev_aload_n (i := 0) d_MD_isBlock_11 rfl rfl ?_
    refine es_getR d_MD_isBlock_12 f_MD_13 rfl rfl ?_
    refine ev_iload_n (i := 1) d_MD_isBlock_15 rfl rfl ?_
    refine es_iald d_MD_isBlock_16 rfl (ez_vinN hj (by omega)) ?_
    rw [nI_clamp (by omega), hmd.1]
    refine ev_iconst (v := 1) d_MD_isBlock_17 rfl ?_
    refine ev_isub d_MD_isBlock_18 ?_
    refine es_cSI ls_MD_isBlock_19 d_MD_isBlock_19 c_MD_in rfl rfl (Nat.le_of_ble_eq_true rfl) (fun x19 σ19 h19 => ?_) (fun _ _ h => h.elim)
    obtain ⟨rfl, e19⟩ := h19
    rw [e19, ei_ew (by omega)]
    refine ev_if_eq d_MD_isBlock_22 (fun h22 => ?_) (fun h22 => ?_)
    · rw [eb_0] at h22
      refine ev_iconst (v := 0) d_MD_isBlock_29 rfl ?_
      refine es_zret d_MD_isBlock_30 rfl rfl ⟨Nat.zero_le _, Nat.zero_le _⟩ ⟨_, rfl, ?_⟩
      refine ⟨?_, rfl⟩
      first
        | (rw [bd_t.mpr ⟨h6, h22⟩]; rfl)
        | (rw [bd_f.mpr (fun g => by have g8 : ew b (nI (em_n (sE S (nI j)))) = true := g.2; rw [h22] at g8; cases g8)]; rfl)
        | (rw [bd_f.mpr (fun g => by have := g.1; rw [h6] at this; cases this)]; rfl)
    · rw [eb_0, Bool.not_eq_false] at h22
      refine ev_iconst (v := 1) d_MD_isBlock_25 rfl ?_
      refine ev_goto d_MD_isBlock_26 ?_
      refine es_zret d_MD_isBlock_30 rfl rfl ⟨Nat.zero_le _, Nat.zero_le _⟩ ⟨_, rfl, ?_⟩
      refine ⟨?_, rfl⟩
      first
        | (rw [bd_t.mpr ⟨h6, h22⟩]; rfl)
        | (rw [bd_f.mpr (fun g => by have g8 : ew b (nI (em_n (sE S (nI j)))) = true := g.2; rw [h22] at g8; cases g8)]; rfl)
        | (rw [bd_f.mpr (fun g => by have := g.1; rw [h6] at this; cases this)]; rfl)
theorem c_MD_isRow {S : sp_S} (hm : rm S σ) {r : Int32} : ez_Ct l G X_MD_isRow [.ref 46, .int r] (es_H σ) (es_Q (es_I fun y σ' => y = eb (bd (g_row S r)) ∧ σ' = σ) es_no) := by
  have hP := rm_P hm
  have hP4 := hm.1.1.2
  refine es_Ct_of (ls := [some (.ref 46), some (.int r)]) ok_MD_isRow rfl (Nat.le_of_ble_eq_true rfl) rfl ?_
  refine ev_iload_n (i := 1) d_MD_isRow_0 rfl rfl ?_
  refine ev_iconst (v := 0) d_MD_isRow_1 rfl ?_
  refine ev_iconst (v := 1) d_MD_isRow_2 rfl ?_
  refine ev_aload_n (i := 0) d_MD_isRow_3 rfl rfl ?_
  refine es_getI d_MD_isRow_4 f_MD_62 rfl rfl ?_
  rw [hm.2.1]
  refine ev_ishl d_MD_isRow_7 ?_
  rw [shl1 (by omega)]
  refine ev_iconst (v := 1) d_MD_isRow_8 rfl ?_
  refine ev_isub d_MD_isRow_9 ?_
  refine es_cSI ls_MD_isRow_10 d_MD_isRow_10 c_MD_in rfl rfl (Nat.le_of_ble_eq_true rfl) (fun x10 σ10 h10 => ?_) (fun _ _ h => h.elim)
  obtain ⟨rfl, e10⟩ := h10
  rw [e10, ei_ew (by omega)]
  refine es_zret d_MD_isRow_13 rfl (eb_nar _) ⟨Nat.zero_le _, Nat.zero_le _⟩ ⟨_, rfl, ?_⟩
  exact ⟨by rw [bd_of (p := g_row S r) (b := ew r (nI (2 ^ sP S))) Iff.rfl], rfl⟩
theorem c_MD_needs {k : Nat} (hk : k ≤ 6) : ez_Ct l G X_MD_needs [.int (nI k)] (es_H σ) (es_Q (es_I fun y σ' => y = nI (em_nd k) ∧ σ' = σ) es_no) := by
  refine es_Ct_of (ls := [some (.int (nI k))]) ok_MD_needs rfl (Nat.le_of_ble_eq_true rfl) rfl ?_
  refine ev_iload_n (i := 0) d_MD_needs_0 rfl rfl ?_
  refine ev_iconst (v := 2) d_MD_needs_1 rfl ?_
  refine ev_icmp_ge d_MD_needs_2 (fun h2 => ?_) (fun h2 => ?_)
  · rw [show (2 : Int32) = nI 2 from rfl, nI_leI (by omega) (by omega)] at h2
    refine ev_iload_n (i := 0) d_MD_needs_9 rfl rfl ?_
    refine ev_iconst (v := 3) d_MD_needs_10 rfl ?_
    refine ev_icmp_lt d_MD_needs_11 (fun h11 => ?_) (fun h11 => ?_)
    · rw [show (3 : Int32) = nI 3 from rfl, nI_ltI (by omega) (by omega)] at h11
      refine ev_iconst (v := 1) d_MD_needs_23 rfl ?_
      refine es_iret d_MD_needs_24 rfl ⟨Nat.zero_le _, Nat.zero_le _⟩ ⟨_, rfl, ?_⟩
      refine ⟨?_, rfl⟩
      unfold em_nd
      first
        | (rw [if_pos (by omega)]; rfl)
        | (rw [if_neg (by omega), if_pos (by omega)]; rfl)
        | (rw [if_neg (by omega), if_neg (by omega)]; rfl)
    · rw [show (3 : Int32) = nI 3 from rfl, nI_ltI (by omega) (by omega)] at h11
      refine ev_iload_n (i := 0) d_MD_needs_14 rfl rfl ?_
      refine ev_iconst (v := 5) d_MD_needs_15 rfl ?_
      refine ev_icmp_gt d_MD_needs_16 (fun h16 => ?_) (fun h16 => ?_)
      · rw [show (5 : Int32) = nI 5 from rfl, nI_ltI (by omega) (by omega)] at h16
        refine ev_iconst (v := 1) d_MD_needs_23 rfl ?_
        refine es_iret d_MD_needs_24 rfl ⟨Nat.zero_le _, Nat.zero_le _⟩ ⟨_, rfl, ?_⟩
        refine ⟨?_, rfl⟩
        unfold em_nd
        first
          | (rw [if_pos (by omega)]; rfl)
          | (rw [if_neg (by omega), if_pos (by omega)]; rfl)
          | (rw [if_neg (by omega), if_neg (by omega)]; rfl)
      · rw [show (5 : Int32) = nI 5 from rfl, nI_ltI (by omega) (by omega)] at h16
        refine ev_iconst (v := 2) d_MD_needs_19 rfl ?_
        refine ev_goto d_MD_needs_20 ?_
        refine es_iret d_MD_needs_24 rfl ⟨Nat.zero_le _, Nat.zero_le _⟩ ⟨_, rfl, ?_⟩
        refine ⟨?_, rfl⟩
        unfold em_nd
        first
          | (rw [if_pos (by omega)]; rfl)
          | (rw [if_neg (by omega), if_pos (by omega)]; rfl)
          | (rw [if_neg (by omega), if_neg (by omega)]; rfl)
  · rw [show (2 : Int32) = nI 2 from rfl, nI_leI (by omega) (by omega)] at h2
    refine ev_iconst (v := 0) d_MD_needs_5 rfl ?_
    refine ev_goto d_MD_needs_6 ?_
    refine es_iret d_MD_needs_24 rfl ⟨Nat.zero_le _, Nat.zero_le _⟩ ⟨_, rfl, ?_⟩
    refine ⟨?_, rfl⟩
    unfold em_nd
    first
      | (rw [if_pos (by omega)]; rfl)
      | (rw [if_neg (by omega), if_pos (by omega)]; rfl)
      | (rw [if_neg (by omega), if_neg (by omega)]; rfl)
theorem c_MD_input {X : em_E} {P : Nat} (hw : em_wf P X) {e : Nat} (he : e < 2) (hm : md X e σ) {b i : Nat} (hb : b < em_n X) (hi : i < 2) : ez_Ct l G X_MD_input [.ref 46, .int (nI e), .int (nI b), .int (nI i)] (es_H σ) (es_Q (es_I fun y σ' => y = en (em_w X b i) ∧ σ' = σ) es_no) := by
  have hn := hw.1
  have hc := hm.2.1 b hb
  refine es_Ct_of (ls := [some (.ref 46), some (.int (nI e)), some (.int (nI b)), some (.int (nI i))]) ok_MD_input rfl (Nat.le_of_ble_eq_true rfl) rfl ?_
  refine ev_iload_n (i := 3) d_MD_input_0 rfl rfl ?_
  refine ev_if_ne d_MD_input_1 (fun h1 => ?_) (fun h1 => ?_)
  · rw [show (0 : Int32) = nI 0 from rfl, nI_eq (by omega) (by omega)] at h1
    have hi1 : i = 1 := by omega
    subst hi1
    refine ev_aload_n (i := 0) d_MD_input_18 rfl rfl ?_
    refine es_getR d_MD_input_19 f_MD_26 rfl rfl ?_
    refine ev_bipush (v := 24) d_MD_input_22 rfl ?_
    refine ev_iload_n (i := 1) d_MD_input_24 rfl rfl ?_
    refine ev_imul d_MD_input_25 ?_
    refine ev_iload_n (i := 2) d_MD_input_26 rfl rfl ?_
    refine ev_iadd d_MD_input_27 ?_
    rw [ix24]
    refine es_iald d_MD_input_28 rfl (ez_vinN (by omega) (by omega)) ?_
    refine es_iret d_MD_input_29 rfl ⟨Nat.zero_le _, Nat.zero_le _⟩ ⟨_, rfl, ?_⟩
    rw [nI_clamp (by omega)]
    first | exact ⟨hc.2.2.1, rfl⟩ | exact ⟨hc.2.2.2, rfl⟩
  · rw [show (0 : Int32) = nI 0 from rfl, nI_eq (by omega) (by omega)] at h1
    subst h1
    refine ev_aload_n (i := 0) d_MD_input_4 rfl rfl ?_
    refine es_getR d_MD_input_5 f_MD_23 rfl rfl ?_
    refine ev_bipush (v := 24) d_MD_input_8 rfl ?_
    refine ev_iload_n (i := 1) d_MD_input_10 rfl rfl ?_
    refine ev_imul d_MD_input_11 ?_
    refine ev_iload_n (i := 2) d_MD_input_12 rfl rfl ?_
    refine ev_iadd d_MD_input_13 ?_
    rw [ix24]
    refine es_iald d_MD_input_14 rfl (ez_vinN (by omega) (by omega)) ?_
    refine ev_goto d_MD_input_15 ?_
    refine es_iret d_MD_input_29 rfl ⟨Nat.zero_le _, Nat.zero_le _⟩ ⟨_, rfl, ?_⟩
    rw [nI_clamp (by omega)]
    first | exact ⟨hc.2.2.1, rfl⟩ | exact ⟨hc.2.2.2, rfl⟩
theorem lp_MD_delays_4 {X : em_E} {P : Nat} (hw : em_wf P X) {e : Nat} (he : e < 2) (hm : md X e σ) : ∀ (d : Nat) (b : Nat), em_n X - b = d → (b ≤ em_n X) → ez_Ev l G X_MD_delays 0 0 4 [some (.ref 46), some (.int (nI e)), some (.int (nI (em_dl X b))), some (.int (nI b))] [] (es_H σ) (es_Q (es_I fun y σ' => y = nI (em_dl X (em_n X)) ∧ σ' = σ) es_no) := by
  intro d
  induction d using Nat.strongRecOn with
  | _ d ih =>
    intro b hmm hb
    have hn := hw.1
    have hc := hm.2.1 b
    have hdl : em_dl X (b + 1) = em_dl X b + if em_k X b = 6 then 1 else 0 := rfl
    refine ev_iload_n (i := 3) d_MD_delays_4 rfl rfl ?_
    refine ev_aload_n (i := 0) d_MD_delays_5 rfl rfl ?_
    refine es_getR d_MD_delays_6 f_MD_13 rfl rfl ?_
    refine ev_iload_n (i := 1) d_MD_delays_9 rfl rfl ?_
    refine es_iald d_MD_delays_10 rfl (ez_vinN he (by omega)) ?_
    rw [nI_clamp (by omega), hm.1]
    refine ev_icmp_ge d_MD_delays_11 (fun h11 => ?_) (fun h11 => ?_)
    · rw [nI_leI (by omega) (by omega)] at h11
      refine ev_iload_n (i := 2) d_MD_delays_44 rfl rfl ?_
      refine es_iret d_MD_delays_45 rfl ⟨Nat.zero_le _, Nat.zero_le _⟩ ⟨_, rfl, ?_⟩
      exact ⟨by rw [show b = em_n X by omega], rfl⟩
    · rw [nI_leI (by omega) (by omega), Nat.not_le] at h11
      have hk6 := hw.2.1 b h11
      refine ev_aload_n (i := 0) d_MD_delays_14 rfl rfl ?_
      refine es_getR d_MD_delays_15 f_MD_17 rfl rfl ?_
      refine ev_bipush (v := 24) d_MD_delays_18 rfl ?_
      refine ev_iload_n (i := 1) d_MD_delays_20 rfl rfl ?_
      refine ev_imul d_MD_delays_21 ?_
      refine ev_iload_n (i := 3) d_MD_delays_22 rfl rfl ?_
      refine ev_iadd d_MD_delays_23 ?_
      rw [ix24]
      refine es_iald d_MD_delays_24 rfl (ez_vinN (by omega) (by omega)) ?_
      rw [nI_clamp (by omega), (hc h11).1]
      refine ev_bipush (v := 6) d_MD_delays_25 rfl ?_
      refine ev_icmp_ne d_MD_delays_27 (fun h27 => ?_) (fun h27 => ?_)
      · rw [show (6 : Int32) = nI 6 from rfl, nI_eq (by omega) (by omega)] at h27
        refine ev_iload_n (i := 2) d_MD_delays_36 rfl rfl ?_
        refine ev_istore_n (i := 2) d_MD_delays_37 rfl (by decide) ?_
        dsimp only [List.set_cons_zero, List.set_cons_succ]
        refine ev_iinc d_MD_delays_38 rfl (ez_inc _) (by decide) ?_
        dsimp only [List.set_cons_zero, List.set_cons_succ]
        refine ev_goto d_MD_delays_41 ?_
        first
          | (rw [if_pos h27] at hdl; rw [← hdl]; exact ih _ (by omega) (b + 1) rfl (by omega))
          | (have hdl2 : em_dl X (b + 1) = em_dl X b := by rw [hdl, if_neg h27]; rfl
             rw [← hdl2]; exact ih _ (by omega) (b + 1) rfl (by omega))
      · rw [show (6 : Int32) = nI 6 from rfl, nI_eq (by omega) (by omega)] at h27
        refine ev_iload_n (i := 2) d_MD_delays_30 rfl rfl ?_
        refine ev_iconst (v := 1) d_MD_delays_31 rfl ?_
        refine ev_iadd d_MD_delays_32 ?_
        rw [nI_1]
        refine ev_goto d_MD_delays_33 ?_
        refine ev_istore_n (i := 2) d_MD_delays_37 rfl (by decide) ?_
        dsimp only [List.set_cons_zero, List.set_cons_succ]
        refine ev_iinc d_MD_delays_38 rfl (ez_inc _) (by decide) ?_
        dsimp only [List.set_cons_zero, List.set_cons_succ]
        refine ev_goto d_MD_delays_41 ?_
        first
          | (rw [if_pos h27] at hdl; rw [← hdl]; exact ih _ (by omega) (b + 1) rfl (by omega))
          | (have hdl2 : em_dl X (b + 1) = em_dl X b := by rw [hdl, if_neg h27]; rfl
             rw [← hdl2]; exact ih _ (by omega) (b + 1) rfl (by omega))
theorem c_MD_delays {X : em_E} {P : Nat} (hw : em_wf P X) {e : Nat} (he : e < 2) (hm : md X e σ) : ez_Ct l G X_MD_delays [.ref 46, .int (nI e)] (es_H σ) (es_Q (es_I fun y σ' => y = nI (em_dl X (em_n X)) ∧ σ' = σ) es_no) := by
  refine es_Ct_of (ls := [some (.ref 46), some (.int (nI e)), none, none]) ok_MD_delays rfl (Nat.le_of_ble_eq_true rfl) rfl ?_
  refine ev_iconst (v := 0) d_MD_delays_0 rfl ?_
  refine ev_istore_n (i := 2) d_MD_delays_1 rfl (by decide) ?_
  dsimp only [List.set_cons_zero, List.set_cons_succ]
  refine ev_iconst (v := 0) d_MD_delays_2 rfl ?_
  refine ev_istore_n (i := 3) d_MD_delays_3 rfl (by decide) ?_
  dsimp only [List.set_cons_zero, List.set_cons_succ]
  exact lp_MD_delays_4 hw he hm _ 0 rfl (Nat.zero_le _)
end
