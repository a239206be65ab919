/-! ===== Model: same, matched, idle ===== -/
section
variable {l : Launch} {G : ez_G} {σ : es_S}
theorem rm_63 {S : sp_S} {σ σ' : es_S} (h : rm S σ) (hs : ∀ k, k ≠ 63 → σ' k = σ k) : rm S σ' := rm_off h (by rw [hs 46 (by decide)]) (fun k g1 g2 => hs k (by omega))
theorem c_MD_same {S : sp_S} (hm : rm S σ)  : ez_Ct l G X_MD_same [.ref 46] (es_H σ) (es_Q (es_I fun y σ' => mR S (sBoth S) (True) (v_same S) (S) y σ' ∧ ∀ k, (k < 46 ∨ 63 < k) → σ' k = σ k) es_no) := by
  refine es_Ct_of (ls := [some (.ref 46)]) ok_MD_same rfl (Nat.le_of_ble_eq_true rfl) rfl ?_
  refine ev_aload_n (i := 0) d_MD_same_0 rfl rfl ?_
  refine ev_aload_n (i := 0) d_MD_same_1 rfl rfl ?_
  refine es_cVI ls_MD_same_2 d_MD_same_2 rfl (c_MD_areRight hm) rfl rfl (Nat.le_of_ble_eq_true rfl) (fun x2 σ2 h2 => ?_) (fun _ _ h => h.elim)
  obtain ⟨rfl, e2⟩ := h2
  have hm2 := rm_54 hm e2
  refine ev_iconst (v := 1) d_MD_same_5 rfl ?_
  refine es_cVI ls_MD_same_6 d_MD_same_6 rfl (c_MD_goes (s := true)) rfl rfl (Nat.le_of_ble_eq_true rfl) (fun x6 σ6 h6 => ?_) (fun _ _ h => h.elim)
  obtain ⟨rfl, rfl⟩ := h6
  rw [Bool.and_true]
  refine ev_if_eq d_MD_same_9 (fun h9 => ?_) (fun h9 => ?_)
  · rw [eb_0] at h9
    refine ev_iconst (v := 0) d_MD_same_23 rfl ?_
    refine es_zret d_MD_same_24 rfl rfl ⟨Nat.zero_le _, Nat.zero_le _⟩ ⟨_, rfl, ?_⟩
    first
      | (refine ⟨Or.inr (Or.inr ⟨hbo, trivial, ht4, ?_, hm4⟩), ho4⟩
         unfold v_same
         show _ = eb (bd (em_same (s0 S) (s1 S)))
         rw [← bd_of hg, h16]
         rfl)
      | (rw [h9]
         exact ⟨Or.inl ⟨fun g => bd_f.mp h9 g, by simp [es_upx], rm_thrown hm2 _⟩, fun k hk => by rw [es_upf _ _ _ _ (by omega)]; exact e2 k (by omega)⟩)
  · rw [eb_0, Bool.not_eq_false] at h9
    have hbo := bd_t.mp h9
    rw [h9, if_pos rfl, if_pos rfl]
    have hm3 := rm_thrown hm2 0
    refine ev_aload_n (i := 0) d_MD_same_12 rfl rfl ?_
    refine es_cVI ls_MD_same_13 d_MD_same_13 rfl (c_MD_areSame hm3 hbo) rfl rfl (Nat.le_of_ble_eq_true rfl) (fun x13 σ13 h13 => ?_) (fun _ _ h => h.elim)
    obtain ⟨⟨g, rfl, hg, hgt⟩, ho⟩ := h13
    have hm4 := rm_63 hm3 ho
    have ho4 : ∀ k, (k < 46 ∨ 63 < k) → σ13 k = σ k := fun k hk => by rw [ho k (by omega), es_upf _ _ _ _ (by omega)]; exact e2 k (by omega)
    have ht4 : σ13 46 0 = 0 := by rw [ho 46 (by decide)]; simp [es_upx]
    refine ev_if_eq d_MD_same_16 (fun h16 => ?_) (fun h16 => ?_)
    · rw [eb_0] at h16
      refine ev_iconst (v := 0) d_MD_same_23 rfl ?_
      refine es_zret d_MD_same_24 rfl rfl ⟨Nat.zero_le _, Nat.zero_le _⟩ ⟨_, rfl, ?_⟩
      first
        | (refine ⟨Or.inr (Or.inr ⟨hbo, trivial, ht4, ?_, hm4⟩), ho4⟩
           unfold v_same
           show _ = eb (bd (em_same (s0 S) (s1 S)))
           rw [← bd_of hg, h16]
           rfl)
        | (rw [h9]
           exact ⟨Or.inl ⟨fun g => bd_f.mp h9 g, by simp [es_upx], rm_thrown hm2 _⟩, fun k hk => by rw [es_upf _ _ _ _ (by omega)]; exact e2 k (by omega)⟩)
    · rw [eb_0, Bool.not_eq_false] at h16
      refine ev_iconst (v := 1) d_MD_same_19 rfl ?_
      refine ev_goto d_MD_same_20 ?_
      refine es_zret d_MD_same_24 rfl rfl ⟨Nat.zero_le _, Nat.zero_le _⟩ ⟨_, rfl, ?_⟩
      first
        | (refine ⟨Or.inr (Or.inr ⟨hbo, trivial, ht4, ?_, hm4⟩), ho4⟩
           unfold v_same
           show _ = eb (bd (em_same (s0 S) (s1 S)))
           rw [← bd_of hg, h16]
           rfl)
        | (rw [h9]
           exact ⟨Or.inl ⟨fun g => bd_f.mp h9 g, by simp [es_upx], rm_thrown hm2 _⟩, fun k hk => by rw [es_upf _ _ _ _ (by omega)]; exact e2 k (by omega)⟩)
theorem lp_MD_matched_32 {S : sp_S} (hsm : em_same (s0 S) (s1 S)) {jx : Nat} (hjx : jx < 24) (hc : ∀ a b, a < 24 → b < 24 → σ 63 (24 * a + b) = eb (bd (em_M (s0 S) (s1 S) a b))) {Qy : Int32 → es_S → Prop} (hQ : Qy (en (em_fst (fun c => em_same (s0 S) (s1 S) ∧ em_M (s0 S) (s1 S) jx c) 24)) σ) : ∀ (d : Nat) (b : Nat), 24 - b = d → (b ≤ 24) → ez_Ev l G X_MD_matched 0 0 32 [some (.ref 46), some (.int (nI jx)), some (.int (en (em_fst (fun c => em_same (s0 S) (s1 S) ∧ em_M (s0 S) (s1 S) jx c) b))), some (.int (nI b))] [] (es_H σ) (es_Q (es_I Qy) es_no) := by
  intro d
  induction d using Nat.strongRecOn with
  | _ d ih =>
    intro b hmm hb
    refine ev_iload_n (i := 3) d_MD_matched_32 rfl rfl ?_
    refine ev_bipush (v := 24) d_MD_matched_33 rfl ?_
    refine ev_icmp_ge d_MD_matched_35 (fun h35 => ?_) (fun h35 => ?_)
    · rw [show (24 : Int32) = nI 24 from rfl, nI_leI (by omega) (by omega)] at h35
      refine ev_iload_n (i := 2) d_MD_matched_64 rfl rfl ?_
      refine es_iret d_MD_matched_65 rfl ⟨Nat.zero_le _, Nat.zero_le _⟩ ⟨_, rfl, ?_⟩
      rw [show b = 24 by omega]
      exact hQ
    · rw [show (24 : Int32) = nI 24 from rfl, nI_leI (by omega) (by omega), Nat.not_le] at h35
      refine ev_aload_n (i := 0) d_MD_matched_38 rfl rfl ?_
      refine es_getR d_MD_matched_39 f_MD_59 rfl rfl ?_
      refine ev_bipush (v := 24) d_MD_matched_42 rfl ?_
      refine ev_iload_n (i := 1) d_MD_matched_44 rfl rfl ?_
      refine ev_imul d_MD_matched_45 ?_
      refine ev_iload_n (i := 3) d_MD_matched_46 rfl rfl ?_
      refine ev_iadd d_MD_matched_47 ?_
      rw [ix24]
      refine es_zald d_MD_matched_48 rfl (ez_vinN (by omega) (by omega)) ?_
      rw [nI_clamp (by omega), hc jx b hjx h35]
      refine ev_if_eq d_MD_matched_49 (fun h49 => ?_) (fun h49 => ?_)
      · rw [eb_0, bd_f] at h49
        refine ev_iload_n (i := 2) d_MD_matched_56 rfl rfl ?_
        refine ev_istore_n (i := 2) d_MD_matched_57 rfl (by decide) ?_
        dsimp only [List.set_cons_zero, List.set_cons_succ]
        refine ev_iinc d_MD_matched_58 rfl (ez_inc _) (by decide) ?_
        dsimp only [List.set_cons_zero, List.set_cons_succ]
        refine ev_goto d_MD_matched_61 ?_
        first
          | (have h9 : em_fst (fun c => em_same (s0 S) (s1 S) ∧ em_M (s0 S) (s1 S) jx c) (b + 1) = some b := em_fst_some (p := (fun c => em_same (s0 S) (s1 S) ∧ em_M (s0 S) (s1 S) jx c)) ⟨hsm, h49⟩ (fun u hu q => by have := hsm.2.2.1 jx u b q.2 h49; omega) (by omega)
             have h8 := ih _ (by omega) (b + 1) rfl (by omega)
             rw [h9] at h8
             exact h8)
          | (have h9 : em_fst (fun c => em_same (s0 S) (s1 S) ∧ em_M (s0 S) (s1 S) jx c) (b + 1) = em_fst (fun c => em_same (s0 S) (s1 S) ∧ em_M (s0 S) (s1 S) jx c) b := by
               cases hq : em_fst (fun c => em_same (s0 S) (s1 S) ∧ em_M (s0 S) (s1 S) jx c) b with
               | none => exact em_fst_none (fun u hu => by
                   by_cases e : u = b
                   · rw [e]; exact fun q => h49 q.2
                   · exact em_fst_eq_none hq u (by omega))
               | some t =>
                 have hl := em_fst_lt hq
                 exact em_fst_some (p := (fun c => em_same (s0 S) (s1 S) ∧ em_M (s0 S) (s1 S) jx c)) hl.2 (fun u hu q => by have := hsm.2.2.1 jx u t q.2 hl.2.2; omega) (by omega)
             have h8 := ih _ (by omega) (b + 1) rfl (by omega)
             rw [h9] at h8
             exact h8)
      · rw [eb_0, Bool.not_eq_false, bd_t] at h49
        refine ev_iload_n (i := 3) d_MD_matched_52 rfl rfl ?_
        refine ev_goto d_MD_matched_53 ?_
        refine ev_istore_n (i := 2) d_MD_matched_57 rfl (by decide) ?_
        dsimp only [List.set_cons_zero, List.set_cons_succ]
        refine ev_iinc d_MD_matched_58 rfl (ez_inc _) (by decide) ?_
        dsimp only [List.set_cons_zero, List.set_cons_succ]
        refine ev_goto d_MD_matched_61 ?_
        first
          | (have h9 : em_fst (fun c => em_same (s0 S) (s1 S) ∧ em_M (s0 S) (s1 S) jx c) (b + 1) = some b := em_fst_some (p := (fun c => em_same (s0 S) (s1 S) ∧ em_M (s0 S) (s1 S) jx c)) ⟨hsm, h49⟩ (fun u hu q => by have := hsm.2.2.1 jx u b q.2 h49; omega) (by omega)
             have h8 := ih _ (by omega) (b + 1) rfl (by omega)
             rw [h9] at h8
             exact h8)
          | (have h9 : em_fst (fun c => em_same (s0 S) (s1 S) ∧ em_M (s0 S) (s1 S) jx c) (b + 1) = em_fst (fun c => em_same (s0 S) (s1 S) ∧ em_M (s0 S) (s1 S) jx c) b := by
               cases hq : em_fst (fun c => em_same (s0 S) (s1 S) ∧ em_M (s0 S) (s1 S) jx c) b with
               | none => exact em_fst_none (fun u hu => by
                   by_cases e : u = b
                   · rw [e]; exact fun q => h49 q.2
                   · exact em_fst_eq_none hq u (by omega))
               | some t =>
                 have hl := em_fst_lt hq
                 exact em_fst_some (p := (fun c => em_same (s0 S) (s1 S) ∧ em_M (s0 S) (s1 S) jx c)) hl.2 (fun u hu q => by have := hsm.2.2.1 jx u t q.2 hl.2.2; omega) (by omega)
             have h8 := ih _ (by omega) (b + 1) rfl (by omega)
             rw [h9] at h8
             exact h8)
theorem c_MD_matched {S : sp_S} (hm : rm S σ) {x : Int32} : ez_Ct l G X_MD_matched [.ref 46, .int x] (es_H σ) (es_Q (es_I fun y σ' => mR S (isB (s0 S) x) (sBoth S) (v_matched S x) (S) y σ' ∧ ∀ k, (k < 46 ∨ 63 < k) → σ' k = σ k) es_no) := by
  refine es_Ct_of (ls := [some (.ref 46), some (.int x), none, none]) ok_MD_matched rfl (Nat.le_of_ble_eq_true rfl) rfl ?_
  refine ev_aload_n (i := 0) d_MD_matched_0 rfl rfl ?_
  refine ev_aload_n (i := 0) d_MD_matched_1 rfl rfl ?_
  refine ev_iconst (v := 0) d_MD_matched_2 rfl ?_
  refine ev_iload_n (i := 1) d_MD_matched_3 rfl rfl ?_
  refine es_cVI ls_MD_matched_4 d_MD_matched_4 rfl (c_MD_isBlock hm (e := 0)) rfl rfl (Nat.le_of_ble_eq_true rfl) (fun x4 σ4 h4 => ?_) (fun _ _ h => h.elim)
  obtain ⟨rfl, e4⟩ := h4
  rw [e4, sE_0]
  refine ev_aload_n (i := 0) d_MD_matched_7 rfl rfl ?_
  refine es_cVI ls_MD_matched_8 d_MD_matched_8 rfl (c_MD_areRight hm) rfl rfl (Nat.le_of_ble_eq_true rfl) (fun x8 σ8 h8 => ?_) (fun _ _ h => h.elim)
  obtain ⟨rfl, e8⟩ := h8
  have hm2 := rm_54 hm e8
  refine es_cVI ls_MD_matched_11 d_MD_matched_11 rfl (c_MD_goes (a := bd (ew 0 2 = true ∧ isB (s0 S) x))) rfl rfl (Nat.le_of_ble_eq_true rfl) (fun x11 σ11 h11 => ?_) (fun _ _ h => h.elim)
  obtain ⟨rfl, rfl⟩ := h11
  refine ev_if_ne d_MD_matched_14 (fun h14 => ?_) (fun h14 => ?_)
  · rw [eb_0, Bool.not_eq_false, Bool.and_eq_true, bd_t, bd_t] at h14
    have hbo := h14.2
    have hgx := h14.1.2
    rw [if_pos (bd_t.mpr h14.1), if_pos (bd_t.mpr h14.2)]
    have hm3 := rm_thrown hm2 0
    have hn1 := hm.1.2.1.1
    obtain ⟨jx, hjx, rfl, hjx2⟩ := ew_ex hgx (by omega)
    refine ev_aload_n (i := 0) d_MD_matched_19 rfl rfl ?_
    refine es_cVI ls_MD_matched_20 d_MD_matched_20 rfl (c_MD_areSame hm3 hbo) rfl rfl (Nat.le_of_ble_eq_true rfl) (fun x20 σ20 h20 => ?_) (fun _ _ h => h.elim)
    obtain ⟨⟨g, rfl, hg, hgt⟩, ho⟩ := h20
    have hm4 := rm_63 hm3 ho
    have ho4 : ∀ k, (k < 46 ∨ 63 < k) → σ20 k = σ k := fun k hk => by rw [ho k (by omega), es_upf _ _ _ _ (by omega)]; exact e8 k (by omega)
    have ht4 : σ20 46 0 = 0 := by rw [ho 46 (by decide)]; simp [es_upx]
    refine ev_if_ne d_MD_matched_23 (fun h23 => ?_) (fun h23 => ?_)
    · rw [eb_0, Bool.not_eq_false] at h23
      refine ev_iconst (v := (-1)) d_MD_matched_28 rfl ?_
      refine ev_istore_n (i := 2) d_MD_matched_29 rfl (by decide) ?_
      dsimp only [List.set_cons_zero, List.set_cons_succ]
      refine ev_iconst (v := 0) d_MD_matched_30 rfl ?_
      refine ev_istore_n (i := 3) d_MD_matched_31 rfl (by decide) ?_
      dsimp only [List.set_cons_zero, List.set_cons_succ]
      refine lp_MD_matched_32 (hg.mp h23) (show jx < 24 by omega) (hgt h23) ?_ _ 0 rfl (by omega)
      refine ⟨Or.inr (Or.inr ⟨hgx, hbo, ht4, ?_, hm4⟩), ho4⟩
      unfold v_matched
      rw [hjx2]
    · rw [eb_0] at h23
      refine ev_iconst (v := (-1)) d_MD_matched_26 rfl ?_
      refine es_iret d_MD_matched_27 rfl ⟨Nat.zero_le _, Nat.zero_le _⟩ ⟨_, rfl, ?_⟩
      refine ⟨Or.inr (Or.inr ⟨hgx, hbo, ht4, ?_, hm4⟩), ho4⟩
      unfold v_matched
      rw [em_fst_none (fun u _ q => by have := hg.mpr q.1; rw [h23] at this; cases this)]
      rfl
  · rw [eb_0] at h14
    refine ev_iconst (v := 0) d_MD_matched_17 rfl ?_
    refine es_iret d_MD_matched_18 rfl ⟨Nat.zero_le _, Nat.zero_le _⟩ ⟨_, rfl, ?_⟩
    by_cases hee : isB (s0 S) x
    · have hb2 : bd (sBoth S) = false := (Bool.and_eq_false_iff.mp h14).resolve_left (by rw [bd_t.mpr ⟨rfl, hee⟩]; decide)
      rw [if_pos (bd_t.mpr ⟨rfl, hee⟩), hb2, if_neg (by decide)]
      exact ⟨Or.inr (Or.inl ⟨hee, bd_f.mp hb2, by simp [es_upx], rm_thrown hm2 _⟩), fun k hk => by rw [es_upf _ _ _ _ (by omega)]; exact e8 k (by omega)⟩
    · rw [if_neg (fun q => hee (bd_t.mp q).2)]
      exact ⟨Or.inl ⟨fun g => hee g, by simp [es_upx], rm_thrown hm2 _⟩, fun k hk => by rw [es_upf _ _ _ _ (by omega)]; exact e8 k (by omega)⟩
/-- a pass over the blocks that something hangs on, at b and input i -/
def lP (X : em_E) (c0 : Nat → Bool) (g : Bool) (c : Nat → Bool) (b i : Nat) : Prop :=
  (∀ t, c0 t = true → c t = true) ∧ (∀ t, c t = true → em_lv X t) ∧ (∀ j t, j < 3 → em_o X j = some t → c t = true) ∧ (g = true → em_ct (fun t => c0 t = true) 24 < em_ct (fun t => c t = true) 24) ∧
  (g = false → (∀ t, c t = true → c0 t = true) ∧ (∀ u t, u < b → c u = true → em_at X u t → c t = true) ∧ (∀ z t, z < i → c b = true → em_w X b z = some t → c t = true))
theorem lP_put {X : em_E} {P : Nat} (hw : em_wf P X) {c0 : Nat → Bool} {g : Bool} {c : Nat → Bool} {b i t : Nat} (h : lP X c0 g c b i) (hcb : c b = true) (hi : i < em_nd (em_k X b)) (ht : em_w X b i = some t) (hn : c t = false) : lP X c0 true (xn c t true) b (i + 1) := by
  obtain ⟨h1, h2, h3, h4, h5⟩ := h
  have hl := hw.2.2.1 b i t ht
  have h24 := hw.1
  have hup : ∀ q, c q = true → xn c t true q = true := fun q hq => by
    by_cases e : q = t
    · rw [e, xn_eq, Bool.or_true]
    · rw [xn_ne c _ e]; exact hq
  refine ⟨fun q hq => hup q (h1 q hq), fun q hq => ?_, fun j q hj hq => hup q (h3 j q hj hq), fun _ => ?_, (fun q => by cases q)⟩
  · by_cases e : q = t
    · rw [e]; exact em_lv_in (h2 b hcb) ⟨hl.1, i, hi, ht⟩
    · rw [xn_ne c _ e] at hq; exact h2 q hq
  · have hlt := em_ct_lt (p := fun q => c q = true) (q := fun q => xn c t true q = true) 24 (fun q _ hq => hup q hq) t (by omega) (by rw [xn_eq, Bool.or_true]) (by rw [hn]; decide)
    have hle0 := em_ct_le (p := fun q => c0 q = true) (q := fun q => c q = true) 24 (fun q _ hq => h1 q hq)
    exact Nat.lt_of_le_of_lt hle0 hlt
theorem lP_skip {X : em_E} {c0 : Nat → Bool} {g : Bool} {c : Nat → Bool} {b i : Nat} (h : lP X c0 g c b i) (hs : ∀ t, em_w X b i = some t → c t = true) : lP X c0 g c b (i + 1) := by
  refine ⟨h.1, h.2.1, h.2.2.1, h.2.2.2.1, fun hg => ⟨(h.2.2.2.2 hg).1, (h.2.2.2.2 hg).2.1, fun z t hz hc ht => ?_⟩⟩
  by_cases e : z = i
  · rw [e] at ht; exact hs t ht
  · exact (h.2.2.2.2 hg).2.2 z t (by omega) hc ht
theorem lP_next {X : em_E} {c0 : Nat → Bool} {g : Bool} {c : Nat → Bool} {b i : Nat} (h : lP X c0 g c b i) (hr : c b = false ∨ em_nd (em_k X b) ≤ i) : lP X c0 g c (b + 1) 0 := by
  refine ⟨h.1, h.2.1, h.2.2.1, h.2.2.2.1, fun hg => ⟨(h.2.2.2.2 hg).1, fun u t hu hc ht => ?_, fun z t hz => absurd hz (Nat.not_lt_zero _)⟩⟩
  by_cases e : u = b
  · rw [e] at hc ht
    rcases hr with hr | hr
    · rw [hr] at hc; cases hc
    · obtain ⟨-, z, z1, z2⟩ := ht
      exact (h.2.2.2.2 hg).2.2 z t (by omega) hc z2
  · exact (h.2.2.2.2 hg).2.1 u t (by omega) hc ht
theorem lp_MD_idle_205 {X : em_E} {P : Nat} (hw : em_wf P X) {e : Nat} (he : e < 2) (hm : md X e σ) {k : Nat} (hk : k < 2 ^ 31) {Qy : Int32 → es_S → Prop} (hQ : ∀ σ', (∀ q, q ≠ 54 → σ' q = σ q) → Qy (en (em_nth (fun t => ¬ em_lv X t) (em_n X) k)) σ') {c : Nat → Bool} {σ1 : es_S} (hcm : cm c σ1) (hoff : (∀ q, q ≠ 54 → σ1 q = σ q)) (hlv : (∀ t, t < em_n X → (c t = true ↔ em_lv X t))) {w3 w6 : Option Value} : ∀ (d : Nat) (t : Nat), 24 - t = d → (t ≤ em_n X ∧ em_ct (fun t => ¬ em_lv X t) t ≤ k ∧ ∀ u, u < t → ¬ (¬ em_lv X u ∧ em_ct (fun t => ¬ em_lv X t) u = k)) → ez_Ev l G X_MD_idle 0 0 205 [some (.ref 46), some (.int (nI e)), some (.int (nI k)), w3, some (.int (nI (k - em_ct (fun t => ¬ em_lv X t) t))), some (.int (nI t)), w6] [] (es_H σ1) (es_Q (es_I Qy) es_no) := by
  intro d
  induction d using Nat.strongRecOn with
  | _ d ih =>
    intro t hmm hinv
    obtain ⟨hs, hle, hno⟩ := hinv
    have hn := hw.1
    have hm1 : md X e σ1 := md_off hm (fun k g1 g2 => hoff k (by omega))
    have hce : (nI e).toNatClampNeg = e := nI_clamp (by omega)
    have hct := em_ct_n (fun t => ¬ em_lv X t) t
    have hsu := em_ct_succ (fun t => ¬ em_lv X t) t
    refine ev_iload d_MD_idle_205 rfl ?_
    refine ev_aload_n (i := 0) d_MD_idle_207 rfl rfl ?_
    refine es_getR d_MD_idle_208 f_MD_13 rfl rfl ?_
    refine ev_iload_n (i := 1) d_MD_idle_211 rfl rfl ?_
    refine es_iald d_MD_idle_212 rfl (ez_vinN he (by omega)) ?_
    rw [hce, hm1.1]
    refine ev_icmp_ge d_MD_idle_213 (fun h213 => ?_) (fun h213 => ?_)
    · rw [nI_leI (by omega) (by omega)] at h213
      refine ev_iconst (v := (-1)) d_MD_idle_243 rfl ?_
      refine es_iret d_MD_idle_244 rfl ⟨Nat.zero_le _, Nat.zero_le _⟩ ⟨_, rfl, ?_⟩
      have h9 : em_nth (fun t => ¬ em_lv X t) (em_n X) k = none := em_fst_none (fun u hu => hno u (by omega))
      have hq := hQ σ1 hoff
      rw [h9] at hq
      exact hq
    · rw [nI_leI (by omega) (by omega), Nat.not_le] at h213
      refine ev_aload_n (i := 0) d_MD_idle_216 rfl rfl ?_
      refine es_getR d_MD_idle_217 f_MD_32 rfl rfl ?_
      refine ev_iload d_MD_idle_220 rfl ?_
      refine es_zald d_MD_idle_222 rfl (ez_vinN (by omega) (by omega)) ?_
      rw [nI_clamp (by omega), hcm t (by omega)]
      refine ev_if_ne d_MD_idle_223 (fun h223 => ?_) (fun h223 => ?_)
      · rw [eb_0, Bool.not_eq_false] at h223
        have hnp : ¬ ¬ em_lv X t := fun q => q ((hlv t h213).mp h223)
        refine ev_iinc d_MD_idle_237 rfl (ez_inc _) (by decide) ?_
        dsimp only [List.set_cons_zero, List.set_cons_succ]
        refine ev_goto d_MD_idle_240 ?_
        first
          | (have h9 := hsu.1 hnp
             refine ih _ (by omega) (t + 1) rfl ⟨by omega, by omega, fun u hu => ?_⟩
             by_cases hus : u = t
             · rw [hus]; intro q; omega
             · exact hno u (by omega))
          | (have h9 := hsu.2 hnp
             rw [← h9]
             refine ih _ (by omega) (t + 1) rfl ⟨by omega, by omega, fun u hu => ?_⟩
             by_cases hus : u = t
             · rw [hus]; exact fun q => hnp q.1
             · exact hno u (by omega))
      · rw [eb_0] at h223
        have hnp : ¬ em_lv X t := fun q => by rw [(hlv t h213).mpr q] at h223; cases h223
        refine ev_iload d_MD_idle_226 rfl ?_
        refine ev_if_ne d_MD_idle_228 (fun h228 => ?_) (fun h228 => ?_)
        · rw [show (0 : Int32) = nI 0 from rfl, nI_eq (by omega) (by omega)] at h228
          refine ev_iinc d_MD_idle_234 rfl (show nI (k - em_ct (fun t => ¬ em_lv X t) t) + Int32.ofInt (-1) = nI (k - em_ct (fun t => ¬ em_lv X t) (t + 1)) from by rw [show Int32.ofInt (-1) = -1 from rfl, sb_m1 (by omega), hsu.1 hnp]; congr 1) (by decide) ?_
          dsimp only [List.set_cons_zero, List.set_cons_succ]
          refine ev_iinc d_MD_idle_237 rfl (ez_inc _) (by decide) ?_
          dsimp only [List.set_cons_zero, List.set_cons_succ]
          refine ev_goto d_MD_idle_240 ?_
          first
            | (have h9 := hsu.1 hnp
               refine ih _ (by omega) (t + 1) rfl ⟨by omega, by omega, fun u hu => ?_⟩
               by_cases hus : u = t
               · rw [hus]; intro q; omega
               · exact hno u (by omega))
            | (have h9 := hsu.2 hnp
               rw [← h9]
               refine ih _ (by omega) (t + 1) rfl ⟨by omega, by omega, fun u hu => ?_⟩
               by_cases hus : u = t
               · rw [hus]; exact fun q => hnp q.1
               · exact hno u (by omega))
        · rw [show (0 : Int32) = nI 0 from rfl, nI_eq (by omega) (by omega)] at h228
          refine ev_iload d_MD_idle_231 rfl ?_
          refine es_iret d_MD_idle_233 rfl ⟨Nat.zero_le _, Nat.zero_le _⟩ ⟨_, rfl, ?_⟩
          have h9 : em_nth (fun t => ¬ em_lv X t) (em_n X) k = some t := em_fst_some (p := fun u => (fun t => ¬ em_lv X t) u ∧ em_ct (fun t => ¬ em_lv X t) u = k) ⟨hnp, by omega⟩ hno h213
          have hq := hQ σ1 hoff
          rw [h9] at hq
          exact hq
theorem lp_MD_idle_117 {X : em_E} {P : Nat} (hw : em_wf P X) {e : Nat} (he : e < 2) (hm : md X e σ) {k : Nat} (hk : k < 2 ^ 31) {Qy : Int32 → es_S → Prop} (hQ : ∀ σ', (∀ q, q ≠ 54 → σ' q = σ q) → Qy (en (em_nth (fun t => ¬ em_lv X t) (em_n X) k)) σ') {b : Nat} (hb : b < em_n X) {c0 : Nat → Bool} (hex : ∀ (g : Bool) (c : Nat → Bool) (σ1 : es_S), cm c σ1 → (∀ q, q ≠ 54 → σ1 q = σ q) → lP X c0 g c (b + 1) 0 → ez_Ev l G X_MD_idle 0 0 190 [some (.ref 46), some (.int (nI e)), some (.int (nI k)), some (.int (eb g)), some (.int (nI b)), none, none] [] (es_H σ1) (es_Q (es_I Qy) es_no)) : ∀ (d : Nat) (i : Nat) (g : Bool) (c : Nat → Bool) (σ1 : es_S), 2 - i = d → (i ≤ em_nd (em_k X b) ∧ cm c σ1 ∧ (∀ q, q ≠ 54 → σ1 q = σ q) ∧ lP X c0 g c b i) → ez_Ev l G X_MD_idle 0 0 117 [some (.ref 46), some (.int (nI e)), some (.int (nI k)), some (.int (eb g)), some (.int (nI b)), some (.int (nI i)), none] [] (es_H σ1) (es_Q (es_I Qy) es_no) := by
  intro d
  induction d using Nat.strongRecOn with
  | _ d ih =>
    intro i g c σ1 hmm hinv
    obtain ⟨hi, hcm, hoff, hlp⟩ := hinv
    have hn := hw.1
    have hm1 : md X e σ1 := md_off hm (fun k g1 g2 => hoff k (by omega))
    have hce : (nI e).toNatClampNeg = e := nI_clamp (by omega)
    have hk6 := hw.2.1 b hb
    have hnd := em_nd_le (em_k X b)
    have hcb := hcm b (by omega)
    refine ev_iload d_MD_idle_117 rfl ?_
    refine ev_aload_n (i := 0) d_MD_idle_119 rfl rfl ?_
    refine es_getR d_MD_idle_120 f_MD_17 rfl rfl ?_
    refine ev_bipush (v := 24) d_MD_idle_123 rfl ?_
    refine ev_iload_n (i := 1) d_MD_idle_125 rfl rfl ?_
    refine ev_imul d_MD_idle_126 ?_
    refine ev_iload d_MD_idle_127 rfl ?_
    refine ev_iadd d_MD_idle_129 ?_
    rw [ix24]
    refine es_iald d_MD_idle_130 rfl (ez_vinN (by omega) (by omega)) ?_
    rw [nI_clamp (by omega), (hm1.2.1 b hb).1]
    refine es_cSI ls_MD_idle_131 d_MD_idle_131 (c_MD_needs hk6) rfl rfl (Nat.le_of_ble_eq_true rfl) (fun x131 σ131 h131 => ?_) (fun _ _ h => h.elim)
    obtain ⟨rfl, e131⟩ := h131
    rw [e131]
    refine ev_icmp_ge d_MD_idle_134 (fun h134 => ?_) (fun h134 => ?_)
    · rw [nI_leI (by omega) (by omega)] at h134
      refine ev_mask [true, true, true, true, true, false, false] rfl (hex g c σ1 hcm hoff (lP_next hlp ?_))
      first | exact Or.inl h144 | exact Or.inr h134
    · rw [nI_leI (by omega) (by omega), Nat.not_le] at h134
      refine ev_aload_n (i := 0) d_MD_idle_137 rfl rfl ?_
      refine es_getR d_MD_idle_138 f_MD_32 rfl rfl ?_
      refine ev_iload d_MD_idle_141 rfl ?_
      refine es_zald d_MD_idle_143 rfl (ez_vinN (by omega) (by omega)) ?_
      rw [nI_clamp (by omega), hcb]
      refine ev_if_eq d_MD_idle_144 (fun h144 => ?_) (fun h144 => ?_)
      · rw [eb_0] at h144
        refine ev_mask [true, true, true, true, true, false, false] rfl (hex g c σ1 hcm hoff (lP_next hlp ?_))
        first | exact Or.inl h144 | exact Or.inr h134
      · rw [eb_0, Bool.not_eq_false] at h144
        refine ev_aload_n (i := 0) d_MD_idle_147 rfl rfl ?_
        refine ev_iload_n (i := 1) d_MD_idle_148 rfl rfl ?_
        refine ev_iload d_MD_idle_149 rfl ?_
        refine ev_iload d_MD_idle_151 rfl ?_
        refine es_cVI ls_MD_idle_153 d_MD_idle_153 rfl (c_MD_input hw he hm1 hb (show i < 2 by omega)) rfl rfl (Nat.le_of_ble_eq_true rfl) (fun x153 σ153 h153 => ?_) (fun _ _ h => h.elim)
        obtain ⟨rfl, e153⟩ := h153
        rw [e153]
        have hwb : ∀ t, em_w X b i = some t → t < 2 ^ 31 := fun t ht => by have := (hw.2.2.1 b i t ht).2; omega
        refine ev_istore d_MD_idle_156 (by decide) ?_
        dsimp only [List.set_cons_zero, List.set_cons_succ]
        refine ev_iload d_MD_idle_158 rfl ?_
        refine ev_iconst (v := (-1)) d_MD_idle_160 rfl ?_
        refine ev_icmp_eq d_MD_idle_161 (fun h161 => ?_) (fun h161 => ?_)
        · rw [en_none hwb] at h161
          refine ev_iinc d_MD_idle_184 rfl (ez_inc _) (by decide) ?_
          dsimp only [List.set_cons_zero, List.set_cons_succ]
          refine ev_goto d_MD_idle_187 ?_
          refine ev_mask [true, true, true, true, true, true, false] rfl ?_
          exact ih _ (by omega) (i + 1) g c σ1 rfl ⟨by omega, hcm, hoff, lP_skip hlp (fun t ht => by rw [h161] at ht; cases ht)⟩
        · rw [en_none hwb] at h161
          obtain ⟨to, hto⟩ := Option.ne_none_iff_exists'.mp h161
          have htl := (hw.2.2.1 b i to hto).2
          rw [hto, show en (some to) = nI to from rfl]
          have hct : (nI to).toNatClampNeg = to := nI_clamp (by omega)
          refine ev_aload_n (i := 0) d_MD_idle_164 rfl rfl ?_
          refine es_getR d_MD_idle_165 f_MD_32 rfl rfl ?_
          refine ev_iload d_MD_idle_168 rfl ?_
          refine es_zald d_MD_idle_170 rfl (ez_vinN (by omega) (by omega)) ?_
          rw [hct, hcm to (by omega)]
          refine ev_if_ne d_MD_idle_171 (fun h171 => ?_) (fun h171 => ?_)
          · rw [eb_0, Bool.not_eq_false] at h171
            refine ev_iinc d_MD_idle_184 rfl (ez_inc _) (by decide) ?_
            dsimp only [List.set_cons_zero, List.set_cons_succ]
            refine ev_goto d_MD_idle_187 ?_
            refine ev_mask [true, true, true, true, true, true, false] rfl ?_
            exact ih _ (by omega) (i + 1) g c σ1 rfl ⟨by omega, hcm, hoff, lP_skip hlp (fun t ht => by rw [hto] at ht; injection ht with ht; rw [← ht]; exact h171)⟩
          · rw [eb_0] at h171
            refine ev_aload_n (i := 0) d_MD_idle_174 rfl rfl ?_
            refine es_getR d_MD_idle_175 f_MD_32 rfl rfl ?_
            refine ev_iload d_MD_idle_178 rfl ?_
            refine ev_iconst (v := 1) d_MD_idle_180 rfl ?_
            refine es_zast d_MD_idle_181 rfl (ez_vinN (by omega) (by omega)) ?_
            rw [hct]
            refine ev_iconst (v := 1) d_MD_idle_182 rfl ?_
            refine ev_istore_n (i := 3) d_MD_idle_183 rfl (by decide) ?_
            dsimp only [List.set_cons_zero, List.set_cons_succ]
            refine ev_iinc d_MD_idle_184 rfl (ez_inc _) (by decide) ?_
            dsimp only [List.set_cons_zero, List.set_cons_succ]
            refine ev_goto d_MD_idle_187 ?_
            refine ev_mask [true, true, true, true, true, true, false] rfl ?_
            refine ih _ (by omega) (i + 1) true _ _ rfl ⟨by omega, fun t ht => ?_, fun q hq => by rw [es_upf _ _ _ _ hq]; exact hoff q hq, lP_put hw hlp h144 h134 hto h171⟩
            by_cases e9 : t = to
            · rw [e9, es_upx, if_pos rfl, if_pos rfl, xn_eq, Bool.or_true]; rfl
            · rw [es_upx, if_pos rfl, if_neg e9, xn_ne c _ e9]; exact hcm t ht
theorem lp_MD_idle_103 {X : em_E} {P : Nat} (hw : em_wf P X) {e : Nat} (he : e < 2) (hm : md X e σ) {k : Nat} (hk : k < 2 ^ 31) {Qy : Int32 → es_S → Prop} (hQ : ∀ σ', (∀ q, q ≠ 54 → σ' q = σ q) → Qy (en (em_nth (fun t => ¬ em_lv X t) (em_n X) k)) σ') {c0 : Nat → Bool} (hex : ∀ (g : Bool) (c : Nat → Bool) (σ1 : es_S), cm c σ1 → (∀ q, q ≠ 54 → σ1 q = σ q) → lP X c0 g c (em_n X) 0 → ez_Ev l G X_MD_idle 0 0 196 [some (.ref 46), some (.int (nI e)), some (.int (nI k)), some (.int (eb g)), none, none, none] [] (es_H σ1) (es_Q (es_I Qy) es_no)) : ∀ (d : Nat) (b : Nat) (g : Bool) (c : Nat → Bool) (σ1 : es_S), 24 - b = d → (b ≤ em_n X ∧ cm c σ1 ∧ (∀ q, q ≠ 54 → σ1 q = σ q) ∧ lP X c0 g c b 0) → ez_Ev l G X_MD_idle 0 0 103 [some (.ref 46), some (.int (nI e)), some (.int (nI k)), some (.int (eb g)), some (.int (nI b)), none, none] [] (es_H σ1) (es_Q (es_I Qy) es_no) := by
  intro d
  induction d using Nat.strongRecOn with
  | _ d ih =>
    intro b g c σ1 hmm hinv
    obtain ⟨hb, hcm, hoff, hlp⟩ := hinv
    have hn := hw.1
    have hm1 : md X e σ1 := md_off hm (fun k g1 g2 => hoff k (by omega))
    have hce : (nI e).toNatClampNeg = e := nI_clamp (by omega)
    refine ev_iload d_MD_idle_103 rfl ?_
    refine ev_aload_n (i := 0) d_MD_idle_105 rfl rfl ?_
    refine es_getR d_MD_idle_106 f_MD_13 rfl rfl ?_
    refine ev_iload_n (i := 1) d_MD_idle_109 rfl rfl ?_
    refine es_iald d_MD_idle_110 rfl (ez_vinN he (by omega)) ?_
    rw [hce, hm1.1]
    refine ev_icmp_ge d_MD_idle_111 (fun h111 => ?_) (fun h111 => ?_)
    · rw [nI_leI (by omega) (by omega)] at h111
      have hbe : b = em_n X := by omega
      rw [hbe] at hlp
      exact ev_mask [true, true, true, true, false, false, false] rfl (hex g c σ1 hcm hoff hlp)
    · rw [nI_leI (by omega) (by omega), Nat.not_le] at h111
      refine ev_iconst (v := 0) d_MD_idle_114 rfl ?_
      refine ev_istore d_MD_idle_115 (by decide) ?_
      dsimp only [List.set_cons_zero, List.set_cons_succ]
      refine lp_MD_idle_117 hw he hm hk hQ h111 (c0 := c0) (fun g2 c2 σ2 k1 k2 k3 => ?_) _ 0 g c σ1 rfl ⟨Nat.zero_le _, hcm, hoff, hlp⟩
      refine ev_iinc d_MD_idle_190 rfl (ez_inc _) (by decide) ?_
      dsimp only [List.set_cons_zero, List.set_cons_succ]
      refine ev_goto d_MD_idle_193 ?_
      exact ih _ (by omega) (b + 1) g2 c2 σ2 rfl ⟨by omega, k1, k2, k3⟩
theorem lp_MD_idle_94 {X : em_E} {P : Nat} (hw : em_wf P X) {e : Nat} (he : e < 2) (hm : md X e σ) {k : Nat} (hk : k < 2 ^ 31) {Qy : Int32 → es_S → Prop} (hQ : ∀ σ', (∀ q, q ≠ 54 → σ' q = σ q) → Qy (en (em_nth (fun t => ¬ em_lv X t) (em_n X) k)) σ') : ∀ (d : Nat) (g : Bool) (c : Nat → Bool) (σ1 : es_S), 2 * (24 - em_ct (fun t => c t = true) 24) + bn g = d → (cm c σ1 ∧ (∀ q, q ≠ 54 → σ1 q = σ q) ∧ (∀ t, c t = true → em_lv X t) ∧ (∀ j t, j < 3 → em_o X j = some t → c t = true) ∧ (g = false → ∀ u t, c u = true → em_at X u t → c t = true)) → ez_Ev l G X_MD_idle 0 0 94 [some (.ref 46), some (.int (nI e)), some (.int (nI k)), some (.int (eb g)), none, none, none] [] (es_H σ1) (es_Q (es_I Qy) es_no) := by
  intro d
  induction d using Nat.strongRecOn with
  | _ d ih =>
    intro g c σ1 hmm hinv
    obtain ⟨hcm, hoff, hsn, hou, hcl⟩ := hinv
    have hn := hw.1
    have hm1 : md X e σ1 := md_off hm (fun k g1 g2 => hoff k (by omega))
    have hce : (nI e).toNatClampNeg = e := nI_clamp (by omega)
    refine ev_iload_n (i := 3) d_MD_idle_94 rfl rfl ?_
    refine ev_if_eq d_MD_idle_95 (fun h95 => ?_) (fun h95 => ?_)
    · rw [eb_0] at h95
      refine ev_iload_n (i := 2) d_MD_idle_199 rfl rfl ?_
      refine ev_istore d_MD_idle_200 (by decide) ?_
      dsimp only [List.set_cons_zero, List.set_cons_succ]
      refine ev_iconst (v := 0) d_MD_idle_202 rfl ?_
      refine ev_istore d_MD_idle_203 (by decide) ?_
      dsimp only [List.set_cons_zero, List.set_cons_succ]
      exact lp_MD_idle_205 hw he hm hk hQ hcm hoff (fun t _ => ⟨hsn t, fun q => q (fun t => c t = true) hou (hcl h95)⟩) _ 0 rfl ⟨Nat.zero_le _, Nat.zero_le _, fun u hu => absurd hu (Nat.not_lt_zero _)⟩
    · rw [eb_0, Bool.not_eq_false] at h95
      refine ev_iconst (v := 0) d_MD_idle_98 rfl ?_
      refine ev_istore_n (i := 3) d_MD_idle_99 rfl (by decide) ?_
      dsimp only [List.set_cons_zero, List.set_cons_succ]
      refine ev_iconst (v := 0) d_MD_idle_100 rfl ?_
      refine ev_istore d_MD_idle_101 (by decide) ?_
      dsimp only [List.set_cons_zero, List.set_cons_succ]
      refine lp_MD_idle_103 hw he hm hk hQ (c0 := c) (fun g2 c2 σ2 k1 k2 k3 => ?_) _ 0 false c σ1 rfl ⟨Nat.zero_le _, hcm, hoff, ⟨fun _ q => q, hsn, hou, (fun q => by cases q), fun _ => ⟨fun _ q => q, fun u t hu => absurd hu (Nat.not_lt_zero _), fun z t hz => absurd hz (Nat.not_lt_zero _)⟩⟩⟩
      refine ev_goto d_MD_idle_196 ?_
      have hle := em_ct_le (p := fun t => c t = true) (q := fun t => c2 t = true) 24 (fun t _ q => k3.1 t q)
      have hl2 := em_ct_n (fun t => c2 t = true) 24
      refine ih _ ?_ g2 c2 σ2 rfl ⟨k1, k2, k3.2.1, k3.2.2.1, fun hg u t hc ht => (k3.2.2.2.2 hg).2.1 u t ht.1 hc ht⟩
      cases g2 with
      | true => have := k3.2.2.2.1 rfl; simp only [h95, bn, if_true] at hmm ⊢; omega
      | false => simp only [h95, bn, if_true, Bool.false_eq_true, if_false] at hmm ⊢; omega
theorem lp_MD_idle_51 {X : em_E} {P : Nat} (hw : em_wf P X) {e : Nat} (he : e < 2) (hm : md X e σ) {k : Nat} (hk : k < 2 ^ 31) {Qy : Int32 → es_S → Prop} (hQ : ∀ σ', (∀ q, q ≠ 54 → σ' q = σ q) → Qy (en (em_nth (fun t => ¬ em_lv X t) (em_n X) k)) σ') : ∀ (d : Nat) (j : Nat) (c : Nat → Bool) (σ1 : es_S), 3 - j = d → (j ≤ 3 ∧ cm c σ1 ∧ (∀ q, q ≠ 54 → σ1 q = σ q) ∧ (∀ t, c t = true → em_lv X t) ∧ (∀ i t, i < j → em_o X i = some t → c t = true)) → ez_Ev l G X_MD_idle 0 0 51 [some (.ref 46), some (.int (nI e)), some (.int (nI k)), some (.int (nI j)), none, none, none] [] (es_H σ1) (es_Q (es_I Qy) es_no) := by
  intro d
  induction d using Nat.strongRecOn with
  | _ d ih =>
    intro j c σ1 hmm hinv
    obtain ⟨hj, hcm, hoff, hsn, hou⟩ := hinv
    have hn := hw.1
    have hm1 : md X e σ1 := md_off hm (fun k g1 g2 => hoff k (by omega))
    have hce : (nI e).toNatClampNeg = e := nI_clamp (by omega)
    have hob : ∀ t, em_o X j = some t → t < 2 ^ 31 := fun t ht => by have := hw.2.2.2.1 j t ht; omega
    refine ev_iload_n (i := 3) d_MD_idle_51 rfl rfl ?_
    refine ev_iconst (v := 3) d_MD_idle_52 rfl ?_
    refine ev_icmp_ge d_MD_idle_53 (fun h53 => ?_) (fun h53 => ?_)
    · rw [show (3 : Int32) = nI 3 from rfl, nI_leI (by omega) (by omega)] at h53
      refine ev_iconst (v := 1) d_MD_idle_92 rfl ?_
      refine ev_istore_n (i := 3) d_MD_idle_93 rfl (by decide) ?_
      dsimp only [List.set_cons_zero, List.set_cons_succ]
      have hje : j = 3 := by omega
      subst hje
      exact lp_MD_idle_94 hw he hm hk hQ _ true c σ1 rfl ⟨hcm, hoff, hsn, hou, (fun q => by cases q)⟩
    · rw [show (3 : Int32) = nI 3 from rfl, nI_leI (by omega) (by omega), Nat.not_le] at h53
      refine ev_aload_n (i := 0) d_MD_idle_56 rfl rfl ?_
      refine es_getR d_MD_idle_57 f_MD_29 rfl rfl ?_
      refine ev_iconst (v := 3) d_MD_idle_60 rfl ?_
      refine ev_iload_n (i := 1) d_MD_idle_61 rfl rfl ?_
      refine ev_imul d_MD_idle_62 ?_
      refine ev_iload_n (i := 3) d_MD_idle_63 rfl rfl ?_
      refine ev_iadd d_MD_idle_64 ?_
      rw [ix3]
      refine es_iald d_MD_idle_65 rfl (ez_vinN (by omega) (by omega)) ?_
      rw [nI_clamp (by omega), hm1.2.2 j h53]
      refine ev_iconst (v := (-1)) d_MD_idle_66 rfl ?_
      refine ev_icmp_eq d_MD_idle_67 (fun h67 => ?_) (fun h67 => ?_)
      · rw [en_none hob] at h67
        refine ev_iinc d_MD_idle_86 rfl (ez_inc _) (by decide) ?_
        dsimp only [List.set_cons_zero, List.set_cons_succ]
        refine ev_goto d_MD_idle_89 ?_
        first
          | (refine ih _ (by omega) (j + 1) c σ1 rfl ⟨by omega, hcm, hoff, hsn, fun i t hi ht => ?_⟩
             by_cases e9 : i = j
             · rw [e9, h67] at ht; cases ht
             · exact hou i t (by omega) ht)
          | (refine ih _ (by omega) (j + 1) (xn c to true) _ rfl ⟨by omega, fun t ht => ?_, fun q hq => by rw [es_upf _ _ _ _ hq]; exact hoff q hq, fun t ht => ?_, fun i t hi ht => ?_⟩
             · by_cases e9 : t = to
               · rw [e9, es_upx, if_pos rfl, if_pos rfl, xn_eq, Bool.or_true]; rfl
               · rw [es_upx, if_pos rfl, if_neg e9, xn_ne c _ e9]; exact hcm t ht
             · by_cases e9 : t = to
               · rw [e9]; exact em_lv_out h53 hto
               · rw [xn_ne c _ e9] at ht; exact hsn t ht
             · by_cases e9 : t = to
               · rw [e9, xn_eq, Bool.or_true]
               · rw [xn_ne c _ e9]
                 by_cases e8 : i = j
                 · rw [e8, hto] at ht; injection ht with ht; exact absurd ht.symm e9
                 · exact hou i t (by omega) ht)
      · rw [en_none hob] at h67
        obtain ⟨to, hto⟩ := Option.ne_none_iff_exists'.mp h67
        have htl := hw.2.2.2.1 j to hto
        refine ev_aload_n (i := 0) d_MD_idle_70 rfl rfl ?_
        refine es_getR d_MD_idle_71 f_MD_32 rfl rfl ?_
        refine ev_aload_n (i := 0) d_MD_idle_74 rfl rfl ?_
        refine es_getR d_MD_idle_75 f_MD_29 rfl rfl ?_
        refine ev_iconst (v := 3) d_MD_idle_78 rfl ?_
        refine ev_iload_n (i := 1) d_MD_idle_79 rfl rfl ?_
        refine ev_imul d_MD_idle_80 ?_
        refine ev_iload_n (i := 3) d_MD_idle_81 rfl rfl ?_
        refine ev_iadd d_MD_idle_82 ?_
        rw [ix3]
        refine es_iald d_MD_idle_83 rfl (ez_vinN (by omega) (by omega)) ?_
        rw [nI_clamp (by omega), hm1.2.2 j h53, hto, show en (some to) = nI to from rfl]
        refine ev_iconst (v := 1) d_MD_idle_84 rfl ?_
        refine es_zast d_MD_idle_85 rfl (ez_vinN (by omega) (by omega)) ?_
        rw [nI_clamp (by omega)]
        refine ev_iinc d_MD_idle_86 rfl (ez_inc _) (by decide) ?_
        dsimp only [List.set_cons_zero, List.set_cons_succ]
        refine ev_goto d_MD_idle_89 ?_
        first
          | (refine ih _ (by omega) (j + 1) c σ1 rfl ⟨by omega, hcm, hoff, hsn, fun i t hi ht => ?_⟩
             by_cases e9 : i = j
             · rw [e9, h67] at ht; cases ht
             · exact hou i t (by omega) ht)
          | (refine ih _ (by omega) (j + 1) (xn c to true) _ rfl ⟨by omega, fun t ht => ?_, fun q hq => by rw [es_upf _ _ _ _ hq]; exact hoff q hq, fun t ht => ?_, fun i t hi ht => ?_⟩
             · by_cases e9 : t = to
               · rw [e9, es_upx, if_pos rfl, if_pos rfl, xn_eq, Bool.or_true]; rfl
               · rw [es_upx, if_pos rfl, if_neg e9, xn_ne c _ e9]; exact hcm t ht
             · by_cases e9 : t = to
               · rw [e9]; exact em_lv_out h53 hto
               · rw [xn_ne c _ e9] at ht; exact hsn t ht
             · by_cases e9 : t = to
               · rw [e9, xn_eq, Bool.or_true]
               · rw [xn_ne c _ e9]
                 by_cases e8 : i = j
                 · rw [e8, hto] at ht; injection ht with ht; exact absurd ht.symm e9
                 · exact hou i t (by omega) ht)
theorem lp_MD_idle_30 {X : em_E} {P : Nat} (hw : em_wf P X) {e : Nat} (he : e < 2) (hm : md X e σ) {k : Nat} (hk : k < 2 ^ 31) {Qy : Int32 → es_S → Prop} (hQ : ∀ σ', (∀ q, q ≠ 54 → σ' q = σ q) → Qy (en (em_nth (fun t => ¬ em_lv X t) (em_n X) k)) σ') : ∀ (d : Nat) (u : Nat) (σ1 : es_S), 24 - u = d → (u ≤ 24 ∧ (∀ t, t < u → σ1 54 t = eb false) ∧ (∀ q, q ≠ 54 → σ1 q = σ q)) → ez_Ev l G X_MD_idle 0 0 30 [some (.ref 46), some (.int (nI e)), some (.int (nI k)), some (.int (nI u)), none, none, none] [] (es_H σ1) (es_Q (es_I Qy) es_no) := by
  intro d
  induction d using Nat.strongRecOn with
  | _ d ih =>
    intro u σ1 hmm hinv
    obtain ⟨hu, hz, hoff⟩ := hinv
    have hn := hw.1
    have hm1 : md X e σ1 := md_off hm (fun k g1 g2 => hoff k (by omega))
    have hce : (nI e).toNatClampNeg = e := nI_clamp (by omega)
    refine ev_iload_n (i := 3) d_MD_idle_30 rfl rfl ?_
    refine ev_bipush (v := 24) d_MD_idle_31 rfl ?_
    refine ev_icmp_ge d_MD_idle_33 (fun h33 => ?_) (fun h33 => ?_)
    · rw [show (24 : Int32) = nI 24 from rfl, nI_leI (by omega) (by omega)] at h33
      refine ev_iconst (v := 0) d_MD_idle_49 rfl ?_
      refine ev_istore_n (i := 3) d_MD_idle_50 rfl (by decide) ?_
      dsimp only [List.set_cons_zero, List.set_cons_succ]
      exact lp_MD_idle_51 hw he hm hk hQ _ 0 (fun _ => false) σ1 rfl ⟨by omega, fun t ht => hz t (by omega), hoff, (fun t q => by cases q), fun i t hi => absurd hi (Nat.not_lt_zero _)⟩
    · rw [show (24 : Int32) = nI 24 from rfl, nI_leI (by omega) (by omega), Nat.not_le] at h33
      refine ev_aload_n (i := 0) d_MD_idle_36 rfl rfl ?_
      refine es_getR d_MD_idle_37 f_MD_32 rfl rfl ?_
      refine ev_iload_n (i := 3) d_MD_idle_40 rfl rfl ?_
      refine ev_iconst (v := 0) d_MD_idle_41 rfl ?_
      refine es_zast d_MD_idle_42 rfl (ez_vinN (by omega) (by omega)) ?_
      rw [nI_clamp (by omega)]
      refine ev_iinc d_MD_idle_43 rfl (ez_inc _) (by decide) ?_
      dsimp only [List.set_cons_zero, List.set_cons_succ]
      refine ev_goto d_MD_idle_46 ?_
      refine ih _ (by omega) (u + 1) _ rfl ⟨by omega, fun t ht => ?_, fun q hq => by rw [es_upf _ _ _ _ hq]; exact hoff q hq⟩
      by_cases htu : t = u
      · rw [htu, es_upx, if_pos rfl, if_pos rfl]; rfl
      · rw [es_upx, if_pos rfl, if_neg htu]; exact hz t (by omega)
theorem c_MD_idle {S : sp_S} (hm : rm S σ) {e x : Int32} : ez_Ct l G X_MD_idle [.ref 46, .int e, .int x] (es_H σ) (es_Q (es_I fun y σ' => mR S (g_state e x) (True) (v_idle S e x) (S) y σ' ∧ ∀ k, (k < 46 ∨ 63 < k) → σ' k = σ k) es_no) := by
  refine es_Ct_of (ls := [some (.ref 46), some (.int e), some (.int x), none, none, none, none]) ok_MD_idle rfl (Nat.le_of_ble_eq_true rfl) rfl ?_
  refine ev_aload_n (i := 0) d_MD_idle_0 rfl rfl ?_
  refine ev_iload_n (i := 1) d_MD_idle_1 rfl rfl ?_
  refine ev_iconst (v := 0) d_MD_idle_2 rfl ?_
  refine ev_iconst (v := 1) d_MD_idle_3 rfl ?_
  refine es_cSI ls_MD_idle_4 d_MD_idle_4 c_MD_in rfl rfl (Nat.le_of_ble_eq_true rfl) (fun x4 σ4 h4 => ?_) (fun _ _ h => h.elim)
  obtain ⟨rfl, e4⟩ := h4
  rw [e4, ei1]
  refine ev_if_eq d_MD_idle_7 (fun h7 => ?_) (fun h7 => ?_)
  · rw [eb_0] at h7
    refine ev_iconst (v := 0) d_MD_idle_18 rfl ?_
    refine ev_iconst (v := 1) d_MD_idle_19 rfl ?_
    refine es_cVI ls_MD_idle_20 d_MD_idle_20 rfl (c_MD_goes0 (s := true)) rfl rfl (Nat.le_of_ble_eq_true rfl) (fun x20 σ20 h20 => ?_) (fun _ _ h => h.elim)
    obtain ⟨rfl, rfl⟩ := h20
    refine ev_if_ne d_MD_idle_23 (fun h => absurd h (by decide)) (fun _ => ?_)
    refine ev_iconst (v := 0) d_MD_idle_26 rfl ?_
    refine es_iret d_MD_idle_27 rfl ⟨Nat.zero_le _, Nat.zero_le _⟩ ⟨_, rfl, ?_⟩
    first
      | exact ⟨Or.inl ⟨fun g => Int32.not_le.mpr h11 g.2, by simp [es_upx], rm_thrown hm _⟩, fun k hk => es_upf _ _ _ _ (by omega)⟩
      | exact ⟨Or.inl ⟨fun g => absurd g.1 (by rw [h7]; decide), by simp [es_upx], rm_thrown hm _⟩, fun k hk => es_upf _ _ _ _ (by omega)⟩
  · rw [eb_0, Bool.not_eq_false] at h7
    refine ev_iload_n (i := 2) d_MD_idle_10 rfl rfl ?_
    refine ev_if_lt d_MD_idle_11 (fun h11 => ?_) (fun h11 => ?_)
    · refine ev_iconst (v := 0) d_MD_idle_18 rfl ?_
      refine ev_iconst (v := 1) d_MD_idle_19 rfl ?_
      refine es_cVI ls_MD_idle_20 d_MD_idle_20 rfl (c_MD_goes0 (s := true)) rfl rfl (Nat.le_of_ble_eq_true rfl) (fun x20 σ20 h20 => ?_) (fun _ _ h => h.elim)
      obtain ⟨rfl, rfl⟩ := h20
      refine ev_if_ne d_MD_idle_23 (fun h => absurd h (by decide)) (fun _ => ?_)
      refine ev_iconst (v := 0) d_MD_idle_26 rfl ?_
      refine es_iret d_MD_idle_27 rfl ⟨Nat.zero_le _, Nat.zero_le _⟩ ⟨_, rfl, ?_⟩
      first
        | exact ⟨Or.inl ⟨fun g => Int32.not_le.mpr h11 g.2, by simp [es_upx], rm_thrown hm _⟩, fun k hk => es_upf _ _ _ _ (by omega)⟩
        | exact ⟨Or.inl ⟨fun g => absurd g.1 (by rw [h7]; decide), by simp [es_upx], rm_thrown hm _⟩, fun k hk => es_upf _ _ _ _ (by omega)⟩
    · refine ev_iconst (v := 1) d_MD_idle_14 rfl ?_
      refine ev_goto d_MD_idle_15 ?_
      refine ev_iconst (v := 1) d_MD_idle_19 rfl ?_
      refine es_cVI ls_MD_idle_20 d_MD_idle_20 rfl c_MD_goes11 rfl rfl (Nat.le_of_ble_eq_true rfl) (fun x20 σ20 h20 => ?_) (fun _ _ h => h.elim)
      obtain ⟨rfl, rfl⟩ := h20
      refine ev_if_ne d_MD_idle_23 (fun _ => ?_) (fun h => absurd h (by decide))
      obtain ⟨j, hj, rfl, hj2⟩ := ew_ex (n := 2) h7 (by omega)
      have hw := sE_wf hm.1 (nI j)
      have hgd : g_state (nI j) x := ⟨h7, Int32.not_lt.mp h11⟩
      obtain ⟨jk, hjk, rfl, hjk2⟩ := g0_ex hgd.2
      have hm3 := rm_thrown hm 0
      have hmd := rm_md hm3 hj
      refine ev_iconst (v := 0) d_MD_idle_28 rfl ?_
      refine ev_istore_n (i := 3) d_MD_idle_29 rfl (by decide) ?_
      dsimp only [List.set_cons_zero, List.set_cons_succ]
      refine lp_MD_idle_30 hw hj hmd hjk (fun σ9 h9 => ?_) _ 0 _ rfl ⟨by omega, fun t ht => absurd ht (Nat.not_lt_zero _), fun _ _ => rfl⟩
      refine ⟨Or.inr (Or.inr ⟨hgd, trivial, by rw [h9 46 (by decide)]; simp [es_upx], ?_, rm_54 hm3 h9⟩), fun k hk => by rw [h9 k (by omega)]; exact es_upf _ _ _ _ (by omega)⟩
      unfold v_idle
      rw [hjk2]
end
