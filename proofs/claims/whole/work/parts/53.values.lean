/-! ===== Model: values ===== -/
section
variable {l : Launch} {G : ez_G} {σ : es_S}
def ov (o : Option Bool) : Int32 := match o with
  | none => -1
  | some x => eb x
theorem eb_ne (x : Bool) : eb x ≠ -1 := by cases x <;> decide
theorem ov_none {o : Option Bool} : ov o = -1 ↔ o = none := by
  cases o with
  | none => exact ⟨fun _ => rfl, fun _ => rfl⟩
  | some x => exact ⟨fun h => absurd h (eb_ne x), fun h => by cases h⟩
abbrev gd (pv : Nat → Option Bool) : Nat → Bool := fun t => (pv t).getD false
/-- values found so far are right, and hang on such as are found -/
def vI (X : em_E) (s r : Nat → Bool) (pv : Nat → Option Bool) : Prop := ∀ b, b < em_n X → (em_k X b = 0 ∨ em_k X b = 1 ∨ em_k X b = 6 → pv b ≠ none) ∧ ∀ x, pv b = some x → x = em_f X s r (gd pv) b ∧ ∀ t, em_ed X b t → pv t ≠ none
def vC (pv : Nat → Option Bool) (n : Nat) (σ : es_S) : Prop := ∀ b, b < n → σ 55 b = ov (pv b)
theorem em_ed_no {X : em_E} {b t : Nat} (h : em_k X b = 0 ∨ em_k X b = 1 ∨ em_k X b = 6) : ¬ em_ed X b t := fun ⟨⟨_, z, z1, _⟩, h6⟩ => by
  unfold em_nd at z1
  rcases h with h | h | h
  · simp [h] at z1
  · simp [h] at z1
  · exact h6 h
theorem vI_put {X : em_E} {P : Nat} (hw : em_wf P X) {s r : Nat → Bool} {pv : Nat → Option Bool} (h : vI X s r pv) {b : Nat} (hn : pv b = none) {x : Bool} (hx : x = em_f X s r (gd pv) b) (hd : ∀ t, em_ed X b t → pv t ≠ none) : vI X s r (fun t => if t = b then some x else pv t) := by
  have hsame : ∀ u, u < em_n X → (∀ t, em_ed X u t → pv t ≠ none) → em_f X s r (gd fun t => if t = b then some x else pv t) u = em_f X s r (gd pv) u := fun u hu hdu => em_f_eq hw hu (fun t ht => by
    have : t ≠ b := fun q => hdu t ht (by rw [q]; exact hn)
    simp [gd, this])
  intro u hu
  refine ⟨fun hk => ?_, fun y hy => ?_⟩
  · by_cases q : u = b
    · simp [q]
    · simp only [q, if_false]; exact (h u hu).1 hk
  · by_cases q : u = b
    · simp only [q, if_true] at hy
      injection hy with hy
      subst q
      refine ⟨by rw [hsame u hu hd, ← hy]; exact hx, fun t ht => ?_⟩
      by_cases q2 : t = u
      · simp [q2]
      · simp only [q2, if_false]; exact hd t ht
    · simp only [q, if_false] at hy
      have hh := (h u hu).2 y hy
      refine ⟨by rw [hsame u hu hh.2]; exact hh.1, fun t ht => ?_⟩
      by_cases q2 : t = b
      · simp [q2]
      · simp only [q2, if_false]; exact hh.2 t ht
theorem vI_end {X : em_E} {P : Nat} (hw : em_wf P X) (hr : em_right X) {s r : Nat → Bool} {pv : Nat → Option Bool} (h : vI X s r pv) (hall : ∀ b, b < em_n X → pv b ≠ none) : ∀ b, b < em_n X → ov (pv b) = eb (em_val X s r b) := fun b hb => by
  have hs : em_Sat X s r (gd pv) := fun u hu => by
    obtain ⟨x, hx⟩ := Option.ne_none_iff_exists'.mp (hall u hu)
    have := ((h u hu).2 x hx).1
    simp only [gd, hx]
    exact this
  obtain ⟨x, hx⟩ := Option.ne_none_iff_exists'.mp (hall b hb)
  rw [em_val_eq hw hr hs hb, hx]
  simp [gd, hx, ov]
theorem eb_alg (a b : Bool) : (1 : Int32) - eb a = eb (!a) ∧ eb a &&& eb b = eb (a && b) ∧ eb a ||| eb b = eb (a || b) ∧ eb a ^^^ eb b = eb (a ^^ b) := by cases a <;> cases b <;> decide
theorem sh_b (x : Int32) {q : Nat} (hq : q < 32) : x >>> (nI q &&& 31) &&& 1 = eb (bt x q) := by
  rw [and1, b_sshr q hq x (by omega), if_pos (by omega)]
  rfl
theorem c_MD_reckon {X : em_E} {P : Nat} (hw : em_wf P X) {e : Nat} (he : e < 2) (hm : md X e σ) (hri : em_right X) {s r : Nat → Bool} {pv : Nat → Option Bool} (hC : vC pv (em_n X) σ) {b : Nat} (hb : b < em_n X) (hk2 : 2 ≤ em_k X b) (hk5 : em_k X b ≤ 5) : ez_Ct l G X_MD_reckon [.ref 46, .int (nI e), .int (nI b)] (es_H σ) (es_Q (es_I fun y σ' => (∃ o, y = ov o ∧ ((o = none ∧ ∃ t, em_ed X b t ∧ pv t = none) ∨ (o = some (em_f X s r (gd pv) b) ∧ ∀ t, em_ed X b t → pv t ≠ none))) ∧ σ' = σ) es_no) := by
  have hn := hw.1
  have hk6 : em_k X b ≠ 6 := by omega
  have hnd1 : 0 < em_nd (em_k X b) := by unfold em_nd; rw [if_neg (by omega)]; split <;> omega
  obtain ⟨t1, ht1⟩ := Option.ne_none_iff_exists'.mp (fun q => hri.1 b hb ⟨0, hnd1, q⟩ : em_w X b 0 ≠ none)
  have hl1 := (hw.2.2.1 b 0 t1 ht1).2
  have hct1 : (nI t1).toNatClampNeg = t1 := nI_clamp (by omega)
  have hed1 : em_ed X b t1 := ⟨⟨hb, 0, hnd1, ht1⟩, hk6⟩
  refine es_Ct_of (ls := [some (.ref 46), some (.int (nI e)), some (.int (nI b)), none, none, none]) ok_MD_reckon rfl (Nat.le_of_ble_eq_true rfl) rfl ?_
  refine ev_aload_n (i := 0) d_MD_reckon_0 rfl rfl ?_
  refine es_getR d_MD_reckon_1 f_MD_17 rfl rfl ?_
  refine ev_bipush (v := 24) d_MD_reckon_4 rfl ?_
  refine ev_iload_n (i := 1) d_MD_reckon_6 rfl rfl ?_
  refine ev_imul d_MD_reckon_7 ?_
  refine ev_iload_n (i := 2) d_MD_reckon_8 rfl rfl ?_
  refine ev_iadd d_MD_reckon_9 ?_
  rw [ix24]
  refine es_iald d_MD_reckon_10 rfl (ez_vinN (by omega) (by omega)) ?_
  rw [nI_clamp (by omega), (hm.2.1 b hb).1]
  refine ev_istore_n (i := 3) d_MD_reckon_11 rfl (by decide) ?_
  dsimp only [List.set_cons_zero, List.set_cons_succ]
  refine ev_aload_n (i := 0) d_MD_reckon_12 rfl rfl ?_
  refine es_getR d_MD_reckon_13 f_MD_35 rfl rfl ?_
  refine ev_aload_n (i := 0) d_MD_reckon_16 rfl rfl ?_
  refine ev_iload_n (i := 1) d_MD_reckon_17 rfl rfl ?_
  refine ev_iload_n (i := 2) d_MD_reckon_18 rfl rfl ?_
  refine ev_iconst (v := 0) d_MD_reckon_19 rfl ?_
  refine es_cVI ls_MD_reckon_20 d_MD_reckon_20 rfl (c_MD_input hw he hm hb (show 0 < 2 by omega)) rfl rfl (Nat.le_of_ble_eq_true rfl) (fun x20 σ20 h20 => ?_) (fun _ _ h => h.elim)
  obtain ⟨rfl, e20⟩ := h20
  rw [e20, ht1, show en (some t1) = nI t1 from rfl]
  refine es_iald d_MD_reckon_23 rfl (ez_vinN (by omega) (by omega)) ?_
  rw [hct1, hC t1 hl1]
  refine ev_istore d_MD_reckon_24 (by decide) ?_
  dsimp only [List.set_cons_zero, List.set_cons_succ]
  refine ev_iload_n (i := 3) d_MD_reckon_26 rfl rfl ?_
  refine ev_iconst (v := 2) d_MD_reckon_27 rfl ?_
  refine ev_icmp_ne d_MD_reckon_28 (fun h28 => ?_) (fun h28 => ?_)
  · rw [show (2 : Int32) = nI 2 from rfl, nI_eq (by omega) (by omega)] at h28
    have hnd2 : em_nd (em_k X b) = 2 := by unfold em_nd; rw [if_neg (by omega), if_pos (by omega)]
    obtain ⟨t2, ht2⟩ := Option.ne_none_iff_exists'.mp (fun q => hri.1 b hb ⟨1, by omega, q⟩ : em_w X b 1 ≠ none)
    have hl2 := (hw.2.2.1 b 1 t2 ht2).2
    have hct2 : (nI t2).toNatClampNeg = t2 := nI_clamp (by omega)
    have hed2 : em_ed X b t2 := ⟨⟨hb, 1, by omega, ht2⟩, hk6⟩
    refine ev_aload_n (i := 0) d_MD_reckon_35 rfl rfl ?_
    refine es_getR d_MD_reckon_36 f_MD_35 rfl rfl ?_
    refine ev_aload_n (i := 0) d_MD_reckon_39 rfl rfl ?_
    refine ev_iload_n (i := 1) d_MD_reckon_40 rfl rfl ?_
    refine ev_iload_n (i := 2) d_MD_reckon_41 rfl rfl ?_
    refine ev_iconst (v := 1) d_MD_reckon_42 rfl ?_
    refine es_cVI ls_MD_reckon_43 d_MD_reckon_43 rfl (c_MD_input hw he hm hb (show 1 < 2 by omega)) rfl rfl (Nat.le_of_ble_eq_true rfl) (fun x43 σ43 h43 => ?_) (fun _ _ h => h.elim)
    obtain ⟨rfl, e43⟩ := h43
    rw [e43, ht2, show en (some t2) = nI t2 from rfl]
    refine es_iald d_MD_reckon_46 rfl (ez_vinN (by omega) (by omega)) ?_
    rw [hct2, hC t2 hl2]
    refine ev_istore d_MD_reckon_47 (by decide) ?_
    dsimp only [List.set_cons_zero, List.set_cons_succ]
    refine ev_iload d_MD_reckon_49 rfl ?_
    refine ev_iconst (v := (-1)) d_MD_reckon_51 rfl ?_
    refine ev_icmp_eq d_MD_reckon_52 (fun h52 => ?_) (fun h52 => ?_)
    · rw [ov_none] at h52
      refine ev_iconst (v := (-1)) d_MD_reckon_61 rfl ?_
      refine es_iret d_MD_reckon_62 rfl ⟨Nat.zero_le _, Nat.zero_le _⟩ ⟨_, rfl, ?_⟩
      first
        | exact ⟨⟨none, rfl, Or.inl ⟨rfl, t1, hed1, h52⟩⟩, rfl⟩
        | exact ⟨⟨none, rfl, Or.inl ⟨rfl, t2, hed2, h58⟩⟩, rfl⟩
    · rw [ov_none] at h52
      obtain ⟨x1, hx1⟩ := Option.ne_none_iff_exists'.mp h52
      rw [hx1, show ov (some x1) = eb x1 from rfl]
      refine ev_iload d_MD_reckon_55 rfl ?_
      refine ev_iconst (v := (-1)) d_MD_reckon_57 rfl ?_
      refine ev_icmp_ne d_MD_reckon_58 (fun h58 => ?_) (fun h58 => ?_)
      · first | (rw [ov_none] at h58) | skip
        refine ev_iload_n (i := 3) d_MD_reckon_63 rfl rfl ?_
        refine ev_iconst (v := 2) d_MD_reckon_64 rfl ?_
        refine ev_icmp_ne d_MD_reckon_65 (fun h65 => ?_) (fun h65 => ?_)
        · rw [show (2 : Int32) = nI 2 from rfl, nI_eq (by omega) (by omega)] at h65
          obtain ⟨x2, hx2⟩ := Option.ne_none_iff_exists'.mp h58
          rw [hx2, show ov (some x2) = eb x2 from rfl]
          have hall : ∀ t, em_ed X b t → pv t ≠ none := fun t ht => by
            obtain ⟨⟨-, z, z1, z2⟩, -⟩ := ht
            have : z = 0 ∨ z = 1 := by omega
            rcases this with rfl | rfl
            · rw [ht1] at z2; injection z2 with z2; rw [← z2, hx1]; simp
            · rw [ht2] at z2; injection z2 with z2; rw [← z2, hx2]; simp
          have hv1 : em_vo (gd pv) (em_w X b 0) = x1 := by rw [ht1]; simp [em_vo, gd, hx1]
          have hv2 : em_vo (gd pv) (em_w X b 1) = x2 := by rw [ht2]; simp [em_vo, gd, hx2]
          have halg := eb_alg x1 x2
          refine ev_iload_n (i := 3) d_MD_reckon_75 rfl rfl ?_
          refine ev_iconst (v := 3) d_MD_reckon_76 rfl ?_
          refine ev_icmp_ne d_MD_reckon_77 (fun h77 => ?_) (fun h77 => ?_)
          · rw [show (3 : Int32) = nI 3 from rfl, nI_eq (by omega) (by omega)] at h77
            refine ev_iload_n (i := 3) d_MD_reckon_88 rfl rfl ?_
            refine ev_iconst (v := 4) d_MD_reckon_89 rfl ?_
            refine ev_icmp_ne d_MD_reckon_90 (fun h90 => ?_) (fun h90 => ?_)
            · rw [show (4 : Int32) = nI 4 from rfl, nI_eq (by omega) (by omega)] at h90
              refine ev_iload d_MD_reckon_101 rfl ?_
              refine ev_iload d_MD_reckon_103 rfl ?_
              refine ev_ixor d_MD_reckon_105 ?_
              refine es_iret d_MD_reckon_106 rfl ⟨Nat.zero_le _, Nat.zero_le _⟩ ⟨_, rfl, ?_⟩
              refine ⟨⟨some (em_f X s r (gd pv) b), ?_, Or.inr ⟨rfl, hall⟩⟩, rfl⟩
              show _ = eb (em_f X s r (gd pv) b)
              unfold em_f
              first
                | (rw [if_neg (by omega), if_neg (by omega), if_pos (by omega), hv1]; exact halg.1)
                | (rw [if_neg (by omega), if_neg (by omega), if_neg (by omega), if_pos (by omega), hv1, hv2]; exact halg.2.1)
                | (rw [if_neg (by omega), if_neg (by omega), if_neg (by omega), if_neg (by omega), if_pos (by omega), hv1, hv2]; exact halg.2.2.1)
                | (rw [if_neg (by omega), if_neg (by omega), if_neg (by omega), if_neg (by omega), if_neg (by omega), if_pos (by omega), hv1, hv2]; exact halg.2.2.2)
            · rw [show (4 : Int32) = nI 4 from rfl, nI_eq (by omega) (by omega)] at h90
              refine ev_iload d_MD_reckon_93 rfl ?_
              refine ev_iload d_MD_reckon_95 rfl ?_
              refine ev_ior d_MD_reckon_97 ?_
              refine ev_goto d_MD_reckon_98 ?_
              refine es_iret d_MD_reckon_106 rfl ⟨Nat.zero_le _, Nat.zero_le _⟩ ⟨_, rfl, ?_⟩
              refine ⟨⟨some (em_f X s r (gd pv) b), ?_, Or.inr ⟨rfl, hall⟩⟩, rfl⟩
              show _ = eb (em_f X s r (gd pv) b)
              unfold em_f
              first
                | (rw [if_neg (by omega), if_neg (by omega), if_pos (by omega), hv1]; exact halg.1)
                | (rw [if_neg (by omega), if_neg (by omega), if_neg (by omega), if_pos (by omega), hv1, hv2]; exact halg.2.1)
                | (rw [if_neg (by omega), if_neg (by omega), if_neg (by omega), if_neg (by omega), if_pos (by omega), hv1, hv2]; exact halg.2.2.1)
                | (rw [if_neg (by omega), if_neg (by omega), if_neg (by omega), if_neg (by omega), if_neg (by omega), if_pos (by omega), hv1, hv2]; exact halg.2.2.2)
          · rw [show (3 : Int32) = nI 3 from rfl, nI_eq (by omega) (by omega)] at h77
            refine ev_iload d_MD_reckon_80 rfl ?_
            refine ev_iload d_MD_reckon_82 rfl ?_
            refine ev_iand d_MD_reckon_84 ?_
            refine ev_goto d_MD_reckon_85 ?_
            refine es_iret d_MD_reckon_106 rfl ⟨Nat.zero_le _, Nat.zero_le _⟩ ⟨_, rfl, ?_⟩
            refine ⟨⟨some (em_f X s r (gd pv) b), ?_, Or.inr ⟨rfl, hall⟩⟩, rfl⟩
            show _ = eb (em_f X s r (gd pv) b)
            unfold em_f
            first
              | (rw [if_neg (by omega), if_neg (by omega), if_pos (by omega), hv1]; exact halg.1)
              | (rw [if_neg (by omega), if_neg (by omega), if_neg (by omega), if_pos (by omega), hv1, hv2]; exact halg.2.1)
              | (rw [if_neg (by omega), if_neg (by omega), if_neg (by omega), if_neg (by omega), if_pos (by omega), hv1, hv2]; exact halg.2.2.1)
              | (rw [if_neg (by omega), if_neg (by omega), if_neg (by omega), if_neg (by omega), if_neg (by omega), if_pos (by omega), hv1, hv2]; exact halg.2.2.2)
        · rw [show (2 : Int32) = nI 2 from rfl, nI_eq (by omega) (by omega)] at h65
          omega
      · rw [ov_none] at h58
        refine ev_iconst (v := (-1)) d_MD_reckon_61 rfl ?_
        refine es_iret d_MD_reckon_62 rfl ⟨Nat.zero_le _, Nat.zero_le _⟩ ⟨_, rfl, ?_⟩
        first
          | exact ⟨⟨none, rfl, Or.inl ⟨rfl, t1, hed1, h52⟩⟩, rfl⟩
          | exact ⟨⟨none, rfl, Or.inl ⟨rfl, t2, hed2, h58⟩⟩, rfl⟩
  · rw [show (2 : Int32) = nI 2 from rfl, nI_eq (by omega) (by omega)] at h28
    refine ev_iconst (v := 0) d_MD_reckon_31 rfl ?_
    refine ev_goto d_MD_reckon_32 ?_
    refine ev_istore d_MD_reckon_47 (by decide) ?_
    dsimp only [List.set_cons_zero, List.set_cons_succ]
    refine ev_iload d_MD_reckon_49 rfl ?_
    refine ev_iconst (v := (-1)) d_MD_reckon_51 rfl ?_
    refine ev_icmp_eq d_MD_reckon_52 (fun h52 => ?_) (fun h52 => ?_)
    · rw [ov_none] at h52
      refine ev_iconst (v := (-1)) d_MD_reckon_61 rfl ?_
      refine es_iret d_MD_reckon_62 rfl ⟨Nat.zero_le _, Nat.zero_le _⟩ ⟨_, rfl, ?_⟩
      first
        | exact ⟨⟨none, rfl, Or.inl ⟨rfl, t1, hed1, h52⟩⟩, rfl⟩
        | exact ⟨⟨none, rfl, Or.inl ⟨rfl, t2, hed2, h58⟩⟩, rfl⟩
    · rw [ov_none] at h52
      obtain ⟨x1, hx1⟩ := Option.ne_none_iff_exists'.mp h52
      rw [hx1, show ov (some x1) = eb x1 from rfl]
      refine ev_iload d_MD_reckon_55 rfl ?_
      refine ev_iconst (v := (-1)) d_MD_reckon_57 rfl ?_
      refine ev_icmp_ne d_MD_reckon_58 (fun h58 => ?_) (fun h58 => ?_)
      · first | (rw [ov_none] at h58) | skip
        refine ev_iload_n (i := 3) d_MD_reckon_63 rfl rfl ?_
        refine ev_iconst (v := 2) d_MD_reckon_64 rfl ?_
        refine ev_icmp_ne d_MD_reckon_65 (fun h65 => ?_) (fun h65 => ?_)
        · rw [show (2 : Int32) = nI 2 from rfl, nI_eq (by omega) (by omega)] at h65
          omega
        · rw [show (2 : Int32) = nI 2 from rfl, nI_eq (by omega) (by omega)] at h65
          have hnd1b : em_nd (em_k X b) = 1 := by rw [h65]; rfl
          have hv1 : em_vo (gd pv) (em_w X b 0) = x1 := by rw [ht1]; simp [em_vo, gd, hx1]
          have halg := eb_alg x1 x1
          have hall : ∀ t, em_ed X b t → pv t ≠ none := fun t ht => by
            obtain ⟨⟨-, z, z1, z2⟩, -⟩ := ht
            have : z = 0 := by omega
            subst this
            rw [ht1] at z2; injection z2 with z2; rw [← z2, hx1]; simp
          refine ev_iconst (v := 1) d_MD_reckon_68 rfl ?_
          refine ev_iload d_MD_reckon_69 rfl ?_
          refine ev_isub d_MD_reckon_71 ?_
          refine ev_goto d_MD_reckon_72 ?_
          refine es_iret d_MD_reckon_106 rfl ⟨Nat.zero_le _, Nat.zero_le _⟩ ⟨_, rfl, ?_⟩
          refine ⟨⟨some (em_f X s r (gd pv) b), ?_, Or.inr ⟨rfl, hall⟩⟩, rfl⟩
          show _ = eb (em_f X s r (gd pv) b)
          unfold em_f
          first
            | (rw [if_neg (by omega), if_neg (by omega), if_pos (by omega), hv1]; exact halg.1)
            | (rw [if_neg (by omega), if_neg (by omega), if_neg (by omega), if_pos (by omega), hv1, hv2]; exact halg.2.1)
            | (rw [if_neg (by omega), if_neg (by omega), if_neg (by omega), if_neg (by omega), if_pos (by omega), hv1, hv2]; exact halg.2.2.1)
            | (rw [if_neg (by omega), if_neg (by omega), if_neg (by omega), if_neg (by omega), if_neg (by omega), if_pos (by omega), hv1, hv2]; exact halg.2.2.2)
      · exact absurd h58 (by decide)
theorem lp_MD_settle_127 {X : em_E} {P : Nat} (hw : em_wf P X) {e : Nat} (he : e < 2) (hm : md X e σ) (hP4 : P ≤ 4) (hri : em_right X) {s : Int32} {r : Nat} (hr16 : r < 16) {pv0 : Nat → Option Bool} {w4 : Option Value} (hex : ∀ (g : Bool) (pv : Nat → Option Bool) (σ1 : es_S), vI X (bt s) (tb r) pv → vC pv (em_n X) σ1 → (∀ k, k ≠ 55 → σ1 k = σ k) → (∀ b x, pv0 b = some x → pv b = some x) → (g = true → ∃ b, b < em_n X ∧ pv0 b = none) → (g = false → ∀ b, b < em_n X → pv b ≠ none) → (∀ b, b < em_n X → (∀ t, em_ed X b t → pv0 t ≠ none) → pv b ≠ none) → ez_Ev l G X_MD_settle 0 0 172 [some (.ref 46), some (.int (nI e)), some (.int s), some (.int (nI r)), w4, some (.int (eb g)), none] [] (es_H σ1) (es_Q (es_V fun σ' => (∀ b, b < em_n X → σ' 55 b = eb (em_val X (bt s) (tb r) b)) ∧ ∀ k, k ≠ 55 → σ' k = σ k) es_no)) : ∀ (d : Nat) (u : Nat) (g : Bool) (pv : Nat → Option Bool) (σ1 : es_S), 24 - u = d → (u ≤ em_n X ∧ vI X (bt s) (tb r) pv ∧ vC pv (em_n X) σ1 ∧ (∀ k, k ≠ 55 → σ1 k = σ k) ∧ (∀ b x, pv0 b = some x → pv b = some x) ∧ (g = true → ∃ b, b < em_n X ∧ pv0 b = none) ∧ (g = false → ∀ b, b < u → pv b ≠ none) ∧ (∀ b, b < u → (∀ t, em_ed X b t → pv0 t ≠ none) → pv b ≠ none)) → ez_Ev l G X_MD_settle 0 0 127 [some (.ref 46), some (.int (nI e)), some (.int s), some (.int (nI r)), w4, some (.int (eb g)), some (.int (nI u))] [] (es_H σ1) (es_Q (es_V fun σ' => (∀ b, b < em_n X → σ' 55 b = eb (em_val X (bt s) (tb r) b)) ∧ ∀ k, k ≠ 55 → σ' k = σ k) es_no) := by
  intro d
  induction d using Nat.strongRecOn with
  | _ d ih =>
    intro u g pv σ1 hmm hinv
    obtain ⟨hu, hI, hC, hoff, hmo, hgt, hgf, hfi⟩ := hinv
    have hn := hw.1
    have hm1 : md X e σ1 := md_off hm (fun k g1 g2 => hoff k (by omega))
    have hce : (nI e).toNatClampNeg = e := nI_clamp (by omega)
    refine ev_iload d_MD_settle_127 rfl ?_
    refine ev_aload_n (i := 0) d_MD_settle_129 rfl rfl ?_
    refine es_getR d_MD_settle_130 f_MD_13 rfl rfl ?_
    refine ev_iload_n (i := 1) d_MD_settle_133 rfl rfl ?_
    refine es_iald d_MD_settle_134 rfl (ez_vinN he (by omega)) ?_
    rw [hce, hm1.1]
    refine ev_icmp_ge d_MD_settle_135 (fun h135 => ?_) (fun h135 => ?_)
    · rw [nI_leI (by omega) (by omega)] at h135
      have hue : u = em_n X := by omega
      refine ev_mask [true, true, true, true, true, true, false] rfl (hex g pv σ1 hI hC hoff hmo hgt (fun q b hb => hgf q b (by omega)) (fun b hb => hfi b (by omega)))
    · rw [nI_leI (by omega) (by omega), Nat.not_le] at h135
      have hcu : (nI u).toNatClampNeg = u := nI_clamp (by omega)
      have hCu := hC u h135
      refine ev_aload_n (i := 0) d_MD_settle_138 rfl rfl ?_
      refine es_getR d_MD_settle_139 f_MD_35 rfl rfl ?_
      refine ev_iload d_MD_settle_142 rfl ?_
      refine es_iald d_MD_settle_144 rfl (ez_vinN (by omega) (by omega)) ?_
      refine ev_iconst (v := (-1)) d_MD_settle_145 rfl ?_
      refine ev_icmp_ne d_MD_settle_146 (fun h146 => ?_) (fun h146 => ?_)
      · rw [hcu, hCu, ov_none] at h146
        refine ev_iinc d_MD_settle_166 rfl (ez_inc _) (by decide) ?_
        dsimp only [List.set_cons_zero, List.set_cons_succ]
        refine ev_goto d_MD_settle_169 ?_
        first
          | (refine ih _ (by omega) (u + 1) g pv σ1 rfl ⟨by omega, hI, hC, hoff, hmo, hgt, fun q b hb => ?_, fun b hb => ?_⟩
             · by_cases hbu : b = u
               · rw [hbu]; exact h146
               · exact hgf q b (by omega)
             · by_cases hbu : b = u
               · rw [hbu]; exact fun _ => h146
               · exact hfi b (by omega))
          | (have hp0 : pv0 u = none := by
               cases hq : pv0 u with
               | none => rfl
               | some x => rw [hmo u x hq] at h146; cases h146
             have hof2 : ∀ k, k ≠ 55 → es_up σ1 55 u (ov o) k = σ k := fun k hk => by rw [es_upf _ _ _ _ hk]; exact hoff k hk
             rcases ho with ⟨rfl, t, ht1, ht2⟩ | ⟨rfl, hd⟩
             · refine ih _ (by omega) (u + 1) true pv _ rfl ⟨by omega, hI, fun b hb => ?_, hof2, hmo, fun _ => ⟨u, h135, hp0⟩, (fun q => by cases q), fun b hb hdb => ?_⟩
               · by_cases hbu : b = u
                 · simp [es_upx, hbu, h146]
                 · simp [es_upx, hbu]; exact hC b hb
               · by_cases hbu : b = u
                 · rw [hbu] at hdb
                   have h9 := hdb t ht1
                   obtain ⟨x, hx⟩ := Option.ne_none_iff_exists'.mp h9
                   rw [hmo t x hx] at ht2; cases ht2
                 · exact hfi b (by omega) hdb
             · refine ih _ (by omega) (u + 1) true (fun t => if t = u then some (em_f X (bt s) (tb r) (gd pv) u) else pv t) _ rfl ⟨by omega, vI_put hw hI h146 rfl hd, fun b hb => ?_, hof2, fun b x hbx => ?_, fun _ => ⟨u, h135, hp0⟩, (fun q => by cases q), fun b hb hdb => ?_⟩
               · by_cases hbu : b = u
                 · simp [es_upx, hbu]
                 · simp [es_upx, hbu]; exact hC b hb
               · by_cases hbu : b = u
                 · rw [hbu, hp0] at hbx; cases hbx
                 · simp only [hbu, if_false]; exact hmo b x hbx
               · by_cases hbu : b = u
                 · simp [hbu]
                 · simp only [hbu, if_false]; exact hfi b (by omega) hdb)
      · rw [hcu, hCu, ov_none] at h146
        have hIu := (hI u h135).1
        have hk := hw.2.1 u h135
        have hku2 : 2 ≤ em_k X u := Classical.byContradiction fun q => hIu (by omega) h146
        have hku5 : em_k X u ≤ 5 := Classical.byContradiction fun q => hIu (by omega) h146
        refine ev_aload_n (i := 0) d_MD_settle_149 rfl rfl ?_
        refine es_getR d_MD_settle_150 f_MD_35 rfl rfl ?_
        refine ev_iload d_MD_settle_153 rfl ?_
        refine ev_aload_n (i := 0) d_MD_settle_155 rfl rfl ?_
        refine ev_iload_n (i := 1) d_MD_settle_156 rfl rfl ?_
        refine ev_iload d_MD_settle_157 rfl ?_
        refine es_cVI ls_MD_settle_159 d_MD_settle_159 rfl (c_MD_reckon hw he hm1 hri (s := bt s) (r := tb r) hC h135 hku2 hku5) rfl rfl (Nat.le_of_ble_eq_true rfl) (fun x159 σ159 h159 => ?_) (fun _ _ h => h.elim)
        obtain ⟨⟨o, rfl, ho⟩, e159⟩ := h159
        rw [e159]
        refine es_iast d_MD_settle_162 rfl (ez_vinN (by omega) (by omega)) ?_
        rw [hcu]
        refine ev_iconst (v := 1) d_MD_settle_163 rfl ?_
        refine ev_istore d_MD_settle_164 (by decide) ?_
        dsimp only [List.set_cons_zero, List.set_cons_succ]
        refine ev_iinc d_MD_settle_166 rfl (ez_inc _) (by decide) ?_
        dsimp only [List.set_cons_zero, List.set_cons_succ]
        refine ev_goto d_MD_settle_169 ?_
        first
          | (refine ih _ (by omega) (u + 1) g pv σ1 rfl ⟨by omega, hI, hC, hoff, hmo, hgt, fun q b hb => ?_, fun b hb => ?_⟩
             · by_cases hbu : b = u
               · rw [hbu]; exact h146
               · exact hgf q b (by omega)
             · by_cases hbu : b = u
               · rw [hbu]; exact fun _ => h146
               · exact hfi b (by omega))
          | (have hp0 : pv0 u = none := by
               cases hq : pv0 u with
               | none => rfl
               | some x => rw [hmo u x hq] at h146; cases h146
             have hof2 : ∀ k, k ≠ 55 → es_up σ1 55 u (ov o) k = σ k := fun k hk => by rw [es_upf _ _ _ _ hk]; exact hoff k hk
             rcases ho with ⟨rfl, t, ht1, ht2⟩ | ⟨rfl, hd⟩
             · refine ih _ (by omega) (u + 1) true pv _ rfl ⟨by omega, hI, fun b hb => ?_, hof2, hmo, fun _ => ⟨u, h135, hp0⟩, (fun q => by cases q), fun b hb hdb => ?_⟩
               · by_cases hbu : b = u
                 · simp [es_upx, hbu, h146]
                 · simp [es_upx, hbu]; exact hC b hb
               · by_cases hbu : b = u
                 · rw [hbu] at hdb
                   have h9 := hdb t ht1
                   obtain ⟨x, hx⟩ := Option.ne_none_iff_exists'.mp h9
                   rw [hmo t x hx] at ht2; cases ht2
                 · exact hfi b (by omega) hdb
             · refine ih _ (by omega) (u + 1) true (fun t => if t = u then some (em_f X (bt s) (tb r) (gd pv) u) else pv t) _ rfl ⟨by omega, vI_put hw hI h146 rfl hd, fun b hb => ?_, hof2, fun b x hbx => ?_, fun _ => ⟨u, h135, hp0⟩, (fun q => by cases q), fun b hb hdb => ?_⟩
               · by_cases hbu : b = u
                 · simp [es_upx, hbu]
                 · simp [es_upx, hbu]; exact hC b hb
               · by_cases hbu : b = u
                 · rw [hbu, hp0] at hbx; cases hbx
                 · simp only [hbu, if_false]; exact hmo b x hbx
               · by_cases hbu : b = u
                 · simp [hbu]
                 · simp only [hbu, if_false]; exact hfi b (by omega) hdb)
theorem lp_MD_settle_116 {X : em_E} {P : Nat} (hw : em_wf P X) {e : Nat} (he : e < 2) (hm : md X e σ) (hP4 : P ≤ 4) (hri : em_right X) {s : Int32} {r : Nat} (hr16 : r < 16) {w4 : Option Value} : ∀ (d : Nat) (g : Bool) (pv : Nat → Option Bool) (σ1 : es_S), 2 * (24 - em_ct (fun b => pv b ≠ none) (em_n X)) + bn g = d → (vI X (bt s) (tb r) pv ∧ vC pv (em_n X) σ1 ∧ (∀ k, k ≠ 55 → σ1 k = σ k) ∧ (g = false → ∀ b, b < em_n X → pv b ≠ none)) → ez_Ev l G X_MD_settle 0 0 116 [some (.ref 46), some (.int (nI e)), some (.int s), some (.int (nI r)), w4, some (.int (eb g)), none] [] (es_H σ1) (es_Q (es_V fun σ' => (∀ b, b < em_n X → σ' 55 b = eb (em_val X (bt s) (tb r) b)) ∧ ∀ k, k ≠ 55 → σ' k = σ k) es_no) := by
  intro d
  induction d using Nat.strongRecOn with
  | _ d ih =>
    intro g pv σ1 hmm hinv
    obtain ⟨hI, hC, hoff, hgf⟩ := hinv
    have hn := hw.1
    have hm1 : md X e σ1 := md_off hm (fun k g1 g2 => hoff k (by omega))
    have hce : (nI e).toNatClampNeg = e := nI_clamp (by omega)
    refine ev_iload d_MD_settle_116 rfl ?_
    refine ev_if_eq d_MD_settle_118 (fun h118 => ?_) (fun h118 => ?_)
    · rw [eb_0] at h118
      refine es_vret d_MD_settle_175 rfl ⟨Nat.zero_le _, Nat.zero_le _⟩ ⟨rfl, ?_⟩
      exact ⟨fun b hb => by rw [hC b hb]; exact vI_end hw hri hI (hgf h118) b hb, hoff⟩
    · rw [eb_0, Bool.not_eq_false] at h118
      refine ev_iconst (v := 0) d_MD_settle_121 rfl ?_
      refine ev_istore d_MD_settle_122 (by decide) ?_
      dsimp only [List.set_cons_zero, List.set_cons_succ]
      refine ev_iconst (v := 0) d_MD_settle_124 rfl ?_
      refine ev_istore d_MD_settle_125 (by decide) ?_
      dsimp only [List.set_cons_zero, List.set_cons_succ]
      refine ev_mask [true, true, true, true, true, true, true] rfl ?_
      refine lp_MD_settle_127 hw he hm hP4 hri (s := s) hr16 (pv0 := pv) (w4 := w4) (fun g2 pv2 σ2 k1 k2 k3 k4 k5 k6 k7 => ?_) _ 0 false pv σ1 rfl ⟨Nat.zero_le _, hI, hC, hoff, fun _ _ q => q, (fun q => by cases q), fun _ b hb => absurd hb (Nat.not_lt_zero _), fun b hb => absurd hb (Nat.not_lt_zero _)⟩
      refine ev_goto d_MD_settle_172 ?_
      have hle := em_ct_le (p := fun b => pv b ≠ none) (q := fun b => pv2 b ≠ none) (em_n X) (fun b _ q => by obtain ⟨x, hx⟩ := Option.ne_none_iff_exists'.mp q; rw [k4 b x hx]; simp)
      have hn2 := em_ct_n (fun b => pv2 b ≠ none) (em_n X)
      refine ih _ ?_ g2 pv2 σ2 rfl ⟨k1, k2, k3, k6⟩
      cases g2 with
      | true =>
        obtain ⟨b0, b1, b2⟩ := k5 rfl
        obtain ⟨m0, ⟨m1, m2⟩, m3⟩ := em_min (p := fun b => b < em_n X ∧ pv b = none) (em_rk X) ⟨b1, b2⟩
        have hlt := em_ct_lt (p := fun b => pv b ≠ none) (q := fun b => pv2 b ≠ none) (em_n X) (fun b _ q => by obtain ⟨x, hx⟩ := Option.ne_none_iff_exists'.mp q; rw [k4 b x hx]; simp) m0 m1 (k7 m0 m1 (fun t ht q => by
          have hrk := em_rk_lt hw hri ht
          obtain ⟨⟨-, z, -, z2⟩, -⟩ := ht
          have := m3 t ⟨(hw.2.2.1 m0 z t z2).2, q⟩
          omega)) (fun q => q m2)
        simp only [h118, bn, if_true] at hmm ⊢; omega
      | false => simp only [h118, bn, if_true, Bool.false_eq_true, if_false] at hmm ⊢; omega
theorem vI_0 {X : em_E} {P : Nat} (hw : em_wf P X) {s r : Nat → Bool} {pv : Nat → Option Bool} (h : ∀ b, b < em_n X → pv b = if em_k X b = 0 ∨ em_k X b = 1 ∨ em_k X b = 6 then some (em_f X s r (fun _ => false) b) else none) : vI X s r pv := fun b hb => by
  rw [h b hb]
  by_cases hk : em_k X b = 0 ∨ em_k X b = 1 ∨ em_k X b = 6
  · rw [if_pos hk]
    refine ⟨fun _ => by simp, fun x hx => ⟨?_, fun t ht => absurd ht (em_ed_no hk)⟩⟩
    injection hx with hx
    rw [← hx]
    exact em_f_eq hw hb (fun t ht => absurd ht (em_ed_no hk))
  · rw [if_neg hk]
    exact ⟨fun q => absurd q hk, fun x hx => by cases hx⟩
def v0 (X : em_E) (s r : Nat → Bool) (b : Nat) : Option Bool := if em_k X b = 0 ∨ em_k X b = 1 ∨ em_k X b = 6 then some (em_f X s r (fun _ => false) b) else none
theorem lp_MD_settle_6 {X : em_E} {P : Nat} (hw : em_wf P X) {e : Nat} (he : e < 2) (hm : md X e σ) (hP4 : P ≤ 4) (hri : em_right X) {s : Int32} {r : Nat} (hr16 : r < 16) : ∀ (d : Nat) (b : Nat) (σ1 : es_S), em_n X - b = d → (b ≤ em_n X ∧ vC (v0 X (bt s) (tb r)) b σ1 ∧ (∀ k, k ≠ 55 → σ1 k = σ k)) → ez_Ev l G X_MD_settle 0 0 6 [some (.ref 46), some (.int (nI e)), some (.int s), some (.int (nI r)), some (.int (nI (em_dl X b))), some (.int (nI b)), none] [] (es_H σ1) (es_Q (es_V fun σ' => (∀ b, b < em_n X → σ' 55 b = eb (em_val X (bt s) (tb r) b)) ∧ ∀ k, k ≠ 55 → σ' k = σ k) es_no) := by
  intro d
  induction d using Nat.strongRecOn with
  | _ d ih =>
    intro b σ1 hmm hinv
    obtain ⟨hb, hC, hoff⟩ := hinv
    have hn := hw.1
    have hm1 : md X e σ1 := md_off hm (fun k g1 g2 => hoff k (by omega))
    have hce : (nI e).toNatClampNeg = e := nI_clamp (by omega)
    have hdl : em_dl X (b + 1) = em_dl X b + if em_k X b = 6 then 1 else 0 := rfl
    refine ev_iload d_MD_settle_6 rfl ?_
    refine ev_aload_n (i := 0) d_MD_settle_8 rfl rfl ?_
    refine es_getR d_MD_settle_9 f_MD_13 rfl rfl ?_
    refine ev_iload_n (i := 1) d_MD_settle_12 rfl rfl ?_
    refine es_iald d_MD_settle_13 rfl (ez_vinN he (by omega)) ?_
    rw [hce, hm1.1]
    refine ev_icmp_ge d_MD_settle_14 (fun h14 => ?_) (fun h14 => ?_)
    · rw [nI_leI (by omega) (by omega)] at h14
      refine ev_iconst (v := 1) d_MD_settle_113 rfl ?_
      refine ev_istore d_MD_settle_114 (by decide) ?_
      dsimp only [List.set_cons_zero, List.set_cons_succ]
      refine ev_mask [true, true, true, true, true, true, false] rfl ?_
      have hbe : b = em_n X := by omega
      subst hbe
      exact lp_MD_settle_116 hw he hm hP4 hri (s := s) hr16 _ true _ σ1 rfl ⟨vI_0 hw (fun _ _ => rfl), hC, hoff, (fun q => by cases q)⟩
    · rw [nI_leI (by omega) (by omega), Nat.not_le] at h14
      have hk := hw.2.1 b h14
      have hcK : (nI (24 * e + b)).toNatClampNeg = 24 * e + b := nI_clamp (by omega)
      have hcb : (nI b).toNatClampNeg = b := nI_clamp (by omega)
      refine ev_bipush (v := 24) d_MD_settle_17 rfl ?_
      refine ev_iload_n (i := 1) d_MD_settle_19 rfl rfl ?_
      refine ev_imul d_MD_settle_20 ?_
      refine ev_iload d_MD_settle_21 rfl ?_
      refine ev_iadd d_MD_settle_23 ?_
      rw [ix24]
      refine ev_istore d_MD_settle_24 (by decide) ?_
      dsimp only [List.set_cons_zero, List.set_cons_succ]
      refine ev_aload_n (i := 0) d_MD_settle_26 rfl rfl ?_
      refine es_getR d_MD_settle_27 f_MD_35 rfl rfl ?_
      refine ev_iload d_MD_settle_30 rfl ?_
      refine ev_aload_n (i := 0) d_MD_settle_32 rfl rfl ?_
      refine es_getR d_MD_settle_33 f_MD_17 rfl rfl ?_
      refine ev_iload d_MD_settle_36 rfl ?_
      refine es_iald d_MD_settle_38 rfl (ez_vinN (by omega) (by omega)) ?_
      rw [hcK, hoff 49 (by decide), (hm.2.1 b h14).1]
      refine ev_if_ne d_MD_settle_39 (fun h39 => ?_) (fun h39 => ?_)
      · rw [show (0 : Int32) = nI 0 from rfl, nI_eq (by omega) (by omega)] at h39
        refine ev_aload_n (i := 0) d_MD_settle_56 rfl rfl ?_
        refine es_getR d_MD_settle_57 f_MD_17 rfl rfl ?_
        refine ev_iload d_MD_settle_60 rfl ?_
        refine es_iald d_MD_settle_62 rfl (ez_vinN (by omega) (by omega)) ?_
        rw [hcK, hoff 49 (by decide), (hm.2.1 b h14).1]
        refine ev_iconst (v := 1) d_MD_settle_63 rfl ?_
        refine ev_icmp_ne d_MD_settle_64 (fun h64 => ?_) (fun h64 => ?_)
        · rw [show (1 : Int32) = nI 1 from rfl, nI_eq (by omega) (by omega)] at h64
          refine ev_iconst (v := (-1)) d_MD_settle_77 rfl ?_
          refine es_iast d_MD_settle_78 rfl (ez_vinN (by omega) (by omega)) ?_
          rw [hcb]
          refine ev_aload_n (i := 0) d_MD_settle_79 rfl rfl ?_
          refine es_getR d_MD_settle_80 f_MD_17 rfl rfl ?_
          refine ev_iload d_MD_settle_83 rfl ?_
          refine es_iald d_MD_settle_85 rfl (ez_vinN (by omega) (by omega)) ?_
          rw [hcK, es_upf _ _ _ _ (show (49 : Nat) ≠ 55 by decide), hoff 49 (by decide), (hm.2.1 b h14).1]
          refine ev_bipush (v := 6) d_MD_settle_86 rfl ?_
          refine ev_icmp_ne d_MD_settle_88 (fun h88 => ?_) (fun h88 => ?_)
          · rw [show (6 : Int32) = nI 6 from rfl, nI_eq (by omega) (by omega)] at h88
            refine ev_iinc d_MD_settle_107 rfl (ez_inc _) (by decide) ?_
            dsimp only [List.set_cons_zero, List.set_cons_succ]
            refine ev_goto d_MD_settle_110 ?_
            refine ev_mask [true, true, true, true, true, true, false] rfl ?_
            first
              | (rw [if_pos h88] at hdl
                 rw [← hdl]
                 refine ih _ (by omega) (b + 1) _ rfl ⟨by omega, fun u hu => ?_, fun k hk => by rw [es_upf _ _ _ _ hk, es_upf _ _ _ _ hk]; exact hoff k hk⟩
                 by_cases hub : u = b
                 · simp only [es_upx, hub, if_true]
                   unfold v0
                   rw [if_pos (Or.inr (Or.inr h88))]
                   show _ = eb (em_f X (bt s) (tb r) (fun _ => false) b)
                   unfold em_f
                   rw [if_neg (by omega), if_neg (by omega), if_neg (by omega), if_neg (by omega), if_neg (by omega), if_neg (by omega)]
                 · simp only [es_upx, hub, if_true, if_false]; exact hC u (by omega))
              | (have hdl2 : em_dl X (b + 1) = em_dl X b := by rw [hdl, if_neg h88]; rfl
                 rw [← hdl2]
                 refine ih _ (by omega) (b + 1) _ rfl ⟨by omega, fun u hu => ?_, fun k hk => by rw [es_upf _ _ _ _ hk]; exact hoff k hk⟩
                 by_cases hub : u = b
                 · simp only [es_upx, hub, if_true]
                   unfold v0
                   first
                     | (rw [if_pos (Or.inl h39)]
                        show _ = eb (em_f X (bt s) (tb r) (fun _ => false) b)
                        unfold em_f
                        rw [if_pos h39, hq1, nI_clamp (by omega)])
                     | (rw [if_pos (Or.inr (Or.inl h64))]
                        show _ = eb (em_f X (bt s) (tb r) (fun _ => false) b)
                        unfold em_f
                        rw [if_neg (by omega), if_pos h64]
                        rcases hw.2.2.2.2.2.1 b h14 h64 with h0 | h0
                        · rw [h0]; rfl
                        · rw [h0]; rfl)
                     | (rw [if_neg (by omega)]
                        rfl)
                 · simp only [es_upx, hub, if_true, if_false]; exact hC u (by omega))
          · rw [show (6 : Int32) = nI 6 from rfl, nI_eq (by omega) (by omega)] at h88
            have hd6 := em_dl_lt h14 h88
            have hd5 := hw.2.2.2.2.2.2
            refine ev_aload_n (i := 0) d_MD_settle_91 rfl rfl ?_
            refine es_getR d_MD_settle_92 f_MD_35 rfl rfl ?_
            refine ev_iload d_MD_settle_95 rfl ?_
            refine ev_iload_n (i := 2) d_MD_settle_97 rfl rfl ?_
            refine ev_iload d_MD_settle_98 rfl ?_
            refine ev_ishr d_MD_settle_100 ?_
            refine ev_iconst (v := 1) d_MD_settle_101 rfl ?_
            refine ev_iand d_MD_settle_102 ?_
            rw [sh_b _ (by omega)]
            refine es_iast d_MD_settle_103 rfl (ez_vinN (by omega) (by omega)) ?_
            rw [hcb]
            refine ev_iinc d_MD_settle_104 rfl (ez_inc _) (by decide) ?_
            dsimp only [List.set_cons_zero, List.set_cons_succ]
            refine ev_iinc d_MD_settle_107 rfl (ez_inc _) (by decide) ?_
            dsimp only [List.set_cons_zero, List.set_cons_succ]
            refine ev_goto d_MD_settle_110 ?_
            refine ev_mask [true, true, true, true, true, true, false] rfl ?_
            first
              | (rw [if_pos h88] at hdl
                 rw [← hdl]
                 refine ih _ (by omega) (b + 1) _ rfl ⟨by omega, fun u hu => ?_, fun k hk => by rw [es_upf _ _ _ _ hk, es_upf _ _ _ _ hk]; exact hoff k hk⟩
                 by_cases hub : u = b
                 · simp only [es_upx, hub, if_true]
                   unfold v0
                   rw [if_pos (Or.inr (Or.inr h88))]
                   show _ = eb (em_f X (bt s) (tb r) (fun _ => false) b)
                   unfold em_f
                   rw [if_neg (by omega), if_neg (by omega), if_neg (by omega), if_neg (by omega), if_neg (by omega), if_neg (by omega)]
                 · simp only [es_upx, hub, if_true, if_false]; exact hC u (by omega))
              | (have hdl2 : em_dl X (b + 1) = em_dl X b := by rw [hdl, if_neg h88]; rfl
                 rw [← hdl2]
                 refine ih _ (by omega) (b + 1) _ rfl ⟨by omega, fun u hu => ?_, fun k hk => by rw [es_upf _ _ _ _ hk]; exact hoff k hk⟩
                 by_cases hub : u = b
                 · simp only [es_upx, hub, if_true]
                   unfold v0
                   first
                     | (rw [if_pos (Or.inl h39)]
                        show _ = eb (em_f X (bt s) (tb r) (fun _ => false) b)
                        unfold em_f
                        rw [if_pos h39, hq1, nI_clamp (by omega)])
                     | (rw [if_pos (Or.inr (Or.inl h64))]
                        show _ = eb (em_f X (bt s) (tb r) (fun _ => false) b)
                        unfold em_f
                        rw [if_neg (by omega), if_pos h64]
                        rcases hw.2.2.2.2.2.1 b h14 h64 with h0 | h0
                        · rw [h0]; rfl
                        · rw [h0]; rfl)
                     | (rw [if_neg (by omega)]
                        rfl)
                 · simp only [es_upx, hub, if_true, if_false]; exact hC u (by omega))
        · rw [show (1 : Int32) = nI 1 from rfl, nI_eq (by omega) (by omega)] at h64
          refine ev_aload_n (i := 0) d_MD_settle_67 rfl rfl ?_
          refine es_getR d_MD_settle_68 f_MD_20 rfl rfl ?_
          refine ev_iload d_MD_settle_71 rfl ?_
          refine es_iald d_MD_settle_73 rfl (ez_vinN (by omega) (by omega)) ?_
          rw [hcK, hoff 50 (by decide), (hm.2.1 b h14).2.1]
          refine ev_goto d_MD_settle_74 ?_
          refine es_iast d_MD_settle_78 rfl (ez_vinN (by omega) (by omega)) ?_
          rw [hcb]
          refine ev_aload_n (i := 0) d_MD_settle_79 rfl rfl ?_
          refine es_getR d_MD_settle_80 f_MD_17 rfl rfl ?_
          refine ev_iload d_MD_settle_83 rfl ?_
          refine es_iald d_MD_settle_85 rfl (ez_vinN (by omega) (by omega)) ?_
          rw [hcK, es_upf _ _ _ _ (show (49 : Nat) ≠ 55 by decide), hoff 49 (by decide), (hm.2.1 b h14).1]
          refine ev_bipush (v := 6) d_MD_settle_86 rfl ?_
          refine ev_icmp_ne d_MD_settle_88 (fun h88 => ?_) (fun h88 => ?_)
          · rw [show (6 : Int32) = nI 6 from rfl, nI_eq (by omega) (by omega)] at h88
            refine ev_iinc d_MD_settle_107 rfl (ez_inc _) (by decide) ?_
            dsimp only [List.set_cons_zero, List.set_cons_succ]
            refine ev_goto d_MD_settle_110 ?_
            refine ev_mask [true, true, true, true, true, true, false] rfl ?_
            first
              | (rw [if_pos h88] at hdl
                 rw [← hdl]
                 refine ih _ (by omega) (b + 1) _ rfl ⟨by omega, fun u hu => ?_, fun k hk => by rw [es_upf _ _ _ _ hk, es_upf _ _ _ _ hk]; exact hoff k hk⟩
                 by_cases hub : u = b
                 · simp only [es_upx, hub, if_true]
                   unfold v0
                   rw [if_pos (Or.inr (Or.inr h88))]
                   show _ = eb (em_f X (bt s) (tb r) (fun _ => false) b)
                   unfold em_f
                   rw [if_neg (by omega), if_neg (by omega), if_neg (by omega), if_neg (by omega), if_neg (by omega), if_neg (by omega)]
                 · simp only [es_upx, hub, if_true, if_false]; exact hC u (by omega))
              | (have hdl2 : em_dl X (b + 1) = em_dl X b := by rw [hdl, if_neg h88]; rfl
                 rw [← hdl2]
                 refine ih _ (by omega) (b + 1) _ rfl ⟨by omega, fun u hu => ?_, fun k hk => by rw [es_upf _ _ _ _ hk]; exact hoff k hk⟩
                 by_cases hub : u = b
                 · simp only [es_upx, hub, if_true]
                   unfold v0
                   first
                     | (rw [if_pos (Or.inl h39)]
                        show _ = eb (em_f X (bt s) (tb r) (fun _ => false) b)
                        unfold em_f
                        rw [if_pos h39, hq1, nI_clamp (by omega)])
                     | (rw [if_pos (Or.inr (Or.inl h64))]
                        show _ = eb (em_f X (bt s) (tb r) (fun _ => false) b)
                        unfold em_f
                        rw [if_neg (by omega), if_pos h64]
                        rcases hw.2.2.2.2.2.1 b h14 h64 with h0 | h0
                        · rw [h0]; rfl
                        · rw [h0]; rfl)
                     | (rw [if_neg (by omega)]
                        rfl)
                 · simp only [es_upx, hub, if_true, if_false]; exact hC u (by omega))
          · rw [show (6 : Int32) = nI 6 from rfl, nI_eq (by omega) (by omega)] at h88
            omega
      · rw [show (0 : Int32) = nI 0 from rfl, nI_eq (by omega) (by omega)] at h39
        obtain ⟨q, hq1, hq2⟩ := hw.2.2.2.2.1 b h14 h39
        refine ev_iload_n (i := 3) d_MD_settle_42 rfl rfl ?_
        refine ev_aload_n (i := 0) d_MD_settle_43 rfl rfl ?_
        refine es_getR d_MD_settle_44 f_MD_20 rfl rfl ?_
        refine ev_iload d_MD_settle_47 rfl ?_
        refine es_iald d_MD_settle_49 rfl (ez_vinN (by omega) (by omega)) ?_
        rw [hcK, hoff 50 (by decide), (hm.2.1 b h14).2.1, hq1]
        refine ev_ishr d_MD_settle_50 ?_
        refine ev_iconst (v := 1) d_MD_settle_51 rfl ?_
        refine ev_iand d_MD_settle_52 ?_
        rw [sh_b _ (by omega), bt_nI _ (by omega)]
        refine ev_goto d_MD_settle_53 ?_
        refine es_iast d_MD_settle_78 rfl (ez_vinN (by omega) (by omega)) ?_
        rw [hcb]
        refine ev_aload_n (i := 0) d_MD_settle_79 rfl rfl ?_
        refine es_getR d_MD_settle_80 f_MD_17 rfl rfl ?_
        refine ev_iload d_MD_settle_83 rfl ?_
        refine es_iald d_MD_settle_85 rfl (ez_vinN (by omega) (by omega)) ?_
        rw [hcK, es_upf _ _ _ _ (show (49 : Nat) ≠ 55 by decide), hoff 49 (by decide), (hm.2.1 b h14).1]
        refine ev_bipush (v := 6) d_MD_settle_86 rfl ?_
        refine ev_icmp_ne d_MD_settle_88 (fun h88 => ?_) (fun h88 => ?_)
        · rw [show (6 : Int32) = nI 6 from rfl, nI_eq (by omega) (by omega)] at h88
          refine ev_iinc d_MD_settle_107 rfl (ez_inc _) (by decide) ?_
          dsimp only [List.set_cons_zero, List.set_cons_succ]
          refine ev_goto d_MD_settle_110 ?_
          refine ev_mask [true, true, true, true, true, true, false] rfl ?_
          first
            | (rw [if_pos h88] at hdl
               rw [← hdl]
               refine ih _ (by omega) (b + 1) _ rfl ⟨by omega, fun u hu => ?_, fun k hk => by rw [es_upf _ _ _ _ hk, es_upf _ _ _ _ hk]; exact hoff k hk⟩
               by_cases hub : u = b
               · simp only [es_upx, hub, if_true]
                 unfold v0
                 rw [if_pos (Or.inr (Or.inr h88))]
                 show _ = eb (em_f X (bt s) (tb r) (fun _ => false) b)
                 unfold em_f
                 rw [if_neg (by omega), if_neg (by omega), if_neg (by omega), if_neg (by omega), if_neg (by omega), if_neg (by omega)]
               · simp only [es_upx, hub, if_true, if_false]; exact hC u (by omega))
            | (have hdl2 : em_dl X (b + 1) = em_dl X b := by rw [hdl, if_neg h88]; rfl
               rw [← hdl2]
               refine ih _ (by omega) (b + 1) _ rfl ⟨by omega, fun u hu => ?_, fun k hk => by rw [es_upf _ _ _ _ hk]; exact hoff k hk⟩
               by_cases hub : u = b
               · simp only [es_upx, hub, if_true]
                 unfold v0
                 first
                   | (rw [if_pos (Or.inl h39)]
                      show _ = eb (em_f X (bt s) (tb r) (fun _ => false) b)
                      unfold em_f
                      rw [if_pos h39, hq1, nI_clamp (by omega)])
                   | (rw [if_pos (Or.inr (Or.inl h64))]
                      show _ = eb (em_f X (bt s) (tb r) (fun _ => false) b)
                      unfold em_f
                      rw [if_neg (by omega), if_pos h64]
                      rcases hw.2.2.2.2.2.1 b h14 h64 with h0 | h0
                      · rw [h0]; rfl
                      · rw [h0]; rfl)
                   | (rw [if_neg (by omega)]
                      rfl)
               · simp only [es_upx, hub, if_true, if_false]; exact hC u (by omega))
        · rw [show (6 : Int32) = nI 6 from rfl, nI_eq (by omega) (by omega)] at h88
          omega
theorem c_MD_settle {X : em_E} {P : Nat} (hw : em_wf P X) {e : Nat} (he : e < 2) (hm : md X e σ) (hP4 : P ≤ 4) (hri : em_right X) {s : Int32} {r : Nat} (hr16 : r < 16) : ez_Ct l G X_MD_settle [.ref 46, .int (nI e), .int s, .int (nI r)] (es_H σ) (es_Q (es_V fun σ' => (∀ b, b < em_n X → σ' 55 b = eb (em_val X (bt s) (tb r) b)) ∧ ∀ k, k ≠ 55 → σ' k = σ k) es_no) := by
  refine es_Ct_of (ls := [some (.ref 46), some (.int (nI e)), some (.int s), some (.int (nI r)), none, none, none]) ok_MD_settle rfl (Nat.le_of_ble_eq_true rfl) rfl ?_
  refine ev_iconst (v := 0) d_MD_settle_0 rfl ?_
  refine ev_istore d_MD_settle_1 (by decide) ?_
  dsimp only [List.set_cons_zero, List.set_cons_succ]
  refine ev_iconst (v := 0) d_MD_settle_3 rfl ?_
  refine ev_istore d_MD_settle_4 (by decide) ?_
  dsimp only [List.set_cons_zero, List.set_cons_succ]
  exact lp_MD_settle_6 hw he hm hP4 hri (s := s) hr16 _ 0 σ rfl ⟨Nat.zero_le _, fun u hu => absurd hu (Nat.not_lt_zero _), fun _ _ => rfl⟩
end
