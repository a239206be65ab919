/-! ===== Model: what is reached ===== -/
section
variable {l : Launch} {G : ez_G} {σ : es_S}
theorem ix32 {e b : Nat} : (32 : Int32) * nI e + nI b = nI (32 * e + b) := by rw [show (32 : Int32) = nI 32 from rfl, nI_mul, nI_add]
theorem ix16 {a b : Nat} : (16 : Int32) * nI a + nI b = nI (16 * a + b) := by rw [show (16 : Int32) = nI 16 from rfl, nI_mul, nI_add]
theorem ix32m {e : Nat} : (32 : Int32) * nI e = nI (32 * e) := by rw [show (32 : Int32) = nI 32 from rfl, nI_mul]
noncomputable def xv (X : em_E) (s r : Nat) : Nat := em_ou X s r + 8 * em_nx X s r
theorem xv_d (X : em_E) (s r : Nat) : xv X s r / 8 = em_nx X s r ∧ xv X s r % 8 = em_ou X s r := by
  have h : em_ou X s r < 8 := em_os_lt X _
  unfold xv
  exact ⟨by omega, by omega⟩
theorem xv_lt {X : em_E} {P : Nat} (hw : em_wf P X) (s r : Nat) : xv X s r < 256 := by
  have h : em_ou X s r < 8 := em_os_lt X _
  have h1 := em_nx_lt X s r
  have h2 := Nat.pow_le_pow_right (n := 2) (by omega) hw.2.2.2.2.2.2
  unfold xv
  omega
/-- the model's table of an edition -/
def xt (X : em_E) (P e : Nat) (σ : es_S) : Prop := ∀ s r, s < 2 ^ em_dl X (em_n X) → r < 2 ^ P → σ 56 (16 * (32 * e + s) + r) = nI (xv X s r)
/-- the model's marks of states -/
def xc (c : Nat → Bool) (e : Nat) (σ : es_S) : Prop := ∀ s, s < 32 → σ 57 (32 * e + s) = eb (c s)
theorem val_nI {X : em_E} {P : Nat} (hw : em_wf P X) (s : Nat) (r : Nat → Bool) : em_val X (bt (nI s)) r = em_val X (tb s) r := by
  funext b
  exact em_val_s hw (fun i hi => bt_nI s (by omega)) b
/-- a pass over the marks: at state s, row r; c0 as it began -/
def xP (nx : Nat → Nat → Nat) (op : Nat → Prop) (c0 : Nat → Bool) (g : Bool) (c : Nat → Bool) (s r : Nat) : Prop :=
  (∀ t, c0 t = true → c t = true) ∧ (∀ t, c t = true → em_rch nx op t) ∧ c 0 = true ∧ (g = true → em_ct (fun t => c0 t = true) 32 < em_ct (fun t => c t = true) 32) ∧
  (g = false → (∀ t, c t = true → c0 t = true) ∧ (∀ u q, u < s → op q → c u = true → c (nx u q) = true) ∧ (∀ q, q < r → op q → c s = true → c (nx s q) = true))
def xn (c : Nat → Bool) (a : Nat) (v : Bool) : Nat → Bool := fun t => if t = a then (c t || v) else c t
theorem xn_eq (c : Nat → Bool) (a : Nat) (v : Bool) : xn c a v a = (c a || v) := if_pos rfl
theorem xn_ne (c : Nat → Bool) {a t : Nat} (v : Bool) (h : t ≠ a) : xn c a v t = c t := if_neg h
theorem xP_step {nx : Nat → Nat → Nat} {op : Nat → Prop} {c0 : Nat → Bool} {g : Bool} {c : Nat → Bool} {s r : Nat} (h : xP nx op c0 g c s r) (hn : nx s r < 32) (hs : c s = true) {bb : Bool} (hb : bb = false ↔ op r) :
    xP nx op c0 (g || (!bb && !c (nx s r))) (xn c (nx s r) (!bb)) s (r + 1) := by
  obtain ⟨h1, h2, h3, h4, h5⟩ := h
  have hup : ∀ t, c t = true → xn c (nx s r) (!bb) t = true := fun t ht => by
    by_cases q : t = nx s r
    · rw [q, xn_eq, ← q, ht]; rfl
    · rw [xn_ne c _ q]; exact ht
  have hle := em_ct_le (p := fun t => c t = true) (q := fun t => xn c (nx s r) (!bb) t = true) 32 (fun t _ ht => hup t ht)
  refine ⟨fun t ht => hup t (h1 t ht), fun t ht => ?_, hup 0 h3, fun hg => ?_, fun hg => ?_⟩
  · by_cases q : t = nx s r
    · rw [q, xn_eq] at ht
      cases hc : c (nx s r) with
      | true => rw [q]; exact h2 _ hc
      | false =>
        rw [hc] at ht
        have : bb = false := by cases bb <;> simp_all
        rw [q]
        exact em_rch_n (h2 s hs) (hb.mp this)
    · rw [xn_ne c _ q] at ht; exact h2 t ht
  · cases hgg : g with
    | true => exact Nat.lt_of_lt_of_le (h4 hgg) hle
    | false =>
      rw [hgg] at hg
      have hq : bb = false ∧ c (nx s r) = false := by cases bb <;> cases hc : c (nx s r) <;> simp_all
      have hlt := em_ct_lt (p := fun t => c t = true) (q := fun t => xn c (nx s r) (!bb) t = true) 32 (fun t _ ht => hup t ht) (nx s r) hn (by rw [xn_eq, hq.1]; simp) (by rw [hq.2]; decide)
      have hle0 := em_ct_le (p := fun t => c0 t = true) (q := fun t => c t = true) 32 (fun t _ ht => h1 t ht)
      exact Nat.lt_of_le_of_lt hle0 hlt
  · have hgg : g = false := by cases g <;> simp_all
    have hq : bb = true ∨ c (nx s r) = true := by cases bb <;> cases hc : c (nx s r) <;> simp_all
    have hsame : ∀ t, xn c (nx s r) (!bb) t = true → c t = true := fun t ht => by
      by_cases q : t = nx s r
      · rw [q, xn_eq] at ht
        rcases hq with hq | hq
        · rw [hq] at ht; rw [q]; simpa using ht
        · rw [q]; exact hq
      · rw [xn_ne c _ q] at ht; exact ht
    obtain ⟨k1, k2, k3⟩ := h5 hgg
    refine ⟨fun t ht => k1 t (hsame t ht), fun u q hu ho hcu => hup _ (k2 u q hu ho (hsame u hcu)), fun q hqr ho hcs => ?_⟩
    by_cases hqe : q = r
    · have : bb = false := hb.mpr (by rw [← hqe]; exact ho)
      rw [hqe, xn_eq, this]; simp
    · exact hup _ (k3 q (by omega) ho (hsame s hcs))
theorem xP_next {nx : Nat → Nat → Nat} {op : Nat → Prop} {c0 : Nat → Bool} {g : Bool} {c : Nat → Bool} {s r : Nat} (h : xP nx op c0 g c s r) (hr : c s = false ∨ ∀ q, op q → q < r) : xP nx op c0 g c (s + 1) 0 := by
  refine ⟨h.1, h.2.1, h.2.2.1, h.2.2.2.1, fun hg => ?_⟩
  obtain ⟨k1, k2, k3⟩ := h.2.2.2.2 hg
  refine ⟨k1, fun u q hu ho hc => ?_, fun q hq => absurd hq (Nat.not_lt_zero _)⟩
  by_cases hus : u = s
  · rw [hus] at hc ⊢
    rcases hr with hr | hr
    · rw [hr] at hc; cases hc
    · exact k3 q (hr q ho) ho hc
  · exact k2 u q (by omega) ho hc
theorem lp_MD_explore_112 {X : em_E} {P : Nat} (hw : em_wf P X) {e : Nat} (he : e < 2) (hm : md X e σ) (hP4 : P ≤ 4) (hri : em_right X) (h1c : σ 46 1 = nI P) {op : Nat → Prop} (hop : ∀ r, op r → r < 2 ^ P) (hbr : ∀ r, r < 2 ^ P → ∃ c : Bool, σ 47 r = eb c ∧ (c = false ↔ op r)) {s : Nat} (hs : s < 2 ^ em_dl X (em_n X)) {c0 : Nat → Bool} (hex : ∀ (g : Bool) (c : Nat → Bool) (σ1 : es_S), xt X P e σ1 → xc c e σ1 → ((∀ x, (x < 512 * e ∨ 512 * e + 512 ≤ x) → σ1 56 x = σ 56 x) ∧ (∀ x, (x < 32 * e ∨ 32 * e + 32 ≤ x) → σ1 57 x = σ 57 x) ∧ ∀ k, k ≠ 55 → k ≠ 56 → k ≠ 57 → σ1 k = σ k) → xP (em_nx X) op c0 g c (s + 1) 0 → ez_Ev l G X_MD_explore 0 0 234 [some (.ref 46), some (.int (nI e)), some (.int (nI (2 ^ em_dl X (em_n X)))), some (.int (eb g)), some (.int (nI s)), none, none] [] (es_H σ1) (es_Q (es_V fun σ' => xt X P e σ' ∧ xc (fun s => bd (em_rch (em_nx X) op s)) e σ' ∧ (∀ x, (x < 512 * e ∨ 512 * e + 512 ≤ x) → σ' 56 x = σ 56 x) ∧ (∀ x, (x < 32 * e ∨ 32 * e + 32 ≤ x) → σ' 57 x = σ 57 x) ∧ ∀ k, k ≠ 55 → k ≠ 56 → k ≠ 57 → σ' k = σ k) es_no)) : ∀ (d : Nat) (r : Nat) (g : Bool) (c : Nat → Bool) (σ1 : es_S), 16 - r = d → (r ≤ 2 ^ P ∧ xt X P e σ1 ∧ xc c e σ1 ∧ ((∀ x, (x < 512 * e ∨ 512 * e + 512 ≤ x) → σ1 56 x = σ 56 x) ∧ (∀ x, (x < 32 * e ∨ 32 * e + 32 ≤ x) → σ1 57 x = σ 57 x) ∧ ∀ k, k ≠ 55 → k ≠ 56 → k ≠ 57 → σ1 k = σ k) ∧ xP (em_nx X) op c0 g c s r) → ez_Ev l G X_MD_explore 0 0 112 [some (.ref 46), some (.int (nI e)), some (.int (nI (2 ^ em_dl X (em_n X)))), some (.int (eb g)), some (.int (nI s)), some (.int (nI r)), none] [] (es_H σ1) (es_Q (es_V fun σ' => xt X P e σ' ∧ xc (fun s => bd (em_rch (em_nx X) op s)) e σ' ∧ (∀ x, (x < 512 * e ∨ 512 * e + 512 ≤ x) → σ' 56 x = σ 56 x) ∧ (∀ x, (x < 32 * e ∨ 32 * e + 32 ≤ x) → σ' 57 x = σ 57 x) ∧ ∀ k, k ≠ 55 → k ≠ 56 → k ≠ 57 → σ' k = σ k) es_no) := by
  intro d
  induction d using Nat.strongRecOn with
  | _ d ih =>
    intro r g c σ1 hmm hinv
    obtain ⟨hr, hxt, hxc, hoff, hxp⟩ := hinv
    have hn := hw.1
    have hN : 2 ^ em_dl X (em_n X) ≤ 2 ^ 5 := Nat.pow_le_pow_right (by omega) hw.2.2.2.2.2.2
    have hP16 : 2 ^ P ≤ 2 ^ 4 := Nat.pow_le_pow_right (by omega) hP4
    have hm1 : md X e σ1 := md_off hm (fun k g1 g2 => hoff.2.2 k (by omega) (by omega) (by omega))
    have h1d : σ1 46 1 = nI P := by rw [hoff.2.2 46 (by decide) (by decide) (by decide)]; exact h1c
    have hcs : (nI (32 * e + s)).toNatClampNeg = 32 * e + s := nI_clamp (by omega)
    have hcs2 := hxc s (by omega)
    refine ev_iload d_MD_explore_112 rfl ?_
    refine ev_iconst (v := 1) d_MD_explore_114 rfl ?_
    refine ev_aload_n (i := 0) d_MD_explore_115 rfl rfl ?_
    refine es_getI d_MD_explore_116 f_MD_62 rfl rfl ?_
    rw [h1d]
    refine ev_ishl d_MD_explore_119 ?_
    rw [shl1 (by omega)]
    refine ev_icmp_ge d_MD_explore_120 (fun h120 => ?_) (fun h120 => ?_)
    · rw [nI_leI (by omega) (by omega)] at h120
      refine ev_mask [true, true, true, true, true, false, false] rfl (hex g c σ1 hxt hxc hoff (xP_next hxp ?_))
      first | exact Or.inl h135 | exact Or.inr (fun q hq => by have := hop q hq; omega)
    · rw [nI_leI (by omega) (by omega), Nat.not_le] at h120
      refine ev_aload_n (i := 0) d_MD_explore_123 rfl rfl ?_
      refine es_getR d_MD_explore_124 f_MD_41 rfl rfl ?_
      refine ev_bipush (v := 32) d_MD_explore_127 rfl ?_
      refine ev_iload_n (i := 1) d_MD_explore_129 rfl rfl ?_
      refine ev_imul d_MD_explore_130 ?_
      refine ev_iload d_MD_explore_131 rfl ?_
      refine ev_iadd d_MD_explore_133 ?_
      rw [ix32]
      refine es_zald d_MD_explore_134 rfl (ez_vinN (by omega) (by omega)) ?_
      rw [hcs, hcs2]
      refine ev_if_eq d_MD_explore_135 (fun h135 => ?_) (fun h135 => ?_)
      · rw [eb_0] at h135
        refine ev_mask [true, true, true, true, true, false, false] rfl (hex g c σ1 hxt hxc hoff (xP_next hxp ?_))
        first | exact Or.inl h135 | exact Or.inr (fun q hq => by have := hop q hq; omega)
      · rw [eb_0, Bool.not_eq_false] at h135
        obtain ⟨bb, hb1, hbb⟩ := hbr r h120
        have hxl := xv_lt hw s r
        have hnl := em_nx_lt X s r
        have hcn : (nI (32 * e + em_nx X s r)).toNatClampNeg = 32 * e + em_nx X s r := nI_clamp (by omega)
        have hcn2 := hxc (em_nx X s r) (by omega)
        refine ev_bipush (v := 32) d_MD_explore_138 rfl ?_
        refine ev_iload_n (i := 1) d_MD_explore_140 rfl rfl ?_
        refine ev_imul d_MD_explore_141 ?_
        rw [ix32m]
        refine ev_aload_n (i := 0) d_MD_explore_142 rfl rfl ?_
        refine es_getR d_MD_explore_143 f_MD_38 rfl rfl ?_
        refine ev_bipush (v := 16) d_MD_explore_146 rfl ?_
        refine ev_bipush (v := 32) d_MD_explore_148 rfl ?_
        refine ev_iload_n (i := 1) d_MD_explore_150 rfl rfl ?_
        refine ev_imul d_MD_explore_151 ?_
        refine ev_iload d_MD_explore_152 rfl ?_
        refine ev_iadd d_MD_explore_154 ?_
        rw [ix32]
        refine ev_imul d_MD_explore_155 ?_
        refine ev_iload d_MD_explore_156 rfl ?_
        refine ev_iadd d_MD_explore_158 ?_
        rw [ix16]
        refine es_iald d_MD_explore_159 rfl (ez_vinN (by omega) (by omega)) ?_
        rw [nI_clamp (by omega), hxt s r hs h120]
        refine ev_bipush (v := 8) d_MD_explore_160 rfl ?_
        refine ev_idiv d_MD_explore_162 (by decide) ?_
        rw [show (8 : Int32) = nI 8 from rfl, pk_div (by omega) (by omega) (by omega), (xv_d X s r).1]
        refine ev_iadd d_MD_explore_163 ?_
        rw [nI_add]
        refine ev_istore d_MD_explore_164 (by decide) ?_
        dsimp only [List.set_cons_zero, List.set_cons_succ]
        refine ev_iload_n (i := 3) d_MD_explore_166 rfl rfl ?_
        refine ev_if_ne d_MD_explore_167 (fun h167 => ?_) (fun h167 => ?_)
        · rw [eb_0, Bool.not_eq_false] at h167
          refine ev_iconst (v := 1) d_MD_explore_190 rfl ?_
          refine ev_goto d_MD_explore_191 ?_
          refine ev_istore_n (i := 3) d_MD_explore_195 rfl (by decide) ?_
          dsimp only [List.set_cons_zero, List.set_cons_succ]
          refine ev_aload_n (i := 0) d_MD_explore_196 rfl rfl ?_
          refine es_getR d_MD_explore_197 f_MD_41 rfl rfl ?_
          refine ev_iload d_MD_explore_200 rfl ?_
          refine ev_aload_n (i := 0) d_MD_explore_202 rfl rfl ?_
          refine es_getR d_MD_explore_203 f_MD_41 rfl rfl ?_
          refine ev_iload d_MD_explore_206 rfl ?_
          refine es_zald d_MD_explore_208 rfl (ez_vinN (by omega) (by omega)) ?_
          rw [hcn, hcn2]
          refine ev_if_ne d_MD_explore_209 (fun h209 => ?_) (fun h209 => ?_)
          · rw [eb_0, Bool.not_eq_false] at h209
            refine ev_iconst (v := 1) d_MD_explore_222 rfl ?_
            refine ev_goto d_MD_explore_223 ?_
            refine es_zast d_MD_explore_227 rfl (ez_vinN (by omega) (by omega)) ?_
            rw [hcn]
            refine ev_iinc d_MD_explore_228 rfl (ez_inc _) (by decide) ?_
            dsimp only [List.set_cons_zero, List.set_cons_succ]
            refine ev_goto d_MD_explore_231 ?_
            refine ev_mask [true, true, true, true, true, true, false] rfl ?_
            have hG : (g || (!bb && !c (em_nx X s r))) = true := by simp [h167]
            have hV : (c (em_nx X s r) || !bb) = true := by simp [h209]
            have hst := xP_step hxp (show em_nx X s r < 32 by omega) h135 hbb
            have := ih _ (by omega) (r + 1) (g || (!bb && !c (em_nx X s r))) (xn c (em_nx X s r) (!bb)) (es_up σ1 57 (32 * e + em_nx X s r) (vp_nar .boolean 1)) rfl ⟨by omega, fun s2 r2 g1 g2 => by rw [es_upf _ _ _ _ (by decide)]; exact hxt s2 r2 g1 g2, fun s2 hs2 => ?_, ⟨by rw [es_upf _ _ _ _ (by decide)]; exact hoff.1, fun x hx => by rw [es_upx, if_pos rfl, if_neg (by omega)]; exact hoff.2.1 x hx, fun k k1 k2 k3 => by rw [es_upf _ _ _ _ k3]; exact hoff.2.2 k k1 k2 k3⟩, hst⟩
            · rw [hG] at this; exact this
            · by_cases hse : s2 = em_nx X s r
              · rw [hse, es_upx, if_pos rfl, if_pos rfl, xn_eq, hV]; rfl
              · rw [es_upx, if_pos rfl, if_neg (by omega), xn_ne c _ hse]; exact hxc s2 hs2
          · rw [eb_0] at h209
            refine ev_aload_n (i := 0) d_MD_explore_212 rfl rfl ?_
            refine es_getR d_MD_explore_213 f_MD_7 rfl rfl ?_
            refine ev_iload d_MD_explore_216 rfl ?_
            refine es_zald d_MD_explore_218 rfl (ez_vinN (by omega) (by omega)) ?_
            rw [nI_clamp (show r < 2 ^ 31 by omega), hoff.2.2 47 (by decide) (by decide) (by decide), hb1]
            refine ev_if_ne d_MD_explore_219 (fun h219 => ?_) (fun h219 => ?_)
            · rw [eb_0, Bool.not_eq_false] at h219
              refine ev_iconst (v := 0) d_MD_explore_226 rfl ?_
              refine es_zast d_MD_explore_227 rfl (ez_vinN (by omega) (by omega)) ?_
              rw [hcn]
              refine ev_iinc d_MD_explore_228 rfl (ez_inc _) (by decide) ?_
              dsimp only [List.set_cons_zero, List.set_cons_succ]
              refine ev_goto d_MD_explore_231 ?_
              refine ev_mask [true, true, true, true, true, true, false] rfl ?_
              have hG : (g || (!bb && !c (em_nx X s r))) = true := by simp [h167]
              have hV : (c (em_nx X s r) || !bb) = false := by simp [h209, h219]
              have hst := xP_step hxp (show em_nx X s r < 32 by omega) h135 hbb
              have := ih _ (by omega) (r + 1) (g || (!bb && !c (em_nx X s r))) (xn c (em_nx X s r) (!bb)) (es_up σ1 57 (32 * e + em_nx X s r) (vp_nar .boolean 0)) rfl ⟨by omega, fun s2 r2 g1 g2 => by rw [es_upf _ _ _ _ (by decide)]; exact hxt s2 r2 g1 g2, fun s2 hs2 => ?_, ⟨by rw [es_upf _ _ _ _ (by decide)]; exact hoff.1, fun x hx => by rw [es_upx, if_pos rfl, if_neg (by omega)]; exact hoff.2.1 x hx, fun k k1 k2 k3 => by rw [es_upf _ _ _ _ k3]; exact hoff.2.2 k k1 k2 k3⟩, hst⟩
              · rw [hG] at this; exact this
              · by_cases hse : s2 = em_nx X s r
                · rw [hse, es_upx, if_pos rfl, if_pos rfl, xn_eq, hV]; rfl
                · rw [es_upx, if_pos rfl, if_neg (by omega), xn_ne c _ hse]; exact hxc s2 hs2
            · rw [eb_0] at h219
              refine ev_iconst (v := 1) d_MD_explore_222 rfl ?_
              refine ev_goto d_MD_explore_223 ?_
              refine es_zast d_MD_explore_227 rfl (ez_vinN (by omega) (by omega)) ?_
              rw [hcn]
              refine ev_iinc d_MD_explore_228 rfl (ez_inc _) (by decide) ?_
              dsimp only [List.set_cons_zero, List.set_cons_succ]
              refine ev_goto d_MD_explore_231 ?_
              refine ev_mask [true, true, true, true, true, true, false] rfl ?_
              have hG : (g || (!bb && !c (em_nx X s r))) = true := by simp [h167]
              have hV : (c (em_nx X s r) || !bb) = true := by simp [h209, h219]
              have hst := xP_step hxp (show em_nx X s r < 32 by omega) h135 hbb
              have := ih _ (by omega) (r + 1) (g || (!bb && !c (em_nx X s r))) (xn c (em_nx X s r) (!bb)) (es_up σ1 57 (32 * e + em_nx X s r) (vp_nar .boolean 1)) rfl ⟨by omega, fun s2 r2 g1 g2 => by rw [es_upf _ _ _ _ (by decide)]; exact hxt s2 r2 g1 g2, fun s2 hs2 => ?_, ⟨by rw [es_upf _ _ _ _ (by decide)]; exact hoff.1, fun x hx => by rw [es_upx, if_pos rfl, if_neg (by omega)]; exact hoff.2.1 x hx, fun k k1 k2 k3 => by rw [es_upf _ _ _ _ k3]; exact hoff.2.2 k k1 k2 k3⟩, hst⟩
              · rw [hG] at this; exact this
              · by_cases hse : s2 = em_nx X s r
                · rw [hse, es_upx, if_pos rfl, if_pos rfl, xn_eq, hV]; rfl
                · rw [es_upx, if_pos rfl, if_neg (by omega), xn_ne c _ hse]; exact hxc s2 hs2
        · rw [eb_0] at h167
          refine ev_aload_n (i := 0) d_MD_explore_170 rfl rfl ?_
          refine es_getR d_MD_explore_171 f_MD_7 rfl rfl ?_
          refine ev_iload d_MD_explore_174 rfl ?_
          refine es_zald d_MD_explore_176 rfl (ez_vinN (by omega) (by omega)) ?_
          rw [nI_clamp (show r < 2 ^ 31 by omega), hoff.2.2 47 (by decide) (by decide) (by decide), hb1]
          refine ev_if_ne d_MD_explore_177 (fun h177 => ?_) (fun h177 => ?_)
          · rw [eb_0, Bool.not_eq_false] at h177
            refine ev_iconst (v := 0) d_MD_explore_194 rfl ?_
            refine ev_istore_n (i := 3) d_MD_explore_195 rfl (by decide) ?_
            dsimp only [List.set_cons_zero, List.set_cons_succ]
            refine ev_aload_n (i := 0) d_MD_explore_196 rfl rfl ?_
            refine es_getR d_MD_explore_197 f_MD_41 rfl rfl ?_
            refine ev_iload d_MD_explore_200 rfl ?_
            refine ev_aload_n (i := 0) d_MD_explore_202 rfl rfl ?_
            refine es_getR d_MD_explore_203 f_MD_41 rfl rfl ?_
            refine ev_iload d_MD_explore_206 rfl ?_
            refine es_zald d_MD_explore_208 rfl (ez_vinN (by omega) (by omega)) ?_
            rw [hcn, hcn2]
            refine ev_if_ne d_MD_explore_209 (fun h209 => ?_) (fun h209 => ?_)
            · rw [eb_0, Bool.not_eq_false] at h209
              refine ev_iconst (v := 1) d_MD_explore_222 rfl ?_
              refine ev_goto d_MD_explore_223 ?_
              refine es_zast d_MD_explore_227 rfl (ez_vinN (by omega) (by omega)) ?_
              rw [hcn]
              refine ev_iinc d_MD_explore_228 rfl (ez_inc _) (by decide) ?_
              dsimp only [List.set_cons_zero, List.set_cons_succ]
              refine ev_goto d_MD_explore_231 ?_
              refine ev_mask [true, true, true, true, true, true, false] rfl ?_
              have hG : (g || (!bb && !c (em_nx X s r))) = false := by simp [h167, h177]
              have hV : (c (em_nx X s r) || !bb) = true := by simp [h209]
              have hst := xP_step hxp (show em_nx X s r < 32 by omega) h135 hbb
              have := ih _ (by omega) (r + 1) (g || (!bb && !c (em_nx X s r))) (xn c (em_nx X s r) (!bb)) (es_up σ1 57 (32 * e + em_nx X s r) (vp_nar .boolean 1)) rfl ⟨by omega, fun s2 r2 g1 g2 => by rw [es_upf _ _ _ _ (by decide)]; exact hxt s2 r2 g1 g2, fun s2 hs2 => ?_, ⟨by rw [es_upf _ _ _ _ (by decide)]; exact hoff.1, fun x hx => by rw [es_upx, if_pos rfl, if_neg (by omega)]; exact hoff.2.1 x hx, fun k k1 k2 k3 => by rw [es_upf _ _ _ _ k3]; exact hoff.2.2 k k1 k2 k3⟩, hst⟩
              · rw [hG] at this; exact this
              · by_cases hse : s2 = em_nx X s r
                · rw [hse, es_upx, if_pos rfl, if_pos rfl, xn_eq, hV]; rfl
                · rw [es_upx, if_pos rfl, if_neg (by omega), xn_ne c _ hse]; exact hxc s2 hs2
            · rw [eb_0] at h209
              refine ev_aload_n (i := 0) d_MD_explore_212 rfl rfl ?_
              refine es_getR d_MD_explore_213 f_MD_7 rfl rfl ?_
              refine ev_iload d_MD_explore_216 rfl ?_
              refine es_zald d_MD_explore_218 rfl (ez_vinN (by omega) (by omega)) ?_
              rw [nI_clamp (show r < 2 ^ 31 by omega), hoff.2.2 47 (by decide) (by decide) (by decide), hb1]
              refine ev_if_ne d_MD_explore_219 (fun h219 => ?_) (fun h219 => ?_)
              · rw [eb_0, Bool.not_eq_false] at h219
                refine ev_iconst (v := 0) d_MD_explore_226 rfl ?_
                refine es_zast d_MD_explore_227 rfl (ez_vinN (by omega) (by omega)) ?_
                rw [hcn]
                refine ev_iinc d_MD_explore_228 rfl (ez_inc _) (by decide) ?_
                dsimp only [List.set_cons_zero, List.set_cons_succ]
                refine ev_goto d_MD_explore_231 ?_
                refine ev_mask [true, true, true, true, true, true, false] rfl ?_
                have hG : (g || (!bb && !c (em_nx X s r))) = false := by simp [h167, h177]
                have hV : (c (em_nx X s r) || !bb) = false := by simp [h209, h219]
                have hst := xP_step hxp (show em_nx X s r < 32 by omega) h135 hbb
                have := ih _ (by omega) (r + 1) (g || (!bb && !c (em_nx X s r))) (xn c (em_nx X s r) (!bb)) (es_up σ1 57 (32 * e + em_nx X s r) (vp_nar .boolean 0)) rfl ⟨by omega, fun s2 r2 g1 g2 => by rw [es_upf _ _ _ _ (by decide)]; exact hxt s2 r2 g1 g2, fun s2 hs2 => ?_, ⟨by rw [es_upf _ _ _ _ (by decide)]; exact hoff.1, fun x hx => by rw [es_upx, if_pos rfl, if_neg (by omega)]; exact hoff.2.1 x hx, fun k k1 k2 k3 => by rw [es_upf _ _ _ _ k3]; exact hoff.2.2 k k1 k2 k3⟩, hst⟩
                · rw [hG] at this; exact this
                · by_cases hse : s2 = em_nx X s r
                  · rw [hse, es_upx, if_pos rfl, if_pos rfl, xn_eq, hV]; rfl
                  · rw [es_upx, if_pos rfl, if_neg (by omega), xn_ne c _ hse]; exact hxc s2 hs2
              · rw [eb_0] at h219
                rw [h177] at h219; cases h219
          · rw [eb_0] at h177
            refine ev_aload_n (i := 0) d_MD_explore_180 rfl rfl ?_
            refine es_getR d_MD_explore_181 f_MD_41 rfl rfl ?_
            refine ev_iload d_MD_explore_184 rfl ?_
            refine es_zald d_MD_explore_186 rfl (ez_vinN (by omega) (by omega)) ?_
            rw [hcn, hcn2]
            refine ev_if_ne d_MD_explore_187 (fun h187 => ?_) (fun h187 => ?_)
            · rw [eb_0, Bool.not_eq_false] at h187
              refine ev_iconst (v := 0) d_MD_explore_194 rfl ?_
              refine ev_istore_n (i := 3) d_MD_explore_195 rfl (by decide) ?_
              dsimp only [List.set_cons_zero, List.set_cons_succ]
              refine ev_aload_n (i := 0) d_MD_explore_196 rfl rfl ?_
              refine es_getR d_MD_explore_197 f_MD_41 rfl rfl ?_
              refine ev_iload d_MD_explore_200 rfl ?_
              refine ev_aload_n (i := 0) d_MD_explore_202 rfl rfl ?_
              refine es_getR d_MD_explore_203 f_MD_41 rfl rfl ?_
              refine ev_iload d_MD_explore_206 rfl ?_
              refine es_zald d_MD_explore_208 rfl (ez_vinN (by omega) (by omega)) ?_
              rw [hcn, hcn2]
              refine ev_if_ne d_MD_explore_209 (fun h209 => ?_) (fun h209 => ?_)
              · rw [eb_0, Bool.not_eq_false] at h209
                refine ev_iconst (v := 1) d_MD_explore_222 rfl ?_
                refine ev_goto d_MD_explore_223 ?_
                refine es_zast d_MD_explore_227 rfl (ez_vinN (by omega) (by omega)) ?_
                rw [hcn]
                refine ev_iinc d_MD_explore_228 rfl (ez_inc _) (by decide) ?_
                dsimp only [List.set_cons_zero, List.set_cons_succ]
                refine ev_goto d_MD_explore_231 ?_
                refine ev_mask [true, true, true, true, true, true, false] rfl ?_
                have hG : (g || (!bb && !c (em_nx X s r))) = false := by simp [h167, h177, h187]
                have hV : (c (em_nx X s r) || !bb) = true := by simp [h209]
                have hst := xP_step hxp (show em_nx X s r < 32 by omega) h135 hbb
                have := ih _ (by omega) (r + 1) (g || (!bb && !c (em_nx X s r))) (xn c (em_nx X s r) (!bb)) (es_up σ1 57 (32 * e + em_nx X s r) (vp_nar .boolean 1)) rfl ⟨by omega, fun s2 r2 g1 g2 => by rw [es_upf _ _ _ _ (by decide)]; exact hxt s2 r2 g1 g2, fun s2 hs2 => ?_, ⟨by rw [es_upf _ _ _ _ (by decide)]; exact hoff.1, fun x hx => by rw [es_upx, if_pos rfl, if_neg (by omega)]; exact hoff.2.1 x hx, fun k k1 k2 k3 => by rw [es_upf _ _ _ _ k3]; exact hoff.2.2 k k1 k2 k3⟩, hst⟩
                · rw [hG] at this; exact this
                · by_cases hse : s2 = em_nx X s r
                  · rw [hse, es_upx, if_pos rfl, if_pos rfl, xn_eq, hV]; rfl
                  · rw [es_upx, if_pos rfl, if_neg (by omega), xn_ne c _ hse]; exact hxc s2 hs2
              · rw [eb_0] at h209
                rw [h187] at h209; cases h209
            · rw [eb_0] at h187
              refine ev_iconst (v := 1) d_MD_explore_190 rfl ?_
              refine ev_goto d_MD_explore_191 ?_
              refine ev_istore_n (i := 3) d_MD_explore_195 rfl (by decide) ?_
              dsimp only [List.set_cons_zero, List.set_cons_succ]
              refine ev_aload_n (i := 0) d_MD_explore_196 rfl rfl ?_
              refine es_getR d_MD_explore_197 f_MD_41 rfl rfl ?_
              refine ev_iload d_MD_explore_200 rfl ?_
              refine ev_aload_n (i := 0) d_MD_explore_202 rfl rfl ?_
              refine es_getR d_MD_explore_203 f_MD_41 rfl rfl ?_
              refine ev_iload d_MD_explore_206 rfl ?_
              refine es_zald d_MD_explore_208 rfl (ez_vinN (by omega) (by omega)) ?_
              rw [hcn, hcn2]
              refine ev_if_ne d_MD_explore_209 (fun h209 => ?_) (fun h209 => ?_)
              · rw [eb_0, Bool.not_eq_false] at h209
                rw [h187] at h209; cases h209
              · rw [eb_0] at h209
                refine ev_aload_n (i := 0) d_MD_explore_212 rfl rfl ?_
                refine es_getR d_MD_explore_213 f_MD_7 rfl rfl ?_
                refine ev_iload d_MD_explore_216 rfl ?_
                refine es_zald d_MD_explore_218 rfl (ez_vinN (by omega) (by omega)) ?_
                rw [nI_clamp (show r < 2 ^ 31 by omega), hoff.2.2 47 (by decide) (by decide) (by decide), hb1]
                refine ev_if_ne d_MD_explore_219 (fun h219 => ?_) (fun h219 => ?_)
                · rw [eb_0, Bool.not_eq_false] at h219
                  rw [h177] at h219; cases h219
                · rw [eb_0] at h219
                  refine ev_iconst (v := 1) d_MD_explore_222 rfl ?_
                  refine ev_goto d_MD_explore_223 ?_
                  refine es_zast d_MD_explore_227 rfl (ez_vinN (by omega) (by omega)) ?_
                  rw [hcn]
                  refine ev_iinc d_MD_explore_228 rfl (ez_inc _) (by decide) ?_
                  dsimp only [List.set_cons_zero, List.set_cons_succ]
                  refine ev_goto d_MD_explore_231 ?_
                  refine ev_mask [true, true, true, true, true, true, false] rfl ?_
                  have hG : (g || (!bb && !c (em_nx X s r))) = true := by simp [h167, h177, h187]
                  have hV : (c (em_nx X s r) || !bb) = true := by simp [h209, h219]
                  have hst := xP_step hxp (show em_nx X s r < 32 by omega) h135 hbb
                  have := ih _ (by omega) (r + 1) (g || (!bb && !c (em_nx X s r))) (xn c (em_nx X s r) (!bb)) (es_up σ1 57 (32 * e + em_nx X s r) (vp_nar .boolean 1)) rfl ⟨by omega, fun s2 r2 g1 g2 => by rw [es_upf _ _ _ _ (by decide)]; exact hxt s2 r2 g1 g2, fun s2 hs2 => ?_, ⟨by rw [es_upf _ _ _ _ (by decide)]; exact hoff.1, fun x hx => by rw [es_upx, if_pos rfl, if_neg (by omega)]; exact hoff.2.1 x hx, fun k k1 k2 k3 => by rw [es_upf _ _ _ _ k3]; exact hoff.2.2 k k1 k2 k3⟩, hst⟩
                  · rw [hG] at this; exact this
                  · by_cases hse : s2 = em_nx X s r
                    · rw [hse, es_upx, if_pos rfl, if_pos rfl, xn_eq, hV]; rfl
                    · rw [es_upx, if_pos rfl, if_neg (by omega), xn_ne c _ hse]; exact hxc s2 hs2
theorem lp_MD_explore_103 {X : em_E} {P : Nat} (hw : em_wf P X) {e : Nat} (he : e < 2) (hm : md X e σ) (hP4 : P ≤ 4) (hri : em_right X) (h1c : σ 46 1 = nI P) {op : Nat → Prop} (hop : ∀ r, op r → r < 2 ^ P) (hbr : ∀ r, r < 2 ^ P → ∃ c : Bool, σ 47 r = eb c ∧ (c = false ↔ op r)) {c0 : Nat → Bool} (hex : ∀ (g : Bool) (c : Nat → Bool) (σ1 : es_S), xt X P e σ1 → xc c e σ1 → ((∀ x, (x < 512 * e ∨ 512 * e + 512 ≤ x) → σ1 56 x = σ 56 x) ∧ (∀ x, (x < 32 * e ∨ 32 * e + 32 ≤ x) → σ1 57 x = σ 57 x) ∧ ∀ k, k ≠ 55 → k ≠ 56 → k ≠ 57 → σ1 k = σ k) → xP (em_nx X) op c0 g c (2 ^ em_dl X (em_n X)) 0 → ez_Ev l G X_MD_explore 0 0 240 [some (.ref 46), some (.int (nI e)), some (.int (nI (2 ^ em_dl X (em_n X)))), some (.int (eb g)), none, none, none] [] (es_H σ1) (es_Q (es_V fun σ' => xt X P e σ' ∧ xc (fun s => bd (em_rch (em_nx X) op s)) e σ' ∧ (∀ x, (x < 512 * e ∨ 512 * e + 512 ≤ x) → σ' 56 x = σ 56 x) ∧ (∀ x, (x < 32 * e ∨ 32 * e + 32 ≤ x) → σ' 57 x = σ 57 x) ∧ ∀ k, k ≠ 55 → k ≠ 56 → k ≠ 57 → σ' k = σ k) es_no)) : ∀ (d : Nat) (s : Nat) (g : Bool) (c : Nat → Bool) (σ1 : es_S), 32 - s = d → (s ≤ 2 ^ em_dl X (em_n X) ∧ xt X P e σ1 ∧ xc c e σ1 ∧ ((∀ x, (x < 512 * e ∨ 512 * e + 512 ≤ x) → σ1 56 x = σ 56 x) ∧ (∀ x, (x < 32 * e ∨ 32 * e + 32 ≤ x) → σ1 57 x = σ 57 x) ∧ ∀ k, k ≠ 55 → k ≠ 56 → k ≠ 57 → σ1 k = σ k) ∧ xP (em_nx X) op c0 g c s 0) → ez_Ev l G X_MD_explore 0 0 103 [some (.ref 46), some (.int (nI e)), some (.int (nI (2 ^ em_dl X (em_n X)))), some (.int (eb g)), some (.int (nI s)), none, none] [] (es_H σ1) (es_Q (es_V fun σ' => xt X P e σ' ∧ xc (fun s => bd (em_rch (em_nx X) op s)) e σ' ∧ (∀ x, (x < 512 * e ∨ 512 * e + 512 ≤ x) → σ' 56 x = σ 56 x) ∧ (∀ x, (x < 32 * e ∨ 32 * e + 32 ≤ x) → σ' 57 x = σ 57 x) ∧ ∀ k, k ≠ 55 → k ≠ 56 → k ≠ 57 → σ' k = σ k) es_no) := by
  intro d
  induction d using Nat.strongRecOn with
  | _ d ih =>
    intro s g c σ1 hmm hinv
    obtain ⟨hs, hxt, hxc, hoff, hxp⟩ := hinv
    have hn := hw.1
    have hN : 2 ^ em_dl X (em_n X) ≤ 2 ^ 5 := Nat.pow_le_pow_right (by omega) hw.2.2.2.2.2.2
    have hP16 : 2 ^ P ≤ 2 ^ 4 := Nat.pow_le_pow_right (by omega) hP4
    have hm1 : md X e σ1 := md_off hm (fun k g1 g2 => hoff.2.2 k (by omega) (by omega) (by omega))
    have h1d : σ1 46 1 = nI P := by rw [hoff.2.2 46 (by decide) (by decide) (by decide)]; exact h1c
    refine ev_iload d_MD_explore_103 rfl ?_
    refine ev_iload_n (i := 2) d_MD_explore_105 rfl rfl ?_
    refine ev_icmp_ge d_MD_explore_106 (fun h106 => ?_) (fun h106 => ?_)
    · rw [nI_leI (by omega) (by omega)] at h106
      have hse : s = 2 ^ em_dl X (em_n X) := by omega
      rw [hse] at hxp
      exact ev_mask [true, true, true, true, false, false, false] rfl (hex g c σ1 hxt hxc hoff hxp)
    · rw [nI_leI (by omega) (by omega), Nat.not_le] at h106
      refine ev_iconst (v := 0) d_MD_explore_109 rfl ?_
      refine ev_istore d_MD_explore_110 (by decide) ?_
      dsimp only [List.set_cons_zero, List.set_cons_succ]
      refine lp_MD_explore_112 hw he hm hP4 hri h1c hop hbr h106 (c0 := c0) (fun g2 c2 σ2 k1 k2 k3 k4 => ?_) _ 0 g c σ1 rfl ⟨Nat.zero_le _, hxt, hxc, hoff, hxp⟩
      refine ev_iinc d_MD_explore_234 rfl (ez_inc _) (by decide) ?_
      dsimp only [List.set_cons_zero, List.set_cons_succ]
      refine ev_goto d_MD_explore_237 ?_
      exact ih _ (by omega) (s + 1) g2 c2 σ2 rfl ⟨by omega, k1, k2, k3, k4⟩
theorem em_rch_lt {nx : Nat → Nat → Nat} {op : Nat → Prop} {N s : Nat} (h : em_rch nx op s) (hn : ∀ s r, nx s r < N) (h0 : 0 < N) : s < N := h (fun s => s < N) h0 (fun t r _ _ => hn t r)
theorem lp_MD_explore_94 {X : em_E} {P : Nat} (hw : em_wf P X) {e : Nat} (he : e < 2) (hm : md X e σ) (hP4 : P ≤ 4) (hri : em_right X) (h1c : σ 46 1 = nI P) {op : Nat → Prop} (hop : ∀ r, op r → r < 2 ^ P) (hbr : ∀ r, r < 2 ^ P → ∃ c : Bool, σ 47 r = eb c ∧ (c = false ↔ op r)) : ∀ (d : Nat) (g : Bool) (c : Nat → Bool) (σ1 : es_S), 2 * (32 - em_ct (fun t => c t = true) 32) + bn g = d → (xt X P e σ1 ∧ xc c e σ1 ∧ ((∀ x, (x < 512 * e ∨ 512 * e + 512 ≤ x) → σ1 56 x = σ 56 x) ∧ (∀ x, (x < 32 * e ∨ 32 * e + 32 ≤ x) → σ1 57 x = σ 57 x) ∧ ∀ k, k ≠ 55 → k ≠ 56 → k ≠ 57 → σ1 k = σ k) ∧ (∀ t, c t = true → em_rch (em_nx X) op t) ∧ c 0 = true ∧ (g = false → ∀ u q, op q → c u = true → c (em_nx X u q) = true)) → ez_Ev l G X_MD_explore 0 0 94 [some (.ref 46), some (.int (nI e)), some (.int (nI (2 ^ em_dl X (em_n X)))), some (.int (eb g)), none, none, none] [] (es_H σ1) (es_Q (es_V fun σ' => xt X P e σ' ∧ xc (fun s => bd (em_rch (em_nx X) op s)) e σ' ∧ (∀ x, (x < 512 * e ∨ 512 * e + 512 ≤ x) → σ' 56 x = σ 56 x) ∧ (∀ x, (x < 32 * e ∨ 32 * e + 32 ≤ x) → σ' 57 x = σ 57 x) ∧ ∀ k, k ≠ 55 → k ≠ 56 → k ≠ 57 → σ' k = σ k) es_no) := by
  intro d
  induction d using Nat.strongRecOn with
  | _ d ih =>
    intro g c σ1 hmm hinv
    obtain ⟨hxt, hxc, hoff, hsn, hc0, hcl⟩ := hinv
    have hn := hw.1
    have hN : 2 ^ em_dl X (em_n X) ≤ 2 ^ 5 := Nat.pow_le_pow_right (by omega) hw.2.2.2.2.2.2
    have hP16 : 2 ^ P ≤ 2 ^ 4 := Nat.pow_le_pow_right (by omega) hP4
    have hm1 : md X e σ1 := md_off hm (fun k g1 g2 => hoff.2.2 k (by omega) (by omega) (by omega))
    have h1d : σ1 46 1 = nI P := by rw [hoff.2.2 46 (by decide) (by decide) (by decide)]; exact h1c
    refine ev_iload_n (i := 3) d_MD_explore_94 rfl rfl ?_
    refine ev_if_eq d_MD_explore_95 (fun h95 => ?_) (fun h95 => ?_)
    · rw [eb_0] at h95
      refine es_vret d_MD_explore_243 rfl ⟨Nat.zero_le _, Nat.zero_le _⟩ ⟨rfl, ?_⟩
      refine ⟨hxt, fun s hs => ?_, hoff⟩
      show _ = eb (bd (em_rch (em_nx X) op s))
      rw [hxc s hs, ← bd_of (b := c s) (p := em_rch (em_nx X) op s) ⟨hsn s, fun h => h (fun t => c t = true) hc0 (fun t q ht ho => hcl h95 t q ho ht)⟩]
    · rw [eb_0, Bool.not_eq_false] at h95
      refine ev_iconst (v := 0) d_MD_explore_98 rfl ?_
      refine ev_istore_n (i := 3) d_MD_explore_99 rfl (by decide) ?_
      dsimp only [List.set_cons_zero, List.set_cons_succ]
      refine ev_iconst (v := 0) d_MD_explore_100 rfl ?_
      refine ev_istore d_MD_explore_101 (by decide) ?_
      dsimp only [List.set_cons_zero, List.set_cons_succ]
      refine lp_MD_explore_103 hw he hm hP4 hri h1c hop hbr (c0 := c) (fun g2 c2 σ2 k1 k2 k3 k4 => ?_) _ 0 false c σ1 rfl ⟨Nat.zero_le _, hxt, hxc, hoff, ⟨fun _ q => q, hsn, hc0, (fun q => by cases q), fun _ => ⟨fun _ q => q, fun u q hu => absurd hu (Nat.not_lt_zero _), fun q hq => absurd hq (Nat.not_lt_zero _)⟩⟩⟩
      refine ev_goto d_MD_explore_240 ?_
      have hle := em_ct_le (p := fun t => c t = true) (q := fun t => c2 t = true) 32 (fun t _ q => k4.1 t q)
      have hl2 := em_ct_n (fun t => c2 t = true) 32
      refine ih _ ?_ g2 c2 σ2 rfl ⟨k1, k2, k3, k4.2.1, k4.2.2.1, fun hg u q ho hc => ?_⟩
      · cases g2 with
        | true => have := k4.2.2.2.1 rfl; simp only [h95, bn, if_true] at hmm ⊢; omega
        | false => simp only [h95, bn, if_true, Bool.false_eq_true, if_false] at hmm ⊢; omega
      · exact (k4.2.2.2.2 hg).2.1 u q (by have := em_rch_lt (k4.2.1 u hc) (em_nx_lt X) (Nat.two_pow_pos _); omega) ho hc
theorem lp_MD_explore_39 {X : em_E} {P : Nat} (hw : em_wf P X) {e : Nat} (he : e < 2) (hm : md X e σ) (hP4 : P ≤ 4) (hri : em_right X) (h1c : σ 46 1 = nI P) {op : Nat → Prop} (hop : ∀ r, op r → r < 2 ^ P) (hbr : ∀ r, r < 2 ^ P → ∃ c : Bool, σ 47 r = eb c ∧ (c = false ↔ op r)) {s : Nat} (hs : s < 32) (hex : ∀ (σ1 : es_S), (∀ s2 r2, s2 < 2 ^ em_dl X (em_n X) → r2 < 2 ^ P → s2 < s + 1 → σ1 56 (16 * (32 * e + s2) + r2) = nI (xv X s2 r2)) → (∀ s2, s2 ≤ s → σ1 57 (32 * e + s2) = eb (decide (s2 = 0))) → ((∀ x, (x < 512 * e ∨ 512 * e + 512 ≤ x) → σ1 56 x = σ 56 x) ∧ (∀ x, (x < 32 * e ∨ 32 * e + 32 ≤ x) → σ1 57 x = σ 57 x) ∧ ∀ k, k ≠ 55 → k ≠ 56 → k ≠ 57 → σ1 k = σ k) → ez_Ev l G X_MD_explore 0 0 86 [some (.ref 46), some (.int (nI e)), some (.int (nI (2 ^ em_dl X (em_n X)))), some (.int (nI s)), none, none, none] [] (es_H σ1) (es_Q (es_V fun σ' => xt X P e σ' ∧ xc (fun s => bd (em_rch (em_nx X) op s)) e σ' ∧ (∀ x, (x < 512 * e ∨ 512 * e + 512 ≤ x) → σ' 56 x = σ 56 x) ∧ (∀ x, (x < 32 * e ∨ 32 * e + 32 ≤ x) → σ' 57 x = σ 57 x) ∧ ∀ k, k ≠ 55 → k ≠ 56 → k ≠ 57 → σ' k = σ k) es_no)) : ∀ (d : Nat) (r : Nat) (σ1 : es_S), 16 - r = d → (r ≤ 2 ^ P ∧ (∀ s2 r2, s2 < 2 ^ em_dl X (em_n X) → r2 < 2 ^ P → (s2 < s ∨ (s2 = s ∧ r2 < r)) → σ1 56 (16 * (32 * e + s2) + r2) = nI (xv X s2 r2)) ∧ (∀ s2, s2 ≤ s → σ1 57 (32 * e + s2) = eb (decide (s2 = 0))) ∧ ((∀ x, (x < 512 * e ∨ 512 * e + 512 ≤ x) → σ1 56 x = σ 56 x) ∧ (∀ x, (x < 32 * e ∨ 32 * e + 32 ≤ x) → σ1 57 x = σ 57 x) ∧ ∀ k, k ≠ 55 → k ≠ 56 → k ≠ 57 → σ1 k = σ k)) → ez_Ev l G X_MD_explore 0 0 39 [some (.ref 46), some (.int (nI e)), some (.int (nI (2 ^ em_dl X (em_n X)))), some (.int (nI s)), some (.int (nI r)), none, none] [] (es_H σ1) (es_Q (es_V fun σ' => xt X P e σ' ∧ xc (fun s => bd (em_rch (em_nx X) op s)) e σ' ∧ (∀ x, (x < 512 * e ∨ 512 * e + 512 ≤ x) → σ' 56 x = σ 56 x) ∧ (∀ x, (x < 32 * e ∨ 32 * e + 32 ≤ x) → σ' 57 x = σ 57 x) ∧ ∀ k, k ≠ 55 → k ≠ 56 → k ≠ 57 → σ' k = σ k) es_no) := by
  intro d
  induction d using Nat.strongRecOn with
  | _ d ih =>
    intro r σ1 hmm hinv
    obtain ⟨hr, hxt, hrc, hoff⟩ := hinv
    have hn := hw.1
    have hN : 2 ^ em_dl X (em_n X) ≤ 2 ^ 5 := Nat.pow_le_pow_right (by omega) hw.2.2.2.2.2.2
    have hP16 : 2 ^ P ≤ 2 ^ 4 := Nat.pow_le_pow_right (by omega) hP4
    have hm1 : md X e σ1 := md_off hm (fun k g1 g2 => hoff.2.2 k (by omega) (by omega) (by omega))
    have h1d : σ1 46 1 = nI P := by rw [hoff.2.2 46 (by decide) (by decide) (by decide)]; exact h1c
    refine ev_iload d_MD_explore_39 rfl ?_
    refine ev_iconst (v := 1) d_MD_explore_41 rfl ?_
    refine ev_aload_n (i := 0) d_MD_explore_42 rfl rfl ?_
    refine es_getI d_MD_explore_43 f_MD_62 rfl rfl ?_
    rw [h1d]
    refine ev_ishl d_MD_explore_46 ?_
    rw [shl1 (by omega)]
    refine ev_icmp_ge d_MD_explore_47 (fun h47 => ?_) (fun h47 => ?_)
    · rw [nI_leI (by omega) (by omega)] at h47
      refine ev_mask [true, true, true, true, false, false, false] rfl (hex σ1 (fun s2 r2 g1 g2 g3 => hxt s2 r2 g1 g2 (by omega)) hrc hoff)
    · rw [nI_leI (by omega) (by omega), Nat.not_le] at h47
      refine ev_iload_n (i := 3) d_MD_explore_50 rfl rfl ?_
      refine ev_iload_n (i := 2) d_MD_explore_51 rfl rfl ?_
      refine ev_icmp_ge d_MD_explore_52 (fun h52 => ?_) (fun h52 => ?_)
      · rw [nI_leI (by omega) (by omega)] at h52
        refine ev_mask [true, true, true, true, false, false, false] rfl (hex σ1 (fun s2 r2 g1 g2 g3 => hxt s2 r2 g1 g2 (by omega)) hrc hoff)
      · rw [nI_leI (by omega) (by omega), Nat.not_le] at h52
        refine ev_aload_n (i := 0) d_MD_explore_55 rfl rfl ?_
        refine es_getR d_MD_explore_56 f_MD_38 rfl rfl ?_
        refine ev_bipush (v := 16) d_MD_explore_59 rfl ?_
        refine ev_bipush (v := 32) d_MD_explore_61 rfl ?_
        refine ev_iload_n (i := 1) d_MD_explore_63 rfl rfl ?_
        refine ev_imul d_MD_explore_64 ?_
        refine ev_iload_n (i := 3) d_MD_explore_65 rfl rfl ?_
        refine ev_iadd d_MD_explore_66 ?_
        rw [ix32]
        refine ev_imul d_MD_explore_67 ?_
        refine ev_iload d_MD_explore_68 rfl ?_
        refine ev_iadd d_MD_explore_70 ?_
        rw [ix16]
        refine ev_aload_n (i := 0) d_MD_explore_71 rfl rfl ?_
        refine ev_iload_n (i := 1) d_MD_explore_72 rfl rfl ?_
        refine ev_iload_n (i := 3) d_MD_explore_73 rfl rfl ?_
        refine ev_iload d_MD_explore_74 rfl ?_
        refine es_cVI ls_MD_explore_76 d_MD_explore_76 rfl (c_MD_answer hw he hm1 hP4 hri (s := nI s) (show r < 16 by omega)) rfl rfl (Nat.le_of_ble_eq_true rfl) (fun x76 σ76 h76 => ?_) (fun _ _ h => h.elim)
        obtain ⟨rfl, ho2⟩ := h76
        rw [val_nI hw, show em_os X (em_val X (tb s) (tb r)) + 8 * em_ns X (em_val X (tb s) (tb r)) = xv X s r from rfl]
        refine es_iast d_MD_explore_79 rfl (ez_vinN (by omega) (by omega)) ?_
        rw [nI_clamp (by omega)]
        refine ev_iinc d_MD_explore_80 rfl (ez_inc _) (by decide) ?_
        dsimp only [List.set_cons_zero, List.set_cons_succ]
        refine ev_goto d_MD_explore_83 ?_
        refine ih _ (by omega) (r + 1) _ rfl ⟨by omega, fun s2 r2 g1 g2 g3 => ?_, fun s2 hs2 => by rw [es_upf _ _ _ _ (by decide), ho2 57 (by decide)]; exact hrc s2 hs2, ⟨fun x hx => by rw [es_upx, if_pos rfl, if_neg (by omega), ho2 56 (by decide)]; exact hoff.1 x hx, by rw [es_upf _ _ _ _ (by decide), ho2 57 (by decide)]; exact hoff.2.1, fun k k1 k2 k3 => by rw [es_upf _ _ _ _ k2, ho2 k k1]; exact hoff.2.2 k k1 k2 k3⟩⟩
        by_cases hq : s2 = s ∧ r2 = r
        · rw [hq.1, hq.2, es_upx, if_pos rfl, if_pos rfl]
        · rw [es_upx, if_pos rfl, if_neg (by omega), ho2 56 (by decide)]; exact hxt s2 r2 g1 g2 (by omega)
theorem lp_MD_explore_10 {X : em_E} {P : Nat} (hw : em_wf P X) {e : Nat} (he : e < 2) (hm : md X e σ) (hP4 : P ≤ 4) (hri : em_right X) (h1c : σ 46 1 = nI P) {op : Nat → Prop} (hop : ∀ r, op r → r < 2 ^ P) (hbr : ∀ r, r < 2 ^ P → ∃ c : Bool, σ 47 r = eb c ∧ (c = false ↔ op r)) : ∀ (d : Nat) (s : Nat) (σ1 : es_S), 32 - s = d → (s ≤ 32 ∧ (∀ s2 r2, s2 < 2 ^ em_dl X (em_n X) → r2 < 2 ^ P → s2 < s → σ1 56 (16 * (32 * e + s2) + r2) = nI (xv X s2 r2)) ∧ (∀ s2, s2 < s → σ1 57 (32 * e + s2) = eb (decide (s2 = 0))) ∧ ((∀ x, (x < 512 * e ∨ 512 * e + 512 ≤ x) → σ1 56 x = σ 56 x) ∧ (∀ x, (x < 32 * e ∨ 32 * e + 32 ≤ x) → σ1 57 x = σ 57 x) ∧ ∀ k, k ≠ 55 → k ≠ 56 → k ≠ 57 → σ1 k = σ k)) → ez_Ev l G X_MD_explore 0 0 10 [some (.ref 46), some (.int (nI e)), some (.int (nI (2 ^ em_dl X (em_n X)))), some (.int (nI s)), none, none, none] [] (es_H σ1) (es_Q (es_V fun σ' => xt X P e σ' ∧ xc (fun s => bd (em_rch (em_nx X) op s)) e σ' ∧ (∀ x, (x < 512 * e ∨ 512 * e + 512 ≤ x) → σ' 56 x = σ 56 x) ∧ (∀ x, (x < 32 * e ∨ 32 * e + 32 ≤ x) → σ' 57 x = σ 57 x) ∧ ∀ k, k ≠ 55 → k ≠ 56 → k ≠ 57 → σ' k = σ k) es_no) := by
  intro d
  induction d using Nat.strongRecOn with
  | _ d ih =>
    intro s σ1 hmm hinv
    obtain ⟨hs, hxt, hrc, hoff⟩ := hinv
    have hn := hw.1
    have hN : 2 ^ em_dl X (em_n X) ≤ 2 ^ 5 := Nat.pow_le_pow_right (by omega) hw.2.2.2.2.2.2
    have hP16 : 2 ^ P ≤ 2 ^ 4 := Nat.pow_le_pow_right (by omega) hP4
    have hm1 : md X e σ1 := md_off hm (fun k g1 g2 => hoff.2.2 k (by omega) (by omega) (by omega))
    have h1d : σ1 46 1 = nI P := by rw [hoff.2.2 46 (by decide) (by decide) (by decide)]; exact h1c
    refine ev_iload_n (i := 3) d_MD_explore_10 rfl rfl ?_
    refine ev_bipush (v := 32) d_MD_explore_11 rfl ?_
    refine ev_icmp_ge d_MD_explore_13 (fun h13 => ?_) (fun h13 => ?_)
    · rw [show (32 : Int32) = nI 32 from rfl, nI_leI (by omega) (by omega)] at h13
      refine ev_iconst (v := 1) d_MD_explore_92 rfl ?_
      refine ev_istore_n (i := 3) d_MD_explore_93 rfl (by decide) ?_
      dsimp only [List.set_cons_zero, List.set_cons_succ]
      refine lp_MD_explore_94 hw he hm hP4 hri h1c hop hbr _ true (fun s2 => decide (s2 = 0)) σ1 rfl ⟨fun s2 r2 g1 g2 => hxt s2 r2 g1 g2 (by omega), fun s2 hs2 => hrc s2 (by omega), hoff, fun t ht => ?_, rfl, (fun q => by cases q)⟩
      rw [of_decide_eq_true ht]; exact em_rch_0
    · rw [show (32 : Int32) = nI 32 from rfl, nI_leI (by omega) (by omega), Nat.not_le] at h13
      refine ev_aload_n (i := 0) d_MD_explore_16 rfl rfl ?_
      refine es_getR d_MD_explore_17 f_MD_41 rfl rfl ?_
      refine ev_bipush (v := 32) d_MD_explore_20 rfl ?_
      refine ev_iload_n (i := 1) d_MD_explore_22 rfl rfl ?_
      refine ev_imul d_MD_explore_23 ?_
      refine ev_iload_n (i := 3) d_MD_explore_24 rfl rfl ?_
      refine ev_iadd d_MD_explore_25 ?_
      rw [ix32]
      refine ev_iload_n (i := 3) d_MD_explore_26 rfl rfl ?_
      refine ev_if_ne d_MD_explore_27 (fun h27 => ?_) (fun h27 => ?_)
      · rw [show (0 : Int32) = nI 0 from rfl, nI_eq (by omega) (by omega)] at h27
        refine ev_iconst (v := 0) d_MD_explore_34 rfl ?_
        refine es_zast d_MD_explore_35 rfl (ez_vinN (by omega) (by omega)) ?_
        rw [nI_clamp (by omega)]
        refine ev_iconst (v := 0) d_MD_explore_36 rfl ?_
        refine ev_istore d_MD_explore_37 (by decide) ?_
        dsimp only [List.set_cons_zero, List.set_cons_succ]
        refine ev_mask [true, true, true, true, true, false, false] rfl ?_
        refine lp_MD_explore_39 hw he hm hP4 hri h1c hop hbr h13 (fun σ2 k1 k2 k3 => ?_) _ 0 _ rfl ⟨Nat.zero_le _, fun s2 r2 g1 g2 g3 => by rw [es_upf _ _ _ _ (by decide)]; exact hxt s2 r2 g1 g2 (by omega), fun s2 hs2 => ?_, ⟨by rw [es_upf _ _ _ _ (by decide)]; exact hoff.1, fun x hx => by rw [es_upx, if_pos rfl, if_neg (by omega)]; exact hoff.2.1 x hx, fun k q1 q2 q3 => by rw [es_upf _ _ _ _ q3]; exact hoff.2.2 k q1 q2 q3⟩⟩
        · refine ev_iinc d_MD_explore_86 rfl (ez_inc _) (by decide) ?_
          dsimp only [List.set_cons_zero, List.set_cons_succ]
          refine ev_goto d_MD_explore_89 ?_
          exact ih _ (by omega) (s + 1) σ2 rfl ⟨by omega, k1, fun s2 hs2 => k2 s2 (by omega), k3⟩
        · by_cases hse : s2 = s
          · rw [hse, es_upx, if_pos rfl, if_pos rfl]
            rw [decide_eq_false h27]; rfl
          · rw [es_upx, if_pos rfl, if_neg (by omega)]; exact hrc s2 (by omega)
      · rw [show (0 : Int32) = nI 0 from rfl, nI_eq (by omega) (by omega)] at h27
        refine ev_iconst (v := 1) d_MD_explore_30 rfl ?_
        refine ev_goto d_MD_explore_31 ?_
        refine es_zast d_MD_explore_35 rfl (ez_vinN (by omega) (by omega)) ?_
        rw [nI_clamp (by omega)]
        refine ev_iconst (v := 0) d_MD_explore_36 rfl ?_
        refine ev_istore d_MD_explore_37 (by decide) ?_
        dsimp only [List.set_cons_zero, List.set_cons_succ]
        refine ev_mask [true, true, true, true, true, false, false] rfl ?_
        refine lp_MD_explore_39 hw he hm hP4 hri h1c hop hbr h13 (fun σ2 k1 k2 k3 => ?_) _ 0 _ rfl ⟨Nat.zero_le _, fun s2 r2 g1 g2 g3 => by rw [es_upf _ _ _ _ (by decide)]; exact hxt s2 r2 g1 g2 (by omega), fun s2 hs2 => ?_, ⟨by rw [es_upf _ _ _ _ (by decide)]; exact hoff.1, fun x hx => by rw [es_upx, if_pos rfl, if_neg (by omega)]; exact hoff.2.1 x hx, fun k q1 q2 q3 => by rw [es_upf _ _ _ _ q3]; exact hoff.2.2 k q1 q2 q3⟩⟩
        · refine ev_iinc d_MD_explore_86 rfl (ez_inc _) (by decide) ?_
          dsimp only [List.set_cons_zero, List.set_cons_succ]
          refine ev_goto d_MD_explore_89 ?_
          exact ih _ (by omega) (s + 1) σ2 rfl ⟨by omega, k1, fun s2 hs2 => k2 s2 (by omega), k3⟩
        · by_cases hse : s2 = s
          · rw [hse, es_upx, if_pos rfl, if_pos rfl]
            rw [h27]; rfl
          · rw [es_upx, if_pos rfl, if_neg (by omega)]; exact hrc s2 (by omega)
theorem c_MD_explore {X : em_E} {P : Nat} (hw : em_wf P X) {e : Nat} (he : e < 2) (hm : md X e σ) (hP4 : P ≤ 4) (hri : em_right X) (h1c : σ 46 1 = nI P) {op : Nat → Prop} (hop : ∀ r, op r → r < 2 ^ P) (hbr : ∀ r, r < 2 ^ P → ∃ c : Bool, σ 47 r = eb c ∧ (c = false ↔ op r)) : ez_Ct l G X_MD_explore [.ref 46, .int (nI e)] (es_H σ) (es_Q (es_V fun σ' => xt X P e σ' ∧ xc (fun s => bd (em_rch (em_nx X) op s)) e σ' ∧ (∀ x, (x < 512 * e ∨ 512 * e + 512 ≤ x) → σ' 56 x = σ 56 x) ∧ (∀ x, (x < 32 * e ∨ 32 * e + 32 ≤ x) → σ' 57 x = σ 57 x) ∧ ∀ k, k ≠ 55 → k ≠ 56 → k ≠ 57 → σ' k = σ k) es_no) := by
  have hn := hw.1
  have hd5 := hw.2.2.2.2.2.2
  refine es_Ct_of (ls := [some (.ref 46), some (.int (nI e)), none, none, none, none, none]) ok_MD_explore rfl (Nat.le_of_ble_eq_true rfl) rfl ?_
  refine ev_iconst (v := 1) d_MD_explore_0 rfl ?_
  refine ev_aload_n (i := 0) d_MD_explore_1 rfl rfl ?_
  refine ev_iload_n (i := 1) d_MD_explore_2 rfl rfl ?_
  refine es_cVI ls_MD_explore_3 d_MD_explore_3 rfl (c_MD_delays hw he hm) rfl rfl (Nat.le_of_ble_eq_true rfl) (fun x3 σ3 h3 => ?_) (fun _ _ h => h.elim)
  obtain ⟨rfl, e3⟩ := h3
  rw [e3]
  refine ev_ishl d_MD_explore_6 ?_
  rw [shl1 (by omega)]
  refine ev_istore_n (i := 2) d_MD_explore_7 rfl (by decide) ?_
  dsimp only [List.set_cons_zero, List.set_cons_succ]
  refine ev_iconst (v := 0) d_MD_explore_8 rfl ?_
  refine ev_istore_n (i := 3) d_MD_explore_9 rfl (by decide) ?_
  dsimp only [List.set_cons_zero, List.set_cons_succ]
  exact lp_MD_explore_10 hw he hm hP4 hri h1c hop hbr _ 0 σ rfl ⟨by omega, fun s2 r2 g1 g2 g3 => absurd g3 (Nat.not_lt_zero _), fun s2 hs2 => absurd hs2 (Nat.not_lt_zero _), fun _ _ => rfl, fun _ _ => rfl, fun _ _ _ _ => rfl⟩
end
