/-! ===== Model: least ===== -/
section
variable {l : Launch} {G : ez_G} {σ : es_S}
/-- a pass over the pairs, at s and t; a0 as it began -/
def aT (X : em_E) (op : Nat → Prop) (a : Nat → Bool) (s t : Nat) : Prop := ∃ q, op q ∧ (em_ou X s q ≠ em_ou X t q ∨ a (32 * em_nx X s q + em_nx X t q) = true)
def aP (X : em_E) (op : Nat → Prop) (a0 : Nat → Bool) (g : Bool) (a : Nat → Bool) (s t : Nat) : Prop :=
  (∀ k, a0 k = true → a k = true) ∧ (∀ u v, u < 32 → v < 32 → a (32 * u + v) = true → em_ap (em_ou X) (em_nx X) op u v) ∧ (g = true → em_ct (fun k => a0 k = true) 1024 < em_ct (fun k => a k = true) 1024) ∧
  (g = false → (∀ k, a k = true → a0 k = true) ∧ ∀ u v, u < 2 ^ em_dl X (em_n X) → v < 2 ^ em_dl X (em_n X) → (u < s ∨ (u = s ∧ v < t)) → aT X op a u v → a (32 * u + v) = true)
theorem aT_mono {X : em_E} {op : Nat → Prop} {a b : Nat → Bool} (h : ∀ k, a k = true → b k = true) {s t : Nat} (g : aT X op a s t) : aT X op b s t := by
  obtain ⟨q, q1, q2⟩ := g
  exact ⟨q, q1, q2.imp id (h _)⟩
theorem aP_step {X : em_E} {P : Nat} (hw : em_wf P X) {op : Nat → Prop} {a0 : Nat → Bool} {g : Bool} {a : Nat → Bool} {s t : Nat} (h : aP X op a0 g a s t) (hs : s < 32) (ht : t < 32) {te : Bool} (hte : te = true ↔ aT X op a s t) :
    aP X op a0 (g || (!a (32 * s + t) && te)) (xn a (32 * s + t) (!a (32 * s + t) && te)) s (t + 1) := by
  have hN : 2 ^ em_dl X (em_n X) ≤ 2 ^ 5 := Nat.pow_le_pow_right (by omega) hw.2.2.2.2.2.2
  obtain ⟨h1, h2, h3, h4⟩ := h
  have hup : ∀ k, a k = true → xn a (32 * s + t) (!a (32 * s + t) && te) k = true := fun k hk => by
    by_cases q : k = 32 * s + t
    · rw [q, xn_eq, ← q, hk]; rfl
    · rw [xn_ne a _ q]; exact hk
  have hle := em_ct_le (p := fun k => a k = true) (q := fun k => xn a (32 * s + t) (!a (32 * s + t) && te) k = true) 1024 (fun k _ hk => hup k hk)
  refine ⟨fun k hk => hup k (h1 k hk), fun u v hu hv huv => ?_, fun hg => ?_, fun hg => ?_⟩
  · by_cases q : 32 * u + v = 32 * s + t
    · have hus : u = s ∧ v = t := by omega
      rw [q, xn_eq] at huv
      rw [hus.1, hus.2]
      cases hc : a (32 * s + t) with
      | true => exact h2 s t hs ht hc
      | false =>
        have ht2 : te = true := by rw [hc] at huv; simpa using huv
        obtain ⟨r, r1, r2⟩ := hte.mp ht2
        rcases r2 with r2 | r2
        · exact em_ap_o r1 r2
        · exact em_ap_n r1 (h2 _ _ (by have := em_nx_lt X s r; omega) (by have := em_nx_lt X t r; omega) r2)
    · rw [xn_ne a _ q] at huv; exact h2 u v hu hv huv
  · cases hgg : g with
    | true => exact Nat.lt_of_lt_of_le (h3 hgg) hle
    | false =>
      rw [hgg, Bool.false_or, Bool.and_eq_true, Bool.not_eq_true'] at hg
      have hlt := em_ct_lt (p := fun k => a k = true) (q := fun k => xn a (32 * s + t) (!a (32 * s + t) && te) k = true) 1024 (fun k _ hk => hup k hk) (32 * s + t) (by omega) (by rw [xn_eq, hg.1, hg.2]; rfl) (by rw [hg.1]; decide)
      have hle0 := em_ct_le (p := fun k => a0 k = true) (q := fun k => a k = true) 1024 (fun k _ hk => h1 k hk)
      exact Nat.lt_of_le_of_lt hle0 hlt
  · rw [Bool.or_eq_false_iff] at hg
    have hsame : ∀ k, xn a (32 * s + t) (!a (32 * s + t) && te) k = true → a k = true := fun k hk => by
      by_cases q : k = 32 * s + t
      · rw [q, xn_eq, hg.2, Bool.or_false] at hk; rw [q]; exact hk
      · rw [xn_ne a _ q] at hk; exact hk
    obtain ⟨k1, k2⟩ := h4 hg.1
    refine ⟨fun k hk => k1 k (hsame k hk), fun u v hu hv huv hT => ?_⟩
    have hT2 := aT_mono hsame hT
    by_cases q : u = s ∧ v = t
    · rw [q.1, q.2] at hT2 ⊢
      have ht2 := hte.mpr hT2
      refine hup _ ?_
      cases hc : a (32 * s + t) with
      | true => rfl
      | false => have h9 := hg.2; rw [ht2, hc] at h9; cases h9
    · exact hup _ (k2 u v hu hv (by omega) hT2)
theorem aP_next {X : em_E} {op : Nat → Prop} {a0 : Nat → Bool} {g : Bool} {a : Nat → Bool} {s : Nat} (h : aP X op a0 g a s (2 ^ em_dl X (em_n X))) : aP X op a0 g a (s + 1) 0 :=
  ⟨h.1, h.2.1, h.2.2.1, fun hg => ⟨(h.2.2.2 hg).1, fun u v hu hv huv => (h.2.2.2 hg).2 u v hu hv (by omega)⟩⟩
theorem aP_end {X : em_E} {P : Nat} (hw : em_wf P X) {op : Nat → Prop} {a : Nat → Bool} (h2 : ∀ u v, u < 32 → v < 32 → a (32 * u + v) = true → em_ap (em_ou X) (em_nx X) op u v) (hc : ∀ u v, u < 2 ^ em_dl X (em_n X) → v < 2 ^ em_dl X (em_n X) → aT X op a u v → a (32 * u + v) = true) :
    ∀ u v, u < 2 ^ em_dl X (em_n X) → v < 2 ^ em_dl X (em_n X) → (a (32 * u + v) = true ↔ em_ap (em_ou X) (em_nx X) op u v) := fun u v hu hv => by
  have hN : 2 ^ em_dl X (em_n X) ≤ 2 ^ 5 := Nat.pow_le_pow_right (by omega) hw.2.2.2.2.2.2
  refine ⟨h2 u v (by omega) (by omega), fun h => ?_⟩
  exact h (fun u v => u < 2 ^ em_dl X (em_n X) → v < 2 ^ em_dl X (em_n X) → a (32 * u + v) = true) (fun u v r ho hne hu hv => hc u v hu hv ⟨r, ho, Or.inl hne⟩) (fun u v r ho hR hu hv => hc u v hu hv ⟨r, ho, Or.inr (hR (em_nx_lt X u r) (em_nx_lt X v r))⟩) hu hv
theorem lp_MD_least_214 {X : em_E} {P : Nat} (hw : em_wf P X) {e : Nat} (he : e < 2) (hm : md X e σ) (hP4 : P ≤ 4) (h1c : σ 46 1 = nI P) {op : Nat → Prop} (hop : ∀ r, op r → r < 2 ^ P) (hbr : ∀ r, r < 2 ^ P → ∃ c : Bool, σ 47 r = eb c ∧ (c = false ↔ op r)) (hxt : xt X P e σ) (hxc : xc (fun s => bd (em_rch (em_nx X) op s)) e σ) {Qy : Int32 → es_S → Prop} (hQ : ∀ σ', (∀ k, k ≠ 58 → σ' k = σ k) → Qy (nI (em_ct (em_ft (em_rch (em_nx X) op) (fun s t => ¬ em_ap (em_ou X) (em_nx X) op s t)) 32)) σ') {a : Nat → Bool} {σ1 : es_S} (hac : ac a σ1) (hoff : (∀ k, k ≠ 58 → σ1 k = σ k)) (hap : (∀ u v, u < 2 ^ em_dl X (em_n X) → v < 2 ^ em_dl X (em_n X) → (a (32 * u + v) = true ↔ em_ap (em_ou X) (em_nx X) op u v))) {s : Nat} (hs : s < 2 ^ em_dl X (em_n X)) {w3 : Option Value} (hex : ∀ f : Bool, (f = true ↔ em_ft (em_rch (em_nx X) op) (fun s t => ¬ em_ap (em_ou X) (em_nx X) op s t) s) → ez_Ev l G X_MD_least 0 0 270 [some (.ref 46), some (.int (nI e)), some (.int (nI (2 ^ em_dl X (em_n X)))), w3, some (.int (nI (em_ct (em_ft (em_rch (em_nx X) op) (fun s t => ¬ em_ap (em_ou X) (em_nx X) op s t)) s))), some (.int (nI s)), some (.int (eb f)), none] [] (es_H σ1) (es_Q (es_I Qy) es_no)) : ∀ (d : Nat) (t : Nat) (f : Bool), 32 - t = d → (t ≤ s ∧ (f = true ↔ (em_rch (em_nx X) op s ∧ ∀ v, v < t → em_rch (em_nx X) op v → em_ap (em_ou X) (em_nx X) op s v))) → ez_Ev l G X_MD_least 0 0 214 [some (.ref 46), some (.int (nI e)), some (.int (nI (2 ^ em_dl X (em_n X)))), w3, some (.int (nI (em_ct (em_ft (em_rch (em_nx X) op) (fun s t => ¬ em_ap (em_ou X) (em_nx X) op s t)) s))), some (.int (nI s)), some (.int (eb f)), some (.int (nI t))] [] (es_H σ1) (es_Q (es_I Qy) es_no) := by
  intro d
  induction d using Nat.strongRecOn with
  | _ d ih =>
    intro t f hmm hinv
    obtain ⟨ht, hf⟩ := hinv
    have hN : 2 ^ em_dl X (em_n X) ≤ 2 ^ 5 := Nat.pow_le_pow_right (by omega) hw.2.2.2.2.2.2
    have hP16 : 2 ^ P ≤ 2 ^ 4 := Nat.pow_le_pow_right (by omega) hP4
    have hdec : t < s → 32 - (t + 1) < d := by clear hf hap; omega
    refine ev_iload d_MD_least_214 rfl ?_
    refine ev_iload d_MD_least_216 rfl ?_
    refine ev_icmp_ge d_MD_least_218 (fun h218 => ?_) (fun h218 => ?_)
    · rw [nI_leI (by omega) (by omega)] at h218
      have hte : t = s := by omega
      refine ev_mask [true, true, true, true, true, true, true, false] rfl (hex f (hf.trans ?_))
      rw [hte]
      exact ⟨fun g => ⟨g.1, fun v hv pv q => q (g.2 v hv pv)⟩, fun g => ⟨g.1, fun v hv pv => Classical.not_not.mp (g.2 v hv pv)⟩⟩
    · rw [nI_leI (by omega) (by omega), Nat.not_le] at h218
      refine ev_iload d_MD_least_221 rfl ?_
      refine ev_if_eq d_MD_least_223 (fun h223 => ?_) (fun h223 => ?_)
      · rw [eb_0] at h223
        refine ev_iconst (v := 0) d_MD_least_261 rfl ?_
        refine ev_istore d_MD_least_262 (by decide) ?_
        dsimp only [List.set_cons_zero, List.set_cons_succ]
        refine ev_iinc d_MD_least_264 rfl (ez_inc _) (by decide) ?_
        dsimp only [List.set_cons_zero, List.set_cons_succ]
        refine ev_goto d_MD_least_267 ?_
        first
          | exact ih _ (hdec h218) (t + 1) true rfl ⟨h218, ⟨fun _ => ⟨(hf.mp h223).1, fun v hv pv => by
               by_cases hvt : v = t
               · rw [hvt] at pv ⊢; first | exact absurd pv h238 | exact (hap s t hs (by omega)).mp h254
               · exact (hf.mp h223).2 v (by omega) pv⟩, fun _ => rfl⟩⟩
          | exact ih _ (hdec h218) (t + 1) false rfl ⟨h218, ⟨(fun q => by cases q), fun g => by
               first
                 | (rw [(hap s t hs (by omega)).mpr (g.2 t (by omega) h238)] at h254; cases h254)
                 | (rw [← h223]; exact hf.mpr ⟨g.1, fun v hv pv => g.2 v (by omega) pv⟩)⟩⟩
      · rw [eb_0, Bool.not_eq_false] at h223
        refine ev_aload_n (i := 0) d_MD_least_226 rfl rfl ?_
        refine es_getR d_MD_least_227 f_MD_41 rfl rfl ?_
        refine ev_bipush (v := 32) d_MD_least_230 rfl ?_
        refine ev_iload_n (i := 1) d_MD_least_232 rfl rfl ?_
        refine ev_imul d_MD_least_233 ?_
        refine ev_iload d_MD_least_234 rfl ?_
        refine ev_iadd d_MD_least_236 ?_
        rw [ix32]
        refine es_zald d_MD_least_237 rfl (ez_vinN (by omega) (by omega)) ?_
        rw [nI_clamp (by omega), hoff 57 (by decide), hxc t (by omega)]
        refine ev_if_eq d_MD_least_238 (fun h238 => ?_) (fun h238 => ?_)
        · rw [eb_0, bd_f] at h238
          refine ev_iconst (v := 1) d_MD_least_257 rfl ?_
          refine ev_goto d_MD_least_258 ?_
          refine ev_istore d_MD_least_262 (by decide) ?_
          dsimp only [List.set_cons_zero, List.set_cons_succ]
          refine ev_iinc d_MD_least_264 rfl (ez_inc _) (by decide) ?_
          dsimp only [List.set_cons_zero, List.set_cons_succ]
          refine ev_goto d_MD_least_267 ?_
          first
            | exact ih _ (hdec h218) (t + 1) true rfl ⟨h218, ⟨fun _ => ⟨(hf.mp h223).1, fun v hv pv => by
                 by_cases hvt : v = t
                 · rw [hvt] at pv ⊢; first | exact absurd pv h238 | exact (hap s t hs (by omega)).mp h254
                 · exact (hf.mp h223).2 v (by omega) pv⟩, fun _ => rfl⟩⟩
            | exact ih _ (hdec h218) (t + 1) false rfl ⟨h218, ⟨(fun q => by cases q), fun g => by
                 first
                   | (rw [(hap s t hs (by omega)).mpr (g.2 t (by omega) h238)] at h254; cases h254)
                   | (rw [← h223]; exact hf.mpr ⟨g.1, fun v hv pv => g.2 v (by omega) pv⟩)⟩⟩
        · rw [eb_0, Bool.not_eq_false, bd_t] at h238
          refine ev_aload_n (i := 0) d_MD_least_241 rfl rfl ?_
          refine es_getR d_MD_least_242 f_MD_44 rfl rfl ?_
          refine ev_bipush (v := 32) d_MD_least_245 rfl ?_
          refine ev_iload d_MD_least_247 rfl ?_
          refine ev_imul d_MD_least_249 ?_
          refine ev_iload d_MD_least_250 rfl ?_
          refine ev_iadd d_MD_least_252 ?_
          rw [ix32]
          refine es_zald d_MD_least_253 rfl (ez_vinN (by omega) (by omega)) ?_
          rw [nI_clamp (by omega), hac _ (by omega)]
          refine ev_if_eq d_MD_least_254 (fun h254 => ?_) (fun h254 => ?_)
          · rw [eb_0] at h254
            refine ev_iconst (v := 0) d_MD_least_261 rfl ?_
            refine ev_istore d_MD_least_262 (by decide) ?_
            dsimp only [List.set_cons_zero, List.set_cons_succ]
            refine ev_iinc d_MD_least_264 rfl (ez_inc _) (by decide) ?_
            dsimp only [List.set_cons_zero, List.set_cons_succ]
            refine ev_goto d_MD_least_267 ?_
            first
              | exact ih _ (hdec h218) (t + 1) true rfl ⟨h218, ⟨fun _ => ⟨(hf.mp h223).1, fun v hv pv => by
                   by_cases hvt : v = t
                   · rw [hvt] at pv ⊢; first | exact absurd pv h238 | exact (hap s t hs (by omega)).mp h254
                   · exact (hf.mp h223).2 v (by omega) pv⟩, fun _ => rfl⟩⟩
              | exact ih _ (hdec h218) (t + 1) false rfl ⟨h218, ⟨(fun q => by cases q), fun g => by
                   first
                     | (rw [(hap s t hs (by omega)).mpr (g.2 t (by omega) h238)] at h254; cases h254)
                     | (rw [← h223]; exact hf.mpr ⟨g.1, fun v hv pv => g.2 v (by omega) pv⟩)⟩⟩
          · rw [eb_0, Bool.not_eq_false] at h254
            refine ev_iconst (v := 1) d_MD_least_257 rfl ?_
            refine ev_goto d_MD_least_258 ?_
            refine ev_istore d_MD_least_262 (by decide) ?_
            dsimp only [List.set_cons_zero, List.set_cons_succ]
            refine ev_iinc d_MD_least_264 rfl (ez_inc _) (by decide) ?_
            dsimp only [List.set_cons_zero, List.set_cons_succ]
            refine ev_goto d_MD_least_267 ?_
            first
              | exact ih _ (hdec h218) (t + 1) true rfl ⟨h218, ⟨fun _ => ⟨(hf.mp h223).1, fun v hv pv => by
                   by_cases hvt : v = t
                   · rw [hvt] at pv ⊢; first | exact absurd pv h238 | exact (hap s t hs (by omega)).mp h254
                   · exact (hf.mp h223).2 v (by omega) pv⟩, fun _ => rfl⟩⟩
              | exact ih _ (hdec h218) (t + 1) false rfl ⟨h218, ⟨(fun q => by cases q), fun g => by
                   first
                     | (rw [(hap s t hs (by omega)).mpr (g.2 t (by omega) h238)] at h254; cases h254)
                     | (rw [← h223]; exact hf.mpr ⟨g.1, fun v hv pv => g.2 v (by omega) pv⟩)⟩⟩
theorem lp_MD_least_191 {X : em_E} {P : Nat} (hw : em_wf P X) {e : Nat} (he : e < 2) (hm : md X e σ) (hP4 : P ≤ 4) (h1c : σ 46 1 = nI P) {op : Nat → Prop} (hop : ∀ r, op r → r < 2 ^ P) (hbr : ∀ r, r < 2 ^ P → ∃ c : Bool, σ 47 r = eb c ∧ (c = false ↔ op r)) (hxt : xt X P e σ) (hxc : xc (fun s => bd (em_rch (em_nx X) op s)) e σ) {Qy : Int32 → es_S → Prop} (hQ : ∀ σ', (∀ k, k ≠ 58 → σ' k = σ k) → Qy (nI (em_ct (em_ft (em_rch (em_nx X) op) (fun s t => ¬ em_ap (em_ou X) (em_nx X) op s t)) 32)) σ') {a : Nat → Bool} {σ1 : es_S} (hac : ac a σ1) (hoff : (∀ k, k ≠ 58 → σ1 k = σ k)) (hap : (∀ u v, u < 2 ^ em_dl X (em_n X) → v < 2 ^ em_dl X (em_n X) → (a (32 * u + v) = true ↔ em_ap (em_ou X) (em_nx X) op u v))) {w3 : Option Value} : ∀ (d : Nat) (s : Nat), 32 - s = d → (s ≤ 2 ^ em_dl X (em_n X)) → ez_Ev l G X_MD_least 0 0 191 [some (.ref 46), some (.int (nI e)), some (.int (nI (2 ^ em_dl X (em_n X)))), w3, some (.int (nI (em_ct (em_ft (em_rch (em_nx X) op) (fun s t => ¬ em_ap (em_ou X) (em_nx X) op s t)) s))), some (.int (nI s)), none, none] [] (es_H σ1) (es_Q (es_I Qy) es_no) := by
  intro d
  induction d using Nat.strongRecOn with
  | _ d ih =>
    intro s hmm hs
    have hN : 2 ^ em_dl X (em_n X) ≤ 2 ^ 5 := Nat.pow_le_pow_right (by omega) hw.2.2.2.2.2.2
    have hP16 : 2 ^ P ≤ 2 ^ 4 := Nat.pow_le_pow_right (by omega) hP4
    have hctn := em_ct_n (em_ft (em_rch (em_nx X) op) (fun s t => ¬ em_ap (em_ou X) (em_nx X) op s t)) s
    refine ev_iload d_MD_least_191 rfl ?_
    refine ev_iload_n (i := 2) d_MD_least_193 rfl rfl ?_
    refine ev_icmp_ge d_MD_least_194 (fun h194 => ?_) (fun h194 => ?_)
    · rw [nI_leI (by omega) (by omega)] at h194
      refine ev_iload d_MD_least_292 rfl ?_
      refine es_iret d_MD_least_294 rfl ⟨Nat.zero_le _, Nat.zero_le _⟩ ⟨_, rfl, ?_⟩
      have hse : s = 2 ^ em_dl X (em_n X) := by omega
      have hmore := em_ct_more (p := em_ft (em_rch (em_nx X) op) (fun s t => ¬ em_ap (em_ou X) (em_nx X) op s t)) (n := 2 ^ em_dl X (em_n X)) (fun x hx q => by have := em_rch_lt q.1 (em_nx_lt X) (Nat.two_pow_pos _); omega) (32 - 2 ^ em_dl X (em_n X))
      rw [Nat.add_sub_cancel' (by omega)] at hmore
      rw [hse, ← hmore]
      exact hQ σ1 hoff
    · rw [nI_leI (by omega) (by omega), Nat.not_le] at h194
      refine ev_aload_n (i := 0) d_MD_least_197 rfl rfl ?_
      refine es_getR d_MD_least_198 f_MD_41 rfl rfl ?_
      refine ev_bipush (v := 32) d_MD_least_201 rfl ?_
      refine ev_iload_n (i := 1) d_MD_least_203 rfl rfl ?_
      refine ev_imul d_MD_least_204 ?_
      refine ev_iload d_MD_least_205 rfl ?_
      refine ev_iadd d_MD_least_207 ?_
      rw [ix32]
      refine es_zald d_MD_least_208 rfl (ez_vinN (by omega) (by omega)) ?_
      rw [nI_clamp (by omega), hoff 57 (by decide), hxc s (by omega)]
      refine ev_istore d_MD_least_209 (by decide) ?_
      dsimp only [List.set_cons_zero, List.set_cons_succ]
      refine ev_iconst (v := 0) d_MD_least_211 rfl ?_
      refine ev_istore d_MD_least_212 (by decide) ?_
      dsimp only [List.set_cons_zero, List.set_cons_succ]
      refine lp_MD_least_214 hw he hm hP4 h1c hop hbr hxt hxc hQ hac hoff hap h194 (w3 := w3) (fun f hf => ?_) _ 0 (bd (em_rch (em_nx X) op s)) rfl ⟨Nat.zero_le _, ?_⟩
      · refine ev_iload d_MD_least_270 rfl ?_
        refine ev_if_eq d_MD_least_272 (fun h272 => ?_) (fun h272 => ?_)
        · rw [eb_0] at h272
          refine ev_iload d_MD_least_282 rfl ?_
          refine ev_istore d_MD_least_284 (by decide) ?_
          dsimp only [List.set_cons_zero, List.set_cons_succ]
          refine ev_iinc d_MD_least_286 rfl (ez_inc _) (by decide) ?_
          dsimp only [List.set_cons_zero, List.set_cons_succ]
          refine ev_goto d_MD_least_289 ?_
          refine ev_mask [true, true, true, true, true, true, false, false] rfl ?_
          have hsu := em_ct_succ (em_ft (em_rch (em_nx X) op) (fun s t => ¬ em_ap (em_ou X) (em_nx X) op s t)) s
          first
            | (rw [← hsu.1 (hf.mp h272)]; exact ih _ (by omega) (s + 1) rfl h194)
            | (rw [← hsu.2 (fun q => by rw [hf.mpr q] at h272; cases h272)]; exact ih _ (by omega) (s + 1) rfl h194)
        · rw [eb_0, Bool.not_eq_false] at h272
          refine ev_iload d_MD_least_275 rfl ?_
          refine ev_iconst (v := 1) d_MD_least_277 rfl ?_
          refine ev_iadd d_MD_least_278 ?_
          rw [nI_1]
          refine ev_goto d_MD_least_279 ?_
          refine ev_istore d_MD_least_284 (by decide) ?_
          dsimp only [List.set_cons_zero, List.set_cons_succ]
          refine ev_iinc d_MD_least_286 rfl (ez_inc _) (by decide) ?_
          dsimp only [List.set_cons_zero, List.set_cons_succ]
          refine ev_goto d_MD_least_289 ?_
          refine ev_mask [true, true, true, true, true, true, false, false] rfl ?_
          have hsu := em_ct_succ (em_ft (em_rch (em_nx X) op) (fun s t => ¬ em_ap (em_ou X) (em_nx X) op s t)) s
          first
            | (rw [← hsu.1 (hf.mp h272)]; exact ih _ (by omega) (s + 1) rfl h194)
            | (rw [← hsu.2 (fun q => by rw [hf.mpr q] at h272; cases h272)]; exact ih _ (by omega) (s + 1) rfl h194)
      · rw [bd_t]; exact ⟨fun q => ⟨q, fun v hv => absurd hv (Nat.not_lt_zero _)⟩, fun q => q.1⟩
theorem lp_MD_least_75 {X : em_E} {P : Nat} (hw : em_wf P X) {e : Nat} (he : e < 2) (hm : md X e σ) (hP4 : P ≤ 4) (h1c : σ 46 1 = nI P) {op : Nat → Prop} (hop : ∀ r, op r → r < 2 ^ P) (hbr : ∀ r, r < 2 ^ P → ∃ c : Bool, σ 47 r = eb c ∧ (c = false ↔ op r)) (hxt : xt X P e σ) (hxc : xc (fun s => bd (em_rch (em_nx X) op s)) e σ) {Qy : Int32 → es_S → Prop} (hQ : ∀ σ', (∀ k, k ≠ 58 → σ' k = σ k) → Qy (nI (em_ct (em_ft (em_rch (em_nx X) op) (fun s t => ¬ em_ap (em_ou X) (em_nx X) op s t)) 32)) σ') {a0 : Nat → Bool} {s : Nat} (hs : s < 2 ^ em_dl X (em_n X)) (hex : ∀ (g : Bool) (a : Nat → Bool) (σ1 : es_S), ac a σ1 → (∀ k, k ≠ 58 → σ1 k = σ k) → aP X op a0 g a (s + 1) 0 → ez_Ev l G X_MD_least 0 0 176 [some (.ref 46), some (.int (nI e)), some (.int (nI (2 ^ em_dl X (em_n X)))), some (.int (eb g)), some (.int (nI s)), none, none, none] [] (es_H σ1) (es_Q (es_I Qy) es_no)) : ∀ (d : Nat) (t : Nat) (g : Bool) (a : Nat → Bool) (σ1 : es_S), 32 - t = d → (t ≤ 2 ^ em_dl X (em_n X) ∧ ac a σ1 ∧ (∀ k, k ≠ 58 → σ1 k = σ k) ∧ aP X op a0 g a s t) → ez_Ev l G X_MD_least 0 0 75 [some (.ref 46), some (.int (nI e)), some (.int (nI (2 ^ em_dl X (em_n X)))), some (.int (eb g)), some (.int (nI s)), some (.int (nI t)), none, none] [] (es_H σ1) (es_Q (es_I Qy) es_no) := by
  intro d
  induction d using Nat.strongRecOn with
  | _ d ih =>
    intro t g a σ1 hmm hinv
    obtain ⟨ht, hac, hoff, hxp⟩ := hinv
    have hN : 2 ^ em_dl X (em_n X) ≤ 2 ^ 5 := Nat.pow_le_pow_right (by omega) hw.2.2.2.2.2.2
    have hP16 : 2 ^ P ≤ 2 ^ 4 := Nat.pow_le_pow_right (by omega) hP4
    have hck : (nI (32 * s + t)).toNatClampNeg = 32 * s + t := nI_clamp (by omega)
    refine ev_iload d_MD_least_75 rfl ?_
    refine ev_iload_n (i := 2) d_MD_least_77 rfl rfl ?_
    refine ev_icmp_ge d_MD_least_78 (fun h78 => ?_) (fun h78 => ?_)
    · rw [nI_leI (by omega) (by omega)] at h78
      have hte9 : t = 2 ^ em_dl X (em_n X) := by omega
      rw [hte9] at hxp
      exact ev_mask [true, true, true, true, true, false, false, false] rfl (hex g a σ1 hac hoff (aP_next hxp))
    · rw [nI_leI (by omega) (by omega), Nat.not_le] at h78
      have hck2 := hac (32 * s + t) (by omega)
      refine ev_aload_n (i := 0) d_MD_least_81 rfl rfl ?_
      refine es_getR d_MD_least_82 f_MD_44 rfl rfl ?_
      refine ev_bipush (v := 32) d_MD_least_85 rfl ?_
      refine ev_iload d_MD_least_87 rfl ?_
      refine ev_imul d_MD_least_89 ?_
      refine ev_iload d_MD_least_90 rfl ?_
      refine ev_iadd d_MD_least_92 ?_
      rw [ix32]
      refine es_zald d_MD_least_93 rfl (ez_vinN (by omega) (by omega)) ?_
      rw [hck, hck2]
      refine ev_if_ne d_MD_least_94 (fun h94 => ?_) (fun h94 => ?_)
      · rw [eb_0, Bool.not_eq_false] at h94
        refine ev_iconst (v := 0) d_MD_least_113 rfl ?_
        refine ev_istore d_MD_least_114 (by decide) ?_
        dsimp only [List.set_cons_zero, List.set_cons_succ]
        refine ev_iload_n (i := 3) d_MD_least_116 rfl rfl ?_
        refine ev_if_ne d_MD_least_117 (fun h117 => ?_) (fun h117 => ?_)
        · rw [eb_0, Bool.not_eq_false] at h117
          refine ev_iconst (v := 1) d_MD_least_125 rfl ?_
          refine ev_goto d_MD_least_126 ?_
          refine ev_istore_n (i := 3) d_MD_least_130 rfl (by decide) ?_
          dsimp only [List.set_cons_zero, List.set_cons_succ]
          refine ev_aload_n (i := 0) d_MD_least_131 rfl rfl ?_
          refine es_getR d_MD_least_132 f_MD_44 rfl rfl ?_
          refine ev_bipush (v := 32) d_MD_least_135 rfl ?_
          refine ev_iload d_MD_least_137 rfl ?_
          refine ev_imul d_MD_least_139 ?_
          refine ev_iload d_MD_least_140 rfl ?_
          refine ev_iadd d_MD_least_142 ?_
          rw [ix32]
          refine ev_aload_n (i := 0) d_MD_least_143 rfl rfl ?_
          refine es_getR d_MD_least_144 f_MD_44 rfl rfl ?_
          refine ev_bipush (v := 32) d_MD_least_147 rfl ?_
          refine ev_iload d_MD_least_149 rfl ?_
          refine ev_imul d_MD_least_151 ?_
          refine ev_iload d_MD_least_152 rfl ?_
          refine ev_iadd d_MD_least_154 ?_
          rw [ix32]
          refine es_zald d_MD_least_155 rfl (ez_vinN (by omega) (by omega)) ?_
          rw [hck, hck2]
          refine ev_if_ne d_MD_least_156 (fun h156 => ?_) (fun h156 => ?_)
          · rw [eb_0, Bool.not_eq_false] at h156
            refine ev_iconst (v := 1) d_MD_least_164 rfl ?_
            refine ev_goto d_MD_least_165 ?_
            refine es_zast d_MD_least_169 rfl (ez_vinN (by omega) (by omega)) ?_
            rw [hck]
            refine ev_iinc d_MD_least_170 rfl (ez_inc _) (by decide) ?_
            dsimp only [List.set_cons_zero, List.set_cons_succ]
            refine ev_goto d_MD_least_173 ?_
            refine ev_mask [true, true, true, true, true, true, false, false] rfl ?_
            have hte : bd (aT X op a s t) = true ↔ aT X op a s t := bd_t
            have hI9 : (!a (32 * s + t) && bd (aT X op a s t)) = false := by simp [h94]
            have hst := aP_step hw hxp (show s < 32 by omega) (show t < 32 by omega) hte
            rw [hI9, h117] at hst
            refine ih _ (by omega) (t + 1) true _ _ rfl ⟨h78, fun k hk => ?_, fun k hk => by rw [es_upf _ _ _ _ hk]; exact hoff k hk, hst⟩
            by_cases hke : k = 32 * s + t
            · rw [hke, es_upx, if_pos rfl, if_pos rfl, xn_eq, h94]; rfl
            · rw [es_upx, if_pos rfl, if_neg hke, xn_ne a _ hke]; exact hac k hk
          · rw [eb_0] at h156
            rw [h94] at h156; cases h156
        · rw [eb_0] at h117
          refine ev_iload d_MD_least_120 rfl ?_
          refine ev_if_eq d_MD_least_122 (fun _ => ?_) (fun h => absurd h (by decide))
          refine ev_iconst (v := 0) d_MD_least_129 rfl ?_
          refine ev_istore_n (i := 3) d_MD_least_130 rfl (by decide) ?_
          dsimp only [List.set_cons_zero, List.set_cons_succ]
          refine ev_aload_n (i := 0) d_MD_least_131 rfl rfl ?_
          refine es_getR d_MD_least_132 f_MD_44 rfl rfl ?_
          refine ev_bipush (v := 32) d_MD_least_135 rfl ?_
          refine ev_iload d_MD_least_137 rfl ?_
          refine ev_imul d_MD_least_139 ?_
          refine ev_iload d_MD_least_140 rfl ?_
          refine ev_iadd d_MD_least_142 ?_
          rw [ix32]
          refine ev_aload_n (i := 0) d_MD_least_143 rfl rfl ?_
          refine es_getR d_MD_least_144 f_MD_44 rfl rfl ?_
          refine ev_bipush (v := 32) d_MD_least_147 rfl ?_
          refine ev_iload d_MD_least_149 rfl ?_
          refine ev_imul d_MD_least_151 ?_
          refine ev_iload d_MD_least_152 rfl ?_
          refine ev_iadd d_MD_least_154 ?_
          rw [ix32]
          refine es_zald d_MD_least_155 rfl (ez_vinN (by omega) (by omega)) ?_
          rw [hck, hck2]
          refine ev_if_ne d_MD_least_156 (fun h156 => ?_) (fun h156 => ?_)
          · rw [eb_0, Bool.not_eq_false] at h156
            refine ev_iconst (v := 1) d_MD_least_164 rfl ?_
            refine ev_goto d_MD_least_165 ?_
            refine es_zast d_MD_least_169 rfl (ez_vinN (by omega) (by omega)) ?_
            rw [hck]
            refine ev_iinc d_MD_least_170 rfl (ez_inc _) (by decide) ?_
            dsimp only [List.set_cons_zero, List.set_cons_succ]
            refine ev_goto d_MD_least_173 ?_
            refine ev_mask [true, true, true, true, true, true, false, false] rfl ?_
            have hte : bd (aT X op a s t) = true ↔ aT X op a s t := bd_t
            have hI9 : (!a (32 * s + t) && bd (aT X op a s t)) = false := by simp [h94]
            have hst := aP_step hw hxp (show s < 32 by omega) (show t < 32 by omega) hte
            rw [hI9, h117] at hst
            refine ih _ (by omega) (t + 1) false _ _ rfl ⟨h78, fun k hk => ?_, fun k hk => by rw [es_upf _ _ _ _ hk]; exact hoff k hk, hst⟩
            by_cases hke : k = 32 * s + t
            · rw [hke, es_upx, if_pos rfl, if_pos rfl, xn_eq, h94]; rfl
            · rw [es_upx, if_pos rfl, if_neg hke, xn_ne a _ hke]; exact hac k hk
          · rw [eb_0] at h156
            rw [h94] at h156; cases h156
      · rw [eb_0] at h94
        refine ev_aload_n (i := 0) d_MD_least_97 rfl rfl ?_
        refine ev_iload_n (i := 1) d_MD_least_98 rfl rfl ?_
        refine ev_iload d_MD_least_99 rfl ?_
        refine ev_iload d_MD_least_101 rfl ?_
        refine es_cVI ls_MD_least_103 d_MD_least_103 rfl (c_MD_tells hw he hP4 (by rw [hoff 46 (by decide)]; exact h1c) hop (by rw [hoff 47 (by decide)]; exact hbr) (fun s2 r2 g1 g2 => by rw [hoff 56 (by decide)]; exact hxt s2 r2 g1 g2) hac hs h78) rfl rfl (Nat.le_of_ble_eq_true rfl) (fun x103 σ103 h103 => ?_) (fun _ _ h => h.elim)
        obtain ⟨⟨te, rfl, hte⟩, e103⟩ := h103
        rw [e103]
        refine ev_if_eq d_MD_least_106 (fun h106 => ?_) (fun h106 => ?_)
        · rw [eb_0] at h106
          refine ev_iconst (v := 0) d_MD_least_113 rfl ?_
          refine ev_istore d_MD_least_114 (by decide) ?_
          dsimp only [List.set_cons_zero, List.set_cons_succ]
          refine ev_iload_n (i := 3) d_MD_least_116 rfl rfl ?_
          refine ev_if_ne d_MD_least_117 (fun h117 => ?_) (fun h117 => ?_)
          · rw [eb_0, Bool.not_eq_false] at h117
            refine ev_iconst (v := 1) d_MD_least_125 rfl ?_
            refine ev_goto d_MD_least_126 ?_
            refine ev_istore_n (i := 3) d_MD_least_130 rfl (by decide) ?_
            dsimp only [List.set_cons_zero, List.set_cons_succ]
            refine ev_aload_n (i := 0) d_MD_least_131 rfl rfl ?_
            refine es_getR d_MD_least_132 f_MD_44 rfl rfl ?_
            refine ev_bipush (v := 32) d_MD_least_135 rfl ?_
            refine ev_iload d_MD_least_137 rfl ?_
            refine ev_imul d_MD_least_139 ?_
            refine ev_iload d_MD_least_140 rfl ?_
            refine ev_iadd d_MD_least_142 ?_
            rw [ix32]
            refine ev_aload_n (i := 0) d_MD_least_143 rfl rfl ?_
            refine es_getR d_MD_least_144 f_MD_44 rfl rfl ?_
            refine ev_bipush (v := 32) d_MD_least_147 rfl ?_
            refine ev_iload d_MD_least_149 rfl ?_
            refine ev_imul d_MD_least_151 ?_
            refine ev_iload d_MD_least_152 rfl ?_
            refine ev_iadd d_MD_least_154 ?_
            rw [ix32]
            refine es_zald d_MD_least_155 rfl (ez_vinN (by omega) (by omega)) ?_
            rw [hck, hck2]
            refine ev_if_ne d_MD_least_156 (fun h156 => ?_) (fun h156 => ?_)
            · rw [eb_0, Bool.not_eq_false] at h156
              rw [h94] at h156; cases h156
            · rw [eb_0] at h156
              refine ev_iload d_MD_least_159 rfl ?_
              refine ev_if_eq d_MD_least_161 (fun _ => ?_) (fun h => absurd h (by decide))
              refine ev_iconst (v := 0) d_MD_least_168 rfl ?_
              refine es_zast d_MD_least_169 rfl (ez_vinN (by omega) (by omega)) ?_
              rw [hck]
              refine ev_iinc d_MD_least_170 rfl (ez_inc _) (by decide) ?_
              dsimp only [List.set_cons_zero, List.set_cons_succ]
              refine ev_goto d_MD_least_173 ?_
              refine ev_mask [true, true, true, true, true, true, false, false] rfl ?_
              have hI9 : (!a (32 * s + t) && te) = false := by simp [h94, h106]
              have hst := aP_step hw hxp (show s < 32 by omega) (show t < 32 by omega) hte
              rw [hI9, h117] at hst
              refine ih _ (by omega) (t + 1) true _ _ rfl ⟨h78, fun k hk => ?_, fun k hk => by rw [es_upf _ _ _ _ hk]; exact hoff k hk, hst⟩
              by_cases hke : k = 32 * s + t
              · rw [hke, es_upx, if_pos rfl, if_pos rfl, xn_eq, h94]; rfl
              · rw [es_upx, if_pos rfl, if_neg hke, xn_ne a _ hke]; exact hac k hk
          · rw [eb_0] at h117
            refine ev_iload d_MD_least_120 rfl ?_
            refine ev_if_eq d_MD_least_122 (fun _ => ?_) (fun h => absurd h (by decide))
            refine ev_iconst (v := 0) d_MD_least_129 rfl ?_
            refine ev_istore_n (i := 3) d_MD_least_130 rfl (by decide) ?_
            dsimp only [List.set_cons_zero, List.set_cons_succ]
            refine ev_aload_n (i := 0) d_MD_least_131 rfl rfl ?_
            refine es_getR d_MD_least_132 f_MD_44 rfl rfl ?_
            refine ev_bipush (v := 32) d_MD_least_135 rfl ?_
            refine ev_iload d_MD_least_137 rfl ?_
            refine ev_imul d_MD_least_139 ?_
            refine ev_iload d_MD_least_140 rfl ?_
            refine ev_iadd d_MD_least_142 ?_
            rw [ix32]
            refine ev_aload_n (i := 0) d_MD_least_143 rfl rfl ?_
            refine es_getR d_MD_least_144 f_MD_44 rfl rfl ?_
            refine ev_bipush (v := 32) d_MD_least_147 rfl ?_
            refine ev_iload d_MD_least_149 rfl ?_
            refine ev_imul d_MD_least_151 ?_
            refine ev_iload d_MD_least_152 rfl ?_
            refine ev_iadd d_MD_least_154 ?_
            rw [ix32]
            refine es_zald d_MD_least_155 rfl (ez_vinN (by omega) (by omega)) ?_
            rw [hck, hck2]
            refine ev_if_ne d_MD_least_156 (fun h156 => ?_) (fun h156 => ?_)
            · rw [eb_0, Bool.not_eq_false] at h156
              rw [h94] at h156; cases h156
            · rw [eb_0] at h156
              refine ev_iload d_MD_least_159 rfl ?_
              refine ev_if_eq d_MD_least_161 (fun _ => ?_) (fun h => absurd h (by decide))
              refine ev_iconst (v := 0) d_MD_least_168 rfl ?_
              refine es_zast d_MD_least_169 rfl (ez_vinN (by omega) (by omega)) ?_
              rw [hck]
              refine ev_iinc d_MD_least_170 rfl (ez_inc _) (by decide) ?_
              dsimp only [List.set_cons_zero, List.set_cons_succ]
              refine ev_goto d_MD_least_173 ?_
              refine ev_mask [true, true, true, true, true, true, false, false] rfl ?_
              have hI9 : (!a (32 * s + t) && te) = false := by simp [h94, h106]
              have hst := aP_step hw hxp (show s < 32 by omega) (show t < 32 by omega) hte
              rw [hI9, h117] at hst
              refine ih _ (by omega) (t + 1) false _ _ rfl ⟨h78, fun k hk => ?_, fun k hk => by rw [es_upf _ _ _ _ hk]; exact hoff k hk, hst⟩
              by_cases hke : k = 32 * s + t
              · rw [hke, es_upx, if_pos rfl, if_pos rfl, xn_eq, h94]; rfl
              · rw [es_upx, if_pos rfl, if_neg hke, xn_ne a _ hke]; exact hac k hk
        · rw [eb_0, Bool.not_eq_false] at h106
          refine ev_iconst (v := 1) d_MD_least_109 rfl ?_
          refine ev_goto d_MD_least_110 ?_
          refine ev_istore d_MD_least_114 (by decide) ?_
          dsimp only [List.set_cons_zero, List.set_cons_succ]
          refine ev_iload_n (i := 3) d_MD_least_116 rfl rfl ?_
          refine ev_if_ne d_MD_least_117 (fun h117 => ?_) (fun h117 => ?_)
          · rw [eb_0, Bool.not_eq_false] at h117
            refine ev_iconst (v := 1) d_MD_least_125 rfl ?_
            refine ev_goto d_MD_least_126 ?_
            refine ev_istore_n (i := 3) d_MD_least_130 rfl (by decide) ?_
            dsimp only [List.set_cons_zero, List.set_cons_succ]
            refine ev_aload_n (i := 0) d_MD_least_131 rfl rfl ?_
            refine es_getR d_MD_least_132 f_MD_44 rfl rfl ?_
            refine ev_bipush (v := 32) d_MD_least_135 rfl ?_
            refine ev_iload d_MD_least_137 rfl ?_
            refine ev_imul d_MD_least_139 ?_
            refine ev_iload d_MD_least_140 rfl ?_
            refine ev_iadd d_MD_least_142 ?_
            rw [ix32]
            refine ev_aload_n (i := 0) d_MD_least_143 rfl rfl ?_
            refine es_getR d_MD_least_144 f_MD_44 rfl rfl ?_
            refine ev_bipush (v := 32) d_MD_least_147 rfl ?_
            refine ev_iload d_MD_least_149 rfl ?_
            refine ev_imul d_MD_least_151 ?_
            refine ev_iload d_MD_least_152 rfl ?_
            refine ev_iadd d_MD_least_154 ?_
            rw [ix32]
            refine es_zald d_MD_least_155 rfl (ez_vinN (by omega) (by omega)) ?_
            rw [hck, hck2]
            refine ev_if_ne d_MD_least_156 (fun h156 => ?_) (fun h156 => ?_)
            · rw [eb_0, Bool.not_eq_false] at h156
              rw [h94] at h156; cases h156
            · rw [eb_0] at h156
              refine ev_iload d_MD_least_159 rfl ?_
              refine ev_if_eq d_MD_least_161 (fun h => absurd h (by decide)) (fun _ => ?_)
              refine ev_iconst (v := 1) d_MD_least_164 rfl ?_
              refine ev_goto d_MD_least_165 ?_
              refine es_zast d_MD_least_169 rfl (ez_vinN (by omega) (by omega)) ?_
              rw [hck]
              refine ev_iinc d_MD_least_170 rfl (ez_inc _) (by decide) ?_
              dsimp only [List.set_cons_zero, List.set_cons_succ]
              refine ev_goto d_MD_least_173 ?_
              refine ev_mask [true, true, true, true, true, true, false, false] rfl ?_
              have hI9 : (!a (32 * s + t) && te) = true := by simp [h94, h106]
              have hst := aP_step hw hxp (show s < 32 by omega) (show t < 32 by omega) hte
              rw [hI9, h117] at hst
              refine ih _ (by omega) (t + 1) true _ _ rfl ⟨h78, fun k hk => ?_, fun k hk => by rw [es_upf _ _ _ _ hk]; exact hoff k hk, hst⟩
              by_cases hke : k = 32 * s + t
              · rw [hke, es_upx, if_pos rfl, if_pos rfl, xn_eq, h94]; rfl
              · rw [es_upx, if_pos rfl, if_neg hke, xn_ne a _ hke]; exact hac k hk
          · rw [eb_0] at h117
            refine ev_iload d_MD_least_120 rfl ?_
            refine ev_if_eq d_MD_least_122 (fun h => absurd h (by decide)) (fun _ => ?_)
            refine ev_iconst (v := 1) d_MD_least_125 rfl ?_
            refine ev_goto d_MD_least_126 ?_
            refine ev_istore_n (i := 3) d_MD_least_130 rfl (by decide) ?_
            dsimp only [List.set_cons_zero, List.set_cons_succ]
            refine ev_aload_n (i := 0) d_MD_least_131 rfl rfl ?_
            refine es_getR d_MD_least_132 f_MD_44 rfl rfl ?_
            refine ev_bipush (v := 32) d_MD_least_135 rfl ?_
            refine ev_iload d_MD_least_137 rfl ?_
            refine ev_imul d_MD_least_139 ?_
            refine ev_iload d_MD_least_140 rfl ?_
            refine ev_iadd d_MD_least_142 ?_
            rw [ix32]
            refine ev_aload_n (i := 0) d_MD_least_143 rfl rfl ?_
            refine es_getR d_MD_least_144 f_MD_44 rfl rfl ?_
            refine ev_bipush (v := 32) d_MD_least_147 rfl ?_
            refine ev_iload d_MD_least_149 rfl ?_
            refine ev_imul d_MD_least_151 ?_
            refine ev_iload d_MD_least_152 rfl ?_
            refine ev_iadd d_MD_least_154 ?_
            rw [ix32]
            refine es_zald d_MD_least_155 rfl (ez_vinN (by omega) (by omega)) ?_
            rw [hck, hck2]
            refine ev_if_ne d_MD_least_156 (fun h156 => ?_) (fun h156 => ?_)
            · rw [eb_0, Bool.not_eq_false] at h156
              rw [h94] at h156; cases h156
            · rw [eb_0] at h156
              refine ev_iload d_MD_least_159 rfl ?_
              refine ev_if_eq d_MD_least_161 (fun h => absurd h (by decide)) (fun _ => ?_)
              refine ev_iconst (v := 1) d_MD_least_164 rfl ?_
              refine ev_goto d_MD_least_165 ?_
              refine es_zast d_MD_least_169 rfl (ez_vinN (by omega) (by omega)) ?_
              rw [hck]
              refine ev_iinc d_MD_least_170 rfl (ez_inc _) (by decide) ?_
              dsimp only [List.set_cons_zero, List.set_cons_succ]
              refine ev_goto d_MD_least_173 ?_
              refine ev_mask [true, true, true, true, true, true, false, false] rfl ?_
              have hI9 : (!a (32 * s + t) && te) = true := by simp [h94, h106]
              have hst := aP_step hw hxp (show s < 32 by omega) (show t < 32 by omega) hte
              rw [hI9, h117] at hst
              refine ih _ (by omega) (t + 1) true _ _ rfl ⟨h78, fun k hk => ?_, fun k hk => by rw [es_upf _ _ _ _ hk]; exact hoff k hk, hst⟩
              by_cases hke : k = 32 * s + t
              · rw [hke, es_upx, if_pos rfl, if_pos rfl, xn_eq, h94]; rfl
              · rw [es_upx, if_pos rfl, if_neg hke, xn_ne a _ hke]; exact hac k hk
theorem lp_MD_least_66 {X : em_E} {P : Nat} (hw : em_wf P X) {e : Nat} (he : e < 2) (hm : md X e σ) (hP4 : P ≤ 4) (h1c : σ 46 1 = nI P) {op : Nat → Prop} (hop : ∀ r, op r → r < 2 ^ P) (hbr : ∀ r, r < 2 ^ P → ∃ c : Bool, σ 47 r = eb c ∧ (c = false ↔ op r)) (hxt : xt X P e σ) (hxc : xc (fun s => bd (em_rch (em_nx X) op s)) e σ) {Qy : Int32 → es_S → Prop} (hQ : ∀ σ', (∀ k, k ≠ 58 → σ' k = σ k) → Qy (nI (em_ct (em_ft (em_rch (em_nx X) op) (fun s t => ¬ em_ap (em_ou X) (em_nx X) op s t)) 32)) σ') {a0 : Nat → Bool} (hex : ∀ (g : Bool) (a : Nat → Bool) (σ1 : es_S), ac a σ1 → (∀ k, k ≠ 58 → σ1 k = σ k) → aP X op a0 g a (2 ^ em_dl X (em_n X)) 0 → ez_Ev l G X_MD_least 0 0 182 [some (.ref 46), some (.int (nI e)), some (.int (nI (2 ^ em_dl X (em_n X)))), some (.int (eb g)), none, none, none, none] [] (es_H σ1) (es_Q (es_I Qy) es_no)) : ∀ (d : Nat) (s : Nat) (g : Bool) (a : Nat → Bool) (σ1 : es_S), 32 - s = d → (s ≤ 2 ^ em_dl X (em_n X) ∧ ac a σ1 ∧ (∀ k, k ≠ 58 → σ1 k = σ k) ∧ aP X op a0 g a s 0) → ez_Ev l G X_MD_least 0 0 66 [some (.ref 46), some (.int (nI e)), some (.int (nI (2 ^ em_dl X (em_n X)))), some (.int (eb g)), some (.int (nI s)), none, none, none] [] (es_H σ1) (es_Q (es_I Qy) es_no) := by
  intro d
  induction d using Nat.strongRecOn with
  | _ d ih =>
    intro s g a σ1 hmm hinv
    obtain ⟨hs, hac, hoff, hxp⟩ := hinv
    have hN : 2 ^ em_dl X (em_n X) ≤ 2 ^ 5 := Nat.pow_le_pow_right (by omega) hw.2.2.2.2.2.2
    have hP16 : 2 ^ P ≤ 2 ^ 4 := Nat.pow_le_pow_right (by omega) hP4
    refine ev_iload d_MD_least_66 rfl ?_
    refine ev_iload_n (i := 2) d_MD_least_68 rfl rfl ?_
    refine ev_icmp_ge d_MD_least_69 (fun h69 => ?_) (fun h69 => ?_)
    · rw [nI_leI (by omega) (by omega)] at h69
      have hse : s = 2 ^ em_dl X (em_n X) := by omega
      rw [hse] at hxp
      exact ev_mask [true, true, true, true, false, false, false, false] rfl (hex g a σ1 hac hoff hxp)
    · rw [nI_leI (by omega) (by omega), Nat.not_le] at h69
      refine ev_iconst (v := 0) d_MD_least_72 rfl ?_
      refine ev_istore d_MD_least_73 (by decide) ?_
      dsimp only [List.set_cons_zero, List.set_cons_succ]
      refine lp_MD_least_75 hw he hm hP4 h1c hop hbr hxt hxc hQ (a0 := a0) h69 (fun g2 a2 σ2 k1 k2 k3 => ?_) _ 0 g a σ1 rfl ⟨Nat.zero_le _, hac, hoff, hxp⟩
      refine ev_iinc d_MD_least_176 rfl (ez_inc _) (by decide) ?_
      dsimp only [List.set_cons_zero, List.set_cons_succ]
      refine ev_goto d_MD_least_179 ?_
      exact ih _ (by omega) (s + 1) g2 a2 σ2 rfl ⟨h69, k1, k2, k3⟩
theorem lp_MD_least_57 {X : em_E} {P : Nat} (hw : em_wf P X) {e : Nat} (he : e < 2) (hm : md X e σ) (hP4 : P ≤ 4) (h1c : σ 46 1 = nI P) {op : Nat → Prop} (hop : ∀ r, op r → r < 2 ^ P) (hbr : ∀ r, r < 2 ^ P → ∃ c : Bool, σ 47 r = eb c ∧ (c = false ↔ op r)) (hxt : xt X P e σ) (hxc : xc (fun s => bd (em_rch (em_nx X) op s)) e σ) {Qy : Int32 → es_S → Prop} (hQ : ∀ σ', (∀ k, k ≠ 58 → σ' k = σ k) → Qy (nI (em_ct (em_ft (em_rch (em_nx X) op) (fun s t => ¬ em_ap (em_ou X) (em_nx X) op s t)) 32)) σ') : ∀ (d : Nat) (g : Bool) (a : Nat → Bool) (σ1 : es_S), 2 * (1024 - em_ct (fun k => a k = true) 1024) + bn g = d → (ac a σ1 ∧ (∀ k, k ≠ 58 → σ1 k = σ k) ∧ (∀ u v, u < 32 → v < 32 → a (32 * u + v) = true → em_ap (em_ou X) (em_nx X) op u v) ∧ (g = false → ∀ u v, u < 2 ^ em_dl X (em_n X) → v < 2 ^ em_dl X (em_n X) → aT X op a u v → a (32 * u + v) = true)) → ez_Ev l G X_MD_least 0 0 57 [some (.ref 46), some (.int (nI e)), some (.int (nI (2 ^ em_dl X (em_n X)))), some (.int (eb g)), none, none, none, none] [] (es_H σ1) (es_Q (es_I Qy) es_no) := by
  intro d
  induction d using Nat.strongRecOn with
  | _ d ih =>
    intro g a σ1 hmm hinv
    obtain ⟨hac, hoff, hsn, hcl⟩ := hinv
    have hN : 2 ^ em_dl X (em_n X) ≤ 2 ^ 5 := Nat.pow_le_pow_right (by omega) hw.2.2.2.2.2.2
    have hP16 : 2 ^ P ≤ 2 ^ 4 := Nat.pow_le_pow_right (by omega) hP4
    refine ev_iload_n (i := 3) d_MD_least_57 rfl rfl ?_
    refine ev_if_eq d_MD_least_58 (fun h58 => ?_) (fun h58 => ?_)
    · rw [eb_0] at h58
      refine ev_iconst (v := 0) d_MD_least_185 rfl ?_
      refine ev_istore d_MD_least_186 (by decide) ?_
      dsimp only [List.set_cons_zero, List.set_cons_succ]
      refine ev_iconst (v := 0) d_MD_least_188 rfl ?_
      refine ev_istore d_MD_least_189 (by decide) ?_
      dsimp only [List.set_cons_zero, List.set_cons_succ]
      exact lp_MD_least_191 hw he hm hP4 h1c hop hbr hxt hxc hQ hac hoff (aP_end hw hsn (hcl h58)) _ 0 rfl (Nat.zero_le _)
    · rw [eb_0, Bool.not_eq_false] at h58
      refine ev_iconst (v := 0) d_MD_least_61 rfl ?_
      refine ev_istore_n (i := 3) d_MD_least_62 rfl (by decide) ?_
      dsimp only [List.set_cons_zero, List.set_cons_succ]
      refine ev_iconst (v := 0) d_MD_least_63 rfl ?_
      refine ev_istore d_MD_least_64 (by decide) ?_
      dsimp only [List.set_cons_zero, List.set_cons_succ]
      refine lp_MD_least_66 hw he hm hP4 h1c hop hbr hxt hxc hQ (a0 := a) (fun g2 a2 σ2 k1 k2 k3 => ?_) _ 0 false a σ1 rfl ⟨Nat.zero_le _, hac, hoff, ⟨fun _ q => q, hsn, (fun q => by cases q), fun _ => ⟨fun _ q => q, fun u v hu hv huv => by omega⟩⟩⟩
      refine ev_goto d_MD_least_182 ?_
      have hle := em_ct_le (p := fun k => a k = true) (q := fun k => a2 k = true) 1024 (fun k _ q => k3.1 k q)
      have hl2 := em_ct_n (fun k => a2 k = true) 1024
      refine ih _ ?_ g2 a2 σ2 rfl ⟨k1, k2, k3.2.1, fun hg u v hu hv hT => (k3.2.2.2 hg).2 u v hu hv (Or.inl hu) hT⟩
      cases g2 with
      | true => have := k3.2.2.1 rfl; simp only [h58, bn, if_true] at hmm ⊢; omega
      | false => simp only [h58, bn, if_true, Bool.false_eq_true, if_false] at hmm ⊢; omega
theorem lp_MD_least_27 {X : em_E} {P : Nat} (hw : em_wf P X) {e : Nat} (he : e < 2) (hm : md X e σ) (hP4 : P ≤ 4) (h1c : σ 46 1 = nI P) {op : Nat → Prop} (hop : ∀ r, op r → r < 2 ^ P) (hbr : ∀ r, r < 2 ^ P → ∃ c : Bool, σ 47 r = eb c ∧ (c = false ↔ op r)) (hxt : xt X P e σ) (hxc : xc (fun s => bd (em_rch (em_nx X) op s)) e σ) {Qy : Int32 → es_S → Prop} (hQ : ∀ σ', (∀ k, k ≠ 58 → σ' k = σ k) → Qy (nI (em_ct (em_ft (em_rch (em_nx X) op) (fun s t => ¬ em_ap (em_ou X) (em_nx X) op s t)) 32)) σ') : ∀ (d : Nat) (k : Nat) (σ1 : es_S), 1024 - k = d → (k ≤ 1024 ∧ (∀ q, q < k → σ1 58 q = eb false) ∧ (∀ k, k ≠ 58 → σ1 k = σ k)) → ez_Ev l G X_MD_least 0 0 27 [some (.ref 46), some (.int (nI e)), some (.int (nI k)), none, none, none, none, none] [] (es_H σ1) (es_Q (es_I Qy) es_no) := by
  intro d
  induction d using Nat.strongRecOn with
  | _ d ih =>
    intro k σ1 hmm hinv
    obtain ⟨hk, hz, hoff⟩ := hinv
    have hd5 := hw.2.2.2.2.2.2
    refine ev_iload_n (i := 2) d_MD_least_27 rfl rfl ?_
    refine ev_sipush (v := 1024) d_MD_least_28 rfl ?_
    refine ev_icmp_ge d_MD_least_31 (fun h31 => ?_) (fun h31 => ?_)
    · rw [show (1024 : Int32) = nI 1024 from rfl, nI_leI (by omega) (by omega)] at h31
      refine ev_iconst (v := 1) d_MD_least_47 rfl ?_
      refine ev_aload_n (i := 0) d_MD_least_48 rfl rfl ?_
      refine ev_iload_n (i := 1) d_MD_least_49 rfl rfl ?_
      refine es_cVI ls_MD_least_50 d_MD_least_50 rfl (c_MD_delays hw he (md_off hm (fun k g1 g2 => hoff k (by omega)))) rfl rfl (Nat.le_of_ble_eq_true rfl) (fun x50 σ50 h50 => ?_) (fun _ _ h => h.elim)
      obtain ⟨rfl, e50⟩ := h50
      rw [e50]
      refine ev_ishl d_MD_least_53 ?_
      rw [shl1 (by omega)]
      refine ev_istore_n (i := 2) d_MD_least_54 rfl (by decide) ?_
      dsimp only [List.set_cons_zero, List.set_cons_succ]
      refine ev_iconst (v := 1) d_MD_least_55 rfl ?_
      refine ev_istore_n (i := 3) d_MD_least_56 rfl (by decide) ?_
      dsimp only [List.set_cons_zero, List.set_cons_succ]
      refine lp_MD_least_57 hw he hm hP4 h1c hop hbr hxt hxc hQ _ true (fun _ => false) σ1 rfl ⟨fun q hq => hz q (by omega), hoff, (fun u v _ _ q => by cases q), (fun q => by cases q)⟩
    · rw [show (1024 : Int32) = nI 1024 from rfl, nI_leI (by omega) (by omega), Nat.not_le] at h31
      refine ev_aload_n (i := 0) d_MD_least_34 rfl rfl ?_
      refine es_getR d_MD_least_35 f_MD_44 rfl rfl ?_
      refine ev_iload_n (i := 2) d_MD_least_38 rfl rfl ?_
      refine ev_iconst (v := 0) d_MD_least_39 rfl ?_
      refine es_zast d_MD_least_40 rfl (ez_vinN (by omega) (by omega)) ?_
      rw [nI_clamp (by omega)]
      refine ev_iinc d_MD_least_41 rfl (ez_inc _) (by decide) ?_
      dsimp only [List.set_cons_zero, List.set_cons_succ]
      refine ev_goto d_MD_least_44 ?_
      refine ih _ (by omega) (k + 1) _ rfl ⟨by omega, fun q hq => ?_, fun k hk => by rw [es_upf _ _ _ _ hk]; exact hoff k hk⟩
      by_cases hqk : q = k
      · rw [hqk, es_upx, if_pos rfl, if_pos rfl]; rfl
      · rw [es_upx, if_pos rfl, if_neg hqk]; exact hz q (by omega)
theorem c_MD_least {S : sp_S} (hm : rm S σ) {e : Int32} : ez_Ct l G X_MD_least [.ref 46, .int e] (es_H σ) (es_Q (es_I fun y σ' => mR S (g_ed e) (em_right (sE S e)) (v_least S e) (S) y σ' ∧ ∀ k, (k < 46 ∨ 63 < k) → σ' k = σ k) es_no) := by
  refine es_Ct_of (ls := [some (.ref 46), some (.int e), none, none, none, none, none, none]) ok_MD_least rfl (Nat.le_of_ble_eq_true rfl) rfl ?_
  refine ev_aload_n (i := 0) d_MD_least_0 rfl rfl ?_
  refine ev_iload_n (i := 1) d_MD_least_1 rfl rfl ?_
  refine ev_iconst (v := 0) d_MD_least_2 rfl ?_
  refine ev_iconst (v := 1) d_MD_least_3 rfl ?_
  refine es_cSI ls_MD_least_4 d_MD_least_4 c_MD_in rfl rfl (Nat.le_of_ble_eq_true rfl) (fun x4 σ4 h4 => ?_) (fun _ _ h => h.elim)
  obtain ⟨rfl, e4⟩ := h4
  rw [e4, ei1]
  refine ev_aload_n (i := 0) d_MD_least_7 rfl rfl ?_
  refine ev_iload_n (i := 1) d_MD_least_8 rfl rfl ?_
  refine es_cVI ls_MD_least_9 d_MD_least_9 rfl (c_MD_isRight hm) rfl rfl (Nat.le_of_ble_eq_true rfl) (fun x9 σ9 h9 => ?_) (fun _ _ h => h.elim)
  obtain ⟨rfl, e9⟩ := h9
  have hm2 := rm_54 hm e9
  refine es_cVI ls_MD_least_12 d_MD_least_12 rfl (c_MD_goes (a := ew e 2)) rfl rfl (Nat.le_of_ble_eq_true rfl) (fun x12 σ12 h12 => ?_) (fun _ _ h => h.elim)
  obtain ⟨rfl, rfl⟩ := h12
  refine ev_if_ne d_MD_least_15 (fun h15 => ?_) (fun h15 => ?_)
  · rw [eb_0, Bool.not_eq_false, Bool.and_eq_true, bd_t] at h15
    have hri := h15.2.2
    rw [if_pos h15.1, if_pos (bd_t.mpr h15.2)]
    obtain ⟨j, hj, rfl, hj2⟩ := ew_ex (n := 2) h15.1 (by omega)
    have hw := sE_wf hm.1 (nI j)
    have hm3 := rm_thrown hm2 0
    have hmd := rm_md hm3 hj
    refine ev_aload_n (i := 0) d_MD_least_20 rfl rfl ?_
    refine ev_iload_n (i := 1) d_MD_least_21 rfl rfl ?_
    refine es_cVV ls_MD_least_22 d_MD_least_22 rfl (c_MD_explore hw hj hmd hm.1.1.2 hri hm3.2.1 (op := sop S) (fun r hr => hr.1) (rm_br hm3)) rfl rfl (Nat.le_of_ble_eq_true rfl) (fun σ22 h22 => ?_) (fun _ _ h => h.elim)
    obtain ⟨x1, x2, x3, x4, x5⟩ := h22
    have hm4 := rm_57 hm3 x5
    have ho4 : ∀ k, (k < 46 ∨ 63 < k) → σ22 k = σ k := fun k hk => by rw [x5 k (by omega) (by omega) (by omega), es_upf _ _ _ _ (by omega)]; exact e9 k (by omega)
    have ht4 : σ22 46 0 = 0 := by rw [x5 46 (by decide) (by decide) (by decide)]; simp [es_upx]
    refine ev_iconst (v := 0) d_MD_least_25 rfl ?_
    refine ev_istore_n (i := 2) d_MD_least_26 rfl (by decide) ?_
    dsimp only [List.set_cons_zero, List.set_cons_succ]
    refine lp_MD_least_27 hw hj (rm_md hm4 hj) hm.1.1.2 hm4.2.1 (fun r hr => hr.1) (rm_br hm4) x1 x2 (fun σ9 h9 => ?_) _ 0 σ22 rfl ⟨by omega, fun q hq => absurd hq (Nat.not_lt_zero _), fun _ _ => rfl⟩
    exact ⟨Or.inr (Or.inr ⟨h15.1, hri, by rw [h9 46 (by decide)]; exact ht4, rfl, rm_58 hm4 h9⟩), fun k hk => by rw [h9 k (by omega)]; exact ho4 k hk⟩
  · rw [eb_0] at h15
    refine ev_iconst (v := 0) d_MD_least_18 rfl ?_
    refine es_iret d_MD_least_19 rfl ⟨Nat.zero_le _, Nat.zero_le _⟩ ⟨_, rfl, ?_⟩
    by_cases hee : ew e 2 = true
    · have hb : bd (ew e 2 = true ∧ em_right (sE S e)) = false := (Bool.and_eq_false_iff.mp h15).resolve_left (by rw [hee]; decide)
      rw [if_pos hee, hb, if_neg (by decide)]
      exact ⟨Or.inr (Or.inl ⟨hee, fun g => bd_f.mp hb ⟨hee, g⟩, by simp [es_upx], rm_thrown hm2 _⟩), fun k hk => by rw [es_upf _ _ _ _ (by omega)]; exact e9 k (by omega)⟩
    · rw [if_neg hee]
      exact ⟨Or.inl ⟨fun g => hee g, by simp [es_upx], rm_thrown hm2 _⟩, fun k hk => by rw [es_upf _ _ _ _ (by omega)]; exact e9 k (by omega)⟩
end
