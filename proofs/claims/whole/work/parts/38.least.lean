/-! ===== Behaviour: how many classes ===== -/
section
variable {l : Launch} {G : ez_G} {σ : es_S}
theorem em_ft_congr {p : Nat → Prop} {E F : Nat → Nat → Prop} (h : ∀ s t, p s → p t → (E s t ↔ F s t)) (s : Nat) : em_ft p E s ↔ em_ft p F s :=
  ⟨fun g => ⟨g.1, fun t ht pt hf => g.2 t ht pt ((h s t g.1 pt).mpr hf)⟩, fun g => ⟨g.1, fun t ht pt hf => g.2 t ht pt ((h s t g.1 pt).mp hf)⟩⟩
/-- of one class by the cells -/
def cE (σ : es_S) (b s t : Nat) : Prop := σ (b + 6) s = σ (b + 6) t
theorem cE_eq (σ : es_S) (b : Nat) (p : Nat → Prop) : (∀ s, p s → cE σ b s s) ∧ (∀ s t, p s → p t → cE σ b s t → cE σ b t s) ∧ (∀ s t u, p s → p t → p u → cE σ b s t → cE σ b t u → cE σ b s u) :=
  ⟨fun _ _ => rfl, fun _ _ _ _ h => h.symm, fun _ _ _ _ _ _ h g => h.trans g⟩
theorem lp_BH_partByOuts_2 {b e : Nat} (hb : sb_BH b e) {dc : Nat} (hd5 : dc ≤ 5) (h10 : σ b 10 = nI (2 ^ dc)) {pr : Nat → Prop} (hp : ∀ s, s < 32 → (bt (σ b 11) s = true ↔ pr s)) (hpl : ∀ s, pr s → s < 2 ^ dc) {ou nx : Nat → Nat → Nat} (hnx : ∀ s r, nx s r < 2 ^ dc) (hou : ∀ s r, ou s r < 8) {op : Nat → Prop} (hop : ∀ r, op r → r < 16) (hT : ∀ s r, s < 2 ^ dc → op r → σ (b + 3) (r * 32 + s) = nI (ou s r) ∧ σ (b + 4) (r * 32 + s) = nI (nx s r)) {r : Nat} (ho : op r) (hex : ∀ σ1 : es_S, (∀ k, k ≠ b + 7 → σ1 k = σ k) → (∀ q, q < 32 → σ1 (b + 7) q = σ (b + 3) (r * 32 + q % 2 ^ dc)) → ez_Ev l G X_BH_partByOuts 0 0 26 [some (.ref b), some (.int (nI r)), none] [] (es_H σ1) (es_Q (es_I fun y σ' => y = nI (em_ct (em_ft pr (fun s t => cE σ b s t ∧ ou s r = ou t r)) 32) ∧ (∀ s t, pr s → pr t → (cE σ' b s t ↔ (fun s t => cE σ b s t ∧ ou s r = ou t r) s t)) ∧ ∀ k, k ≠ b + 6 → k ≠ b + 7 → k ≠ b + 8 → σ' k = σ k) es_no)) : ∀ (d : Nat) (s : Nat) (σ1 : es_S), 32 - s = d → (s ≤ 32 ∧ (∀ k, k ≠ b + 7 → σ1 k = σ k) ∧ ∀ q, q < s → σ1 (b + 7) q = σ (b + 3) (r * 32 + q % 2 ^ dc)) → ez_Ev l G X_BH_partByOuts 0 0 2 [some (.ref b), some (.int (nI r)), some (.int (nI s))] [] (es_H σ1) (es_Q (es_I fun y σ' => y = nI (em_ct (em_ft pr (fun s t => cE σ b s t ∧ ou s r = ou t r)) 32) ∧ (∀ s t, pr s → pr t → (cE σ' b s t ↔ (fun s t => cE σ b s t ∧ ou s r = ou t r) s t)) ∧ ∀ k, k ≠ b + 6 → k ≠ b + 7 → k ≠ b + 8 → σ' k = σ k) es_no) := by
  intro d
  induction d using Nat.strongRecOn with
  | _ d ih =>
    intro s σ1 hm hinv
    obtain ⟨hs, hoff, hkey⟩ := hinv
    have h32 : 2 ^ dc ≤ 2 ^ 5 := Nat.pow_le_pow_right (by omega) hd5
    have h101 : σ1 b 10 = nI (2 ^ dc) := by rw [hoff b (by omega)]; exact h10
    refine ev_iload_n (i := 2) d_BH_partByOuts_2 rfl rfl ?_
    refine ev_bipush (v := 32) d_BH_partByOuts_3 rfl ?_
    refine ev_icmp_ge d_BH_partByOuts_5 (fun h5 => ?_) (fun h5 => ?_)
    · rw [show (32 : Int32) = nI 32 from rfl, nI_leI (by omega) (by omega)] at h5
      refine ev_mask [true, true, false] rfl (hex σ1 hoff (fun q hq => hkey q (by omega)))
    · rw [show (32 : Int32) = nI 32 from rfl, nI_leI (by omega) (by omega), Nat.not_le] at h5
      refine ev_aload_n (i := 0) d_BH_partByOuts_8 rfl rfl ?_
      refine es_getR d_BH_partByOuts_9 f_BH_30 (sh_BH hb) rfl ?_
      refine ev_iload_n (i := 2) d_BH_partByOuts_12 rfl rfl ?_
      refine ev_aload_n (i := 0) d_BH_partByOuts_13 rfl rfl ?_
      refine ev_iload_n (i := 2) d_BH_partByOuts_14 rfl rfl ?_
      refine ev_iload_n (i := 1) d_BH_partByOuts_15 rfl rfl ?_
      refine es_cVI ls_BH_partByOuts_16 d_BH_partByOuts_16 (sh_BH hb) (c_BH_outsOf hb (hop r ho) (show s < 2 ^ 31 by omega) hd5 h101) rfl rfl (Nat.le_of_ble_eq_true rfl) (fun x16 σ16 h16 => ?_) (fun _ _ h => h.elim)
      obtain ⟨rfl, e16⟩ := h16
      rw [e16]
      refine es_iast d_BH_partByOuts_19 (sa_BH_keys hb) (ez_vinN (by omega) (by omega)) ?_
      refine ev_iinc d_BH_partByOuts_20 rfl (ez_inc _) (by decide) ?_
      dsimp only [List.set_cons_zero, List.set_cons_succ]
      refine ev_goto d_BH_partByOuts_23 ?_
      rw [nI_clamp (show s < 2 ^ 31 by omega)]
      refine ih _ (by omega) (s + 1) _ rfl ⟨by omega, fun k hk => by rw [es_upf _ _ _ _ hk]; exact hoff k hk, fun q hq => ?_⟩
      by_cases hqs : q = s
      · rw [hqs]; simp only [es_upx, if_true]; rw [hoff (b + 3) (by omega)]
      · simp only [es_upx, hqs, if_true, if_false]; exact hkey q (by omega)
theorem c_BH_partByOuts {b e : Nat} (hb : sb_BH b e) {dc : Nat} (hd5 : dc ≤ 5) (h10 : σ b 10 = nI (2 ^ dc)) {pr : Nat → Prop} (hp : ∀ s, s < 32 → (bt (σ b 11) s = true ↔ pr s)) (hpl : ∀ s, pr s → s < 2 ^ dc) {ou nx : Nat → Nat → Nat} (hnx : ∀ s r, nx s r < 2 ^ dc) (hou : ∀ s r, ou s r < 8) {op : Nat → Prop} (hop : ∀ r, op r → r < 16) (hT : ∀ s r, s < 2 ^ dc → op r → σ (b + 3) (r * 32 + s) = nI (ou s r) ∧ σ (b + 4) (r * 32 + s) = nI (nx s r)) {r : Nat} (ho : op r) : ez_Ct l G X_BH_partByOuts [.ref b, .int (nI r)] (es_H σ) (es_Q (es_I fun y σ' => y = nI (em_ct (em_ft pr (fun s t => cE σ b s t ∧ ou s r = ou t r)) 32) ∧ (∀ s t, pr s → pr t → (cE σ' b s t ↔ (fun s t => cE σ b s t ∧ ou s r = ou t r) s t)) ∧ ∀ k, k ≠ b + 6 → k ≠ b + 7 → k ≠ b + 8 → σ' k = σ k) es_no) := by
  have h32 : 2 ^ dc ≤ 2 ^ 5 := Nat.pow_le_pow_right (by omega) hd5
  refine es_Ct_of (ls := [some (.ref b), some (.int (nI r)), none]) ok_BH_partByOuts rfl (Nat.le_of_ble_eq_true rfl) rfl ?_
  refine ev_iconst (v := 0) d_BH_partByOuts_0 rfl ?_
  refine ev_istore_n (i := 2) d_BH_partByOuts_1 rfl (by decide) ?_
  dsimp only [List.set_cons_zero, List.set_cons_succ]
  refine lp_BH_partByOuts_2 hb hd5 h10 hp hpl hnx hou hop hT ho (fun σ1 hoff hkey => ?_) _ 0 σ rfl ⟨by omega, fun _ _ => rfl, fun q hq => by omega⟩
  refine ev_aload_n (i := 0) d_BH_partByOuts_26 rfl rfl ?_
  refine es_cVI ls_BH_partByOuts_27 d_BH_partByOuts_27 (sh_BH hb) (c_BH_partByKeys hb (pr := pr) (fun s hs => by rw [hoff b (by omega)]; exact hp s hs) (fun s ps => by have := hpl s ps; omega)) rfl rfl (Nat.le_of_ble_eq_true rfl) (fun x27 σ27 h27 => ?_) (fun _ _ h => h.elim)
  have hE : ∀ s t, pr s → pr t → (pz_E σ1 b s t ↔ (fun s t => cE σ b s t ∧ ou s r = ou t r) s t) := fun s t ps pt => by
    have h1 := hpl s ps
    have h2 := hpl t pt
    unfold pz_E cE
    rw [hoff (b + 6) (by omega), hkey s (by omega), hkey t (by omega), Nat.mod_eq_of_lt h1, Nat.mod_eq_of_lt h2, (hT s r h1 ho).1, (hT t r h2 ho).1, nI_eq (by have := hou s r; omega) (by have := hou t r; omega)]
  obtain ⟨rfl, k2, k3⟩ := h27
  
  refine es_iret d_BH_partByOuts_30 rfl ⟨Nat.zero_le _, Nat.zero_le _⟩ ⟨_, rfl, ?_⟩
  refine ⟨?_, fun s t ps pt => ?_, fun k g1 g2 g3 => by rw [k3 k g1 g3]; exact hoff k g2⟩
  · rw [em_ct_congr 32 (fun x _ => em_ft_congr hE x)]
  · exact (k2 s t (by have := hpl s ps; omega) (by have := hpl t pt; omega) ps pt).trans (hE s t ps pt)
theorem lp_BH_partByNextClass_2 {b e : Nat} (hb : sb_BH b e) {dc : Nat} (hd5 : dc ≤ 5) (h10 : σ b 10 = nI (2 ^ dc)) {pr : Nat → Prop} (hp : ∀ s, s < 32 → (bt (σ b 11) s = true ↔ pr s)) (hpl : ∀ s, pr s → s < 2 ^ dc) {ou nx : Nat → Nat → Nat} (hnx : ∀ s r, nx s r < 2 ^ dc) (hou : ∀ s r, ou s r < 8) {op : Nat → Prop} (hop : ∀ r, op r → r < 16) (hT : ∀ s r, s < 2 ^ dc → op r → σ (b + 3) (r * 32 + s) = nI (ou s r) ∧ σ (b + 4) (r * 32 + s) = nI (nx s r)) {r : Nat} (ho : op r) (hex : ∀ σ1 : es_S, (∀ k, k ≠ b + 7 → σ1 k = σ k) → (∀ q, q < 32 → σ1 (b + 7) q = σ (b + 6) (nx (q % 2 ^ dc) r)) → ez_Ev l G X_BH_partByNextClass 0 0 46 [some (.ref b), some (.int (nI r)), none, none] [] (es_H σ1) (es_Q (es_I fun y σ' => y = nI (em_ct (em_ft pr (fun s t => cE σ b s t ∧ cE σ b (nx s r) (nx t r))) 32) ∧ (∀ s t, pr s → pr t → (cE σ' b s t ↔ (fun s t => cE σ b s t ∧ cE σ b (nx s r) (nx t r)) s t)) ∧ ∀ k, k ≠ b + 6 → k ≠ b + 7 → k ≠ b + 8 → σ' k = σ k) es_no)) : ∀ (d : Nat) (s : Nat) (σ1 : es_S), 32 - s = d → (s ≤ 32 ∧ (∀ k, k ≠ b + 7 → σ1 k = σ k) ∧ ∀ q, q < s → σ1 (b + 7) q = σ (b + 6) (nx (q % 2 ^ dc) r)) → ez_Ev l G X_BH_partByNextClass 0 0 2 [some (.ref b), some (.int (nI r)), some (.int (nI s)), none] [] (es_H σ1) (es_Q (es_I fun y σ' => y = nI (em_ct (em_ft pr (fun s t => cE σ b s t ∧ cE σ b (nx s r) (nx t r))) 32) ∧ (∀ s t, pr s → pr t → (cE σ' b s t ↔ (fun s t => cE σ b s t ∧ cE σ b (nx s r) (nx t r)) s t)) ∧ ∀ k, k ≠ b + 6 → k ≠ b + 7 → k ≠ b + 8 → σ' k = σ k) es_no) := by
  intro d
  induction d using Nat.strongRecOn with
  | _ d ih =>
    intro s σ1 hm hinv
    obtain ⟨hs, hoff, hkey⟩ := hinv
    have h32 : 2 ^ dc ≤ 2 ^ 5 := Nat.pow_le_pow_right (by omega) hd5
    have h101 : σ1 b 10 = nI (2 ^ dc) := by rw [hoff b (by omega)]; exact h10
    refine ev_iload_n (i := 2) d_BH_partByNextClass_2 rfl rfl ?_
    refine ev_bipush (v := 32) d_BH_partByNextClass_3 rfl ?_
    refine ev_icmp_ge d_BH_partByNextClass_5 (fun h5 => ?_) (fun h5 => ?_)
    · rw [show (32 : Int32) = nI 32 from rfl, nI_leI (by omega) (by omega)] at h5
      refine ev_mask [true, true, false, false] rfl (hex σ1 hoff (fun q hq => hkey q (by omega)))
    · rw [show (32 : Int32) = nI 32 from rfl, nI_leI (by omega) (by omega), Nat.not_le] at h5
      refine ev_aload_n (i := 0) d_BH_partByNextClass_8 rfl rfl ?_
      refine ev_iload_n (i := 2) d_BH_partByNextClass_9 rfl rfl ?_
      refine ev_iload_n (i := 1) d_BH_partByNextClass_10 rfl rfl ?_
      refine es_cVI ls_BH_partByNextClass_11 d_BH_partByNextClass_11 (sh_BH hb) (c_BH_stateAfter hb (hop r ho) (show s < 2 ^ 31 by omega) hd5 h101) rfl rfl (Nat.le_of_ble_eq_true rfl) (fun x11 σ11 h11 => ?_) (fun _ _ h => h.elim)
      obtain ⟨rfl, e11⟩ := h11
      rw [e11]
      have hsm : s % 2 ^ dc < 2 ^ dc := Nat.mod_lt _ (Nat.two_pow_pos dc)
      have hnxv : σ1 (b + 4) (r * 32 + s % 2 ^ dc) = nI (nx (s % 2 ^ dc) r) := by rw [hoff (b + 4) (by omega)]; exact (hT _ _ hsm ho).2
      have hnl := hnx (s % 2 ^ dc) r
      rw [hnxv]
      refine ev_istore_n (i := 3) d_BH_partByNextClass_14 rfl (by decide) ?_
      dsimp only [List.set_cons_zero, List.set_cons_succ]
      refine ev_aload_n (i := 0) d_BH_partByNextClass_15 rfl rfl ?_
      refine es_getR d_BH_partByNextClass_16 f_BH_30 (sh_BH hb) rfl ?_
      refine ev_iload_n (i := 2) d_BH_partByNextClass_19 rfl rfl ?_
      refine ev_iload_n (i := 3) d_BH_partByNextClass_20 rfl rfl ?_
      refine ev_bipush (v := 32) d_BH_partByNextClass_21 rfl ?_
      refine es_cSI ls_BH_partByNextClass_23 d_BH_partByNextClass_23 c_EE_isWithin rfl rfl (Nat.le_of_ble_eq_true rfl) (fun x23 σ23 h23 => ?_) (fun _ _ h => h.elim)
      obtain ⟨rfl, e23⟩ := h23
      rw [e23]
      refine ev_if_eq d_BH_partByNextClass_26 (fun h26 => ?_) (fun h26 => ?_)
      · exact absurd h26 (by rw [show (32 : Int32) = nI 32 from rfl, ew_nI (by omega) (by omega), decide_eq_true (by omega)]; decide)
      · refine ev_aload_n (i := 0) d_BH_partByNextClass_29 rfl rfl ?_
        refine es_getR d_BH_partByNextClass_30 f_BH_27 (sh_BH hb) rfl ?_
        refine ev_iload_n (i := 3) d_BH_partByNextClass_33 rfl rfl ?_
        refine es_iald d_BH_partByNextClass_34 (sa_BH_classes hb) (ez_vinN (by omega) (by omega)) ?_
        refine ev_goto d_BH_partByNextClass_35 ?_
        refine es_iast d_BH_partByNextClass_39 (sa_BH_keys hb) (ez_vinN (by omega) (by omega)) ?_
        refine ev_iinc d_BH_partByNextClass_40 rfl (ez_inc _) (by decide) ?_
        dsimp only [List.set_cons_zero, List.set_cons_succ]
        refine ev_goto d_BH_partByNextClass_43 ?_
        refine ev_mask [true, true, true, false] rfl ?_
        rw [nI_clamp (show s < 2 ^ 31 by omega)]
        rw [nI_clamp (by omega)]
        refine ih _ (by omega) (s + 1) _ rfl ⟨by omega, fun k hk => by rw [es_upf _ _ _ _ hk]; exact hoff k hk, fun q hq => ?_⟩
        by_cases hqs : q = s
        · rw [hqs]; simp only [es_upx, if_true]; rw [hoff (b + 6) (by omega)]
        · simp only [es_upx, hqs, if_true, if_false]; exact hkey q (by omega)
theorem c_BH_partByNextClass {b e : Nat} (hb : sb_BH b e) {dc : Nat} (hd5 : dc ≤ 5) (h10 : σ b 10 = nI (2 ^ dc)) {pr : Nat → Prop} (hp : ∀ s, s < 32 → (bt (σ b 11) s = true ↔ pr s)) (hpl : ∀ s, pr s → s < 2 ^ dc) {ou nx : Nat → Nat → Nat} (hnx : ∀ s r, nx s r < 2 ^ dc) (hou : ∀ s r, ou s r < 8) {op : Nat → Prop} (hop : ∀ r, op r → r < 16) (hT : ∀ s r, s < 2 ^ dc → op r → σ (b + 3) (r * 32 + s) = nI (ou s r) ∧ σ (b + 4) (r * 32 + s) = nI (nx s r)) {r : Nat} (ho : op r) : ez_Ct l G X_BH_partByNextClass [.ref b, .int (nI r)] (es_H σ) (es_Q (es_I fun y σ' => y = nI (em_ct (em_ft pr (fun s t => cE σ b s t ∧ cE σ b (nx s r) (nx t r))) 32) ∧ (∀ s t, pr s → pr t → (cE σ' b s t ↔ (fun s t => cE σ b s t ∧ cE σ b (nx s r) (nx t r)) s t)) ∧ ∀ k, k ≠ b + 6 → k ≠ b + 7 → k ≠ b + 8 → σ' k = σ k) es_no) := by
  have h32 : 2 ^ dc ≤ 2 ^ 5 := Nat.pow_le_pow_right (by omega) hd5
  refine es_Ct_of (ls := [some (.ref b), some (.int (nI r)), none, none]) ok_BH_partByNextClass rfl (Nat.le_of_ble_eq_true rfl) rfl ?_
  refine ev_iconst (v := 0) d_BH_partByNextClass_0 rfl ?_
  refine ev_istore_n (i := 2) d_BH_partByNextClass_1 rfl (by decide) ?_
  dsimp only [List.set_cons_zero, List.set_cons_succ]
  refine lp_BH_partByNextClass_2 hb hd5 h10 hp hpl hnx hou hop hT ho (fun σ1 hoff hkey => ?_) _ 0 σ rfl ⟨by omega, fun _ _ => rfl, fun q hq => by omega⟩
  refine ev_aload_n (i := 0) d_BH_partByNextClass_46 rfl rfl ?_
  refine es_cVI ls_BH_partByNextClass_47 d_BH_partByNextClass_47 (sh_BH hb) (c_BH_partByKeys hb (pr := pr) (fun s hs => by rw [hoff b (by omega)]; exact hp s hs) (fun s ps => by have := hpl s ps; omega)) rfl rfl (Nat.le_of_ble_eq_true rfl) (fun x47 σ47 h47 => ?_) (fun _ _ h => h.elim)
  have hE : ∀ s t, pr s → pr t → (pz_E σ1 b s t ↔ (fun s t => cE σ b s t ∧ cE σ b (nx s r) (nx t r)) s t) := fun s t ps pt => by
    have h1 := hpl s ps
    have h2 := hpl t pt
    unfold pz_E cE
    rw [hoff (b + 6) (by omega), hkey s (by omega), hkey t (by omega), Nat.mod_eq_of_lt h1, Nat.mod_eq_of_lt h2]
  obtain ⟨rfl, k2, k3⟩ := h47
  
  refine es_iret d_BH_partByNextClass_50 rfl ⟨Nat.zero_le _, Nat.zero_le _⟩ ⟨_, rfl, ?_⟩
  refine ⟨?_, fun s t ps pt => ?_, fun k g1 g2 g3 => by rw [k3 k g1 g3]; exact hoff k g2⟩
  · rw [em_ct_congr 32 (fun x _ => em_ft_congr hE x)]
  · exact (k2 s t (by have := hpl s ps; omega) (by have := hpl t pt; omega) ps pt).trans (hE s t ps pt)
theorem lp_BH_countClasses_60 {b e : Nat} (hb : sb_BH b e) {dc : Nat} (hd5 : dc ≤ 5) (h10 : σ b 10 = nI (2 ^ dc)) {pr : Nat → Prop} (hp : ∀ s, s < 32 → (bt (σ b 11) s = true ↔ pr s)) (hpl : ∀ s, pr s → s < 2 ^ dc) {ou nx : Nat → Nat → Nat} (hnx : ∀ s r, nx s r < 2 ^ dc) (hou : ∀ s r, ou s r < 8) {op : Nat → Prop} (hop : ∀ r, op r → r < 16) (hT : ∀ s r, s < 2 ^ dc → op r → σ (b + 3) (r * 32 + s) = nI (ou s r) ∧ σ (b + 4) (r * 32 + s) = nI (nx s r)) (h0 : pr 0) (hcl : ∀ s r, pr s → op r → pr (nx s r)) {O : Int32} (hO : ∀ r, r < 16 → (bt O r = true ↔ op r)) {pz : Nat} {σ0 : es_S} (hex : ∀ σ1 : es_S, (∀ k, k ≠ b + 6 → k ≠ b + 7 → k ≠ b + 8 → σ1 k = σ k) → (∀ s t, pr s → pr t → cE σ1 b s t → cE σ0 b s t) → (∀ s t, pr s → pr t → ¬ cE σ1 b s t → em_ap ou nx op s t) → (∀ r s t, op r → pr s → pr t → cE σ1 b s t → cE σ0 b (nx s r) (nx t r)) → ez_Ev l G X_BH_countClasses 0 0 89 [some (.ref b), some (.int O), some (.int (nI (em_ct (em_ft pr (cE σ1 b)) 32))), none, some (.int (nI pz)), some (.int (nI (em_ct (em_ft pr (cE σ0 b)) 32))), none] [] (es_H σ1) (es_Q (es_I fun y σ' => y = nI (em_ct (em_ft pr (fun s t => ¬ em_ap ou nx op s t)) 32) ∧ ∀ k, k ≠ b + 6 → k ≠ b + 7 → k ≠ b + 8 → σ' k = σ k) es_no)) : ∀ (d : Nat) (r : Nat) (σ1 : es_S), 16 - r = d → (r ≤ 16 ∧ (∀ k, k ≠ b + 6 → k ≠ b + 7 → k ≠ b + 8 → σ1 k = σ k) ∧ (∀ s t, pr s → pr t → cE σ1 b s t → cE σ0 b s t) ∧ (∀ s t, pr s → pr t → ¬ cE σ1 b s t → em_ap ou nx op s t) ∧ (∀ q s t, q < r → op q → pr s → pr t → cE σ1 b s t → cE σ0 b (nx s q) (nx t q))) → ez_Ev l G X_BH_countClasses 0 0 60 [some (.ref b), some (.int O), some (.int (nI (em_ct (em_ft pr (cE σ1 b)) 32))), none, some (.int (nI pz)), some (.int (nI (em_ct (em_ft pr (cE σ0 b)) 32))), some (.int (nI r))] [] (es_H σ1) (es_Q (es_I fun y σ' => y = nI (em_ct (em_ft pr (fun s t => ¬ em_ap ou nx op s t)) 32) ∧ ∀ k, k ≠ b + 6 → k ≠ b + 7 → k ≠ b + 8 → σ' k = σ k) es_no) := by
  intro d
  induction d using Nat.strongRecOn with
  | _ d ih =>
    intro r σ1 hm hinv
    obtain ⟨hr, hoff, hfi, hso, hst⟩ := hinv
    have h32 : 2 ^ dc ≤ 2 ^ 5 := Nat.pow_le_pow_right (by omega) hd5
    refine ev_iload d_BH_countClasses_60 rfl ?_
    refine ev_bipush (v := 16) d_BH_countClasses_62 rfl ?_
    refine ev_icmp_ge d_BH_countClasses_64 (fun h64 => ?_) (fun h64 => ?_)
    · rw [show (16 : Int32) = nI 16 from rfl, nI_leI (by omega) (by omega)] at h64
      refine ev_mask [true, true, true, false, true, true, false] rfl (hex σ1 hoff hfi hso (fun q s t ho => hst q s t (by have := hop q ho; omega) ho))
    · rw [show (16 : Int32) = nI 16 from rfl, nI_leI (by omega) (by omega), Nat.not_le] at h64
      refine ev_iload_n (i := 1) d_BH_countClasses_67 rfl rfl ?_
      refine ev_iload d_BH_countClasses_68 rfl ?_
      refine es_cSI ls_BH_countClasses_70 d_BH_countClasses_70 c_EE_holds rfl rfl (Nat.le_of_ble_eq_true rfl) (fun x70 σ70 h70 => ?_) (fun _ _ h => h.elim)
      obtain ⟨rfl, e70⟩ := h70
      rw [e70]
      refine ev_if_eq d_BH_countClasses_73 (fun h73 => ?_) (fun h73 => ?_)
      · rw [eh_nI _ (by omega), eb_0] at h73
        have hno : ¬ op r := fun h => by have := (hO r (hop r h)).mpr h; rw [h73] at this; cases this
        refine ev_iinc d_BH_countClasses_83 rfl (ez_inc _) (by decide) ?_
        dsimp only [List.set_cons_zero, List.set_cons_succ]
        refine ev_goto d_BH_countClasses_86 ?_
        first
          | (refine ih _ (by omega) (r + 1) σ1 rfl ⟨by omega, hoff, hfi, hso, fun q s t hq ho => ?_⟩
             by_cases hqr : q = r
             · rw [hqr] at ho; exact absurd ho hno
             · exact hst q s t (by omega) ho)
          | (refine ih _ (by omega) (r + 1) σ79 rfl ⟨by omega, fun k g1 g2 g3 => by rw [k3 k g1 g2 g3]; exact hoff k g1 g2 g3, fun s t ps pt h => hfi s t ps pt ((k2 s t ps pt).mp h).1, fun s t ps pt h => ?_, fun q s t hq ho ps pt h => ?_⟩
             · by_cases h1 : cE σ1 b s t
               · exact em_ap_n hyes (hso _ _ (hcl s r ps hyes) (hcl t r pt hyes) (fun h2 => h ((k2 s t ps pt).mpr ⟨h1, h2⟩)))
               · exact hso s t ps pt h1
             · have h2 := (k2 s t ps pt).mp h
               by_cases hqr : q = r
               · rw [hqr]; exact hfi _ _ (hcl s r ps hyes) (hcl t r pt hyes) h2.2
               · exact hst q s t (by omega) ho ps pt h2.1)
      · rw [eh_nI _ (by omega), eb_0, Bool.not_eq_false] at h73
        have hyes := (hO r (by omega)).mp h73
        refine ev_aload_n (i := 0) d_BH_countClasses_76 rfl rfl ?_
        refine ev_iload d_BH_countClasses_77 rfl ?_
        refine es_cVI ls_BH_countClasses_79 d_BH_countClasses_79 (sh_BH hb) (c_BH_partByNextClass (σ := σ1) hb hd5 (by rw [hoff b (by omega) (by omega) (by omega)]; exact h10) (fun s hs => by rw [hoff b (by omega) (by omega) (by omega)]; exact hp s hs) hpl hnx hou hop (fun s r hs ho => by rw [hoff (b + 3) (by omega) (by omega) (by omega), hoff (b + 4) (by omega) (by omega) (by omega)]; exact hT s r hs ho) hyes) rfl rfl (Nat.le_of_ble_eq_true rfl) (fun x79 σ79 h79 => ?_) (fun _ _ h => h.elim)
        obtain ⟨rfl, k2, k3⟩ := h79
        rw [em_ct_congr 32 (fun x _ => em_ft_congr (fun s t ps pt => (k2 s t ps pt).symm) x)]
        refine ev_istore_n (i := 2) d_BH_countClasses_82 rfl (by decide) ?_
        dsimp only [List.set_cons_zero, List.set_cons_succ]
        refine ev_iinc d_BH_countClasses_83 rfl (ez_inc _) (by decide) ?_
        dsimp only [List.set_cons_zero, List.set_cons_succ]
        refine ev_goto d_BH_countClasses_86 ?_
        first
          | (refine ih _ (by omega) (r + 1) σ1 rfl ⟨by omega, hoff, hfi, hso, fun q s t hq ho => ?_⟩
             by_cases hqr : q = r
             · rw [hqr] at ho; exact absurd ho hno
             · exact hst q s t (by omega) ho)
          | (refine ih _ (by omega) (r + 1) σ79 rfl ⟨by omega, fun k g1 g2 g3 => by rw [k3 k g1 g2 g3]; exact hoff k g1 g2 g3, fun s t ps pt h => hfi s t ps pt ((k2 s t ps pt).mp h).1, fun s t ps pt h => ?_, fun q s t hq ho ps pt h => ?_⟩
             · by_cases h1 : cE σ1 b s t
               · exact em_ap_n hyes (hso _ _ (hcl s r ps hyes) (hcl t r pt hyes) (fun h2 => h ((k2 s t ps pt).mpr ⟨h1, h2⟩)))
               · exact hso s t ps pt h1
             · have h2 := (k2 s t ps pt).mp h
               by_cases hqr : q = r
               · rw [hqr]; exact hfi _ _ (hcl s r ps hyes) (hcl t r pt hyes) h2.2
               · exact hst q s t (by omega) ho ps pt h2.1)
theorem lp_BH_countClasses_43 {b e : Nat} (hb : sb_BH b e) {dc : Nat} (hd5 : dc ≤ 5) (h10 : σ b 10 = nI (2 ^ dc)) {pr : Nat → Prop} (hp : ∀ s, s < 32 → (bt (σ b 11) s = true ↔ pr s)) (hpl : ∀ s, pr s → s < 2 ^ dc) {ou nx : Nat → Nat → Nat} (hnx : ∀ s r, nx s r < 2 ^ dc) (hou : ∀ s r, ou s r < 8) {op : Nat → Prop} (hop : ∀ r, op r → r < 16) (hT : ∀ s r, s < 2 ^ dc → op r → σ (b + 3) (r * 32 + s) = nI (ou s r) ∧ σ (b + 4) (r * 32 + s) = nI (nx s r)) (h0 : pr 0) (hcl : ∀ s r, pr s → op r → pr (nx s r)) {O : Int32} (hO : ∀ r, r < 16 → (bt O r = true ↔ op r)) : ∀ (d : Nat) (pz : Nat) (g : Bool) (σ1 : es_S), 32 - pz = d → (pz ≤ 32 ∧ (∀ k, k ≠ b + 6 → k ≠ b + 7 → k ≠ b + 8 → σ1 k = σ k) ∧ (∀ s t, pr s → pr t → ¬ cE σ1 b s t → em_ap ou nx op s t) ∧ (∀ s t, pr s → pr t → cE σ1 b s t → ∀ r, op r → ou s r = ou t r) ∧ (g = false → ∀ r s t, op r → pr s → pr t → cE σ1 b s t → cE σ1 b (nx s r) (nx t r)) ∧ (g = true → pz + 1 ≤ em_ct (em_ft pr (cE σ1 b)) 32)) → ez_Ev l G X_BH_countClasses 0 0 43 [some (.ref b), some (.int O), some (.int (nI (em_ct (em_ft pr (cE σ1 b)) 32))), some (.int (eb g)), some (.int (nI pz)), none, none] [] (es_H σ1) (es_Q (es_I fun y σ' => y = nI (em_ct (em_ft pr (fun s t => ¬ em_ap ou nx op s t)) 32) ∧ ∀ k, k ≠ b + 6 → k ≠ b + 7 → k ≠ b + 8 → σ' k = σ k) es_no) := by
  intro d
  induction d using Nat.strongRecOn with
  | _ d ih =>
    intro pz g σ1 hm hinv
    obtain ⟨hpz, hoff, hso, hO1, hgf, hgc⟩ := hinv
    have h32 : 2 ^ dc ≤ 2 ^ 5 := Nat.pow_le_pow_right (by omega) hd5
    have hfin : (∀ r s t, op r → pr s → pr t → cE σ1 b s t → cE σ1 b (nx s r) (nx t r)) → ∀ s t, pr s → pr t → (cE σ1 b s t ↔ ¬ em_ap ou nx op s t) := fun hst s t ps pt => ⟨fun h ha => ha (fun s t => ¬ (pr s ∧ pr t ∧ cE σ1 b s t)) (fun s t r ho hne hc => hne (hO1 s t hc.1 hc.2.1 hc.2.2 r ho)) (fun s t r ho hn hc => hn ⟨hcl s r hc.1 ho, hcl t r hc.2.1 ho, hst r s t ho hc.1 hc.2.1 hc.2.2⟩) ⟨ps, pt, h⟩, fun h => Classical.byContradiction fun hc => h (hso s t ps pt hc)⟩
    refine ev_iload d_BH_countClasses_43 rfl ?_
    refine ev_bipush (v := 32) d_BH_countClasses_45 rfl ?_
    refine ev_icmp_ge d_BH_countClasses_47 (fun h47 => ?_) (fun h47 => ?_)
    · rw [show (32 : Int32) = nI 32 from rfl, nI_leI (by omega) (by omega)] at h47
      refine ev_iload_n (i := 2) d_BH_countClasses_107 rfl rfl ?_
      refine es_iret d_BH_countClasses_108 rfl ⟨Nat.zero_le _, Nat.zero_le _⟩ ⟨_, rfl, ?_⟩
      refine ⟨?_, hoff⟩
      have hst : ∀ r s t, op r → pr s → pr t → cE σ1 b s t → cE σ1 b (nx s r) (nx t r) := by
        first
          | exact hgf h51
          | (cases g with
             | false => exact hgf rfl
             | true =>
               have h9 := em_ct_n (em_ft pr (cE σ1 b)) 32
               have := hgc rfl
               omega)
      rw [em_ct_congr 32 (fun x _ => em_ft_congr (hfin hst) x)]
    · rw [show (32 : Int32) = nI 32 from rfl, nI_leI (by omega) (by omega), Nat.not_le] at h47
      refine ev_iload_n (i := 3) d_BH_countClasses_50 rfl rfl ?_
      refine ev_if_eq d_BH_countClasses_51 (fun h51 => ?_) (fun h51 => ?_)
      · rw [eb_0] at h51
        refine ev_iload_n (i := 2) d_BH_countClasses_107 rfl rfl ?_
        refine es_iret d_BH_countClasses_108 rfl ⟨Nat.zero_le _, Nat.zero_le _⟩ ⟨_, rfl, ?_⟩
        refine ⟨?_, hoff⟩
        have hst : ∀ r s t, op r → pr s → pr t → cE σ1 b s t → cE σ1 b (nx s r) (nx t r) := by
          first
            | exact hgf h51
            | (cases g with
               | false => exact hgf rfl
               | true =>
                 have h9 := em_ct_n (em_ft pr (cE σ1 b)) 32
                 have := hgc rfl
                 omega)
        rw [em_ct_congr 32 (fun x _ => em_ft_congr (hfin hst) x)]
      · rw [eb_0] at h51
        refine ev_iload_n (i := 2) d_BH_countClasses_54 rfl rfl ?_
        refine ev_istore d_BH_countClasses_55 (by decide) ?_
        dsimp only [List.set_cons_zero, List.set_cons_succ]
        refine ev_iconst (v := 0) d_BH_countClasses_57 rfl ?_
        refine ev_istore d_BH_countClasses_58 (by decide) ?_
        dsimp only [List.set_cons_zero, List.set_cons_succ]
        refine ev_mask [true, true, true, false, true, true, true] rfl ?_
        refine lp_BH_countClasses_60 hb hd5 h10 hp hpl hnx hou hop hT h0 hcl hO (pz := pz) (σ0 := σ1) (fun σ2 hoff2 hfi2 hso2 hst2 => ?_) _ 0 σ1 rfl ⟨by omega, hoff, fun _ _ _ _ h => h, hso, fun q s t hq => by omega⟩
        have hcm := em_ft_mono (p := pr) 32 hfi2
        have hc1 := em_ct_n (em_ft pr (cE σ1 b)) 32
        have hc2 := em_ct_n (em_ft pr (cE σ2 b)) 32
        refine ev_iload_n (i := 2) d_BH_countClasses_89 rfl rfl ?_
        refine ev_iload d_BH_countClasses_90 rfl ?_
        refine ev_icmp_eq d_BH_countClasses_92 (fun h92 => ?_) (fun h92 => ?_)
        · refine ev_iconst (v := 0) d_BH_countClasses_99 rfl ?_
          refine ev_istore_n (i := 3) d_BH_countClasses_100 rfl (by decide) ?_
          dsimp only [List.set_cons_zero, List.set_cons_succ]
          refine ev_iinc d_BH_countClasses_101 rfl (ez_inc _) (by decide) ?_
          dsimp only [List.set_cons_zero, List.set_cons_succ]
          refine ev_goto d_BH_countClasses_104 ?_
          refine ev_mask [true, true, true, true, true, false, false] rfl ?_
          rw [nI_eq (by omega) (by omega)] at h92
          have hou2 : ∀ s t, pr s → pr t → cE σ2 b s t → ∀ r, op r → ou s r = ou t r := fun s t ps pt h => hO1 s t ps pt (hfi2 s t ps pt h)
          first
            | (have heq := em_ft_same (cE_eq σ1 b pr) (cE_eq σ2 b pr) (n := 32) (fun s ps => by have := hpl s ps; omega) hfi2 (by rw [h92]; exact Nat.le_refl _)
               exact ih _ (by omega) (pz + 1) false σ2 rfl ⟨by omega, hoff2, hso2, hou2, fun _ r s t ho ps pt h => heq _ _ (hcl s r ps ho) (hcl t r pt ho) (hst2 r s t ho ps pt h), fun h => by cases h⟩)
            | (have hg9 := hgc (by simpa using h51)
               exact ih _ (by omega) (pz + 1) true σ2 rfl ⟨by omega, hoff2, hso2, hou2, (fun h => by cases h), fun _ => by omega⟩)
        · refine ev_iconst (v := 1) d_BH_countClasses_95 rfl ?_
          refine ev_goto d_BH_countClasses_96 ?_
          refine ev_istore_n (i := 3) d_BH_countClasses_100 rfl (by decide) ?_
          dsimp only [List.set_cons_zero, List.set_cons_succ]
          refine ev_iinc d_BH_countClasses_101 rfl (ez_inc _) (by decide) ?_
          dsimp only [List.set_cons_zero, List.set_cons_succ]
          refine ev_goto d_BH_countClasses_104 ?_
          refine ev_mask [true, true, true, true, true, false, false] rfl ?_
          rw [nI_eq (by omega) (by omega)] at h92
          have hou2 : ∀ s t, pr s → pr t → cE σ2 b s t → ∀ r, op r → ou s r = ou t r := fun s t ps pt h => hO1 s t ps pt (hfi2 s t ps pt h)
          first
            | (have heq := em_ft_same (cE_eq σ1 b pr) (cE_eq σ2 b pr) (n := 32) (fun s ps => by have := hpl s ps; omega) hfi2 (by rw [h92]; exact Nat.le_refl _)
               exact ih _ (by omega) (pz + 1) false σ2 rfl ⟨by omega, hoff2, hso2, hou2, fun _ r s t ho ps pt h => heq _ _ (hcl s r ps ho) (hcl t r pt ho) (hst2 r s t ho ps pt h), fun h => by cases h⟩)
            | (have hg9 := hgc (by simpa using h51)
               exact ih _ (by omega) (pz + 1) true σ2 rfl ⟨by omega, hoff2, hso2, hou2, (fun h => by cases h), fun _ => by omega⟩)
theorem lp_BH_countClasses_12 {b e : Nat} (hb : sb_BH b e) {dc : Nat} (hd5 : dc ≤ 5) (h10 : σ b 10 = nI (2 ^ dc)) {pr : Nat → Prop} (hp : ∀ s, s < 32 → (bt (σ b 11) s = true ↔ pr s)) (hpl : ∀ s, pr s → s < 2 ^ dc) {ou nx : Nat → Nat → Nat} (hnx : ∀ s r, nx s r < 2 ^ dc) (hou : ∀ s r, ou s r < 8) {op : Nat → Prop} (hop : ∀ r, op r → r < 16) (hT : ∀ s r, s < 2 ^ dc → op r → σ (b + 3) (r * 32 + s) = nI (ou s r) ∧ σ (b + 4) (r * 32 + s) = nI (nx s r)) (h0 : pr 0) (hcl : ∀ s r, pr s → op r → pr (nx s r)) {O : Int32} (hO : ∀ r, r < 16 → (bt O r = true ↔ op r)) : ∀ (d : Nat) (r : Nat) (σ1 : es_S), 16 - r = d → (r ≤ 16 ∧ (∀ k, k ≠ b + 6 → k ≠ b + 7 → k ≠ b + 8 → σ1 k = σ k) ∧ (∀ s t, pr s → pr t → (cE σ1 b s t ↔ ∀ q, q < r → op q → ou s q = ou t q))) → ez_Ev l G X_BH_countClasses 0 0 12 [some (.ref b), some (.int O), some (.int (nI (em_ct (em_ft pr (cE σ1 b)) 32))), some (.int (nI r)), none, none, none] [] (es_H σ1) (es_Q (es_I fun y σ' => y = nI (em_ct (em_ft pr (fun s t => ¬ em_ap ou nx op s t)) 32) ∧ ∀ k, k ≠ b + 6 → k ≠ b + 7 → k ≠ b + 8 → σ' k = σ k) es_no) := by
  intro d
  induction d using Nat.strongRecOn with
  | _ d ih =>
    intro r σ1 hm hinv
    obtain ⟨hr, hoff, hrel⟩ := hinv
    have h32 : 2 ^ dc ≤ 2 ^ 5 := Nat.pow_le_pow_right (by omega) hd5
    refine ev_iload_n (i := 3) d_BH_countClasses_12 rfl rfl ?_
    refine ev_bipush (v := 16) d_BH_countClasses_13 rfl ?_
    refine ev_icmp_ge d_BH_countClasses_15 (fun h15 => ?_) (fun h15 => ?_)
    · rw [show (16 : Int32) = nI 16 from rfl, nI_leI (by omega) (by omega)] at h15
      refine ev_iconst (v := 1) d_BH_countClasses_38 rfl ?_
      refine ev_istore_n (i := 3) d_BH_countClasses_39 rfl (by decide) ?_
      dsimp only [List.set_cons_zero, List.set_cons_succ]
      refine ev_iconst (v := 0) d_BH_countClasses_40 rfl ?_
      refine ev_istore d_BH_countClasses_41 (by decide) ?_
      dsimp only [List.set_cons_zero, List.set_cons_succ]
      refine lp_BH_countClasses_43 hb hd5 h10 hp hpl hnx hou hop hT h0 hcl hO _ 0 true σ1 rfl ⟨by omega, hoff, fun s t ps pt h => ?_, fun s t ps pt h q ho => (hrel s t ps pt).mp h q (by have := hop q ho; omega) ho, (fun h => by cases h), fun _ => ?_⟩
      · refine Classical.byContradiction fun hc => h ((hrel s t ps pt).mpr (fun q hq ho => Classical.byContradiction fun hne => hc (em_ap_o ho hne)))
      · exact em_ct_pos (t := 0) (by omega) ⟨h0, fun t ht => by omega⟩
    · rw [show (16 : Int32) = nI 16 from rfl, nI_leI (by omega) (by omega), Nat.not_le] at h15
      refine ev_iload_n (i := 1) d_BH_countClasses_18 rfl rfl ?_
      refine ev_iload_n (i := 3) d_BH_countClasses_19 rfl rfl ?_
      refine es_cSI ls_BH_countClasses_20 d_BH_countClasses_20 c_EE_holds rfl rfl (Nat.le_of_ble_eq_true rfl) (fun x20 σ20 h20 => ?_) (fun _ _ h => h.elim)
      obtain ⟨rfl, e20⟩ := h20
      rw [e20]
      refine ev_if_eq d_BH_countClasses_23 (fun h23 => ?_) (fun h23 => ?_)
      · rw [eh_nI _ (by omega), eb_0] at h23
        have hno : ¬ op r := fun h => by have := (hO r (hop r h)).mpr h; rw [h23] at this; cases this
        refine ev_iinc d_BH_countClasses_32 rfl (ez_inc _) (by decide) ?_
        dsimp only [List.set_cons_zero, List.set_cons_succ]
        refine ev_goto d_BH_countClasses_35 ?_
        first
          | (refine ih _ (by omega) (r + 1) σ1 rfl ⟨by omega, hoff, fun s t ps pt => (hrel s t ps pt).trans ⟨fun h q hq ho => ?_, fun h q hq ho => h q (by omega) ho⟩⟩
             by_cases hqr : q = r
             · rw [hqr] at ho; exact absurd ho hno
             · exact h q (by omega) ho)
          | (refine ih _ (by omega) (r + 1) σ28 rfl ⟨by omega, fun k g1 g2 g3 => by rw [k3 k g1 g2 g3]; exact hoff k g1 g2 g3, fun s t ps pt => (k2 s t ps pt).trans ⟨fun h q hq ho => ?_, fun h => ⟨(hrel s t ps pt).mpr (fun q hq ho => h q (by omega) ho), h r (by omega) hyes⟩⟩⟩
             by_cases hqr : q = r
             · rw [hqr]; exact h.2
             · exact (hrel s t ps pt).mp h.1 q (by omega) ho)
      · rw [eh_nI _ (by omega), eb_0, Bool.not_eq_false] at h23
        have hyes := (hO r (by omega)).mp h23
        refine ev_aload_n (i := 0) d_BH_countClasses_26 rfl rfl ?_
        refine ev_iload_n (i := 3) d_BH_countClasses_27 rfl rfl ?_
        refine es_cVI ls_BH_countClasses_28 d_BH_countClasses_28 (sh_BH hb) (c_BH_partByOuts (σ := σ1) hb hd5 (by rw [hoff b (by omega) (by omega) (by omega)]; exact h10) (fun s hs => by rw [hoff b (by omega) (by omega) (by omega)]; exact hp s hs) hpl hnx hou hop (fun s r hs ho => by rw [hoff (b + 3) (by omega) (by omega) (by omega), hoff (b + 4) (by omega) (by omega) (by omega)]; exact hT s r hs ho) hyes) rfl rfl (Nat.le_of_ble_eq_true rfl) (fun x28 σ28 h28 => ?_) (fun _ _ h => h.elim)
        obtain ⟨rfl, k2, k3⟩ := h28
        rw [em_ct_congr 32 (fun x _ => em_ft_congr (fun s t ps pt => (k2 s t ps pt).symm) x)]
        refine ev_istore_n (i := 2) d_BH_countClasses_31 rfl (by decide) ?_
        dsimp only [List.set_cons_zero, List.set_cons_succ]
        refine ev_iinc d_BH_countClasses_32 rfl (ez_inc _) (by decide) ?_
        dsimp only [List.set_cons_zero, List.set_cons_succ]
        refine ev_goto d_BH_countClasses_35 ?_
        first
          | (refine ih _ (by omega) (r + 1) σ1 rfl ⟨by omega, hoff, fun s t ps pt => (hrel s t ps pt).trans ⟨fun h q hq ho => ?_, fun h q hq ho => h q (by omega) ho⟩⟩
             by_cases hqr : q = r
             · rw [hqr] at ho; exact absurd ho hno
             · exact h q (by omega) ho)
          | (refine ih _ (by omega) (r + 1) σ28 rfl ⟨by omega, fun k g1 g2 g3 => by rw [k3 k g1 g2 g3]; exact hoff k g1 g2 g3, fun s t ps pt => (k2 s t ps pt).trans ⟨fun h q hq ho => ?_, fun h => ⟨(hrel s t ps pt).mpr (fun q hq ho => h q (by omega) ho), h r (by omega) hyes⟩⟩⟩
             by_cases hqr : q = r
             · rw [hqr]; exact h.2
             · exact (hrel s t ps pt).mp h.1 q (by omega) ho)
theorem c_BH_countClasses {b e : Nat} (hb : sb_BH b e) {dc : Nat} (hd5 : dc ≤ 5) (h10 : σ b 10 = nI (2 ^ dc)) {pr : Nat → Prop} (hp : ∀ s, s < 32 → (bt (σ b 11) s = true ↔ pr s)) (hpl : ∀ s, pr s → s < 2 ^ dc) {ou nx : Nat → Nat → Nat} (hnx : ∀ s r, nx s r < 2 ^ dc) (hou : ∀ s r, ou s r < 8) {op : Nat → Prop} (hop : ∀ r, op r → r < 16) (hT : ∀ s r, s < 2 ^ dc → op r → σ (b + 3) (r * 32 + s) = nI (ou s r) ∧ σ (b + 4) (r * 32 + s) = nI (nx s r)) (h0 : pr 0) (hcl : ∀ s r, pr s → op r → pr (nx s r)) {O : Int32} (hO : ∀ r, r < 16 → (bt O r = true ↔ op r)) : ez_Ct l G X_BH_countClasses [.ref b, .int O] (es_H σ) (es_Q (es_I fun y σ' => y = nI (em_ct (em_ft pr (fun s t => ¬ em_ap ou nx op s t)) 32) ∧ ∀ k, k ≠ b + 6 → k ≠ b + 7 → k ≠ b + 8 → σ' k = σ k) es_no) := by
  refine es_Ct_of (ls := [some (.ref b), some (.int O), none, none, none, none, none]) ok_BH_countClasses rfl (Nat.le_of_ble_eq_true rfl) rfl ?_
  refine ev_aload_n (i := 0) d_BH_countClasses_0 rfl rfl ?_
  refine es_getR d_BH_countClasses_1 f_BH_27 (sh_BH hb) rfl ?_
  refine ev_iconst (v := 0) d_BH_countClasses_4 rfl ?_
  refine es_cSV ls_BH_countClasses_5 d_BH_countClasses_5 (c_JA_fill (sa_BH_classes hb) (by decide)) rfl rfl (Nat.le_of_ble_eq_true rfl) (fun σ5 h5 => ?_) (fun _ _ h => h.elim)
  subst h5
  refine ev_iconst (v := 1) d_BH_countClasses_8 rfl ?_
  refine ev_istore_n (i := 2) d_BH_countClasses_9 rfl (by decide) ?_
  dsimp only [List.set_cons_zero, List.set_cons_succ]
  refine ev_iconst (v := 0) d_BH_countClasses_10 rfl ?_
  refine ev_istore_n (i := 3) d_BH_countClasses_11 rfl (by decide) ?_
  dsimp only [List.set_cons_zero, List.set_cons_succ]
  have hz : ∀ s t, pr s → pr t → cE (es_arr σ (b + 6) (fun j => if j < 32 then 0 else σ (b + 6) j)) b s t := fun s t ps pt => by
    have h32 : 2 ^ dc ≤ 2 ^ 5 := Nat.pow_le_pow_right (by omega) hd5
    have h1 := hpl s ps
    have h2 := hpl t pt
    unfold cE es_arr
    simp only [if_true]
    rw [if_pos (by omega), if_pos (by omega)]
  have e1 : em_ct (em_ft pr (cE (es_arr σ (b + 6) (fun j => if j < 32 then 0 else σ (b + 6) j)) b)) 32 = 1 := by
    have e2 : em_ct (em_ft pr (cE (es_arr σ (b + 6) (fun j => if j < 32 then 0 else σ (b + 6) j)) b)) 32 = em_ct (fun s => False ∨ s = 0) 32 := em_ct_congr _ (fun x _ => ⟨fun h => Or.inr (Classical.byContradiction fun hx => h.2 0 (by omega) h0 (hz x 0 h.1 h0)), fun h => h.elim (fun h => h.elim) (fun h => by rw [h]; exact ⟨h0, fun t ht => by omega⟩)⟩)
    rw [e2, em_ct_add (p := fun _ => False) (x := 0) (fun h => h) (fun y => Iff.rfl) 32 (by omega), em_ct_none _ (fun _ _ h => h)]
  have := lp_BH_countClasses_12 (l := l) (G := G) hb hd5 h10 hp hpl hnx hou hop hT h0 hcl hO _ 0 (es_arr σ (b + 6) (fun j => if j < 32 then 0 else σ (b + 6) j)) rfl ⟨by omega, fun k g1 _ _ => if_neg g1, fun s t ps pt => ⟨fun _ q hq => by omega, fun _ => hz s t ps pt⟩⟩
  rw [e1] at this
  exact this
end
