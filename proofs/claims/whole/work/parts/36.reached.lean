/-! ===== Behaviour: reached states, learning ===== -/
section
variable {l : Launch} {G : ez_G} {σ : es_S}
def fr_I (nx : Nat → Nat → Nat) (op : Nat → Prop) (N b : Nat) (σ σ1 : es_S) (f : Nat) (q : Nat → Nat) : Prop :=
  (f ≤ 32 ∧ f = em_ct (fun s => bt (σ1 b 11) s = true) 32) ∧ (∀ k, k ≠ b → k ≠ b + 5 → σ1 k = σ k) ∧ (∀ j, j ≠ 11 → σ1 b j = σ b j) ∧ bt (σ1 b 11) 0 = true ∧
  (∀ i, i < f → σ1 (b + 5) i = nI (q i) ∧ q i < N ∧ em_rch nx op (q i)) ∧ (∀ s, s < 32 → (bt (σ1 b 11) s = true ↔ ∃ i, i < f ∧ q i = s))
theorem fr_room {nx : Nat → Nat → Nat} {op : Nat → Prop} {N b : Nat} {σ σ1 : es_S} {f x : Nat} {q : Nat → Nat} (h : fr_I nx op N b σ σ1 f q) (hx : x < 32) (hno : bt (σ1 b 11) x = false) : f < 32 := by
  have h1 := em_ct_lt (p := fun s => bt (σ1 b 11) s = true) (q := fun _ => True) 32 (fun _ _ _ => trivial) x hx trivial (by simp [hno])
  have h2 := em_ct_n (fun _ => True) 32
  have h3 := h.1.2
  omega
theorem fr_add {nx : Nat → Nat → Nat} {op : Nat → Prop} {N b : Nat} {σ σ1 : es_S} {f x : Nat} {q : Nat → Nat} (h : fr_I nx op N b σ σ1 f q) (hN : N ≤ 32) (hx : x < N) (hno : bt (σ1 b 11) x = false) (hr : em_rch nx op x) :
    fr_I nx op N b σ (es_up (es_up σ1 b 11 (σ1 b 11 ||| eo (nI x))) (b + 5) f (nI x)) (f + 1) (fun i => if i = f then x else q i) := by
  have hf := fr_room h (by omega) hno
  obtain ⟨⟨h1, h2⟩, h3, h4, h5, h6, h7⟩ := h
  have eR : es_up (es_up σ1 b 11 (σ1 b 11 ||| eo (nI x))) (b + 5) f (nI x) b 11 = σ1 b 11 ||| eo (nI x) := by simp [es_upx]
  have hbit : ∀ t, t < 32 → (bt (σ1 b 11 ||| eo (nI x)) t = true ↔ bt (σ1 b 11) t = true ∨ t = x) := fun t ht => by
    rw [b_or, bt_eo (by omega) ht, Bool.or_eq_true, decide_eq_true_eq]
  refine ⟨⟨by omega, ?_⟩, fun k g1 g2 => by rw [es_upf _ _ _ _ g2, es_upf _ _ _ _ g1]; exact h3 k g1 g2, fun j hj => by simp [es_upx, hj, h4 j hj], by rw [eR, b_or, h5, Bool.true_or], fun i hi => ?_, fun s hs => ?_⟩
  · rw [eR]
    have e1 : em_ct (fun t => bt (σ1 b 11 ||| eo (nI x)) t = true) 32 = em_ct (fun t => bt (σ1 b 11) t = true ∨ t = x) 32 := em_ct_congr _ (fun t ht => hbit t ht)
    rw [e1, em_ct_add (p := fun t => bt (σ1 b 11) t = true) (by simp [hno]) (fun y => Iff.rfl) _ (by omega), ← h2]
  · by_cases hif : i = f
    · simp only [hif, if_true]
      exact ⟨by simp [es_upx], hx, hr⟩
    · simp only [hif, if_false]
      have := h6 i (by omega)
      exact ⟨by simp [es_upx, hif, this.1], this.2⟩
  · rw [eR, hbit s hs, h7 s hs]
    constructor
    · rintro (⟨i, i1, i2⟩ | h)
      · exact ⟨i, by omega, by simp only [show ¬ i = f by omega, if_false]; exact i2⟩
      · exact ⟨f, by omega, by simp [h]⟩
    · rintro ⟨i, i1, i2⟩
      by_cases hif : i = f
      · simp only [hif, if_true] at i2
        exact Or.inr i2.symm
      · simp only [hif, if_false] at i2
        exact Or.inl ⟨i, by omega, i2⟩
theorem shl1 {d : Nat} (hd : d < 32) : (1 : Int32) <<< (nI d &&& 31) = nI (2 ^ d) := by
  have h := nI_orbit (a := 0) (x := 1) (p := d) (Nat.two_pow_pos d) (by omega) hd
  have h0 : ∀ z : Int32, nI 0 ||| z = z := fun z => b_ext fun i _ => by rw [b_or, show nI 0 = (0 : Int32) from rfl, b_0, Bool.false_or]
  rw [h0] at h
  rw [show (1 : Int32) = nI 1 from rfl, h]
  simp
theorem lp_BH_findReached_33 {b e : Nat} (hb : sb_BH b e) {nx : Nat → Nat → Nat} {op : Nat → Prop} {dc : Nat} (hd5 : dc ≤ 5) (h10 : σ b 10 = nI (2 ^ dc)) (hnx : ∀ s r, nx s r < 2 ^ dc) (hT : ∀ s r, s < 2 ^ dc → op r → σ (b + 4) (r * 32 + s) = nI (nx s r)) {O : Int32} (hO : ∀ r, r < 16 → (bt O r = true ↔ op r)) (hop : ∀ r, op r → r < 16) {hd : Nat} (hex : ∀ (f : Nat) (q : Nat → Nat) (σ1 : es_S), fr_I nx op (2 ^ dc) b σ σ1 f q → hd < f → (∀ i r', i < hd + 1 → op r' → bt (σ1 b 11) (nx (q i) r') = true) → ez_Ev l G X_BH_findReached 0 0 116 [some (.ref b), some (.int O), some (.int (nI f)), some (.int (nI hd)), none, none] [] (es_H σ1) (es_Q (es_V fun σ' => (∀ k, k ≠ b → k ≠ b + 5 → σ' k = σ k) ∧ (∀ j, j ≠ 11 → σ' b j = σ b j) ∧ ∀ s, s < 32 → (bt (σ' b 11) s = true ↔ em_rch nx op s)) es_no)) : ∀ (d : Nat) (r f : Nat) (q : Nat → Nat) (σ1 : es_S), 16 - r = d → (r ≤ 16 ∧ fr_I nx op (2 ^ dc) b σ σ1 f q ∧ hd < f ∧ (∀ i r', i < hd → op r' → bt (σ1 b 11) (nx (q i) r') = true) ∧ (∀ r', r' < r → op r' → bt (σ1 b 11) (nx (q hd) r') = true)) → ez_Ev l G X_BH_findReached 0 0 33 [some (.ref b), some (.int O), some (.int (nI f)), some (.int (nI hd)), some (.int (nI r)), none] [] (es_H σ1) (es_Q (es_V fun σ' => (∀ k, k ≠ b → k ≠ b + 5 → σ' k = σ k) ∧ (∀ j, j ≠ 11 → σ' b j = σ b j) ∧ ∀ s, s < 32 → (bt (σ' b 11) s = true ↔ em_rch nx op s)) es_no) := by
  intro d
  induction d using Nat.strongRecOn with
  | _ d ih =>
    intro r f q σ1 hm hinv
    obtain ⟨hr, hI, hf, hcl, hcr⟩ := hinv
    have hf32 := hI.1.1
    have h32 : 2 ^ dc ≤ 2 ^ 5 := Nat.pow_le_pow_right (by omega) hd5
    have hqh := hI.2.2.2.2.1 hd hf
    have h101 : σ1 b 10 = nI (2 ^ dc) := by rw [hI.2.2.1 10 (by omega)]; exact h10
    have hcq : σ1 (b + 5) (nI hd).toNatClampNeg = nI (q hd) := by rw [nI_clamp (by omega)]; exact hqh.1
    refine ev_iload d_BH_findReached_33 rfl ?_
    refine ev_bipush (v := 16) d_BH_findReached_35 rfl ?_
    refine ev_icmp_ge d_BH_findReached_37 (fun h37 => ?_) (fun h37 => ?_)
    · rw [show (16 : Int32) = nI 16 from rfl, nI_leI (by omega) (by omega)] at h37
      refine ev_mask [true, true, true, true, false, false] rfl (hex f q σ1 hI hf (fun i r2 hi ho => ?_))
      by_cases hih : i = hd
      · rw [hih]; exact hcr r2 (by have := hop r2 ho; omega) ho
      · exact hcl i r2 (by omega) ho
    · rw [show (16 : Int32) = nI 16 from rfl, nI_leI (by omega) (by omega), Nat.not_le] at h37
      refine ev_iload_n (i := 1) d_BH_findReached_40 rfl rfl ?_
      refine ev_iload d_BH_findReached_41 rfl ?_
      refine es_cSI ls_BH_findReached_43 d_BH_findReached_43 c_EE_holds rfl rfl (Nat.le_of_ble_eq_true rfl) (fun x43 σ43 h43 => ?_) (fun _ _ h => h.elim)
      obtain ⟨rfl, e43⟩ := h43
      rw [e43]
      refine ev_if_eq d_BH_findReached_46 (fun h46 => ?_) (fun h46 => ?_)
      · rw [eh_nI _ (by omega), eb_0] at h46
        have hno : ¬ op r := fun h => by have := (hO r h37).mpr h; rw [h46] at this; cases this
        refine ev_iconst (v := 0) d_BH_findReached_64 rfl ?_
        refine ev_istore d_BH_findReached_65 (by decide) ?_
        dsimp only [List.set_cons_zero, List.set_cons_succ]
        refine ev_aload_n (i := 0) d_BH_findReached_67 rfl rfl ?_
        refine es_getI d_BH_findReached_68 f_BH_43 (sh_BH hb) rfl ?_
        refine ev_iload d_BH_findReached_71 rfl ?_
        refine es_cSI ls_BH_findReached_73 d_BH_findReached_73 c_EE_holds rfl rfl (Nat.le_of_ble_eq_true rfl) (fun x73 σ73 h73 => ?_) (fun _ _ h => h.elim)
        obtain ⟨rfl, e73⟩ := h73
        rw [e73]
        refine ev_if_ne d_BH_findReached_76 (fun h76 => ?_) (fun h76 => ?_)
        · first | (rw [htv, eh_nI _ (by omega), eb_0, Bool.not_eq_false] at h76) | skip
          refine ev_iinc d_BH_findReached_110 rfl (ez_inc _) (by decide) ?_
          dsimp only [List.set_cons_zero, List.set_cons_succ]
          refine ev_goto d_BH_findReached_113 ?_
          refine ev_mask [true, true, true, true, true, false] rfl ?_
          first
            | (refine ih _ (by omega) (r + 1) f q σ1 rfl ⟨by omega, hI, hf, hcl, fun r2 hr2 ho => ?_⟩
               by_cases hrr : r2 = r
               · rw [hrr] at ho ⊢; first | exact absurd ho hno | exact h76
               · exact hcr r2 (by omega) ho)
            | (have hfr := fr_room hI (show nx (q hd) r < 32 by omega) h76
               have hadd := fr_add hI (by omega) hnv h76 (em_rch_n hqh.2.2 hyes)
               rw [htv, nI_clamp (by omega)]
               have hmon : ∀ s, bt (σ1 b 11) s = true → bt (es_up (es_up σ1 b 11 (σ1 b 11 ||| eo (nI (nx (q hd) r)))) (b + 5) f (nI (nx (q hd) r)) b 11) s = true := fun s hs => by simp [es_upx, b_or, hs]
               refine ih _ (by omega) (r + 1) (f + 1) _ _ rfl ⟨by omega, hadd, by omega, fun i r2 hi ho => ?_, fun r2 hr2 ho => ?_⟩
               · simp only [show ¬ i = f by omega, if_false]; exact hmon _ (hcl i r2 hi ho)
               · simp only [show ¬ hd = f by omega, if_false]
                 by_cases hrr : r2 = r
                 · rw [hrr]; simp [es_upx, b_or, bt_eo (show nx (q hd) r < 2 ^ 31 by omega) (show nx (q hd) r < 32 by omega)]
                 · exact hmon _ (hcr r2 (by omega) ho))
        · exact absurd h76 (by rw [show (0 : Int32) = nI 0 from rfl, eh_nI _ (by omega), hI.2.2.2.1]; decide)
      · rw [eh_nI _ (by omega), eb_0, Bool.not_eq_false] at h46
        have hyes := (hO r h37).mp h46
        have hnv := hnx (q hd) r
        have htv : σ1 (b + 4) (r * 32 + q hd % 2 ^ dc) = nI (nx (q hd) r) := by rw [Nat.mod_eq_of_lt hqh.2.1, hI.2.1 _ (by omega) (by omega)]; exact hT _ _ hqh.2.1 hyes
        refine ev_aload_n (i := 0) d_BH_findReached_49 rfl rfl ?_
        refine ev_aload_n (i := 0) d_BH_findReached_50 rfl rfl ?_
        refine es_getR d_BH_findReached_51 f_BH_24 (sh_BH hb) rfl ?_
        refine ev_iload_n (i := 3) d_BH_findReached_54 rfl rfl ?_
        refine es_iald d_BH_findReached_55 (sa_BH_queue hb) (ez_vinN (by omega) (by omega)) ?_
        rw [hcq]
        refine ev_iload d_BH_findReached_56 rfl ?_
        refine es_cVI ls_BH_findReached_58 d_BH_findReached_58 (sh_BH hb) (c_BH_stateAfter hb h37 (show q hd < 2 ^ 31 by omega) hd5 h101) rfl rfl (Nat.le_of_ble_eq_true rfl) (fun x58 σ58 h58 => ?_) (fun _ _ h => h.elim)
        obtain ⟨rfl, e58⟩ := h58
        rw [e58]
        refine ev_goto d_BH_findReached_61 ?_
        refine ev_istore d_BH_findReached_65 (by decide) ?_
        dsimp only [List.set_cons_zero, List.set_cons_succ]
        refine ev_aload_n (i := 0) d_BH_findReached_67 rfl rfl ?_
        refine es_getI d_BH_findReached_68 f_BH_43 (sh_BH hb) rfl ?_
        refine ev_iload d_BH_findReached_71 rfl ?_
        refine es_cSI ls_BH_findReached_73 d_BH_findReached_73 c_EE_holds rfl rfl (Nat.le_of_ble_eq_true rfl) (fun x73 σ73 h73 => ?_) (fun _ _ h => h.elim)
        obtain ⟨rfl, e73⟩ := h73
        rw [e73]
        refine ev_if_ne d_BH_findReached_76 (fun h76 => ?_) (fun h76 => ?_)
        · first | (rw [htv, eh_nI _ (by omega), eb_0, Bool.not_eq_false] at h76) | skip
          refine ev_iinc d_BH_findReached_110 rfl (ez_inc _) (by decide) ?_
          dsimp only [List.set_cons_zero, List.set_cons_succ]
          refine ev_goto d_BH_findReached_113 ?_
          refine ev_mask [true, true, true, true, true, false] rfl ?_
          first
            | (refine ih _ (by omega) (r + 1) f q σ1 rfl ⟨by omega, hI, hf, hcl, fun r2 hr2 ho => ?_⟩
               by_cases hrr : r2 = r
               · rw [hrr] at ho ⊢; first | exact absurd ho hno | exact h76
               · exact hcr r2 (by omega) ho)
            | (have hfr := fr_room hI (show nx (q hd) r < 32 by omega) h76
               have hadd := fr_add hI (by omega) hnv h76 (em_rch_n hqh.2.2 hyes)
               rw [htv, nI_clamp (by omega)]
               have hmon : ∀ s, bt (σ1 b 11) s = true → bt (es_up (es_up σ1 b 11 (σ1 b 11 ||| eo (nI (nx (q hd) r)))) (b + 5) f (nI (nx (q hd) r)) b 11) s = true := fun s hs => by simp [es_upx, b_or, hs]
               refine ih _ (by omega) (r + 1) (f + 1) _ _ rfl ⟨by omega, hadd, by omega, fun i r2 hi ho => ?_, fun r2 hr2 ho => ?_⟩
               · simp only [show ¬ i = f by omega, if_false]; exact hmon _ (hcl i r2 hi ho)
               · simp only [show ¬ hd = f by omega, if_false]
                 by_cases hrr : r2 = r
                 · rw [hrr]; simp [es_upx, b_or, bt_eo (show nx (q hd) r < 2 ^ 31 by omega) (show nx (q hd) r < 32 by omega)]
                 · exact hmon _ (hcr r2 (by omega) ho))
        · rw [htv, eh_nI _ (by omega), eb_0] at h76
          refine ev_iload_n (i := 2) d_BH_findReached_79 rfl rfl ?_
          refine ev_bipush (v := 32) d_BH_findReached_80 rfl ?_
          refine ev_icmp_ge d_BH_findReached_82 (fun h82 => ?_) (fun h82 => ?_)
          · first | (rw [show (32 : Int32) = nI 32 from rfl, nI_leI (by omega) (by omega)] at h82; have := fr_room hI (by omega) h76; omega) | exact absurd h76 (by rw [show (0 : Int32) = nI 0 from rfl, eh_nI _ (by omega), hI.2.2.2.1]; decide)
          · refine ev_aload_n (i := 0) d_BH_findReached_85 rfl rfl ?_
            refine ev_dup d_BH_findReached_86 rfl ?_
            refine es_getI d_BH_findReached_87 f_BH_43 (sh_BH hb) rfl ?_
            refine ev_iload d_BH_findReached_90 rfl ?_
            refine es_cSI ls_BH_findReached_92 d_BH_findReached_92 c_EE_bitOf rfl rfl (Nat.le_of_ble_eq_true rfl) (fun x92 σ92 h92 => ?_) (fun _ _ h => h.elim)
            obtain ⟨rfl, e92⟩ := h92
            rw [e92]
            refine ev_ior d_BH_findReached_95 ?_
            refine es_putI d_BH_findReached_96 f_BH_43 y_BH_reachedStates (sh_BH hb) rfl ⟨rfl, rfl⟩ ?_
            refine ev_aload_n (i := 0) d_BH_findReached_99 rfl rfl ?_
            refine es_getR d_BH_findReached_100 f_BH_24 (sh_BH hb) rfl ?_
            refine ev_iload_n (i := 2) d_BH_findReached_103 rfl rfl ?_
            refine ev_iload d_BH_findReached_104 rfl ?_
            refine es_iast d_BH_findReached_106 (sa_BH_queue hb) (ez_vinN (by have := fr_room hI (show nx (q hd) r < 32 by omega) h76; omega) (by omega)) ?_
            refine ev_iinc d_BH_findReached_107 rfl (ez_inc _) (by decide) ?_
            dsimp only [List.set_cons_zero, List.set_cons_succ]
            refine ev_iinc d_BH_findReached_110 rfl (ez_inc _) (by decide) ?_
            dsimp only [List.set_cons_zero, List.set_cons_succ]
            refine ev_goto d_BH_findReached_113 ?_
            refine ev_mask [true, true, true, true, true, false] rfl ?_
            first
              | (refine ih _ (by omega) (r + 1) f q σ1 rfl ⟨by omega, hI, hf, hcl, fun r2 hr2 ho => ?_⟩
                 by_cases hrr : r2 = r
                 · rw [hrr] at ho ⊢; first | exact absurd ho hno | exact h76
                 · exact hcr r2 (by omega) ho)
              | (have hfr := fr_room hI (show nx (q hd) r < 32 by omega) h76
                 have hadd := fr_add hI (by omega) hnv h76 (em_rch_n hqh.2.2 hyes)
                 rw [htv, nI_clamp (by omega)]
                 have hmon : ∀ s, bt (σ1 b 11) s = true → bt (es_up (es_up σ1 b 11 (σ1 b 11 ||| eo (nI (nx (q hd) r)))) (b + 5) f (nI (nx (q hd) r)) b 11) s = true := fun s hs => by simp [es_upx, b_or, hs]
                 refine ih _ (by omega) (r + 1) (f + 1) _ _ rfl ⟨by omega, hadd, by omega, fun i r2 hi ho => ?_, fun r2 hr2 ho => ?_⟩
                 · simp only [show ¬ i = f by omega, if_false]; exact hmon _ (hcl i r2 hi ho)
                 · simp only [show ¬ hd = f by omega, if_false]
                   by_cases hrr : r2 = r
                   · rw [hrr]; simp [es_upx, b_or, bt_eo (show nx (q hd) r < 2 ^ 31 by omega) (show nx (q hd) r < 32 by omega)]
                   · exact hmon _ (hcr r2 (by omega) ho))
theorem lp_BH_findReached_19 {b e : Nat} (hb : sb_BH b e) {nx : Nat → Nat → Nat} {op : Nat → Prop} {dc : Nat} (hd5 : dc ≤ 5) (h10 : σ b 10 = nI (2 ^ dc)) (hnx : ∀ s r, nx s r < 2 ^ dc) (hT : ∀ s r, s < 2 ^ dc → op r → σ (b + 4) (r * 32 + s) = nI (nx s r)) {O : Int32} (hO : ∀ r, r < 16 → (bt O r = true ↔ op r)) (hop : ∀ r, op r → r < 16) : ∀ (d : Nat) (hd f : Nat) (q : Nat → Nat) (σ1 : es_S), 32 - hd = d → (hd ≤ f ∧ fr_I nx op (2 ^ dc) b σ σ1 f q ∧ (∀ i r', i < hd → op r' → bt (σ1 b 11) (nx (q i) r') = true)) → ez_Ev l G X_BH_findReached 0 0 19 [some (.ref b), some (.int O), some (.int (nI f)), some (.int (nI hd)), none, none] [] (es_H σ1) (es_Q (es_V fun σ' => (∀ k, k ≠ b → k ≠ b + 5 → σ' k = σ k) ∧ (∀ j, j ≠ 11 → σ' b j = σ b j) ∧ ∀ s, s < 32 → (bt (σ' b 11) s = true ↔ em_rch nx op s)) es_no) := by
  intro d
  induction d using Nat.strongRecOn with
  | _ d ih =>
    intro hd f q σ1 hm hinv
    obtain ⟨hhf, hI, hcl⟩ := hinv
    have hf32 := hI.1.1
    have hfin : f ≤ hd → (es_V fun σ' => (∀ k, k ≠ b → k ≠ b + 5 → σ' k = σ k) ∧ (∀ j, j ≠ 11 → σ' b j = σ b j) ∧ ∀ s, s < 32 → (bt (σ' b 11) s = true ↔ em_rch nx op s)) none σ1 := fun hfh => ⟨rfl, hI.2.1, hI.2.2.1, fun s hs => ⟨fun h => by obtain ⟨i, i1, rfl⟩ := (hI.2.2.2.2.2 s hs).mp h; exact (hI.2.2.2.2.1 i i1).2.2, fun h => h (fun t => bt (σ1 b 11) t = true) hI.2.2.2.1 (fun t r2 ht ho => by
      have ht32 : t < 32 := Classical.byContradiction fun hc => by rw [b_big (by omega)] at ht; cases ht
      obtain ⟨i, i1, rfl⟩ := (hI.2.2.2.2.2 t ht32).mp ht
      exact hcl i r2 (by omega) ho)⟩⟩
    refine ev_iload_n (i := 3) d_BH_findReached_19 rfl rfl ?_
    refine ev_iload_n (i := 2) d_BH_findReached_20 rfl rfl ?_
    refine ev_icmp_ge d_BH_findReached_21 (fun h21 => ?_) (fun h21 => ?_)
    · rw [nI_leI (by omega) (by omega)] at h21
      refine es_vret d_BH_findReached_122 rfl ⟨Nat.zero_le _, Nat.zero_le _⟩ ⟨rfl, ?_⟩
      exact (hfin (by omega)).2
    · rw [nI_leI (by omega) (by omega), Nat.not_le] at h21
      refine ev_iload_n (i := 3) d_BH_findReached_24 rfl rfl ?_
      refine ev_bipush (v := 32) d_BH_findReached_25 rfl ?_
      refine ev_icmp_ge d_BH_findReached_27 (fun h27 => ?_) (fun h27 => ?_)
      · rw [show (32 : Int32) = nI 32 from rfl, nI_leI (by omega) (by omega)] at h27
        refine es_vret d_BH_findReached_122 rfl ⟨Nat.zero_le _, Nat.zero_le _⟩ ⟨rfl, ?_⟩
        exact (hfin (by omega)).2
      · rw [show (32 : Int32) = nI 32 from rfl, nI_leI (by omega) (by omega), Nat.not_le] at h27
        refine ev_iconst (v := 0) d_BH_findReached_30 rfl ?_
        refine ev_istore d_BH_findReached_31 (by decide) ?_
        dsimp only [List.set_cons_zero, List.set_cons_succ]
        refine lp_BH_findReached_33 hb hd5 h10 hnx hT hO hop (hd := hd) (fun f2 q2 σ2 hI2 hf2 hcl2 => ?_) _ 0 f q σ1 rfl ⟨by omega, hI, h21, hcl, fun r2 hr2 => by omega⟩
        refine ev_iinc d_BH_findReached_116 rfl (ez_inc _) (by decide) ?_
        dsimp only [List.set_cons_zero, List.set_cons_succ]
        refine ev_goto d_BH_findReached_119 ?_
        exact ih _ (by have := hI2.1.1; omega) (hd + 1) f2 q2 σ2 rfl ⟨by omega, hI2, hcl2⟩
theorem c_BH_findReached {b e : Nat} (hb : sb_BH b e) {nx : Nat → Nat → Nat} {op : Nat → Prop} {dc : Nat} (hd5 : dc ≤ 5) (h10 : σ b 10 = nI (2 ^ dc)) (hnx : ∀ s r, nx s r < 2 ^ dc) (hT : ∀ s r, s < 2 ^ dc → op r → σ (b + 4) (r * 32 + s) = nI (nx s r)) {O : Int32} (hO : ∀ r, r < 16 → (bt O r = true ↔ op r)) (hop : ∀ r, op r → r < 16) : ez_Ct l G X_BH_findReached [.ref b, .int O] (es_H σ) (es_Q (es_V fun σ' => (∀ k, k ≠ b → k ≠ b + 5 → σ' k = σ k) ∧ (∀ j, j ≠ 11 → σ' b j = σ b j) ∧ ∀ s, s < 32 → (bt (σ' b 11) s = true ↔ em_rch nx op s)) es_no) := by
  refine es_Ct_of (ls := [some (.ref b), some (.int O), none, none, none, none]) ok_BH_findReached rfl (Nat.le_of_ble_eq_true rfl) rfl ?_
  refine ev_aload_n (i := 0) d_BH_findReached_0 rfl rfl ?_
  refine es_getR d_BH_findReached_1 f_BH_24 (sh_BH hb) rfl ?_
  refine ev_iconst (v := 0) d_BH_findReached_4 rfl ?_
  refine ev_iconst (v := 0) d_BH_findReached_5 rfl ?_
  refine es_iast d_BH_findReached_6 (sa_BH_queue hb) (ez_vinN (b := 0) (by omega) (by omega)) ?_
  refine ev_iconst (v := 1) d_BH_findReached_7 rfl ?_
  refine ev_istore_n (i := 2) d_BH_findReached_8 rfl (by decide) ?_
  dsimp only [List.set_cons_zero, List.set_cons_succ]
  refine ev_aload_n (i := 0) d_BH_findReached_9 rfl rfl ?_
  refine ev_iconst (v := 0) d_BH_findReached_10 rfl ?_
  refine es_cSI ls_BH_findReached_11 d_BH_findReached_11 c_EE_bitOf rfl rfl (Nat.le_of_ble_eq_true rfl) (fun x11 σ11 h11 => ?_) (fun _ _ h => h.elim)
  obtain ⟨rfl, e11⟩ := h11
  rw [e11]
  refine es_putI d_BH_findReached_14 f_BH_43 y_BH_reachedStates (sh_BH hb) rfl ⟨rfl, rfl⟩ ?_
  refine ev_iconst (v := 0) d_BH_findReached_17 rfl ?_
  refine ev_istore_n (i := 3) d_BH_findReached_18 rfl (by decide) ?_
  dsimp only [List.set_cons_zero, List.set_cons_succ]
  have e0 : eo 0 = 1 := by decide
  have b1 : ∀ i, i < 32 → bt 1 i = decide (i = 0) := by decide +kernel
  refine lp_BH_findReached_19 hb hd5 h10 hnx hT hO hop _ 0 1 (fun _ => 0) _ rfl ⟨by omega, ⟨⟨by omega, ?_⟩, fun k g1 g2 => by rw [es_upf _ _ _ _ g1, es_upf _ _ _ _ g2], fun j hj => by simp [es_upx, hj], ?_, fun i hi => ⟨?_, Nat.two_pow_pos dc, em_rch_0⟩, fun s hs => ?_⟩, fun i r2 hi => by omega⟩
  · have e1 : em_ct (fun s => bt (es_up (es_up σ (b + 5) (0 : Int32).toNatClampNeg 0) b 11 (eo 0) b 11) s = true) 32 = em_ct (fun s => False ∨ s = 0) 32 := em_ct_congr _ (fun x hx => by simp [es_upx, e0, b1 x hx])
    rw [e1, em_ct_add (p := fun _ => False) (x := 0) (fun h => h) (fun y => Iff.rfl) 32 (by omega), em_ct_none _ (fun _ _ h => h)]
  · simp [es_upx, e0, b1]
  · have : i = 0 := by omega
    subst this
    simp [es_upx]
    rfl
  · simp [es_upx, e0, b1 s hs]
    omega
theorem lp_BH_learn_27 {b e : Nat} (hb : sb_BH b e) {E : em_E} {P : Nat} (hw : em_wf P E) (hP4 : P ≤ 4) (hr : rc E e σ) (hright : em_right E) {op : Nat → Prop} {O : Int32} (hO : ∀ r, r < 16 → (bt O r = true ↔ op r)) (hop : ∀ r, op r → r < 2 ^ P) : ∀ (d : Nat) (r : Nat) (σ1 : es_S), 2 ^ P - r = d → (r ≤ 2 ^ P ∧ (∀ k, (k < b ∨ b + 8 < k) → σ1 k = σ k) ∧ σ1 b 9 = nI (em_n E) ∧ σ1 b 10 = nI (2 ^ em_dl E (em_n E)) ∧ bo_O E (σ1 (b + 1)) ∧ (∀ q s, q < r → s < 32 → em_Sat E (tb s) (tb q) (fun u => bt (σ1 (b + 2) (q * 24 + u)) s)) ∧ (∀ q s, q < r → s < 2 ^ em_dl E (em_n E) → σ1 (b + 3) (q * 32 + s) = nI (em_ou E s q) ∧ σ1 (b + 4) (q * 32 + s) = nI (em_nx E s q))) → ez_Ev l G X_BH_learn 0 0 27 [some (.ref b), some (.int (nI (2 ^ P))), some (.int O), some (.int (nI r))] [] (es_H σ1) (es_Q (es_V fun σ' => bh E P op b σ' ∧ σ' b 12 = 1 ∧ ∀ k, (k < b ∨ b + 8 < k) → σ' k = σ k) es_no) := by
  intro d
  induction d using Nat.strongRecOn with
  | _ d ih =>
    intro r σ1 hm hinv
    obtain ⟨hr2, hoff, h9, h10, hO2, hS, hT⟩ := hinv
    have hn := hw.1
    have hbe := hb.ne
    have hd5 := hw.2.2.2.2.2.2
    have hP16 : 2 ^ P ≤ 2 ^ 4 := Nat.pow_le_pow_right (by omega) hP4
    have hr1 : rc E e σ1 := rc_off hr (fun k g1 g2 => hoff k (Or.inl (by omega)))
    have h32 : 2 ^ em_dl E (em_n E) ≤ 2 ^ 5 := Nat.pow_le_pow_right (by omega) hd5
    refine ev_iload_n (i := 3) d_BH_learn_27 rfl rfl ?_
    refine ev_iload_n (i := 1) d_BH_learn_28 rfl rfl ?_
    refine ev_icmp_ge d_BH_learn_29 (fun h29 => ?_) (fun h29 => ?_)
    · rw [nI_leI (by omega) (by omega)] at h29
      refine ev_aload_n (i := 0) d_BH_learn_54 rfl rfl ?_
      refine ev_iload_n (i := 2) d_BH_learn_55 rfl rfl ?_
      refine es_cVV ls_BH_learn_56 d_BH_learn_56 (sh_BH hb) (c_BH_findReached hb hd5 h10 (em_nx_lt E) (fun s r2 hs ho => (hT r2 s (by have := hop r2 ho; omega) hs).2) hO (fun r2 ho => by have := hop r2 ho; omega)) rfl rfl (Nat.le_of_ble_eq_true rfl) (fun σ56 h56 => ?_) (fun _ _ h => h.elim)
      obtain ⟨f1, f2, f3⟩ := h56
      refine ev_aload_n (i := 0) d_BH_learn_59 rfl rfl ?_
      refine ev_iconst (v := 1) d_BH_learn_60 rfl ?_
      refine es_putI d_BH_learn_61 f_BH_46 y_BH_known (sh_BH hb) rfl ⟨rfl, rfl⟩ ?_
      refine es_vret d_BH_learn_64 rfl ⟨Nat.zero_le _, Nat.zero_le _⟩ ⟨rfl, ?_⟩
      have hk : ∀ k, k ≠ b → k ≠ b + 5 → es_up σ56 b 12 1 k = σ1 k := fun k g1 g2 => by rw [es_upf _ _ _ _ g1]; exact f1 k g1 g2
      refine ⟨⟨?_, fun q s hq hs => ?_, fun q s hq hs => ?_, fun s hs => ?_⟩, by simp [es_upx], fun k hk2 => by rw [hk k (by omega) (by omega)]; exact hoff k hk2⟩
      · rw [es_upx]; simp; rw [f2 10 (by omega)]; exact h10
      · rw [hk (b + 2) (by omega) (by omega)]; exact hS q s (by omega) hs
      · rw [hk (b + 3) (by omega) (by omega), hk (b + 4) (by omega) (by omega)]; exact hT q s (by omega) hs
      · rw [es_upx]; simp; exact f3 s hs
    · rw [nI_leI (by omega) (by omega), Nat.not_le] at h29
      refine ev_iload_n (i := 3) d_BH_learn_32 rfl rfl ?_
      refine ev_bipush (v := 16) d_BH_learn_33 rfl ?_
      refine ev_icmp_ge d_BH_learn_35 (fun h35 => ?_) (fun h35 => ?_)
      · rw [show (16 : Int32) = nI 16 from rfl, nI_leI (by omega) (by omega)] at h35
        omega
      · refine ev_aload_n (i := 0) d_BH_learn_38 rfl rfl ?_
        refine ev_iload_n (i := 3) d_BH_learn_39 rfl rfl ?_
        refine es_cVV ls_BH_learn_40 d_BH_learn_40 (sh_BH hb) (c_BH_fillColumns hb hw hP4 hr1 (show r < 16 by omega) h9 hO2) rfl rfl (Nat.le_of_ble_eq_true rfl) (fun σ40 h40 => ?_) (fun _ _ h => h.elim)
        obtain ⟨c1, c2, c3⟩ := h40
        have hr3 : rc E e σ40 := rc_off hr1 (fun k g1 g2 => c1 k (by omega))
        refine ev_aload_n (i := 0) d_BH_learn_43 rfl rfl ?_
        refine ev_iload_n (i := 3) d_BH_learn_44 rfl rfl ?_
        refine es_cVV ls_BH_learn_45 d_BH_learn_45 (sh_BH hb) (c_BH_fillTicks hb hw hP4 hr3 hright (show r < 16 by omega) (by rw [c1 b (by omega)]; exact h10) c3) rfl rfl (Nat.le_of_ble_eq_true rfl) (fun σ45 h45 => ?_) (fun _ _ h => h.elim)
        obtain ⟨d1, d2, d3⟩ := h45
        refine ev_iinc d_BH_learn_48 rfl (ez_inc _) (by decide) ?_
        dsimp only [List.set_cons_zero, List.set_cons_succ]
        refine ev_goto d_BH_learn_51 ?_
        refine ih _ (by omega) (r + 1) σ45 rfl ⟨by omega, fun k hk => by rw [d1 k (by omega) (by omega), c1 k (by omega)]; exact hoff k hk, by rw [d1 b (by omega) (by omega), c1 b (by omega)]; exact h9, by rw [d1 b (by omega) (by omega), c1 b (by omega)]; exact h10, by rw [d1 (b + 1) (by omega) (by omega), c1 (b + 1) (by omega)]; exact hO2, fun q s hq hs => ?_, fun q s hq hs => ?_⟩
        · rw [d1 (b + 2) (by omega) (by omega)]
          by_cases hqr : q = r
          · rw [hqr]; exact c3 s hs
          · intro t ht
            have h1 := hS q s (by omega) hs t ht
            have e1 : ∀ u, u < em_n E → bt (σ40 (b + 2) (q * 24 + u)) s = bt (σ1 (b + 2) (q * 24 + u)) s := fun u hu => by rw [c2 _ (by omega)]
            show bt (σ40 (b + 2) (q * 24 + t)) s = _
            rw [e1 t ht]
            refine h1.trans (em_f_eq hw ht (fun u hu => ?_))
            exact (e1 u (by obtain ⟨⟨-, z, -, hz⟩, -⟩ := hu; exact (hw.2.2.1 t z u hz).2)).symm
        · by_cases hqr : q = r
          · rw [hqr]; exact d3 s hs
          · rw [(d2 (q * 32 + s) (by omega)).1, (d2 (q * 32 + s) (by omega)).2, c1 (b + 3) (by omega), c1 (b + 4) (by omega)]; exact hT q s (by omega) hs
theorem c_BH_learn {b e : Nat} (hb : sb_BH b e) {E : em_E} {P : Nat} (hw : em_wf P E) (hP4 : P ≤ 4) (hr : rc E e σ) (hright : em_right E) {op : Nat → Prop} {O : Int32} (hO : ∀ r, r < 16 → (bt O r = true ↔ op r)) (hop : ∀ r, op r → r < 2 ^ P) (hkn : σ b 12 = 0 ∨ (σ b 12 = 1 ∧ bh E P op b σ)) : ez_Ct l G X_BH_learn [.ref b, .int (nI (2 ^ P)), .int O] (es_H σ) (es_Q (es_V fun σ' => bh E P op b σ' ∧ σ' b 12 = 1 ∧ ∀ k, (k < b ∨ b + 8 < k) → σ' k = σ k) es_no) := by
  have hn := hw.1
  have hbe := hb.ne
  have hd5 := hw.2.2.2.2.2.2
  refine es_Ct_of (ls := [some (.ref b), some (.int (nI (2 ^ P))), some (.int O), none]) ok_BH_learn rfl (Nat.le_of_ble_eq_true rfl) rfl ?_
  refine ev_aload_n (i := 0) d_BH_learn_0 rfl rfl ?_
  refine es_getI d_BH_learn_1 f_BH_46 (sh_BH hb) rfl ?_
  refine ev_if_eq d_BH_learn_4 (fun h4 => ?_) (fun h4 => ?_)
  · refine ev_aload_n (i := 0) d_BH_learn_8 rfl rfl ?_
    refine ev_iconst (v := 1) d_BH_learn_9 rfl ?_
    refine ev_aload_n (i := 0) d_BH_learn_10 rfl rfl ?_
    refine es_getR d_BH_learn_11 f_BH_50 (sh_BH hb) rfl ?_
    refine es_cVI ls_BH_learn_14 d_BH_learn_14 (sh_ED hb.ed) (c_ED_countDelays hb.ed) rfl rfl (Nat.le_of_ble_eq_true rfl) (fun x14 σ14 h14 => ?_) (fun _ _ h => h.elim)
    obtain ⟨rfl, e14⟩ := h14
    rw [e14]
    refine ev_ishl d_BH_learn_17 ?_
    refine es_putI d_BH_learn_18 f_BH_40 y_BH_stateCount (sh_BH hb) rfl ⟨rfl, rfl⟩ ?_
    refine ev_aload_n (i := 0) d_BH_learn_21 rfl rfl ?_
    refine es_cVV ls_BH_learn_22 d_BH_learn_22 (sh_BH hb) (c_BH_orderBlocks hb hw (rc_off hr (fun k g1 g2 => es_upf _ _ _ _ (by omega))) hright) rfl rfl (Nat.le_of_ble_eq_true rfl) (fun σ22 h22 => ?_) (fun _ _ h => h.elim)
    obtain ⟨c1, c2, c3, c4⟩ := h22
    refine ev_iconst (v := 0) d_BH_learn_25 rfl ?_
    refine ev_istore_n (i := 3) d_BH_learn_26 rfl (by decide) ?_
    dsimp only [List.set_cons_zero, List.set_cons_succ]
    refine lp_BH_learn_27 hb hw hP4 hr hright hO hop _ 0 σ22 rfl ⟨Nat.zero_le _, fun k hk => by rw [c1 k (by omega) (by omega), es_upf _ _ _ _ (by omega)], c3, ?_, c4, fun q s hq => by omega, fun q s hq => by omega⟩
    rw [c2 10 (by omega), es_upx, if_pos rfl, if_pos rfl, hr.2.1, shl1 (by omega)]
  · have hk1 : σ b 12 = 1 ∧ bh E P op b σ := hkn.elim (fun h => absurd h h4) id
    refine es_vret d_BH_learn_7 rfl ⟨Nat.zero_le _, Nat.zero_le _⟩ ⟨rfl, ?_⟩
    exact ⟨hk1.2, hk1.1, fun _ _ => rfl⟩
end
