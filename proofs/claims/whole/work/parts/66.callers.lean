/-! ===== the law: its callers ===== -/
section
variable {l : Launch} {G : ez_G} {σ : es_S}
theorem w_cst0 : Cond.castable "java/lang/IllegalArgumentException" "java/lang/IllegalArgumentException" ∈ ez_T := (ez_r2 (List.mem_of_getElem? (i := 0) rfl) rfl)
theorem w_cst1 : Cond.castable "java/lang/IllegalStateException" "java/lang/IllegalStateException" ∈ ez_T := (ez_r2 (List.mem_of_getElem? (i := 76) rfl) rfl)
/-- a call of an object's method where handlers stand -/
theorem es_cH {X Y : ez_X} {pc pc' n index b ci : Nat} {ls : List (Option Value)} {st : List Value} {rs : List (Option Nat)} {as rest : List Value} {P : Int32 → es_S → Prop} {T' : Nat → es_S → Prop} {Q : ez_R → Prop} (hlk : es_lkV X Y index n ci) (hroom : ez_fits X Y 0 0) (hmc : ez_mc Y = 0 ∧ ez_ms Y = 0) (hd : ez_at X pc (.invokevirtual index) 3 pc') (hb : es_SH[b]? = some (.inr (ci, rs)))
    (hC : ez_Ct l G Y (.ref b :: as) (es_H σ) (es_Q (es_I P) T')) (hs : st = as.reverse ++ .ref b :: rest) (hn : as.length = n) (hrest : (rest.map fun v => v.category).sum ≤ 8)
    (kr : ∀ x σ', P x σ' → ez_Ev l G X 0 0 pc' ls (.int x :: rest) (es_H σ') Q) (kt : ∀ k σ', T' k σ' → ez_Th l G X 1 6 pc ls (es_H σ') k Q) : ez_Ev l G X 0 0 pc ls st (es_H σ) Q := by
  obtain ⟨T0, N, hc⟩ := hlk.2.2.2.2
  refine ez_call hlk.1 hC hroom hrest (ez_toV hlk.1 hlk.2.1 hlk.2.2.1 hlk.2.2.2.1 hd hs hn (es_get hb) hc) ⟨_, hd.1⟩ hd.2 ?_ ?_
  · rintro v h' ⟨σ', e, x, e2, hr⟩
    have e' : h' = es_H σ' := e
    subst e'
    subst e2
    refine ⟨?_, ?_⟩
    · rw [es_len, es_len]
      exact ez_still_eq _ _ _
    · rw [hmc.1, hmc.2]
      exact kr x σ' hr
  · rintro k h' ⟨σ', e, hr⟩
    have e' : h' = es_H σ' := e
    subst e'
    refine ⟨by rw [es_len, es_len], ?_⟩
    rw [hmc.1, hmc.2]
    exact kt k σ' hr
def lR (S : sp_S) (good state : Prop) (val : Int32) (new : sp_S) (t : Int32) (σ' : es_S) : Prop := (¬ good ∧ t = 1 ∧ ci S σ') ∨ (good ∧ ¬ state ∧ t = 2 ∧ ci S σ') ∨ (good ∧ state ∧ t = 0 ∧ σ' 64 0 = val ∧ ci new σ')
theorem lR_ok {S new : sp_S} {good state : Prop} {val z : Int32} {σ σ1 : es_S} (g1 : good) (g2 : state) (g3 : z = val) (g4 : ci new σ1) (g5 : ∀ k, 46 ≤ k → σ1 k = σ k) : lR S good state val new 0 (es_up σ1 64 0 z) ∧ ∀ k, 46 ≤ k → k < 64 → es_up σ1 64 0 z k = σ k :=
  ⟨Or.inr (Or.inr ⟨g1, g2, rfl, (es_up_eq _ _ _ _).trans g3, ci_keep g4 (fun k hk => es_up_off _ _ _ _ (by have := hk.1; omega))⟩), fun k a b => by rw [es_up_off _ _ _ _ (by omega)]; exact g5 k a⟩
theorem lR_no {S new : sp_S} {good state : Prop} {val : Int32} {σ σ1 : es_S} (g1 : ¬ good) (g4 : ci S σ1) (g5 : ∀ k, 46 ≤ k → σ1 k = σ k) : lR S good state val new 1 σ1 ∧ ∀ k, 46 ≤ k → k < 64 → σ1 k = σ k :=
  ⟨Or.inl ⟨g1, rfl, g4⟩, fun k a _ => g5 k a⟩
theorem lR_st {S new : sp_S} {good state : Prop} {val : Int32} {σ σ1 : es_S} (g1 : good) (g2 : ¬ state) (g4 : ci S σ1) (g5 : ∀ k, 46 ≤ k → σ1 k = σ k) : lR S good state val new 2 σ1 ∧ ∀ k, 46 ≤ k → k < 64 → σ1 k = σ k :=
  ⟨Or.inr (Or.inl ⟨g1, g2, rfl, g4⟩), fun k a _ => g5 k a⟩
theorem eb_1 {c : Bool} (h : ¬ eb c = 0) : 1 = eb c := by cases c <;> first | rfl | exact absurd rfl h
theorem in_01 : vp_in 0 1 := ez_vinN (b := 0) (by omega) (by omega)
theorem c_LW_block (hl : l.stackTraces = false) {S : sp_S} (hc : ci S σ) {e x m : Int32} : ez_Ct l G X_LW_block [.ref 0, .int e, .int x, .int m, .ref 64] (es_H σ) (es_Q (es_I fun z σ' => lR S (g_block S e x m) (s_block S e x) (nI (em_n (sE S e))) (n_block S e x m) z σ' ∧ ∀ k, 46 ≤ k → k < 64 → σ' k = σ k) es_no) := by
  refine es_Ct_of (ls := [some (.ref 0), some (.int e), some (.int x), some (.int m), some (.ref 64), none]) ok_LW_block rfl (Nat.le_of_ble_eq_true rfl) rfl ?_
  refine ev_aload d_LW_block_0 rfl ?_
  refine ev_iconst (v := 0) d_LW_block_2 rfl ?_
  refine ev_aload_n (i := 0) d_LW_block_3 rfl rfl ?_
  refine ev_iload_n (i := 1) d_LW_block_4 rfl rfl ?_
  refine ev_iload_n (i := 2) d_LW_block_5 rfl rfl ?_
  refine ev_iload_n (i := 3) d_LW_block_6 rfl rfl ?_
  refine es_cH lk_LW_block_7 ⟨⟨by decide, by decide⟩, by decide, by decide⟩ ⟨rfl, rfl⟩ d_LW_block_7 rfl (c_EE_block hl hc) rfl rfl (Nat.le_of_ble_eq_true rfl) (fun x σ1 h1 => ?_) (fun k σ1 h1 => ?_)
  · obtain ⟨g1, g2, rfl, g4, g5⟩ := h1
    refine ev_i2l d_LW_block_10 ?_
    refine es_last d_LW_block_11 rfl in_01 ?_
    refine ev_goto d_LW_block_12 ?_
    refine ev_iconst (v := 0) d_LW_block_23 rfl ?_
    refine es_iret d_LW_block_24 rfl ⟨Nat.zero_le _, Nat.zero_le _⟩ ⟨_, rfl, ?_⟩
    exact lR_ok g1 g2 rfl g4 g5
  · obtain ⟨⟨rfl, g1⟩ | ⟨rfl, g1, g2⟩, g4, g5⟩ := h1
    · skip
      refine ez_Th_catch (hp := 15) (i := 5) (pre := []) (suf := [(0, 12, 19, 15)]) (x := (0, 12, 15, 13)) rfl (fun _ h => absurd h List.not_mem_nil) ⟨⟨by decide, by decide⟩, rfl, by decide⟩ t_272 w_cst0 (by decide) (Or.inr ⟨(d_LW_block_15).1, rfl⟩) ?_
      refine ev_iconst (v := 1) d_LW_block_17 rfl ?_
      refine es_iret d_LW_block_18 rfl ⟨Nat.le_refl _, Nat.le_refl _⟩ ⟨_, rfl, ?_⟩
      exact lR_no g1 g4 g5
    · skip
      refine ez_Th_catch (hp := 19) (i := 5) (pre := [(0, 12, 15, 13)]) (suf := []) (x := (0, 12, 19, 15)) rfl (fun z hz => by rw [List.mem_singleton] at hz; subst hz; exact ⟨by decide, rfl, t_272⟩) ⟨⟨by decide, by decide⟩, rfl, by decide⟩ t_273 w_cst1 (by decide) (Or.inr ⟨(d_LW_block_19).1, rfl⟩) ?_
      refine ev_iconst (v := 2) d_LW_block_21 rfl ?_
      refine es_iret d_LW_block_22 rfl ⟨Nat.le_refl _, Nat.le_refl _⟩ ⟨_, rfl, ?_⟩
      exact lR_st g1 g2 g4 g5
theorem c_LW_wire (hl : l.stackTraces = false) {S : sp_S} (hc : ci S σ) {e x i t : Int32} : ez_Ct l G X_LW_wire [.ref 0, .int e, .int x, .int i, .int t, .ref 64] (es_H σ) (es_Q (es_I fun z σ' => lR S (g_wire S e x i t) (True) (en (em_w (sE S e) (tn x) (tn i))) (n_wire S e x i t) z σ' ∧ ∀ k, 46 ≤ k → k < 64 → σ' k = σ k) es_no) := by
  refine es_Ct_of (ls := [some (.ref 0), some (.int e), some (.int x), some (.int i), some (.int t), some (.ref 64), none]) ok_LW_wire rfl (Nat.le_of_ble_eq_true rfl) rfl ?_
  refine ev_aload d_LW_wire_0 rfl ?_
  refine ev_iconst (v := 0) d_LW_wire_2 rfl ?_
  refine ev_aload_n (i := 0) d_LW_wire_3 rfl rfl ?_
  refine ev_iload_n (i := 1) d_LW_wire_4 rfl rfl ?_
  refine ev_iload_n (i := 2) d_LW_wire_5 rfl rfl ?_
  refine ev_iload_n (i := 3) d_LW_wire_6 rfl rfl ?_
  refine ev_iload d_LW_wire_7 rfl ?_
  refine es_cH lk_LW_wire_9 ⟨⟨by decide, by decide⟩, by decide, by decide⟩ ⟨rfl, rfl⟩ d_LW_wire_9 rfl (c_EE_wire hl hc) rfl rfl (Nat.le_of_ble_eq_true rfl) (fun x σ1 h1 => ?_) (fun k σ1 h1 => ?_)
  · obtain ⟨g1, g2, rfl, g4, g5⟩ := h1
    refine ev_i2l d_LW_wire_12 ?_
    refine es_last d_LW_wire_13 rfl in_01 ?_
    refine ev_goto d_LW_wire_14 ?_
    refine ev_iconst (v := 0) d_LW_wire_21 rfl ?_
    refine es_iret d_LW_wire_22 rfl ⟨Nat.zero_le _, Nat.zero_le _⟩ ⟨_, rfl, ?_⟩
    exact lR_ok g1 g2 rfl g4 g5
  · obtain ⟨⟨rfl, g1⟩ | ⟨rfl, g1, g2⟩, g4, g5⟩ := h1
    · skip
      refine ez_Th_catch (hp := 17) (i := 6) (pre := []) (suf := []) (x := (0, 14, 17, 13)) rfl (fun _ h => absurd h List.not_mem_nil) ⟨⟨by decide, by decide⟩, rfl, by decide⟩ t_272 w_cst0 (by decide) (Or.inr ⟨(d_LW_wire_17).1, rfl⟩) ?_
      refine ev_iconst (v := 1) d_LW_wire_19 rfl ?_
      refine es_iret d_LW_wire_20 rfl ⟨Nat.le_refl _, Nat.le_refl _⟩ ⟨_, rfl, ?_⟩
      exact lR_no g1 g4 g5
    · exact absurd trivial g2
theorem c_LW_out (hl : l.stackTraces = false) {S : sp_S} (hc : ci S σ) {e x t : Int32} : ez_Ct l G X_LW_out [.ref 0, .int e, .int x, .int t, .ref 64] (es_H σ) (es_Q (es_I fun z σ' => lR S (g_out S e x t) (True) (en (em_o (sE S e) (tn x))) (n_out S e x t) z σ' ∧ ∀ k, 46 ≤ k → k < 64 → σ' k = σ k) es_no) := by
  refine es_Ct_of (ls := [some (.ref 0), some (.int e), some (.int x), some (.int t), some (.ref 64), none]) ok_LW_out rfl (Nat.le_of_ble_eq_true rfl) rfl ?_
  refine ev_aload d_LW_out_0 rfl ?_
  refine ev_iconst (v := 0) d_LW_out_2 rfl ?_
  refine ev_aload_n (i := 0) d_LW_out_3 rfl rfl ?_
  refine ev_iload_n (i := 1) d_LW_out_4 rfl rfl ?_
  refine ev_iload_n (i := 2) d_LW_out_5 rfl rfl ?_
  refine ev_iload_n (i := 3) d_LW_out_6 rfl rfl ?_
  refine es_cH lk_LW_out_7 ⟨⟨by decide, by decide⟩, by decide, by decide⟩ ⟨rfl, rfl⟩ d_LW_out_7 rfl (c_EE_out hl hc) rfl rfl (Nat.le_of_ble_eq_true rfl) (fun x σ1 h1 => ?_) (fun k σ1 h1 => ?_)
  · obtain ⟨g1, g2, rfl, g4, g5⟩ := h1
    refine ev_i2l d_LW_out_10 ?_
    refine es_last d_LW_out_11 rfl in_01 ?_
    refine ev_goto d_LW_out_12 ?_
    refine ev_iconst (v := 0) d_LW_out_19 rfl ?_
    refine es_iret d_LW_out_20 rfl ⟨Nat.zero_le _, Nat.zero_le _⟩ ⟨_, rfl, ?_⟩
    exact lR_ok g1 g2 rfl g4 g5
  · obtain ⟨⟨rfl, g1⟩ | ⟨rfl, g1, g2⟩, g4, g5⟩ := h1
    · skip
      refine ez_Th_catch (hp := 15) (i := 5) (pre := []) (suf := []) (x := (0, 12, 15, 13)) rfl (fun _ h => absurd h List.not_mem_nil) ⟨⟨by decide, by decide⟩, rfl, by decide⟩ t_272 w_cst0 (by decide) (Or.inr ⟨(d_LW_out_15).1, rfl⟩) ?_
      refine ev_iconst (v := 1) d_LW_out_17 rfl ?_
      refine es_iret d_LW_out_18 rfl ⟨Nat.le_refl _, Nat.le_refl _⟩ ⟨_, rfl, ?_⟩
      exact lR_no g1 g4 g5
    · exact absurd trivial g2
theorem c_LW_bar (hl : l.stackTraces = false) {S : sp_S} (hc : ci S σ) {x : Int32} {c : Bool} : ez_Ct l G X_LW_bar [.ref 0, .int x, .int (eb c), .ref 64] (es_H σ) (es_Q (es_I fun z σ' => lR S (g_row S x) (True) (v_bar S x) (n_bar S x c) z σ' ∧ ∀ k, 46 ≤ k → k < 64 → σ' k = σ k) es_no) := by
  refine es_Ct_of (ls := [some (.ref 0), some (.int x), some (.int (eb c)), some (.ref 64), none]) ok_LW_bar rfl (Nat.le_of_ble_eq_true rfl) rfl ?_
  refine ev_aload_n (i := 3) d_LW_bar_0 rfl rfl ?_
  refine ev_iconst (v := 0) d_LW_bar_1 rfl ?_
  refine ev_aload_n (i := 0) d_LW_bar_2 rfl rfl ?_
  refine ev_iload_n (i := 1) d_LW_bar_3 rfl rfl ?_
  refine ev_iload_n (i := 2) d_LW_bar_4 rfl rfl ?_
  refine es_cH lk_LW_bar_5 ⟨⟨by decide, by decide⟩, by decide, by decide⟩ ⟨rfl, rfl⟩ d_LW_bar_5 rfl (c_EE_bar hl hc) rfl rfl (Nat.le_of_ble_eq_true rfl) (fun x σ1 h1 => ?_) (fun k σ1 h1 => ?_)
  · obtain ⟨g1, g2, rfl, g4, g5⟩ := h1
    refine ev_if_eq d_LW_bar_8 (fun h => ?_) (fun h => ?_)
    · refine ev_lconst (v := (0 : Int32).toInt64) d_LW_bar_15 (by decide) ?_
      refine es_last d_LW_bar_16 rfl in_01 ?_
      refine ev_goto d_LW_bar_17 ?_
      refine ev_iconst (v := 0) d_LW_bar_24 rfl ?_
      refine es_iret d_LW_bar_25 rfl ⟨Nat.zero_le _, Nat.zero_le _⟩ ⟨_, rfl, ?_⟩
      exact lR_ok g1 g2 h.symm g4 g5
    · refine ev_lconst (v := (1 : Int32).toInt64) d_LW_bar_11 (by decide) ?_
      refine ev_goto d_LW_bar_12 ?_
      refine es_last d_LW_bar_16 rfl in_01 ?_
      refine ev_goto d_LW_bar_17 ?_
      refine ev_iconst (v := 0) d_LW_bar_24 rfl ?_
      refine es_iret d_LW_bar_25 rfl ⟨Nat.zero_le _, Nat.zero_le _⟩ ⟨_, rfl, ?_⟩
      exact lR_ok g1 g2 (eb_1 h) g4 g5
  · obtain ⟨⟨rfl, g1⟩ | ⟨rfl, g1, g2⟩, g4, g5⟩ := h1
    · skip
      refine ez_Th_catch (hp := 20) (i := 4) (pre := []) (suf := []) (x := (0, 17, 20, 13)) rfl (fun _ h => absurd h List.not_mem_nil) ⟨⟨by decide, by decide⟩, rfl, by decide⟩ t_272 w_cst0 (by decide) (Or.inr ⟨(d_LW_bar_20).1, rfl⟩) ?_
      refine ev_iconst (v := 1) d_LW_bar_22 rfl ?_
      refine es_iret d_LW_bar_23 rfl ⟨Nat.le_refl _, Nat.le_refl _⟩ ⟨_, rfl, ?_⟩
      exact lR_no g1 g4 g5
    · exact absurd trivial g2
theorem c_LW_wrong (hl : l.stackTraces = false) {S : sp_S} (hc : ci S σ) {e : Int32} : ez_Ct l G X_LW_wrong [.ref 0, .int e, .ref 64] (es_H σ) (es_Q (es_I fun z σ' => lR S (g_ed e) (True) (en (em_fault (sE S e))) (S) z σ' ∧ ∀ k, 46 ≤ k → k < 64 → σ' k = σ k) es_no) := by
  refine es_Ct_of (ls := [some (.ref 0), some (.int e), some (.ref 64), none]) ok_LW_wrong rfl (Nat.le_of_ble_eq_true rfl) rfl ?_
  refine ev_aload_n (i := 2) d_LW_wrong_0 rfl rfl ?_
  refine ev_iconst (v := 0) d_LW_wrong_1 rfl ?_
  refine ev_aload_n (i := 0) d_LW_wrong_2 rfl rfl ?_
  refine ev_iload_n (i := 1) d_LW_wrong_3 rfl rfl ?_
  refine es_cH lk_LW_wrong_4 ⟨⟨by decide, by decide⟩, by decide, by decide⟩ ⟨rfl, rfl⟩ d_LW_wrong_4 rfl (c_EE_wrong hl hc) rfl rfl (Nat.le_of_ble_eq_true rfl) (fun x σ1 h1 => ?_) (fun k σ1 h1 => ?_)
  · obtain ⟨g1, g2, rfl, g4, g5⟩ := h1
    refine ev_i2l d_LW_wrong_7 ?_
    refine es_last d_LW_wrong_8 rfl in_01 ?_
    refine ev_goto d_LW_wrong_9 ?_
    refine ev_iconst (v := 0) d_LW_wrong_15 rfl ?_
    refine es_iret d_LW_wrong_16 rfl ⟨Nat.zero_le _, Nat.zero_le _⟩ ⟨_, rfl, ?_⟩
    exact lR_ok g1 g2 rfl g4 g5
  · obtain ⟨⟨rfl, g1⟩ | ⟨rfl, g1, g2⟩, g4, g5⟩ := h1
    · skip
      refine ez_Th_catch (hp := 12) (i := 3) (pre := []) (suf := []) (x := (0, 9, 12, 13)) rfl (fun _ h => absurd h List.not_mem_nil) ⟨⟨by decide, by decide⟩, rfl, by decide⟩ t_272 w_cst0 (by decide) (Or.inl ⟨3, (d_LW_wrong_12).1, rfl, rfl⟩) ?_
      refine ev_iconst (v := 1) d_LW_wrong_13 rfl ?_
      refine es_iret d_LW_wrong_14 rfl ⟨Nat.le_refl _, Nat.le_refl _⟩ ⟨_, rfl, ?_⟩
      exact lR_no g1 g4 g5
    · exact absurd trivial g2
theorem c_LW_value (hl : l.stackTraces = false) {S : sp_S} (hc : ci S σ) {e x s r : Int32} : ez_Ct l G X_LW_value [.ref 0, .int e, .int x, .int s, .int r, .ref 64] (es_H σ) (es_Q (es_I fun z σ' => lR S (g_value S e x r) (em_right (sE S e)) (v_value S e x s r) (S) z σ' ∧ ∀ k, 46 ≤ k → k < 64 → σ' k = σ k) es_no) := by
  refine es_Ct_of (ls := [some (.ref 0), some (.int e), some (.int x), some (.int s), some (.int r), some (.ref 64), none]) ok_LW_value rfl (Nat.le_of_ble_eq_true rfl) rfl ?_
  refine ev_aload d_LW_value_0 rfl ?_
  refine ev_iconst (v := 0) d_LW_value_2 rfl ?_
  refine ev_aload_n (i := 0) d_LW_value_3 rfl rfl ?_
  refine ev_iload_n (i := 1) d_LW_value_4 rfl rfl ?_
  refine ev_iload_n (i := 2) d_LW_value_5 rfl rfl ?_
  refine ev_iload_n (i := 3) d_LW_value_6 rfl rfl ?_
  refine ev_iload d_LW_value_7 rfl ?_
  refine es_cH lk_LW_value_9 ⟨⟨by decide, by decide⟩, by decide, by decide⟩ ⟨rfl, rfl⟩ d_LW_value_9 rfl (c_EE_value hl hc) rfl rfl (Nat.le_of_ble_eq_true rfl) (fun x σ1 h1 => ?_) (fun k σ1 h1 => ?_)
  · obtain ⟨g1, g2, rfl, g4, g5⟩ := h1
    refine ev_i2l d_LW_value_12 ?_
    refine es_last d_LW_value_13 rfl in_01 ?_
    refine ev_goto d_LW_value_14 ?_
    refine ev_iconst (v := 0) d_LW_value_25 rfl ?_
    refine es_iret d_LW_value_26 rfl ⟨Nat.zero_le _, Nat.zero_le _⟩ ⟨_, rfl, ?_⟩
    exact lR_ok g1 g2 rfl g4 g5
  · obtain ⟨⟨rfl, g1⟩ | ⟨rfl, g1, g2⟩, g4, g5⟩ := h1
    · skip
      refine ez_Th_catch (hp := 17) (i := 6) (pre := []) (suf := [(0, 14, 21, 15)]) (x := (0, 14, 17, 13)) rfl (fun _ h => absurd h List.not_mem_nil) ⟨⟨by decide, by decide⟩, rfl, by decide⟩ t_272 w_cst0 (by decide) (Or.inr ⟨(d_LW_value_17).1, rfl⟩) ?_
      refine ev_iconst (v := 1) d_LW_value_19 rfl ?_
      refine es_iret d_LW_value_20 rfl ⟨Nat.le_refl _, Nat.le_refl _⟩ ⟨_, rfl, ?_⟩
      exact lR_no g1 g4 g5
    · skip
      refine ez_Th_catch (hp := 21) (i := 6) (pre := [(0, 14, 17, 13)]) (suf := []) (x := (0, 14, 21, 15)) rfl (fun z hz => by rw [List.mem_singleton] at hz; subst hz; exact ⟨by decide, rfl, t_272⟩) ⟨⟨by decide, by decide⟩, rfl, by decide⟩ t_273 w_cst1 (by decide) (Or.inr ⟨(d_LW_value_21).1, rfl⟩) ?_
      refine ev_iconst (v := 2) d_LW_value_23 rfl ?_
      refine es_iret d_LW_value_24 rfl ⟨Nat.le_refl _, Nat.le_refl _⟩ ⟨_, rfl, ?_⟩
      exact lR_st g1 g2 g4 g5
theorem c_LW_tick (hl : l.stackTraces = false) {S : sp_S} (hc : ci S σ) {e s r : Int32} : ez_Ct l G X_LW_tick [.ref 0, .int e, .int s, .int r, .ref 64] (es_H σ) (es_Q (es_I fun z σ' => lR S (g_tick S e r) (em_right (sE S e)) (v_tick S e s r) (S) z σ' ∧ ∀ k, 46 ≤ k → k < 64 → σ' k = σ k) es_no) := by
  refine es_Ct_of (ls := [some (.ref 0), some (.int e), some (.int s), some (.int r), some (.ref 64), none]) ok_LW_tick rfl (Nat.le_of_ble_eq_true rfl) rfl ?_
  refine ev_aload d_LW_tick_0 rfl ?_
  refine ev_iconst (v := 0) d_LW_tick_2 rfl ?_
  refine ev_aload_n (i := 0) d_LW_tick_3 rfl rfl ?_
  refine ev_iload_n (i := 1) d_LW_tick_4 rfl rfl ?_
  refine ev_iload_n (i := 2) d_LW_tick_5 rfl rfl ?_
  refine ev_iload_n (i := 3) d_LW_tick_6 rfl rfl ?_
  refine es_cH lk_LW_tick_7 ⟨⟨by decide, by decide⟩, by decide, by decide⟩ ⟨rfl, rfl⟩ d_LW_tick_7 rfl (c_EE_tick hl hc) rfl rfl (Nat.le_of_ble_eq_true rfl) (fun x σ1 h1 => ?_) (fun k σ1 h1 => ?_)
  · obtain ⟨g1, g2, rfl, g4, g5⟩ := h1
    refine ev_i2l d_LW_tick_10 ?_
    refine es_last d_LW_tick_11 rfl in_01 ?_
    refine ev_goto d_LW_tick_12 ?_
    refine ev_iconst (v := 0) d_LW_tick_23 rfl ?_
    refine es_iret d_LW_tick_24 rfl ⟨Nat.zero_le _, Nat.zero_le _⟩ ⟨_, rfl, ?_⟩
    exact lR_ok g1 g2 rfl g4 g5
  · obtain ⟨⟨rfl, g1⟩ | ⟨rfl, g1, g2⟩, g4, g5⟩ := h1
    · skip
      refine ez_Th_catch (hp := 15) (i := 5) (pre := []) (suf := [(0, 12, 19, 15)]) (x := (0, 12, 15, 13)) rfl (fun _ h => absurd h List.not_mem_nil) ⟨⟨by decide, by decide⟩, rfl, by decide⟩ t_272 w_cst0 (by decide) (Or.inr ⟨(d_LW_tick_15).1, rfl⟩) ?_
      refine ev_iconst (v := 1) d_LW_tick_17 rfl ?_
      refine es_iret d_LW_tick_18 rfl ⟨Nat.le_refl _, Nat.le_refl _⟩ ⟨_, rfl, ?_⟩
      exact lR_no g1 g4 g5
    · skip
      refine ez_Th_catch (hp := 19) (i := 5) (pre := [(0, 12, 15, 13)]) (suf := []) (x := (0, 12, 19, 15)) rfl (fun z hz => by rw [List.mem_singleton] at hz; subst hz; exact ⟨by decide, rfl, t_272⟩) ⟨⟨by decide, by decide⟩, rfl, by decide⟩ t_273 w_cst1 (by decide) (Or.inr ⟨(d_LW_tick_19).1, rfl⟩) ?_
      refine ev_iconst (v := 2) d_LW_tick_21 rfl ?_
      refine es_iret d_LW_tick_22 rfl ⟨Nat.le_refl _, Nat.le_refl _⟩ ⟨_, rfl, ?_⟩
      exact lR_st g1 g2 g4 g5
theorem c_LW_reached (hl : l.stackTraces = false) {S : sp_S} (hc : ci S σ) {e : Int32} : ez_Ct l G X_LW_reached [.ref 0, .int e, .ref 64] (es_H σ) (es_Q (es_I fun z σ' => lR S (g_ed e) (em_right (sE S e)) (v_reached S e) (S) z σ' ∧ ∀ k, 46 ≤ k → k < 64 → σ' k = σ k) es_no) := by
  refine es_Ct_of (ls := [some (.ref 0), some (.int e), some (.ref 64), none]) ok_LW_reached rfl (Nat.le_of_ble_eq_true rfl) rfl ?_
  refine ev_aload_n (i := 2) d_LW_reached_0 rfl rfl ?_
  refine ev_iconst (v := 0) d_LW_reached_1 rfl ?_
  refine ev_aload_n (i := 0) d_LW_reached_2 rfl rfl ?_
  refine ev_iload_n (i := 1) d_LW_reached_3 rfl rfl ?_
  refine es_cH lk_LW_reached_4 ⟨⟨by decide, by decide⟩, by decide, by decide⟩ ⟨rfl, rfl⟩ d_LW_reached_4 rfl (c_EE_reached hl hc) rfl rfl (Nat.le_of_ble_eq_true rfl) (fun x σ1 h1 => ?_) (fun k σ1 h1 => ?_)
  · obtain ⟨g1, g2, rfl, g4, g5⟩ := h1
    refine ev_i2l d_LW_reached_7 ?_
    refine es_last d_LW_reached_8 rfl in_01 ?_
    refine ev_goto d_LW_reached_9 ?_
    refine ev_iconst (v := 0) d_LW_reached_18 rfl ?_
    refine es_iret d_LW_reached_19 rfl ⟨Nat.zero_le _, Nat.zero_le _⟩ ⟨_, rfl, ?_⟩
    exact lR_ok g1 g2 rfl g4 g5
  · obtain ⟨⟨rfl, g1⟩ | ⟨rfl, g1, g2⟩, g4, g5⟩ := h1
    · skip
      refine ez_Th_catch (hp := 12) (i := 3) (pre := []) (suf := [(0, 9, 15, 15)]) (x := (0, 9, 12, 13)) rfl (fun _ h => absurd h List.not_mem_nil) ⟨⟨by decide, by decide⟩, rfl, by decide⟩ t_272 w_cst0 (by decide) (Or.inl ⟨3, (d_LW_reached_12).1, rfl, rfl⟩) ?_
      refine ev_iconst (v := 1) d_LW_reached_13 rfl ?_
      refine es_iret d_LW_reached_14 rfl ⟨Nat.le_refl _, Nat.le_refl _⟩ ⟨_, rfl, ?_⟩
      exact lR_no g1 g4 g5
    · skip
      refine ez_Th_catch (hp := 15) (i := 3) (pre := [(0, 9, 12, 13)]) (suf := []) (x := (0, 9, 15, 15)) rfl (fun z hz => by rw [List.mem_singleton] at hz; subst hz; exact ⟨by decide, rfl, t_272⟩) ⟨⟨by decide, by decide⟩, rfl, by decide⟩ t_273 w_cst1 (by decide) (Or.inl ⟨3, (d_LW_reached_15).1, rfl, rfl⟩) ?_
      refine ev_iconst (v := 2) d_LW_reached_16 rfl ?_
      refine es_iret d_LW_reached_17 rfl ⟨Nat.le_refl _, Nat.le_refl _⟩ ⟨_, rfl, ?_⟩
      exact lR_st g1 g2 g4 g5
theorem c_LW_state (hl : l.stackTraces = false) {S : sp_S} (hc : ci S σ) {e x : Int32} : ez_Ct l G X_LW_state [.ref 0, .int e, .int x, .ref 64] (es_H σ) (es_Q (es_I fun z σ' => lR S (g_state e x) (em_right (sE S e)) (v_state S e x) (S) z σ' ∧ ∀ k, 46 ≤ k → k < 64 → σ' k = σ k) es_no) := by
  refine es_Ct_of (ls := [some (.ref 0), some (.int e), some (.int x), some (.ref 64), none]) ok_LW_state rfl (Nat.le_of_ble_eq_true rfl) rfl ?_
  refine ev_aload_n (i := 3) d_LW_state_0 rfl rfl ?_
  refine ev_iconst (v := 0) d_LW_state_1 rfl ?_
  refine ev_aload_n (i := 0) d_LW_state_2 rfl rfl ?_
  refine ev_iload_n (i := 1) d_LW_state_3 rfl rfl ?_
  refine ev_iload_n (i := 2) d_LW_state_4 rfl rfl ?_
  refine es_cH lk_LW_state_5 ⟨⟨by decide, by decide⟩, by decide, by decide⟩ ⟨rfl, rfl⟩ d_LW_state_5 rfl (c_EE_state hl hc) rfl rfl (Nat.le_of_ble_eq_true rfl) (fun x σ1 h1 => ?_) (fun k σ1 h1 => ?_)
  · obtain ⟨g1, g2, rfl, g4, g5⟩ := h1
    refine ev_i2l d_LW_state_8 ?_
    refine es_last d_LW_state_9 rfl in_01 ?_
    refine ev_goto d_LW_state_10 ?_
    refine ev_iconst (v := 0) d_LW_state_21 rfl ?_
    refine es_iret d_LW_state_22 rfl ⟨Nat.zero_le _, Nat.zero_le _⟩ ⟨_, rfl, ?_⟩
    exact lR_ok g1 g2 rfl g4 g5
  · obtain ⟨⟨rfl, g1⟩ | ⟨rfl, g1, g2⟩, g4, g5⟩ := h1
    · skip
      refine ez_Th_catch (hp := 13) (i := 4) (pre := []) (suf := [(0, 10, 17, 15)]) (x := (0, 10, 13, 13)) rfl (fun _ h => absurd h List.not_mem_nil) ⟨⟨by decide, by decide⟩, rfl, by decide⟩ t_272 w_cst0 (by decide) (Or.inr ⟨(d_LW_state_13).1, rfl⟩) ?_
      refine ev_iconst (v := 1) d_LW_state_15 rfl ?_
      refine es_iret d_LW_state_16 rfl ⟨Nat.le_refl _, Nat.le_refl _⟩ ⟨_, rfl, ?_⟩
      exact lR_no g1 g4 g5
    · skip
      refine ez_Th_catch (hp := 17) (i := 4) (pre := [(0, 10, 13, 13)]) (suf := []) (x := (0, 10, 17, 15)) rfl (fun z hz => by rw [List.mem_singleton] at hz; subst hz; exact ⟨by decide, rfl, t_272⟩) ⟨⟨by decide, by decide⟩, rfl, by decide⟩ t_273 w_cst1 (by decide) (Or.inr ⟨(d_LW_state_17).1, rfl⟩) ?_
      refine ev_iconst (v := 2) d_LW_state_19 rfl ?_
      refine es_iret d_LW_state_20 rfl ⟨Nat.le_refl _, Nat.le_refl _⟩ ⟨_, rfl, ?_⟩
      exact lR_st g1 g2 g4 g5
theorem c_LW_least (hl : l.stackTraces = false) {S : sp_S} (hc : ci S σ) {e : Int32} : ez_Ct l G X_LW_least [.ref 0, .int e, .ref 64] (es_H σ) (es_Q (es_I fun z σ' => lR S (g_ed e) (em_right (sE S e)) (v_least S e) (S) z σ' ∧ ∀ k, 46 ≤ k → k < 64 → σ' k = σ k) es_no) := by
  refine es_Ct_of (ls := [some (.ref 0), some (.int e), some (.ref 64), none]) ok_LW_least rfl (Nat.le_of_ble_eq_true rfl) rfl ?_
  refine ev_aload_n (i := 2) d_LW_least_0 rfl rfl ?_
  refine ev_iconst (v := 0) d_LW_least_1 rfl ?_
  refine ev_aload_n (i := 0) d_LW_least_2 rfl rfl ?_
  refine ev_iload_n (i := 1) d_LW_least_3 rfl rfl ?_
  refine es_cH lk_LW_least_4 ⟨⟨by decide, by decide⟩, by decide, by decide⟩ ⟨rfl, rfl⟩ d_LW_least_4 rfl (c_EE_least hl hc) rfl rfl (Nat.le_of_ble_eq_true rfl) (fun x σ1 h1 => ?_) (fun k σ1 h1 => ?_)
  · obtain ⟨g1, g2, rfl, g4, g5⟩ := h1
    refine ev_i2l d_LW_least_7 ?_
    refine es_last d_LW_least_8 rfl in_01 ?_
    refine ev_goto d_LW_least_9 ?_
    refine ev_iconst (v := 0) d_LW_least_18 rfl ?_
    refine es_iret d_LW_least_19 rfl ⟨Nat.zero_le _, Nat.zero_le _⟩ ⟨_, rfl, ?_⟩
    exact lR_ok g1 g2 rfl g4 g5
  · obtain ⟨⟨rfl, g1⟩ | ⟨rfl, g1, g2⟩, g4, g5⟩ := h1
    · skip
      refine ez_Th_catch (hp := 12) (i := 3) (pre := []) (suf := [(0, 9, 15, 15)]) (x := (0, 9, 12, 13)) rfl (fun _ h => absurd h List.not_mem_nil) ⟨⟨by decide, by decide⟩, rfl, by decide⟩ t_272 w_cst0 (by decide) (Or.inl ⟨3, (d_LW_least_12).1, rfl, rfl⟩) ?_
      refine ev_iconst (v := 1) d_LW_least_13 rfl ?_
      refine es_iret d_LW_least_14 rfl ⟨Nat.le_refl _, Nat.le_refl _⟩ ⟨_, rfl, ?_⟩
      exact lR_no g1 g4 g5
    · skip
      refine ez_Th_catch (hp := 15) (i := 3) (pre := [(0, 9, 12, 13)]) (suf := []) (x := (0, 9, 15, 15)) rfl (fun z hz => by rw [List.mem_singleton] at hz; subst hz; exact ⟨by decide, rfl, t_272⟩) ⟨⟨by decide, by decide⟩, rfl, by decide⟩ t_273 w_cst1 (by decide) (Or.inl ⟨3, (d_LW_least_15).1, rfl, rfl⟩) ?_
      refine ev_iconst (v := 2) d_LW_least_16 rfl ?_
      refine es_iret d_LW_least_17 rfl ⟨Nat.le_refl _, Nat.le_refl _⟩ ⟨_, rfl, ?_⟩
      exact lR_st g1 g2 g4 g5
theorem c_LW_compare (hl : l.stackTraces = false) {S : sp_S} (hc : ci S σ) : ez_Ct l G X_LW_compare [.ref 0, .ref 64] (es_H σ) (es_Q (es_I fun z σ' => lR S (sBoth S) (True) (v_compare S) (S) z σ' ∧ ∀ k, 46 ≤ k → k < 64 → σ' k = σ k) es_no) := by
  refine es_Ct_of (ls := [some (.ref 0), some (.ref 64), none]) ok_LW_compare rfl (Nat.le_of_ble_eq_true rfl) rfl ?_
  refine ev_aload_n (i := 1) d_LW_compare_0 rfl rfl ?_
  refine ev_iconst (v := 0) d_LW_compare_1 rfl ?_
  refine ev_aload_n (i := 0) d_LW_compare_2 rfl rfl ?_
  refine es_cH lk_LW_compare_3 ⟨⟨by decide, by decide⟩, by decide, by decide⟩ ⟨rfl, rfl⟩ d_LW_compare_3 rfl (c_EE_compare hl hc) rfl rfl (Nat.le_of_ble_eq_true rfl) (fun x σ1 h1 => ?_) (fun k σ1 h1 => ?_)
  · obtain ⟨g1, rfl, g4, g5⟩ := h1
    refine ev_i2l d_LW_compare_6 ?_
    refine es_last d_LW_compare_7 rfl in_01 ?_
    refine ev_goto d_LW_compare_8 ?_
    refine ev_iconst (v := 0) d_LW_compare_14 rfl ?_
    refine es_iret d_LW_compare_15 rfl ⟨Nat.zero_le _, Nat.zero_le _⟩ ⟨_, rfl, ?_⟩
    exact lR_ok g1 trivial rfl g4 g5
  · obtain ⟨⟨rfl, g1⟩, g4, g5⟩ := h1
    refine ez_Th_catch (hp := 11) (i := 2) (pre := []) (suf := []) (x := (0, 8, 11, 15)) rfl (fun _ h => absurd h List.not_mem_nil) ⟨⟨by decide, by decide⟩, rfl, by decide⟩ t_273 w_cst1 (by decide) (Or.inl ⟨2, (d_LW_compare_11).1, rfl, rfl⟩) ?_
    refine ev_iconst (v := 1) d_LW_compare_12 rfl ?_
    refine es_iret d_LW_compare_13 rfl ⟨Nat.le_refl _, Nat.le_refl _⟩ ⟨_, rfl, ?_⟩
    exact lR_no g1 g4 g5
theorem c_LW_shown (hl : l.stackTraces = false) {S : sp_S} (hc : ci S σ) {x : Int32} : ez_Ct l G X_LW_shown [.ref 0, .int x, .ref 64] (es_H σ) (es_Q (es_I fun z σ' => lR S (g_shown S x) (sBoth S) (v_shown S x) (S) z σ' ∧ ∀ k, 46 ≤ k → k < 64 → σ' k = σ k) es_no) := by
  refine es_Ct_of (ls := [some (.ref 0), some (.int x), some (.ref 64), none]) ok_LW_shown rfl (Nat.le_of_ble_eq_true rfl) rfl ?_
  refine ev_aload_n (i := 2) d_LW_shown_0 rfl rfl ?_
  refine ev_iconst (v := 0) d_LW_shown_1 rfl ?_
  refine ev_aload_n (i := 0) d_LW_shown_2 rfl rfl ?_
  refine ev_iload_n (i := 1) d_LW_shown_3 rfl rfl ?_
  refine es_cH lk_LW_shown_4 ⟨⟨by decide, by decide⟩, by decide, by decide⟩ ⟨rfl, rfl⟩ d_LW_shown_4 rfl (c_EE_shown hl hc) rfl rfl (Nat.le_of_ble_eq_true rfl) (fun x σ1 h1 => ?_) (fun k σ1 h1 => ?_)
  · obtain ⟨g1, g2, rfl, g4, g5⟩ := h1
    refine ev_i2l d_LW_shown_7 ?_
    refine es_last d_LW_shown_8 rfl in_01 ?_
    refine ev_goto d_LW_shown_9 ?_
    refine ev_iconst (v := 0) d_LW_shown_18 rfl ?_
    refine es_iret d_LW_shown_19 rfl ⟨Nat.zero_le _, Nat.zero_le _⟩ ⟨_, rfl, ?_⟩
    exact lR_ok g1 g2 rfl g4 g5
  · obtain ⟨⟨rfl, g1⟩ | ⟨rfl, g1, g2⟩, g4, g5⟩ := h1
    · skip
      refine ez_Th_catch (hp := 12) (i := 3) (pre := []) (suf := [(0, 9, 15, 15)]) (x := (0, 9, 12, 13)) rfl (fun _ h => absurd h List.not_mem_nil) ⟨⟨by decide, by decide⟩, rfl, by decide⟩ t_272 w_cst0 (by decide) (Or.inl ⟨3, (d_LW_shown_12).1, rfl, rfl⟩) ?_
      refine ev_iconst (v := 1) d_LW_shown_13 rfl ?_
      refine es_iret d_LW_shown_14 rfl ⟨Nat.le_refl _, Nat.le_refl _⟩ ⟨_, rfl, ?_⟩
      exact lR_no g1 g4 g5
    · skip
      refine ez_Th_catch (hp := 15) (i := 3) (pre := [(0, 9, 12, 13)]) (suf := []) (x := (0, 9, 15, 15)) rfl (fun z hz => by rw [List.mem_singleton] at hz; subst hz; exact ⟨by decide, rfl, t_272⟩) ⟨⟨by decide, by decide⟩, rfl, by decide⟩ t_273 w_cst1 (by decide) (Or.inl ⟨3, (d_LW_shown_15).1, rfl, rfl⟩) ?_
      refine ev_iconst (v := 2) d_LW_shown_16 rfl ?_
      refine es_iret d_LW_shown_17 rfl ⟨Nat.le_refl _, Nat.le_refl _⟩ ⟨_, rfl, ?_⟩
      exact lR_st g1 g2 g4 g5
theorem c_LW_last (hl : l.stackTraces = false) {S : sp_S} (hc : ci S σ) {e : Int32} : ez_Ct l G X_LW_last [.ref 0, .int e, .ref 64] (es_H σ) (es_Q (es_I fun z σ' => lR S (g_ed e) (sBoth S) (v_last S e) (S) z σ' ∧ ∀ k, 46 ≤ k → k < 64 → σ' k = σ k) es_no) := by
  refine es_Ct_of (ls := [some (.ref 0), some (.int e), some (.ref 64), none]) ok_LW_last rfl (Nat.le_of_ble_eq_true rfl) rfl ?_
  refine ev_aload_n (i := 2) d_LW_last_0 rfl rfl ?_
  refine ev_iconst (v := 0) d_LW_last_1 rfl ?_
  refine ev_aload_n (i := 0) d_LW_last_2 rfl rfl ?_
  refine ev_iload_n (i := 1) d_LW_last_3 rfl rfl ?_
  refine es_cH lk_LW_last_4 ⟨⟨by decide, by decide⟩, by decide, by decide⟩ ⟨rfl, rfl⟩ d_LW_last_4 rfl (c_EE_last hl hc) rfl rfl (Nat.le_of_ble_eq_true rfl) (fun x σ1 h1 => ?_) (fun k σ1 h1 => ?_)
  · obtain ⟨g1, g2, rfl, g4, g5⟩ := h1
    refine ev_i2l d_LW_last_7 ?_
    refine es_last d_LW_last_8 rfl in_01 ?_
    refine ev_goto d_LW_last_9 ?_
    refine ev_iconst (v := 0) d_LW_last_18 rfl ?_
    refine es_iret d_LW_last_19 rfl ⟨Nat.zero_le _, Nat.zero_le _⟩ ⟨_, rfl, ?_⟩
    exact lR_ok g1 g2 rfl g4 g5
  · obtain ⟨⟨rfl, g1⟩ | ⟨rfl, g1, g2⟩, g4, g5⟩ := h1
    · skip
      refine ez_Th_catch (hp := 12) (i := 3) (pre := []) (suf := [(0, 9, 15, 15)]) (x := (0, 9, 12, 13)) rfl (fun _ h => absurd h List.not_mem_nil) ⟨⟨by decide, by decide⟩, rfl, by decide⟩ t_272 w_cst0 (by decide) (Or.inl ⟨3, (d_LW_last_12).1, rfl, rfl⟩) ?_
      refine ev_iconst (v := 1) d_LW_last_13 rfl ?_
      refine es_iret d_LW_last_14 rfl ⟨Nat.le_refl _, Nat.le_refl _⟩ ⟨_, rfl, ?_⟩
      exact lR_no g1 g4 g5
    · skip
      refine ez_Th_catch (hp := 15) (i := 3) (pre := [(0, 9, 12, 13)]) (suf := []) (x := (0, 9, 15, 15)) rfl (fun z hz => by rw [List.mem_singleton] at hz; subst hz; exact ⟨by decide, rfl, t_272⟩) ⟨⟨by decide, by decide⟩, rfl, by decide⟩ t_273 w_cst1 (by decide) (Or.inl ⟨3, (d_LW_last_15).1, rfl, rfl⟩) ?_
      refine ev_iconst (v := 2) d_LW_last_16 rfl ?_
      refine es_iret d_LW_last_17 rfl ⟨Nat.le_refl _, Nat.le_refl _⟩ ⟨_, rfl, ?_⟩
      exact lR_st g1 g2 g4 g5
theorem c_LW_pairs (hl : l.stackTraces = false) {S : sp_S} (hc : ci S σ) : ez_Ct l G X_LW_pairs [.ref 0, .ref 64] (es_H σ) (es_Q (es_I fun z σ' => lR S (sBoth S) (True) (v_pairs S) (S) z σ' ∧ ∀ k, 46 ≤ k → k < 64 → σ' k = σ k) es_no) := by
  refine es_Ct_of (ls := [some (.ref 0), some (.ref 64), none]) ok_LW_pairs rfl (Nat.le_of_ble_eq_true rfl) rfl ?_
  refine ev_aload_n (i := 1) d_LW_pairs_0 rfl rfl ?_
  refine ev_iconst (v := 0) d_LW_pairs_1 rfl ?_
  refine ev_aload_n (i := 0) d_LW_pairs_2 rfl rfl ?_
  refine es_cH lk_LW_pairs_3 ⟨⟨by decide, by decide⟩, by decide, by decide⟩ ⟨rfl, rfl⟩ d_LW_pairs_3 rfl (c_EE_pairs hl hc) rfl rfl (Nat.le_of_ble_eq_true rfl) (fun x σ1 h1 => ?_) (fun k σ1 h1 => ?_)
  · obtain ⟨g1, rfl, g4, g5⟩ := h1
    refine ev_i2l d_LW_pairs_6 ?_
    refine es_last d_LW_pairs_7 rfl in_01 ?_
    refine ev_goto d_LW_pairs_8 ?_
    refine ev_iconst (v := 0) d_LW_pairs_14 rfl ?_
    refine es_iret d_LW_pairs_15 rfl ⟨Nat.zero_le _, Nat.zero_le _⟩ ⟨_, rfl, ?_⟩
    exact lR_ok g1 trivial rfl g4 g5
  · obtain ⟨⟨rfl, g1⟩, g4, g5⟩ := h1
    refine ez_Th_catch (hp := 11) (i := 2) (pre := []) (suf := []) (x := (0, 8, 11, 15)) rfl (fun _ h => absurd h List.not_mem_nil) ⟨⟨by decide, by decide⟩, rfl, by decide⟩ t_273 w_cst1 (by decide) (Or.inl ⟨2, (d_LW_pairs_11).1, rfl, rfl⟩) ?_
    refine ev_iconst (v := 1) d_LW_pairs_12 rfl ?_
    refine es_iret d_LW_pairs_13 rfl ⟨Nat.le_refl _, Nat.le_refl _⟩ ⟨_, rfl, ?_⟩
    exact lR_no g1 g4 g5
theorem c_LW_same (hl : l.stackTraces = false) {S : sp_S} (hc : ci S σ) : ez_Ct l G X_LW_same [.ref 0, .ref 64] (es_H σ) (es_Q (es_I fun z σ' => lR S (sBoth S) (True) (v_same S) (S) z σ' ∧ ∀ k, 46 ≤ k → k < 64 → σ' k = σ k) es_no) := by
  refine es_Ct_of (ls := [some (.ref 0), some (.ref 64), none]) ok_LW_same rfl (Nat.le_of_ble_eq_true rfl) rfl ?_
  refine ev_aload_n (i := 1) d_LW_same_0 rfl rfl ?_
  refine ev_iconst (v := 0) d_LW_same_1 rfl ?_
  refine ev_aload_n (i := 0) d_LW_same_2 rfl rfl ?_
  refine es_cH lk_LW_same_3 ⟨⟨by decide, by decide⟩, by decide, by decide⟩ ⟨rfl, rfl⟩ d_LW_same_3 rfl (c_EE_same hl hc) rfl rfl (Nat.le_of_ble_eq_true rfl) (fun x σ1 h1 => ?_) (fun k σ1 h1 => ?_)
  · obtain ⟨g1, rfl, g4, g5⟩ := h1
    refine ev_if_eq d_LW_same_6 (fun h => ?_) (fun h => ?_)
    · refine ev_lconst (v := (0 : Int32).toInt64) d_LW_same_13 (by decide) ?_
      refine es_last d_LW_same_14 rfl in_01 ?_
      refine ev_goto d_LW_same_15 ?_
      refine ev_iconst (v := 0) d_LW_same_21 rfl ?_
      refine es_iret d_LW_same_22 rfl ⟨Nat.zero_le _, Nat.zero_le _⟩ ⟨_, rfl, ?_⟩
      exact lR_ok g1 trivial h.symm g4 g5
    · refine ev_lconst (v := (1 : Int32).toInt64) d_LW_same_9 (by decide) ?_
      refine ev_goto d_LW_same_10 ?_
      refine es_last d_LW_same_14 rfl in_01 ?_
      refine ev_goto d_LW_same_15 ?_
      refine ev_iconst (v := 0) d_LW_same_21 rfl ?_
      refine es_iret d_LW_same_22 rfl ⟨Nat.zero_le _, Nat.zero_le _⟩ ⟨_, rfl, ?_⟩
      exact lR_ok g1 trivial (eb_1 h) g4 g5
  · obtain ⟨⟨rfl, g1⟩, g4, g5⟩ := h1
    refine ez_Th_catch (hp := 18) (i := 2) (pre := []) (suf := []) (x := (0, 15, 18, 15)) rfl (fun _ h => absurd h List.not_mem_nil) ⟨⟨by decide, by decide⟩, rfl, by decide⟩ t_273 w_cst1 (by decide) (Or.inl ⟨2, (d_LW_same_18).1, rfl, rfl⟩) ?_
    refine ev_iconst (v := 1) d_LW_same_19 rfl ?_
    refine es_iret d_LW_same_20 rfl ⟨Nat.le_refl _, Nat.le_refl _⟩ ⟨_, rfl, ?_⟩
    exact lR_no g1 g4 g5
theorem c_LW_matched (hl : l.stackTraces = false) {S : sp_S} (hc : ci S σ) {x : Int32} : ez_Ct l G X_LW_matched [.ref 0, .int x, .ref 64] (es_H σ) (es_Q (es_I fun z σ' => lR S (isB (s0 S) x) (sBoth S) (v_matched S x) (S) z σ' ∧ ∀ k, 46 ≤ k → k < 64 → σ' k = σ k) es_no) := by
  refine es_Ct_of (ls := [some (.ref 0), some (.int x), some (.ref 64), none]) ok_LW_matched rfl (Nat.le_of_ble_eq_true rfl) rfl ?_
  refine ev_aload_n (i := 2) d_LW_matched_0 rfl rfl ?_
  refine ev_iconst (v := 0) d_LW_matched_1 rfl ?_
  refine ev_aload_n (i := 0) d_LW_matched_2 rfl rfl ?_
  refine ev_iload_n (i := 1) d_LW_matched_3 rfl rfl ?_
  refine es_cH lk_LW_matched_4 ⟨⟨by decide, by decide⟩, by decide, by decide⟩ ⟨rfl, rfl⟩ d_LW_matched_4 rfl (c_EE_matched hl hc) rfl rfl (Nat.le_of_ble_eq_true rfl) (fun x σ1 h1 => ?_) (fun k σ1 h1 => ?_)
  · obtain ⟨g1, g2, rfl, g4, g5⟩ := h1
    refine ev_i2l d_LW_matched_7 ?_
    refine es_last d_LW_matched_8 rfl in_01 ?_
    refine ev_goto d_LW_matched_9 ?_
    refine ev_iconst (v := 0) d_LW_matched_18 rfl ?_
    refine es_iret d_LW_matched_19 rfl ⟨Nat.zero_le _, Nat.zero_le _⟩ ⟨_, rfl, ?_⟩
    exact lR_ok g1 g2 rfl g4 g5
  · obtain ⟨⟨rfl, g1⟩ | ⟨rfl, g1, g2⟩, g4, g5⟩ := h1
    · skip
      refine ez_Th_catch (hp := 12) (i := 3) (pre := []) (suf := [(0, 9, 15, 15)]) (x := (0, 9, 12, 13)) rfl (fun _ h => absurd h List.not_mem_nil) ⟨⟨by decide, by decide⟩, rfl, by decide⟩ t_272 w_cst0 (by decide) (Or.inl ⟨3, (d_LW_matched_12).1, rfl, rfl⟩) ?_
      refine ev_iconst (v := 1) d_LW_matched_13 rfl ?_
      refine es_iret d_LW_matched_14 rfl ⟨Nat.le_refl _, Nat.le_refl _⟩ ⟨_, rfl, ?_⟩
      exact lR_no g1 g4 g5
    · skip
      refine ez_Th_catch (hp := 15) (i := 3) (pre := [(0, 9, 12, 13)]) (suf := []) (x := (0, 9, 15, 15)) rfl (fun z hz => by rw [List.mem_singleton] at hz; subst hz; exact ⟨by decide, rfl, t_272⟩) ⟨⟨by decide, by decide⟩, rfl, by decide⟩ t_273 w_cst1 (by decide) (Or.inl ⟨3, (d_LW_matched_15).1, rfl, rfl⟩) ?_
      refine ev_iconst (v := 2) d_LW_matched_16 rfl ?_
      refine es_iret d_LW_matched_17 rfl ⟨Nat.le_refl _, Nat.le_refl _⟩ ⟨_, rfl, ?_⟩
      exact lR_st g1 g2 g4 g5
theorem c_LW_idle (hl : l.stackTraces = false) {S : sp_S} (hc : ci S σ) {e x : Int32} : ez_Ct l G X_LW_idle [.ref 0, .int e, .int x, .ref 64] (es_H σ) (es_Q (es_I fun z σ' => lR S (g_state e x) (True) (v_idle S e x) (S) z σ' ∧ ∀ k, 46 ≤ k → k < 64 → σ' k = σ k) es_no) := by
  refine es_Ct_of (ls := [some (.ref 0), some (.int e), some (.int x), some (.ref 64), none]) ok_LW_idle rfl (Nat.le_of_ble_eq_true rfl) rfl ?_
  refine ev_aload_n (i := 3) d_LW_idle_0 rfl rfl ?_
  refine ev_iconst (v := 0) d_LW_idle_1 rfl ?_
  refine ev_aload_n (i := 0) d_LW_idle_2 rfl rfl ?_
  refine ev_iload_n (i := 1) d_LW_idle_3 rfl rfl ?_
  refine ev_iload_n (i := 2) d_LW_idle_4 rfl rfl ?_
  refine es_cH lk_LW_idle_5 ⟨⟨by decide, by decide⟩, by decide, by decide⟩ ⟨rfl, rfl⟩ d_LW_idle_5 rfl (c_EE_idle hl hc) rfl rfl (Nat.le_of_ble_eq_true rfl) (fun x σ1 h1 => ?_) (fun k σ1 h1 => ?_)
  · obtain ⟨g1, g2, rfl, g4, g5⟩ := h1
    refine ev_i2l d_LW_idle_8 ?_
    refine es_last d_LW_idle_9 rfl in_01 ?_
    refine ev_goto d_LW_idle_10 ?_
    refine ev_iconst (v := 0) d_LW_idle_17 rfl ?_
    refine es_iret d_LW_idle_18 rfl ⟨Nat.zero_le _, Nat.zero_le _⟩ ⟨_, rfl, ?_⟩
    exact lR_ok g1 g2 rfl g4 g5
  · obtain ⟨⟨rfl, g1⟩ | ⟨rfl, g1, g2⟩, g4, g5⟩ := h1
    · skip
      refine ez_Th_catch (hp := 13) (i := 4) (pre := []) (suf := []) (x := (0, 10, 13, 13)) rfl (fun _ h => absurd h List.not_mem_nil) ⟨⟨by decide, by decide⟩, rfl, by decide⟩ t_272 w_cst0 (by decide) (Or.inr ⟨(d_LW_idle_13).1, rfl⟩) ?_
      refine ev_iconst (v := 1) d_LW_idle_15 rfl ?_
      refine es_iret d_LW_idle_16 rfl ⟨Nat.le_refl _, Nat.le_refl _⟩ ⟨_, rfl, ?_⟩
      exact lR_no g1 g4 g5
    · exact absurd trivial g2
theorem c_LW_blocks (hl : l.stackTraces = false) {S : sp_S} (hc : ci S σ) {e : Int32} : ez_Ct l G X_LW_blocks [.ref 0, .int e, .ref 64] (es_H σ) (es_Q (es_I fun z σ' => lR S (g_ed e) (True) (nI (em_n (sE S e))) (S) z σ' ∧ ∀ k, 46 ≤ k → k < 64 → σ' k = σ k) es_no) := by
  refine es_Ct_of (ls := [some (.ref 0), some (.int e), some (.ref 64), none]) ok_LW_blocks rfl (Nat.le_of_ble_eq_true rfl) rfl ?_
  refine ev_aload_n (i := 2) d_LW_blocks_0 rfl rfl ?_
  refine ev_iconst (v := 0) d_LW_blocks_1 rfl ?_
  refine ev_aload_n (i := 0) d_LW_blocks_2 rfl rfl ?_
  refine ev_iload_n (i := 1) d_LW_blocks_3 rfl rfl ?_
  refine es_cH lk_LW_blocks_4 ⟨⟨by decide, by decide⟩, by decide, by decide⟩ ⟨rfl, rfl⟩ d_LW_blocks_4 rfl (c_EE_blocks hl hc) rfl rfl (Nat.le_of_ble_eq_true rfl) (fun x σ1 h1 => ?_) (fun k σ1 h1 => ?_)
  · obtain ⟨g1, g2, rfl, g4, g5⟩ := h1
    refine ev_i2l d_LW_blocks_7 ?_
    refine es_last d_LW_blocks_8 rfl in_01 ?_
    refine ev_goto d_LW_blocks_9 ?_
    refine ev_iconst (v := 0) d_LW_blocks_15 rfl ?_
    refine es_iret d_LW_blocks_16 rfl ⟨Nat.zero_le _, Nat.zero_le _⟩ ⟨_, rfl, ?_⟩
    exact lR_ok g1 g2 rfl g4 g5
  · obtain ⟨⟨rfl, g1⟩ | ⟨rfl, g1, g2⟩, g4, g5⟩ := h1
    · skip
      refine ez_Th_catch (hp := 12) (i := 3) (pre := []) (suf := []) (x := (0, 9, 12, 13)) rfl (fun _ h => absurd h List.not_mem_nil) ⟨⟨by decide, by decide⟩, rfl, by decide⟩ t_272 w_cst0 (by decide) (Or.inl ⟨3, (d_LW_blocks_12).1, rfl, rfl⟩) ?_
      refine ev_iconst (v := 1) d_LW_blocks_13 rfl ?_
      refine es_iret d_LW_blocks_14 rfl ⟨Nat.le_refl _, Nat.le_refl _⟩ ⟨_, rfl, ?_⟩
      exact lR_no g1 g4 g5
    · exact absurd trivial g2
theorem ev_slen {X : ez_X} {uc us pc pc' : Nat} {ls : List (Option Value)} {st : List Value} {h : ez_H} {Q : ez_R → Prop} (hd : ez_at X pc .arraylength 1 pc') (kk : ez_Ev l G X uc us pc' ls (.int (nI G.2.2.2.1) :: st) h Q) : ez_Ev l G X uc us pc ls (.ref 901 :: st) h Q := by
  obtain ⟨hd, rfl⟩ := hd
  intro p e s m args below meth c A n0 ad0 ad H locs cells slots L I
  have e9 : ad 901 = G.2.2.1 901 := I.2.2.1.2.2 901 (by omega)
  have e10 : ez_v ad (.ref 901) = .ref (G.2.2.1 901) := by simp only [ez_v, e9]
  rw [List.map_cons, e10]
  exact va_tlen I.1.1 I.1.2.1 I.2.2.1.1.2.2.2.2 I.2.2.2.2.2.2.2.1 rfl hd (kk p e s m args below meth c A n0 ad0 ad H locs cells slots L I)
/-- the first number of the script, or 0 -/
def lx (G : ez_G) : Int32 := if 0 < G.2.2.2.1 then G.2.2.2.2 0 else 0
theorem c_LW_cell {h : ez_H} (hG : G.2.2.2.1 ≤ 2561) : ez_Ct l G X_LW_cell [.ref 901, .int 0] h (fun r => r = (.inl (some (.int (lx G))), h)) := by
  refine es_Ct_of (ls := [some (.ref 901), some (.int 0)]) ok_LW_cell rfl (Nat.le_of_ble_eq_true rfl) rfl ?_
  refine ev_iload_n (i := 1) d_LW_cell_0 rfl rfl ?_
  refine ev_aload_n (i := 0) d_LW_cell_1 rfl rfl ?_
  refine ev_slen d_LW_cell_2 ?_
  refine ev_icmp_ge d_LW_cell_3 (fun h3 => ?_) (fun h3 => ?_)
  · refine ev_iconst (v := 0) d_LW_cell_12 rfl ?_
    refine ev_iret d_LW_cell_13 rfl ⟨Nat.zero_le _, Nat.zero_le _⟩ ?_
    rw [show (0 : Int32) = nI 0 from rfl, nI_leI (by omega) (by omega)] at h3
    rw [show lx G = 0 from if_neg (by omega)]
  · refine ev_aload_n (i := 0) d_LW_cell_6 rfl rfl ?_
    refine ev_iload_n (i := 1) d_LW_cell_7 rfl rfl ?_
    rw [show (0 : Int32) = nI 0 from rfl, nI_leI (by omega) (by omega)] at h3
    have hp : 0 < G.2.2.2.1 := by omega
    refine ev_sld d_LW_cell_8 (ez_vinN hp (by omega)) ?_
    refine ev_goto d_LW_cell_9 ?_
    refine ev_iret d_LW_cell_13 rfl ⟨Nat.zero_le _, Nat.zero_le _⟩ ?_
    rw [show lx G = G.2.2.2.2 0 from if_pos hp]
    rfl
end
