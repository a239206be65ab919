/-! ===== calls in the steady world, of methods that keep nothing that they make ===== -/
section EsCalls
variable {l : Launch} {G : ez_G} {X : ez_X} {pc pc' : Nat} {ls : List (Option Value)} {st : List Value} {σ : es_S} {R : Option Value → es_S → Prop} {T : Nat → es_S → Prop}
theorem es_Ct_of {n : Nat} {as : List Value} {h : ez_H} {Q : ez_R → Prop} (hok : ez_ok X n) (hcat : (as.map fun w => w.category) = List.replicate as.length 1) (hlen : as.length ≤ X.2.2.1) (hls : ez_ls X as = ls) (body : ez_Ev l G X 0 0 0 ls [] h Q) : ez_Ct l G X as h Q := by
  subst hls
  refine ez_Ct_of hok (fun w hw => ?_) hlen body
  have h1 : w.category ∈ as.map fun w => w.category := List.mem_map.mpr ⟨w, hw, rfl⟩
  rw [hcat] at h1
  exact (List.mem_replicate.mp h1).2
def es_lS (X Y : ez_X) (index n : Nat) : Prop := es_lkS X Y index n ∧ ez_fits X Y 0 0 ∧ ez_hs X = [] ∧ ez_mc Y = 0 ∧ ez_ms Y = 0
def es_lV (X Y : ez_X) (index n ci : Nat) : Prop := es_lkV X Y index n ci ∧ ez_fits X Y 0 0 ∧ ez_hs X = [] ∧ ez_mc Y = 0 ∧ ez_ms Y = 0
theorem es_zero {Y : ez_X} (h : ez_mc Y = 0 ∧ ez_ms Y = 0) : 0 + ez_mc Y ≤ ez_mc X ∧ 0 + ez_ms Y ≤ ez_ms X := by omega
theorem es_kr {Y : ez_X} (h : ez_mc Y = 0 ∧ ez_ms Y = 0) {hh : ez_H} {Q : ez_R → Prop} (k : ez_Ev l G X 0 0 pc' ls st hh Q) : ez_Ev l G X (0 + ez_mc Y) (0 + ez_ms Y) pc' ls st hh Q := by
  rw [h.1, h.2]
  exact k
theorem es_throw {k : Nat} (hl : l.stackTraces = false) (ht : ez_thr X pc k) (hX : ez_hs X = []) (hr : (6 ≤ ez_fr X ∧ 84 ≤ ez_lo X) ∧ 0 + 1 ≤ ez_rc X ∧ 0 + 6 ≤ ez_rs X) (hq : T k σ) : ez_Ev l G X 0 0 pc ls [] (es_H σ) (es_Q R T) :=
  ev_throw hl ht hX hr ⟨Nat.zero_le _, Nat.zero_le _⟩ rfl ⟨σ, rfl, hq⟩
theorem es_cSI {Y : ez_X} {n index : Nat} {as rest : List Value} {P : Int32 → es_S → Prop} {T' : Nat → es_S → Prop} (lk : es_lS X Y index n) (hd : ez_at X pc (.invokestatic index) 3 pc') (hC : ez_Ct l G Y as (es_H σ) (es_Q (es_I P) T')) (hs : st = as.reverse ++ rest) (hn : as.length = n) (hrest : (rest.map fun v => v.category).sum ≤ 8)
    (kr : ∀ x σ', P x σ' → ez_Ev l G X 0 0 pc' ls (.int x :: rest) (es_H σ') (es_Q R T)) (kt : ∀ k σ', T' k σ' → T k σ') : ez_Ev l G X 0 0 pc ls st (es_H σ) (es_Q R T) :=
  es_callsI lk.1 hd hC hs hn lk.2.1 hrest lk.2.2.1 (es_zero lk.2.2.2) (fun x σ' hp => es_kr lk.2.2.2 (kr x σ' hp)) kt
theorem es_cVI {Y : ez_X} {n index b ci : Nat} {rs : List (Option Nat)} {as rest : List Value} {P : Int32 → es_S → Prop} {T' : Nat → es_S → Prop} (lk : es_lV X Y index n ci) (hd : ez_at X pc (.invokevirtual index) 3 pc') (hb : es_SH[b]? = some (.inr (ci, rs))) (hC : ez_Ct l G Y (.ref b :: as) (es_H σ) (es_Q (es_I P) T')) (hs : st = as.reverse ++ .ref b :: rest) (hn : as.length = n) (hrest : (rest.map fun v => v.category).sum ≤ 8)
    (kr : ∀ x σ', P x σ' → ez_Ev l G X 0 0 pc' ls (.int x :: rest) (es_H σ') (es_Q R T)) (kt : ∀ k σ', T' k σ' → T k σ') : ez_Ev l G X 0 0 pc ls st (es_H σ) (es_Q R T) :=
  es_callvI lk.1 hd hb hC hs hn lk.2.1 hrest lk.2.2.1 (es_zero lk.2.2.2) (fun x σ' hp => es_kr lk.2.2.2 (kr x σ' hp)) kt
theorem es_cSV {Y : ez_X} {n index : Nat} {as rest : List Value} {P : es_S → Prop} {T' : Nat → es_S → Prop} (lk : es_lS X Y index n) (hd : ez_at X pc (.invokestatic index) 3 pc') (hC : ez_Ct l G Y as (es_H σ) (es_Q (es_V P) T')) (hs : st = as.reverse ++ rest) (hn : as.length = n) (hrest : (rest.map fun v => v.category).sum ≤ 8)
    (kr : ∀ σ', P σ' → ez_Ev l G X 0 0 pc' ls rest (es_H σ') (es_Q R T)) (kt : ∀ k σ', T' k σ' → T k σ') : ez_Ev l G X 0 0 pc ls st (es_H σ) (es_Q R T) :=
  es_callsV lk.1 hd hC hs hn lk.2.1 hrest lk.2.2.1 (es_zero lk.2.2.2) (fun σ' hp => es_kr lk.2.2.2 (kr σ' hp)) kt
theorem es_cVV {Y : ez_X} {n index b ci : Nat} {rs : List (Option Nat)} {as rest : List Value} {P : es_S → Prop} {T' : Nat → es_S → Prop} (lk : es_lV X Y index n ci) (hd : ez_at X pc (.invokevirtual index) 3 pc') (hb : es_SH[b]? = some (.inr (ci, rs))) (hC : ez_Ct l G Y (.ref b :: as) (es_H σ) (es_Q (es_V P) T')) (hs : st = as.reverse ++ .ref b :: rest) (hn : as.length = n) (hrest : (rest.map fun v => v.category).sum ≤ 8)
    (kr : ∀ σ', P σ' → ez_Ev l G X 0 0 pc' ls rest (es_H σ') (es_Q R T)) (kt : ∀ k σ', T' k σ' → T k σ') : ez_Ev l G X 0 0 pc ls st (es_H σ) (es_Q R T) :=
  es_callvV lk.1 hd hb hC hs hn lk.2.1 hrest lk.2.2.1 (es_zero lk.2.2.2) (fun σ' hp => es_kr lk.2.2.2 (kr σ' hp)) kt
theorem es_cSP {Y : ez_X} {n index : Nat} {as rest : List Value} {P : Nat → es_S → Prop} {T' : Nat → es_S → Prop} (lk : es_lS X Y index n) (hd : ez_at X pc (.invokestatic index) 3 pc') (hC : ez_Ct l G Y as (es_H σ) (es_Q (es_P P) T')) (hs : st = as.reverse ++ rest) (hn : as.length = n) (hrest : (rest.map fun v => v.category).sum ≤ 8)
    (kr : ∀ x σ', P x σ' → ez_Ev l G X 0 0 pc' ls (.ref x :: rest) (es_H σ') (es_Q R T)) (kt : ∀ k σ', T' k σ' → T k σ') : ez_Ev l G X 0 0 pc ls st (es_H σ) (es_Q R T) :=
  es_callsP lk.1 hd hC hs hn lk.2.1 hrest lk.2.2.1 (es_zero lk.2.2.2) (fun x σ' hp => es_kr lk.2.2.2 (kr x σ' hp)) kt
theorem es_cVP {Y : ez_X} {n index b ci : Nat} {rs : List (Option Nat)} {as rest : List Value} {P : Nat → es_S → Prop} {T' : Nat → es_S → Prop} (lk : es_lV X Y index n ci) (hd : ez_at X pc (.invokevirtual index) 3 pc') (hb : es_SH[b]? = some (.inr (ci, rs))) (hC : ez_Ct l G Y (.ref b :: as) (es_H σ) (es_Q (es_P P) T')) (hs : st = as.reverse ++ .ref b :: rest) (hn : as.length = n) (hrest : (rest.map fun v => v.category).sum ≤ 8)
    (kr : ∀ x σ', P x σ' → ez_Ev l G X 0 0 pc' ls (.ref x :: rest) (es_H σ') (es_Q R T)) (kt : ∀ k σ', T' k σ' → T k σ') : ez_Ev l G X 0 0 pc ls st (es_H σ) (es_Q R T) :=
  es_callvP lk.1 hd hb hC hs hn lk.2.1 hrest lk.2.2.1 (es_zero lk.2.2.2) (fun x σ' hp => es_kr lk.2.2.2 (kr x σ' hp)) kt
end EsCalls
theorem ls_EE_block_2 : es_lV X_EE_block X_EE_editionOf 68 1 0 := ⟨lk_EE_block_2, ⟨⟨by decide, by decide⟩, by decide, by decide⟩, rfl, rfl, rfl⟩
theorem ls_EE_block_10 : es_lS X_EE_block X_EE_isWithin 72 2 := ⟨lk_EE_block_10, ⟨⟨by decide, by decide⟩, by decide, by decide⟩, rfl, rfl, rfl⟩
theorem ls_EE_block_19 : es_lV X_EE_block X_EE_isNumberOfKind 76 2 0 := ⟨lk_EE_block_19, ⟨⟨by decide, by decide⟩, by decide, by decide⟩, rfl, rfl, rfl⟩
theorem ls_EE_block_38 : es_lV X_EE_block X_ED_hasRoomFor 86 1 1 := ⟨lk_EE_block_38, ⟨⟨by decide, by decide⟩, by decide, by decide⟩, rfl, rfl, rfl⟩
theorem ls_EE_block_55 : es_lV X_EE_block X_EE_forgetAnswers 95 0 0 := ⟨lk_EE_block_55, ⟨⟨by decide, by decide⟩, by decide, by decide⟩, rfl, rfl, rfl⟩
theorem ls_EE_block_62 : es_lV X_EE_block X_ED_addBlock 98 2 1 := ⟨lk_EE_block_62, ⟨⟨by decide, by decide⟩, by decide, by decide⟩, rfl, rfl, rfl⟩
theorem ls_EE_wire_2 : es_lV X_EE_wire X_EE_editionOf 68 1 0 := ⟨lk_EE_wire_2, ⟨⟨by decide, by decide⟩, by decide, by decide⟩, rfl, rfl, rfl⟩
theorem ls_EE_wire_10 : es_lV X_EE_wire X_ED_hasBlock 101 1 1 := ⟨lk_EE_wire_10, ⟨⟨by decide, by decide⟩, by decide, by decide⟩, rfl, rfl, rfl⟩
theorem ls_EE_wire_18 : es_lS X_EE_wire X_EE_isWithin 72 2 := ⟨lk_EE_wire_18, ⟨⟨by decide, by decide⟩, by decide, by decide⟩, rfl, rfl, rfl⟩
theorem ls_EE_wire_28 : es_lV X_EE_wire X_ED_hasBlockOrNone 104 1 1 := ⟨lk_EE_wire_28, ⟨⟨by decide, by decide⟩, by decide, by decide⟩, rfl, rfl, rfl⟩
theorem ls_EE_wire_45 : es_lV X_EE_wire X_EE_forgetAnswers 95 0 0 := ⟨lk_EE_wire_45, ⟨⟨by decide, by decide⟩, by decide, by decide⟩, rfl, rfl, rfl⟩
theorem ls_EE_wire_54 : es_lV X_EE_wire X_ED_rewire 109 3 1 := ⟨lk_EE_wire_54, ⟨⟨by decide, by decide⟩, by decide, by decide⟩, rfl, rfl, rfl⟩
theorem ls_EE_out_2 : es_lV X_EE_out X_EE_editionOf 68 1 0 := ⟨lk_EE_out_2, ⟨⟨by decide, by decide⟩, by decide, by decide⟩, rfl, rfl, rfl⟩
theorem ls_EE_out_9 : es_lS X_EE_out X_EE_isWithin 72 2 := ⟨lk_EE_out_9, ⟨⟨by decide, by decide⟩, by decide, by decide⟩, rfl, rfl, rfl⟩
theorem ls_EE_out_18 : es_lV X_EE_out X_ED_hasBlockOrNone 104 1 1 := ⟨lk_EE_out_18, ⟨⟨by decide, by decide⟩, by decide, by decide⟩, rfl, rfl, rfl⟩
theorem ls_EE_out_35 : es_lV X_EE_out X_EE_forgetAnswers 95 0 0 := ⟨lk_EE_out_35, ⟨⟨by decide, by decide⟩, by decide, by decide⟩, rfl, rfl, rfl⟩
theorem ls_EE_out_42 : es_lV X_EE_out X_ED_changeOutput 115 2 1 := ⟨lk_EE_out_42, ⟨⟨by decide, by decide⟩, by decide, by decide⟩, rfl, rfl, rfl⟩
theorem ls_EE_bar_2 : es_lV X_EE_bar X_EE_checkRow 118 1 0 := ⟨lk_EE_bar_2, ⟨⟨by decide, by decide⟩, by decide, by decide⟩, rfl, rfl, rfl⟩
theorem ls_EE_bar_6 : es_lV X_EE_bar X_EE_forgetAnswers 95 0 0 := ⟨lk_EE_bar_6, ⟨⟨by decide, by decide⟩, by decide, by decide⟩, rfl, rfl, rfl⟩
theorem ls_EE_wrong_2 : es_lV X_EE_wrong X_EE_editionOf 68 1 0 := ⟨lk_EE_wrong_2, ⟨⟨by decide, by decide⟩, by decide, by decide⟩, rfl, rfl, rfl⟩
theorem ls_EE_wrong_5 : es_lV X_EE_wrong X_ED_firstFault 122 0 1 := ⟨lk_EE_wrong_5, ⟨⟨by decide, by decide⟩, by decide, by decide⟩, rfl, rfl, rfl⟩
theorem ls_EE_value_2 : es_lV X_EE_value X_EE_editionOf 68 1 0 := ⟨lk_EE_value_2, ⟨⟨by decide, by decide⟩, by decide, by decide⟩, rfl, rfl, rfl⟩
theorem ls_EE_value_6 : es_lS X_EE_value X_EE_checkBlock 126 2 := ⟨lk_EE_value_6, ⟨⟨by decide, by decide⟩, by decide, by decide⟩, rfl, rfl, rfl⟩
theorem ls_EE_value_12 : es_lV X_EE_value X_EE_checkRow 118 1 0 := ⟨lk_EE_value_12, ⟨⟨by decide, by decide⟩, by decide, by decide⟩, rfl, rfl, rfl⟩
theorem ls_EE_value_17 : es_lV X_EE_value X_EE_behaviourOf 130 1 0 := ⟨lk_EE_value_17, ⟨⟨by decide, by decide⟩, by decide, by decide⟩, rfl, rfl, rfl⟩
theorem ls_EE_value_24 : es_lV X_EE_value X_BH_valueOf 134 3 2 := ⟨lk_EE_value_24, ⟨⟨by decide, by decide⟩, by decide, by decide⟩, rfl, rfl, rfl⟩
theorem ls_EE_tick_2 : es_lV X_EE_tick X_EE_checkRow 118 1 0 := ⟨lk_EE_tick_2, ⟨⟨by decide, by decide⟩, by decide, by decide⟩, rfl, rfl, rfl⟩
theorem ls_EE_tick_7 : es_lV X_EE_tick X_EE_behaviourOf 130 1 0 := ⟨lk_EE_tick_7, ⟨⟨by decide, by decide⟩, by decide, by decide⟩, rfl, rfl, rfl⟩
theorem ls_EE_tick_16 : es_lV X_EE_tick X_BH_outsOf 137 2 2 := ⟨lk_EE_tick_16, ⟨⟨by decide, by decide⟩, by decide, by decide⟩, rfl, rfl, rfl⟩
theorem ls_EE_tick_25 : es_lV X_EE_tick X_BH_stateAfter 140 2 2 := ⟨lk_EE_tick_25, ⟨⟨by decide, by decide⟩, by decide, by decide⟩, rfl, rfl, rfl⟩
theorem ls_EE_reached_2 : es_lV X_EE_reached X_EE_behaviourOf 130 1 0 := ⟨lk_EE_reached_2, ⟨⟨by decide, by decide⟩, by decide, by decide⟩, rfl, rfl, rfl⟩
theorem ls_EE_reached_5 : es_lV X_EE_reached X_BH_countReached 143 0 2 := ⟨lk_EE_reached_5, ⟨⟨by decide, by decide⟩, by decide, by decide⟩, rfl, rfl, rfl⟩
theorem ls_EE_state_16 : es_lV X_EE_state X_EE_behaviourOf 130 1 0 := ⟨lk_EE_state_16, ⟨⟨by decide, by decide⟩, by decide, by decide⟩, rfl, rfl, rfl⟩
theorem ls_EE_state_20 : es_lV X_EE_state X_BH_reachedAt 148 1 2 := ⟨lk_EE_state_20, ⟨⟨by decide, by decide⟩, by decide, by decide⟩, rfl, rfl, rfl⟩
theorem ls_EE_least_2 : es_lV X_EE_least X_EE_behaviourOf 130 1 0 := ⟨lk_EE_least_2, ⟨⟨by decide, by decide⟩, by decide, by decide⟩, rfl, rfl, rfl⟩
theorem ls_EE_least_6 : es_lV X_EE_least X_EE_openRows 152 0 0 := ⟨lk_EE_least_6, ⟨⟨by decide, by decide⟩, by decide, by decide⟩, rfl, rfl, rfl⟩
theorem ls_EE_least_9 : es_lV X_EE_least X_BH_countClasses 155 1 2 := ⟨lk_EE_least_9, ⟨⟨by decide, by decide⟩, by decide, by decide⟩, rfl, rfl, rfl⟩
theorem ls_EE_compare_1 : es_lV X_EE_compare X_EE_searchOfBoth 158 0 0 := ⟨lk_EE_compare_1, ⟨⟨by decide, by decide⟩, by decide, by decide⟩, rfl, rfl, rfl⟩
theorem ls_EE_compare_4 : es_lV X_EE_compare X_PS_countShown 162 0 3 := ⟨lk_EE_compare_4, ⟨⟨by decide, by decide⟩, by decide, by decide⟩, rfl, rfl, rfl⟩
theorem ls_EE_shown_15 : es_lV X_EE_shown X_EE_searchOfBoth 158 0 0 := ⟨lk_EE_shown_15, ⟨⟨by decide, by decide⟩, by decide, by decide⟩, rfl, rfl, rfl⟩
theorem ls_EE_shown_21 : es_lV X_EE_shown X_PS_countShown 162 0 3 := ⟨lk_EE_shown_21, ⟨⟨by decide, by decide⟩, by decide, by decide⟩, rfl, rfl, rfl⟩
theorem ls_EE_shown_39 : es_lV X_EE_shown X_PS_shownRow 169 1 3 := ⟨lk_EE_shown_39, ⟨⟨by decide, by decide⟩, by decide, by decide⟩, rfl, rfl, rfl⟩
theorem ls_EE_last_1 : es_lS X_EE_last X_EE_checkEdition 172 1 := ⟨lk_EE_last_1, ⟨⟨by decide, by decide⟩, by decide, by decide⟩, rfl, rfl, rfl⟩
theorem ls_EE_last_5 : es_lV X_EE_last X_EE_searchOfBoth 158 0 0 := ⟨lk_EE_last_5, ⟨⟨by decide, by decide⟩, by decide, by decide⟩, rfl, rfl, rfl⟩
theorem ls_EE_last_9 : es_lV X_EE_last X_PS_lastOuts 175 1 3 := ⟨lk_EE_last_9, ⟨⟨by decide, by decide⟩, by decide, by decide⟩, rfl, rfl, rfl⟩
theorem ls_EE_pairs_1 : es_lV X_EE_pairs X_EE_searchOfBoth 158 0 0 := ⟨lk_EE_pairs_1, ⟨⟨by decide, by decide⟩, by decide, by decide⟩, rfl, rfl, rfl⟩
theorem ls_EE_pairs_4 : es_lV X_EE_pairs X_PS_countPairs 178 0 3 := ⟨lk_EE_pairs_4, ⟨⟨by decide, by decide⟩, by decide, by decide⟩, rfl, rfl, rfl⟩
theorem ls_EE_same_1 : es_lV X_EE_same X_EE_checkBothRight 181 0 0 := ⟨lk_EE_same_1, ⟨⟨by decide, by decide⟩, by decide, by decide⟩, rfl, rfl, rfl⟩
theorem ls_EE_same_8 : es_lV X_EE_same X_MT_matchAll 184 0 4 := ⟨lk_EE_same_8, ⟨⟨by decide, by decide⟩, by decide, by decide⟩, rfl, rfl, rfl⟩
theorem ls_EE_matched_5 : es_lS X_EE_matched X_EE_checkBlock 126 2 := ⟨lk_EE_matched_5, ⟨⟨by decide, by decide⟩, by decide, by decide⟩, rfl, rfl, rfl⟩
theorem ls_EE_matched_9 : es_lV X_EE_matched X_EE_checkBothRight 181 0 0 := ⟨lk_EE_matched_9, ⟨⟨by decide, by decide⟩, by decide, by decide⟩, rfl, rfl, rfl⟩
theorem ls_EE_matched_16 : es_lV X_EE_matched X_MT_matchAll 184 0 4 := ⟨lk_EE_matched_16, ⟨⟨by decide, by decide⟩, by decide, by decide⟩, rfl, rfl, rfl⟩
theorem ls_EE_matched_27 : es_lV X_EE_matched X_MT_partnerOf 188 1 4 := ⟨lk_EE_matched_27, ⟨⟨by decide, by decide⟩, by decide, by decide⟩, rfl, rfl, rfl⟩
theorem ls_EE_idle_2 : es_lV X_EE_idle X_EE_editionOf 68 1 0 := ⟨lk_EE_idle_2, ⟨⟨by decide, by decide⟩, by decide, by decide⟩, rfl, rfl, rfl⟩
theorem ls_EE_idle_22 : es_lV X_EE_idle X_ED_idleAt 193 1 1 := ⟨lk_EE_idle_22, ⟨⟨by decide, by decide⟩, by decide, by decide⟩, rfl, rfl, rfl⟩
theorem ls_EE_blocks_2 : es_lV X_EE_blocks X_EE_editionOf 68 1 0 := ⟨lk_EE_blocks_2, ⟨⟨by decide, by decide⟩, by decide, by decide⟩, rfl, rfl, rfl⟩
theorem ls_EE_blocks_5 : es_lV X_EE_blocks X_ED_countBlocks 196 0 1 := ⟨lk_EE_blocks_5, ⟨⟨by decide, by decide⟩, by decide, by decide⟩, rfl, rfl, rfl⟩
theorem ls_EE_editionOf_1 : es_lS X_EE_editionOf X_EE_checkEdition 172 1 := ⟨lk_EE_editionOf_1, ⟨⟨by decide, by decide⟩, by decide, by decide⟩, rfl, rfl, rfl⟩
theorem ls_EE_behaviourOf_2 : es_lV X_EE_behaviourOf X_EE_editionOf 68 1 0 := ⟨lk_EE_behaviourOf_2, ⟨⟨by decide, by decide⟩, by decide, by decide⟩, rfl, rfl, rfl⟩
theorem ls_EE_behaviourOf_5 : es_lV X_EE_behaviourOf X_ED_firstFault 122 0 1 := ⟨lk_EE_behaviourOf_5, ⟨⟨by decide, by decide⟩, by decide, by decide⟩, rfl, rfl, rfl⟩
theorem ls_EE_behaviourOf_44 : es_lV X_EE_behaviourOf X_EE_openRows 152 0 0 := ⟨lk_EE_behaviourOf_44, ⟨⟨by decide, by decide⟩, by decide, by decide⟩, rfl, rfl, rfl⟩
theorem ls_EE_behaviourOf_47 : es_lV X_EE_behaviourOf X_BH_learn 201 2 2 := ⟨lk_EE_behaviourOf_47, ⟨⟨by decide, by decide⟩, by decide, by decide⟩, rfl, rfl, rfl⟩
theorem ls_EE_searchOfBoth_1 : es_lV X_EE_searchOfBoth X_EE_checkBothRight 181 0 0 := ⟨lk_EE_searchOfBoth_1, ⟨⟨by decide, by decide⟩, by decide, by decide⟩, rfl, rfl, rfl⟩
theorem ls_EE_searchOfBoth_13 : es_lV X_EE_searchOfBoth X_EE_openRows 152 0 0 := ⟨lk_EE_searchOfBoth_13, ⟨⟨by decide, by decide⟩, by decide, by decide⟩, rfl, rfl, rfl⟩
theorem ls_EE_searchOfBoth_16 : es_lV X_EE_searchOfBoth X_BH_learn 201 2 2 := ⟨lk_EE_searchOfBoth_16, ⟨⟨by decide, by decide⟩, by decide, by decide⟩, rfl, rfl, rfl⟩
theorem ls_EE_searchOfBoth_28 : es_lV X_EE_searchOfBoth X_EE_openRows 152 0 0 := ⟨lk_EE_searchOfBoth_28, ⟨⟨by decide, by decide⟩, by decide, by decide⟩, rfl, rfl, rfl⟩
theorem ls_EE_searchOfBoth_31 : es_lV X_EE_searchOfBoth X_BH_learn 201 2 2 := ⟨lk_EE_searchOfBoth_31, ⟨⟨by decide, by decide⟩, by decide, by decide⟩, rfl, rfl, rfl⟩
theorem ls_EE_searchOfBoth_39 : es_lV X_EE_searchOfBoth X_EE_openRows 152 0 0 := ⟨lk_EE_searchOfBoth_39, ⟨⟨by decide, by decide⟩, by decide, by decide⟩, rfl, rfl, rfl⟩
theorem ls_EE_searchOfBoth_42 : es_lV X_EE_searchOfBoth X_PS_learn 205 1 3 := ⟨lk_EE_searchOfBoth_42, ⟨⟨by decide, by decide⟩, by decide, by decide⟩, rfl, rfl, rfl⟩
theorem ls_EE_forgetAnswers_4 : es_lV X_EE_forgetAnswers X_BH_forget 207 0 2 := ⟨lk_EE_forgetAnswers_4, ⟨⟨by decide, by decide⟩, by decide, by decide⟩, rfl, rfl, rfl⟩
theorem ls_EE_forgetAnswers_11 : es_lV X_EE_forgetAnswers X_BH_forget 207 0 2 := ⟨lk_EE_forgetAnswers_11, ⟨⟨by decide, by decide⟩, by decide, by decide⟩, rfl, rfl, rfl⟩
theorem ls_EE_forgetAnswers_18 : es_lV X_EE_forgetAnswers X_PS_forget 210 0 3 := ⟨lk_EE_forgetAnswers_18, ⟨⟨by decide, by decide⟩, by decide, by decide⟩, rfl, rfl, rfl⟩
theorem ls_EE_isNumberOfKind_33 : es_lS X_EE_isNumberOfKind X_EE_isWithin 72 2 := ⟨lk_EE_isNumberOfKind_33, ⟨⟨by decide, by decide⟩, by decide, by decide⟩, rfl, rfl, rfl⟩
theorem ls_EE_isNumberOfKind_39 : es_lS X_EE_isNumberOfKind X_EE_isWithin 72 2 := ⟨lk_EE_isNumberOfKind_39, ⟨⟨by decide, by decide⟩, by decide, by decide⟩, rfl, rfl, rfl⟩
theorem ls_EE_checkRow_5 : es_lS X_EE_checkRow X_EE_isWithin 72 2 := ⟨lk_EE_checkRow_5, ⟨⟨by decide, by decide⟩, by decide, by decide⟩, rfl, rfl, rfl⟩
theorem ls_EE_checkBothRight_4 : es_lV X_EE_checkBothRight X_ED_firstFault 122 0 1 := ⟨lk_EE_checkBothRight_4, ⟨⟨by decide, by decide⟩, by decide, by decide⟩, rfl, rfl, rfl⟩
theorem ls_EE_checkBothRight_15 : es_lV X_EE_checkBothRight X_ED_firstFault 122 0 1 := ⟨lk_EE_checkBothRight_15, ⟨⟨by decide, by decide⟩, by decide, by decide⟩, rfl, rfl, rfl⟩
theorem ls_EE_checkEdition_2 : es_lS X_EE_checkEdition X_EE_isWithin 72 2 := ⟨lk_EE_checkEdition_2, ⟨⟨by decide, by decide⟩, by decide, by decide⟩, rfl, rfl, rfl⟩
theorem ls_EE_checkBlock_2 : es_lV X_EE_checkBlock X_ED_hasBlock 101 1 1 := ⟨lk_EE_checkBlock_2, ⟨⟨by decide, by decide⟩, by decide, by decide⟩, rfl, rfl, rfl⟩
theorem ls_MD_isBlock_3 : es_lS X_MD_isBlock X_MD_in 69 3 := ⟨lk_MD_isBlock_3, ⟨⟨by decide, by decide⟩, by decide, by decide⟩, rfl, rfl, rfl⟩
theorem ls_MD_isBlock_19 : es_lS X_MD_isBlock X_MD_in 69 3 := ⟨lk_MD_isBlock_19, ⟨⟨by decide, by decide⟩, by decide, by decide⟩, rfl, rfl, rfl⟩
theorem ls_MD_isRow_10 : es_lS X_MD_isRow X_MD_in 69 3 := ⟨lk_MD_isRow_10, ⟨⟨by decide, by decide⟩, by decide, by decide⟩, rfl, rfl, rfl⟩
theorem ls_MD_block_3 : es_lS X_MD_block X_MD_in 69 3 := ⟨lk_MD_block_3, ⟨⟨by decide, by decide⟩, by decide, by decide⟩, rfl, rfl, rfl⟩
theorem ls_MD_block_13 : es_lS X_MD_block X_MD_in 69 3 := ⟨lk_MD_block_13, ⟨⟨by decide, by decide⟩, by decide, by decide⟩, rfl, rfl, rfl⟩
theorem ls_MD_block_31 : es_lS X_MD_block X_MD_in 69 3 := ⟨lk_MD_block_31, ⟨⟨by decide, by decide⟩, by decide, by decide⟩, rfl, rfl, rfl⟩
theorem ls_MD_block_45 : es_lS X_MD_block X_MD_in 69 3 := ⟨lk_MD_block_45, ⟨⟨by decide, by decide⟩, by decide, by decide⟩, rfl, rfl, rfl⟩
theorem ls_MD_block_85 : es_lV X_MD_block X_MD_delays 73 1 5 := ⟨lk_MD_block_85, ⟨⟨by decide, by decide⟩, by decide, by decide⟩, rfl, rfl, rfl⟩
theorem ls_MD_block_97 : es_lV X_MD_block X_MD_goes 77 2 5 := ⟨lk_MD_block_97, ⟨⟨by decide, by decide⟩, by decide, by decide⟩, rfl, rfl, rfl⟩
theorem ls_MD_wire_4 : es_lV X_MD_wire X_MD_isBlock 81 2 5 := ⟨lk_MD_wire_4, ⟨⟨by decide, by decide⟩, by decide, by decide⟩, rfl, rfl, rfl⟩
theorem ls_MD_wire_13 : es_lS X_MD_wire X_MD_in 69 3 := ⟨lk_MD_wire_13, ⟨⟨by decide, by decide⟩, by decide, by decide⟩, rfl, rfl, rfl⟩
theorem ls_MD_wire_29 : es_lV X_MD_wire X_MD_isBlock 81 2 5 := ⟨lk_MD_wire_29, ⟨⟨by decide, by decide⟩, by decide, by decide⟩, rfl, rfl, rfl⟩
theorem ls_MD_wire_41 : es_lV X_MD_wire X_MD_goes 77 2 5 := ⟨lk_MD_wire_41, ⟨⟨by decide, by decide⟩, by decide, by decide⟩, rfl, rfl, rfl⟩
theorem ls_MD_wire_61 : es_lV X_MD_wire X_MD_input 85 3 5 := ⟨lk_MD_wire_61, ⟨⟨by decide, by decide⟩, by decide, by decide⟩, rfl, rfl, rfl⟩
theorem ls_MD_out_4 : es_lS X_MD_out X_MD_in 69 3 := ⟨lk_MD_out_4, ⟨⟨by decide, by decide⟩, by decide, by decide⟩, rfl, rfl, rfl⟩
theorem ls_MD_out_13 : es_lS X_MD_out X_MD_in 69 3 := ⟨lk_MD_out_13, ⟨⟨by decide, by decide⟩, by decide, by decide⟩, rfl, rfl, rfl⟩
theorem ls_MD_out_27 : es_lV X_MD_out X_MD_isBlock 81 2 5 := ⟨lk_MD_out_27, ⟨⟨by decide, by decide⟩, by decide, by decide⟩, rfl, rfl, rfl⟩
theorem ls_MD_out_39 : es_lV X_MD_out X_MD_goes 77 2 5 := ⟨lk_MD_out_39, ⟨⟨by decide, by decide⟩, by decide, by decide⟩, rfl, rfl, rfl⟩
theorem ls_MD_bar_3 : es_lV X_MD_bar X_MD_isRow 89 1 5 := ⟨lk_MD_bar_3, ⟨⟨by decide, by decide⟩, by decide, by decide⟩, rfl, rfl, rfl⟩
theorem ls_MD_bar_7 : es_lV X_MD_bar X_MD_goes 77 2 5 := ⟨lk_MD_bar_7, ⟨⟨by decide, by decide⟩, by decide, by decide⟩, rfl, rfl, rfl⟩
theorem ls_MD_isRound_24 : es_lV X_MD_isRound X_MD_mark 93 2 5 := ⟨lk_MD_isRound_24, ⟨⟨by decide, by decide⟩, by decide, by decide⟩, rfl, rfl, rfl⟩
theorem ls_MD_isRound_73 : es_lV X_MD_isRound X_MD_mark 93 2 5 := ⟨lk_MD_isRound_73, ⟨⟨by decide, by decide⟩, by decide, by decide⟩, rfl, rfl, rfl⟩
theorem ls_MD_mark_21 : es_lS X_MD_mark X_MD_needs 96 1 := ⟨lk_MD_mark_21, ⟨⟨by decide, by decide⟩, by decide, by decide⟩, rfl, rfl, rfl⟩
theorem ls_MD_mark_38 : es_lV X_MD_mark X_MD_input 85 3 5 := ⟨lk_MD_mark_38, ⟨⟨by decide, by decide⟩, by decide, by decide⟩, rfl, rfl, rfl⟩
theorem ls_MD_fault_26 : es_lS X_MD_fault X_MD_needs 96 1 := ⟨lk_MD_fault_26, ⟨⟨by decide, by decide⟩, by decide, by decide⟩, rfl, rfl, rfl⟩
theorem ls_MD_fault_36 : es_lV X_MD_fault X_MD_input 85 3 5 := ⟨lk_MD_fault_36, ⟨⟨by decide, by decide⟩, by decide, by decide⟩, rfl, rfl, rfl⟩
theorem ls_MD_fault_72 : es_lV X_MD_fault X_MD_isRound 99 2 5 := ⟨lk_MD_fault_72, ⟨⟨by decide, by decide⟩, by decide, by decide⟩, rfl, rfl, rfl⟩
theorem ls_MD_wrong_4 : es_lS X_MD_wrong X_MD_in 69 3 := ⟨lk_MD_wrong_4, ⟨⟨by decide, by decide⟩, by decide, by decide⟩, rfl, rfl, rfl⟩
theorem ls_MD_wrong_8 : es_lV X_MD_wrong X_MD_goes 77 2 5 := ⟨lk_MD_wrong_8, ⟨⟨by decide, by decide⟩, by decide, by decide⟩, rfl, rfl, rfl⟩
theorem ls_MD_wrong_16 : es_lV X_MD_wrong X_MD_fault 102 1 5 := ⟨lk_MD_wrong_16, ⟨⟨by decide, by decide⟩, by decide, by decide⟩, rfl, rfl, rfl⟩
theorem ls_MD_isRight_3 : es_lS X_MD_isRight X_MD_in 69 3 := ⟨lk_MD_isRight_3, ⟨⟨by decide, by decide⟩, by decide, by decide⟩, rfl, rfl, rfl⟩
theorem ls_MD_isRight_11 : es_lV X_MD_isRight X_MD_fault 102 1 5 := ⟨lk_MD_isRight_11, ⟨⟨by decide, by decide⟩, by decide, by decide⟩, rfl, rfl, rfl⟩
theorem ls_MD_areRight_2 : es_lV X_MD_areRight X_MD_isRight 105 1 5 := ⟨lk_MD_areRight_2, ⟨⟨by decide, by decide⟩, by decide, by decide⟩, rfl, rfl, rfl⟩
theorem ls_MD_areRight_10 : es_lV X_MD_areRight X_MD_isRight 105 1 5 := ⟨lk_MD_areRight_10, ⟨⟨by decide, by decide⟩, by decide, by decide⟩, rfl, rfl, rfl⟩
theorem ls_MD_settle_159 : es_lV X_MD_settle X_MD_reckon 108 2 5 := ⟨lk_MD_settle_159, ⟨⟨by decide, by decide⟩, by decide, by decide⟩, rfl, rfl, rfl⟩
theorem ls_MD_reckon_20 : es_lV X_MD_reckon X_MD_input 85 3 5 := ⟨lk_MD_reckon_20, ⟨⟨by decide, by decide⟩, by decide, by decide⟩, rfl, rfl, rfl⟩
theorem ls_MD_reckon_43 : es_lV X_MD_reckon X_MD_input 85 3 5 := ⟨lk_MD_reckon_43, ⟨⟨by decide, by decide⟩, by decide, by decide⟩, rfl, rfl, rfl⟩
theorem ls_MD_answer_4 : es_lV X_MD_answer X_MD_settle 112 3 5 := ⟨lk_MD_answer_4, ⟨⟨by decide, by decide⟩, by decide, by decide⟩, rfl, rfl, rfl⟩
theorem ls_MD_answer_109 : es_lV X_MD_answer X_MD_input 85 3 5 := ⟨lk_MD_answer_109, ⟨⟨by decide, by decide⟩, by decide, by decide⟩, rfl, rfl, rfl⟩
theorem ls_MD_value_4 : es_lV X_MD_value X_MD_isBlock 81 2 5 := ⟨lk_MD_value_4, ⟨⟨by decide, by decide⟩, by decide, by decide⟩, rfl, rfl, rfl⟩
theorem ls_MD_value_13 : es_lV X_MD_value X_MD_isRow 89 1 5 := ⟨lk_MD_value_13, ⟨⟨by decide, by decide⟩, by decide, by decide⟩, rfl, rfl, rfl⟩
theorem ls_MD_value_26 : es_lV X_MD_value X_MD_isRight 105 1 5 := ⟨lk_MD_value_26, ⟨⟨by decide, by decide⟩, by decide, by decide⟩, rfl, rfl, rfl⟩
theorem ls_MD_value_29 : es_lV X_MD_value X_MD_goes 77 2 5 := ⟨lk_MD_value_29, ⟨⟨by decide, by decide⟩, by decide, by decide⟩, rfl, rfl, rfl⟩
theorem ls_MD_value_42 : es_lV X_MD_value X_MD_settle 112 3 5 := ⟨lk_MD_value_42, ⟨⟨by decide, by decide⟩, by decide, by decide⟩, rfl, rfl, rfl⟩
theorem ls_MD_tick_4 : es_lS X_MD_tick X_MD_in 69 3 := ⟨lk_MD_tick_4, ⟨⟨by decide, by decide⟩, by decide, by decide⟩, rfl, rfl, rfl⟩
theorem ls_MD_tick_12 : es_lV X_MD_tick X_MD_isRow 89 1 5 := ⟨lk_MD_tick_12, ⟨⟨by decide, by decide⟩, by decide, by decide⟩, rfl, rfl, rfl⟩
theorem ls_MD_tick_25 : es_lV X_MD_tick X_MD_isRight 105 1 5 := ⟨lk_MD_tick_25, ⟨⟨by decide, by decide⟩, by decide, by decide⟩, rfl, rfl, rfl⟩
theorem ls_MD_tick_28 : es_lV X_MD_tick X_MD_goes 77 2 5 := ⟨lk_MD_tick_28, ⟨⟨by decide, by decide⟩, by decide, by decide⟩, rfl, rfl, rfl⟩
theorem ls_MD_tick_38 : es_lV X_MD_tick X_MD_answer 116 3 5 := ⟨lk_MD_tick_38, ⟨⟨by decide, by decide⟩, by decide, by decide⟩, rfl, rfl, rfl⟩
theorem ls_MD_explore_3 : es_lV X_MD_explore X_MD_delays 73 1 5 := ⟨lk_MD_explore_3, ⟨⟨by decide, by decide⟩, by decide, by decide⟩, rfl, rfl, rfl⟩
theorem ls_MD_explore_76 : es_lV X_MD_explore X_MD_answer 116 3 5 := ⟨lk_MD_explore_76, ⟨⟨by decide, by decide⟩, by decide, by decide⟩, rfl, rfl, rfl⟩
theorem ls_MD_reached_4 : es_lS X_MD_reached X_MD_in 69 3 := ⟨lk_MD_reached_4, ⟨⟨by decide, by decide⟩, by decide, by decide⟩, rfl, rfl, rfl⟩
theorem ls_MD_reached_9 : es_lV X_MD_reached X_MD_isRight 105 1 5 := ⟨lk_MD_reached_9, ⟨⟨by decide, by decide⟩, by decide, by decide⟩, rfl, rfl, rfl⟩
theorem ls_MD_reached_12 : es_lV X_MD_reached X_MD_goes 77 2 5 := ⟨lk_MD_reached_12, ⟨⟨by decide, by decide⟩, by decide, by decide⟩, rfl, rfl, rfl⟩
theorem ls_MD_reached_22 : es_lV X_MD_reached X_MD_explore 119 1 5 := ⟨lk_MD_reached_22, ⟨⟨by decide, by decide⟩, by decide, by decide⟩, rfl, rfl, rfl⟩
theorem ls_MD_reached_27 : es_lV X_MD_reached X_MD_reachedCount 123 1 5 := ⟨lk_MD_reached_27, ⟨⟨by decide, by decide⟩, by decide, by decide⟩, rfl, rfl, rfl⟩
theorem ls_MD_state_4 : es_lS X_MD_state X_MD_in 69 3 := ⟨lk_MD_state_4, ⟨⟨by decide, by decide⟩, by decide, by decide⟩, rfl, rfl, rfl⟩
theorem ls_MD_state_21 : es_lV X_MD_state X_MD_isRight 105 1 5 := ⟨lk_MD_state_21, ⟨⟨by decide, by decide⟩, by decide, by decide⟩, rfl, rfl, rfl⟩
theorem ls_MD_state_24 : es_lV X_MD_state X_MD_goes 77 2 5 := ⟨lk_MD_state_24, ⟨⟨by decide, by decide⟩, by decide, by decide⟩, rfl, rfl, rfl⟩
theorem ls_MD_state_34 : es_lV X_MD_state X_MD_explore 119 1 5 := ⟨lk_MD_state_34, ⟨⟨by decide, by decide⟩, by decide, by decide⟩, rfl, rfl, rfl⟩
theorem ls_MD_least_4 : es_lS X_MD_least X_MD_in 69 3 := ⟨lk_MD_least_4, ⟨⟨by decide, by decide⟩, by decide, by decide⟩, rfl, rfl, rfl⟩
theorem ls_MD_least_9 : es_lV X_MD_least X_MD_isRight 105 1 5 := ⟨lk_MD_least_9, ⟨⟨by decide, by decide⟩, by decide, by decide⟩, rfl, rfl, rfl⟩
theorem ls_MD_least_12 : es_lV X_MD_least X_MD_goes 77 2 5 := ⟨lk_MD_least_12, ⟨⟨by decide, by decide⟩, by decide, by decide⟩, rfl, rfl, rfl⟩
theorem ls_MD_least_22 : es_lV X_MD_least X_MD_explore 119 1 5 := ⟨lk_MD_least_22, ⟨⟨by decide, by decide⟩, by decide, by decide⟩, rfl, rfl, rfl⟩
theorem ls_MD_least_50 : es_lV X_MD_least X_MD_delays 73 1 5 := ⟨lk_MD_least_50, ⟨⟨by decide, by decide⟩, by decide, by decide⟩, rfl, rfl, rfl⟩
theorem ls_MD_least_103 : es_lV X_MD_least X_MD_tells 126 3 5 := ⟨lk_MD_least_103, ⟨⟨by decide, by decide⟩, by decide, by decide⟩, rfl, rfl, rfl⟩
theorem ls_MD_goOver_2 : es_lV X_MD_goOver X_MD_explore 119 1 5 := ⟨lk_MD_goOver_2, ⟨⟨by decide, by decide⟩, by decide, by decide⟩, rfl, rfl, rfl⟩
theorem ls_MD_goOver_7 : es_lV X_MD_goOver X_MD_explore 119 1 5 := ⟨lk_MD_goOver_7, ⟨⟨by decide, by decide⟩, by decide, by decide⟩, rfl, rfl, rfl⟩
theorem ls_MD_goOver_46 : es_lV X_MD_goOver X_MD_meet 135 3 5 := ⟨lk_MD_goOver_46, ⟨⟨by decide, by decide⟩, by decide, by decide⟩, rfl, rfl, rfl⟩
theorem ls_MD_goOver_179 : es_lV X_MD_goOver X_MD_meet 135 3 5 := ⟨lk_MD_goOver_179, ⟨⟨by decide, by decide⟩, by decide, by decide⟩, rfl, rfl, rfl⟩
theorem ls_MD_compare_2 : es_lV X_MD_compare X_MD_areRight 141 0 5 := ⟨lk_MD_compare_2, ⟨⟨by decide, by decide⟩, by decide, by decide⟩, rfl, rfl, rfl⟩
theorem ls_MD_compare_6 : es_lV X_MD_compare X_MD_goes 77 2 5 := ⟨lk_MD_compare_6, ⟨⟨by decide, by decide⟩, by decide, by decide⟩, rfl, rfl, rfl⟩
theorem ls_MD_compare_15 : es_lV X_MD_compare X_MD_goOver 145 0 5 := ⟨lk_MD_compare_15, ⟨⟨by decide, by decide⟩, by decide, by decide⟩, rfl, rfl, rfl⟩
theorem ls_MD_compare_19 : es_lV X_MD_compare X_MD_shownCount 148 0 5 := ⟨lk_MD_compare_19, ⟨⟨by decide, by decide⟩, by decide, by decide⟩, rfl, rfl, rfl⟩
theorem ls_MD_shown_1 : es_lV X_MD_shown X_MD_areRight 141 0 5 := ⟨lk_MD_shown_1, ⟨⟨by decide, by decide⟩, by decide, by decide⟩, rfl, rfl, rfl⟩
theorem ls_MD_shown_12 : es_lV X_MD_shown X_MD_goOver 145 0 5 := ⟨lk_MD_shown_12, ⟨⟨by decide, by decide⟩, by decide, by decide⟩, rfl, rfl, rfl⟩
theorem ls_MD_shown_16 : es_lV X_MD_shown X_MD_shownCount 148 0 5 := ⟨lk_MD_shown_16, ⟨⟨by decide, by decide⟩, by decide, by decide⟩, rfl, rfl, rfl⟩
theorem ls_MD_shown_40 : es_lV X_MD_shown X_MD_goes 77 2 5 := ⟨lk_MD_shown_40, ⟨⟨by decide, by decide⟩, by decide, by decide⟩, rfl, rfl, rfl⟩
theorem ls_MD_last_4 : es_lS X_MD_last X_MD_in 69 3 := ⟨lk_MD_last_4, ⟨⟨by decide, by decide⟩, by decide, by decide⟩, rfl, rfl, rfl⟩
theorem ls_MD_last_8 : es_lV X_MD_last X_MD_areRight 141 0 5 := ⟨lk_MD_last_8, ⟨⟨by decide, by decide⟩, by decide, by decide⟩, rfl, rfl, rfl⟩
theorem ls_MD_last_11 : es_lV X_MD_last X_MD_goes 77 2 5 := ⟨lk_MD_last_11, ⟨⟨by decide, by decide⟩, by decide, by decide⟩, rfl, rfl, rfl⟩
theorem ls_MD_last_20 : es_lV X_MD_last X_MD_goOver 145 0 5 := ⟨lk_MD_last_20, ⟨⟨by decide, by decide⟩, by decide, by decide⟩, rfl, rfl, rfl⟩
theorem ls_MD_pairs_2 : es_lV X_MD_pairs X_MD_areRight 141 0 5 := ⟨lk_MD_pairs_2, ⟨⟨by decide, by decide⟩, by decide, by decide⟩, rfl, rfl, rfl⟩
theorem ls_MD_pairs_6 : es_lV X_MD_pairs X_MD_goes 77 2 5 := ⟨lk_MD_pairs_6, ⟨⟨by decide, by decide⟩, by decide, by decide⟩, rfl, rfl, rfl⟩
theorem ls_MD_pairs_15 : es_lV X_MD_pairs X_MD_goOver 145 0 5 := ⟨lk_MD_pairs_15, ⟨⟨by decide, by decide⟩, by decide, by decide⟩, rfl, rfl, rfl⟩
theorem ls_MD_areSame_187 : es_lS X_MD_areSame X_MD_needs 96 1 := ⟨lk_MD_areSame_187, ⟨⟨by decide, by decide⟩, by decide, by decide⟩, rfl, rfl, rfl⟩
theorem ls_MD_areSame_200 : es_lV X_MD_areSame X_MD_input 85 3 5 := ⟨lk_MD_areSame_200, ⟨⟨by decide, by decide⟩, by decide, by decide⟩, rfl, rfl, rfl⟩
theorem ls_MD_areSame_210 : es_lV X_MD_areSame X_MD_input 85 3 5 := ⟨lk_MD_areSame_210, ⟨⟨by decide, by decide⟩, by decide, by decide⟩, rfl, rfl, rfl⟩
theorem ls_MD_areSame_260 : es_lV X_MD_areSame X_MD_areSingle 152 0 5 := ⟨lk_MD_areSame_260, ⟨⟨by decide, by decide⟩, by decide, by decide⟩, rfl, rfl, rfl⟩
theorem ls_MD_same_2 : es_lV X_MD_same X_MD_areRight 141 0 5 := ⟨lk_MD_same_2, ⟨⟨by decide, by decide⟩, by decide, by decide⟩, rfl, rfl, rfl⟩
theorem ls_MD_same_6 : es_lV X_MD_same X_MD_goes 77 2 5 := ⟨lk_MD_same_6, ⟨⟨by decide, by decide⟩, by decide, by decide⟩, rfl, rfl, rfl⟩
theorem ls_MD_same_13 : es_lV X_MD_same X_MD_areSame 155 0 5 := ⟨lk_MD_same_13, ⟨⟨by decide, by decide⟩, by decide, by decide⟩, rfl, rfl, rfl⟩
theorem ls_MD_matched_4 : es_lV X_MD_matched X_MD_isBlock 81 2 5 := ⟨lk_MD_matched_4, ⟨⟨by decide, by decide⟩, by decide, by decide⟩, rfl, rfl, rfl⟩
theorem ls_MD_matched_8 : es_lV X_MD_matched X_MD_areRight 141 0 5 := ⟨lk_MD_matched_8, ⟨⟨by decide, by decide⟩, by decide, by decide⟩, rfl, rfl, rfl⟩
theorem ls_MD_matched_11 : es_lV X_MD_matched X_MD_goes 77 2 5 := ⟨lk_MD_matched_11, ⟨⟨by decide, by decide⟩, by decide, by decide⟩, rfl, rfl, rfl⟩
theorem ls_MD_matched_20 : es_lV X_MD_matched X_MD_areSame 155 0 5 := ⟨lk_MD_matched_20, ⟨⟨by decide, by decide⟩, by decide, by decide⟩, rfl, rfl, rfl⟩
theorem ls_MD_idle_4 : es_lS X_MD_idle X_MD_in 69 3 := ⟨lk_MD_idle_4, ⟨⟨by decide, by decide⟩, by decide, by decide⟩, rfl, rfl, rfl⟩
theorem ls_MD_idle_20 : es_lV X_MD_idle X_MD_goes 77 2 5 := ⟨lk_MD_idle_20, ⟨⟨by decide, by decide⟩, by decide, by decide⟩, rfl, rfl, rfl⟩
theorem ls_MD_idle_131 : es_lS X_MD_idle X_MD_needs 96 1 := ⟨lk_MD_idle_131, ⟨⟨by decide, by decide⟩, by decide, by decide⟩, rfl, rfl, rfl⟩
theorem ls_MD_idle_153 : es_lV X_MD_idle X_MD_input 85 3 5 := ⟨lk_MD_idle_153, ⟨⟨by decide, by decide⟩, by decide, by decide⟩, rfl, rfl, rfl⟩
theorem ls_MD_blocks_4 : es_lS X_MD_blocks X_MD_in 69 3 := ⟨lk_MD_blocks_4, ⟨⟨by decide, by decide⟩, by decide, by decide⟩, rfl, rfl, rfl⟩
theorem ls_MD_blocks_8 : es_lV X_MD_blocks X_MD_goes 77 2 5 := ⟨lk_MD_blocks_8, ⟨⟨by decide, by decide⟩, by decide, by decide⟩, rfl, rfl, rfl⟩
theorem ls_BH_learn_14 : es_lV X_BH_learn X_ED_countDelays 54 0 1 := ⟨lk_BH_learn_14, ⟨⟨by decide, by decide⟩, by decide, by decide⟩, rfl, rfl, rfl⟩
theorem ls_BH_learn_22 : es_lV X_BH_learn X_BH_orderBlocks 60 0 2 := ⟨lk_BH_learn_22, ⟨⟨by decide, by decide⟩, by decide, by decide⟩, rfl, rfl, rfl⟩
theorem ls_BH_learn_40 : es_lV X_BH_learn X_BH_fillColumns 63 1 2 := ⟨lk_BH_learn_40, ⟨⟨by decide, by decide⟩, by decide, by decide⟩, rfl, rfl, rfl⟩
theorem ls_BH_learn_45 : es_lV X_BH_learn X_BH_fillTicks 67 1 2 := ⟨lk_BH_learn_45, ⟨⟨by decide, by decide⟩, by decide, by decide⟩, rfl, rfl, rfl⟩
theorem ls_BH_learn_56 : es_lV X_BH_learn X_BH_findReached 70 1 2 := ⟨lk_BH_learn_56, ⟨⟨by decide, by decide⟩, by decide, by decide⟩, rfl, rfl, rfl⟩
theorem ls_BH_valueOf_3 : es_lV X_BH_valueOf X_BH_columnAt 73 2 2 := ⟨lk_BH_valueOf_3, ⟨⟨by decide, by decide⟩, by decide, by decide⟩, rfl, rfl, rfl⟩
theorem ls_BH_outsOf_3 : es_lS X_BH_outsOf X_EE_isWithin 77 2 := ⟨lk_BH_outsOf_3, ⟨⟨by decide, by decide⟩, by decide, by decide⟩, rfl, rfl, rfl⟩
theorem ls_BH_outsOf_16 : es_lV X_BH_outsOf X_BH_placeOf 81 2 2 := ⟨lk_BH_outsOf_16, ⟨⟨by decide, by decide⟩, by decide, by decide⟩, rfl, rfl, rfl⟩
theorem ls_BH_stateAfter_3 : es_lS X_BH_stateAfter X_EE_isWithin 77 2 := ⟨lk_BH_stateAfter_3, ⟨⟨by decide, by decide⟩, by decide, by decide⟩, rfl, rfl, rfl⟩
theorem ls_BH_stateAfter_16 : es_lV X_BH_stateAfter X_BH_placeOf 81 2 2 := ⟨lk_BH_stateAfter_16, ⟨⟨by decide, by decide⟩, by decide, by decide⟩, rfl, rfl, rfl⟩
theorem ls_BH_countReached_4 : es_lS X_BH_countReached X_JI_bitCount 84 1 := ⟨lk_BH_countReached_4, ⟨⟨by decide, by decide⟩, by decide, by decide⟩, rfl, rfl, rfl⟩
theorem ls_BH_reachedAt_15 : es_lS X_BH_reachedAt X_EE_holds 90 2 := ⟨lk_BH_reachedAt_15, ⟨⟨by decide, by decide⟩, by decide, by decide⟩, rfl, rfl, rfl⟩
theorem ls_BH_orderBlocks_23 : es_lV X_BH_orderBlocks X_ED_countBlocks 93 0 1 := ⟨lk_BH_orderBlocks_23, ⟨⟨by decide, by decide⟩, by decide, by decide⟩, rfl, rfl, rfl⟩
theorem ls_BH_orderBlocks_36 : es_lV X_BH_orderBlocks X_ED_countBlocks 93 0 1 := ⟨lk_BH_orderBlocks_36, ⟨⟨by decide, by decide⟩, by decide, by decide⟩, rfl, rfl, rfl⟩
theorem ls_BH_orderBlocks_47 : es_lV X_BH_orderBlocks X_ED_neededInTick 96 1 1 := ⟨lk_BH_orderBlocks_47, ⟨⟨by decide, by decide⟩, by decide, by decide⟩, rfl, rfl, rfl⟩
theorem ls_BH_orderBlocks_71 : es_lS X_BH_orderBlocks X_EE_holds 90 2 := ⟨lk_BH_orderBlocks_71, ⟨⟨by decide, by decide⟩, by decide, by decide⟩, rfl, rfl, rfl⟩
theorem ls_BH_orderBlocks_108 : es_lS X_BH_orderBlocks X_EE_bitOf 99 1 := ⟨lk_BH_orderBlocks_108, ⟨⟨by decide, by decide⟩, by decide, by decide⟩, rfl, rfl, rfl⟩
theorem ls_BH_fillColumns_26 : es_lS X_BH_fillColumns X_EE_isWithin 77 2 := ⟨lk_BH_fillColumns_26, ⟨⟨by decide, by decide⟩, by decide, by decide⟩, rfl, rfl, rfl⟩
theorem ls_BH_fillColumns_45 : es_lV X_BH_fillColumns X_BH_workOutColumn 102 2 2 := ⟨lk_BH_fillColumns_45, ⟨⟨by decide, by decide⟩, by decide, by decide⟩, rfl, rfl, rfl⟩
theorem ls_BH_workOutColumn_5 : es_lV X_BH_workOutColumn X_ED_numberOf 105 1 1 := ⟨lk_BH_workOutColumn_5, ⟨⟨by decide, by decide⟩, by decide, by decide⟩, rfl, rfl, rfl⟩
theorem ls_BH_workOutColumn_16 : es_lV X_BH_workOutColumn X_ED_neededAt 108 2 1 := ⟨lk_BH_workOutColumn_16, ⟨⟨by decide, by decide⟩, by decide, by decide⟩, rfl, rfl, rfl⟩
theorem ls_BH_workOutColumn_20 : es_lV X_BH_workOutColumn X_BH_columnAt 73 2 2 := ⟨lk_BH_workOutColumn_20, ⟨⟨by decide, by decide⟩, by decide, by decide⟩, rfl, rfl, rfl⟩
theorem ls_BH_workOutColumn_32 : es_lV X_BH_workOutColumn X_ED_neededAt 108 2 1 := ⟨lk_BH_workOutColumn_32, ⟨⟨by decide, by decide⟩, by decide, by decide⟩, rfl, rfl, rfl⟩
theorem ls_BH_workOutColumn_36 : es_lV X_BH_workOutColumn X_BH_columnAt 73 2 2 := ⟨lk_BH_workOutColumn_36, ⟨⟨by decide, by decide⟩, by decide, by decide⟩, rfl, rfl, rfl⟩
theorem ls_BH_workOutColumn_46 : es_lV X_BH_workOutColumn X_ED_kindOf 111 1 1 := ⟨lk_BH_workOutColumn_46, ⟨⟨by decide, by decide⟩, by decide, by decide⟩, rfl, rfl, rfl⟩
theorem ls_BH_workOutColumn_90 : es_lS X_BH_workOutColumn X_EE_holds 90 2 := ⟨lk_BH_workOutColumn_90, ⟨⟨by decide, by decide⟩, by decide, by decide⟩, rfl, rfl, rfl⟩
theorem ls_BH_workOutColumn_138 : es_lS X_BH_workOutColumn X_EE_isWithin 77 2 := ⟨lk_BH_workOutColumn_138, ⟨⟨by decide, by decide⟩, by decide, by decide⟩, rfl, rfl, rfl⟩
theorem ls_BH_columnAt_3 : es_lS X_BH_columnAt X_EE_isWithin 77 2 := ⟨lk_BH_columnAt_3, ⟨⟨by decide, by decide⟩, by decide, by decide⟩, rfl, rfl, rfl⟩
theorem ls_BH_columnAt_12 : es_lS X_BH_columnAt X_EE_isWithin 77 2 := ⟨lk_BH_columnAt_12, ⟨⟨by decide, by decide⟩, by decide, by decide⟩, rfl, rfl, rfl⟩
theorem ls_BH_fillTicks_35 : es_lV X_BH_fillTicks X_ED_outputAt 117 1 1 := ⟨lk_BH_fillTicks_35, ⟨⟨by decide, by decide⟩, by decide, by decide⟩, rfl, rfl, rfl⟩
theorem ls_BH_fillTicks_40 : es_lV X_BH_fillTicks X_BH_valueOf 120 3 2 := ⟨lk_BH_fillTicks_40, ⟨⟨by decide, by decide⟩, by decide, by decide⟩, rfl, rfl, rfl⟩
theorem ls_BH_fillTicks_66 : es_lV X_BH_fillTicks X_ED_countDelays 54 0 1 := ⟨lk_BH_fillTicks_66, ⟨⟨by decide, by decide⟩, by decide, by decide⟩, rfl, rfl, rfl⟩
theorem ls_BH_fillTicks_82 : es_lV X_BH_fillTicks X_ED_delayAt 124 1 1 := ⟨lk_BH_fillTicks_82, ⟨⟨by decide, by decide⟩, by decide, by decide⟩, rfl, rfl, rfl⟩
theorem ls_BH_fillTicks_86 : es_lV X_BH_fillTicks X_ED_neededAt 108 2 1 := ⟨lk_BH_fillTicks_86, ⟨⟨by decide, by decide⟩, by decide, by decide⟩, rfl, rfl, rfl⟩
theorem ls_BH_fillTicks_98 : es_lV X_BH_fillTicks X_BH_valueOf 120 3 2 := ⟨lk_BH_fillTicks_98, ⟨⟨by decide, by decide⟩, by decide, by decide⟩, rfl, rfl, rfl⟩
theorem ls_BH_findReached_11 : es_lS X_BH_findReached X_EE_bitOf 99 1 := ⟨lk_BH_findReached_11, ⟨⟨by decide, by decide⟩, by decide, by decide⟩, rfl, rfl, rfl⟩
theorem ls_BH_findReached_43 : es_lS X_BH_findReached X_EE_holds 90 2 := ⟨lk_BH_findReached_43, ⟨⟨by decide, by decide⟩, by decide, by decide⟩, rfl, rfl, rfl⟩
theorem ls_BH_findReached_58 : es_lV X_BH_findReached X_BH_stateAfter 127 2 2 := ⟨lk_BH_findReached_58, ⟨⟨by decide, by decide⟩, by decide, by decide⟩, rfl, rfl, rfl⟩
theorem ls_BH_findReached_73 : es_lS X_BH_findReached X_EE_holds 90 2 := ⟨lk_BH_findReached_73, ⟨⟨by decide, by decide⟩, by decide, by decide⟩, rfl, rfl, rfl⟩
theorem ls_BH_findReached_92 : es_lS X_BH_findReached X_EE_bitOf 99 1 := ⟨lk_BH_findReached_92, ⟨⟨by decide, by decide⟩, by decide, by decide⟩, rfl, rfl, rfl⟩
theorem ls_BH_countClasses_5 : es_lS X_BH_countClasses X_JA_fill 130 2 := ⟨lk_BH_countClasses_5, ⟨⟨by decide, by decide⟩, by decide, by decide⟩, rfl, rfl, rfl⟩
theorem ls_BH_countClasses_20 : es_lS X_BH_countClasses X_EE_holds 90 2 := ⟨lk_BH_countClasses_20, ⟨⟨by decide, by decide⟩, by decide, by decide⟩, rfl, rfl, rfl⟩
theorem ls_BH_countClasses_28 : es_lV X_BH_countClasses X_BH_partByOuts 136 1 2 := ⟨lk_BH_countClasses_28, ⟨⟨by decide, by decide⟩, by decide, by decide⟩, rfl, rfl, rfl⟩
theorem ls_BH_countClasses_70 : es_lS X_BH_countClasses X_EE_holds 90 2 := ⟨lk_BH_countClasses_70, ⟨⟨by decide, by decide⟩, by decide, by decide⟩, rfl, rfl, rfl⟩
theorem ls_BH_countClasses_79 : es_lV X_BH_countClasses X_BH_partByNextClass 139 1 2 := ⟨lk_BH_countClasses_79, ⟨⟨by decide, by decide⟩, by decide, by decide⟩, rfl, rfl, rfl⟩
theorem ls_BH_partByOuts_16 : es_lV X_BH_partByOuts X_BH_outsOf 142 2 2 := ⟨lk_BH_partByOuts_16, ⟨⟨by decide, by decide⟩, by decide, by decide⟩, rfl, rfl, rfl⟩
theorem ls_BH_partByOuts_27 : es_lV X_BH_partByOuts X_BH_partByKeys 145 0 2 := ⟨lk_BH_partByOuts_27, ⟨⟨by decide, by decide⟩, by decide, by decide⟩, rfl, rfl, rfl⟩
theorem ls_BH_partByNextClass_11 : es_lV X_BH_partByNextClass X_BH_stateAfter 127 2 2 := ⟨lk_BH_partByNextClass_11, ⟨⟨by decide, by decide⟩, by decide, by decide⟩, rfl, rfl, rfl⟩
theorem ls_BH_partByNextClass_23 : es_lS X_BH_partByNextClass X_EE_isWithin 77 2 := ⟨lk_BH_partByNextClass_23, ⟨⟨by decide, by decide⟩, by decide, by decide⟩, rfl, rfl, rfl⟩
theorem ls_BH_partByNextClass_47 : es_lV X_BH_partByNextClass X_BH_partByKeys 145 0 2 := ⟨lk_BH_partByNextClass_47, ⟨⟨by decide, by decide⟩, by decide, by decide⟩, rfl, rfl, rfl⟩
theorem ls_BH_partByKeys_15 : es_lS X_BH_partByKeys X_EE_holds 90 2 := ⟨lk_BH_partByKeys_15, ⟨⟨by decide, by decide⟩, by decide, by decide⟩, rfl, rfl, rfl⟩
theorem ls_BH_partByKeys_23 : es_lV X_BH_partByKeys X_BH_firstLike 148 1 2 := ⟨lk_BH_partByKeys_23, ⟨⟨by decide, by decide⟩, by decide, by decide⟩, rfl, rfl, rfl⟩
theorem ls_BH_firstLike_52 : es_lS X_BH_firstLike X_EE_holds 90 2 := ⟨lk_BH_firstLike_52, ⟨⟨by decide, by decide⟩, by decide, by decide⟩, rfl, rfl, rfl⟩
theorem ls_ED_addBlock_2 : es_lV X_ED_addBlock X_ED_hasRoomFor 49 1 1 := ⟨lk_ED_addBlock_2, ⟨⟨by decide, by decide⟩, by decide, by decide⟩, rfl, rfl, rfl⟩
theorem ls_ED_addBlock_35 : es_lS X_ED_addBlock X_ED_countNeeded 53 1 := ⟨lk_ED_addBlock_35, ⟨⟨by decide, by decide⟩, by decide, by decide⟩, rfl, rfl, rfl⟩
theorem ls_ED_rewire_2 : es_lV X_ED_rewire X_ED_hasBlock 57 1 1 := ⟨lk_ED_rewire_2, ⟨⟨by decide, by decide⟩, by decide, by decide⟩, rfl, rfl, rfl⟩
theorem ls_ED_rewire_10 : es_lS X_ED_rewire X_EE_isWithin 60 2 := ⟨lk_ED_rewire_10, ⟨⟨by decide, by decide⟩, by decide, by decide⟩, rfl, rfl, rfl⟩
theorem ls_ED_rewire_49 : es_lV X_ED_rewire X_ED_neededAt 64 2 1 := ⟨lk_ED_rewire_49, ⟨⟨by decide, by decide⟩, by decide, by decide⟩, rfl, rfl, rfl⟩
theorem ls_ED_rewire_52 : es_lS X_ED_rewire X_EE_bitOf 68 1 := ⟨lk_ED_rewire_52, ⟨⟨by decide, by decide⟩, by decide, by decide⟩, rfl, rfl, rfl⟩
theorem ls_ED_rewire_58 : es_lV X_ED_rewire X_ED_neededAt 64 2 1 := ⟨lk_ED_rewire_58, ⟨⟨by decide, by decide⟩, by decide, by decide⟩, rfl, rfl, rfl⟩
theorem ls_ED_rewire_61 : es_lS X_ED_rewire X_EE_bitOf 68 1 := ⟨lk_ED_rewire_61, ⟨⟨by decide, by decide⟩, by decide, by decide⟩, rfl, rfl, rfl⟩
theorem ls_ED_changeOutput_2 : es_lV X_ED_changeOutput X_ED_outputAt 71 1 1 := ⟨lk_ED_changeOutput_2, ⟨⟨by decide, by decide⟩, by decide, by decide⟩, rfl, rfl, rfl⟩
theorem ls_ED_changeOutput_8 : es_lS X_ED_changeOutput X_EE_isWithin 60 2 := ⟨lk_ED_changeOutput_8, ⟨⟨by decide, by decide⟩, by decide, by decide⟩, rfl, rfl, rfl⟩
theorem ls_ED_hasBlockOrNone_7 : es_lV X_ED_hasBlockOrNone X_ED_hasBlock 57 1 1 := ⟨lk_ED_hasBlockOrNone_7, ⟨⟨by decide, by decide⟩, by decide, by decide⟩, rfl, rfl, rfl⟩
theorem ls_ED_kindOf_2 : es_lV X_ED_kindOf X_ED_hasBlock 57 1 1 := ⟨lk_ED_kindOf_2, ⟨⟨by decide, by decide⟩, by decide, by decide⟩, rfl, rfl, rfl⟩
theorem ls_ED_numberOf_2 : es_lV X_ED_numberOf X_ED_hasBlock 57 1 1 := ⟨lk_ED_numberOf_2, ⟨⟨by decide, by decide⟩, by decide, by decide⟩, rfl, rfl, rfl⟩
theorem ls_ED_outputAt_2 : es_lS X_ED_outputAt X_EE_isWithin 60 2 := ⟨lk_ED_outputAt_2, ⟨⟨by decide, by decide⟩, by decide, by decide⟩, rfl, rfl, rfl⟩
theorem ls_ED_delayAt_5 : es_lS X_ED_delayAt X_EE_isWithin 60 2 := ⟨lk_ED_delayAt_5, ⟨⟨by decide, by decide⟩, by decide, by decide⟩, rfl, rfl, rfl⟩
theorem ls_ED_neededAt_2 : es_lV X_ED_neededAt X_ED_hasBlock 57 1 1 := ⟨lk_ED_neededAt_2, ⟨⟨by decide, by decide⟩, by decide, by decide⟩, rfl, rfl, rfl⟩
theorem ls_ED_neededInTick_2 : es_lV X_ED_neededInTick X_ED_hasBlock 57 1 1 := ⟨lk_ED_neededInTick_2, ⟨⟨by decide, by decide⟩, by decide, by decide⟩, rfl, rfl, rfl⟩
theorem ls_ED_firstFault_1 : es_lV X_ED_firstFault X_ED_firstUnwired 74 0 1 := ⟨lk_ED_firstFault_1, ⟨⟨by decide, by decide⟩, by decide, by decide⟩, rfl, rfl, rfl⟩
theorem ls_ED_firstFault_15 : es_lV X_ED_firstFault X_ED_firstComingBack 78 0 1 := ⟨lk_ED_firstFault_15, ⟨⟨by decide, by decide⟩, by decide, by decide⟩, rfl, rfl, rfl⟩
theorem ls_ED_firstComingBack_17 : es_lV X_ED_firstComingBack X_ED_neededInTick 81 1 1 := ⟨lk_ED_firstComingBack_17, ⟨⟨by decide, by decide⟩, by decide, by decide⟩, rfl, rfl, rfl⟩
theorem ls_ED_firstComingBack_54 : es_lS X_ED_firstComingBack X_EE_holds 84 2 := ⟨lk_ED_firstComingBack_54, ⟨⟨by decide, by decide⟩, by decide, by decide⟩, rfl, rfl, rfl⟩
theorem ls_ED_firstComingBack_104 : es_lS X_ED_firstComingBack X_EE_holds 84 2 := ⟨lk_ED_firstComingBack_104, ⟨⟨by decide, by decide⟩, by decide, by decide⟩, rfl, rfl, rfl⟩
theorem ls_ED_idleAt_1 : es_lV X_ED_idleAt X_ED_liveBlocks 87 0 1 := ⟨lk_ED_idleAt_1, ⟨⟨by decide, by decide⟩, by decide, by decide⟩, rfl, rfl, rfl⟩
theorem ls_ED_idleAt_22 : es_lS X_ED_idleAt X_EE_holds 84 2 := ⟨lk_ED_idleAt_22, ⟨⟨by decide, by decide⟩, by decide, by decide⟩, rfl, rfl, rfl⟩
theorem ls_ED_liveBlocks_16 : es_lS X_ED_liveBlocks X_EE_bitOf 68 1 := ⟨lk_ED_liveBlocks_16, ⟨⟨by decide, by decide⟩, by decide, by decide⟩, rfl, rfl, rfl⟩
theorem ls_ED_liveBlocks_60 : es_lS X_ED_liveBlocks X_EE_holds 84 2 := ⟨lk_ED_liveBlocks_60, ⟨⟨by decide, by decide⟩, by decide, by decide⟩, rfl, rfl, rfl⟩
theorem ls_MT_matchAll_5 : es_lS X_MT_matchAll X_JA_fill 32 2 := ⟨lk_MT_matchAll_5, ⟨⟨by decide, by decide⟩, by decide, by decide⟩, rfl, rfl, rfl⟩
theorem ls_MT_matchAll_13 : es_lS X_MT_matchAll X_JA_fill 32 2 := ⟨lk_MT_matchAll_13, ⟨⟨by decide, by decide⟩, by decide, by decide⟩, rfl, rfl, rfl⟩
theorem ls_MT_matchAll_34 : es_lV X_MT_matchAll X_ED_outputAt 38 1 1 := ⟨lk_MT_matchAll_34, ⟨⟨by decide, by decide⟩, by decide, by decide⟩, rfl, rfl, rfl⟩
theorem ls_MT_matchAll_42 : es_lV X_MT_matchAll X_ED_outputAt 38 1 1 := ⟨lk_MT_matchAll_42, ⟨⟨by decide, by decide⟩, by decide, by decide⟩, rfl, rfl, rfl⟩
theorem ls_MT_matchAll_45 : es_lV X_MT_matchAll X_MT_matchBoth 44 2 4 := ⟨lk_MT_matchAll_45, ⟨⟨by decide, by decide⟩, by decide, by decide⟩, rfl, rfl, rfl⟩
theorem ls_MT_matchAll_84 : es_lV X_MT_matchAll X_MT_partnerOf 48 1 4 := ⟨lk_MT_matchAll_84, ⟨⟨by decide, by decide⟩, by decide, by decide⟩, rfl, rfl, rfl⟩
theorem ls_MT_matchAll_105 : es_lV X_MT_matchAll X_ED_neededAt 51 2 1 := ⟨lk_MT_matchAll_105, ⟨⟨by decide, by decide⟩, by decide, by decide⟩, rfl, rfl, rfl⟩
theorem ls_MT_matchAll_115 : es_lV X_MT_matchAll X_ED_neededAt 51 2 1 := ⟨lk_MT_matchAll_115, ⟨⟨by decide, by decide⟩, by decide, by decide⟩, rfl, rfl, rfl⟩
theorem ls_MT_matchAll_118 : es_lV X_MT_matchAll X_MT_matchBoth 44 2 4 := ⟨lk_MT_matchAll_118, ⟨⟨by decide, by decide⟩, by decide, by decide⟩, rfl, rfl, rfl⟩
theorem ls_MT_partnerOf_3 : es_lS X_MT_partnerOf X_EE_isWithin 55 2 := ⟨lk_MT_partnerOf_3, ⟨⟨by decide, by decide⟩, by decide, by decide⟩, rfl, rfl, rfl⟩
theorem ls_MT_matchBoth_3 : es_lS X_MT_matchBoth X_EE_isWithin 55 2 := ⟨lk_MT_matchBoth_3, ⟨⟨by decide, by decide⟩, by decide, by decide⟩, rfl, rfl, rfl⟩
theorem ls_MT_matchBoth_12 : es_lS X_MT_matchBoth X_EE_isWithin 55 2 := ⟨lk_MT_matchBoth_12, ⟨⟨by decide, by decide⟩, by decide, by decide⟩, rfl, rfl, rfl⟩
theorem ls_MT_matchBoth_74 : es_lV X_MT_matchBoth X_MT_areOfOneSort 58 2 4 := ⟨lk_MT_matchBoth_74, ⟨⟨by decide, by decide⟩, by decide, by decide⟩, rfl, rfl, rfl⟩
theorem ls_MT_areOfOneSort_5 : es_lV X_MT_areOfOneSort X_ED_kindOf 61 1 1 := ⟨lk_MT_areOfOneSort_5, ⟨⟨by decide, by decide⟩, by decide, by decide⟩, rfl, rfl, rfl⟩
theorem ls_MT_areOfOneSort_31 : es_lV X_MT_areOfOneSort X_ED_kindOf 61 1 1 := ⟨lk_MT_areOfOneSort_31, ⟨⟨by decide, by decide⟩, by decide, by decide⟩, rfl, rfl, rfl⟩
theorem ls_MT_areOfOneSort_47 : es_lV X_MT_areOfOneSort X_ED_numberOf 64 1 1 := ⟨lk_MT_areOfOneSort_47, ⟨⟨by decide, by decide⟩, by decide, by decide⟩, rfl, rfl, rfl⟩
theorem ls_MT_areOfOneSort_55 : es_lV X_MT_areOfOneSort X_ED_numberOf 64 1 1 := ⟨lk_MT_areOfOneSort_55, ⟨⟨by decide, by decide⟩, by decide, by decide⟩, rfl, rfl, rfl⟩
theorem ls_PS_learn_13 : es_lS X_PS_learn X_JA_fill 54 2 := ⟨lk_PS_learn_13, ⟨⟨by decide, by decide⟩, by decide, by decide⟩, rfl, rfl, rfl⟩
theorem ls_PS_learn_41 : es_lV X_PS_learn X_PS_meet 60 4 3 := ⟨lk_PS_learn_41, ⟨⟨by decide, by decide⟩, by decide, by decide⟩, rfl, rfl, rfl⟩
theorem ls_PS_learn_64 : es_lV X_PS_learn X_PS_goOnFrom 64 2 3 := ⟨lk_PS_learn_64, ⟨⟨by decide, by decide⟩, by decide, by decide⟩, rfl, rfl, rfl⟩
theorem ls_PS_shownRow_34 : es_lV X_PS_shownRow X_PS_placeBefore 68 1 3 := ⟨lk_PS_shownRow_34, ⟨⟨by decide, by decide⟩, by decide, by decide⟩, rfl, rfl, rfl⟩
theorem ls_PS_shownRow_48 : es_lS X_PS_shownRow X_EE_isWithin 72 2 := ⟨lk_PS_shownRow_48, ⟨⟨by decide, by decide⟩, by decide, by decide⟩, rfl, rfl, rfl⟩
theorem ls_PS_goOnFrom_34 : es_lS X_PS_goOnFrom X_EE_holds 76 2 := ⟨lk_PS_goOnFrom_34, ⟨⟨by decide, by decide⟩, by decide, by decide⟩, rfl, rfl, rfl⟩
theorem ls_PS_goOnFrom_54 : es_lV X_PS_goOnFrom X_BH_outsOf 79 2 2 := ⟨lk_PS_goOnFrom_54, ⟨⟨by decide, by decide⟩, by decide, by decide⟩, rfl, rfl, rfl⟩
theorem ls_PS_goOnFrom_65 : es_lV X_PS_goOnFrom X_BH_outsOf 79 2 2 := ⟨lk_PS_goOnFrom_65, ⟨⟨by decide, by decide⟩, by decide, by decide⟩, rfl, rfl, rfl⟩
theorem ls_PS_goOnFrom_79 : es_lV X_PS_goOnFrom X_BH_outsOf 79 2 2 := ⟨lk_PS_goOnFrom_79, ⟨⟨by decide, by decide⟩, by decide, by decide⟩, rfl, rfl, rfl⟩
theorem ls_PS_goOnFrom_94 : es_lV X_PS_goOnFrom X_BH_outsOf 79 2 2 := ⟨lk_PS_goOnFrom_94, ⟨⟨by decide, by decide⟩, by decide, by decide⟩, rfl, rfl, rfl⟩
theorem ls_PS_goOnFrom_104 : es_lV X_PS_goOnFrom X_PS_keepShown 85 2 3 := ⟨lk_PS_goOnFrom_104, ⟨⟨by decide, by decide⟩, by decide, by decide⟩, rfl, rfl, rfl⟩
theorem ls_PS_goOnFrom_115 : es_lV X_PS_goOnFrom X_BH_stateAfter 88 2 2 := ⟨lk_PS_goOnFrom_115, ⟨⟨by decide, by decide⟩, by decide, by decide⟩, rfl, rfl, rfl⟩
theorem ls_PS_goOnFrom_126 : es_lV X_PS_goOnFrom X_BH_stateAfter 88 2 2 := ⟨lk_PS_goOnFrom_126, ⟨⟨by decide, by decide⟩, by decide, by decide⟩, rfl, rfl, rfl⟩
theorem ls_PS_goOnFrom_132 : es_lV X_PS_goOnFrom X_PS_meet 60 4 3 := ⟨lk_PS_goOnFrom_132, ⟨⟨by decide, by decide⟩, by decide, by decide⟩, rfl, rfl, rfl⟩
theorem ls_PS_meet_3 : es_lS X_PS_meet X_EE_isWithin 72 2 := ⟨lk_PS_meet_3, ⟨⟨by decide, by decide⟩, by decide, by decide⟩, rfl, rfl, rfl⟩
theorem ls_PS_meet_16 : es_lS X_PS_meet X_EE_holds 76 2 := ⟨lk_PS_meet_16, ⟨⟨by decide, by decide⟩, by decide, by decide⟩, rfl, rfl, rfl⟩
theorem ls_PS_meet_52 : es_lS X_PS_meet X_EE_bitOf 91 1 := ⟨lk_PS_meet_52, ⟨⟨by decide, by decide⟩, by decide, by decide⟩, rfl, rfl, rfl⟩
theorem ls_PS_keepShown_43 : es_lV X_PS_keepShown X_PS_placeBefore 68 1 3 := ⟨lk_PS_keepShown_43, ⟨⟨by decide, by decide⟩, by decide, by decide⟩, rfl, rfl, rfl⟩
theorem ls_PS_placeBefore_4 : es_lS X_PS_placeBefore X_EE_isWithin 72 2 := ⟨lk_PS_placeBefore_4, ⟨⟨by decide, by decide⟩, by decide, by decide⟩, rfl, rfl, rfl⟩
set_option maxRecDepth 100000 in
theorem ez_va_EE_83 : ∀ w ∈ vx_atS "EditionEqual" 83 "java/lang/IllegalArgumentException" ["java/lang/RuntimeException", "java/lang/Exception"], w ∈ ez_T := by
  have h : (vx_atS "EditionEqual" 83 "java/lang/IllegalArgumentException" ["java/lang/RuntimeException", "java/lang/Exception"]).all (fun w => decide (w ∈ lw_tbl) && ez_gw w) = true := by decide +kernel
  intro w hw
  have h1 := List.all_eq_true.mp h w hw
  rw [Bool.and_eq_true, decide_eq_true_eq] at h1
  exact List.mem_filter.mpr h1
set_option maxRecDepth 100000 in
theorem th_EE_block_25 : ez_thr X_EE_block 25 0 := ⟨79, 81, 83, "no such kind, or no such number of the kind", t_288, t_62, by decide +kernel, ez_va_EE_83, by decide +kernel, by decide +kernel, (d_EE_block_25).1, (d_EE_block_28).1, (d_EE_block_29).1, (d_EE_block_31).1, (d_EE_block_34).1⟩
set_option maxRecDepth 100000 in
theorem ez_va_EE_94 : ∀ w ∈ vx_atS "EditionEqual" 94 "java/lang/IllegalStateException" ["java/lang/RuntimeException", "java/lang/Exception"], w ∈ ez_T := by
  have h : (vx_atS "EditionEqual" 94 "java/lang/IllegalStateException" ["java/lang/RuntimeException", "java/lang/Exception"]).all (fun w => decide (w ∈ lw_tbl) && ez_gw w) = true := by decide +kernel
  intro w hw
  have h1 := List.all_eq_true.mp h w hw
  rw [Bool.and_eq_true, decide_eq_true_eq] at h1
  exact List.mem_filter.mpr h1
set_option maxRecDepth 100000 in
theorem th_EE_block_44 : ez_thr X_EE_block 44 1 := ⟨90, 92, 94, "no more blocks, or no more delays", t_364, t_63, by decide +kernel, ez_va_EE_94, by decide +kernel, by decide +kernel, (d_EE_block_44).1, (d_EE_block_47).1, (d_EE_block_48).1, (d_EE_block_50).1, (d_EE_block_53).1⟩
set_option maxRecDepth 100000 in
theorem th_EE_wire_34 : ez_thr X_EE_wire 34 0 := ⟨79, 107, 83, "no such block or input", t_288, t_62, by decide +kernel, ez_va_EE_83, by decide +kernel, by decide +kernel, (d_EE_wire_34).1, (d_EE_wire_37).1, (d_EE_wire_38).1, (d_EE_wire_40).1, (d_EE_wire_43).1⟩
set_option maxRecDepth 100000 in
theorem th_EE_out_24 : ez_thr X_EE_out 24 0 := ⟨79, 113, 83, "no such output or block", t_288, t_62, by decide +kernel, ez_va_EE_83, by decide +kernel, by decide +kernel, (d_EE_out_24).1, (d_EE_out_27).1, (d_EE_out_28).1, (d_EE_out_30).1, (d_EE_out_33).1⟩
set_option maxRecDepth 100000 in
theorem th_EE_state_4 : ez_thr X_EE_state 4 0 := ⟨79, 146, 83, "a place is not below 0", t_288, t_62, by decide +kernel, ez_va_EE_83, by decide +kernel, by decide +kernel, (d_EE_state_4).1, (d_EE_state_7).1, (d_EE_state_8).1, (d_EE_state_10).1, (d_EE_state_13).1⟩
set_option maxRecDepth 100000 in
theorem th_EE_shown_4 : ez_thr X_EE_shown 4 0 := ⟨79, 165, 83, "rows are counted from 0", t_288, t_62, by decide +kernel, ez_va_EE_83, by decide +kernel, by decide +kernel, (d_EE_shown_4).1, (d_EE_shown_7).1, (d_EE_shown_8).1, (d_EE_shown_10).1, (d_EE_shown_13).1⟩
set_option maxRecDepth 100000 in
theorem th_EE_shown_27 : ez_thr X_EE_shown 27 0 := ⟨79, 167, 83, "so many rows are not shown", t_288, t_62, by decide +kernel, ez_va_EE_83, by decide +kernel, by decide +kernel, (d_EE_shown_27).1, (d_EE_shown_30).1, (d_EE_shown_31).1, (d_EE_shown_33).1, (d_EE_shown_36).1⟩
set_option maxRecDepth 100000 in
theorem th_EE_idle_10 : ez_thr X_EE_idle 10 0 := ⟨79, 191, 83, "idle blocks are counted from 0", t_288, t_62, by decide +kernel, ez_va_EE_83, by decide +kernel, by decide +kernel, (d_EE_idle_10).1, (d_EE_idle_13).1, (d_EE_idle_14).1, (d_EE_idle_16).1, (d_EE_idle_19).1⟩
set_option maxRecDepth 100000 in
theorem th_EE_behaviourOf_12 : ez_thr X_EE_behaviourOf 12 1 := ⟨90, 199, 94, "the edition is not right", t_364, t_63, by decide +kernel, ez_va_EE_94, by decide +kernel, by decide +kernel, (d_EE_behaviourOf_12).1, (d_EE_behaviourOf_15).1, (d_EE_behaviourOf_16).1, (d_EE_behaviourOf_18).1, (d_EE_behaviourOf_21).1⟩
set_option maxRecDepth 100000 in
theorem th_EE_checkRow_11 : ez_thr X_EE_checkRow 11 0 := ⟨79, 211, 83, "no such row", t_288, t_62, by decide +kernel, ez_va_EE_83, by decide +kernel, by decide +kernel, (d_EE_checkRow_11).1, (d_EE_checkRow_14).1, (d_EE_checkRow_15).1, (d_EE_checkRow_17).1, (d_EE_checkRow_20).1⟩
set_option maxRecDepth 100000 in
theorem th_EE_checkBothRight_22 : ez_thr X_EE_checkBothRight 22 1 := ⟨90, 213, 94, "one of the editions is not right", t_364, t_63, by decide +kernel, ez_va_EE_94, by decide +kernel, by decide +kernel, (d_EE_checkBothRight_22).1, (d_EE_checkBothRight_25).1, (d_EE_checkBothRight_26).1, (d_EE_checkBothRight_28).1, (d_EE_checkBothRight_31).1⟩
set_option maxRecDepth 100000 in
theorem th_EE_checkEdition_8 : ez_thr X_EE_checkEdition 8 0 := ⟨79, 215, 83, "no such edition", t_288, t_62, by decide +kernel, ez_va_EE_83, by decide +kernel, by decide +kernel, (d_EE_checkEdition_8).1, (d_EE_checkEdition_11).1, (d_EE_checkEdition_12).1, (d_EE_checkEdition_14).1, (d_EE_checkEdition_17).1⟩
set_option maxRecDepth 100000 in
theorem th_EE_checkBlock_8 : ez_thr X_EE_checkBlock 8 0 := ⟨79, 217, 83, "no such block", t_288, t_62, by decide +kernel, ez_va_EE_83, by decide +kernel, by decide +kernel, (d_EE_checkBlock_8).1, (d_EE_checkBlock_11).1, (d_EE_checkBlock_12).1, (d_EE_checkBlock_14).1, (d_EE_checkBlock_17).1⟩
/-! ===== shapes ===== -/
def sb_ED (b : Nat) : Prop := b = 1 ∨ b = 10
theorem sh_ED {b : Nat} (hb : sb_ED b) : es_SH[b]? = some (.inr (1, [some (b + 1), some (b + 2), some (b + 3), some (b + 4), some (b + 5), some (b + 6), some (b + 7), some (b + 8), none, none])) := by
  rcases hb with rfl | rfl <;> rfl
theorem sa_ED_kinds {b : Nat} (hb : sb_ED b) : es_SH[b + 1]? = some (.inl (.int, 24)) := by
  rcases hb with rfl | rfl <;> rfl
theorem sa_ED_numbers {b : Nat} (hb : sb_ED b) : es_SH[b + 2]? = some (.inl (.int, 24)) := by
  rcases hb with rfl | rfl <;> rfl
theorem sa_ED_neededInputs {b : Nat} (hb : sb_ED b) : es_SH[b + 3]? = some (.inl (.int, 24)) := by
  rcases hb with rfl | rfl <;> rfl
theorem sa_ED_wires {b : Nat} (hb : sb_ED b) : es_SH[b + 4]? = some (.inl (.int, 48)) := by
  rcases hb with rfl | rfl <;> rfl
theorem sa_ED_neededBlocks {b : Nat} (hb : sb_ED b) : es_SH[b + 5]? = some (.inl (.int, 24)) := by
  rcases hb with rfl | rfl <;> rfl
theorem sa_ED_outputs {b : Nat} (hb : sb_ED b) : es_SH[b + 6]? = some (.inl (.int, 3)) := by
  rcases hb with rfl | rfl <;> rfl
theorem sa_ED_delays {b : Nat} (hb : sb_ED b) : es_SH[b + 7]? = some (.inl (.int, 5)) := by
  rcases hb with rfl | rfl <;> rfl
theorem sa_ED_ahead {b : Nat} (hb : sb_ED b) : es_SH[b + 8]? = some (.inl (.int, 24)) := by
  rcases hb with rfl | rfl <;> rfl
def sb_BH (b e : Nat) : Prop := (b = 19 ∧ e = 1) ∨ (b = 28 ∧ e = 10)
theorem sb_BH.ed {b e : Nat} (hb : sb_BH b e) : sb_ED e := by
  rcases hb with ⟨rfl, rfl⟩ | ⟨rfl, rfl⟩
  · exact Or.inl rfl
  · exact Or.inr rfl
theorem sh_BH {b e : Nat} (hb : sb_BH b e) : es_SH[b]? = some (.inr (2, [some e, some (b + 1), some (b + 2), some (b + 3), some (b + 4), some (b + 5), some (b + 6), some (b + 7), some (b + 8), none, none, none, none])) := by
  rcases hb with ⟨rfl, rfl⟩ | ⟨rfl, rfl⟩ <;> rfl
theorem sa_BH_order {b e : Nat} (hb : sb_BH b e) : es_SH[b + 1]? = some (.inl (.int, 24)) := by
  rcases hb with ⟨rfl, rfl⟩ | ⟨rfl, rfl⟩ <;> rfl
theorem sa_BH_columns {b e : Nat} (hb : sb_BH b e) : es_SH[b + 2]? = some (.inl (.int, 384)) := by
  rcases hb with ⟨rfl, rfl⟩ | ⟨rfl, rfl⟩ <;> rfl
theorem sa_BH_outs {b e : Nat} (hb : sb_BH b e) : es_SH[b + 3]? = some (.inl (.int, 512)) := by
  rcases hb with ⟨rfl, rfl⟩ | ⟨rfl, rfl⟩ <;> rfl
theorem sa_BH_nextStates {b e : Nat} (hb : sb_BH b e) : es_SH[b + 4]? = some (.inl (.int, 512)) := by
  rcases hb with ⟨rfl, rfl⟩ | ⟨rfl, rfl⟩ <;> rfl
theorem sa_BH_queue {b e : Nat} (hb : sb_BH b e) : es_SH[b + 5]? = some (.inl (.int, 32)) := by
  rcases hb with ⟨rfl, rfl⟩ | ⟨rfl, rfl⟩ <;> rfl
theorem sa_BH_classes {b e : Nat} (hb : sb_BH b e) : es_SH[b + 6]? = some (.inl (.int, 32)) := by
  rcases hb with ⟨rfl, rfl⟩ | ⟨rfl, rfl⟩ <;> rfl
theorem sa_BH_keys {b e : Nat} (hb : sb_BH b e) : es_SH[b + 7]? = some (.inl (.int, 32)) := by
  rcases hb with ⟨rfl, rfl⟩ | ⟨rfl, rfl⟩ <;> rfl
theorem sa_BH_newClasses {b e : Nat} (hb : sb_BH b e) : es_SH[b + 8]? = some (.inl (.int, 32)) := by
  rcases hb with ⟨rfl, rfl⟩ | ⟨rfl, rfl⟩ <;> rfl
