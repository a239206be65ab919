/-! ===== worlds with a known beginning: making what comes behind it ===== -/
section EzPrefix
variable {l : Launch} {G : ez_G} {X : ez_X} {uc us pc pc' : Nat} {ls : List (Option Value)} {st : List Value} {h0 l0 l1 : ez_H} {n : Nat} {Q : ez_R → Prop}
def pw_bel (n : Nat) (q : ez_Cell) : Bool := match q with
  | .inl _ => true
  | .inr o => o.2.all (fun v => match v with | .ref k => decide (k < n) | _ => true)
def pw_H (h0 : ez_H) (n : Nat) : Prop := h0.length = n ∧ h0.all (pw_bel n) = true
def pw_old (n : Nat) (ls : List (Option Value)) : Bool := ls.all (fun o => match o with | some v => ez_old n (n + 1) v | none => true)
theorem pw_oks {r : Nat} (hh : pw_H h0 n) (hr : n + l0.length = r) (hl : l0.all (ez_oldc r) = true) (hs : st.all (ez_old r (r + 1)) = true) (hls : pw_old r ls = true) : ez_oks (h0 ++ l0) ls st = true := by
  have hlen : (h0 ++ l0).length = r := by rw [List.length_append, hh.1]; exact hr
  unfold ez_oks
  rw [hlen, List.all_append, hl, hs]
  have h1 : h0.all (ez_oldc r) = true := by
    rw [List.all_eq_true]
    intro q hq
    have h2 := List.all_eq_true.mp hh.2 q hq
    cases q with
    | inl a => rfl
    | inr o =>
      show o.2.all (ez_old r (r + 1)) = true
      rw [List.all_eq_true]
      intro v hv
      have h3 := List.all_eq_true.mp (show o.2.all (fun v => match v with | .ref k => decide (k < n) | _ => true) = true from h2) v hv
      cases v <;> try rfl
      rename_i k
      have h6 : n ≤ r := by omega
      have h5 : @LT.lt Nat instLTNat k n := of_decide_eq_true h3
      have h4 : ¬ r ≤ k := Nat.not_le.mpr (Nat.lt_of_lt_of_le h5 h6)
      simp [ez_old, h4]
  rw [h1]
  simp only [Bool.true_and]
  exact hls
theorem pw_get (hh : pw_H h0 n) {i k : Nat} (hk : n + i = k) {c : ez_Cell} (hl : l0[i]? = some c) : (h0 ++ l0)[k]? = some c := by
  rw [List.getElem?_append_right (by rw [hh.1]; omega), hh.1, ← hk, Nat.add_sub_cancel_left]
  exact hl
theorem pw_set (hh : pw_H h0 n) {i k : Nat} (hk : n + i = k) (c : ez_Cell) : (h0 ++ l0).set k c = h0 ++ l0.set i c := by
  rw [List.set_append_right _ _ (by rw [hh.1]; omega), hh.1, ← hk, Nat.add_sub_cancel_left]
theorem pw_newi {m : Int32} {N r : Nat} (hh : pw_H h0 n) (hd : ez_at X pc (.newarray .int) 2 pc') (harr : Cond.arrayClass .int ∈ ez_T) (hn : ¬ m < 0) (hN : m.toNatClampNeg = N) (hby : N * componentBytes .int ≤ 536870912) (hr : n + l0.length = r) (hlt : r < 900) (b1 : uc + 1 ≤ ez_rc X) (b2 : us + N ≤ ez_rs X) (hl : l0.all (ez_oldc r) = true) (hs : st.all (ez_old r (r + 1)) = true) (hls : pw_old r ls = true) (he : l0 ++ [.inl (.int, (N, .inl fun _ => 0))] = l1)
    (kk : ez_Ev l G X (uc + 1) (us + N) pc' ls (.ref r :: st) (h0 ++ l1) Q) : ez_Ev l G X uc us pc ls (.int m :: st) (h0 ++ l0) Q := by
  have hlen : (h0 ++ l0).length = r := by rw [List.length_append, hh.1]; exact hr
  refine ev_newa (ty := .int) (a0 := (N, .inl fun _ => 0)) hd harr rfl (Or.inl rfl) (fun _ => rfl) hn hN hby (by rw [hlen]; exact hlt) b1 b2 (pw_oks hh hr hl hs hls) ?_
  rw [hlen, List.append_assoc, he]
  exact kk
theorem pw_newz {m : Int32} {N r : Nat} (hh : pw_H h0 n) (hd : ez_at X pc (.newarray .boolean) 2 pc') (harr : Cond.arrayClass .boolean ∈ ez_T) (hn : ¬ m < 0) (hN : m.toNatClampNeg = N) (hby : N * componentBytes .boolean ≤ 536870912) (hr : n + l0.length = r) (hlt : r < 900) (b1 : uc + 1 ≤ ez_rc X) (b2 : us + N ≤ ez_rs X) (hl : l0.all (ez_oldc r) = true) (hs : st.all (ez_old r (r + 1)) = true) (hls : pw_old r ls = true) (he : l0 ++ [.inl (.boolean, (N, .inl fun _ => 0))] = l1)
    (kk : ez_Ev l G X (uc + 1) (us + N) pc' ls (.ref r :: st) (h0 ++ l1) Q) : ez_Ev l G X uc us pc ls (.int m :: st) (h0 ++ l0) Q := by
  have hlen : (h0 ++ l0).length = r := by rw [List.length_append, hh.1]; exact hr
  refine ev_newa (ty := .boolean) (a0 := (N, .inl fun _ => 0)) hd harr rfl (Or.inr (Or.inl rfl)) (fun _ => rfl) hn hN hby (by rw [hlen]; exact hlt) b1 b2 (pw_oks hh hr hl hs hls) ?_
  rw [hlen, List.append_assoc, he]
  exact kk
theorem pw_newl {m : Int32} {N r : Nat} (hh : pw_H h0 n) (hd : ez_at X pc (.newarray .long) 2 pc') (harr : Cond.arrayClass .long ∈ ez_T) (hn : ¬ m < 0) (hN : m.toNatClampNeg = N) (hby : N * componentBytes .long ≤ 536870912) (hr : n + l0.length = r) (hlt : r < 900) (b1 : uc + 1 ≤ ez_rc X) (b2 : us + N ≤ ez_rs X) (hl : l0.all (ez_oldc r) = true) (hs : st.all (ez_old r (r + 1)) = true) (hls : pw_old r ls = true) (he : l0 ++ [.inl (.long, (N, .inr (.inl fun _ => 0)))] = l1)
    (kk : ez_Ev l G X (uc + 1) (us + N) pc' ls (.ref r :: st) (h0 ++ l1) Q) : ez_Ev l G X uc us pc ls (.int m :: st) (h0 ++ l0) Q := by
  have hlen : (h0 ++ l0).length = r := by rw [List.length_append, hh.1]; exact hr
  refine ev_newa (ty := .long) (a0 := (N, .inr (.inl fun _ => 0))) hd harr rfl (Or.inr (Or.inr rfl)) (fun _ => rfl) hn hN hby (by rw [hlen]; exact hlt) b1 b2 (pw_oks hh hr hl hs hls) ?_
  rw [hlen, List.append_assoc, he]
  exact kk
theorem pw_new {index ci N r : Nat} {fs : List Value} (hh : pw_H h0 n) (hd : ez_at X pc (.new index) 3 pc') (hm : ez_mk X.1.cls index ci N fs) (hr : n + l0.length = r) (hlt : r < 900) (b1 : uc + 1 ≤ ez_rc X) (b2 : us + N ≤ ez_rs X) (hl : l0.all (ez_oldc r) = true) (hs : st.all (ez_old r (r + 1)) = true) (hls : pw_old r ls = true) (he : l0 ++ [.inr (ci, fs)] = l1)
    (kk : ez_Ev l G X (uc + 1) (us + N) pc' ls (.ref r :: st) (h0 ++ l1) Q) : ez_Ev l G X uc us pc ls st (h0 ++ l0) Q := by
  have hlen : (h0 ++ l0).length = r := by rw [List.length_append, hh.1]; exact hr
  refine ev_new hd hm (by rw [hlen]; exact hlt) b1 b2 (pw_oks hh hr hl hs hls) ?_
  rw [hlen, List.append_assoc, he]
  exact kk
theorem pw_putF {index ci i j k : Nat} {fs : List Value} {v : Value} {ty : FieldType} (hh : pw_H h0 n) (hd : ez_at X pc (.putfield index) 3 pc') (hf : ez_fld X.1.cls index ci j) (hfl : ∃ (T : u_T) (N : Nat), ez_cl[ci]? = some (X.1.cls, T, N) ∧ Cond.fieldLink X.1.cls index (T j).1 (T j).2.1 (T j).2.2.1 ∈ ez_T) (hX : X.1.name = "<init>") (hty : ez_fty ci j true ty) (hk : n + i = k) (hl : l0[i]? = some (.inr (ci, fs))) (hj : j < fs.length) (hn : ∀ ad, narrow ty (ez_v ad v) = ez_v ad v ∧ fits ty (ez_v ad v) = true) (he : l0.set i (.inr (ci, fs.set j v)) = l1)
    (kk : ez_Ev l G X uc us pc' ls st (h0 ++ l1) Q) : ez_Ev l G X uc us pc ls (v :: .ref k :: st) (h0 ++ l0) Q := by
  refine ev_putF hd hf hfl hX hty (pw_get hh hk hl) hj hn ?_
  rw [pw_set hh hk, he]
  exact kk
theorem pw_putf {index ci i j k : Nat} {fs : List Value} {v : Value} {ty : FieldType} (hh : pw_H h0 n) (hd : ez_at X pc (.putfield index) 3 pc') (hf : ez_fld X.1.cls index ci j) (hty : ez_fty ci j false ty) (hk : n + i = k) (hl : l0[i]? = some (.inr (ci, fs))) (hj : j < fs.length) (hn : ∀ ad, narrow ty (ez_v ad v) = ez_v ad v ∧ fits ty (ez_v ad v) = true) (he : l0.set i (.inr (ci, fs.set j v)) = l1)
    (kk : ez_Ev l G X uc us pc' ls st (h0 ++ l1) Q) : ez_Ev l G X uc us pc ls (v :: .ref k :: st) (h0 ++ l0) Q := by
  refine ev_putf hd hf hty (pw_get hh hk hl) hj hn ?_
  rw [pw_set hh hk, he]
  exact kk
theorem pw_getf {index ci i j k : Nat} {fs : List Value} {v : Value} (hh : pw_H h0 n) (hd : ez_at X pc (.getfield index) 3 pc') (hf : ez_fld X.1.cls index ci j) (hk : n + i = k) (hl : l0[i]? = some (.inr (ci, fs))) (hv : fs[j]? = some v)
    (kk : ez_Ev l G X uc us pc' ls (v :: st) (h0 ++ l0) Q) : ez_Ev l G X uc us pc ls (.ref k :: st) (h0 ++ l0) Q := ev_getf hd hf (pw_get hh hk hl) hv kk
theorem pw_fill {index i k m : Nat} {f : Nat → Int32} {v : Int32} (hh : pw_H h0 n) (hlk : es_lkS X X_JA_fill index 2) (hd : ez_at X pc (.invokestatic index) 3 pc') (hk : n + i = k) (hl : l0[i]? = some (.inl (.int, (m, .inl f)))) (hm : m < 2 ^ 31) (hroom : ez_fits X X_JA_fill uc us) (hX : ez_hs X = []) (hth : uc ≤ ez_mc X ∧ us ≤ ez_ms X) (hrest : (st.map fun v => v.category).sum ≤ 8) (he : l0.set i (.inl (.int, (m, .inl fun j => if j < m then v else f j))) = l1)
    (kk : ez_Ev l G X uc us pc' ls st (h0 ++ l1) Q) : ez_Ev l G X uc us pc ls (.int v :: .ref k :: st) (h0 ++ l0) Q := by
  refine ev_calls (as := [.ref k, .int v]) (rest := st) hlk.1 hlk.2.1 hlk.2.2 hd (c_JA_fillH (pw_get hh hk hl) hm) rfl rfl hroom hrest hX hth (fun w h' hq => ?_) (fun q h' hq => ?_)
  · injection hq with hq1 hq2
    injection hq1 with hq1
    subst hq1
    subst hq2
    refine ⟨by rw [List.length_set]; exact ez_still_eq _ _ _, ?_⟩
    rw [pw_set hh hk, he]
    exact kk
  · injection hq with hq1 hq2
    cases hq1
theorem pw_calli {Y : ez_X} {m index b : Nat} {as rest : List Value} {hin hout : ez_H} (hlk : ez_ok Y m ∧ ez_link X.1.cls index Y.1 ∧ Cond.instanceMethod Y.1 ∈ ez_T) (hy1 : Y.1.name = "<init>") (hyr : Y.2.2.2.1 = none) (hhs : ez_hs Y = []) (hd : ez_at X pc (.invokespecial index) 3 pc') (hC : ez_Ct l G Y (.ref b :: as) hin (fun r => r = (.inl none, hout))) (hs : st = as.reverse ++ .ref b :: rest) (hn : as.length = m) (hroom : ez_fits X Y uc us) (hrest : (rest.map fun v => v.category).sum ≤ 8)
    (hi : h0 ++ l0 = hin) (ho : hout = h0 ++ l1) {a c : Nat} (ha : hin.length = a) (hc : hout.length = c) (h1 : rest.all (ez_old a c) = true) (h2 : ls.all (fun o => match o with | some v => ez_old a c v | none => true) = true)
    (kk : ez_Ev l G X (uc + ez_mc Y) (us + ez_ms Y) pc' ls rest (h0 ++ l1) Q) : ez_Ev l G X uc us pc ls st (h0 ++ l0) Q := by
  subst hi
  refine ev_calli hlk.1 hy1 hyr hhs hlk.2.1 hlk.2.2 hd hC hs hn hroom hrest (fun v h' hq => ?_) (fun k h' hq => ?_)
  · injection hq with hq1 hq2
    injection hq1 with hq1
    subst hq1
    subst hq2
    refine ⟨?_, ?_⟩
    · rw [ha, hc]
      exact ez_still_of h1 h2
    · rw [ho]
      exact kk
  · injection hq with hq1 hq2
    cases hq1
end EzPrefix
