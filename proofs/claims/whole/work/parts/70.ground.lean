/-! ===== the claim ===== -/
theorem lb_r1 {w : Cond} (h : w ∈ tables_1_1) : w ∈ lw_tbl := by
  have h1 : w ∈ tables_1 := by
    unfold tables_1
    exact List.mem_append_left _ h
  exact List.mem_append_right _ h1
theorem lb_r2 {w : Cond} (h : w ∈ tables_1_2) : w ∈ lw_tbl := by
  have h1 : w ∈ tables_1 := by
    unfold tables_1
    exact List.mem_append_right _ (List.mem_append_left _ h)
  exact List.mem_append_right _ h1
theorem lb_r3 {w : Cond} (h : w ∈ tables_1_3) : w ∈ lw_tbl := by
  have h1 : w ∈ tables_1 := by
    unfold tables_1
    exact List.mem_append_right _ (List.mem_append_right _ (List.mem_append_left _ h))
  exact List.mem_append_right _ h1
theorem lb_r4 {w : Cond} (h : w ∈ tables_1_4) : w ∈ lw_tbl := by
  have h1 : w ∈ tables_1 := by
    unfold tables_1
    exact List.mem_append_right _ (List.mem_append_right _ (List.mem_append_right _ (List.mem_append_left _ h)))
  exact List.mem_append_right _ h1
theorem lb_r5 {w : Cond} (h : w ∈ tables_1_5) : w ∈ lw_tbl := by
  have h1 : w ∈ tables_1 := by
    unfold tables_1
    exact List.mem_append_right _ (List.mem_append_right _ (List.mem_append_right _ (List.mem_append_right _ (h))))
  exact List.mem_append_right _ h1
theorem lb_str {args : Array Value} {s : State} {k : Nat} {tx : String} (h1 : (Cond.stringRef "EditionEqual" k tx).before args s = true) (h2 : (Cond.exactly (.string "EditionEqual" k) "java/lang/String").before args s = true) : ∃ a, vk_R "EditionEqual" k tx a s := by
  obtain ⟨a, c, cell, kk, ha, -⟩ := Cond.exactly_spec h2
  exact ⟨a, vk_R.of h1 ha⟩
theorem lb_arr {args : Array Value} {s : State} {ty : FieldType} (h : (Cond.arrayClass ty).before args s = true) : ∃ cA, ArrOfT s cA ty ∧ s.vm.findClass ("[" ++ ty.toString) = some cA := by
  obtain ⟨c, k, comp, h1, h2, h3⟩ := Cond.arrayClass_spec h
  exact ⟨c, fun n z => ⟨fun k h => (by cases h), k, h2, comp, h3⟩, h1⟩
theorem lb_dc {args : Array Value} {s : State} {A : Nat → Prop} (hs : ∀ w ∈ flatC (Jvm.Cond.and given_1 narrow_1), w.before args s = true) (hA : ∀ a : Nat, a < s.heap.size → ¬ A a) : ∃ t : Nat, (Term.static "EditionEqual" "DELAY_COLUMNS" "[I").eval args s none [] s = some (.ref t) ∧ va_T .int t 5 (fun j => .int (ez_dc j)) A s s.heap := by
  have h0 : (Cond.arrayOf (.static "EditionEqual" "DELAY_COLUMNS" "[I") .int).before args s = true := hs _ (by decide +kernel)
  have h1 : (Cond.eq (.length (.static "EditionEqual" "DELAY_COLUMNS" "[I")) (.int 5)).before args s = true := hs _ (by decide +kernel)
  have e0 : (Cond.eq (.elem (.static "EditionEqual" "DELAY_COLUMNS" "[I") (.int 0)) (.int (-1431655766))).before args s = true := hs _ (by decide +kernel)
  have e1 : (Cond.eq (.elem (.static "EditionEqual" "DELAY_COLUMNS" "[I") (.int 1)) (.int (-858993460))).before args s = true := hs _ (by decide +kernel)
  have e2 : (Cond.eq (.elem (.static "EditionEqual" "DELAY_COLUMNS" "[I") (.int 2)) (.int (-252645136))).before args s = true := hs _ (by decide +kernel)
  have e3 : (Cond.eq (.elem (.static "EditionEqual" "DELAY_COLUMNS" "[I") (.int 3)) (.int (-16711936))).before args s = true := hs _ (by decide +kernel)
  have e4 : (Cond.eq (.elem (.static "EditionEqual" "DELAY_COLUMNS" "[I") (.int 4)) (.int (-65536))).before args s = true := hs _ (by decide +kernel)
  refine va_Tof (by decide) h0 (Cond.eq_int h1 rfl) (fun j hj => ?_) hA
  rcases (show j = 0 ∨ j = 1 ∨ j = 2 ∨ j = 3 ∨ j = 4 by omega) with rfl | rfl | rfl | rfl | rfl
  · exact (Cond.eq_int e0 rfl).trans (by decide)
  · exact (Cond.eq_int e1 rfl).trans (by decide)
  · exact (Cond.eq_int e2 rfl).trans (by decide)
  · exact (Cond.eq_int e3 rfl).trans (by decide)
  · exact (Cond.eq_int e4 rfl).trans (by decide)
theorem lb_strs {args : Array Value} {s : State} (hts : ∀ w ∈ lw_tbl, w.before args s = true) (hs : ∀ w ∈ flatC (Jvm.Cond.and given_1 narrow_1), w.before args s = true) : ∀ q ∈ ez_str, ∃ a, vk_R q.1 q.2.1 q.2.2 a s := by
  unfold ez_str
  simp only [List.forall_mem_cons]
  exact ⟨lb_str (hts _ (lb_r2 (List.mem_of_getElem? (i := 38) rfl))) (hs _ (by decide +kernel)), lb_str (hts _ (lb_r2 (List.mem_of_getElem? (i := 69) rfl))) (hs _ (by decide +kernel)), lb_str (hts _ (lb_r2 (List.mem_of_getElem? (i := 83) rfl))) (hs _ (by decide +kernel)), lb_str (hts _ (lb_r2 (List.mem_of_getElem? (i := 126) rfl))) (hs _ (by decide +kernel)), lb_str (hts _ (lb_r2 (List.mem_of_getElem? (i := 146) rfl))) (hs _ (by decide +kernel)), lb_str (hts _ (lb_r2 (List.mem_of_getElem? (i := 166) rfl))) (hs _ (by decide +kernel)), lb_str (hts _ (lb_r2 (List.mem_of_getElem? (i := 203) rfl))) (hs _ (by decide +kernel)), lb_str (hts _ (lb_r2 (List.mem_of_getElem? (i := 208) rfl))) (hs _ (by decide +kernel)), lb_str (hts _ (lb_r3 (List.mem_of_getElem? (i := 78) rfl))) (hs _ (by decide +kernel)), lb_str (hts _ (lb_r3 (List.mem_of_getElem? (i := 130) rfl))) (hs _ (by decide +kernel)), lb_str (hts _ (lb_r3 (List.mem_of_getElem? (i := 168) rfl))) (hs _ (by decide +kernel)), lb_str (hts _ (lb_r3 (List.mem_of_getElem? (i := 169) rfl))) (hs _ (by decide +kernel)), lb_str (hts _ (lb_r4 (List.mem_of_getElem? (i := 0) rfl))) (hs _ (by decide +kernel)), fun _ h => absurd h List.not_mem_nil⟩
theorem lb_cls {args : Array Value} {s : State} (hts : ∀ w ∈ ez_T, w.before args s = true) : ∃ (dC : Nat → ClassId) (dI : Nat → Nat → Nat), ∀ (k : Nat) (q : vw_C), ez_cl[k]? = some q → u_Kn s q.1 q.2.1 q.2.2 (dC k) (dI k) := by
  obtain ⟨c0, i0, h0⟩ := u_known (n := 9) hts in_EE (hts _ (ez_r1 (List.mem_of_getElem? (i := 17) rfl) rfl))
  obtain ⟨c1, i1, h1⟩ := u_known (n := 10) hts in_ED (hts _ (ez_r1 (List.mem_of_getElem? (i := 31) rfl) rfl))
  obtain ⟨c2, i2, h2⟩ := u_known (n := 13) hts in_BH (hts _ (ez_r1 (List.mem_of_getElem? (i := 72) rfl) rfl))
  obtain ⟨c3, i3, h3⟩ := u_known (n := 13) hts in_PS (hts _ (ez_r1 (List.mem_of_getElem? (i := 118) rfl) rfl))
  obtain ⟨c4, i4, h4⟩ := u_known (n := 6) hts in_MT (hts _ (ez_r1 (List.mem_of_getElem? (i := 164) rfl) rfl))
  obtain ⟨c5, i5, h5⟩ := u_known (n := 22) hts in_MD (hts _ (ez_r4 (List.mem_of_getElem? (i := 18) rfl) rfl))
  refine ⟨fun k => match k with | 0 => c0 | 1 => c1 | 2 => c2 | 3 => c3 | 4 => c4 | _ => c5, fun k => match k with | 0 => i0 | 1 => i1 | 2 => i2 | 3 => i3 | 4 => i4 | _ => i5, ?_⟩
  intro k q hq
  match k, hq with
  | 0, hq => cases hq; exact h0
  | 1, hq => cases hq; exact h1
  | 2, hq => cases hq; exact h2
  | 3, hq => cases hq; exact h3
  | 4, hq => cases hq; exact h4
  | 5, hq => cases hq; exact h5
  | k + 6, hq => simp [ez_cl] at hq
theorem whole_ro {s : State} {b L : Nat} {xs : Nat → Int32} (hts : ∀ w ∈ lw_tbl, w.before #[Value.ref b] s = true) (hX : va_X b L xs s s.heap) (hbl : b < s.heap.size) (hgv : (Jvm.Cond.and given_1 narrow_1).before #[Value.ref b] s = true) :
    ∃ G : ez_G, G.2.2.2 = (L, xs) ∧ G.2.2.1 901 = b ∧ ez_Ro G (fun q => s.heap.size ≤ q) s s.heap ∧ va_K G.1 ez_cl (ez_tys G) s := by
  have hs := flat_of_before _ hgv
  have hte : ∀ w ∈ ez_T, w.before #[Value.ref b] s = true := fun w hw => hts w (List.mem_filter.mp hw).1
  have hA : ∀ a : Nat, a < s.heap.size → ¬ s.heap.size ≤ a := fun a ha => Nat.not_le.mpr ha
  obtain ⟨t, ht, hT⟩ := lb_dc (A := fun q => s.heap.size ≤ q) hs hA
  obtain ⟨dC, dI, hC⟩ := lb_cls hte
  obtain ⟨cI, a1, a2⟩ := lb_arr (hte _ w_aI)
  obtain ⟨cZ, a3, a4⟩ := lb_arr (hte _ w_aZ)
  obtain ⟨cJ, a5, a6⟩ := lb_arr (hte _ w_aJ)
  obtain ⟨scr, x1, x2, x3, x4, x5⟩ := hX
  refine ⟨((dC, dI), (fun ty => match ty with | .int => cI | .boolean => cZ | _ => cJ), (fun k => if k = 900 then t else b), (L, xs)), rfl, rfl, ⟨⟨?_, hT⟩, ⟨?_, ?_⟩, lb_strs hts hs, va_Nc.of (hs _ (by decide +kernel)), ?_⟩, hC, ?_⟩
  · exact va_Zof (hts _ (lb_r3 (List.mem_of_getElem? (i := 15) rfl))) (hts _ (lb_r1 (List.mem_of_getElem? (i := 1) rfl))) ht hA
  · exact vx_Zqof (hts _ (lb_r2 (List.mem_of_getElem? (i := 25) rfl))) (hts _ (lb_r1 (List.mem_of_getElem? (i := 9) rfl))) (hs _ (by decide +kernel)) hA
  · exact vx_Zqof (hts _ (lb_r2 (List.mem_of_getElem? (i := 27) rfl))) (hts _ (lb_r1 (List.mem_of_getElem? (i := 9) rfl))) (hs _ (by decide +kernel)) hA
  · exact ⟨scr, x1, x2, x3, Nat.le_of_eq x4.symm, by rw [x4], x5, hA b hbl⟩
  · intro k q hq
    match k, hq with
    | 0, hq => cases hq; exact ⟨a1, a2⟩
    | 1, hq => cases hq; exact ⟨a3, a4⟩
    | 2, hq => cases hq; exact ⟨a5, a6⟩
    | k + 3, hq => simp [ez_tys] at hq
