/-! ===== what nobody writes; Math; arraycopy ===== -/
section
variable {l : Launch} {G : ez_G} {X : ez_X} {uc us pc pc' : Nat} {ls : List (Option Value)} {st : List Value} {h : ez_H} {Q : ez_R → Prop}
theorem w_dc : Cond.fieldLinkNest "EditionEqual$Behaviour" 114 "EditionEqual" "DELAY_COLUMNS" "[I" "EditionEqual" ∈ ez_T := ez_r3 (List.mem_of_getElem? (i := 14) rfl) rfl
theorem ev_gdc (hd : ez_at X pc (.getstatic 114) 3 pc') (hX : X.1.cls = "EditionEqual$Behaviour") (kk : ez_Ev l G X uc us pc' ls (.ref 900 :: st) h Q) : ez_Ev l G X uc us pc ls st h Q := by
  obtain ⟨hd, rfl⟩ := hd
  intro p e s m args below meth c A n0 ad0 ad H locs cells slots L I
  have hts := I.1.2.2.2.2.1
  have hown := I.1.2.2.2.1
  rw [hX] at hown
  have k2 := kk p e s m args below meth c A n0 ad0 ad H locs cells slots L I
  have e9 : ad 900 = G.2.2.1 900 := I.2.2.1.2.2 900 (Nat.le_refl _)
  refine va_getsN I.1.1 I.1.2.1 I.2.2.1.1.1.1 I.2.2.2.2.2.2.2.1 hown (hts _ w_dc) (fun _ h => h) hd ?_
  rw [List.map_cons] at k2
  have e10 : ez_v ad (.ref 900) = .ref (G.2.2.1 900) := by simp only [ez_v, e9]
  rw [e10] at k2
  exact k2
theorem ev_tdc {i : Int32} (hd : ez_at X pc .iaload 1 pc') (hin : vp_in i 5) (kk : ez_Ev l G X uc us pc' ls (.int (ez_dc i.toNatClampNeg) :: st) h Q) : ez_Ev l G X uc us pc ls (.int i :: .ref 900 :: st) h Q := by
  obtain ⟨hd, rfl⟩ := hd
  intro p e s m args below meth c A n0 ad0 ad H locs cells slots L I
  have e9 : ad 900 = G.2.2.1 900 := I.2.2.1.2.2 900 (Nat.le_refl _)
  have e10 : ez_v ad (.ref 900) = .ref (G.2.2.1 900) := by simp only [ez_v, e9]
  rw [List.map_cons, List.map_cons, e10]
  exact va_ti I.1.1 I.1.2.1 I.2.2.1.1.1.2 I.2.2.2.2.2.2.2.1 hin rfl hd (kk p e s m args below meth c A n0 ad0 ad H locs cells slots L I)
theorem ev_sld {i : Int32} (hd : ez_at X pc .iaload 1 pc') (hin : vp_in i G.2.2.2.1) (kk : ez_Ev l G X uc us pc' ls (.int (G.2.2.2.2 i.toNatClampNeg) :: st) h Q) : ez_Ev l G X uc us pc ls (.int i :: .ref 901 :: st) h Q := by
  obtain ⟨hd, rfl⟩ := hd
  intro p e s m args below meth c A n0 ad0 ad H locs cells slots L I
  have e9 : ad 901 = G.2.2.1 901 := I.2.2.1.2.2 901 (by omega)
  have e10 : ez_v ad (.ref 901) = .ref (G.2.2.1 901) := by simp only [ez_v, e9]
  rw [List.map_cons, List.map_cons, e10]
  exact va_ti I.1.1 I.1.2.1 I.2.2.1.1.2.2.2.2 I.2.2.2.2.2.2.2.1 hin rfl hd (kk p e s m args below meth c A n0 ad0 ad H locs cells slots L I)
theorem ez_wts {ad : Nat → Nat} : ((st.map (ez_v ad)).map fun v => v.category).sum = (st.map fun v => v.category).sum := by
  have e1 : ((st.map (ez_v ad)).map fun v => v.category) = st.map fun v => v.category := by
    rw [List.map_map]
    exact List.map_congr_left fun v _ => ez_cat ad v
  rw [e1]
theorem ev_copy {index : Nat} {k k1 n n1 : Nat} {f g : Nat → Int32} {sp dp nn : Int32} (hd : ez_at X pc (.invokestatic index) 3 pc') (hl : Cond.methodLink X.1.cls index arraycopyName ∈ ez_T) (h1 : Cond.native arraycopyName ∈ ez_T) (h2 : Cond.static arraycopyName ∈ ez_T) (h3 : Cond.initialized "java/lang/System" ∈ ez_T)
    (hk : h[k]? = some (.inl (.int, (n, .inl f)))) (hk1 : h[k1]? = some (.inl (.int, (n1, .inl g)))) (g1 : ¬ sp < 0) (g2 : ¬ dp < 0) (g3 : ¬ nn < 0) (g4 : sp.toNatClampNeg + nn.toNatClampNeg ≤ n) (g5 : dp.toNatClampNeg + nn.toNatClampNeg ≤ n1) (hroom : 1 ≤ ez_fr X ∧ 64 ≤ ez_lo X) (hw : (st.map fun v => v.category).sum ≤ 8)
    (kk : ez_Ev l G X uc us pc' ls st (h.set k1 (.inl (.int, (n1, .inl (va_cpy f g sp.toNatClampNeg dp.toNatClampNeg nn.toNatClampNeg))))) Q) : ez_Ev l G X uc us pc ls (.int nn :: .int dp :: .ref k1 :: .int sp :: .ref k :: st) h Q := by
  obtain ⟨hd, rfl⟩ := hd
  intro p e s m args below meth c A n0 ad0 ad H locs cells slots L I
  have hts := I.1.2.2.2.2.1
  have hlo : (((st.map (ez_v ad)).map fun v => v.category).sum + (nativeFrameWords "java/lang/System" "arraycopy" 5 + 11)) ≤ ez_lo X := by
    rw [ez_wts]
    have : nativeFrameWords "java/lang/System" "arraycopy" 5 + 11 ≤ 56 := by decide +kernel
    omega
  refine va_copyi I.1.1 I.1.2.1 (by rw [I.1.2.2.1]; exact I.2.2.2.2.2.2.2.2.1.1.symm) I.1.2.2.2.1 (hts _ hl) (hts _ h1) (hts _ h2) (hts _ h3) I.1.2.2.2.2.2.2.2.2.1 I.2.2.2.2.2.1 I.2.2.2.2.2.2.1 I.2.2.2.2.2.2.2.1 k k1 0 0 (ez_ws_get G ad hk) (ez_ws_get G ad hk1) rfl rfl rfl g1 g2 g3 g4 g5 (fun i _ => rfl) hroom.1 hlo hd ?_
  intro H1 locs1 hP1 hD1 hS1
  exact kk p e s m args below meth c A n0 ad0 ad H1 locs1 cells slots L (ez_In_set (q := .inl (.int, (n1, .inl (va_cpy f g sp.toNatClampNeg dp.toNatClampNeg nn.toNatClampNeg)))) I hP1 hD1 hS1)
theorem ev_mmin {index : Nat} {x y : Int32} (hd : ez_at X pc (.invokestatic index) 3 pc') (hl : Cond.methodLink X.1.cls index Lib.Math.min.name ∈ ez_T) (h1 : Cond.static Lib.Math.min.name ∈ ez_T) (h2 : Cond.initialized "java/lang/Math" ∈ ez_T) (h3 : Cond.code Lib.Math.min.name Lib.Math.min.code 2 (some .int) ∈ ez_T) (hroom : 1 ≤ ez_fr X ∧ 24 ≤ ez_lo X) (hw : (st.map fun v => v.category).sum ≤ 8) (hu : uc ≤ ez_rc X ∧ us ≤ ez_rs X)
    (kk : ez_Ev l G X uc us pc' ls (.int (if y < x then y else x) :: st) h Q) : ez_Ev l G X uc us pc ls (.int y :: .int x :: st) h Q := by
  obtain ⟨hd, rfl⟩ := hd
  intro p e s m args below meth c A n0 ad0 ad H locs cells slots L I
  have hts := I.1.2.2.2.2.1
  have hc := I.2.2.2.2.2.2.2.2.2
  exact va_mmin I.1.1 I.1.2.1 (by rw [I.1.2.2.1]; exact I.2.2.2.2.2.2.2.2.1.1.symm) I.1.2.2.2.1 (hts _ hl) (hts _ h1) (hts _ h2) (hts _ h3) hroom.1 (by rw [ez_wts]; show _ ≤ ez_lo X; omega) (by show cells ≤ ez_rc X; omega) (by show slots ≤ ez_rs X; omega) hd (kk p e s m args below meth c A n0 ad0 ad H locs cells slots L I)
theorem ev_mmax {index : Nat} {x y : Int32} (hd : ez_at X pc (.invokestatic index) 3 pc') (hl : Cond.methodLink X.1.cls index Lib.Math.max.name ∈ ez_T) (h1 : Cond.static Lib.Math.max.name ∈ ez_T) (h2 : Cond.initialized "java/lang/Math" ∈ ez_T) (h3 : Cond.code Lib.Math.max.name Lib.Math.max.code 2 (some .int) ∈ ez_T) (hroom : 1 ≤ ez_fr X ∧ 24 ≤ ez_lo X) (hw : (st.map fun v => v.category).sum ≤ 8) (hu : uc ≤ ez_rc X ∧ us ≤ ez_rs X)
    (kk : ez_Ev l G X uc us pc' ls (.int (if x < y then y else x) :: st) h Q) : ez_Ev l G X uc us pc ls (.int y :: .int x :: st) h Q := by
  obtain ⟨hd, rfl⟩ := hd
  intro p e s m args below meth c A n0 ad0 ad H locs cells slots L I
  have hts := I.1.2.2.2.2.1
  have hc := I.2.2.2.2.2.2.2.2.2
  exact va_mmax I.1.1 I.1.2.1 (by rw [I.1.2.2.1]; exact I.2.2.2.2.2.2.2.2.1.1.symm) I.1.2.2.2.1 (hts _ hl) (hts _ h1) (hts _ h2) (hts _ h3) hroom.1 (by rw [ez_wts]; show _ ≤ ez_lo X; omega) (by show cells ≤ ez_rc X; omega) (by show slots ≤ ez_rs X; omega) hd (kk p e s m args below meth c A n0 ad0 ad H locs cells slots L I)
theorem w_mn1 : Cond.methodLink "EditionEqual" 9 ⟨"java/lang/Math", "min", "(II)I"⟩ ∈ ez_T := ez_r1 (List.mem_of_getElem? (i := 24) rfl) rfl
theorem w_mn2 : Cond.static ⟨"java/lang/Math", "min", "(II)I"⟩ ∈ ez_T := ez_r1 (List.mem_of_getElem? (i := 25) rfl) rfl
theorem w_mx1 : Cond.methodLink "EditionEqual" 15 ⟨"java/lang/Math", "max", "(II)I"⟩ ∈ ez_T := ez_r1 (List.mem_of_getElem? (i := 27) rfl) rfl
theorem w_mx2 : Cond.static ⟨"java/lang/Math", "max", "(II)I"⟩ ∈ ez_T := ez_r1 (List.mem_of_getElem? (i := 28) rfl) rfl
theorem w_m3 : Cond.initialized "java/lang/Math" ∈ ez_T := ez_r1 (List.mem_of_getElem? (i := 2) rfl) rfl
theorem w_mn4 : Cond.code Lib.Math.min.name Lib.Math.min.code 2 (some .int) ∈ ez_T := by
  have h : Cond.code ⟨"java/lang/Math", "min", "(II)I"⟩ prog_12_method_69_code 2 (some .int) ∈ ez_T := ez_r1 (List.mem_of_getElem? (i := 26) rfl) rfl
  exact h
theorem w_mx4 : Cond.code Lib.Math.max.name Lib.Math.max.code 2 (some .int) ∈ ez_T := by
  have h : Cond.code ⟨"java/lang/Math", "max", "(II)I"⟩ prog_12_method_65_code 2 (some .int) ∈ ez_T := ez_r1 (List.mem_of_getElem? (i := 29) rfl) rfl
  exact h
end
