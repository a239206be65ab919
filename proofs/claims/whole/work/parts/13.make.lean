/-! ===== making cells: new, newarray, final fields, Object's constructor ===== -/
section EzMake
variable {l : Launch} {G : ez_G} {X : ez_X} {uc us pc pc' : Nat} {ls : List (Option Value)} {st : List Value} {h : ez_H} {Q : ez_R → Prop}
def ez_oldc (n : Nat) (q : ez_Cell) : Bool := match q with
  | .inl _ => true
  | .inr o => o.2.all (ez_old n (n + 1))
def ez_oks (h : ez_H) (ls : List (Option Value)) (st : List Value) : Bool :=
  h.all (ez_oldc h.length) && (st.all (ez_old h.length (h.length + 1)) && ls.all (fun o => match o with | some v => ez_old h.length (h.length + 1) v | none => true))
def ez_adn (ad : Nat → Nat) (n q : Nat) : Nat → Nat := fun k => if k = n then q else ad k
theorem ez_adn_eq (ad : Nat → Nat) (n q : Nat) : ∀ k, ¬ (n ≤ k ∧ k < n + 1) → ez_adn ad n q k = ad k := fun k hk => if_neg (by omega)
theorem ez_ws_push (G : ez_G) (ad : Nat → Nat) (h : ez_H) (q : Nat) (cell : ez_Cell) (hok : h.all (ez_oldc h.length) = true) : ez_ws G (ez_adn ad h.length q) (h ++ [cell]) = ez_ws G ad h ++ [(q, ez_e G.2.1 (ez_adn ad h.length q) cell)] := by
  unfold ez_ws
  rw [List.mapIdx_append]
  congr 1
  · apply List.ext_getElem?
    intro j
    simp only [List.getElem?_mapIdx]
    cases hj : h[j]? with
    | none => rfl
    | some c =>
      simp only [Option.map_some]
      have hlt := (List.getElem?_eq_some_iff.mp hj).1
      have hc := List.all_eq_true.mp hok c (List.mem_of_getElem? hj)
      have e1 : ez_adn ad h.length q j = ad j := if_neg (by omega)
      have e2 : ez_e G.2.1 (ez_adn ad h.length q) c = ez_e G.2.1 ad c := by
        cases c with
        | inl a => rfl
        | inr o =>
          show (Sum.inr (o.1, o.2.map (ez_v (ez_adn ad h.length q))) : va_E) = Sum.inr (o.1, o.2.map (ez_v ad))
          rw [List.map_congr_left fun v hv => ez_old_eq (List.all_eq_true.mp hc v hv) (ez_adn_eq ad h.length q)]
      rw [e1, e2]
  · simp [ez_adn]
theorem ez_In_push {n : Nat} {p : Program} {s : State} {m : MethodId} {args : Array Value} {meth : Method} {c : Code} {A : Nat → Prop} {n0 : Nat} {ad0 ad : Nat → Nat} {H H1 : Heap} {locs : List Loc} {cells slots q : Nat} {cell : ez_Cell} {L : Array Slot}
    (I : ez_In G X uc us ls h p s m args meth c A n0 ad0 ad H locs cells slots L) (hok : ez_oks h ls st = true) (hlt : h.length < 900)
    (hP1 : va_P G.1 ez_cl (ez_ws G ad h ++ [(q, ez_e G.2.1 (ez_adn ad h.length q) cell)]) H1) (hD1 : va_D A (ez_ws G ad h ++ [(q, ez_e G.2.1 (ez_adn ad h.length q) cell)])) (hS1 : va_S A s.heap H1 locs) :
    ez_In G X (uc + 1) (us + n) ls (h ++ [cell]) p s m args meth c A n0 ad0 (ez_adn ad h.length q) H1 locs (cells + 1) (slots + n) L ∧ st.map (ez_v (ez_adn ad h.length q)) = st.map (ez_v ad) := by
  unfold ez_oks at hok
  simp only [Bool.and_eq_true] at hok
  obtain ⟨h1, h2, h3⟩ := hok
  obtain ⟨r1, r2⟩ := ez_still_of h2 h3 ad (ez_adn ad h.length q) (ez_adn_eq ad h.length q)
  obtain ⟨hctx, hA, ⟨hRo, hh9, had⟩, hn0, hag, hPw, hD, hS, hL, hc1, hs1⟩ := I
  have hlen : (h ++ [cell]).length = h.length + 1 := by simp
  refine ⟨⟨hctx, hA, ⟨hRo, by omega, fun k hk => by rw [ez_adn_eq ad h.length q k (by omega)]; exact had k hk⟩, by omega, fun k hk => ?_, by rw [ez_ws_push G ad h q cell h1]; exact hP1, by rw [ez_ws_push G ad h q cell h1]; exact hD1, hS1,
    ⟨hL.1, hL.2.1, fun i v hi => by rw [r2 i v hi]; exact hL.2.2 i v hi⟩, by omega, by omega⟩, r1⟩
  rw [hlen] at hk
  rw [ez_adn_eq ad h.length q k (by omega)]
  exact hag k (by omega)
def ez_mk (own : String) (index ci N : Nat) (fs : List Value) : Prop := ∃ (C : String) (T : u_T) (ty : Nat → FieldType), ez_cl[ci]? = some (C, T, N) ∧ (∀ w ∈ u_ws C T N, w ∈ ez_T) ∧ (∀ k, k < N → parseFieldDescriptor (T k).2.2.1 = some (ty k)) ∧
  Cond.classLink own index C ∈ ez_T ∧ Cond.instantiable C N ∈ ez_T ∧ Cond.initialized C ∈ ez_T ∧ (∀ j, j < N → defaultValue (ty j) = vp_V fs j) ∧ fs.all (fun v => match v with | .ref _ => false | _ => true) = true
theorem ez_norefs {fs : List Value} (hf : fs.all (fun v => match v with | .ref _ => false | _ => true) = true) (ad : Nat → Nat) : fs.map (ez_v ad) = fs := by
  have : ∀ v ∈ fs, ez_v ad v = v := fun v hv => by
    have := List.all_eq_true.mp hf v hv
    cases v <;> first | rfl | cases this
  rw [List.map_congr_left this, List.map_id']
theorem ev_new {index ci N : Nat} {fs : List Value} (hd : ez_at X pc (.new index) 3 pc') (hm : ez_mk X.1.cls index ci N fs) (hlt : h.length < 900) (b1 : uc + 1 ≤ ez_rc X) (b2 : us + N ≤ ez_rs X) (hok : ez_oks h ls st = true)
    (kk : ez_Ev l G X (uc + 1) (us + N) pc' ls (.ref h.length :: st) (h ++ [.inr (ci, fs)]) Q) : ez_Ev l G X uc us pc ls st h Q := by
  obtain ⟨hd, rfl⟩ := hd
  obtain ⟨C, T, ty, hc, hin, hty, hcl, hinst, hini, hfs, hnr⟩ := hm
  intro p e s m args below meth c A n0 ad0 ad H locs cells slots L I
  have hts := I.1.2.2.2.2.1
  have hc2 := I.2.2.2.2.2.2.2.2.2
  refine va_new I.1.1 I.1.2.1 hts hin ty hty I.1.2.2.2.1 (hts _ hcl) (hts _ hinst) (hts _ hini) I.1.2.2.2.2.2.2.2.2.1 I.2.2.2.2.2.1 I.2.2.2.2.2.2.1 I.2.2.2.2.2.2.2.1 I.2.1 hc hfs (by show cells + 1 ≤ ez_rc X; omega) (by show slots + N ≤ ez_rs X; omega) hd ?_
  intro q H1 hP1 hD1 hS1
  have e1 : (Sum.inr (ci, fs) : va_E) = ez_e G.2.1 (ez_adn ad h.length q) (.inr (ci, fs)) := by
    show _ = (Sum.inr (ci, fs.map (ez_v (ez_adn ad h.length q))) : va_E)
    rw [ez_norefs hnr]
  rw [e1] at hP1 hD1
  obtain ⟨I', r1⟩ := ez_In_push (st := st) I hok hlt hP1 hD1 hS1
  have := kk p e s m args below meth c A n0 ad0 (ez_adn ad h.length q) H1 locs (cells + 1) (slots + N) L I'
  rw [List.map_cons, r1] at this
  have e2 : ez_v (ez_adn ad h.length q) (.ref h.length) = .ref q := by simp [ez_v, ez_adn]
  rw [e2] at this
  exact this
theorem ez_cA {tys : List (ClassId × FieldType)} {D : va_G} {cl : List vw_C} {U : State} {c1 c2 : ClassId} {ty : FieldType} (hK : va_K D cl tys U) {i j : Nat} (h1 : tys[i]? = some (c1, ty)) (h2 : tys[j]? = some (c2, ty)) (hp : ty = .int ∨ ty = .boolean ∨ ty = .long) : c1 = c2 := by
  have a1 := (hK.2 i _ h1).2
  have a2 := (hK.2 j _ h2).2
  rcases hp with rfl | rfl | rfl <;> exact Option.some.inj (a1.symm.trans a2)
theorem ev_newa {atype : ArrayType} {ty : FieldType} {n : Int32} {N : Nat} {a0 : vp_A} (hd : ez_at X pc (.newarray atype) 2 pc') (harr : Cond.arrayClass (newarray.typeOf atype) ∈ ez_T) (hty : newarray.typeOf atype = ty) (hp : ty = .int ∨ ty = .boolean ∨ ty = .long) (ha : ∀ cA : ClassId, vp_cell cA a0 = arrV cA N (fun _ => defaultValue ty)) (hn : ¬ n < 0) (hN : n.toNatClampNeg = N) (hby : N * componentBytes ty ≤ 536870912)
    (hlt : h.length < 900) (b1 : uc + 1 ≤ ez_rc X) (b2 : us + N ≤ ez_rs X) (hok : ez_oks h ls st = true)
    (kk : ez_Ev l G X (uc + 1) (us + N) pc' ls (.ref h.length :: st) (h ++ [.inl (ty, a0)]) Q) : ez_Ev l G X uc us pc ls (.int n :: st) h Q := by
  obtain ⟨hd, rfl⟩ := hd
  intro p e s m args below meth c A n0 ad0 ad H locs cells slots L I
  have hts := I.1.2.2.2.2.1
  have hc2 := I.2.2.2.2.2.2.2.2.2
  refine va_newa I.1.1 I.1.2.1 (hts _ harr) hty I.1.2.2.2.2.2.2.2.2.1 I.2.2.2.2.2.1 I.2.2.2.2.2.2.1 I.2.2.2.2.2.2.2.1 I.2.1 ha hn hN hby (by show cells + 1 ≤ ez_rc X; omega) (by show slots + N ≤ ez_rs X; omega) hd ?_
  intro q cA H1 hK1 hP1 hD1 hS1
  have e0 : cA = G.2.1 ty := by
    have h2 : (ez_tys G ++ [(cA, ty)])[3]? = some (cA, ty) := rfl
    rcases hp with rfl | rfl | rfl
    · exact ez_cA hK1 (i := 3) (j := 0) h2 rfl (Or.inl rfl)
    · exact ez_cA hK1 (i := 3) (j := 1) h2 rfl (Or.inr (Or.inl rfl))
    · exact ez_cA hK1 (i := 3) (j := 2) h2 rfl (Or.inr (Or.inr rfl))
  subst e0
  obtain ⟨I', r1⟩ := ez_In_push (st := st) (cell := .inl (ty, a0)) I hok hlt hP1 hD1 hS1
  have := kk p e s m args below meth c A n0 ad0 (ez_adn ad h.length q) H1 locs (cells + 1) (slots + N) L I'
  rw [List.map_cons, r1] at this
  have e2 : ez_v (ez_adn ad h.length q) (.ref h.length) = .ref q := by simp [ez_v, ez_adn]
  rw [e2] at this
  exact this
theorem ev_putF {index ci j k : Nat} {fs : List Value} {v : Value} {ty : FieldType} (hd : ez_at X pc (.putfield index) 3 pc') (hf : ez_fld X.1.cls index ci j) (hfl : ∃ (T : u_T) (N : Nat), ez_cl[ci]? = some (X.1.cls, T, N) ∧ Cond.fieldLink X.1.cls index (T j).1 (T j).2.1 (T j).2.2.1 ∈ ez_T) (hX : X.1.name = "<init>") (hty : ez_fty ci j true ty) (hk : h[k]? = some (.inr (ci, fs))) (hl : j < fs.length) (hn : ∀ ad, narrow ty (ez_v ad v) = ez_v ad v ∧ fits ty (ez_v ad v) = true)
    (kk : ez_Ev l G X uc us pc' ls st (h.set k (.inr (ci, fs.set j v))) Q) : ez_Ev l G X uc us pc ls (v :: .ref k :: st) h Q := by
  obtain ⟨hd, rfl⟩ := hd
  obtain ⟨C, T, N, hc, hj, hin, -⟩ := hf
  obtain ⟨C', T', N', ty0, hc', ht0, hnm, hfin, hty, hC⟩ := hty
  cases hc.symm.trans hc'
  obtain ⟨T2, N2, hc2, hlk⟩ := hfl
  cases hc.symm.trans hc2
  intro p e s m args below meth c A n0 ad0 ad H locs cells slots L I
  have hlen : j < (fs.map (ez_v ad)).length := by rw [List.length_map]; exact hl
  refine va_putF I.1.1 I.1.2.1 I.1.2.2.2.2.1 hin ty0 ht0 hnm I.1.2.2.2.1 I.1.2.2.2.2.2.2.2.2.1 I.2.2.2.2.2.1 I.2.2.2.2.2.2.1 I.2.2.2.2.2.2.2.1 k (ez_ws_get G ad hk) hc j hj (I.1.2.2.2.2.1 _ hlk) (fun _ h => h) hfin (I.1.2.2.2.2.2.2.2.2.2.trans hX) hC hty (hn ad).1 (hn ad).2 hlen hd ?_
  intro H1 locs1 hP1 hD1 hS1
  rw [ez_e_set G.2.1] at hP1 hD1
  exact kk p e s m args below meth c A n0 ad0 ad H1 locs1 cells slots L (ez_In_set I hP1 hD1 hS1)
theorem ev_objInit {index k : Nat} (hd : ez_at X pc (.invokespecial index) 3 pc') (h1 : Cond.methodLink X.1.cls index Lib.objectInit ∈ ez_T) (h2 : Cond.instanceMethod Lib.objectInit ∈ ez_T) (h3 : Cond.code Lib.objectInit ⟨#[0xb1]⟩ 1 none ∈ ez_T) (hw : (st.map fun v => v.category).sum ≤ 8) (hf : 1 ≤ ez_fr X ∧ 20 ≤ ez_lo X)
    (kk : ez_Ev l G X uc us pc' ls st h Q) : ez_Ev l G X uc us pc ls (.ref k :: st) h Q := by
  obtain ⟨hd, rfl⟩ := hd
  intro p e s m args below meth c A n0 ad0 ad H locs cells slots L I
  have hts := I.1.2.2.2.2.1
  have hw' : ((st.map (ez_v ad)).map fun v => v.category).sum ≤ 8 := by
    have e1 : ((st.map (ez_v ad)).map fun v => v.category) = st.map fun v => v.category := by
      rw [List.map_map]
      exact List.map_congr_left fun v _ => ez_cat ad v
    rw [e1]
    exact hw
  exact W.objInit I.1.1 I.1.2.1 I.1.2.2.2.1 (hts _ h1) (hts _ h2) (hts _ h3) rfl (by rw [I.1.2.2.1]; exact I.2.2.2.2.2.2.2.2.1.1) rfl hd hf.1 (by show 2 * 0 + ((st.map (ez_v ad)).map fun v => v.category).sum + 12 ≤ ez_lo X; have := hf.2; omega) (kk p e s m args below meth c A n0 ad0 ad H locs cells slots L I)
end EzMake
