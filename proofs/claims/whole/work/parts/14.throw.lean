/-! ===== throwing and catching ===== -/
section EzThrow
variable {l : Launch} {G : ez_G} {X : ez_X} {uc us pc pc' : Nat} {ls : List (Option Value)} {st : List Value} {h : ez_H} {Q : ez_R → Prop}
/-- 'throw new E("text")', E of kind k, at pc: the entries of its class, its text, its constructor -/
def ez_thr (X : ez_X) (pc k : Nat) : Prop := ∃ (ik is ic : Nat) (text : String),
  Cond.classLink X.1.cls ik (ez_exN k) ∈ ez_T ∧ Cond.initialized (ez_exN k) ∈ ez_T ∧ (X.1.cls, is, text) ∈ ez_str ∧ (∀ w ∈ vx_atS X.1.cls ic (ez_exN k) ["java/lang/RuntimeException", "java/lang/Exception"], w ∈ ez_T) ∧
  (∀ w ∈ Cond.classLink X.1.cls ik (ez_exN k) :: Cond.initialized (ez_exN k) :: vx_atS X.1.cls ic (ez_exN k) ["java/lang/RuntimeException", "java/lang/Exception"], vx_ot w = true) ∧
  Bundle.fit (ez_exN k) = true ∧ decode X.2.1 pc = .ok (.new ik, 3) ∧ decode X.2.1 (pc + 3) = .ok (.dup, 1) ∧ decode X.2.1 (pc + 4) = .ok (.ldc is, 2) ∧ decode X.2.1 (pc + 6) = .ok (.invokespecial ic, 3) ∧ decode X.2.1 (pc + 9) = .ok (.athrow, 1)
theorem ev_throw {k : Nat} (hl : l.stackTraces = false) (ht : ez_thr X pc k) (hX : ez_hs X = []) (hr : (6 ≤ ez_fr X ∧ 84 ≤ ez_lo X) ∧ uc + 1 ≤ ez_rc X ∧ us + 6 ≤ ez_rs X) (hm : uc ≤ ez_mc X ∧ us ≤ ez_ms X) (hst : st = []) (hq : Q (.inr k, h)) : ez_Ev l G X uc us pc ls st h Q := by
  subst hst
  obtain ⟨ik, is, ic, text, w1, w2, w3, w4, w5, w6, d0, d3, d4, d6, d9⟩ := ht
  intro p e s m args below meth c A n0 ad0 ad H locs cells slots L I
  obtain ⟨⟨hx, hb, hml, hown, hts, hret, hlk, hhand, hK, -⟩, hA, ⟨hRo, hh9, had⟩, hn0, hag, hPw, hD, hS, hL, hc1, hs1⟩ := I
  obtain ⟨sa, hsa⟩ := hRo.2.2.1 _ w3
  have hout : ∀ y ∈ c.exceptionTable.toList, covers y (pc + 9) = false := by
    rw [hX] at hhand
    rw [List.map_eq_nil_iff.mp hhand]
    intro y hy
    cases hy
  have k0 := vx_throwS (p := p) (l := l) (e := e) (R := ez_rm X) (s := s) (m := m) (args := args) (below := below) (meth := meth) (c := c) (H := H) (locs := locs) (cells := cells) (slots := slots) (ls := L) (rest := []) (mc := ez_mc X + 1) (ms := ez_ms X + 6) (free := A)
    (Qc := fun _ _ _ _ => False) (XC := fun E st t => E = ez_exN k ∧ H.size ≤ t.heap.size ∧ ∀ q : Nat, q < H.size → t.heap[q]? = H[q]?)
    hx hb hl hown w6 (by decide) (hts _ w1) (hts _ w2) hsa (fun w hw => hts w (w4 w hw)) w5 hRo.2.1.1 hRo.2.1.2 hS (by rw [hml]; exact hL.1) d0 d3 d4 d6 d9 hout
    (by show 2 + 3 < ez_fr X; omega) (by show 0 + (13 * (2 + 1) + 43) ≤ ez_lo X; omega) (by show cells + 1 ≤ ez_rc X; omega) (by show slots + 6 ≤ ez_rs X; omega) hlk (fun t _ h1 h2 => ⟨rfl, h1, h2⟩) hS.2.2 (by omega) (by omega)
  intro T hT S
  obtain ⟨t, a1, o, b1, b2, hq2⟩ := k0 T hT S
  rcases hq2 with ⟨hf, -⟩ | ⟨q, rfl, E, ce, Lc, ⟨rfl, f1, f2⟩, hce, hcv, hcl, hW, hsm, hLc⟩
  · exact hf.elim
  · have hkp : ∀ (j : Nat) (z : Nat × va_E), (ez_ws G ad h)[j]? = some z → t.heap[z.1]? = H[z.1]? := fun j z hz => f2 z.1 (hPw j z hz).lt
    refine ⟨t, a1, .threw q, b1, b2, ⟨(.inr k, h), ad, hq, ⟨hn0, hh9⟩, hag, fun j z hz => (hPw j z hz).kept (hkp j z hz), hD, q, ce, rfl, hce, hcv, by rw [hW.alike.findClass]; exact hcl⟩, ⟨Nat.le_trans hS.1 f1, fun q2 g1 g2 => by rw [f2 q2 (Nat.lt_of_lt_of_le g1 hS.1)]; exact hS.2.1 q2 g1 g2⟩, Lc, ⟨hW, hsm⟩, hLc⟩
/-- an exception of kind k is caught here by the handler at hp, whose first instruction stores it; rows: (from, to, handler, class's entry) -/
theorem ez_Th_catch {k hp i : Nat} {pre suf : List (Nat × Nat × Nat × Nat)} {x : Nat × Nat × Nat × Nat} (hX : ez_hs X = pre ++ x :: suf) (hpre : ∀ z ∈ pre, z.2.2.2 ≠ 0 ∧ k = 1 ∧ Cond.classLink X.1.cls z.2.2.2 "java/lang/IllegalArgumentException" ∈ ez_T) (hx : (x.1 ≤ pc ∧ pc < x.2.1) ∧ x.2.2.1 = hp ∧ x.2.2.2 ≠ 0)
    (hlink : Cond.classLink X.1.cls x.2.2.2 (ez_exN k) ∈ ez_T) (hcast : Cond.castable (ez_exN k) (ez_exN k) ∈ ez_T) (hi : i < X.2.2.1) (hd : (∃ f : Fin 4, decode X.2.1 hp = .ok (.astore_n f, 1) ∧ (f : Nat) = i ∧ hp + 1 = pc') ∨ (decode X.2.1 hp = .ok (.astore i, 2) ∧ hp + 2 = pc'))
    (kk : ez_Ev l G X uc us pc' (ls.set i none) [] h Q) : ez_Th l G X uc us pc ls h k Q := by
  intro p e s m args below meth c A n0 ad0 ad H locs cells slots L st q cell T I hc1 hc2 hc3 hT S
  have hts := I.1.2.2.2.2.1
  have hown := I.1.2.2.2.1
  have hhand := I.1.2.2.2.2.2.2.2.1
  rw [hX] at hhand
  obtain ⟨pre', r1, e1, e2, e3⟩ := List.map_eq_append_iff.mp hhand
  obtain ⟨x', suf', e4, e5, e6⟩ := List.map_eq_cons_iff.mp e3
  subst e4
  have hcov : covers x' pc = true := by
    have h1 := congrArg (fun z : Nat × Nat × Nat × Nat => z.1) e5
    have h2 := congrArg (fun z : Nat × Nat × Nat × Nat => z.2.1) e5
    dsimp only at h1 h2
    simp only [covers, Bool.and_eq_true, decide_eq_true_eq]
    omega
  have hct : x'.catchType = x.2.2.2 := congrArg (fun z : Nat × Nat × Nat × Nat => z.2.2.2) e5
  have hhp : x'.handlerPc = hp := (congrArg (fun z : Nat × Nat × Nat × Nat => z.2.2.1) e5).trans hx.2.1
  have hL0 : lv_has L X.2.2.1 (ez_lv ad ls) := ez_lv_has I.2.2.2.2.2.2.2.2.1
  have hput : ∀ (L' : Array Slot) (y : Nat), lv_has L' X.2.2.1 ((i, Value.ref y) :: (ez_lv ad ls).filter (fun q => !(q.1 == i) && !(q.1 + 1 == i && q.2.category == 2))) → ez_L ad X.2.2.1 (ls.set i none) L' := by
    intro L' y hl'
    refine ⟨hl'.1, hl'.2.1, fun j w hj => ?_⟩
    rw [List.getElem?_set] at hj
    by_cases hij : i = j
    · subst hij
      rw [if_pos rfl] at hj
      split at hj <;> cases hj
    · rw [if_neg hij] at hj
      have h1 := (I.2.2.2.2.2.2.2.2.1.2.2 j w hj).1
      refine ⟨h1, hl'.2.2 (j, ez_v ad w) (List.mem_cons_of_mem _ (List.mem_filter.mpr ⟨ez_lv_in hj, ?_⟩))⟩
      have h2 : ¬ (ez_v ad w).category = 2 := by rw [ez_cat, h1]; decide
      simp [h2, Ne.symm hij]
  have kw : W p l e (ez_rm X) s m args below meth c H locs cells slots (ez_MQ X below s A (ez_Fin G A n0 ad0 Q)) (F0 m x'.handlerPc L [.ref q]) := by
    rw [hhp]
    rcases hd with ⟨f, hd, hf, rfl⟩ | ⟨hd, rfl⟩
    · exact lv_astore_n I.1.1 I.1.2.1 hd hf hL0 hi rfl (fun L' hL' => kk p e s m args below meth c A n0 ad0 ad H locs cells slots L' (ez_In_ls I (hput L' q hL')))
    · exact lv_astore I.1.1 I.1.2.1 hd hL0 hi rfl (fun L' hL' => kk p e s m args below meth c A n0 ad0 ad H locs cells slots L' (ez_In_ls I (hput L' q hL')))
  have kc := vx_catch (E := ez_exN k) (name := ez_exN k) (ce := cell) (q := q) (rest := st) (pc := pc) (ls := L) hown pre' x' suf' e1 (fun z hz => ?_) hcov (by rw [hct]; exact hx.2.2) (by rw [hct]; exact hts _ hlink) (hts _ hcast) hc1 hc2 hc3 kw
  · exact kc T hT S
  · have hz2 : (z.startPc, z.endPc, z.handlerPc, z.catchType) ∈ pre := by
      rw [← e2]
      exact List.mem_map.mpr ⟨z, hz, rfl⟩
    obtain ⟨g1, g2, g3⟩ := hpre _ hz2
    subst g2
    exact Or.inr ⟨g1, _, hts _ g3, I.2.2.1.1.2.2.2.1⟩
end EzThrow
