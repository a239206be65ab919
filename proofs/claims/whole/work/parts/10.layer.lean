/-! ===== THE LAYER: a method's run over a world that is a list of cells, each known by its place ===== -/
/-- a cell: an array (its type, its length and contents), or an object (its class's number, its fields); '.ref k' in it is the cell at place k -/
abbrev ez_Cell : Type := (FieldType × vp_A) ⊕ (Nat × List Value)
abbrev ez_H : Type := List ez_Cell
/-- a method: name, bytes, number of locals, what it returns, handlers; its room: frames, words; cells, slots that must be free; cells, slots that it makes where it returns (one of six slots more where it throws) -/
abbrev ez_X : Type := MethodName × ByteArray × Nat × Option FieldType × List (Nat × Nat × Nat × Nat) × (Nat × Nat × Nat × Nat × Nat × Nat)
abbrev ez_hs (X : ez_X) : List (Nat × Nat × Nat × Nat) := X.2.2.2.2.1
abbrev ez_fr (X : ez_X) : Nat := X.2.2.2.2.2.1
abbrev ez_lo (X : ez_X) : Nat := X.2.2.2.2.2.2.1
abbrev ez_rc (X : ez_X) : Nat := X.2.2.2.2.2.2.2.1
abbrev ez_rs (X : ez_X) : Nat := X.2.2.2.2.2.2.2.2.1
abbrev ez_mc (X : ez_X) : Nat := X.2.2.2.2.2.2.2.2.2.1
abbrev ez_ms (X : ez_X) : Nat := X.2.2.2.2.2.2.2.2.2.2
def ez_rm (X : ez_X) : Room := { frames := ez_fr X, cells := ez_rc X, slots := ez_rs X, locals := ez_lo X }
def ez_kc (X : ez_X) (o : Outcome) : Nat := match o with
  | .returned _ => ez_mc X
  | .threw _ => ez_mc X + 1
def ez_ks (X : ez_X) (o : Outcome) : Nat := match o with
  | .returned _ => ez_ms X
  | .threw _ => ez_ms X + 6
/-- how a method ends: a value, or an exception of a kind; and the world then -/
abbrev ez_R : Type := (Option Value ⊕ Nat) × ez_H
def ez_v (ad : Nat → Nat) (v : Value) : Value := match v with
  | .ref k => .ref (ad k)
  | w => w
def ez_e (cA : FieldType → ClassId) (ad : Nat → Nat) (q : ez_Cell) : va_E := match q with
  | .inl a => .inl (cA a.1, a.2)
  | .inr o => .inr (o.1, o.2.map (ez_v ad))
def ez_ws (G : ez_G) (ad : Nat → Nat) (h : ez_H) : va_W := h.mapIdx fun k q => (ad k, ez_e G.2.1 ad q)
theorem ez_cat (ad : Nat → Nat) (v : Value) : (ez_v ad v).category = v.category := by cases v <;> rfl
theorem ez_ws_get (G : ez_G) (ad : Nat → Nat) {h : ez_H} {k : Nat} {q : ez_Cell} (hk : h[k]? = some q) : (ez_ws G ad h)[k]? = some (ad k, ez_e G.2.1 ad q) := by
  simp [ez_ws, hk]
theorem ez_ws_of (G : ez_G) (ad : Nat → Nat) {h : ez_H} {k : Nat} {q : Nat × va_E} (hk : (ez_ws G ad h)[k]? = some q) : ∃ c, h[k]? = some c ∧ q = (ad k, ez_e G.2.1 ad c) := by
  simp only [ez_ws, List.getElem?_mapIdx] at hk
  cases hc : h[k]? with
  | none => rw [hc] at hk; cases hk
  | some c => rw [hc] at hk; exact ⟨c, rfl, (Option.some.inj hk).symm⟩
theorem ez_ws_set (G : ez_G) (ad : Nat → Nat) (h : ez_H) (k : Nat) (q : ez_Cell) : ez_ws G ad (h.set k q) = (ez_ws G ad h).set k (ad k, ez_e G.2.1 ad q) := by
  apply List.ext_getElem?
  intro j
  simp only [ez_ws, List.getElem?_mapIdx, List.getElem?_set, List.length_mapIdx]
  by_cases hj : k = j
  · subst hj
    by_cases hl : k < h.length <;> simp [hl]
  · simp [hj]
theorem ez_ws_len (G : ez_G) (ad : Nat → Nat) (h : ez_H) : (ez_ws G ad h).length = h.length := by simp [ez_ws]
/-! the words that stay -/
def ez_gw (w : Cond) : Bool := goodWord w || (match w with
  | .fieldLinkNest .. => true
  | .methodLinkNest .. => true
  | .castable .. => true
  | .declares _ => true
  | _ => false)
def ez_T : List Cond := lw_tbl.filter ez_gw
theorem ez_gw_keep {w : Cond} (hw : ez_gw w = true) {args a' : Array Value} {s U : State} (hW : s.WarmedH U.vm) (h : w.before args s = true) : w.before a' U = true := by
  unfold ez_gw at hw
  rw [Bool.or_eq_true] at hw
  rcases hw with g | g
  · exact word_at hW (good_of_word g) h
  · cases w <;> first
      | exact absurd g Bool.false_ne_true
      | exact va_Nw.use rfl (va_Nw.warmF hW (va_Nw.of rfl h))
      | exact va_Nw.use rfl (va_Nw.warmM hW (va_Nw.of rfl h))
      | exact va_Nw.use rfl (va_Nw.warmC hW (va_Nw.of rfl h))
      | exact va_Nw.use rfl (va_Nw.warmD hW (va_Nw.of rfl h))
theorem ez_T_keep {args : Array Value} {s : State} (hts : ∀ w ∈ ez_T, w.before args s = true) : ∀ w ∈ ez_T, ∀ (a' : Array Value) (U : State), s.WarmedH U.vm → w.before a' U = true :=
  fun w hw _ _ hW => ez_gw_keep (List.mem_filter.mp hw).2 hW (hts w hw)
theorem ez_in (i : Nat) {w : Cond} (h : lw_tbl[i]? = some w) (hg : ez_gw w = true) : w ∈ ez_T := List.mem_filter.mpr ⟨List.mem_of_getElem? h, hg⟩
/-! a method's surroundings -/
def ez_tys (G : ez_G) : List (ClassId × FieldType) := [(G.2.1 .int, .int), (G.2.1 .boolean, .boolean), (G.2.1 .long, .long)]
def ez_ctx (G : ez_G) (X : ez_X) (p : Program) (s : State) (m : MethodId) (args : Array Value) (meth : Method) (c : Code) : Prop :=
  p.tables.exec = Jvm.exec ∧ c.code = X.2.1 ∧ c.maxLocals = X.2.2.1 ∧ s.vm.findClass X.1.cls = some m.cls ∧ (∀ w ∈ ez_T, w.before args s = true) ∧ meth.sig.returnType = X.2.2.2.1 ∧ meth.locks = false ∧
  c.exceptionTable.toList.map (fun h => (h.startPc, h.endPc, h.handlerPc, h.catchType)) = ez_hs X ∧ va_K G.1 ez_cl (ez_tys G) s ∧ meth.name = X.1.name
def ez_L (ad : Nat → Nat) (n : Nat) (ls : List (Option Value)) (L : Array Slot) : Prop :=
  L.size = n ∧ lv_wf L ∧ ∀ (i : Nat) (v : Value), ls[i]? = some (some v) → v.category = 1 ∧ L[i]? = some (.val (ez_v ad v))
def ez_In (G : ez_G) (X : ez_X) (uc us : Nat) (ls : List (Option Value)) (h : ez_H) (p : Program) (s : State) (m : MethodId) (args : Array Value) (meth : Method) (c : Code)
    (A : Nat → Prop) (n0 : Nat) (ad0 ad : Nat → Nat) (H : Heap) (locs : List Loc) (cells slots : Nat) (L : Array Slot) : Prop :=
  ez_ctx G X p s m args meth c ∧ (∀ q, s.heap.size ≤ q → A q) ∧ (ez_Ro G A s s.heap ∧ h.length ≤ 900 ∧ ∀ k, 900 ≤ k → ad k = G.2.2.1 k) ∧ n0 ≤ h.length ∧ (∀ k, ¬ (n0 ≤ k ∧ k < h.length) → ad k = ad0 k) ∧
  va_P G.1 ez_cl (ez_ws G ad h) H ∧ va_D A (ez_ws G ad h) ∧ va_S A s.heap H locs ∧ ez_L ad X.2.2.1 ls L ∧ cells ≤ uc ∧ slots ≤ us
def ez_exN (k : Nat) : String := if k = 0 then "java/lang/IllegalArgumentException" else "java/lang/IllegalStateException"
def ez_out (ad : Nat → Nat) (r : Option Value ⊕ Nat) (o : Outcome) (t : State) : Prop := match r with
  | .inl v => o = .returned (v.map (ez_v ad))
  | .inr k => ∃ (x : Addr) (cell : Cell), o = .threw x ∧ t.heap[x]? = some cell ∧ cell.vm = .none ∧ t.vm.findClass (ez_exN k) = some cell.cls
def ez_Fin (G : ez_G) (A : Nat → Prop) (n0 : Nat) (ad0 : Nat → Nat) (Q : ez_R → Prop) (o : Outcome) (t : State) : Prop :=
  ∃ (r : ez_R) (ad : Nat → Nat), Q r ∧ (n0 ≤ r.2.length ∧ r.2.length ≤ 900) ∧ (∀ k, ¬ (n0 ≤ k ∧ k < r.2.length) → ad k = ad0 k) ∧ va_P G.1 ez_cl (ez_ws G ad r.2) t.heap ∧ va_D A (ez_ws G ad r.2) ∧ ez_out ad r.1 o t
def ez_MQ (X : ez_X) (below : List Frame) (s : State) (A : Nat → Prop) (F : Outcome → State → Prop) : State → Prop := fun t =>
  ∃ o, t.status = .running ∧ Ended t below o ∧ F o t ∧ va_F A s t ∧ ∃ L, (s.WarmedH t.vm ∧ s.sameButNew ({ t with vm := s.vm } : State) L (ez_kc X o) (ez_ks X o)) ∧ ∀ q ∈ L, A q.base
/-- from this frame, over this world, the method comes to its end, and Q is true of how it ends -/
def ez_Ev (l : Launch) (G : ez_G) (X : ez_X) (uc us pc : Nat) (ls : List (Option Value)) (st : List Value) (h : ez_H) (Q : ez_R → Prop) : Prop :=
  ∀ (p : Program) (e : Env) (s : State) (m : MethodId) (args : Array Value) (below : List Frame) (meth : Method) (c : Code) (A : Nat → Prop) (n0 : Nat) (ad0 ad : Nat → Nat) (H : Heap) (locs : List Loc) (cells slots : Nat) (L : Array Slot),
    ez_In G X uc us ls h p s m args meth c A n0 ad0 ad H locs cells slots L →
    W p l e (ez_rm X) s m args below meth c H locs cells slots (ez_MQ X below s A (ez_Fin G A n0 ad0 Q)) (F0 m pc L (st.map (ez_v ad)))
/-! a contract -/
def ez_Met (l : Launch) (X : ez_X) (Pc : Array Value → State → Prop) (Qc : State → Outcome → State → Prop) (free : Addr → Prop) : Prop :=
  MetFree l X.1 (headSpec ez_T (ez_rm X)) Pc (fun _ _ _ _ _ => True) (fun _ st o t => Qc st o t ∧ ∃ L, (st.WarmedH t.vm ∧ st.sameButNew ({ t with vm := st.vm } : State) L (ez_kc X o) (ez_ks X o)) ∧ ∀ q ∈ L, free q.base)
def ez_Pre (G : ez_G) (ad : Nat → Nat) (sz : Nat) (as : List Value) (h : ez_H) (a : Array Value) (U : State) : Prop :=
  a = (as.map (ez_v ad)).toArray ∧ U.heap.size = sz ∧ va_P G.1 ez_cl (ez_ws G ad h) U.heap ∧ va_D (fun _ => True) (ez_ws G ad h) ∧ va_K G.1 ez_cl (ez_tys G) U ∧ ez_Ro G (va_A (ez_ws G ad h) sz) U U.heap ∧ h.length ≤ 900 ∧ ∀ k, 900 ≤ k → ad k = G.2.2.1 k
/-- the method's contract at these arguments over this world -/
def ez_Ct (l : Launch) (G : ez_G) (X : ez_X) (as : List Value) (h : ez_H) (Q : ez_R → Prop) : Prop :=
  ∀ (ad : Nat → Nat) (sz : Nat), ez_Met l X (ez_Pre G ad sz as h) (fun st o t => ez_Fin G (va_A (ez_ws G ad h) sz) h.length ad Q o t ∧ va_F (va_A (ez_ws G ad h) sz) st t) (va_A (ez_ws G ad h) sz)
/-! from a walk to a contract -/
def ez_code (X : ez_X) : Cond := match X.2.2.2.2.1 with
  | [] => .code X.1 X.2.1 X.2.2.1 X.2.2.2.1
  | q :: hs => .codeWith X.1 X.2.1 X.2.2.1 X.2.2.2.1 (q :: hs)
theorem ez_code_spec {X : ez_X} {args : Array Value} {s : State} {m : MethodId} (hn : s.methodNamed? X.1 = some m) (h : (ez_code X).before args s = true) :
    ∃ meth c, s.vm.method? m = some meth ∧ meth.code = some c ∧ c.code = X.2.1 ∧ c.maxLocals = X.2.2.1 ∧ meth.sig.returnType = X.2.2.2.1 ∧ meth.locks = false ∧
      c.exceptionTable.toList.map (fun h => (h.startPc, h.endPc, h.handlerPc, h.catchType)) = ez_hs X ∧ parseMethodDescriptor X.1.desc = some meth.sig := by
  obtain ⟨y, cc, n, ret, hs, rm⟩ := X
  cases hs with
  | nil =>
    obtain ⟨meth, c, h1, h2, h3, h4, h5, h6, h7, h8⟩ := Cond.code_spec (x := y) (bytes := cc) (maxLocals := n) (ret := ret) hn h
    refine ⟨meth, c, h1, h2, h3, h4, h5, h6, ?_, h8⟩
    rw [Array.isEmpty_iff] at h7
    rw [h7]
    rfl
  | cons q hs =>
    obtain ⟨m', meth, c, h0, h1, h2, h3, h4, h7, h5, h6, h8⟩ := Cond.codeWith_spec (x := y) (bytes := cc) (maxLocals := n) (ret := ret) (handlers := q :: hs) h
    cases hn.symm.trans h0
    exact ⟨meth, c, h1, h2, h3, h4, h5, h6, h7, h8⟩
def ez_ok (X : ez_X) (n : Nat) : Prop :=
  plainName X.1.cls = true ∧ ez_code X ∈ ez_T ∧ Cond.initialized X.1.cls ∈ ez_T ∧ (X.1.cls ≠ "java/lang/invoke/MethodHandle" ∧ X.1.cls ≠ "java/lang/invoke/VarHandle") ∧ (parseMethodDescriptor X.1.desc).map (fun d => d.parameters.length) = some n
def ez_ls (X : ez_X) (as : List Value) : List (Option Value) := as.map some ++ List.replicate (X.2.2.1 - as.length) none
theorem ez_args : ∀ (vs : List Value) (k i : Nat) (v : Value), (∀ w ∈ vs, w.category = 1) → vs[i]? = some v → (k + i, v) ∈ lv_args k vs := by
  intro vs
  induction vs with
  | nil => intro k i v _ h; simp at h
  | cons w vs ih =>
    intro k i v hc h
    have hw : ¬ w.category = 2 := by rw [hc w List.mem_cons_self]; decide
    simp only [lv_args, hw, if_false]
    cases i with
    | zero =>
      simp only [List.getElem?_cons_zero, Option.some.injEq] at h
      subst h
      exact List.mem_cons_self
    | succ i =>
      rw [List.getElem?_cons_succ] at h
      have := ih (k + 1) i v (fun x hx => hc x (List.mem_cons_of_mem _ hx)) h
      rw [show k + (i + 1) = k + 1 + i by omega]
      exact List.mem_cons_of_mem _ this
theorem ez_sl : ∀ (vs : List Value), (∀ w ∈ vs, w.category = 1) → (lg_sl vs).length = vs.length := by
  intro vs
  induction vs with
  | nil => intro _; rfl
  | cons w vs ih =>
    intro hc
    have hw : ¬ w.category = 2 := by rw [hc w List.mem_cons_self]; decide
    have e : lg_sl (w :: vs) = Slot.val w :: lg_sl vs := by simp [lg_sl, hw]
    rw [e, List.length_cons, ih (fun x hx => hc x (List.mem_cons_of_mem _ hx)), List.length_cons]
theorem ez_L_entry {X : ez_X} (ad : Nat → Nat) {as : List Value} (hc : ∀ w ∈ as, w.category = 1) (hl : as.length ≤ X.2.2.1) :
    ez_L ad X.2.2.1 (ez_ls X as) ((lg_sl (as.map (ez_v ad)) ++ List.replicate (X.2.2.1 - (lg_sl (as.map (ez_v ad))).length) Slot.unset).toArray) := by
  have hc' : ∀ w ∈ as.map (ez_v ad), w.category = 1 := by
    intro w hw
    obtain ⟨v, hv, rfl⟩ := List.mem_map.mp hw
    rw [ez_cat]
    exact hc v hv
  have hn := ez_sl _ hc'
  rw [List.length_map] at hn
  obtain ⟨h1, h2, h3⟩ := lv_entry (as.map (ez_v ad)) (n := X.2.2.1) (by rw [hn]; exact hl)
  refine ⟨h1, h2, fun i v hi => ?_⟩
  unfold ez_ls at hi
  by_cases hlt : i < as.length
  · rw [List.getElem?_append_left (by rw [List.length_map]; exact hlt), List.getElem?_map] at hi
    cases ha : as[i]? with
    | none => rw [ha] at hi; cases hi
    | some w =>
      rw [ha] at hi
      simp only [Option.map_some, Option.some.injEq] at hi
      subst hi
      refine ⟨hc w (List.mem_of_getElem? ha), ?_⟩
      have := h3 _ (ez_args (as.map (ez_v ad)) 0 i (ez_v ad w) hc' (by rw [List.getElem?_map, ha]; rfl))
      simpa using this
  · rw [List.getElem?_append_right (by rw [List.length_map]; omega), List.getElem?_replicate] at hi
    split at hi <;> cases hi
theorem ez_Ct_of {l : Launch} {G : ez_G} {X : ez_X} {n : Nat} {as : List Value} {h : ez_H} {Q : ez_R → Prop} (hok : ez_ok X n) (hcat : ∀ w ∈ as, w.category = 1) (hlen : as.length ≤ X.2.2.1)
    (body : ez_Ev l G X 0 0 0 (ez_ls X as) [] h Q) : ez_Ct l G X as h Q := by
  intro ad sz
  refine MetFree.of_bodyS (code := X.2.1) (maxLocals := X.2.2.1) (ret := X.2.2.2.1) hok.1 ?_ ?_
  · intro args s m hpre hn
    obtain ⟨meth, c, h1, h2, h3, h4, h5, h6, -, -⟩ := ez_code_spec hn (atoms_spec (ws := ez_T) hpre _ hok.2.1)
    exact ⟨meth, c, h1, h2, h3, h4, h5, h6⟩
  · intro p e s m args below meth c s₁ B hml hP _
    obtain ⟨rfl, hsz, hPw, hD, hK, hro, hap, had⟩ := hP
    have hts := atoms_spec (ws := ez_T) B.pre
    obtain ⟨meth', c', h1, h2, -, -, -, -, hh, -⟩ := ez_code_spec B.named (hts _ hok.2.1)
    cases B.method.symm.trans h1
    cases (Stand.of_body B).code.symm.trans h2
    have hh0 : s₁.heap = s.heap := by rw [B.state]; rfl
    have I : ez_In G X 0 0 (ez_ls X as) h p s m _ meth c (va_A (ez_ws G ad h) sz) h.length ad ad s.heap [] 0 0 _ :=
      ⟨⟨B.exec, B.bytes, hml, findClass_of_methodNamed B.named, hts, B.returns, B.notSynchronized, hh, hK, (name_of_methodNamed B.named B.method).1⟩, fun q hq => Or.inr (by rw [← hsz]; exact hq), ⟨hro, hap, had⟩, Nat.le_refl _, fun _ _ => rfl, hPw, hD.self, va_S.rf, ez_L_entry ad hcat hlen, Nat.le_refl _, Nat.le_refl _⟩
    obtain ⟨t, a1, o, b1, b2, b3, b4, b5⟩ := body p e s m _ below meth c _ _ _ _ _ _ _ _ _ I s₁ hh0 (Stand.of_body B)
    refine ⟨t, o, ?_, b1, b2, ⟨b3, b4⟩, b5⟩
    rw [lg_entry_eq]
    exact a1
/-! calls: whatever the outcome -/
theorem ez_any {l : Launch} {R : Room} {p : Program} {e : Env} {below : List Frame} {s : State} {sargs : Array Value} {X : ez_X} {Pc : Array Value → State → Prop} {Qc : State → Outcome → State → Prop} {free : Addr → Prop}
    (hM : ez_Met l X Pc Qc free) (hT : ∀ w ∈ ez_T, ∀ (a' : Array Value) (U : State), s.WarmedH U.vm → w.before a' U = true) (hcode : ez_code X ∈ ez_T) (hini : Cond.initialized X.1.cls ∈ ez_T) (hblind : FrameBlind Pc)
    (hfr : ez_fr X + 1 ≤ R.frames) (hlo : 8 + (X.2.2.1 + 11) + ez_lo X ≤ R.locals) {m : MethodId} {meth : Method} {c : Code} {U : State} {locs : List Loc} {cells slots : Nat} (S : Stand p l e R s m sargs below meth c U locs cells slots)
    {g : JFrame} {ig : Instr} {len : Nat} {mk : MethodId} {a : Array Value} (hg : g.method = m) (hsize : g.locals.size = c.maxLocals) (hdg : decode c.code g.pc = .ok (ig, len)) (hW : 2 * g.monitorRoom + (g.stack.map fun v => v.category).sum ≤ 8)
    (hn : U.methodNamed? X.1 = some mk) (hc : cells + ez_rc X ≤ R.cells) (hs : slots + ez_rs X ≤ R.slots) (hP : Pc a U) :
    ∃ (o : Outcome) (st t T' : State) (L : List Loc), st.heap = U.heap ∧ Stand p l e R s m sargs below meth c T' (locs ++ L) (cells + ez_kc X o) (slots + ez_ks X o) ∧ (∀ q ∈ L, free q.base) ∧ T'.heap = t.heap ∧ T'.vm = t.vm ∧ Qc st o t ∧
      (∀ v, o = .returned v → Steps p.tables e below (doInvoke e (U.setTop g) [] mk a).1 (T'.setTop { g with pc := g.pc + len, stack := v.toList ++ g.stack })) ∧
      (∀ x, o = .threw x → Steps p.tables e below (doInvoke e (U.setTop g) [] mk a).1 ((T'.setTop g).pushFrame (.throwing x))) := by
  obtain ⟨methY, cY, hmY, hcY, -, hlY, -, -, -, -⟩ := ez_code_spec hn (hT _ hcode a U S.warmed)
  obtain ⟨kY, hkY, -⟩ := className_of_methodNamed hn
  have hinitY : kY.init = .initialized := Cond.initialized_spec (findClass_of_methodNamed hn) hkY (hT _ hini a U S.warmed)
  have h : At U g.method c below := by rw [hg]; exact S.here
  have happ : (headSpec ez_T (ez_rm X)).appliesLoose X.1 e.platform (U.calling g mk a) = true :=
    Spec.appliesLoose_calling (g := g) h hdg hn hkY hinitY
      (S.room_calling (g := g) (R' := ez_rm X) hsize hmY hcY hfr (by rw [hlY]; show _ + ez_lo X ≤ _; omega) hc hs) (atoms_intro fun w hw => hT w hw a U S.warmed)
  obtain ⟨mid, hmid⟩ := h.above
  have hfr2 : (U.setTop g).frames = (.java g :: mid) ++ below := by rw [State.frames_setTop' g h.top, hmid]; rfl
  obtain ⟨o, s₂, hsteps, -, hend, hq⟩ := Steps.callFree hM p S.admits S.cas S.clock (acts := []) hfr2 happ (hblind _ _ _ _ hP) trivial
  obtain ⟨hqc, L, ⟨hW₂, e2, q2, q3, q4, q5, q6⟩, hL⟩ := hq
  rw [State.frames_setTop' g h.top] at hend
  have e3 : s₂ = ({ (U.calling g mk a).setFrames s₂.frames with heap := s₂.heap, slotsUsed := s₂.slotsUsed } : State).setVm s₂.vm := by
    have h9 : s₂ = ({ s₂ with vm := (U.calling g mk a).vm } : State).setVm s₂.vm := rfl
    have e2' : ({ s₂ with vm := (U.calling g mk a).vm } : State) = { (U.calling g mk a).setFrames s₂.frames with heap := s₂.heap, slotsUsed := s₂.slotsUsed } := e2
    rw [e2'] at h9
    exact h9
  have hW' : U.WarmedH s₂.vm := hW₂
  obtain ⟨g₀, hg0⟩ := Option.isSome_iff_exists.mp h.top
  obtain ⟨r, hr⟩ := State.topJava?_eq_some.mp hg0
  have hr' : (({ U with heap := s₂.heap, slotsUsed := s₂.slotsUsed } : State).setVm s₂.vm).frames = .java g₀ :: r := hr
  have hsame : U.sameButNew ({ U with heap := s₂.heap, slotsUsed := s₂.slotsUsed } : State) L (ez_kc X o) (ez_ks X o) := by
    refine ⟨?_, q2, q3, q4, q5, q6⟩
    obtain ⟨t, ht, -⟩ := State.frames_cons hr
    show ({ U with heap := s₂.heap, slotsUsed := s₂.slotsUsed } : State) = { U.setFrames U.frames with heap := s₂.heap, slotsUsed := s₂.slotsUsed }
    rw [State.setFrames_self ht]
  refine ⟨o, U.calling g mk a, s₂, ({ U with heap := s₂.heap, slotsUsed := s₂.slotsUsed } : State).setVm s₂.vm, L, rfl,
    ⟨S.admits, S.cas, S.clock, S.frames, S.room, S.hears, S.method, S.code, (S.here.setHeapUsed s₂.heap s₂.slotsUsed).setVm hW'.alike, S.tail, State.WarmedH.trans S.warmed hW', S.limits, S.bytes, S.same.trans (hsame.setVm s.vm)⟩, hL, rfl, rfl, hqc, ?_, ?_⟩
  · rintro v rfl
    obtain ⟨c₂, i₂, len₂, hc₂, hd₂, hf₂⟩ := hend
    have hcc : c₂ = c := by
      have h1 : s₂.code? g.method = U.code? g.method := by rw [State.code?_eq, State.code?_eq, hW'.alike.method?]
      exact Option.some.inj (hc₂.symm.trans (h1.trans h.code))
    subst hcc
    have hlen : len₂ = len := by rw [hdg] at hd₂; cases hd₂; rfl
    subst hlen
    have hs₂ : s₂ = (({ U with heap := s₂.heap, slotsUsed := s₂.slotsUsed } : State).setVm s₂.vm).setTop { g with pc := g.pc + len₂, stack := v.toList ++ g.stack } := by
      refine e3.trans ?_
      rw [hf₂, State.calling_eq h.top, State.setFrames_setFrames, State.setTop_of_frames _ hr', hr]
      rfl
    rw [← hs₂]
    exact hsteps
  · rintro x rfl
    have hf₂ : s₂.frames = .throwing x :: .java g :: U.frames.tail := hend
    have hs₂ : s₂ = ((({ U with heap := s₂.heap, slotsUsed := s₂.slotsUsed } : State).setVm s₂.vm).setTop g).pushFrame (.throwing x) := by
      refine e3.trans ?_
      rw [hf₂, State.calling_eq h.top, State.setFrames_setFrames, State.pushFrame, State.frames_setTop _ hr', State.setTop_of_frames _ hr', State.setFrames_setFrames, hr]
      rfl
    rw [← hs₂]
    exact hsteps
/-! the three kinds of call, to the callee's entry -/
section EzGo
variable {p : Program} {l : Launch} {e : Env} {R : Room} {s : State} {m : MethodId} {args : Array Value} {below : List Frame} {meth : Method} {c : Code} {T : State} {locs : List Loc} {cells slots : Nat}
def ez_link (own : String) (index : Nat) (y : MethodName) : Prop := Cond.methodLink own index y ∈ ez_T ∨ ∃ host, Cond.methodLinkNest own index y host ∈ ez_T
def ez_To (p : Program) (l : Launch) (e : Env) (R : Room) (s : State) (m : MethodId) (args : Array Value) (below : List Frame) (meth : Method) (c : Code) (T : State) (locs : List Loc) (cells slots : Nat) (y : MethodName) (g : JFrame) (rest : List Value) (a : Array Value) : Prop :=
  ∃ (vm₁ : Vm) (mk : MethodId), s.methodNamed? y = some mk ∧ Stand p l e R s m args below meth c (T.setVm vm₁) locs cells slots ∧ ∀ target, Steps p.tables e below (doInvoke e ((T.setVm vm₁).setTop { g with stack := rest }) [] mk a).1 target → Steps p.tables e below (T.setTop g) target
theorem ez_goS (X : Stand p l e R s m args below meth c T locs cells slots) (hexec : p.tables.exec = Jvm.exec) (hts : ∀ w ∈ ez_T, w.before args s = true) {own : String} {index n : Nat} {Y : ez_X} (hok : ez_ok Y n)
    (hown : s.vm.findClass own = some m.cls) (hl : ez_link own index Y.1) (hstat : Cond.static Y.1 ∈ ez_T)
    {g : JFrame} (hg : g.method = m) {argsL rest : List Value} (hn : argsL.length = n) (hstack : g.stack = argsL.reverse ++ rest) (hdg : decode c.code g.pc = .ok (.invokestatic index, 3)) :
    ez_To p l e R s m args below meth c T locs cells slots Y.1 g rest argsL.toArray := by
  obtain ⟨-, hcw, hiw, hy, hpar⟩ := hok
  have hcode := hts _ hcw
  obtain ⟨mk, hnamed⟩ : ∃ mk, s.methodNamed? Y.1 = some mk := by
    obtain ⟨y, cc, n, ret, hs, rm⟩ := Y
    cases hs with
    | nil => exact Cond.code_named hcode
    | cons q hs =>
      obtain ⟨m', meth, c, h0, -⟩ := Cond.codeWith_spec (x := y) (bytes := cc) (maxLocals := n) (ret := ret) (handlers := q :: hs) hcode
      exact ⟨m', h0⟩
  obtain ⟨methM, cM, hmethM, -, -, -, -, -, -, hsigM⟩ := ez_code_spec hnamed hcode
  have hstatic : methM.isStatic = true := Cond.static_spec hnamed hmethM (hts _ hstat)
  obtain ⟨kP, hkP, -⟩ := className_of_methodNamed hnamed
  have hinitP : kP.init = .initialized := Cond.initialized_spec (findClass_of_methodNamed hnamed) hkP (hts _ hiw)
  have hlen : argsL.length = methM.sig.parameters.length := by
    rw [hsigM] at hpar
    exact hn.trans (Option.some.inj hpar).symm
  rcases hl with hl | ⟨host, hl⟩
  · obtain ⟨vm₁, X₁, hstep₁⟩ := X.invokestatic hexec hown (hts _ hl) hnamed hmethM hstatic hkP hinitP hy (g := g) hg (argsL := argsL) (rest := rest) hlen hstack hdg
    exact ⟨vm₁, mk, hnamed, X₁, fun target h => hstep₁ _ fun acts => by rw [doInvoke_state]; exact h⟩
  · obtain ⟨vm₁, X₁, hstep₁⟩ := X.invokestaticNest hexec hown (hts _ hl) hnamed hmethM hstatic hkP hinitP hy (g := g) hg (argsL := argsL) (rest := rest) hlen hstack hdg
    exact ⟨vm₁, mk, hnamed, X₁, fun target h => hstep₁ _ fun acts => by rw [doInvoke_state]; exact h⟩
theorem ez_goV (X : Stand p l e R s m args below meth c T locs cells slots) (hexec : p.tables.exec = Jvm.exec) (hts : ∀ w ∈ ez_T, w.before args s = true) {own : String} {index n : Nat} {Y : ez_X} (hok : ez_ok Y n)
    (hown : s.vm.findClass own = some m.cls) (hl : ez_link own index Y.1) (hinst : Cond.instanceMethod Y.1 ∈ ez_T) (hsel : Cond.selects Y.1.cls Y.1 Y.1 ∈ ez_T)
    {b : Addr} {cellB : Cell} (hcell : T.heap[b]? = some cellB) (hobj : cellB.vm.isStatics = false) (hcls : s.vm.findClass Y.1.cls = some cellB.cls)
    {g : JFrame} (hg : g.method = m) {argsL rest : List Value} (hn : argsL.length = n) (hstack : g.stack = argsL.reverse ++ .ref b :: rest) (hdg : decode c.code g.pc = .ok (.invokevirtual index, 3)) :
    ez_To p l e R s m args below meth c T locs cells slots Y.1 g rest (Value.ref b :: argsL).toArray := by
  obtain ⟨-, hcw, -, hy, hpar⟩ := hok
  obtain ⟨mk, methM, hnamed, hmethM, hstM, habM⟩ := Cond.instanceMethod_spec (hts _ hinst)
  obtain ⟨methM', cM, hmethM', -, -, -, -, -, -, hsigM⟩ := ez_code_spec hnamed (hts _ hcw)
  cases hmethM.symm.trans hmethM'
  obtain ⟨c2, r2, m2, q1, q2, q3, q4, kP, hkP, hkPi⟩ := Cond.selects_spec (hts _ hsel)
  cases hcls.symm.trans q1
  cases (State.methodFound?_of_named hnamed hy).symm.trans q2
  cases hnamed.symm.trans q3
  have hselP : selectMethod e.platform s.vm cellB.cls mk = .method mk := by rw [Launch.admits_selectMethod X.admits]; exact q4
  have hlen : argsL.length = methM.sig.parameters.length := by
    rw [hsigM] at hpar
    exact hn.trans (Option.some.inj hpar).symm
  rcases hl with hl | ⟨host, hl⟩
  · obtain ⟨vm₁, X₁, hstep₁⟩ := X.invokevirtual hexec hown (hts _ hl) hnamed hmethM hstM hkP hkPi hy (a := b) (cell := cellB) hcell
      (fun z h => by rw [h] at hobj; cases hobj) hselP hmethM habM hkP hkPi (g := g) hg (argsL := argsL) (rest := rest) hlen hstack hdg
    exact ⟨vm₁, mk, hnamed, X₁, fun target h => hstep₁ _ fun acts => by rw [doInvoke_state]; exact h⟩
  · obtain ⟨vm₁, X₁, hstep₁⟩ := X.invokevirtualNest hexec hown (hts _ hl) hnamed hmethM hstM hkP hkPi hy (a := b) (cell := cellB) hcell
      (fun z h => by rw [h] at hobj; cases hobj) hselP hmethM habM hkP hkPi (g := g) hg (argsL := argsL) (rest := rest) hlen hstack hdg
    exact ⟨vm₁, mk, hnamed, X₁, fun target h => hstep₁ _ fun acts => by rw [doInvoke_state]; exact h⟩
theorem ez_goI (X : Stand p l e R s m args below meth c T locs cells slots) (hexec : p.tables.exec = Jvm.exec) (hts : ∀ w ∈ ez_T, w.before args s = true) {own : String} {index n : Nat} {Y : ez_X} (hok : ez_ok Y n) (hy1 : Y.1.name = "<init>") (hr : Y.2.2.2.1 = none) (hh : ez_hs Y = [])
    (hown : s.vm.findClass own = some m.cls) (hl : ez_link own index Y.1) (hinst : Cond.instanceMethod Y.1 ∈ ez_T)
    {a : Addr} {g : JFrame} (hg : g.method = m) {argsL rest : List Value} (hn : argsL.length = n) (hstack : g.stack = argsL.reverse ++ .ref a :: rest) (hdg : decode c.code g.pc = .ok (.invokespecial index, 3)) :
    ez_To p l e R s m args below meth c T locs cells slots Y.1 g rest (Value.ref a :: argsL).toArray := by
  obtain ⟨y, cc, nl, ret, hs, rm⟩ := Y
  cases hr
  cases hh
  obtain ⟨-, hcw, -, hy, hpar⟩ := hok
  have hcode : (Cond.code y cc nl none).before args s = true := hts _ hcw
  have hpl : e.platform.magicAccessors = ({} : Platform).magicAccessors := by rw [X.admits.platform]
  have hlen : ∀ sig, parseMethodDescriptor y.desc = some sig → argsL.length = sig.parameters.length := fun sig h => by
    rw [h] at hpar
    exact hn.trans (Option.some.inj hpar).symm
  subst hg
  rcases hl with hl | ⟨host, hl⟩
  · obtain ⟨mk, methM, cM, kP, vm₁, hnamed, hmethM, hcodeM, -, hlocalsM, -, hkP, -, hW₁, hstep₁⟩ := Steps.initColdArgs (e := e) X.here hexec X.warmed hpl hown hy1 hy (hts _ hl) (hts _ hinst) hcode (f := g) rfl hlen hstack hdg
    exact ⟨vm₁, mk, hnamed, X.noted hW₁, fun target h => hstep₁ _ fun acts => by rw [doInvoke_state]; exact h⟩
  · obtain ⟨mk, methM, cM, kP, vm₁, hnamed, hmethM, hcodeM, -, hlocalsM, -, hkP, -, hW₁, hstep₁⟩ := Steps.initColdArgsNest (e := e) X.here hexec X.warmed hpl hown hy1 hy (hts _ hl) (hts _ hinst) hcode (f := g) rfl hlen hstack hdg
    exact ⟨vm₁, mk, hnamed, X.noted hW₁, fun target h => hstep₁ _ fun acts => by rw [doInvoke_state]; exact h⟩
end EzGo
/-! a call, in the layer -/
def ez_still (n n' : Nat) (ls : List (Option Value)) (rest : List Value) : Prop := ∀ ad ad' : Nat → Nat, (∀ k, ¬ (n ≤ k ∧ k < n') → ad' k = ad k) → rest.map (ez_v ad') = rest.map (ez_v ad) ∧ ∀ (i : Nat) (v : Value), ls[i]? = some (some v) → ez_v ad' v = ez_v ad v
theorem ez_still_eq (n : Nat) (ls : List (Option Value)) (rest : List Value) : ez_still n n ls rest := by
  intro ad ad' h
  have e : ad' = ad := funext fun k => h k (by omega)
  subst e
  exact ⟨rfl, fun _ _ _ => rfl⟩
def ez_old (n n' : Nat) (v : Value) : Bool := match v with
  | .ref k => !(decide (n ≤ k) && decide (k < n'))
  | _ => true
theorem ez_old_eq {n n' : Nat} {v : Value} (hv : ez_old n n' v = true) {ad ad' : Nat → Nat} (h : ∀ k, ¬ (n ≤ k ∧ k < n') → ad' k = ad k) : ez_v ad' v = ez_v ad v := by
  cases v <;> try rfl
  rename_i k
  have hk : ¬ (n ≤ k ∧ k < n') := fun ⟨a, b⟩ => by simp [ez_old, a, b] at hv
  simp only [ez_v]
  rw [h k hk]
theorem ez_still_of {n n' : Nat} {ls : List (Option Value)} {rest : List Value} (h1 : rest.all (ez_old n n') = true) (h2 : ls.all (fun o => match o with | some v => ez_old n n' v | none => true) = true) : ez_still n n' ls rest := by
  intro ad ad' h
  refine ⟨List.map_congr_left fun v hv => ez_old_eq (List.all_eq_true.mp h1 v hv) h, fun i v hi => ?_⟩
  exact ez_old_eq (List.all_eq_true.mp h2 _ (List.mem_of_getElem? hi)) h
/-- an exception of a kind has just come to this frame -/
def ez_Th (l : Launch) (G : ez_G) (X : ez_X) (uc us pc : Nat) (ls : List (Option Value)) (h : ez_H) (kx : Nat) (Q : ez_R → Prop) : Prop :=
  ∀ (p : Program) (e : Env) (s : State) (m : MethodId) (args : Array Value) (below : List Frame) (meth : Method) (c : Code) (A : Nat → Prop) (n0 : Nat) (ad0 ad : Nat → Nat) (H : Heap) (locs : List Loc) (cells slots : Nat) (L : Array Slot) (st : List Value) (x : Addr) (cell : Cell) (T : State),
    ez_In G X uc us ls h p s m args meth c A n0 ad0 ad H locs cells slots L → H[x]? = some cell → cell.vm = .none → s.vm.findClass (ez_exN kx) = some cell.cls → T.heap = H → Stand p l e (ez_rm X) s m args below meth c T locs cells slots →
    ∃ t, Steps p.tables e below ((T.setTop (F0 m pc L st)).pushFrame (.throwing x)) t ∧ ez_MQ X below s A (ez_Fin G A n0 ad0 Q) t
theorem ez_blind (G : ez_G) (ad : Nat → Nat) (sz : Nat) (as : List Value) (h : ez_H) : FrameBlind (ez_Pre G ad sz as h) := fun _ _ _ _ hp => hp
/-- a callee's room is there -/
def ez_fits (X Y : ez_X) (uc us : Nat) : Prop := (ez_fr Y + 1 ≤ ez_fr X ∧ 8 + (Y.2.2.1 + 11) + ez_lo Y ≤ ez_lo X) ∧ uc + ez_rc Y ≤ ez_rc X ∧ us + ez_rs Y ≤ ez_rs X
section EzCall
variable {l : Launch} {G : ez_G} {X Y : ez_X} {uc us pc pc' n : Nat} {ls : List (Option Value)} {st rest as : List Value} {h : ez_H} {Q Qc : ez_R → Prop}
theorem ez_call (hok : ez_ok Y n) (hC : ez_Ct l G Y as h Qc) (hroom : ez_fits X Y uc us) (hrest : (rest.map fun v => v.category).sum ≤ 8)
    (hto : ∀ (p : Program) (e : Env) (s : State) (m : MethodId) (args : Array Value) (below : List Frame) (meth : Method) (c : Code) (A : Nat → Prop) (n0 : Nat) (ad0 ad : Nat → Nat) (H : Heap) (locs : List Loc) (cells slots : Nat) (L : Array Slot) (T : State),
      ez_In G X uc us ls h p s m args meth c A n0 ad0 ad H locs cells slots L → T.heap = H → Stand p l e (ez_rm X) s m args below meth c T locs cells slots →
      ez_To p l e (ez_rm X) s m args below meth c T locs cells slots Y.1 (F0 m pc L (st.map (ez_v ad))) (rest.map (ez_v ad)) (as.map (ez_v ad)).toArray)
    (hdg : ∃ ig, decode X.2.1 pc = .ok (ig, 3)) (hp : pc + 3 = pc')
    (kr : ∀ v h', Qc (.inl v, h') → ez_still h.length h'.length ls rest ∧ ez_Ev l G X (uc + ez_mc Y) (us + ez_ms Y) pc' ls (v.toList ++ rest) h' Q)
    (kt : ∀ k h', Qc (.inr k, h') → h'.length = h.length ∧ ez_Th l G X (uc + ez_mc Y + 1) (us + ez_ms Y + 6) pc ls h' k Q) : ez_Ev l G X uc us pc ls st h Q := by
  intro p e s m args below meth c A n0 ad0 ad H locs cells slots L I T hT S
  obtain ⟨vm₁, mk, hnamed, S₁, hgo⟩ := hto p e s m args below meth c A n0 ad0 ad H locs cells slots L T I hT S
  obtain ⟨hctx, hA, ⟨hRo, hh9, had⟩, hn0, hag, hPw, hD, hS, hL, hc1, hs1⟩ := I
  obtain ⟨hx, hb, hml, hown, hts, hret, hlk, hhand, hK, -⟩ := id hctx
  obtain ⟨ig, hdg⟩ := hdg
  have hAH : ∀ q, va_A (ez_ws G ad h) H.size q → A q := by
    intro q hq
    rcases hq with ⟨k, e2, hk⟩ | hq
    · exact hD.2 k _ hk
    · exact hA q (Nat.le_trans hS.1 hq)
  have hweigh : 2 * (F0 m pc L (rest.map (ez_v ad))).monitorRoom + ((F0 m pc L (rest.map (ez_v ad))).stack.map fun v => v.category).sum ≤ 8 := by
    have e1 : ((rest.map (ez_v ad)).map fun v => v.category) = rest.map fun v => v.category := by
      rw [List.map_map]
      exact List.map_congr_left fun v _ => ez_cat ad v
    show 2 * 0 + ((rest.map (ez_v ad)).map fun v => v.category).sum ≤ 8
    rw [e1]
    omega
  have hpre : ez_Pre G ad H.size as h (as.map (ez_v ad)).toArray (T.setVm vm₁) := by
    refine ⟨rfl, by show T.heap.size = _; rw [hT], by show va_P _ _ _ T.heap; rw [hT]; exact hPw, ⟨hD.1, fun _ _ _ => trivial⟩, hK.moved S₁.warmed.alike, ?_, hh9, had⟩
    show ez_Ro G _ _ T.heap
    rw [hT]
    exact ((hRo.kept (fun q h1 h2 => hS.2.1 q h1 h2)).narrow hAH).moved S₁.warmed
  obtain ⟨o, st0, t, T', Lc, h0, S', hLc, e1, e2, ⟨hfin, hF⟩, hr, hth⟩ := ez_any (hC ad H.size) (ez_T_keep hts) hok.2.1 hok.2.2.1 (ez_blind G ad H.size as h) (R := ez_rm X) hroom.1.1 hroom.1.2 S₁
    (g := F0 m pc L (rest.map (ez_v ad))) (ig := ig) (len := 3) (mk := mk) (a := (as.map (ez_v ad)).toArray) rfl (by rw [hml]; exact hL.1) (by rw [hb]; exact hdg) hweigh (S₁.named hnamed) (by show cells + ez_rc Y ≤ ez_rc X; have := hroom.2.1; omega) (by show slots + ez_rs Y ≤ ez_rs X; have := hroom.2.2; omega) hpre
  have h0' : st0.heap = H := h0.trans hT
  obtain ⟨⟨r, h'⟩, ad', hq, ⟨hl', hl9⟩, hag', hP', hD', ho⟩ := hfin
  have hF1 : H.size ≤ T'.heap.size := by rw [e1, ← h0']; exact hF.1
  have hF2 : ∀ q : Nat, q < H.size → ¬ va_A (ez_ws G ad h) H.size q → T'.heap[q]? = H[q]? := fun q h1 h2 => by rw [e1, ← h0']; exact hF.2 q (by rw [h0']; exact h1) h2
  have hS' : va_S A s.heap T'.heap (locs ++ Lc) := by
    refine ⟨Nat.le_trans hS.1 hF1, fun q h1 h2 => ?_, fun q hq => ?_⟩
    · rw [hF2 q (Nat.lt_of_lt_of_le h1 hS.1) (fun z => h2 (hAH q z))]
      exact hS.2.1 q h1 h2
    · rcases List.mem_append.mp hq with h1 | h1
      · exact hS.2.2 q h1
      · exact hAH _ (hLc q h1)
  have hDA : va_D A (ez_ws G ad' h') := ⟨hD'.1, fun k q hk => hAH _ (hD'.2 k q hk)⟩
  have hPT : va_P G.1 ez_cl (ez_ws G ad' h') T'.heap := by rw [e1]; exact hP'
  have hag2 : ∀ k, ¬ (n0 ≤ k ∧ k < h'.length) → ad' k = ad0 k := fun k hk => (hag' k (by dsimp only; omega)).trans (hag k (by dsimp only at hl'; omega))
  have had2 : ∀ k, 900 ≤ k → ad' k = G.2.2.1 k := fun k hk => (hag' k (by dsimp only at hl9 ⊢; omega)).trans (had k hk)
  cases r with
  | inl v =>
    obtain ⟨hst, hev⟩ := kr v h' hq
    obtain ⟨hr1, hr2⟩ := hst ad ad' hag'
    subst ho
    have I' : ez_In G X (uc + ez_mc Y) (us + ez_ms Y) ls h' p s m args meth c A n0 ad0 ad' T'.heap (locs ++ Lc) (cells + ez_mc Y) (slots + ez_ms Y) L :=
      ⟨hctx, hA, ⟨hRo, hl9, had2⟩, Nat.le_trans hn0 hl', hag2, hPT, hDA, hS', ⟨hL.1, hL.2.1, fun i w hi => by rw [hr2 i w hi]; exact hL.2.2 i w hi⟩, by omega, by omega⟩
    obtain ⟨t2, a1, b1⟩ := hev p e s m args below meth c A n0 ad0 ad' T'.heap (locs ++ Lc) (cells + ez_mc Y) (slots + ez_ms Y) L I' T' rfl S'
    refine ⟨t2, hgo t2 ((hr _ rfl).trans ?_), b1⟩
    have e3 : (v.map (ez_v ad')).toList ++ rest.map (ez_v ad) = (v.toList ++ rest).map (ez_v ad') := by
      rw [← hr1]
      cases v <;> simp
    subst hp
    show Steps p.tables e below (T'.setTop (F0 m (pc + 3) L ((v.map (ez_v ad')).toList ++ rest.map (ez_v ad)))) t2
    rw [e3]
    exact a1
  | inr k =>
    obtain ⟨hle, hev⟩ := kt k h' hq
    obtain ⟨x, cell, ho1, ho2, ho3, ho4⟩ := ho
    have hlh : h.length = h'.length := hle.symm
    have e : ad' = ad := funext fun k => hag' k (by dsimp only; omega)
    subst e
    subst ho1
    have I' : ez_In G X (uc + ez_mc Y + 1) (us + ez_ms Y + 6) ls h' p s m args meth c A n0 ad0 ad' T'.heap (locs ++ Lc) (cells + (ez_mc Y + 1)) (slots + (ez_ms Y + 6)) L :=
      ⟨hctx, hA, ⟨hRo, hl9, had2⟩, Nat.le_trans hn0 hl', hag2, hPT, hDA, hS', hL, by omega, by omega⟩
    obtain ⟨t2, a1, b1⟩ := hev p e s m args below meth c A n0 ad0 ad' T'.heap (locs ++ Lc) (cells + (ez_mc Y + 1)) (slots + (ez_ms Y + 6)) L (rest.map (ez_v ad')) x cell T' I' (by rw [e1]; exact ho2) ho3 (by rw [← ho4, ← e2]; exact (S'.warmed.alike.findClass _ _).symm) rfl S'
    exact ⟨t2, hgo t2 ((hth x rfl).trans a1), b1⟩
/-- an exception leaves a method that has no handlers -/
theorem ez_Th_out (hX : ez_hs X = []) (hu : uc ≤ ez_mc X + 1 ∧ us ≤ ez_ms X + 6) (hq : Q (.inr n, h)) : ez_Th l G X uc us pc ls h n Q := by
  intro p e s m args below meth c A n0 ad0 ad H locs cells slots L st x cell T I hx1 hx2 hx3 hT S
  obtain ⟨⟨hx, hb, hml, hown, hts, hret, hlk, hhand, hK, -⟩, hA, ⟨hRo, hh9, had⟩, hn0, hag, hPw, hD, hS, hL, hc1, hs1⟩ := I
  have hout : ∀ y ∈ c.exceptionTable.toList, covers y (F0 m pc L st).pc = false := by
    rw [hX] at hhand
    rw [List.map_eq_nil_iff.mp hhand]
    intro y hy
    cases hy
  have S2 := stand_widen S (show cells ≤ ez_mc X + 1 by omega) (show slots ≤ ez_ms X + 6 by omega)
  obtain ⟨w1, w2, w3, w4, w5⟩ := S2.leaveThrown x (g := F0 m pc L st) rfl rfl rfl hout hlk
  refine ⟨_, w1, .threw x, w2, w3, ⟨(.inr n, h), ad, hq, ⟨hn0, hh9⟩, hag, by show va_P _ _ _ T.heap; rw [hT]; exact hPw, hD, x, cell, rfl, by show T.heap[x]? = _; rw [hT]; exact hx1, hx2, ?_⟩, hS.F hT, locs, ⟨w4, w5⟩, hS.2.2⟩
  show T.vm.findClass _ = _
  rw [S.warmed.alike.findClass]
  exact hx3
end EzCall
