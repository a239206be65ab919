/-! ===== the layer's rows ===== -/
section EzRows
variable {l : Launch} {G : ez_G} {X : ez_X} {uc us pc pc' tgt : Nat} {ls : List (Option Value)} {st : List Value} {h : ez_H} {Q : ez_R → Prop}
/-- an instruction of so many bytes stands here, the next one there -/
def ez_at (X : ez_X) (pc : Nat) (i : Instr) (n pc' : Nat) : Prop := decode X.2.1 pc = .ok (i, n) ∧ pc + n = pc'
/-- a branch: its instruction, the next one, its offset, its target -/
def ez_br (X : ez_X) (pc : Nat) (i : Instr) (n pc' : Nat) (off : Int) (tgt : Nat) : Prop := decode X.2.1 pc = .ok (i, n) ∧ pc + n = pc' ∧ (pc : Int) + off = (tgt : Int)
theorem ez_pure {st' : List Value}
    (hW : ∀ (p : Program) (e : Env) (s : State) (m : MethodId) (args : Array Value) (below : List Frame) (meth : Method) (c : Code) (ad : Nat → Nat) (H : Heap) (locs : List Loc) (cells slots : Nat) (Qz : State → Prop) (L : Array Slot), p.tables.exec = Jvm.exec → c.code = X.2.1 →
      W p l e (ez_rm X) s m args below meth c H locs cells slots Qz (F0 m pc' L (st'.map (ez_v ad))) → W p l e (ez_rm X) s m args below meth c H locs cells slots Qz (F0 m pc L (st.map (ez_v ad))))
    (k : ez_Ev l G X uc us pc' ls st' h Q) : ez_Ev l G X uc us pc ls st h Q :=
  fun p e s m args below meth c A n0 ad0 ad H locs cells slots L I => hW p e s m args below meth c ad H locs cells slots _ L I.1.1 I.1.2.1 (k p e s m args below meth c A n0 ad0 ad H locs cells slots L I)
theorem ev_iconst {n : Int} {v : Int32} (hd : ez_at X pc (.iconst n) 1 pc') (hv : Int32.ofInt n = v) (k : ez_Ev l G X uc us pc' ls (.int v :: st) h Q) : ez_Ev l G X uc us pc ls st h Q := by
  obtain ⟨hd, rfl⟩ := hd
  exact ez_pure (st' := .int v :: st) (fun p e s m args below meth c ad H locs cells slots Qz L hx hb kk => lv_iconst hx hb hd hv kk) k
theorem ev_bipush {n : Int} {v : Int32} (hd : ez_at X pc (.bipush n) 2 pc') (hv : (Int8.ofInt n).toInt32 = v) (k : ez_Ev l G X uc us pc' ls (.int v :: st) h Q) : ez_Ev l G X uc us pc ls st h Q := by
  obtain ⟨hd, rfl⟩ := hd
  exact ez_pure (st' := .int v :: st) (fun p e s m args below meth c ad H locs cells slots Qz L hx hb kk => lv_bipush hx hb hd hv kk) k
theorem ev_sipush {n : Int} {v : Int32} (hd : ez_at X pc (.sipush n) 3 pc') (hv : (Int16.ofInt n).toInt32 = v) (k : ez_Ev l G X uc us pc' ls (.int v :: st) h Q) : ez_Ev l G X uc us pc ls st h Q := by
  obtain ⟨hd, rfl⟩ := hd
  exact ez_pure (st' := .int v :: st) (fun p e s m args below meth c ad H locs cells slots Qz L hx hb kk => lv_sipush hx hb hd hv kk) k
theorem ev_iadd {x y : Int32} (hd : ez_at X pc .iadd 1 pc') (k : ez_Ev l G X uc us pc' ls (.int (x + y) :: st) h Q) : ez_Ev l G X uc us pc ls (.int y :: .int x :: st) h Q := by
  obtain ⟨hd, rfl⟩ := hd
  exact ez_pure (st' := .int (x + y) :: st) (fun p e s m args below meth c ad H locs cells slots Qz L hx hb kk => lv_iadd hx hb hd kk) k
theorem ev_isub {x y : Int32} (hd : ez_at X pc .isub 1 pc') (k : ez_Ev l G X uc us pc' ls (.int (x - y) :: st) h Q) : ez_Ev l G X uc us pc ls (.int y :: .int x :: st) h Q := by
  obtain ⟨hd, rfl⟩ := hd
  exact ez_pure (st' := .int (x - y) :: st) (fun p e s m args below meth c ad H locs cells slots Qz L hx hb kk => lv_isub hx hb hd kk) k
theorem ev_imul {x y : Int32} (hd : ez_at X pc .imul 1 pc') (k : ez_Ev l G X uc us pc' ls (.int (x * y) :: st) h Q) : ez_Ev l G X uc us pc ls (.int y :: .int x :: st) h Q := by
  obtain ⟨hd, rfl⟩ := hd
  exact ez_pure (st' := .int (x * y) :: st) (fun p e s m args below meth c ad H locs cells slots Qz L hx hb kk => lv_imul hx hb hd kk) k
theorem ev_iand {x y : Int32} (hd : ez_at X pc .iand 1 pc') (k : ez_Ev l G X uc us pc' ls (.int (x &&& y) :: st) h Q) : ez_Ev l G X uc us pc ls (.int y :: .int x :: st) h Q := by
  obtain ⟨hd, rfl⟩ := hd
  exact ez_pure (st' := .int (x &&& y) :: st) (fun p e s m args below meth c ad H locs cells slots Qz L hx hb kk => lv_iand hx hb hd kk) k
theorem ev_ior {x y : Int32} (hd : ez_at X pc .ior 1 pc') (k : ez_Ev l G X uc us pc' ls (.int (x ||| y) :: st) h Q) : ez_Ev l G X uc us pc ls (.int y :: .int x :: st) h Q := by
  obtain ⟨hd, rfl⟩ := hd
  exact ez_pure (st' := .int (x ||| y) :: st) (fun p e s m args below meth c ad H locs cells slots Qz L hx hb kk => lv_ior hx hb hd kk) k
theorem ev_ixor {x y : Int32} (hd : ez_at X pc .ixor 1 pc') (k : ez_Ev l G X uc us pc' ls (.int (x ^^^ y) :: st) h Q) : ez_Ev l G X uc us pc ls (.int y :: .int x :: st) h Q := by
  obtain ⟨hd, rfl⟩ := hd
  exact ez_pure (st' := .int (x ^^^ y) :: st) (fun p e s m args below meth c ad H locs cells slots Qz L hx hb kk => lv_ixor hx hb hd kk) k
theorem ev_ishl {x y : Int32} (hd : ez_at X pc .ishl 1 pc') (k : ez_Ev l G X uc us pc' ls (.int (x <<< (y &&& 31)) :: st) h Q) : ez_Ev l G X uc us pc ls (.int y :: .int x :: st) h Q := by
  obtain ⟨hd, rfl⟩ := hd
  exact ez_pure (st' := .int (x <<< (y &&& 31)) :: st) (fun p e s m args below meth c ad H locs cells slots Qz L hx hb kk => lv_ishl hx hb hd kk) k
theorem ev_ishr {x y : Int32} (hd : ez_at X pc .ishr 1 pc') (k : ez_Ev l G X uc us pc' ls (.int (x >>> (y &&& 31)) :: st) h Q) : ez_Ev l G X uc us pc ls (.int y :: .int x :: st) h Q := by
  obtain ⟨hd, rfl⟩ := hd
  exact ez_pure (st' := .int (x >>> (y &&& 31)) :: st) (fun p e s m args below meth c ad H locs cells slots Qz L hx hb kk => lv_ishr hx hb hd kk) k
theorem ev_iushr {x y : Int32} (hd : ez_at X pc .iushr 1 pc') (k : ez_Ev l G X uc us pc' ls (.int ((x.toUInt32 >>> (y.toUInt32 &&& Int32.toUInt32 31)).toInt32) :: st) h Q) : ez_Ev l G X uc us pc ls (.int y :: .int x :: st) h Q := by
  obtain ⟨hd, rfl⟩ := hd
  exact ez_pure (st' := .int ((x.toUInt32 >>> (y.toUInt32 &&& Int32.toUInt32 31)).toInt32) :: st) (fun p e s m args below meth c ad H locs cells slots Qz L hx hb kk => lv_iushr hx hb hd rfl kk) k
theorem ev_idiv {x y : Int32} (hd : ez_at X pc .idiv 1 pc') (hne : ¬ y = 0) (k : ez_Ev l G X uc us pc' ls (.int (x / y) :: st) h Q) : ez_Ev l G X uc us pc ls (.int y :: .int x :: st) h Q := by
  obtain ⟨hd, rfl⟩ := hd
  exact ez_pure (st' := .int (x / y) :: st) (fun p e s m args below meth c ad H locs cells slots Qz L hx hb kk => lv_idiv hx hb hd hne kk) k
theorem ev_irem {x y : Int32} (hd : ez_at X pc .irem 1 pc') (hne : ¬ y = 0) (k : ez_Ev l G X uc us pc' ls (.int (x - x / y * y) :: st) h Q) : ez_Ev l G X uc us pc ls (.int y :: .int x :: st) h Q := by
  obtain ⟨hd, rfl⟩ := hd
  exact ez_pure (st' := .int (x - x / y * y) :: st) (fun p e s m args below meth c ad H locs cells slots Qz L hx hb kk => lv_irem hx hb hd hne kk) k
theorem ev_ineg {x : Int32} (hd : ez_at X pc .ineg 1 pc') (k : ez_Ev l G X uc us pc' ls (.int (-x) :: st) h Q) : ez_Ev l G X uc us pc ls (.int x :: st) h Q := by
  obtain ⟨hd, rfl⟩ := hd
  exact ez_pure (st' := .int (-x) :: st) (fun p e s m args below meth c ad H locs cells slots Qz L hx hb kk => lv_ineg hx hb hd kk) k
theorem ev_goto {off : Int} {n : Nat} (hd : ez_br X pc (.goto off) 3 n off tgt) (k : ez_Ev l G X uc us tgt ls st h Q) : ez_Ev l G X uc us pc ls st h Q :=
  ez_pure (fun p e s m args below meth c ad H locs cells slots Qz L hx hb kk => lv_goto hx hb hd.1 hd.2.2 kk) k
theorem ev_dup {v : Value} (hd : ez_at X pc .dup 1 pc') (hc : v.category = 1) (k : ez_Ev l G X uc us pc' ls (v :: v :: st) h Q) : ez_Ev l G X uc us pc ls (v :: st) h Q := by
  obtain ⟨hd, rfl⟩ := hd
  exact ez_pure (st' := v :: v :: st) (fun p e s m args below meth c ad H locs cells slots Qz L hx hb kk => lv_dup hx hb hd ((ez_cat ad v).trans hc) kk) k
theorem ev_dup2 {v w : Value} (hd : ez_at X pc .dup2 1 pc') (hc : v.category = 1) (hc2 : w.category = 1) (k : ez_Ev l G X uc us pc' ls (v :: w :: v :: w :: st) h Q) : ez_Ev l G X uc us pc ls (v :: w :: st) h Q := by
  obtain ⟨hd, rfl⟩ := hd
  exact ez_pure (st' := v :: w :: v :: w :: st) (fun p e s m args below meth c ad H locs cells slots Qz L hx hb kk => lv_dup2_11 hx hb hd ((ez_cat ad v).trans hc) ((ez_cat ad w).trans hc2) kk) k
theorem ev_pop {v : Value} (hd : ez_at X pc .pop 1 pc') (hc : v.category = 1) (k : ez_Ev l G X uc us pc' ls st h Q) : ez_Ev l G X uc us pc ls (v :: st) h Q := by
  obtain ⟨hd, rfl⟩ := hd
  exact ez_pure (st' := st) (fun p e s m args below meth c ad H locs cells slots Qz L hx hb kk => lv_pop hx hb hd ((ez_cat ad v).trans hc) kk) k
theorem ev_icmp_eq {x y : Int32} {off : Int} (hd : ez_br X pc (.if_icmp .eq off) 3 pc' off tgt) (kt : x = y → ez_Ev l G X uc us tgt ls st h Q) (kf : ¬ x = y → ez_Ev l G X uc us pc' ls st h Q) : ez_Ev l G X uc us pc ls (.int y :: .int x :: st) h Q := by
  obtain ⟨hd, rfl, ht⟩ := hd
  intro p e s m args below meth c A n0 ad0 ad H locs cells slots L I
  exact lv_icmp_eq I.1.1 I.1.2.1 hd ht (fun hc => kt hc p e s m args below meth c A n0 ad0 ad H locs cells slots L I) (fun hc => kf hc p e s m args below meth c A n0 ad0 ad H locs cells slots L I)
theorem ev_icmp_ne {x y : Int32} {off : Int} (hd : ez_br X pc (.if_icmp .ne off) 3 pc' off tgt) (kt : ¬ x = y → ez_Ev l G X uc us tgt ls st h Q) (kf : x = y → ez_Ev l G X uc us pc' ls st h Q) : ez_Ev l G X uc us pc ls (.int y :: .int x :: st) h Q := by
  obtain ⟨hd, rfl, ht⟩ := hd
  intro p e s m args below meth c A n0 ad0 ad H locs cells slots L I
  exact lv_icmp_ne I.1.1 I.1.2.1 hd ht (fun hc => kt hc p e s m args below meth c A n0 ad0 ad H locs cells slots L I) (fun hc => kf hc p e s m args below meth c A n0 ad0 ad H locs cells slots L I)
theorem ev_icmp_lt {x y : Int32} {off : Int} (hd : ez_br X pc (.if_icmp .lt off) 3 pc' off tgt) (kt : x < y → ez_Ev l G X uc us tgt ls st h Q) (kf : ¬ x < y → ez_Ev l G X uc us pc' ls st h Q) : ez_Ev l G X uc us pc ls (.int y :: .int x :: st) h Q := by
  obtain ⟨hd, rfl, ht⟩ := hd
  intro p e s m args below meth c A n0 ad0 ad H locs cells slots L I
  exact lv_icmp_lt I.1.1 I.1.2.1 hd ht (fun hc => kt hc p e s m args below meth c A n0 ad0 ad H locs cells slots L I) (fun hc => kf hc p e s m args below meth c A n0 ad0 ad H locs cells slots L I)
theorem ev_icmp_ge {x y : Int32} {off : Int} (hd : ez_br X pc (.if_icmp .ge off) 3 pc' off tgt) (kt : y ≤ x → ez_Ev l G X uc us tgt ls st h Q) (kf : ¬ y ≤ x → ez_Ev l G X uc us pc' ls st h Q) : ez_Ev l G X uc us pc ls (.int y :: .int x :: st) h Q := by
  obtain ⟨hd, rfl, ht⟩ := hd
  intro p e s m args below meth c A n0 ad0 ad H locs cells slots L I
  exact lv_icmp_ge I.1.1 I.1.2.1 hd ht (fun hc => kt hc p e s m args below meth c A n0 ad0 ad H locs cells slots L I) (fun hc => kf hc p e s m args below meth c A n0 ad0 ad H locs cells slots L I)
theorem ev_icmp_gt {x y : Int32} {off : Int} (hd : ez_br X pc (.if_icmp .gt off) 3 pc' off tgt) (kt : y < x → ez_Ev l G X uc us tgt ls st h Q) (kf : ¬ y < x → ez_Ev l G X uc us pc' ls st h Q) : ez_Ev l G X uc us pc ls (.int y :: .int x :: st) h Q := by
  obtain ⟨hd, rfl, ht⟩ := hd
  intro p e s m args below meth c A n0 ad0 ad H locs cells slots L I
  exact lv_icmp_gt I.1.1 I.1.2.1 hd ht (fun hc => kt hc p e s m args below meth c A n0 ad0 ad H locs cells slots L I) (fun hc => kf hc p e s m args below meth c A n0 ad0 ad H locs cells slots L I)
theorem ev_icmp_le {x y : Int32} {off : Int} (hd : ez_br X pc (.if_icmp .le off) 3 pc' off tgt) (kt : x ≤ y → ez_Ev l G X uc us tgt ls st h Q) (kf : ¬ x ≤ y → ez_Ev l G X uc us pc' ls st h Q) : ez_Ev l G X uc us pc ls (.int y :: .int x :: st) h Q := by
  obtain ⟨hd, rfl, ht⟩ := hd
  intro p e s m args below meth c A n0 ad0 ad H locs cells slots L I
  exact lv_icmp_le I.1.1 I.1.2.1 hd ht (fun hc => kt hc p e s m args below meth c A n0 ad0 ad H locs cells slots L I) (fun hc => kf hc p e s m args below meth c A n0 ad0 ad H locs cells slots L I)
theorem ev_if_eq {x : Int32} {off : Int} (hd : ez_br X pc (.ifCond .eq off) 3 pc' off tgt) (kt : x = 0 → ez_Ev l G X uc us tgt ls st h Q) (kf : ¬ x = 0 → ez_Ev l G X uc us pc' ls st h Q) : ez_Ev l G X uc us pc ls (.int x :: st) h Q := by
  obtain ⟨hd, rfl, ht⟩ := hd
  intro p e s m args below meth c A n0 ad0 ad H locs cells slots L I
  exact lv_if_eq I.1.1 I.1.2.1 hd ht (fun hc => kt hc p e s m args below meth c A n0 ad0 ad H locs cells slots L I) (fun hc => kf hc p e s m args below meth c A n0 ad0 ad H locs cells slots L I)
theorem ev_if_ne {x : Int32} {off : Int} (hd : ez_br X pc (.ifCond .ne off) 3 pc' off tgt) (kt : ¬ x = 0 → ez_Ev l G X uc us tgt ls st h Q) (kf : x = 0 → ez_Ev l G X uc us pc' ls st h Q) : ez_Ev l G X uc us pc ls (.int x :: st) h Q := by
  obtain ⟨hd, rfl, ht⟩ := hd
  intro p e s m args below meth c A n0 ad0 ad H locs cells slots L I
  exact lv_if_ne I.1.1 I.1.2.1 hd ht (fun hc => kt hc p e s m args below meth c A n0 ad0 ad H locs cells slots L I) (fun hc => kf hc p e s m args below meth c A n0 ad0 ad H locs cells slots L I)
theorem ev_if_lt {x : Int32} {off : Int} (hd : ez_br X pc (.ifCond .lt off) 3 pc' off tgt) (kt : x < 0 → ez_Ev l G X uc us tgt ls st h Q) (kf : ¬ x < 0 → ez_Ev l G X uc us pc' ls st h Q) : ez_Ev l G X uc us pc ls (.int x :: st) h Q := by
  obtain ⟨hd, rfl, ht⟩ := hd
  intro p e s m args below meth c A n0 ad0 ad H locs cells slots L I
  exact lv_if_lt I.1.1 I.1.2.1 hd ht (fun hc => kt hc p e s m args below meth c A n0 ad0 ad H locs cells slots L I) (fun hc => kf hc p e s m args below meth c A n0 ad0 ad H locs cells slots L I)
theorem ev_if_ge {x : Int32} {off : Int} (hd : ez_br X pc (.ifCond .ge off) 3 pc' off tgt) (kt : 0 ≤ x → ez_Ev l G X uc us tgt ls st h Q) (kf : ¬ 0 ≤ x → ez_Ev l G X uc us pc' ls st h Q) : ez_Ev l G X uc us pc ls (.int x :: st) h Q := by
  obtain ⟨hd, rfl, ht⟩ := hd
  intro p e s m args below meth c A n0 ad0 ad H locs cells slots L I
  exact lv_if_ge I.1.1 I.1.2.1 hd ht (fun hc => kt hc p e s m args below meth c A n0 ad0 ad H locs cells slots L I) (fun hc => kf hc p e s m args below meth c A n0 ad0 ad H locs cells slots L I)
theorem ev_if_gt {x : Int32} {off : Int} (hd : ez_br X pc (.ifCond .gt off) 3 pc' off tgt) (kt : 0 < x → ez_Ev l G X uc us tgt ls st h Q) (kf : ¬ 0 < x → ez_Ev l G X uc us pc' ls st h Q) : ez_Ev l G X uc us pc ls (.int x :: st) h Q := by
  obtain ⟨hd, rfl, ht⟩ := hd
  intro p e s m args below meth c A n0 ad0 ad H locs cells slots L I
  exact lv_if_gt I.1.1 I.1.2.1 hd ht (fun hc => kt hc p e s m args below meth c A n0 ad0 ad H locs cells slots L I) (fun hc => kf hc p e s m args below meth c A n0 ad0 ad H locs cells slots L I)
theorem ev_if_le {x : Int32} {off : Int} (hd : ez_br X pc (.ifCond .le off) 3 pc' off tgt) (kt : x ≤ 0 → ez_Ev l G X uc us tgt ls st h Q) (kf : ¬ x ≤ 0 → ez_Ev l G X uc us pc' ls st h Q) : ez_Ev l G X uc us pc ls (.int x :: st) h Q := by
  obtain ⟨hd, rfl, ht⟩ := hd
  intro p e s m args below meth c A n0 ad0 ad H locs cells slots L I
  exact lv_if_le I.1.1 I.1.2.1 hd ht (fun hc => kt hc p e s m args below meth c A n0 ad0 ad H locs cells slots L I) (fun hc => kf hc p e s m args below meth c A n0 ad0 ad H locs cells slots L I)
theorem ev_iload_n {k : Fin 4} {i : Nat} {x : Int32} (hd : ez_at X pc (.iload_n k) 1 pc') (hi : (k : Nat) = i) (hl : ls[i]? = some (some (.int x))) (kk : ez_Ev l G X uc us pc' ls (.int x :: st) h Q) : ez_Ev l G X uc us pc ls st h Q := by
  obtain ⟨hd, rfl⟩ := hd
  intro p e s m args below meth c A n0 ad0 ad H locs cells slots L I
  exact lv_iload_n I.1.1 I.1.2.1 hd hi (I.2.2.2.2.2.2.2.2.1.2.2 i _ hl).2 (kk p e s m args below meth c A n0 ad0 ad H locs cells slots L I)
theorem ev_iload {i : Nat} {x : Int32} (hd : ez_at X pc (.iload i) 2 pc') (hl : ls[i]? = some (some (.int x))) (kk : ez_Ev l G X uc us pc' ls (.int x :: st) h Q) : ez_Ev l G X uc us pc ls st h Q := by
  obtain ⟨hd, rfl⟩ := hd
  intro p e s m args below meth c A n0 ad0 ad H locs cells slots L I
  exact lv_iload I.1.1 I.1.2.1 hd (I.2.2.2.2.2.2.2.2.1.2.2 i _ hl).2 (kk p e s m args below meth c A n0 ad0 ad H locs cells slots L I)
theorem ev_aload_n {k : Fin 4} {i : Nat} {x : Nat} (hd : ez_at X pc (.aload_n k) 1 pc') (hi : (k : Nat) = i) (hl : ls[i]? = some (some (.ref x))) (kk : ez_Ev l G X uc us pc' ls (.ref x :: st) h Q) : ez_Ev l G X uc us pc ls st h Q := by
  obtain ⟨hd, rfl⟩ := hd
  intro p e s m args below meth c A n0 ad0 ad H locs cells slots L I
  exact lv_aload_n I.1.1 I.1.2.1 hd hi (I.2.2.2.2.2.2.2.2.1.2.2 i _ hl).2 (kk p e s m args below meth c A n0 ad0 ad H locs cells slots L I)
theorem ev_aload {i : Nat} {x : Nat} (hd : ez_at X pc (.aload i) 2 pc') (hl : ls[i]? = some (some (.ref x))) (kk : ez_Ev l G X uc us pc' ls (.ref x :: st) h Q) : ez_Ev l G X uc us pc ls st h Q := by
  obtain ⟨hd, rfl⟩ := hd
  intro p e s m args below meth c A n0 ad0 ad H locs cells slots L I
  exact lv_aload I.1.1 I.1.2.1 hd (I.2.2.2.2.2.2.2.2.1.2.2 i _ hl).2 (kk p e s m args below meth c A n0 ad0 ad H locs cells slots L I)
/-- the known locals, listed -/
def ez_lv (ad : Nat → Nat) (ls : List (Option Value)) : List (Nat × Value) := (List.range ls.length).filterMap fun i => (ls[i]?.join).map fun v => (i, ez_v ad v)
theorem ez_lv_mem {ad : Nat → Nat} {ls : List (Option Value)} {q : Nat × Value} (hq : q ∈ ez_lv ad ls) : ∃ v, ls[q.1]? = some (some v) ∧ q.2 = ez_v ad v := by
  obtain ⟨i, -, hi⟩ := List.mem_filterMap.mp hq
  cases hj : ls[i]?.join with
  | none => rw [hj] at hi; cases hi
  | some v =>
    rw [hj] at hi
    cases hi
    refine ⟨v, ?_, rfl⟩
    cases hk : ls[i]? with
    | none => rw [hk] at hj; cases hj
    | some o => rw [hk] at hj; simp only [Option.join_some] at hj; rw [hj]
theorem ez_lv_in {ad : Nat → Nat} {ls : List (Option Value)} {i : Nat} {v : Value} (h : ls[i]? = some (some v)) : (i, ez_v ad v) ∈ ez_lv ad ls :=
  List.mem_filterMap.mpr ⟨i, List.mem_range.mpr (List.getElem?_eq_some_iff.mp h).1, by rw [h]; rfl⟩
theorem ez_lv_has {ad : Nat → Nat} {n : Nat} {ls : List (Option Value)} {L : Array Slot} (h : ez_L ad n ls L) : lv_has L n (ez_lv ad ls) := by
  refine ⟨h.1, h.2.1, fun q hq => ?_⟩
  obtain ⟨v, h1, h2⟩ := ez_lv_mem hq
  rw [h2]
  exact (h.2.2 q.1 v h1).2
theorem ez_L_put {ad : Nat → Nat} {n i : Nat} {ls : List (Option Value)} {L L' : Array Slot} {v : Value} (h : ez_L ad n ls L) (hc : v.category = 1)
    (h' : lv_has L' n ((i, ez_v ad v) :: (ez_lv ad ls).filter (fun q => !(q.1 == i) && !(q.1 + 1 == i && q.2.category == 2)))) : ez_L ad n (ls.set i (some v)) L' := by
  refine ⟨h'.1, h'.2.1, fun j w hj => ?_⟩
  rw [List.getElem?_set] at hj
  by_cases hij : i = j
  · subst hij
    rw [if_pos rfl] at hj
    split at hj
    · simp only [Option.some.injEq] at hj
      subst hj
      exact ⟨hc, h'.2.2 _ List.mem_cons_self⟩
    · cases hj
  · rw [if_neg hij] at hj
    have h1 := (h.2.2 j w hj).1
    refine ⟨h1, h'.2.2 (j, ez_v ad w) (List.mem_cons_of_mem _ (List.mem_filter.mpr ⟨ez_lv_in hj, ?_⟩))⟩
    have h2 : ¬ (ez_v ad w).category = 2 := by rw [ez_cat, h1]; decide
    simp [h2, Ne.symm hij]
theorem ez_In_ls {ls' : List (Option Value)} {h : ez_H} {p : Program} {s : State} {m : MethodId} {args : Array Value} {meth : Method} {c : Code} {A : Nat → Prop} {n0 : Nat} {ad0 ad : Nat → Nat} {H : Heap} {locs : List Loc} {cells slots : Nat} {L L' : Array Slot}
    (I : ez_In G X uc us ls h p s m args meth c A n0 ad0 ad H locs cells slots L) (hL : ez_L ad X.2.2.1 ls' L') : ez_In G X uc us ls' h p s m args meth c A n0 ad0 ad H locs cells slots L' :=
  ⟨I.1, I.2.1, I.2.2.1, I.2.2.2.1, I.2.2.2.2.1, I.2.2.2.2.2.1, I.2.2.2.2.2.2.1, I.2.2.2.2.2.2.2.1, hL, I.2.2.2.2.2.2.2.2.2⟩
theorem ev_istore_n {k : Fin 4} {i : Nat} {x : Int32} (hd : ez_at X pc (.istore_n k) 1 pc') (hi : (k : Nat) = i) (hn : i < X.2.2.1) (kk : ez_Ev l G X uc us pc' (ls.set i (some (.int x))) st h Q) : ez_Ev l G X uc us pc ls (.int x :: st) h Q := by
  obtain ⟨hd, rfl⟩ := hd
  intro p e s m args below meth c A n0 ad0 ad H locs cells slots L I
  exact lv_istore_n I.1.1 I.1.2.1 hd hi (ez_lv_has I.2.2.2.2.2.2.2.2.1) hn rfl (fun L' hL' => kk p e s m args below meth c A n0 ad0 ad H locs cells slots L' (ez_In_ls I (ez_L_put I.2.2.2.2.2.2.2.2.1 rfl hL')))
theorem ev_istore {i : Nat} {x : Int32} (hd : ez_at X pc (.istore i) 2 pc') (hn : i < X.2.2.1) (kk : ez_Ev l G X uc us pc' (ls.set i (some (.int x))) st h Q) : ez_Ev l G X uc us pc ls (.int x :: st) h Q := by
  obtain ⟨hd, rfl⟩ := hd
  intro p e s m args below meth c A n0 ad0 ad H locs cells slots L I
  exact lv_istore I.1.1 I.1.2.1 hd (ez_lv_has I.2.2.2.2.2.2.2.2.1) hn rfl (fun L' hL' => kk p e s m args below meth c A n0 ad0 ad H locs cells slots L' (ez_In_ls I (ez_L_put I.2.2.2.2.2.2.2.2.1 rfl hL')))
theorem ev_astore_n {k : Fin 4} {i : Nat} {x : Nat} (hd : ez_at X pc (.astore_n k) 1 pc') (hi : (k : Nat) = i) (hn : i < X.2.2.1) (kk : ez_Ev l G X uc us pc' (ls.set i (some (.ref x))) st h Q) : ez_Ev l G X uc us pc ls (.ref x :: st) h Q := by
  obtain ⟨hd, rfl⟩ := hd
  intro p e s m args below meth c A n0 ad0 ad H locs cells slots L I
  exact lv_astore_n I.1.1 I.1.2.1 hd hi (ez_lv_has I.2.2.2.2.2.2.2.2.1) hn rfl (fun L' hL' => kk p e s m args below meth c A n0 ad0 ad H locs cells slots L' (ez_In_ls I (ez_L_put I.2.2.2.2.2.2.2.2.1 rfl hL')))
theorem ev_astore {i : Nat} {x : Nat} (hd : ez_at X pc (.astore i) 2 pc') (hn : i < X.2.2.1) (kk : ez_Ev l G X uc us pc' (ls.set i (some (.ref x))) st h Q) : ez_Ev l G X uc us pc ls (.ref x :: st) h Q := by
  obtain ⟨hd, rfl⟩ := hd
  intro p e s m args below meth c A n0 ad0 ad H locs cells slots L I
  exact lv_astore I.1.1 I.1.2.1 hd (ez_lv_has I.2.2.2.2.2.2.2.2.1) hn rfl (fun L' hL' => kk p e s m args below meth c A n0 ad0 ad H locs cells slots L' (ez_In_ls I (ez_L_put I.2.2.2.2.2.2.2.2.1 rfl hL')))
theorem ev_iinc {i : Nat} {n : Int} {x v : Int32} (hd : ez_at X pc (.iinc i n) 3 pc') (hl : ls[i]? = some (some (.int x))) (hv : x + Int32.ofInt n = v) (hn : i < X.2.2.1) (kk : ez_Ev l G X uc us pc' (ls.set i (some (.int v))) st h Q) : ez_Ev l G X uc us pc ls st h Q := by
  obtain ⟨hd, rfl⟩ := hd
  intro p e s m args below meth c A n0 ad0 ad H locs cells slots L I
  obtain ⟨k, hk⟩ := List.getElem?_of_mem (ez_lv_in (ad := ad) hl)
  exact lv_iinc I.1.1 I.1.2.1 hd (ez_lv_has I.2.2.2.2.2.2.2.2.1) hk hv hn rfl (fun L' hL' => kk p e s m args below meth c A n0 ad0 ad H locs cells slots L' (ez_In_ls I (ez_L_put (v := .int v) I.2.2.2.2.2.2.2.2.1 rfl hL')))
/-- forget locals -/
theorem ev_ls (ls' : List (Option Value)) (hl : ∀ (i : Nat) (v : Value), ls'[i]? = some (some v) → ls[i]? = some (some v)) (kk : ez_Ev l G X uc us pc ls' st h Q) : ez_Ev l G X uc us pc ls st h Q := by
  intro p e s m args below meth c A n0 ad0 ad H locs cells slots L I
  exact kk p e s m args below meth c A n0 ad0 ad H locs cells slots L (ez_In_ls I ⟨I.2.2.2.2.2.2.2.2.1.1, I.2.2.2.2.2.2.2.2.1.2.1, fun i v hv => I.2.2.2.2.2.2.2.2.1.2.2 i v (hl i v hv)⟩)
def ez_mask : List Bool → List (Option Value) → List (Option Value)
  | true :: bs, o :: l => o :: ez_mask bs l
  | false :: bs, _ :: l => none :: ez_mask bs l
  | _, _ => []
theorem ez_mask_le : ∀ (bs : List Bool) (l : List (Option Value)) (i : Nat) (v : Value), (ez_mask bs l)[i]? = some (some v) → l[i]? = some (some v) := by
  intro bs
  induction bs with
  | nil => intro l i v h; cases l <;> simp [ez_mask] at h
  | cons b bs ih =>
    intro l i v h
    cases l with
    | nil => cases b <;> simp [ez_mask] at h
    | cons o l =>
      cases b <;> cases i <;> simp only [ez_mask, List.getElem?_cons_zero, List.getElem?_cons_succ] at h ⊢
      · cases h
      · exact ih l _ v h
      · exact h
      · exact ih l _ v h
theorem ev_mask (bm : List Bool) {ls' : List (Option Value)} (hl : ez_mask bm ls = ls') (kk : ez_Ev l G X uc us pc ls' st h Q) : ez_Ev l G X uc us pc ls st h Q :=
  ev_ls ls' (fun i v hv => ez_mask_le bm ls i v (by rw [hl]; exact hv)) kk
theorem ev_mono {Q' : ez_R → Prop} (hq : ∀ r, Q' r → Q r) (kk : ez_Ev l G X uc us pc ls st h Q') : ez_Ev l G X uc us pc ls st h Q := by
  intro p e s m args below meth c A n0 ad0 ad H locs cells slots L I T hT S
  obtain ⟨t, a1, o, b1, b2, ⟨r, ad', c1, c2⟩, b4⟩ := kk p e s m args below meth c A n0 ad0 ad H locs cells slots L I T hT S
  exact ⟨t, a1, o, b1, b2, ⟨r, ad', hq r c1, c2⟩, b4⟩
/-- more is taken as used -/
theorem ev_more {uc' us' : Nat} (h1 : uc ≤ uc') (h2 : us ≤ us') (kk : ez_Ev l G X uc' us' pc ls st h Q) : ez_Ev l G X uc us pc ls st h Q := by
  intro p e s m args below meth c A n0 ad0 ad H locs cells slots L I
  exact kk p e s m args below meth c A n0 ad0 ad H locs cells slots L ⟨I.1, I.2.1, I.2.2.1, I.2.2.2.1, I.2.2.2.2.1, I.2.2.2.2.2.1, I.2.2.2.2.2.2.1, I.2.2.2.2.2.2.2.1, I.2.2.2.2.2.2.2.2.1, Nat.le_trans I.2.2.2.2.2.2.2.2.2.1 h1, Nat.le_trans I.2.2.2.2.2.2.2.2.2.2 h2⟩
/-- a cell is written -/
theorem ez_In_set {k : Nat} {q : ez_Cell} {h : ez_H} {p : Program} {s : State} {m : MethodId} {args : Array Value} {meth : Method} {c : Code} {A : Nat → Prop} {n0 : Nat} {ad0 ad : Nat → Nat} {H H1 : Heap} {locs locs1 : List Loc} {cells slots : Nat} {L : Array Slot}
    (I : ez_In G X uc us ls h p s m args meth c A n0 ad0 ad H locs cells slots L) (hP1 : va_P G.1 ez_cl ((ez_ws G ad h).set k (ad k, ez_e G.2.1 ad q)) H1) (hD1 : va_D A ((ez_ws G ad h).set k (ad k, ez_e G.2.1 ad q))) (hS1 : va_S A s.heap H1 locs1) : ez_In G X uc us ls (h.set k q) p s m args meth c A n0 ad0 ad H1 locs1 cells slots L :=
  ⟨I.1, I.2.1, ⟨I.2.2.1.1, by rw [List.length_set]; exact I.2.2.1.2.1, I.2.2.1.2.2⟩, by rw [List.length_set]; exact I.2.2.2.1, by rw [List.length_set]; exact I.2.2.2.2.1, by rw [ez_ws_set]; exact hP1, by rw [ez_ws_set]; exact hD1, hS1, I.2.2.2.2.2.2.2.2.1, I.2.2.2.2.2.2.2.2.2⟩
theorem ev_iald {k n : Nat} {f : Nat → Int32} {i : Int32} (hd : ez_at X pc .iaload 1 pc') (hk : h[k]? = some (.inl (.int, (n, .inl f)))) (hin : vp_in i n) (kk : ez_Ev l G X uc us pc' ls (.int (f i.toNatClampNeg) :: st) h Q) : ez_Ev l G X uc us pc ls (.int i :: .ref k :: st) h Q := by
  obtain ⟨hd, rfl⟩ := hd
  intro p e s m args below meth c A n0 ad0 ad H locs cells slots L I
  exact va_iald I.1.1 I.1.2.1 I.1.2.2.2.2.2.2.2.2.1 I.2.2.2.2.2.1 k 0 (ez_ws_get G ad hk) rfl hin hd (kk p e s m args below meth c A n0 ad0 ad H locs cells slots L I)
theorem ev_zald {k n : Nat} {f : Nat → Int32} {i : Int32} (hd : ez_at X pc .baload 1 pc') (hk : h[k]? = some (.inl (.boolean, (n, .inl f)))) (hin : vp_in i n) (kk : ez_Ev l G X uc us pc' ls (.int (f i.toNatClampNeg) :: st) h Q) : ez_Ev l G X uc us pc ls (.int i :: .ref k :: st) h Q := by
  obtain ⟨hd, rfl⟩ := hd
  intro p e s m args below meth c A n0 ad0 ad H locs cells slots L I
  exact va_zald I.1.1 I.1.2.1 I.1.2.2.2.2.2.2.2.2.1 I.2.2.2.2.2.1 k 1 (ez_ws_get G ad hk) rfl hin hd (kk p e s m args below meth c A n0 ad0 ad H locs cells slots L I)
theorem ev_lald {k n : Nat} {f : Nat → Int64} {i : Int32} (hd : ez_at X pc .laload 1 pc') (hk : h[k]? = some (.inl (.long, (n, .inr (.inl f))))) (hin : vp_in i n) (kk : ez_Ev l G X uc us pc' ls (.long (f i.toNatClampNeg) :: st) h Q) : ez_Ev l G X uc us pc ls (.int i :: .ref k :: st) h Q := by
  obtain ⟨hd, rfl⟩ := hd
  intro p e s m args below meth c A n0 ad0 ad H locs cells slots L I
  exact va_lald I.1.1 I.1.2.1 I.1.2.2.2.2.2.2.2.2.1 I.2.2.2.2.2.1 k 2 (ez_ws_get G ad hk) rfl hin hd (kk p e s m args below meth c A n0 ad0 ad H locs cells slots L I)
theorem ev_iast {k n : Nat} {f : Nat → Int32} {i x : Int32} (hd : ez_at X pc .iastore 1 pc') (hk : h[k]? = some (.inl (.int, (n, .inl f)))) (hin : vp_in i n) (kk : ez_Ev l G X uc us pc' ls st (h.set k (.inl (.int, (n, .inl (upd f i.toNatClampNeg x))))) Q) : ez_Ev l G X uc us pc ls (.int x :: .int i :: .ref k :: st) h Q := by
  obtain ⟨hd, rfl⟩ := hd
  intro p e s m args below meth c A n0 ad0 ad H locs cells slots L I
  exact va_iast I.1.1 I.1.2.1 I.1.2.2.2.2.2.2.2.2.1 I.2.2.2.2.2.1 I.2.2.2.2.2.2.1 I.2.2.2.2.2.2.2.1 k 0 (ez_ws_get G ad hk) rfl hin hd (fun H1 locs1 hP1 hD1 hS1 => kk p e s m args below meth c A n0 ad0 ad H1 locs1 cells slots L (ez_In_set (q := .inl (.int, (n, .inl (upd f i.toNatClampNeg x)))) I hP1 hD1 hS1))
theorem ev_zast {k n : Nat} {f : Nat → Int32} {i x : Int32} (hd : ez_at X pc .bastore 1 pc') (hk : h[k]? = some (.inl (.boolean, (n, .inl f)))) (hin : vp_in i n) (kk : ez_Ev l G X uc us pc' ls st (h.set k (.inl (.boolean, (n, .inl (upd f i.toNatClampNeg (vp_nar .boolean x)))))) Q) : ez_Ev l G X uc us pc ls (.int x :: .int i :: .ref k :: st) h Q := by
  obtain ⟨hd, rfl⟩ := hd
  intro p e s m args below meth c A n0 ad0 ad H locs cells slots L I
  exact va_zast I.1.1 I.1.2.1 I.1.2.2.2.2.2.2.2.2.1 I.2.2.2.2.2.1 I.2.2.2.2.2.2.1 I.2.2.2.2.2.2.2.1 k 1 (ez_ws_get G ad hk) rfl hin hd (fun H1 locs1 hP1 hD1 hS1 => kk p e s m args below meth c A n0 ad0 ad H1 locs1 cells slots L (ez_In_set (q := .inl (.boolean, (n, .inl (upd f i.toNatClampNeg (vp_nar .boolean x))))) I hP1 hD1 hS1))
theorem ev_last {k n : Nat} {f : Nat → Int64} {i : Int32} {x : Int64} (hd : ez_at X pc .lastore 1 pc') (hk : h[k]? = some (.inl (.long, (n, .inr (.inl f))))) (hin : vp_in i n) (kk : ez_Ev l G X uc us pc' ls st (h.set k (.inl (.long, (n, .inr (.inl (vp_updL f i.toNatClampNeg x)))))) Q) : ez_Ev l G X uc us pc ls (.long x :: .int i :: .ref k :: st) h Q := by
  obtain ⟨hd, rfl⟩ := hd
  intro p e s m args below meth c A n0 ad0 ad H locs cells slots L I
  exact va_last I.1.1 I.1.2.1 I.1.2.2.2.2.2.2.2.2.1 I.2.2.2.2.2.1 I.2.2.2.2.2.2.1 I.2.2.2.2.2.2.2.1 k 2 (ez_ws_get G ad hk) rfl hin hd (fun H1 locs1 hP1 hD1 hS1 => kk p e s m args below meth c A n0 ad0 ad H1 locs1 cells slots L (ez_In_set (q := .inl (.long, (n, .inr (.inl (vp_updL f i.toNatClampNeg x))))) I hP1 hD1 hS1))
theorem ev_alen {k : Nat} {a : vp_A} {v : Int32} (hd : ez_at X pc .arraylength 1 pc') (hk : h[k]? = some (.inl (.int, a))) (hv : Int32.ofNat a.1 = v) (kk : ez_Ev l G X uc us pc' ls (.int v :: st) h Q) : ez_Ev l G X uc us pc ls (.ref k :: st) h Q := by
  obtain ⟨hd, rfl⟩ := hd
  intro p e s m args below meth c A n0 ad0 ad H locs cells slots L I
  exact va_alen I.1.1 I.1.2.1 I.1.2.2.2.2.2.2.2.2.1 I.2.2.2.2.2.1 k 0 (ez_ws_get G ad hk) rfl hv hd (kk p e s m args below meth c A n0 ad0 ad H locs cells slots L I)
theorem ev_i2l {x : Int32} (hd : ez_at X pc .i2l 1 pc') (k : ez_Ev l G X uc us pc' ls (.long x.toInt64 :: st) h Q) : ez_Ev l G X uc us pc ls (.int x :: st) h Q := by
  obtain ⟨hd, rfl⟩ := hd
  exact ez_pure (st' := .long x.toInt64 :: st) (fun p e s m args below meth c ad H locs cells slots Qz L hx hb kk => lv_i2l hx hb hd rfl kk) k
theorem ev_lconst {n : Fin 2} {v : Int64} (hd : ez_at X pc (.lconst n) 1 pc') (hv : Int64.ofNat (n : Nat) = v) (k : ez_Ev l G X uc us pc' ls (.long v :: st) h Q) : ez_Ev l G X uc us pc ls st h Q := by
  obtain ⟨hd, rfl⟩ := hd
  exact ez_pure (st' := .long v :: st) (fun p e s m args below meth c ad H locs cells slots Qz L hx hb kk => lv_lconst hx hb hd hv kk) k
theorem ev_lcmp {x y : Int64} (hd : ez_at X pc .lcmp 1 pc') (k : ez_Ev l G X uc us pc' ls (.int (lg_cmp x y) :: st) h Q) : ez_Ev l G X uc us pc ls (.long y :: .long x :: st) h Q := by
  obtain ⟨hd, rfl⟩ := hd
  exact ez_pure (st' := .int (lg_cmp x y) :: st) (fun p e s m args below meth c ad H locs cells slots Qz L hx hb kk => W.lcmp hx hb hd kk) k
theorem ev_ldc {index : Nat} {v : Int32} (hd : ez_at X pc (.ldc index) 2 pc') (hc : Cond.constant X.1.cls index v ∈ ez_T) (kk : ez_Ev l G X uc us pc' ls (.int v :: st) h Q) : ez_Ev l G X uc us pc ls st h Q := by
  obtain ⟨hd, rfl⟩ := hd
  intro p e s m args below meth c A n0 ad0 ad H locs cells slots L I
  exact lv_ldc I.1.1 I.1.2.1 I.1.2.2.2.1 (I.1.2.2.2.2.1 _ hc) hd (kk p e s m args below meth c A n0 ad0 ad H locs cells slots L I)
theorem ev_tableOut {dflt lo hi : Int} {offs : Array Int} {n : Nat} {x : Int32} (hd : decode X.2.1 pc = .ok (.tableswitch dflt lo hi offs, n)) (hx : x.toInt < lo ∨ hi < x.toInt) (ht : (pc : Int) + dflt = (tgt : Int)) (kk : ez_Ev l G X uc us tgt ls st h Q) : ez_Ev l G X uc us pc ls (.int x :: st) h Q := by
  intro p e s m args below meth c A n0 ad0 ad H locs cells slots L I
  exact lv_tableOut I.1.1 I.1.2.1 hd hx ht (kk p e s m args below meth c A n0 ad0 ad H locs cells slots L I)
theorem ev_tableIn {dflt lo hi off : Int} {offs : Array Int} {n : Nat} {x : Int32} (hd : decode X.2.1 pc = .ok (.tableswitch dflt lo hi offs, n)) (h1 : ¬ x.toInt < lo) (h2 : ¬ hi < x.toInt) (ho : offs[(x.toInt - lo).toNat]? = some off) (ht : (pc : Int) + off = (tgt : Int)) (kk : ez_Ev l G X uc us tgt ls st h Q) : ez_Ev l G X uc us pc ls (.int x :: st) h Q := by
  intro p e s m args below meth c A n0 ad0 ad H locs cells slots L I
  exact lv_tableIn I.1.1 I.1.2.1 hd h1 h2 ho ht (kk p e s m args below meth c A n0 ad0 ad H locs cells slots L I)
theorem ev_lookup {dflt off : Int} {ps : Array (Int × Int)} {n : Nat} {x : Int32} (hd : decode X.2.1 pc = .ok (.lookupswitch dflt ps, n)) (hp : (ps.toList.zip (ps.toList.drop 1)).all (fun (a, next) => a.1 < next.1) = true) (ho : Op.lookupswitch.offset ps.toList dflt x.toInt = off) (ht : (pc : Int) + off = (tgt : Int)) (kk : ez_Ev l G X uc us tgt ls st h Q) : ez_Ev l G X uc us pc ls (.int x :: st) h Q := by
  intro p e s m args below meth c A n0 ad0 ad H locs cells slots L I
  exact lv_lookup I.1.1 I.1.2.1 hd hp ho ht (kk p e s m args below meth c A n0 ad0 ad H locs cells slots L I)
/-! returns -/
theorem ez_end {v : Option Value} {p : Program} {s : State} {m : MethodId} {args : Array Value} {meth : Method} {c : Code} {A : Nat → Prop} {n0 : Nat} {ad0 ad : Nat → Nat} {H : Heap} {locs : List Loc} {cells slots : Nat} {L : Array Slot}
    (I : ez_In G X uc us ls h p s m args meth c A n0 ad0 ad H locs cells slots L) (hq : Q (.inl v, h)) {t : State} (ht : t.heap = H) : ez_Fin G A n0 ad0 Q (.returned (v.map (ez_v ad))) t ∧ va_F A s t :=
  ⟨⟨(.inl v, h), ad, hq, ⟨I.2.2.2.1, I.2.2.1.2.1⟩, I.2.2.2.2.1, by rw [ht]; exact I.2.2.2.2.2.1, I.2.2.2.2.2.2.1, rfl⟩, I.2.2.2.2.2.2.2.1.F ht⟩
theorem ez_Wret {p : Program} {l : Launch} {e : Env} {R : Room} {s : State} {m : MethodId} {args : Array Value} {below : List Frame} {meth : Method} {c : Code} {H : Heap} {locs : List Loc} {cells slots : Nat} {A : Nat → Prop} {F : Outcome → State → Prop} {g : JFrame}
    (h1 : cells ≤ ez_mc X) (h2 : slots ≤ ez_ms X) (k : W p l e R s m args below meth c H locs (ez_mc X) (ez_ms X) (MQ below (fun _ st o t => F o t ∧ va_F A st t) args s (ez_mc X) (ez_ms X) A) g) : W p l e R s m args below meth c H locs cells slots (ez_MQ X below s A F) g := by
  refine W.widen h1 h2 ?_
  intro T hT S
  obtain ⟨t, a1, o, b1, b2, ⟨b3, b4⟩, L, ⟨⟨v, rfl⟩, b5, b6⟩, b7⟩ := k T hT S
  exact ⟨t, a1, .returned v, b1, b2, b3, b4, L, ⟨b5, b6⟩, b7⟩
theorem ev_iret {v : Int32} (hd : ez_at X pc .ireturn 1 pc') (hr : X.2.2.2.1 = some .int) (hu : uc ≤ ez_mc X ∧ us ≤ ez_ms X) (hq : Q (.inl (some (.int v)), h)) : ez_Ev l G X uc us pc ls [.int v] h Q := by
  intro p e s m args below meth c A n0 ad0 ad H locs cells slots L I
  have hc := I.2.2.2.2.2.2.2.2.2
  exact ez_Wret (by omega) (by omega) (W.iret I.1.1 I.1.2.1 (I.1.2.2.2.2.2.1.trans hr) (fun t ht _ => ez_end I hq ht) I.2.2.2.2.2.2.2.1.2.2 hd.1 I.1.2.2.2.2.2.2.1)
theorem ev_zret {v : Int32} {ty : FieldType} (hd : ez_at X pc .ireturn 1 pc') (hr : X.2.2.2.1 = some ty) (hn : narrow ty (.int v) = .int v) (hu : uc ≤ ez_mc X ∧ us ≤ ez_ms X) (hq : Q (.inl (some (.int v)), h)) : ez_Ev l G X uc us pc ls [.int v] h Q := by
  intro p e s m args below meth c A n0 ad0 ad H locs cells slots L I
  have hc := I.2.2.2.2.2.2.2.2.2
  exact ez_Wret (by omega) (by omega) (W.zret I.1.1 I.1.2.1 (I.1.2.2.2.2.2.1.trans hr) hn (fun t ht _ => ez_end I hq ht) I.2.2.2.2.2.2.2.1.2.2 hd.1 I.1.2.2.2.2.2.2.1)
theorem ev_vret (hd : ez_at X pc .return_ 1 pc') (hr : X.2.2.2.1 = none) (hu : uc ≤ ez_mc X ∧ us ≤ ez_ms X) (hq : Q (.inl none, h)) : ez_Ev l G X uc us pc ls [] h Q := by
  intro p e s m args below meth c A n0 ad0 ad H locs cells slots L I
  have hc := I.2.2.2.2.2.2.2.2.2
  exact ez_Wret (by omega) (by omega) (W.vret I.1.1 I.1.2.1 (I.1.2.2.2.2.2.1.trans hr) (fun t ht _ => ez_end I hq ht) I.2.2.2.2.2.2.2.1.2.2 hd.1 I.1.2.2.2.2.2.2.1)
theorem ev_aret {k : Nat} {nm : String} (hd : ez_at X pc .areturn 1 pc') (hr : X.2.2.2.1 = some (.object nm)) (hu : uc ≤ ez_mc X ∧ us ≤ ez_ms X) (hq : Q (.inl (some (.ref k)), h)) : ez_Ev l G X uc us pc ls [.ref k] h Q := by
  intro p e s m args below meth c A n0 ad0 ad H locs cells slots L I
  have hc := I.2.2.2.2.2.2.2.2.2
  exact ez_Wret (by omega) (by omega) (W.aret I.1.1 I.1.2.1 (I.1.2.2.2.2.2.1.trans hr) (Or.inl ⟨nm, rfl⟩) (Or.inr ⟨_, rfl⟩) (fun t ht _ => ez_end I hq ht) I.2.2.2.2.2.2.2.1.2.2 hd.1 I.1.2.2.2.2.2.2.1)
/-! fields -/
def ez_fld (own : String) (index ci j : Nat) : Prop := ∃ (C : String) (T : u_T) (N : Nat), ez_cl[ci]? = some (C, T, N) ∧ j < N ∧ (∀ w ∈ u_ws C T N, w ∈ ez_T) ∧ (Cond.fieldLink own index (T j).1 (T j).2.1 (T j).2.2.1 ∈ ez_T ∨ ∃ host, Cond.fieldLinkNest own index (T j).1 (T j).2.1 (T j).2.2.1 host ∈ ez_T)
theorem ev_getf {index ci j k : Nat} {fs : List Value} {v : Value} (hd : ez_at X pc (.getfield index) 3 pc') (hf : ez_fld X.1.cls index ci j) (hk : h[k]? = some (.inr (ci, fs))) (hv : fs[j]? = some v) (kk : ez_Ev l G X uc us pc' ls (v :: st) h Q) : ez_Ev l G X uc us pc ls (.ref k :: st) h Q := by
  obtain ⟨hd, rfl⟩ := hd
  obtain ⟨C, T, N, hc, hj, hin, hl⟩ := hf
  intro p e s m args below meth c A n0 ad0 ad H locs cells slots L I
  have hv' : (fs.map (ez_v ad))[j]? = some (ez_v ad v) := by rw [List.getElem?_map, hv]; rfl
  rcases hl with hl | ⟨host, hl⟩
  · exact va_get I.1.1 I.1.2.1 I.1.2.2.2.2.1 hin I.1.2.2.2.1 I.1.2.2.2.2.2.2.2.2.1 I.2.2.2.2.2.1 k (ez_ws_get G ad hk) hc j hj (I.1.2.2.2.2.1 _ hl) (fun _ h => h) hv' hd (kk p e s m args below meth c A n0 ad0 ad H locs cells slots L I)
  · exact va_getN I.1.1 I.1.2.1 I.1.2.2.2.2.1 hin I.1.2.2.2.1 I.1.2.2.2.2.2.2.2.2.1 I.2.2.2.2.2.1 k (ez_ws_get G ad hk) hc j hj (I.1.2.2.2.2.1 _ hl) (fun _ h => h) hv' hd (kk p e s m args below meth c A n0 ad0 ad H locs cells slots L I)
def ez_fty (ci j : Nat) (fin : Bool) (ty : FieldType) : Prop := ∃ (C : String) (T : u_T) (N : Nat) (ty0 : Nat → FieldType), ez_cl[ci]? = some (C, T, N) ∧ (∀ k, k < N → parseFieldDescriptor (T k).2.2.1 = some (ty0 k)) ∧ (∀ a, a < N → ∀ b, b < N → a ≠ b → (T a).2.1 ≠ (T b).2.1) ∧ (T j).2.2.2 = fin ∧ parseFieldDescriptor (T j).2.2.1 = some ty ∧ (T j).1 = C
theorem ez_e_set (cA : FieldType → ClassId) (ad : Nat → Nat) (ci j : Nat) (fs : List Value) (v : Value) : (Sum.inr (ci, (fs.map (ez_v ad)).set j (ez_v ad v)) : va_E) = ez_e cA ad (.inr (ci, fs.set j v)) := by
  show _ = (Sum.inr (ci, (fs.set j v).map (ez_v ad)) : va_E)
  rw [List.map_set]
theorem ev_putf {index ci j k : Nat} {fs : List Value} {v : Value} {ty : FieldType} (hd : ez_at X pc (.putfield index) 3 pc') (hf : ez_fld X.1.cls index ci j) (hty : ez_fty ci j false ty) (hk : h[k]? = some (.inr (ci, fs))) (hl : j < fs.length) (hn : ∀ ad, narrow ty (ez_v ad v) = ez_v ad v ∧ fits ty (ez_v ad v) = true)
    (kk : ez_Ev l G X uc us pc' ls st (h.set k (.inr (ci, fs.set j v))) Q) : ez_Ev l G X uc us pc ls (v :: .ref k :: st) h Q := by
  obtain ⟨hd, rfl⟩ := hd
  obtain ⟨C, T, N, hc, hj, hin, hlk⟩ := hf
  obtain ⟨C', T', N', ty0, hc', ht0, hnm, hfin, hty, -⟩ := hty
  cases hc.symm.trans hc'
  intro p e s m args below meth c A n0 ad0 ad H locs cells slots L I
  have hlen : j < (fs.map (ez_v ad)).length := by rw [List.length_map]; exact hl
  have go : ∀ (H1 : Heap) (locs1 : List Loc), va_P G.1 ez_cl ((ez_ws G ad h).set k (ad k, .inr (ci, (fs.map (ez_v ad)).set j (ez_v ad v)))) H1 → va_D A ((ez_ws G ad h).set k (ad k, .inr (ci, (fs.map (ez_v ad)).set j (ez_v ad v)))) → va_S A s.heap H1 locs1 → W p l e (ez_rm X) s m args below meth c H1 locs1 cells slots (ez_MQ X below s A (ez_Fin G A n0 ad0 Q)) (F0 m (pc + 3) L (st.map (ez_v ad))) := fun H1 locs1 hP1 hD1 hS1 => by
    rw [ez_e_set G.2.1] at hP1 hD1
    exact kk p e s m args below meth c A n0 ad0 ad H1 locs1 cells slots L (ez_In_set I hP1 hD1 hS1)
  rcases hlk with hlk | ⟨host, hlk⟩
  · exact va_put I.1.1 I.1.2.1 I.1.2.2.2.2.1 hin ty0 ht0 hnm I.1.2.2.2.1 I.1.2.2.2.2.2.2.2.2.1 I.2.2.2.2.2.1 I.2.2.2.2.2.2.1 I.2.2.2.2.2.2.2.1 k (ez_ws_get G ad hk) hc j hj (I.1.2.2.2.2.1 _ hlk) (fun _ h => h) hfin hty (hn ad).1 (hn ad).2 hlen hd go
  · exact va_putN I.1.1 I.1.2.1 I.1.2.2.2.2.1 hin ty0 ht0 hnm I.1.2.2.2.1 I.1.2.2.2.2.2.2.2.2.1 I.2.2.2.2.2.1 I.2.2.2.2.2.2.1 I.2.2.2.2.2.2.2.1 k (ez_ws_get G ad hk) hc j hj (I.1.2.2.2.2.1 _ hlk) (fun _ h => h) hfin hty (hn ad).1 (hn ad).2 hlen hd go
/-! calls -/
theorem ev_calls {Y : ez_X} {n index : Nat} {as rest : List Value} {Qc : ez_R → Prop} (hok : ez_ok Y n) (hl : ez_link X.1.cls index Y.1) (hst : Cond.static Y.1 ∈ ez_T) (hd : ez_at X pc (.invokestatic index) 3 pc') (hC : ez_Ct l G Y as h Qc) (hs : st = as.reverse ++ rest) (hn : as.length = n)
    (hroom : ez_fits X Y uc us) (hrest : (rest.map fun v => v.category).sum ≤ 8) (hX : ez_hs X = []) (hth : uc + ez_mc Y ≤ ez_mc X ∧ us + ez_ms Y ≤ ez_ms X)
    (kr : ∀ v h', Qc (.inl v, h') → ez_still h.length h'.length ls rest ∧ ez_Ev l G X (uc + ez_mc Y) (us + ez_ms Y) pc' ls (v.toList ++ rest) h' Q)
    (kt : ∀ k h', Qc (.inr k, h') → h'.length = h.length ∧ Q (.inr k, h')) : ez_Ev l G X uc us pc ls st h Q := by
  refine ez_call hok hC hroom hrest ?_ ⟨_, hd.1⟩ hd.2 kr (fun k h' hq => ⟨(kt k h' hq).1, ez_Th_out hX ⟨by have := hth.1; omega, by have := hth.2; omega⟩ (kt k h' hq).2⟩)
  intro p e s m args below meth c A n0 ad0 ad H locs cells slots L T I hT S
  exact ez_goS S I.1.1 I.1.2.2.2.2.1 hok I.1.2.2.2.1 hl hst rfl (by rw [List.length_map]; exact hn) (by show st.map (ez_v ad) = _; rw [hs, List.map_append, List.map_reverse]) (by rw [I.1.2.1]; exact hd.1)
theorem ez_toV {Y : ez_X} {n index b ci : Nat} {as rest fs : List Value} {T0 : u_T} {N : Nat} (hok : ez_ok Y n) (hl : ez_link X.1.cls index Y.1) (hin : Cond.instanceMethod Y.1 ∈ ez_T) (hsel : Cond.selects Y.1.cls Y.1 Y.1 ∈ ez_T) (hd : ez_at X pc (.invokevirtual index) 3 pc') (hs : st = as.reverse ++ .ref b :: rest) (hn : as.length = n) (hb : h[b]? = some (.inr (ci, fs))) (hc : ez_cl[ci]? = some (Y.1.cls, T0, N)) :
    ∀ (p : Program) (e : Env) (s : State) (m : MethodId) (args : Array Value) (below : List Frame) (meth : Method) (c : Code) (A : Nat → Prop) (n0 : Nat) (ad0 ad : Nat → Nat) (H : Heap) (locs : List Loc) (cells slots : Nat) (L : Array Slot) (T : State),
      ez_In G X uc us ls h p s m args meth c A n0 ad0 ad H locs cells slots L → T.heap = H → Stand p l e (ez_rm X) s m args below meth c T locs cells slots →
      ez_To p l e (ez_rm X) s m args below meth c T locs cells slots Y.1 (F0 m pc L (st.map (ez_v ad))) (rest.map (ez_v ad)) ((Value.ref b :: as).map (ez_v ad)).toArray := by
  intro p e s m args below meth c A n0 ad0 ad H locs cells slots L T I hT S
  obtain ⟨cell, q1, q2, q3⟩ := va_recv I.1.2.2.2.2.2.2.2.2.1 I.2.2.2.2.2.1 hc (ez_ws_get G ad hb)
  exact ez_goV S I.1.1 I.1.2.2.2.2.1 hok I.1.2.2.2.1 hl hin hsel (by rw [hT]; exact q1) q2 q3 rfl (argsL := as.map (ez_v ad)) (by rw [List.length_map]; exact hn) (by show st.map (ez_v ad) = _; rw [hs, List.map_append, List.map_reverse]; rfl) (by rw [I.1.2.1]; exact hd.1)
theorem ev_callv {Y : ez_X} {n index b ci : Nat} {as rest fs : List Value} {T0 : u_T} {N : Nat} {Qc : ez_R → Prop} (hok : ez_ok Y n) (hl : ez_link X.1.cls index Y.1) (hin : Cond.instanceMethod Y.1 ∈ ez_T) (hsel : Cond.selects Y.1.cls Y.1 Y.1 ∈ ez_T) (hd : ez_at X pc (.invokevirtual index) 3 pc') (hb : h[b]? = some (.inr (ci, fs))) (hc : ez_cl[ci]? = some (Y.1.cls, T0, N))
    (hC : ez_Ct l G Y (.ref b :: as) h Qc) (hs : st = as.reverse ++ .ref b :: rest) (hn : as.length = n)
    (hroom : ez_fits X Y uc us) (hrest : (rest.map fun v => v.category).sum ≤ 8) (hX : ez_hs X = []) (hth : uc + ez_mc Y ≤ ez_mc X ∧ us + ez_ms Y ≤ ez_ms X)
    (kr : ∀ v h', Qc (.inl v, h') → ez_still h.length h'.length ls rest ∧ ez_Ev l G X (uc + ez_mc Y) (us + ez_ms Y) pc' ls (v.toList ++ rest) h' Q)
    (kt : ∀ k h', Qc (.inr k, h') → h'.length = h.length ∧ Q (.inr k, h')) : ez_Ev l G X uc us pc ls st h Q :=
  ez_call hok hC hroom hrest (ez_toV hok hl hin hsel hd hs hn hb hc) ⟨_, hd.1⟩ hd.2 kr (fun k h' hq => ⟨(kt k h' hq).1, ez_Th_out hX ⟨by have := hth.1; omega, by have := hth.2; omega⟩ (kt k h' hq).2⟩)
theorem ev_calli {Y : ez_X} {n index b : Nat} {as rest : List Value} {Qc : ez_R → Prop} (hok : ez_ok Y n) (hy1 : Y.1.name = "<init>") (hyr : Y.2.2.2.1 = none) (hh : ez_hs Y = []) (hl : ez_link X.1.cls index Y.1) (hin : Cond.instanceMethod Y.1 ∈ ez_T) (hd : ez_at X pc (.invokespecial index) 3 pc')
    (hC : ez_Ct l G Y (.ref b :: as) h Qc) (hs : st = as.reverse ++ .ref b :: rest) (hn : as.length = n)
    (hroom : ez_fits X Y uc us) (hrest : (rest.map fun v => v.category).sum ≤ 8)
    (kr : ∀ v h', Qc (.inl v, h') → ez_still h.length h'.length ls rest ∧ ez_Ev l G X (uc + ez_mc Y) (us + ez_ms Y) pc' ls (v.toList ++ rest) h' Q)
    (kt : ∀ k h', ¬ Qc (.inr k, h')) : ez_Ev l G X uc us pc ls st h Q := by
  refine ez_call hok hC hroom hrest ?_ ⟨_, hd.1⟩ hd.2 kr (fun k h' hq => absurd hq (kt k h'))
  intro p e s m args below meth c A n0 ad0 ad H locs cells slots L T I hT S
  exact ez_goI S I.1.1 I.1.2.2.2.2.1 hok hy1 hyr hh I.1.2.2.2.1 hl hin rfl (a := ad b) (argsL := as.map (ez_v ad)) (by rw [List.length_map]; exact hn) (by show st.map (ez_v ad) = _; rw [hs, List.map_append, List.map_reverse]; rfl) (by rw [I.1.2.1]; exact hd.1)
end EzRows
