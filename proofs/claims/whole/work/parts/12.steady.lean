/-- the world once made: places, their lengths or fields -/
def es_SH : List ((FieldType × Nat) ⊕ (Nat × List (Option Nat))) := [.inr (0, [none, none, some 1, some 10, some 19, some 28, some 37, some 42, none]), .inr (1, [some 2, some 3, some 4, some 5, some 6, some 7, some 8, some 9, none, none]), .inl (.int, 24), .inl (.int, 24), .inl (.int, 24), .inl (.int, 48), .inl (.int, 24), .inl (.int, 3), .inl (.int, 5), .inl (.int, 24), .inr (1, [some 11, some 12, some 13, some 14, some 15, some 16, some 17, some 18, none, none]), .inl (.int, 24), .inl (.int, 24), .inl (.int, 24), .inl (.int, 48), .inl (.int, 24), .inl (.int, 3), .inl (.int, 5), .inl (.int, 24), .inr (2, [some 1, some 20, some 21, some 22, some 23, some 24, some 25, some 26, some 27, none, none, none, none]), .inl (.int, 24), .inl (.int, 384), .inl (.int, 512), .inl (.int, 512), .inl (.int, 32), .inl (.int, 32), .inl (.int, 32), .inl (.int, 32), .inr (2, [some 10, some 29, some 30, some 31, some 32, some 33, some 34, some 35, some 36, none, none, none, none]), .inl (.int, 24), .inl (.int, 384), .inl (.int, 512), .inl (.int, 512), .inl (.int, 32), .inl (.int, 32), .inl (.int, 32), .inl (.int, 32), .inr (3, [some 19, some 28, some 38, some 39, some 40, some 41, none, none, none, none, none, none, none]), .inl (.int, 32), .inl (.int, 1024), .inl (.int, 1024), .inl (.int, 1024), .inr (4, [some 1, some 10, some 43, some 44, some 45, none]), .inl (.int, 24), .inl (.int, 24), .inl (.int, 24), .inr (5, [none, none, some 47, some 48, some 49, some 50, some 51, some 52, some 53, some 54, some 55, some 56, some 57, some 58, none, some 59, some 60, some 61, some 62, none, none, some 63]), .inl (.boolean, 16), .inl (.int, 2), .inl (.int, 48), .inl (.int, 48), .inl (.int, 48), .inl (.int, 48), .inl (.int, 6), .inl (.boolean, 24), .inl (.int, 24), .inl (.int, 1024), .inl (.boolean, 64), .inl (.boolean, 1024), .inl (.int, 1024), .inl (.int, 1024), .inl (.int, 1024), .inl (.boolean, 1024), .inl (.boolean, 576), .inl (.long, 1)]
/-! ===== THE STEADY WORLD: once made, its references stand; its numbers change: σ k j is the number at slot j of the cell at place k ===== -/
abbrev es_Sh : Type := (FieldType × Nat) ⊕ (Nat × List (Option Nat))
abbrev es_S : Type := Nat → Nat → Int32
def es_fs (rs : List (Option Nat)) (f : Nat → Int32) : List Value := rs.mapIdx fun j r => match r with
  | some k => .ref k
  | none => .int (f j)
def es_cell (q : es_Sh) (f : Nat → Int32) : ez_Cell := match q with
  | .inl a => if a.1 = .long then .inl (.long, (a.2, .inr (.inl fun j => (f j).toInt64))) else .inl (a.1, (a.2, .inl f))
  | .inr o => .inr (o.1, es_fs o.2 f)
def es_Hs (sh : List es_Sh) (σ : es_S) : ez_H := sh.mapIdx fun k q => es_cell q (σ k)
/-- (shut, so that nobody unfolds it by chance) -/
theorem es_Hex : ∃ f : es_S → ez_H, ∀ σ, f σ = es_Hs es_SH σ := ⟨_, fun _ => rfl⟩
noncomputable def es_H : es_S → ez_H := Classical.choose es_Hex
theorem es_Heq (σ : es_S) : es_H σ = es_Hs es_SH σ := Classical.choose_spec es_Hex σ
def es_up (σ : es_S) (k j : Nat) (x : Int32) : es_S := fun a => if a = k then upd (σ k) j x else σ a
def es_arr (σ : es_S) (k : Nat) (f : Nat → Int32) : es_S := fun a => if a = k then f else σ a
theorem es_up_arr (σ : es_S) (k j : Nat) (x : Int32) : es_up σ k j x = es_arr σ k (upd (σ k) j x) := rfl
theorem es_up_eq (σ : es_S) (k j : Nat) (x : Int32) : es_up σ k j x k j = x := by simp [es_up, upd]
theorem es_up_ne (σ : es_S) (k j : Nat) (x : Int32) {j' : Nat} (h : j' ≠ j) : es_up σ k j x k j' = σ k j' := by simp [es_up, upd, h]
theorem es_up_off (σ : es_S) (k j : Nat) (x : Int32) {k' : Nat} (h : k' ≠ k) : es_up σ k j x k' = σ k' := by simp [es_up, h]
theorem es_get {σ : es_S} {k : Nat} {q : es_Sh} (hk : es_SH[k]? = some q) : (es_H σ)[k]? = some (es_cell q (σ k)) := by
  rw [es_Heq]
  simp only [es_Hs, List.getElem?_mapIdx, hk, Option.map_some]
theorem es_len (σ : es_S) : (es_H σ).length = es_SH.length := by rw [es_Heq]; unfold es_Hs; exact List.length_mapIdx
theorem es_set {σ : es_S} {k : Nat} {q : es_Sh} (hk : es_SH[k]? = some q) (f : Nat → Int32) : (es_H σ).set k (es_cell q f) = es_H (es_arr σ k f) := by
  apply List.ext_getElem?
  intro j
  rw [List.getElem?_set]
  have hl : k < (es_H σ).length := by rw [es_len]; exact (List.getElem?_eq_some_iff.mp hk).1
  by_cases hj : k = j
  · subst hj
    rw [if_pos rfl, if_pos hl, es_get hk]
    have e9 : es_arr σ k f k = f := if_pos rfl
    rw [e9]
  · rw [if_neg hj, es_Heq, es_Heq]
    simp only [es_Hs, List.getElem?_mapIdx]
    have e9 : es_arr σ k f j = σ j := if_neg (fun e => hj e.symm)
    rw [e9]
theorem es_fs_get {rs : List (Option Nat)} {f : Nat → Int32} {j : Nat} (h : rs[j]? = some none) : (es_fs rs f)[j]? = some (.int (f j)) := by
  simp [es_fs, h]
theorem es_fs_ref {rs : List (Option Nat)} {f : Nat → Int32} {j k : Nat} (h : rs[j]? = some (some k)) : (es_fs rs f)[j]? = some (.ref k) := by
  simp [es_fs, h]
theorem es_fs_set {rs : List (Option Nat)} {f : Nat → Int32} {j : Nat} (h : rs[j]? = some none) (x : Int32) : (es_fs rs f).set j (.int x) = es_fs rs (upd f j x) := by
  apply List.ext_getElem?
  intro i
  rw [List.getElem?_set]
  have hl : j < (es_fs rs f).length := by simp [es_fs, (List.getElem?_eq_some_iff.mp h).1]
  by_cases hj : j = i
  · subst hj
    rw [if_pos rfl, if_pos hl, es_fs_get h]
    simp [upd]
  · rw [if_neg hj]
    simp only [es_fs, List.getElem?_mapIdx, upd]
    cases rs[i]? with
    | none => rfl
    | some r =>
      cases r with
      | none => simp [Ne.symm hj]
      | some k => rfl
/-- how a method ends, in the steady world -/
def es_Q (R : Option Value → es_S → Prop) (T : Nat → es_S → Prop) : ez_R → Prop := fun r => ∃ σ : es_S, r.2 = es_H σ ∧ match r.1 with
  | .inl v => R v σ
  | .inr k => T k σ
def es_I (P : Int32 → es_S → Prop) : Option Value → es_S → Prop := fun v σ => ∃ x, v = some (.int x) ∧ P x σ
def es_V (P : es_S → Prop) : Option Value → es_S → Prop := fun v σ => v = none ∧ P σ
def es_P (P : Nat → es_S → Prop) : Option Value → es_S → Prop := fun v σ => ∃ k, v = some (.ref k) ∧ P k σ
def es_no : Nat → es_S → Prop := fun _ _ => False
section EsRows
variable {l : Launch} {G : ez_G} {X : ez_X} {uc us pc pc' tgt : Nat} {ls : List (Option Value)} {st : List Value} {σ : es_S} {Q : ez_R → Prop} {R : Option Value → es_S → Prop} {T : Nat → es_S → Prop}
theorem es_iald {k n : Nat} {i : Int32} (hd : ez_at X pc .iaload 1 pc') (hk : es_SH[k]? = some (.inl (.int, n))) (hin : vp_in i n) (kk : ez_Ev l G X uc us pc' ls (.int (σ k i.toNatClampNeg) :: st) (es_H σ) Q) : ez_Ev l G X uc us pc ls (.int i :: .ref k :: st) (es_H σ) Q :=
  ev_iald hd (es_get hk) hin kk
theorem es_zald {k n : Nat} {i : Int32} (hd : ez_at X pc .baload 1 pc') (hk : es_SH[k]? = some (.inl (.boolean, n))) (hin : vp_in i n) (kk : ez_Ev l G X uc us pc' ls (.int (σ k i.toNatClampNeg) :: st) (es_H σ) Q) : ez_Ev l G X uc us pc ls (.int i :: .ref k :: st) (es_H σ) Q :=
  ev_zald hd (es_get hk) hin kk
theorem es_lald {k n : Nat} {i : Int32} (hd : ez_at X pc .laload 1 pc') (hk : es_SH[k]? = some (.inl (.long, n))) (hin : vp_in i n) (kk : ez_Ev l G X uc us pc' ls (.long (σ k i.toNatClampNeg).toInt64 :: st) (es_H σ) Q) : ez_Ev l G X uc us pc ls (.int i :: .ref k :: st) (es_H σ) Q :=
  ev_lald hd (es_get hk) hin kk
theorem es_iast {k n : Nat} {i x : Int32} (hd : ez_at X pc .iastore 1 pc') (hk : es_SH[k]? = some (.inl (.int, n))) (hin : vp_in i n) (kk : ez_Ev l G X uc us pc' ls st (es_H (es_up σ k i.toNatClampNeg x)) Q) : ez_Ev l G X uc us pc ls (.int x :: .int i :: .ref k :: st) (es_H σ) Q := by
  refine ev_iast hd (es_get hk) hin ?_
  have e := es_set (σ := σ) hk (upd (σ k) i.toNatClampNeg x)
  have e2 : es_cell (.inl (.int, n)) (upd (σ k) i.toNatClampNeg x) = .inl (.int, (n, .inl (upd (σ k) i.toNatClampNeg x))) := rfl
  rw [e2] at e
  rw [e]
  exact kk
theorem es_zast {k n : Nat} {i x : Int32} (hd : ez_at X pc .bastore 1 pc') (hk : es_SH[k]? = some (.inl (.boolean, n))) (hin : vp_in i n) (kk : ez_Ev l G X uc us pc' ls st (es_H (es_up σ k i.toNatClampNeg (vp_nar .boolean x))) Q) : ez_Ev l G X uc us pc ls (.int x :: .int i :: .ref k :: st) (es_H σ) Q := by
  refine ev_zast hd (es_get hk) hin ?_
  have e := es_set (σ := σ) hk (upd (σ k) i.toNatClampNeg (vp_nar .boolean x))
  have e2 : es_cell (.inl (.boolean, n)) (upd (σ k) i.toNatClampNeg (vp_nar .boolean x)) = .inl (.boolean, (n, .inl (upd (σ k) i.toNatClampNeg (vp_nar .boolean x)))) := rfl
  rw [e2] at e
  rw [e]
  exact kk
theorem es_last {k n : Nat} {i x : Int32} (hd : ez_at X pc .lastore 1 pc') (hk : es_SH[k]? = some (.inl (.long, n))) (hin : vp_in i n) (kk : ez_Ev l G X uc us pc' ls st (es_H (es_up σ k i.toNatClampNeg x)) Q) : ez_Ev l G X uc us pc ls (.long x.toInt64 :: .int i :: .ref k :: st) (es_H σ) Q := by
  refine ev_last (f := fun j => (σ k j).toInt64) hd (es_get hk) hin ?_
  have e := es_set (σ := σ) hk (upd (σ k) i.toNatClampNeg x)
  have e2 : es_cell (.inl (.long, n)) (upd (σ k) i.toNatClampNeg x) = .inl (.long, (n, .inr (.inl (vp_updL (fun j => (σ k j).toInt64) i.toNatClampNeg x.toInt64)))) := by
    show (Sum.inl (.long, (n, .inr (.inl fun j => (upd (σ k) i.toNatClampNeg x j).toInt64))) : ez_Cell) = _
    have e3 : (fun j => (upd (σ k) i.toNatClampNeg x j).toInt64) = vp_updL (fun j => (σ k j).toInt64) i.toNatClampNeg x.toInt64 := by
      funext j
      simp only [upd, vp_updL]
      split <;> rfl
    rw [e3]
  rw [e2] at e
  rw [e]
  exact kk
theorem es_alen {k n : Nat} {v : Int32} (hd : ez_at X pc .arraylength 1 pc') (hk : es_SH[k]? = some (.inl (.int, n))) (hv : Int32.ofNat n = v) (kk : ez_Ev l G X uc us pc' ls (.int v :: st) (es_H σ) Q) : ez_Ev l G X uc us pc ls (.ref k :: st) (es_H σ) Q :=
  ev_alen hd (es_get hk) hv kk
theorem es_getI {index ci j k : Nat} {rs : List (Option Nat)} (hd : ez_at X pc (.getfield index) 3 pc') (hf : ez_fld X.1.cls index ci j) (hk : es_SH[k]? = some (.inr (ci, rs))) (hj : rs[j]? = some none) (kk : ez_Ev l G X uc us pc' ls (.int (σ k j) :: st) (es_H σ) Q) : ez_Ev l G X uc us pc ls (.ref k :: st) (es_H σ) Q :=
  ev_getf hd hf (es_get hk) (es_fs_get hj) kk
theorem es_getR {index ci j k r : Nat} {rs : List (Option Nat)} (hd : ez_at X pc (.getfield index) 3 pc') (hf : ez_fld X.1.cls index ci j) (hk : es_SH[k]? = some (.inr (ci, rs))) (hj : rs[j]? = some (some r)) (kk : ez_Ev l G X uc us pc' ls (.ref r :: st) (es_H σ) Q) : ez_Ev l G X uc us pc ls (.ref k :: st) (es_H σ) Q :=
  ev_getf hd hf (es_get hk) (es_fs_ref hj) kk
theorem es_putI {index ci j k : Nat} {x : Int32} {ty : FieldType} {rs : List (Option Nat)} (hd : ez_at X pc (.putfield index) 3 pc') (hf : ez_fld X.1.cls index ci j) (hty : ez_fty ci j false ty) (hk : es_SH[k]? = some (.inr (ci, rs))) (hj : rs[j]? = some none) (hn : narrow ty (.int x) = .int x ∧ fits ty (.int x) = true) (kk : ez_Ev l G X uc us pc' ls st (es_H (es_up σ k j x)) Q) : ez_Ev l G X uc us pc ls (.int x :: .ref k :: st) (es_H σ) Q := by
  refine ev_putf hd hf hty (es_get hk) (by simp [es_fs, (List.getElem?_eq_some_iff.mp hj).1]) (fun _ => hn) ?_
  rw [es_fs_set hj]
  have e := es_set (σ := σ) hk (upd (σ k) j x)
  have e2 : es_cell (.inr (ci, rs)) (upd (σ k) j x) = .inr (ci, es_fs rs (upd (σ k) j x)) := rfl
  rw [e2] at e
  rw [e]
  exact kk
theorem es_iret {v : Int32} (hd : ez_at X pc .ireturn 1 pc') (hr : X.2.2.2.1 = some .int) (hu : uc ≤ ez_mc X ∧ us ≤ ez_ms X) (hq : R (some (.int v)) σ) : ez_Ev l G X uc us pc ls [.int v] (es_H σ) (es_Q R T) := ev_iret hd hr hu ⟨σ, rfl, hq⟩
theorem es_zret {v : Int32} (hd : ez_at X pc .ireturn 1 pc') (hr : X.2.2.2.1 = some .boolean) (hn : narrow .boolean (.int v) = .int v) (hu : uc ≤ ez_mc X ∧ us ≤ ez_ms X) (hq : R (some (.int v)) σ) : ez_Ev l G X uc us pc ls [.int v] (es_H σ) (es_Q R T) := ev_zret hd hr hn hu ⟨σ, rfl, hq⟩
theorem es_vret (hd : ez_at X pc .return_ 1 pc') (hr : X.2.2.2.1 = none) (hu : uc ≤ ez_mc X ∧ us ≤ ez_ms X) (hq : R none σ) : ez_Ev l G X uc us pc ls [] (es_H σ) (es_Q R T) := ev_vret hd hr hu ⟨σ, rfl, hq⟩
theorem es_aret {k : Nat} {nm : String} (hd : ez_at X pc .areturn 1 pc') (hr : X.2.2.2.1 = some (.object nm)) (hu : uc ≤ ez_mc X ∧ us ≤ ez_ms X) (hq : R (some (.ref k)) σ) : ez_Ev l G X uc us pc ls [.ref k] (es_H σ) (es_Q R T) := ev_aret hd hr hu ⟨σ, rfl, hq⟩
/-- what a caller must know of a callee, by its link: a static one -/
def es_lkS (X Y : ez_X) (index n : Nat) : Prop := ez_ok Y n ∧ ez_link X.1.cls index Y.1 ∧ Cond.static Y.1 ∈ ez_T
/-- and one of an object -/
def es_lkV (X Y : ez_X) (index n ci : Nat) : Prop := ez_ok Y n ∧ ez_link X.1.cls index Y.1 ∧ Cond.instanceMethod Y.1 ∈ ez_T ∧ Cond.selects Y.1.cls Y.1 Y.1 ∈ ez_T ∧ ∃ (T0 : u_T) (N : Nat), ez_cl[ci]? = some (Y.1.cls, T0, N)
theorem es_calls {Y : ez_X} {n index : Nat} {as rest : List Value} {R' : Option Value → es_S → Prop} {T' : Nat → es_S → Prop} (hlk : es_lkS X Y index n) (hd : ez_at X pc (.invokestatic index) 3 pc') (hC : ez_Ct l G Y as (es_H σ) (es_Q R' T')) (hs : st = as.reverse ++ rest) (hn : as.length = n)
    (hroom : ez_fits X Y uc us) (hrest : (rest.map fun v => v.category).sum ≤ 8) (hX : ez_hs X = []) (hth : uc + ez_mc Y ≤ ez_mc X ∧ us + ez_ms Y ≤ ez_ms X)
    (kr : ∀ v σ', R' v σ' → ez_Ev l G X (uc + ez_mc Y) (us + ez_ms Y) pc' ls (v.toList ++ rest) (es_H σ') (es_Q R T))
    (kt : ∀ k σ', T' k σ' → T k σ') : ez_Ev l G X uc us pc ls st (es_H σ) (es_Q R T) := by
  refine ev_calls hlk.1 hlk.2.1 hlk.2.2 hd hC hs hn hroom hrest hX hth ?_ ?_
  · rintro v h' ⟨σ', e, hr⟩
    have e' : h' = es_H σ' := e
    subst e'
    refine ⟨?_, kr v σ' hr⟩
    rw [es_len, es_len]
    exact ez_still_eq _ _ _
  · rintro k h' ⟨σ', e, hr⟩
    have e' : h' = es_H σ' := e
    subst e'
    exact ⟨by rw [es_len, es_len], σ', rfl, kt k σ' hr⟩
theorem es_callv {Y : ez_X} {n index b ci : Nat} {as rest : List Value} {rs : List (Option Nat)} {R' : Option Value → es_S → Prop} {T' : Nat → es_S → Prop} (hlk : es_lkV X Y index n ci) (hd : ez_at X pc (.invokevirtual index) 3 pc') (hb : es_SH[b]? = some (.inr (ci, rs))) (hC : ez_Ct l G Y (.ref b :: as) (es_H σ) (es_Q R' T')) (hs : st = as.reverse ++ .ref b :: rest) (hn : as.length = n)
    (hroom : ez_fits X Y uc us) (hrest : (rest.map fun v => v.category).sum ≤ 8) (hX : ez_hs X = []) (hth : uc + ez_mc Y ≤ ez_mc X ∧ us + ez_ms Y ≤ ez_ms X)
    (kr : ∀ v σ', R' v σ' → ez_Ev l G X (uc + ez_mc Y) (us + ez_ms Y) pc' ls (v.toList ++ rest) (es_H σ') (es_Q R T))
    (kt : ∀ k σ', T' k σ' → T k σ') : ez_Ev l G X uc us pc ls st (es_H σ) (es_Q R T) := by
  obtain ⟨T0, N, hc⟩ := hlk.2.2.2.2
  refine ev_callv hlk.1 hlk.2.1 hlk.2.2.1 hlk.2.2.2.1 hd (es_get hb) hc hC hs hn hroom hrest hX hth ?_ ?_
  · rintro v h' ⟨σ', e, hr⟩
    have e' : h' = es_H σ' := e
    subst e'
    refine ⟨?_, kr v σ' hr⟩
    rw [es_len, es_len]
    exact ez_still_eq _ _ _
  · rintro k h' ⟨σ', e, hr⟩
    have e' : h' = es_H σ' := e
    subst e'
    exact ⟨by rw [es_len, es_len], σ', rfl, kt k σ' hr⟩
theorem es_callsI {Y : ez_X} {n index : Nat} {as rest : List Value} {P : Int32 → es_S → Prop} {T' : Nat → es_S → Prop} (hlk : es_lkS X Y index n) (hd : ez_at X pc (.invokestatic index) 3 pc') (hC : ez_Ct l G Y as (es_H σ) (es_Q (es_I P) T')) (hs : st = as.reverse ++ rest) (hn : as.length = n)
    (hroom : ez_fits X Y uc us) (hrest : (rest.map fun v => v.category).sum ≤ 8) (hX : ez_hs X = []) (hth : uc + ez_mc Y ≤ ez_mc X ∧ us + ez_ms Y ≤ ez_ms X)
    (kr : ∀ x σ', P x σ' → ez_Ev l G X (uc + ez_mc Y) (us + ez_ms Y) pc' ls (.int x :: rest) (es_H σ') (es_Q R T))
    (kt : ∀ k σ', T' k σ' → T k σ') : ez_Ev l G X uc us pc ls st (es_H σ) (es_Q R T) :=
  es_calls hlk hd hC hs hn hroom hrest hX hth (fun v σ' hv => by
    obtain ⟨x, rfl, hp⟩ := hv
    exact kr x σ' hp) kt
theorem es_callvI {Y : ez_X} {n index : Nat} {b ci : Nat} {rs : List (Option Nat)} {as rest : List Value} {P : Int32 → es_S → Prop} {T' : Nat → es_S → Prop} (hlk : es_lkV X Y index n ci) (hd : ez_at X pc (.invokevirtual index) 3 pc') (hb : es_SH[b]? = some (.inr (ci, rs))) (hC : ez_Ct l G Y (.ref b :: as) (es_H σ) (es_Q (es_I P) T')) (hs : st = as.reverse ++ .ref b :: rest) (hn : as.length = n)
    (hroom : ez_fits X Y uc us) (hrest : (rest.map fun v => v.category).sum ≤ 8) (hX : ez_hs X = []) (hth : uc + ez_mc Y ≤ ez_mc X ∧ us + ez_ms Y ≤ ez_ms X)
    (kr : ∀ x σ', P x σ' → ez_Ev l G X (uc + ez_mc Y) (us + ez_ms Y) pc' ls (.int x :: rest) (es_H σ') (es_Q R T))
    (kt : ∀ k σ', T' k σ' → T k σ') : ez_Ev l G X uc us pc ls st (es_H σ) (es_Q R T) :=
  es_callv hlk hd hb hC hs hn hroom hrest hX hth (fun v σ' hv => by
    obtain ⟨x, rfl, hp⟩ := hv
    exact kr x σ' hp) kt
theorem es_callsV {Y : ez_X} {n index : Nat} {as rest : List Value} {P : es_S → Prop} {T' : Nat → es_S → Prop} (hlk : es_lkS X Y index n) (hd : ez_at X pc (.invokestatic index) 3 pc') (hC : ez_Ct l G Y as (es_H σ) (es_Q (es_V P) T')) (hs : st = as.reverse ++ rest) (hn : as.length = n)
    (hroom : ez_fits X Y uc us) (hrest : (rest.map fun v => v.category).sum ≤ 8) (hX : ez_hs X = []) (hth : uc + ez_mc Y ≤ ez_mc X ∧ us + ez_ms Y ≤ ez_ms X)
    (kr : ∀ σ', P σ' → ez_Ev l G X (uc + ez_mc Y) (us + ez_ms Y) pc' ls rest (es_H σ') (es_Q R T))
    (kt : ∀ k σ', T' k σ' → T k σ') : ez_Ev l G X uc us pc ls st (es_H σ) (es_Q R T) :=
  es_calls hlk hd hC hs hn hroom hrest hX hth (fun v σ' hv => by
    obtain ⟨rfl, hp⟩ := hv
    exact kr σ' hp) kt
theorem es_callvV {Y : ez_X} {n index : Nat} {b ci : Nat} {rs : List (Option Nat)} {as rest : List Value} {P : es_S → Prop} {T' : Nat → es_S → Prop} (hlk : es_lkV X Y index n ci) (hd : ez_at X pc (.invokevirtual index) 3 pc') (hb : es_SH[b]? = some (.inr (ci, rs))) (hC : ez_Ct l G Y (.ref b :: as) (es_H σ) (es_Q (es_V P) T')) (hs : st = as.reverse ++ .ref b :: rest) (hn : as.length = n)
    (hroom : ez_fits X Y uc us) (hrest : (rest.map fun v => v.category).sum ≤ 8) (hX : ez_hs X = []) (hth : uc + ez_mc Y ≤ ez_mc X ∧ us + ez_ms Y ≤ ez_ms X)
    (kr : ∀ σ', P σ' → ez_Ev l G X (uc + ez_mc Y) (us + ez_ms Y) pc' ls rest (es_H σ') (es_Q R T))
    (kt : ∀ k σ', T' k σ' → T k σ') : ez_Ev l G X uc us pc ls st (es_H σ) (es_Q R T) :=
  es_callv hlk hd hb hC hs hn hroom hrest hX hth (fun v σ' hv => by
    obtain ⟨rfl, hp⟩ := hv
    exact kr σ' hp) kt
theorem es_callsP {Y : ez_X} {n index : Nat} {as rest : List Value} {P : Nat → es_S → Prop} {T' : Nat → es_S → Prop} (hlk : es_lkS X Y index n) (hd : ez_at X pc (.invokestatic index) 3 pc') (hC : ez_Ct l G Y as (es_H σ) (es_Q (es_P P) T')) (hs : st = as.reverse ++ rest) (hn : as.length = n)
    (hroom : ez_fits X Y uc us) (hrest : (rest.map fun v => v.category).sum ≤ 8) (hX : ez_hs X = []) (hth : uc + ez_mc Y ≤ ez_mc X ∧ us + ez_ms Y ≤ ez_ms X)
    (kr : ∀ x σ', P x σ' → ez_Ev l G X (uc + ez_mc Y) (us + ez_ms Y) pc' ls (.ref x :: rest) (es_H σ') (es_Q R T))
    (kt : ∀ k σ', T' k σ' → T k σ') : ez_Ev l G X uc us pc ls st (es_H σ) (es_Q R T) :=
  es_calls hlk hd hC hs hn hroom hrest hX hth (fun v σ' hv => by
    obtain ⟨x, rfl, hp⟩ := hv
    exact kr x σ' hp) kt
theorem es_callvP {Y : ez_X} {n index : Nat} {b ci : Nat} {rs : List (Option Nat)} {as rest : List Value} {P : Nat → es_S → Prop} {T' : Nat → es_S → Prop} (hlk : es_lkV X Y index n ci) (hd : ez_at X pc (.invokevirtual index) 3 pc') (hb : es_SH[b]? = some (.inr (ci, rs))) (hC : ez_Ct l G Y (.ref b :: as) (es_H σ) (es_Q (es_P P) T')) (hs : st = as.reverse ++ .ref b :: rest) (hn : as.length = n)
    (hroom : ez_fits X Y uc us) (hrest : (rest.map fun v => v.category).sum ≤ 8) (hX : ez_hs X = []) (hth : uc + ez_mc Y ≤ ez_mc X ∧ us + ez_ms Y ≤ ez_ms X)
    (kr : ∀ x σ', P x σ' → ez_Ev l G X (uc + ez_mc Y) (us + ez_ms Y) pc' ls (.ref x :: rest) (es_H σ') (es_Q R T))
    (kt : ∀ k σ', T' k σ' → T k σ') : ez_Ev l G X uc us pc ls st (es_H σ) (es_Q R T) :=
  es_callv hlk hd hb hC hs hn hroom hrest hX hth (fun v σ' hv => by
    obtain ⟨x, rfl, hp⟩ := hv
    exact kr x σ' hp) kt
end EsRows
