/-! ===== what each call asks and answers ===== -/
abbrev sp_S : Type := Nat × (Nat → Prop) × em_E × em_E
def sP (S : sp_S) : Nat := S.1
def sB (S : sp_S) : Nat → Prop := S.2.1
def s0 (S : sp_S) : em_E := S.2.2.1
def s1 (S : sp_S) : em_E := S.2.2.2
def sE (S : sp_S) (e : Int32) : em_E := if e = 0 then s0 S else s1 S
def sSet (S : sp_S) (e : Int32) (X : em_E) : sp_S := if e = 0 then (sP S, sB S, X, s1 S) else (sP S, sB S, s0 S, X)
def sop (S : sp_S) (r : Nat) : Prop := r < 2 ^ sP S ∧ ¬ sB S r
noncomputable def sA (S : sp_S) : ps_A := (em_ou (s0 S), em_nx (s0 S), em_ou (s1 S), em_nx (s1 S), sop S)
noncomputable def ps_end (A : ps_A) : Nat := @Classical.epsilon Nat ⟨0⟩ (ps_fin A)
theorem ps_end_eq {A : ps_A} {h : Nat} (hf : ps_fin A h) : ps_end A = h := ps_fin_one (@Classical.epsilon_spec Nat (ps_fin A) ⟨h, hf⟩) hf
noncomputable def sZ (S : sp_S) : ps_Z := ps_at (sA S) (ps_end (sA S))
def sBoth (S : sp_S) : Prop := em_right (s0 S) ∧ em_right (s1 S)
def on (t : Int32) : Option Nat := if t = -1 then none else some t.toNatClampNeg
def isB (X : em_E) (t : Int32) : Prop := ew t (nI (em_n X)) = true
def isBN (X : em_E) (t : Int32) : Prop := t = -1 ∨ isB X t
abbrev tn (x : Int32) : Nat := x.toNatClampNeg
theorem isB_n {X : em_E} (hn : em_n X ≤ 24) {t : Int32} (h : isB X t) : tn t < em_n X ∧ nI (tn t) = t := ew_n h (by omega)
theorem on_n {X : em_E} (hn : em_n X ≤ 24) {t : Int32} (h : isBN X t) : en (on t) = t ∧ ∀ u, on t = some u → u < em_n X := by
  unfold on
  by_cases ht : t = -1
  · rw [if_pos ht]
    exact ⟨ht.symm, fun u hu => by cases hu⟩
  · rw [if_neg ht]
    rcases h with h | h
    · exact absurd h ht
    · have := isB_n hn h
      exact ⟨this.2, fun u hu => by injection hu with hu; rw [← hu]; exact this.1⟩
def g_block (S : sp_S) (e k m : Int32) : Prop := ew e 2 = true ∧ ew k 7 = true ∧ (k = 0 → ew m (nI (sP S)) = true) ∧ (k = 1 → ew m 2 = true)
def s_block (S : sp_S) (e k : Int32) : Prop := em_n (sE S e) < 24 ∧ (k = 6 → em_dl (sE S e) (em_n (sE S e)) < 5)
def n_block (S : sp_S) (e k m : Int32) : sp_S := sSet S e (em_add (sE S e) (tn k) m)
def g_wire (S : sp_S) (e b i t : Int32) : Prop := ew e 2 = true ∧ isB (sE S e) b ∧ ew i 2 = true ∧ isBN (sE S e) t
def n_wire (S : sp_S) (e b i t : Int32) : sp_S := sSet S e (em_rw (sE S e) (tn b) (tn i) (on t))
def g_out (S : sp_S) (e j b : Int32) : Prop := ew e 2 = true ∧ ew j 3 = true ∧ isBN (sE S e) b
def n_out (S : sp_S) (e j b : Int32) : sp_S := sSet S e (em_co (sE S e) (tn j) (on b))
def g_row (S : sp_S) (r : Int32) : Prop := ew r (nI (2 ^ sP S)) = true
noncomputable def v_bar (S : sp_S) (r : Int32) : Int32 := eb (@decide (sB S (tn r)) (Classical.propDecidable _))
def n_bar (S : sp_S) (r : Int32) (c : Bool) : sp_S := (sP S, (fun q => if q = tn r then c = true else sB S q), s0 S, s1 S)
def g_ed (e : Int32) : Prop := ew e 2 = true
def g_value (S : sp_S) (e b r : Int32) : Prop := ew e 2 = true ∧ isB (sE S e) b ∧ g_row S r
noncomputable def v_value (S : sp_S) (e b s r : Int32) : Int32 := eb (em_val (sE S e) (tb (sj s)) (tb (tn r)) (tn b))
def g_tick (S : sp_S) (e r : Int32) : Prop := ew e 2 = true ∧ g_row S r
noncomputable def v_tick (S : sp_S) (e s r : Int32) : Int32 := nI (em_ou (sE S e) (sj s) (tn r) + 8 * em_nx (sE S e) (sj s) (tn r))
def sR (S : sp_S) (e : Int32) (s : Nat) : Prop := em_rch (em_nx (sE S e)) (sop S) s
noncomputable def v_reached (S : sp_S) (e : Int32) : Int32 := nI (em_ct (sR S e) 32)
def g_state (e p : Int32) : Prop := ew e 2 = true ∧ 0 ≤ p
noncomputable def v_state (S : sp_S) (e p : Int32) : Int32 := en (em_nth (sR S e) 32 (tn p))
noncomputable def v_least (S : sp_S) (e : Int32) : Int32 := nI (em_ct (em_ft (sR S e) (fun s t => ¬ em_ap (em_ou (sE S e)) (em_nx (sE S e)) (sop S) s t)) 32)
noncomputable def v_compare (S : sp_S) : Int32 := nI (ps_n (sZ S))
def g_shown (S : sp_S) (k : Int32) : Prop := 0 ≤ k ∧ (sBoth S → tn k < ps_n (sZ S))
noncomputable def v_shown (S : sp_S) (k : Int32) : Int32 := nI (ps_row (sZ S) (tn k))
noncomputable def v_last (S : sp_S) (e : Int32) : Int32 := if e = 0 then ps_l1 (sA S) (sZ S) else ps_l2 (sA S) (sZ S)
noncomputable def v_pairs (S : sp_S) : Int32 := nI (zc (sZ S))
noncomputable def v_same (S : sp_S) : Int32 := eb (@decide (em_same (s0 S) (s1 S)) (Classical.propDecidable _))
noncomputable def v_matched (S : sp_S) (b : Int32) : Int32 := en (em_fst (fun c => em_same (s0 S) (s1 S) ∧ em_M (s0 S) (s1 S) (tn b) c) 24)
noncomputable def v_idle (S : sp_S) (e k : Int32) : Int32 := en (em_nth (fun t => ¬ em_lv (sE S e) t) (em_n (sE S e)) (tn k))
/-- what holds of every state of the calls -/
def sWf (S : sp_S) : Prop := (1 ≤ sP S ∧ sP S ≤ 4) ∧ em_wf (sP S) (s0 S) ∧ em_wf (sP S) (s1 S)
theorem sE_wf {S : sp_S} (h : sWf S) (e : Int32) : em_wf (sP S) (sE S e) := by
  unfold sE
  split
  · exact h.2.1
  · exact h.2.2
theorem sSet_wf {S : sp_S} (h : sWf S) (e : Int32) {X : em_E} (hX : em_wf (sP S) X) : sWf (sSet S e X) := by
  unfold sSet
  split
  · exact ⟨h.1, hX, h.2.2⟩
  · exact ⟨h.1, h.2.1, hX⟩
theorem n_block_wf {S : sp_S} (h : sWf S) {e k m : Int32} (g : g_block S e k m) (s : s_block S e k) : sWf (n_block S e k m) := by
  have hk : tn k < 7 ∧ nI (tn k) = k := ew_n (n := 7) g.2.1 (by omega)
  have hw := sE_wf h e
  refine sSet_wf h e (em_wf_add hw (by omega) (fun h0 => ?_) (fun h1 => ?_) s.1 (fun h6 => s.2 ?_))
  · have hk0 : k = 0 := by rw [← hk.2, h0]; rfl
    have hm := ew_n (g.2.2.1 hk0) (by have := h.1.2; omega)
    exact ⟨_, hm.2.symm, hm.1⟩
  · have hk1 : k = 1 := by rw [← hk.2, h1]; rfl
    have hm := ew_n (n := 2) (g.2.2.2 hk1) (by omega)
    have h3 : m.toNatClampNeg = 0 ∨ m.toNatClampNeg = 1 := by have := hm.1; omega
    rcases h3 with h3 | h3
    · left; rw [← hm.2, h3]; rfl
    · right; rw [← hm.2, h3]; rfl
  · rw [← hk.2, h6]; rfl
theorem n_wire_wf {S : sp_S} (h : sWf S) {e b i t : Int32} (g : g_wire S e b i t) : sWf (n_wire S e b i t) := by
  have hw := sE_wf h e
  exact sSet_wf h e (em_wf_rw hw (isB_n hw.1 g.2.1).1 (on_n hw.1 g.2.2.2).2)
theorem n_out_wf {S : sp_S} (h : sWf S) {e j b : Int32} (g : g_out S e j b) : sWf (n_out S e j b) := by
  have hw := sE_wf h e
  exact sSet_wf h e (em_wf_co hw (on_n hw.1 g.2.2).2)
theorem n_bar_wf {S : sp_S} (h : sWf S) {r : Int32} {c : Bool} : sWf (n_bar S r c) := h
theorem sA_lt (S : sp_S) (h : sWf S) : (∀ s r, pn1 (sA S) s r < 2 ^ em_dl (s0 S) (em_n (s0 S))) ∧ (∀ s r, pn2 (sA S) s r < 2 ^ em_dl (s1 S) (em_n (s1 S))) ∧ (∀ s r, po1 (sA S) s r < 8) ∧ (∀ s r, po2 (sA S) s r < 8) ∧ (∀ r, pop (sA S) r → r < 16) :=
  ⟨fun s r => em_nx_lt _ s r, fun s r => em_nx_lt _ s r, fun s r => em_os_lt _ _, fun s r => em_os_lt _ _, fun r hr => Nat.lt_of_lt_of_le hr.1 (Nat.pow_le_pow_right (n := 2) (j := 4) (by omega) h.1.2)⟩
