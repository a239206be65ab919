/-! ===== the world as it begins ===== -/
section

def z00 (a v : Int32) : es_S := fun k j => match k with
  | 0 => (match j with | 0 => a | 1 => 1 <<< (a &&& 31) | _ => 0)
  | 5 => if j < 48 then -1 else 0
  | 14 => if j < 48 then -1 else 0
  | 7 => if j < 3 then -1 else 0
  | 16 => if j < 3 then -1 else 0
  | 19 => (match j with | 10 => 1 | _ => 0)
  | 28 => (match j with | 10 => 1 | _ => 0)
  | 37 => (match j with | 10 => -1 | 11 => -1 | _ => 0)
  | 46 => (match j with | 1 => v | _ => 0)
  | 53 => upd (upd (upd (upd (upd (upd (fun _ => 0) 0 (-1)) 1 (-1)) 2 (-1)) 3 (-1)) 4 (-1)) 5 (-1) j
  | _ => 0
def z0 (x : Int32) : es_S := z00 (cc x) (cl x)
def hs (sh : List es_Sh) (σ : es_S) (n : Nat) : ez_H := sh.mapIdx fun k q => es_cell q (σ (n + k))
theorem hs_0 (sh : List es_Sh) (σ : es_S) : es_Hs sh σ = hs sh σ 0 := by
  unfold es_Hs hs
  congr 1
  funext k q
  rw [Nat.zero_add]
theorem hs_e {σ : es_S} {n : Nat} : [] = hs [] σ n := rfl
theorem hs_c {w : ez_Cell} {ws : ez_H} {q : es_Sh} {sh : List es_Sh} {σ : es_S} {n n' : Nat} (hn : n + 1 = n') (h1 : w = es_cell q (σ n)) (h2 : ws = hs sh σ n') : w :: ws = hs (q :: sh) σ n := by
  subst hn
  rw [h1, h2]
  unfold hs
  rw [List.mapIdx_cons]
  congr 2
  funext k r
  rw [Nat.add_assoc, Nat.add_comm 1 k]
theorem es_ci {n : Nat} {f g : Nat → Int32} (h : f = g) : (.inl (.int, (n, .inl f)) : ez_Cell) = es_cell (.inl (.int, n)) g := by rw [h]; rfl
theorem es_cz {n : Nat} {f g : Nat → Int32} (h : f = g) : (.inl (.boolean, (n, .inl f)) : ez_Cell) = es_cell (.inl (.boolean, n)) g := by rw [h]; rfl
def hf (rs : List (Option Nat)) (f : Nat → Int32) (n : Nat) : List Value := rs.mapIdx fun j r => match r with
  | some k => .ref k
  | none => .int (f (n + j))
theorem hf_0 (rs : List (Option Nat)) (f : Nat → Int32) : es_fs rs f = hf rs f 0 := by
  unfold es_fs hf
  congr 1
  funext j r
  rw [Nat.zero_add]
  cases r <;> rfl
theorem hf_e {f : Nat → Int32} {n : Nat} : [] = hf [] f n := rfl
theorem hf_t {f : Nat → Int32} {n : Nat} {r : Option Nat} {rs : List (Option Nat)} : hf (r :: rs) f n = (match r with | some k => .ref k | none => .int (f n)) :: hf rs f (n + 1) := by
  unfold hf
  rw [List.mapIdx_cons]
  congr 2
  funext j r
  rw [Nat.add_assoc, Nat.add_comm 1 j]
theorem hf_r {k : Nat} {ws : List Value} {rs : List (Option Nat)} {f : Nat → Int32} {n n' : Nat} (hn : n + 1 = n') (h : ws = hf rs f n') : .ref k :: ws = hf (some k :: rs) f n := by
  subst hn
  rw [hf_t, h]
theorem hf_i {x : Int32} {ws : List Value} {rs : List (Option Nat)} {f : Nat → Int32} {n n' : Nat} (hn : n + 1 = n') (hx : x = f n) (h : ws = hf rs f n') : .int x :: ws = hf (none :: rs) f n := by
  subst hn
  rw [hf_t, h, hx]
theorem es_co {c : Nat} {fs : List Value} {rs : List (Option Nat)} {g : Nat → Int32} (h : fs = es_fs rs g) : (.inr (c, fs) : ez_Cell) = es_cell (.inr (c, rs)) g := by rw [h]; rfl
theorem z0_world (x : Int32) : w46 x ++ (w18 (cl x) ++ [.inl (.long, (1, .inr (.inl fun _ => 0)))]) = es_H (z0 x) := by
  rw [es_Heq, hs_0]
  unfold w46 w18 es_SH z0
  generalize cc x = a
  generalize cl x = v
  simp only [List.cons_append, List.nil_append]
  refine hs_c (n' := 1) rfl (es_co rfl) ?_
  refine hs_c (n' := 2) rfl (es_co rfl) ?_
  refine hs_c (n' := 3) rfl (es_ci rfl) ?_
  refine hs_c (n' := 4) rfl (es_ci rfl) ?_
  refine hs_c (n' := 5) rfl (es_ci rfl) ?_
  refine hs_c (n' := 6) rfl (es_ci rfl) ?_
  refine hs_c (n' := 7) rfl (es_ci rfl) ?_
  refine hs_c (n' := 8) rfl (es_ci rfl) ?_
  refine hs_c (n' := 9) rfl (es_ci rfl) ?_
  refine hs_c (n' := 10) rfl (es_ci rfl) ?_
  refine hs_c (n' := 11) rfl (es_co rfl) ?_
  refine hs_c (n' := 12) rfl (es_ci rfl) ?_
  refine hs_c (n' := 13) rfl (es_ci rfl) ?_
  refine hs_c (n' := 14) rfl (es_ci rfl) ?_
  refine hs_c (n' := 15) rfl (es_ci rfl) ?_
  refine hs_c (n' := 16) rfl (es_ci rfl) ?_
  refine hs_c (n' := 17) rfl (es_ci rfl) ?_
  refine hs_c (n' := 18) rfl (es_ci rfl) ?_
  refine hs_c (n' := 19) rfl (es_ci rfl) ?_
  refine hs_c (n' := 20) rfl (es_co rfl) ?_
  refine hs_c (n' := 21) rfl (es_ci rfl) ?_
  refine hs_c (n' := 22) rfl (es_ci rfl) ?_
  refine hs_c (n' := 23) rfl (es_ci rfl) ?_
  refine hs_c (n' := 24) rfl (es_ci rfl) ?_
  refine hs_c (n' := 25) rfl (es_ci rfl) ?_
  refine hs_c (n' := 26) rfl (es_ci rfl) ?_
  refine hs_c (n' := 27) rfl (es_ci rfl) ?_
  refine hs_c (n' := 28) rfl (es_ci rfl) ?_
  refine hs_c (n' := 29) rfl (es_co rfl) ?_
  refine hs_c (n' := 30) rfl (es_ci rfl) ?_
  refine hs_c (n' := 31) rfl (es_ci rfl) ?_
  refine hs_c (n' := 32) rfl (es_ci rfl) ?_
  refine hs_c (n' := 33) rfl (es_ci rfl) ?_
  refine hs_c (n' := 34) rfl (es_ci rfl) ?_
  refine hs_c (n' := 35) rfl (es_ci rfl) ?_
  refine hs_c (n' := 36) rfl (es_ci rfl) ?_
  refine hs_c (n' := 37) rfl (es_ci rfl) ?_
  refine hs_c (n' := 38) rfl (es_co rfl) ?_
  refine hs_c (n' := 39) rfl (es_ci rfl) ?_
  refine hs_c (n' := 40) rfl (es_ci rfl) ?_
  refine hs_c (n' := 41) rfl (es_ci rfl) ?_
  refine hs_c (n' := 42) rfl (es_ci rfl) ?_
  refine hs_c (n' := 43) rfl (es_co rfl) ?_
  refine hs_c (n' := 44) rfl (es_ci rfl) ?_
  refine hs_c (n' := 45) rfl (es_ci rfl) ?_
  refine hs_c (n' := 46) rfl (es_ci rfl) ?_
  refine hs_c (n' := 47) rfl (es_co (by
    rw [hf_0]
    refine hf_i (n' := 1) rfl rfl ?_
    refine hf_i (n' := 2) rfl rfl ?_
    refine hf_r (n' := 3) rfl ?_
    refine hf_r (n' := 4) rfl ?_
    refine hf_r (n' := 5) rfl ?_
    refine hf_r (n' := 6) rfl ?_
    refine hf_r (n' := 7) rfl ?_
    refine hf_r (n' := 8) rfl ?_
    refine hf_r (n' := 9) rfl ?_
    refine hf_r (n' := 10) rfl ?_
    refine hf_r (n' := 11) rfl ?_
    refine hf_r (n' := 12) rfl ?_
    refine hf_r (n' := 13) rfl ?_
    refine hf_r (n' := 14) rfl ?_
    refine hf_i (n' := 15) rfl rfl ?_
    refine hf_r (n' := 16) rfl ?_
    refine hf_r (n' := 17) rfl ?_
    refine hf_r (n' := 18) rfl ?_
    refine hf_r (n' := 19) rfl ?_
    refine hf_i (n' := 20) rfl rfl ?_
    refine hf_i (n' := 21) rfl rfl ?_
    refine hf_r (n' := 22) rfl ?_
    exact hf_e)) ?_
  refine hs_c (n' := 48) rfl (es_cz rfl) ?_
  refine hs_c (n' := 49) rfl (es_ci rfl) ?_
  refine hs_c (n' := 50) rfl (es_ci rfl) ?_
  refine hs_c (n' := 51) rfl (es_ci rfl) ?_
  refine hs_c (n' := 52) rfl (es_ci rfl) ?_
  refine hs_c (n' := 53) rfl (es_ci rfl) ?_
  refine hs_c (n' := 54) rfl (es_ci rfl) ?_
  refine hs_c (n' := 55) rfl (es_cz rfl) ?_
  refine hs_c (n' := 56) rfl (es_ci rfl) ?_
  refine hs_c (n' := 57) rfl (es_ci rfl) ?_
  refine hs_c (n' := 58) rfl (es_cz rfl) ?_
  refine hs_c (n' := 59) rfl (es_cz rfl) ?_
  refine hs_c (n' := 60) rfl (es_ci rfl) ?_
  refine hs_c (n' := 61) rfl (es_ci rfl) ?_
  refine hs_c (n' := 62) rfl (es_ci rfl) ?_
  refine hs_c (n' := 63) rfl (es_cz rfl) ?_
  refine hs_c (n' := 64) rfl (es_cz rfl) ?_
  refine hs_c (n' := 65) rfl rfl ?_
  exact hs_e
def E_0 : em_E := (0, fun _ => 0, fun _ => 0, fun _ _ => none, fun _ => none)
def S_0 (x : Int32) : sp_S := (cP x, fun _ => False, E_0, E_0)
theorem E_0_wf (P : Nat) : em_wf P E_0 := ⟨Nat.zero_le _, fun b hb => absurd hb (Nat.not_lt_zero _), (fun b i t h => by cases h), (fun j t h => by cases h), fun b hb => absurd hb (Nat.not_lt_zero _), fun b hb => absurd hb (Nat.not_lt_zero _), Nat.zero_le _⟩
theorem S_0_wf (x : Int32) : sWf (S_0 x) := ⟨⟨(cl_le x).2.1, (cl_le x).2.2⟩, E_0_wf _, E_0_wf _⟩
theorem rc_0 {b : Nat} {σ : es_S} (h8 : σ b 8 = 0) (h9 : σ b 9 = 0) (h4 : ∀ j, j < 48 → σ (b + 4) j = -1) (h5 : ∀ j, σ (b + 5) j = 0) (h6 : ∀ j, j < 3 → σ (b + 6) j = -1) : rc E_0 b σ := by
  refine ⟨h8, h9, fun t ht => absurd ht (Nat.not_lt_zero _), fun t ht => absurd ht (Nat.not_lt_zero _), fun t ht => absurd ht (Nat.not_lt_zero _), fun t i ht hi => h4 _ (by omega), fun t j ht hj => ?_, fun j hj => h6 j hj, fun j hj => absurd hj (Nat.not_lt_zero _)⟩
  rw [h5, b_0]
  exact ⟨fun h => (by cases h), fun h => absurd h.1 (Nat.not_lt_zero _)⟩
theorem ci_0 (x : Int32) : ci (S_0 x) (z0 x) := by
  obtain ⟨h1, h2, h3⟩ := cl_le x
  refine ci_new (S_0_wf x) ⟨?_, ?_⟩ ⟨rc_0 rfl rfl (fun j hj => if_pos hj) (fun _ => rfl) (fun j hj => if_pos hj), rc_0 rfl rfl (fun j hj => if_pos hj) (fun _ => rfl) (fun j hj => if_pos hj)⟩ (fun r hr => ?_) rfl rfl rfl
  · show cc x = nI (cP x)
    rw [cc_cl]; exact h1
  · show (1 : Int32) <<< (cc x &&& 31) = nI (2 ^ cP x)
    rw [cc_cl, h1, shl1 (by omega)]
  · show bt 0 r = true ↔ False
    rw [b_0]
    exact ⟨fun h => (by cases h), fun h => h.elim⟩
theorem md_0 {e : Nat} {σ : es_S} (h48 : σ 48 e = 0) (h53 : ∀ j, j < 3 → σ 53 (3 * e + j) = -1) : md E_0 e σ := ⟨h48, fun b hb => absurd hb (Nat.not_lt_zero _), fun j hj => h53 j hj⟩
theorem z53 : ∀ j, j < 6 → upd (upd (upd (upd (upd (upd (fun _ => 0) 0 (-1)) 1 (-1)) 2 (-1)) 3 (-1)) 4 (-1)) 5 (-1 : Int32) j = -1 := by decide
theorem rm_0 (x : Int32) : rm (S_0 x) (z0 x) := by
  obtain ⟨h1, h2, h3⟩ := cl_le x
  refine ⟨S_0_wf x, h1, fun r hr => ?_, md_0 rfl (fun j hj => z53 _ (by omega)), md_0 rfl (fun j hj => z53 _ (by omega))⟩
  show 0 = eb (bd False)
  rw [bd_f.mpr (fun h => h)]
  rfl
end
