/-! ===== Integer.bitCount ===== -/
section
variable {l : Launch} {G : ez_G} {σ : es_S}
theorem w_bc265 : Cond.constant "java/lang/Integer" 265 1431655765 ∈ ez_T := ez_r3 (List.mem_of_getElem? (i := 68) rfl) rfl
theorem w_bc266 : Cond.constant "java/lang/Integer" 266 858993459 ∈ ez_T := ez_r3 (List.mem_of_getElem? (i := 69) rfl) rfl
theorem w_bc267 : Cond.constant "java/lang/Integer" 267 252645135 ∈ ez_T := ez_r3 (List.mem_of_getElem? (i := 70) rfl) rfl
theorem ev_ldcw {X : ez_X} {uc us pc pc' : Nat} {ls : List (Option Value)} {st : List Value} {h : ez_H} {Q : ez_R → Prop} {index : Nat} {v : Int32} (hd : ez_at X pc (.ldc_w index) 3 pc') (hc : Cond.constant X.1.cls index v ∈ ez_T) (kk : ez_Ev l G X uc us pc' ls (.int v :: st) h Q) : ez_Ev l G X uc us pc ls st h Q := by
  obtain ⟨hd, rfl⟩ := hd
  intro p e s m args below meth c A n0 ad0 ad H locs cells slots L I
  exact lv_ldcw I.1.1 I.1.2.1 I.1.2.2.2.1 (I.1.2.2.2.2.1 _ hc) hd (kk p e s m args below meth c A n0 ad0 ad H locs cells slots L I)
/-- lanes of w bits -/
def bl (w : Nat) (f : Nat → Nat) : Nat → Nat
  | 0 => 0
  | n + 1 => 2 ^ (w * n) * f n + bl w f n
theorem bl_lt {w : Nat} {f : Nat → Nat} (hf : ∀ i, f i < 2 ^ w) : ∀ n, bl w f n < 2 ^ (w * n) := by
  intro n
  induction n with
  | zero => exact Nat.two_pow_pos _
  | succ n ih =>
    have h1 : 2 ^ (w * (n + 1)) = 2 ^ (w * n) * 2 ^ w := by rw [Nat.mul_succ, Nat.pow_add]
    have h2 : 2 ^ (w * n) * (f n + 1) ≤ 2 ^ (w * n) * 2 ^ w := Nat.mul_le_mul_left _ (hf n)
    rw [h1]
    show 2 ^ (w * n) * f n + bl w f n < _
    rw [Nat.mul_add, Nat.mul_one] at h2
    omega
theorem bl_bit {w : Nat} {f : Nat → Nat} (hf : ∀ i, f i < 2 ^ w) {i j : Nat} (hj : j < w) : ∀ n, (bl w f n).testBit (w * i + j) = (decide (i < n) && (f i).testBit j) := by
  intro n
  induction n with
  | zero => simp [bl]
  | succ n ih =>
    show (2 ^ (w * n) * f n + bl w f n).testBit (w * i + j) = _
    rw [Nat.testBit_two_pow_mul_add _ (bl_lt hf n), ih]
    by_cases hin : i < n
    · have h1 : w * (i + 1) ≤ w * n := Nat.mul_le_mul_left _ hin
      rw [Nat.mul_succ] at h1
      rw [if_pos (by omega)]
      simp [hin, show i < n + 1 by omega]
    · by_cases hie : i = n
      · subst hie
        rw [if_neg (by omega), show w * i + j - w * i = j by omega]
        simp
      · have h1 : w * (n + 1) ≤ w * i := Nat.mul_le_mul_left _ (by omega)
        rw [Nat.mul_succ] at h1
        rw [if_neg (by omega), Nat.testBit_lt_two_pow (Nat.lt_of_lt_of_le (hf n) (Nat.pow_le_pow_right (by omega) (by omega)))]
        simp [show ¬ i < n + 1 by omega]
theorem bl_mask {w s m : Nat} {f : Nat → Nat} (hw : 0 < w) (hf : ∀ i, f i < 2 ^ w) (hm : m < 2 ^ (w - s)) (n : Nat) : (bl w f n / 2 ^ s) &&& bl w (fun _ => m) n = bl w (fun i => (f i / 2 ^ s) &&& m) n := by
  have hmw : m < 2 ^ w := Nat.lt_of_lt_of_le hm (Nat.pow_le_pow_right (by omega) (by omega))
  have hfm : ∀ i, (f i / 2 ^ s) &&& m < 2 ^ w := fun i => Nat.lt_of_le_of_lt Nat.and_le_right hmw
  apply Nat.eq_of_testBit_eq
  intro p
  have hp : p = w * (p / w) + p % w := (Nat.div_add_mod p w).symm
  have hj : p % w < w := Nat.mod_lt _ hw
  generalize p / w = i at hp
  generalize p % w = j at hp hj
  subst hp
  rw [Nat.testBit_and, Nat.testBit_div_two_pow, bl_bit (fun _ => hmw) hj, bl_bit hfm hj, Nat.testBit_and, Nat.testBit_div_two_pow]
  by_cases hjs : j + s < w
  · rw [show w * i + j + s = w * i + (j + s) by omega, bl_bit hf (by omega)]
    cases decide (i < n) <;> simp
  · have : m.testBit j = false := Nat.testBit_lt_two_pow (Nat.lt_of_lt_of_le hm (Nat.pow_le_pow_right (by omega) (by omega)))
    simp [this]
theorem bl_add (w : Nat) (f g : Nat → Nat) : ∀ n, bl w f n + bl w g n = bl w (fun i => f i + g i) n := by
  intro n
  induction n with
  | zero => rfl
  | succ n ih =>
    show (2 ^ (w * n) * f n + bl w f n) + (2 ^ (w * n) * g n + bl w g n) = 2 ^ (w * n) * (f n + g n) + bl w (fun i => f i + g i) n
    rw [← ih, Nat.mul_add]
    omega
theorem bl_two (w : Nat) (f : Nat → Nat) : ∀ n, bl w f (2 * n) = bl (2 * w) (fun i => f (2 * i) + 2 ^ w * f (2 * i + 1)) n := by
  intro n
  induction n with
  | zero => rfl
  | succ n ih =>
    show 2 ^ (w * (2 * n + 1)) * f (2 * n + 1) + (2 ^ (w * (2 * n)) * f (2 * n) + bl w f (2 * n)) = 2 ^ (2 * w * n) * (f (2 * n) + 2 ^ w * f (2 * n + 1)) + _
    have e1 : 2 ^ (w * (2 * n + 1)) = 2 ^ (2 * w * n) * 2 ^ w := by rw [← Nat.pow_add]; congr 1; rw [Nat.mul_add, Nat.mul_one, ← Nat.mul_assoc, Nat.mul_comm w 2]
    have e2 : 2 ^ (w * (2 * n)) = 2 ^ (2 * w * n) := by congr 1; rw [← Nat.mul_assoc, Nat.mul_comm w 2]
    rw [ih, e1, e2, Nat.mul_add, Nat.mul_assoc]
    omega
theorem bl_eq {w : Nat} {f g : Nat → Nat} : ∀ n, (∀ i, i < n → f i = g i) → bl w f n = bl w g n := by
  intro n
  induction n with
  | zero => intro _; rfl
  | succ n ih =>
    intro h
    show 2 ^ (w * n) * f n + bl w f n = 2 ^ (w * n) * g n + bl w g n
    rw [h n (by omega), ih (fun i hi => h i (by omega))]
theorem nI_land {a b : Nat} : nI a &&& nI b = nI (a &&& b) := by
  apply b_ext
  intro i hi
  rw [b_and, bt_nI _ hi, bt_nI _ hi, bt_nI _ hi]
  unfold tb
  rw [Nat.testBit_and]
def bs (f : Nat → Nat) : Nat → Nat
  | 0 => 0
  | n + 1 => bs f n + f n
theorem bs_ct (x : Int32) : ∀ n, em_ct (fun s => bt x s = true) n = bs (fun i => bn (bt x i)) n := by
  intro n
  induction n with
  | zero => rfl
  | succ n ih =>
    have h := em_ct_succ (fun s => bt x s = true) n
    show _ = bs (fun i => bn (bt x i)) n + bn (bt x n)
    cases hb : bt x n with
    | true => rw [h.1 hb, ih]; rfl
    | false => rw [h.2 (by simp [hb]), ih]; rfl
theorem bs_nI (x : Int32) : x = nI (bl 1 (fun i => bn (bt x i)) 32) := by
  have hf : ∀ i, bn (bt x i) < 2 ^ 1 := fun i => by have := bn_le (bt x i); omega
  apply b_ext
  intro i hi
  rw [bt_nI _ hi]
  unfold tb
  have h := bl_bit (f := fun i => bn (bt x i)) hf (i := i) (j := 0) (by omega) 32
  rw [Nat.one_mul, Nat.add_zero] at h
  rw [h]
  cases bt x i <;> simp [hi, bn]
theorem d4 : ∀ d, d < 4 → d / 2 &&& 1 = d / 2 := by decide
theorem d16 : ∀ d, d < 16 → (d &&& 3 = d % 4) ∧ (d / 4 &&& 3 = d / 4) := by decide
theorem d256 : ∀ d, d < 256 → d &&& 15 = d % 16 := by decide +kernel
def bz (x : Int32) (i : Nat) : Nat := bn (bt x i)
def bc (x : Int32) (i : Nat) : Nat := bz x (2 * i) + bz x (2 * i + 1)
def bg (x : Int32) (i : Nat) : Nat := bc x (2 * i) + bc x (2 * i + 1)
def bq (x : Int32) (i : Nat) : Nat := bg x (2 * i) + bg x (2 * i + 1)
theorem bz_le (x : Int32) (i : Nat) : bz x i ≤ 1 := bn_le _
theorem bc_le (x : Int32) (i : Nat) : bc x i ≤ 2 := by have := bz_le x (2 * i); have := bz_le x (2 * i + 1); unfold bc; omega
theorem bg_le (x : Int32) (i : Nat) : bg x i ≤ 4 := by have := bc_le x (2 * i); have := bc_le x (2 * i + 1); unfold bg; omega
theorem bq_le (x : Int32) (i : Nat) : bq x i ≤ 8 := by have := bg_le x (2 * i); have := bg_le x (2 * i + 1); unfold bq; omega
theorem st1 (x : Int32) : x - ((x.toUInt32 >>> ((1 : Int32).toUInt32 &&& Int32.toUInt32 31)).toInt32 &&& 1431655765) = nI (bl 2 (bc x) 16) := by
  have e0 : bl 1 (fun i => bn (bt x i)) 32 = bl 2 (fun i => bz x (2 * i) + 2 ^ 1 * bz x (2 * i + 1)) 16 := bl_two 1 (bz x) 16
  have hx := bs_nI x
  rw [e0] at hx
  have hf : ∀ i, (fun i => bz x (2 * i) + 2 ^ 1 * bz x (2 * i + 1)) i < 2 ^ 2 := fun i => by have := bz_le x (2 * i); have := bz_le x (2 * i + 1); show bz x (2 * i) + 2 ^ 1 * bz x (2 * i + 1) < 2 ^ 2; omega
  have hlt := bl_lt hf 16
  have hm : (1431655765 : Int32) = nI (bl 2 (fun _ => 1) 16) := by decide +kernel
  have e1 : (x.toUInt32 >>> ((1 : Int32).toUInt32 &&& Int32.toUInt32 31)).toInt32 &&& 1431655765 = nI (bl 2 (fun i => bz x (2 * i + 1)) 16) := by
    have e2 : (x.toUInt32 >>> ((1 : Int32).toUInt32 &&& Int32.toUInt32 31)).toInt32 = nI (bl 2 (fun i => bz x (2 * i) + 2 ^ 1 * bz x (2 * i + 1)) 16 / 2 ^ 1) := by
      rw [show (x.toUInt32 >>> ((1 : Int32).toUInt32 &&& Int32.toUInt32 31)).toInt32 = ((nI (bl 2 (fun i => bz x (2 * i) + 2 ^ 1 * bz x (2 * i + 1)) 16)).toUInt32 >>> ((1 : Int32).toUInt32 &&& Int32.toUInt32 31)).toInt32 from by rw [← hx]]
      exact pk_ushrN hlt 1 1 (by decide)
    rw [e2, hm, nI_land, bl_mask (by omega) hf (by decide)]
    refine congrArg nI (bl_eq _ ?_)
    intro i _
    have h1 := bz_le x (2 * i)
    have h2 := bz_le x (2 * i + 1)
    rw [Nat.pow_one, d4 _ (by omega)]
    omega
  rw [e1]
  have e3 : bl 2 (fun i => bz x (2 * i) + 2 ^ 1 * bz x (2 * i + 1)) 16 = bl 2 (bc x) 16 + bl 2 (fun i => bz x (2 * i + 1)) 16 := by
    rw [bl_add]
    apply bl_eq
    intro i _
    show _ = bz x (2 * i) + bz x (2 * i + 1) + bz x (2 * i + 1)
    omega
  rw [show x - nI (bl 2 (fun i => bz x (2 * i + 1)) 16) = nI (bl 2 (fun i => bz x (2 * i) + 2 ^ 1 * bz x (2 * i + 1)) 16) - nI (bl 2 (fun i => bz x (2 * i + 1)) 16) from by rw [← hx], e3, pk_sub (by omega), Nat.add_sub_cancel]
theorem st2 (x : Int32) : (nI (bl 2 (bc x) 16) &&& 858993459) + (((nI (bl 2 (bc x) 16)).toUInt32 >>> ((2 : Int32).toUInt32 &&& Int32.toUInt32 31)).toInt32 &&& 858993459) = nI (bl 4 (bg x) 8) := by
  have e0 : bl 2 (bc x) 16 = bl 4 (fun i => bc x (2 * i) + 2 ^ 2 * bc x (2 * i + 1)) 8 := bl_two 2 (bc x) 8
  have hf : ∀ i, (fun i => bc x (2 * i) + 2 ^ 2 * bc x (2 * i + 1)) i < 2 ^ 4 := fun i => by have := bc_le x (2 * i); have := bc_le x (2 * i + 1); show bc x (2 * i) + 2 ^ 2 * bc x (2 * i + 1) < 2 ^ 4; omega
  have hlt := bl_lt hf 8
  have hm : (858993459 : Int32) = nI (bl 4 (fun _ => 3) 8) := by decide +kernel
  have h0 := bl_mask (s := 0) (m := 3) (by omega) hf (by decide) 8
  rw [Nat.pow_zero, Nat.div_one] at h0
  rw [e0, pk_ushrN hlt 2 2 (by decide), hm, nI_land, nI_land, h0, bl_mask (by omega) hf (by decide), nI_add, bl_add]
  refine congrArg nI (bl_eq _ ?_)
  intro i _
  have h1 := bc_le x (2 * i)
  have h2 := bc_le x (2 * i + 1)
  have h3 := d16 (bc x (2 * i) + 2 ^ 2 * bc x (2 * i + 1)) (by omega)
  show ((bc x (2 * i) + 2 ^ 2 * bc x (2 * i + 1)) / 1 &&& 3) + ((bc x (2 * i) + 2 ^ 2 * bc x (2 * i + 1)) / 4 &&& 3) = bc x (2 * i) + bc x (2 * i + 1)
  rw [Nat.div_one, h3.1, h3.2]
  omega
theorem st3 (x : Int32) : (nI (bl 4 (bg x) 8) + ((nI (bl 4 (bg x) 8)).toUInt32 >>> ((4 : Int32).toUInt32 &&& Int32.toUInt32 31)).toInt32) &&& 252645135 = nI (bl 8 (bq x) 4) := by
  have hg := bg_le x
  have hlt := bl_lt (w := 4) (f := bg x) (fun i => by have := hg i; omega) 8
  have hm : (252645135 : Int32) = nI (bl 8 (fun _ => 15) 4) := by decide +kernel
  rw [pk_ushrN hlt 4 4 (by decide), nI_add, hm, nI_land]
  have e1 : bl 4 (bg x) 8 + bl 4 (bg x) 8 / 2 ^ 4 = bl 8 (fun i => (bg x (2 * i) + bg x (2 * i + 1)) + 16 * (bg x (2 * i + 1) + if i < 3 then bg x (2 * i + 2) else 0)) 4 := by
    have a0 := hg 0; have a1 := hg 1; have a2 := hg 2; have a3 := hg 3; have a4 := hg 4; have a5 := hg 5; have a6 := hg 6; have a7 := hg 7
    simp only [bl, Nat.reduceMul, Nat.reducePow, Nat.reduceAdd, Nat.reduceLT, if_true, if_false]
    omega
  have hf : ∀ i, (fun i => (bg x (2 * i) + bg x (2 * i + 1)) + 16 * (bg x (2 * i + 1) + if i < 3 then bg x (2 * i + 2) else 0)) i < 2 ^ 8 := fun i => by
    have a0 := hg (2 * i); have a1 := hg (2 * i + 1); have a2 := hg (2 * i + 2)
    show (bg x (2 * i) + bg x (2 * i + 1)) + 16 * (bg x (2 * i + 1) + if i < 3 then bg x (2 * i + 2) else 0) < 2 ^ 8
    split <;> omega
  have h0 := bl_mask (s := 0) (m := 15) (by omega) hf (by decide) 4
  rw [Nat.pow_zero, Nat.div_one] at h0
  rw [e1, h0]
  refine congrArg nI (bl_eq _ ?_)
  intro i _
  have a0 := hg (2 * i); have a1 := hg (2 * i + 1)
  have := hf i
  rw [Nat.div_one, d256 _ (by simpa using this)]
  show _ = bg x (2 * i) + bg x (2 * i + 1)
  omega
theorem st4 (x : Int32) (y : Int32) (hy : y = nI (bl 8 (bq x) 4) + ((nI (bl 8 (bq x) 4)).toUInt32 >>> ((8 : Int32).toUInt32 &&& Int32.toUInt32 31)).toInt32) : (y + (y.toUInt32 >>> ((16 : Int32).toUInt32 &&& Int32.toUInt32 31)).toInt32) &&& 63 = nI (em_ct (fun s => bt x s = true) 32) := by
  have hq := bq_le x
  have a0 := hq 0; have a1 := hq 1; have a2 := hq 2; have a3 := hq 3
  have hlt := bl_lt (w := 8) (f := bq x) (fun i => by have := hq i; omega) 4
  have e : bl 8 (bq x) 4 = bq x 0 + 256 * bq x 1 + 65536 * bq x 2 + 16777216 * bq x 3 := by
    simp only [bl, Nat.reduceMul, Nat.reducePow]
    omega
  have e8 : (bq x 0 + 256 * bq x 1 + 65536 * bq x 2 + 16777216 * bq x 3) + (bq x 0 + 256 * bq x 1 + 65536 * bq x 2 + 16777216 * bq x 3) / 2 ^ 8 = (bq x 0 + bq x 1) + 256 * (bq x 1 + bq x 2) + 65536 * (bq x 2 + bq x 3) + 16777216 * bq x 3 := by omega
  have e9 : ((bq x 0 + bq x 1) + 256 * (bq x 1 + bq x 2) + 65536 * (bq x 2 + bq x 3) + 16777216 * bq x 3) / 2 ^ 16 = (bq x 2 + bq x 3) + 256 * bq x 3 := by omega
  rw [pk_ushrN hlt 8 8 (by decide), nI_add, e, e8] at hy
  subst hy
  rw [pk_ushrN (by omega) 16 16 (by decide), nI_add, pk_andN (by omega) 6 (by decide), bs_ct, e9]
  refine congrArg nI ?_
  have e2 : bs (fun i => bn (bt x i)) 32 = bq x 0 + bq x 1 + bq x 2 + bq x 3 := by
    show bs (bz x) 32 = _
    simp only [bs, bq, bg, bc, Nat.reduceMul, Nat.reduceAdd]
    omega
  rw [e2]
  omega
theorem c_JI_bitCount {x : Int32} : ez_Ct l G X_JI_bitCount [.int x] (es_H σ) (es_Q (es_I fun y σ' => y = nI (em_ct (fun s => bt x s = true) 32) ∧ σ' = σ) es_no) := by
  refine es_Ct_of (ls := [some (.int x)]) ok_JI_bitCount rfl (Nat.le_of_ble_eq_true rfl) rfl ?_
  refine ev_iload_n (i := 0) d_JI_bitCount_0 rfl rfl ?_
  refine ev_iload_n (i := 0) d_JI_bitCount_1 rfl rfl ?_
  refine ev_iconst (v := 1) d_JI_bitCount_2 rfl ?_
  refine ev_iushr d_JI_bitCount_3 ?_
  refine ev_ldcw d_JI_bitCount_4 (w_bc265) ?_
  refine ev_iand d_JI_bitCount_7 ?_
  refine ev_isub d_JI_bitCount_8 ?_
  refine ev_istore_n (i := 0) d_JI_bitCount_9 rfl (by decide) ?_
  dsimp only [List.set_cons_zero, List.set_cons_succ]
  rw [st1]
  refine ev_iload_n (i := 0) d_JI_bitCount_10 rfl rfl ?_
  refine ev_ldcw d_JI_bitCount_11 (w_bc266) ?_
  refine ev_iand d_JI_bitCount_14 ?_
  refine ev_iload_n (i := 0) d_JI_bitCount_15 rfl rfl ?_
  refine ev_iconst (v := 2) d_JI_bitCount_16 rfl ?_
  refine ev_iushr d_JI_bitCount_17 ?_
  refine ev_ldcw d_JI_bitCount_18 (w_bc266) ?_
  refine ev_iand d_JI_bitCount_21 ?_
  refine ev_iadd d_JI_bitCount_22 ?_
  refine ev_istore_n (i := 0) d_JI_bitCount_23 rfl (by decide) ?_
  dsimp only [List.set_cons_zero, List.set_cons_succ]
  rw [st2]
  refine ev_iload_n (i := 0) d_JI_bitCount_24 rfl rfl ?_
  refine ev_iload_n (i := 0) d_JI_bitCount_25 rfl rfl ?_
  refine ev_iconst (v := 4) d_JI_bitCount_26 rfl ?_
  refine ev_iushr d_JI_bitCount_27 ?_
  refine ev_iadd d_JI_bitCount_28 ?_
  refine ev_ldcw d_JI_bitCount_29 (w_bc267) ?_
  refine ev_iand d_JI_bitCount_32 ?_
  refine ev_istore_n (i := 0) d_JI_bitCount_33 rfl (by decide) ?_
  dsimp only [List.set_cons_zero, List.set_cons_succ]
  rw [st3]
  refine ev_iload_n (i := 0) d_JI_bitCount_34 rfl rfl ?_
  refine ev_iload_n (i := 0) d_JI_bitCount_35 rfl rfl ?_
  refine ev_bipush (v := 8) d_JI_bitCount_36 rfl ?_
  refine ev_iushr d_JI_bitCount_38 ?_
  refine ev_iadd d_JI_bitCount_39 ?_
  refine ev_istore_n (i := 0) d_JI_bitCount_40 rfl (by decide) ?_
  dsimp only [List.set_cons_zero, List.set_cons_succ]
  refine ev_iload_n (i := 0) d_JI_bitCount_41 rfl rfl ?_
  refine ev_iload_n (i := 0) d_JI_bitCount_42 rfl rfl ?_
  refine ev_bipush (v := 16) d_JI_bitCount_43 rfl ?_
  refine ev_iushr d_JI_bitCount_45 ?_
  refine ev_iadd d_JI_bitCount_46 ?_
  refine ev_istore_n (i := 0) d_JI_bitCount_47 rfl (by decide) ?_
  dsimp only [List.set_cons_zero, List.set_cons_succ]
  refine ev_iload_n (i := 0) d_JI_bitCount_48 rfl rfl ?_
  refine ev_bipush (v := 63) d_JI_bitCount_49 rfl ?_
  refine ev_iand d_JI_bitCount_51 ?_
  refine es_iret d_JI_bitCount_52 rfl ⟨Nat.zero_le _, Nat.zero_le _⟩ ⟨_, rfl, ?_⟩
  exact ⟨st4 x _ rfl, rfl⟩
theorem c_BH_countReached {b e : Nat} (hb : sb_BH b e) {pr : Nat → Prop} (hp : ∀ s, s < 32 → (bt (σ b 11) s = true ↔ pr s)) : ez_Ct l G X_BH_countReached [.ref b] (es_H σ) (es_Q (es_I fun y σ' => y = nI (em_ct pr 32) ∧ σ' = σ) es_no) := by
  refine es_Ct_of (ls := [some (.ref b)]) ok_BH_countReached rfl (Nat.le_of_ble_eq_true rfl) rfl ?_
  refine ev_aload_n (i := 0) d_BH_countReached_0 rfl rfl ?_
  refine es_getI d_BH_countReached_1 f_BH_43 (sh_BH hb) rfl ?_
  refine es_cSI ls_BH_countReached_4 d_BH_countReached_4 c_JI_bitCount rfl rfl (Nat.le_of_ble_eq_true rfl) (fun x4 σ4 h4 => ?_) (fun _ _ h => h.elim)
  obtain ⟨rfl, e4⟩ := h4
  rw [e4]
  refine es_iret d_BH_countReached_7 rfl ⟨Nat.zero_le _, Nat.zero_le _⟩ ⟨_, rfl, ?_⟩
  exact ⟨by rw [em_ct_congr 32 hp], rfl⟩
end
