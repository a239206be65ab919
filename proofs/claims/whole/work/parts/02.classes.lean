/-! ===== classes: their fields; methods: name, bytes, locals, answer, handlers, room ===== -/
def T_EE : u_T := fun k => match k with
  | 0 => ("EditionEqual", "pointCount", "I", true)
  | 1 => ("EditionEqual", "rowCount", "I", true)
  | 2 => ("EditionEqual", "firstEdition", "LEditionEqual$Edition;", true)
  | 3 => ("EditionEqual", "secondEdition", "LEditionEqual$Edition;", true)
  | 4 => ("EditionEqual", "firstBehaviour", "LEditionEqual$Behaviour;", true)
  | 5 => ("EditionEqual", "secondBehaviour", "LEditionEqual$Behaviour;", true)
  | 6 => ("EditionEqual", "search", "LEditionEqual$PairSearch;", true)
  | 7 => ("EditionEqual", "matching", "LEditionEqual$Matching;", true)
  | _ => ("EditionEqual", "barredRows", "I", false)
def ty_EE : Nat → FieldType := fun k => match k with
  | 0 => .int
  | 1 => .int
  | 2 => .object "EditionEqual$Edition"
  | 3 => .object "EditionEqual$Edition"
  | 4 => .object "EditionEqual$Behaviour"
  | 5 => .object "EditionEqual$Behaviour"
  | 6 => .object "EditionEqual$PairSearch"
  | 7 => .object "EditionEqual$Matching"
  | _ => .int
theorem nm_EE : ∀ a, a < 9 → ∀ b, b < 9 → a ≠ b → (T_EE a).2.1 ≠ (T_EE b).2.1 := by decide +kernel
theorem tp_EE : ∀ k, k < 9 → parseFieldDescriptor (T_EE k).2.2.1 = some (ty_EE k) := by decide +kernel
def T_ED : u_T := fun k => match k with
  | 0 => ("EditionEqual$Edition", "kinds", "[I", true)
  | 1 => ("EditionEqual$Edition", "numbers", "[I", true)
  | 2 => ("EditionEqual$Edition", "neededInputs", "[I", true)
  | 3 => ("EditionEqual$Edition", "wires", "[I", true)
  | 4 => ("EditionEqual$Edition", "neededBlocks", "[I", true)
  | 5 => ("EditionEqual$Edition", "outputs", "[I", true)
  | 6 => ("EditionEqual$Edition", "delays", "[I", true)
  | 7 => ("EditionEqual$Edition", "ahead", "[I", true)
  | 8 => ("EditionEqual$Edition", "blockCount", "I", false)
  | _ => ("EditionEqual$Edition", "delayCount", "I", false)
def ty_ED : Nat → FieldType := fun k => match k with
  | 0 => .array .int
  | 1 => .array .int
  | 2 => .array .int
  | 3 => .array .int
  | 4 => .array .int
  | 5 => .array .int
  | 6 => .array .int
  | 7 => .array .int
  | 8 => .int
  | _ => .int
theorem nm_ED : ∀ a, a < 10 → ∀ b, b < 10 → a ≠ b → (T_ED a).2.1 ≠ (T_ED b).2.1 := by decide +kernel
theorem tp_ED : ∀ k, k < 10 → parseFieldDescriptor (T_ED k).2.2.1 = some (ty_ED k) := by decide +kernel
def T_BH : u_T := fun k => match k with
  | 0 => ("EditionEqual$Behaviour", "edition", "LEditionEqual$Edition;", true)
  | 1 => ("EditionEqual$Behaviour", "order", "[I", true)
  | 2 => ("EditionEqual$Behaviour", "columns", "[I", true)
  | 3 => ("EditionEqual$Behaviour", "outs", "[I", true)
  | 4 => ("EditionEqual$Behaviour", "nextStates", "[I", true)
  | 5 => ("EditionEqual$Behaviour", "queue", "[I", true)
  | 6 => ("EditionEqual$Behaviour", "classes", "[I", true)
  | 7 => ("EditionEqual$Behaviour", "keys", "[I", true)
  | 8 => ("EditionEqual$Behaviour", "newClasses", "[I", true)
  | 9 => ("EditionEqual$Behaviour", "orderedCount", "I", false)
  | 10 => ("EditionEqual$Behaviour", "stateCount", "I", false)
  | 11 => ("EditionEqual$Behaviour", "reachedStates", "I", false)
  | _ => ("EditionEqual$Behaviour", "known", "Z", false)
def ty_BH : Nat → FieldType := fun k => match k with
  | 0 => .object "EditionEqual$Edition"
  | 1 => .array .int
  | 2 => .array .int
  | 3 => .array .int
  | 4 => .array .int
  | 5 => .array .int
  | 6 => .array .int
  | 7 => .array .int
  | 8 => .array .int
  | 9 => .int
  | 10 => .int
  | 11 => .int
  | _ => .boolean
theorem nm_BH : ∀ a, a < 13 → ∀ b, b < 13 → a ≠ b → (T_BH a).2.1 ≠ (T_BH b).2.1 := by decide +kernel
theorem tp_BH : ∀ k, k < 13 → parseFieldDescriptor (T_BH k).2.2.1 = some (ty_BH k) := by decide +kernel
def T_PS : u_T := fun k => match k with
  | 0 => ("EditionEqual$PairSearch", "first", "LEditionEqual$Behaviour;", true)
  | 1 => ("EditionEqual$PairSearch", "second", "LEditionEqual$Behaviour;", true)
  | 2 => ("EditionEqual$PairSearch", "met", "[I", true)
  | 3 => ("EditionEqual$PairSearch", "queue", "[I", true)
  | 4 => ("EditionEqual$PairSearch", "cameFrom", "[I", true)
  | 5 => ("EditionEqual$PairSearch", "cameBy", "[I", true)
  | 6 => ("EditionEqual$PairSearch", "pairCount", "I", false)
  | 7 => ("EditionEqual$PairSearch", "shownCount", "I", false)
  | 8 => ("EditionEqual$PairSearch", "shownFrom", "I", false)
  | 9 => ("EditionEqual$PairSearch", "shownLast", "I", false)
  | 10 => ("EditionEqual$PairSearch", "firstOuts", "I", false)
  | 11 => ("EditionEqual$PairSearch", "secondOuts", "I", false)
  | _ => ("EditionEqual$PairSearch", "known", "Z", false)
def ty_PS : Nat → FieldType := fun k => match k with
  | 0 => .object "EditionEqual$Behaviour"
  | 1 => .object "EditionEqual$Behaviour"
  | 2 => .array .int
  | 3 => .array .int
  | 4 => .array .int
  | 5 => .array .int
  | 6 => .int
  | 7 => .int
  | 8 => .int
  | 9 => .int
  | 10 => .int
  | 11 => .int
  | _ => .boolean
theorem nm_PS : ∀ a, a < 13 → ∀ b, b < 13 → a ≠ b → (T_PS a).2.1 ≠ (T_PS b).2.1 := by decide +kernel
theorem tp_PS : ∀ k, k < 13 → parseFieldDescriptor (T_PS k).2.2.1 = some (ty_PS k) := by decide +kernel
def T_MT : u_T := fun k => match k with
  | 0 => ("EditionEqual$Matching", "first", "LEditionEqual$Edition;", true)
  | 1 => ("EditionEqual$Matching", "second", "LEditionEqual$Edition;", true)
  | 2 => ("EditionEqual$Matching", "partners", "[I", true)
  | 3 => ("EditionEqual$Matching", "partnersBack", "[I", true)
  | 4 => ("EditionEqual$Matching", "queue", "[I", true)
  | _ => ("EditionEqual$Matching", "matchCount", "I", false)
def ty_MT : Nat → FieldType := fun k => match k with
  | 0 => .object "EditionEqual$Edition"
  | 1 => .object "EditionEqual$Edition"
  | 2 => .array .int
  | 3 => .array .int
  | 4 => .array .int
  | _ => .int
theorem nm_MT : ∀ a, a < 6 → ∀ b, b < 6 → a ≠ b → (T_MT a).2.1 ≠ (T_MT b).2.1 := by decide +kernel
theorem tp_MT : ∀ k, k < 6 → parseFieldDescriptor (T_MT k).2.2.1 = some (ty_MT k) := by decide +kernel
def T_MD : u_T := fun k => match k with
  | 0 => ("EditionEqualModel", "thrown", "I", false)
  | 1 => ("EditionEqualModel", "points", "I", true)
  | 2 => ("EditionEqualModel", "barred", "[Z", true)
  | 3 => ("EditionEqualModel", "counts", "[I", true)
  | 4 => ("EditionEqualModel", "kinds", "[I", true)
  | 5 => ("EditionEqualModel", "numbers", "[I", true)
  | 6 => ("EditionEqualModel", "firsts", "[I", true)
  | 7 => ("EditionEqualModel", "seconds", "[I", true)
  | 8 => ("EditionEqualModel", "outs", "[I", true)
  | 9 => ("EditionEqualModel", "come", "[Z", true)
  | 10 => ("EditionEqualModel", "values", "[I", true)
  | 11 => ("EditionEqualModel", "table", "[I", true)
  | 12 => ("EditionEqualModel", "reached", "[Z", true)
  | 13 => ("EditionEqualModel", "apart", "[Z", true)
  | 14 => ("EditionEqualModel", "pairCount", "I", false)
  | 15 => ("EditionEqualModel", "pairs", "[I", true)
  | 16 => ("EditionEqualModel", "cameFrom", "[I", true)
  | 17 => ("EditionEqualModel", "cameBy", "[I", true)
  | 18 => ("EditionEqualModel", "seen", "[Z", true)
  | 19 => ("EditionEqualModel", "differsAt", "I", false)
  | 20 => ("EditionEqualModel", "differsBy", "I", false)
  | _ => ("EditionEqualModel", "match", "[Z", true)
def ty_MD : Nat → FieldType := fun k => match k with
  | 0 => .int
  | 1 => .int
  | 2 => .array .boolean
  | 3 => .array .int
  | 4 => .array .int
  | 5 => .array .int
  | 6 => .array .int
  | 7 => .array .int
  | 8 => .array .int
  | 9 => .array .boolean
  | 10 => .array .int
  | 11 => .array .int
  | 12 => .array .boolean
  | 13 => .array .boolean
  | 14 => .int
  | 15 => .array .int
  | 16 => .array .int
  | 17 => .array .int
  | 18 => .array .boolean
  | 19 => .int
  | 20 => .int
  | _ => .array .boolean
theorem nm_MD : ∀ a, a < 22 → ∀ b, b < 22 → a ≠ b → (T_MD a).2.1 ≠ (T_MD b).2.1 := by decide +kernel
theorem tp_MD : ∀ k, k < 22 → parseFieldDescriptor (T_MD k).2.2.1 = some (ty_MD k) := by decide +kernel
def ez_cl : List vw_C := [("EditionEqual", T_EE, 9), ("EditionEqual$Edition", T_ED, 10), ("EditionEqual$Behaviour", T_BH, 13), ("EditionEqual$PairSearch", T_PS, 13), ("EditionEqual$Matching", T_MT, 6), ("EditionEqualModel", T_MD, 22)]
/-- classes' numbers and slots; the arrays' classes; addresses of what nobody writes (900: the class's table of columns, 901: the script); the script -/
abbrev ez_G : Type := va_G × (FieldType → ClassId) × (Nat → Nat) × (Nat × (Nat → Int32))
def ez_str : List (String × Nat × String) := [("EditionEqual", 215, "no such edition"), ("EditionEqual", 81, "no such kind, or no such number of the kind"), ("EditionEqual", 92, "no more blocks, or no more delays"), ("EditionEqual", 107, "no such block or input"), ("EditionEqual", 113, "no such output or block"), ("EditionEqual", 211, "no such row"), ("EditionEqual", 217, "no such block"), ("EditionEqual", 199, "the edition is not right"), ("EditionEqual", 146, "a place is not below 0"), ("EditionEqual", 213, "one of the editions is not right"), ("EditionEqual", 165, "rows are counted from 0"), ("EditionEqual", 167, "so many rows are not shown"), ("EditionEqual", 191, "idle blocks are counted from 0")]
def ez_dc (j : Nat) : Int32 := match j with
  | 0 => 0xAAAAAAAA
  | 1 => 0xCCCCCCCC
  | 2 => 0xF0F0F0F0
  | 3 => 0xFF00FF00
  | _ => 0xFFFF0000
def ez_tU : String := "UNASSIGNED_STACK"
/-- what nobody writes -/
def ez_Ro (G : ez_G) (A : Nat → Prop) (U : State) (H : Heap) : Prop :=
  (va_Z "EditionEqual" "DELAY_COLUMNS" "[I" (.ref (G.2.2.1 900)) A U H ∧ va_T .int (G.2.2.1 900) 5 (fun j => .int (ez_dc j)) A U H) ∧ (vx_Zq Bundle.tN "UNASSIGNED_STACK" Bundle.steD A U H ∧ vx_Zq Bundle.tN "SUPPRESSED_SENTINEL" Bundle.listD A U H) ∧
  (∀ q ∈ ez_str, ∃ a, vk_R q.1 q.2.1 q.2.2 a U) ∧ va_Nc "java/lang/IllegalStateException" "java/lang/IllegalArgumentException" U ∧ va_T .int (G.2.2.1 901) G.2.2.2.1 (fun j => .int (G.2.2.2.2 j)) A U H
theorem ez_Ro.moved {G : ez_G} {A : Nat → Prop} {u U : State} {H : Heap} (hW : u.WarmedH U.vm) (h : ez_Ro G A u H) : ez_Ro G A U H :=
  ⟨⟨va_Z.moved hW.alike h.1.1, va_T.moved hW.alike h.1.2⟩, ⟨vx_Zq.moved hW.alike h.2.1.1, vx_Zq.moved hW.alike h.2.1.2⟩, fun q hq => (h.2.2.1 q hq).elim fun a ha => ⟨a, vk_R.warm hW ha⟩, va_Nc.moved hW.alike h.2.2.2.1, va_T.moved hW.alike h.2.2.2.2⟩
theorem ez_Ro.kept {G : ez_G} {A : Nat → Prop} {U : State} {H H1 : Heap} (h : ez_Ro G A U H) (hq : ∀ a : Nat, a < H.size → ¬ A a → H1[a]? = H[a]?) : ez_Ro G A U H1 :=
  ⟨⟨va_Z.kept h.1.1 hq, va_T.kept h.1.2 hq⟩, ⟨vx_Zq.kept h.2.1.1 hq, vx_Zq.kept h.2.1.2 hq⟩, h.2.2.1, h.2.2.2.1, va_T.kept h.2.2.2.2 hq⟩
theorem ez_Ro.narrow {G : ez_G} {A B : Nat → Prop} {U : State} {H : Heap} (h : ez_Ro G A U H) (hAB : ∀ q, B q → A q) : ez_Ro G B U H :=
  ⟨⟨va_Z.narrow h.1.1 hAB, va_T.narrow h.1.2 hAB⟩, ⟨vx_Zq.narrow h.2.1.1 hAB, vx_Zq.narrow h.2.1.2 hAB⟩, h.2.2.1, h.2.2.2.1, va_T.narrow h.2.2.2.2 hAB⟩
