/-! names: the classes, their fields, the methods' codes and names (by mknames.py out of the Statement) -/
abbrev Rn_0 : String := "FactFlow"
def Tn_0 : u_T := fun k => match k with
  | 0 => ("FactFlow", "program", "LFactFlow$Program;", true)
  | 1 => ("FactFlow", "solution", "LFactFlow$Solution;", true)
  | 2 => ("FactFlow", "inputs", "LFactFlow$Inputs;", true)
  | _ => ("FactFlow", "machine", "LFactFlow$Machine;", true)
def tn_0 : Nat → FieldType := fun k => match k with
  | 0 => .object "FactFlow$Program"
  | 1 => .object "FactFlow$Solution"
  | 2 => .object "FactFlow$Inputs"
  | _ => .object "FactFlow$Machine"
theorem tk_0 : ∀ k, k < 4 → parseFieldDescriptor (Tn_0 k).2.2.1 = some (tn_0 k) := by decide +kernel
theorem nn_0 : ∀ a, a < 4 → ∀ b, b < 4 → a ≠ b → (Tn_0 a).2.1 ≠ (Tn_0 b).2.1 := by decide +kernel
abbrev Rn_1 : String := "FactFlow$Program"
def Tn_1 : u_T := fun k => match k with
  | 0 => ("FactFlow$Program", "instructions", "[LFactFlow$Instruction;", true)
  | 1 => ("FactFlow$Program", "count", "I", false)
  | _ => ("FactFlow$Program", "result", "LFactFlow$Fact;", true)
def tn_1 : Nat → FieldType := fun k => match k with
  | 0 => .array (.object "FactFlow$Instruction")
  | 1 => .int
  | _ => .object "FactFlow$Fact"
theorem tk_1 : ∀ k, k < 3 → parseFieldDescriptor (Tn_1 k).2.2.1 = some (tn_1 k) := by decide +kernel
theorem nn_1 : ∀ a, a < 3 → ∀ b, b < 3 → a ≠ b → (Tn_1 a).2.1 ≠ (Tn_1 b).2.1 := by decide +kernel
abbrev Rn_2 : String := "FactFlow$Instruction"
def Tn_2 : u_T := fun k => match k with
  | 0 => ("FactFlow$Instruction", "operation", "I", false)
  | 1 => ("FactFlow$Instruction", "a", "I", false)
  | 2 => ("FactFlow$Instruction", "b", "I", false)
  | _ => ("FactFlow$Instruction", "c", "I", false)
def tn_2 : Nat → FieldType := fun k => match k with
  | 0 => .int
  | 1 => .int
  | 2 => .int
  | _ => .int
theorem tk_2 : ∀ k, k < 4 → parseFieldDescriptor (Tn_2 k).2.2.1 = some (tn_2 k) := by decide +kernel
theorem nn_2 : ∀ a, a < 4 → ∀ b, b < 4 → a ≠ b → (Tn_2 a).2.1 ≠ (Tn_2 b).2.1 := by decide +kernel
abbrev Rn_3 : String := "FactFlow$Fact"
def Tn_3 : u_T := fun k => match k with
  | 0 => ("FactFlow$Fact", "bits", "I", false)
  | 1 => ("FactFlow$Fact", "rest", "I", false)
  | _ => ("FactFlow$Fact", "signs", "I", false)
def tn_3 : Nat → FieldType := fun k => match k with
  | 0 => .int
  | 1 => .int
  | _ => .int
theorem tk_3 : ∀ k, k < 3 → parseFieldDescriptor (Tn_3 k).2.2.1 = some (tn_3 k) := by decide +kernel
theorem nn_3 : ∀ a, a < 3 → ∀ b, b < 3 → a ≠ b → (Tn_3 a).2.1 ≠ (Tn_3 b).2.1 := by decide +kernel
abbrev Rn_4 : String := "FactFlow$State"
def Tn_4 : u_T := fun k => match k with
  | 0 => ("FactFlow$State", "facts", "[LFactFlow$Fact;", true)
  | _ => ("FactFlow$State", "none", "Z", false)
def tn_4 : Nat → FieldType := fun k => match k with
  | 0 => .array (.object "FactFlow$Fact")
  | _ => .boolean
theorem tk_4 : ∀ k, k < 2 → parseFieldDescriptor (Tn_4 k).2.2.1 = some (tn_4 k) := by decide +kernel
theorem nn_4 : ∀ a, a < 2 → ∀ b, b < 2 → a ≠ b → (Tn_4 a).2.1 ≠ (Tn_4 b).2.1 := by decide +kernel
abbrev Rn_5 : String := "FactFlow$Solution"
def Tn_5 : u_T := fun k => match k with
  | 0 => ("FactFlow$Solution", "states", "[LFactFlow$State;", true)
  | 1 => ("FactFlow$Solution", "found", "Z", false)
  | 2 => ("FactFlow$Solution", "waiting", "[Z", true)
  | _ => ("FactFlow$Solution", "coming", "LFactFlow$State;", true)
def tn_5 : Nat → FieldType := fun k => match k with
  | 0 => .array (.object "FactFlow$State")
  | 1 => .boolean
  | 2 => .array .boolean
  | _ => .object "FactFlow$State"
theorem tk_5 : ∀ k, k < 4 → parseFieldDescriptor (Tn_5 k).2.2.1 = some (tn_5 k) := by decide +kernel
theorem nn_5 : ∀ a, a < 4 → ∀ b, b < 4 → a ≠ b → (Tn_5 a).2.1 ≠ (Tn_5 b).2.1 := by decide +kernel
abbrev Rn_6 : String := "FactFlow$Inputs"
def Tn_6 : u_T := fun k => match k with
  | 0 => ("FactFlow$Inputs", "numbers", "[I", true)
  | _ => ("FactFlow$Inputs", "count", "I", false)
def tn_6 : Nat → FieldType := fun k => match k with
  | 0 => .array .int
  | _ => .int
theorem tk_6 : ∀ k, k < 2 → parseFieldDescriptor (Tn_6 k).2.2.1 = some (tn_6 k) := by decide +kernel
theorem nn_6 : ∀ a, a < 2 → ∀ b, b < 2 → a ≠ b → (Tn_6 a).2.1 ≠ (Tn_6 b).2.1 := by decide +kernel
abbrev Rn_7 : String := "FactFlow$Machine"
def Tn_7 : u_T := fun k => match k with
  | 0 => ("FactFlow$Machine", "variables", "[I", true)
  | 1 => ("FactFlow$Machine", "prints", "[I", true)
  | 2 => ("FactFlow$Machine", "printed", "I", false)
  | 3 => ("FactFlow$Machine", "done", "I", false)
  | 4 => ("FactFlow$Machine", "following", "I", false)
  | _ => ("FactFlow$Machine", "taken", "I", false)
def tn_7 : Nat → FieldType := fun k => match k with
  | 0 => .array .int
  | 1 => .array .int
  | 2 => .int
  | 3 => .int
  | 4 => .int
  | _ => .int
theorem tk_7 : ∀ k, k < 6 → parseFieldDescriptor (Tn_7 k).2.2.1 = some (tn_7 k) := by decide +kernel
theorem nn_7 : ∀ a, a < 6 → ∀ b, b < 6 → a ≠ b → (Tn_7 a).2.1 ≠ (Tn_7 b).2.1 := by decide +kernel
abbrev Rn_8 : String := "FactFlowModel"
def Tn_8 : u_T := fun k => match k with
  | 0 => ("FactFlowModel", "many", "I", false)
  | 1 => ("FactFlowModel", "op", "[I", true)
  | 2 => ("FactFlowModel", "first", "[I", true)
  | 3 => ("FactFlowModel", "second", "[I", true)
  | 4 => ("FactFlowModel", "third", "[I", true)
  | 5 => ("FactFlowModel", "known", "Z", false)
  | 6 => ("FactFlowModel", "live", "[Z", true)
  | 7 => ("FactFlowModel", "bitsOf", "[I", true)
  | 8 => ("FactFlowModel", "restOf", "[I", true)
  | 9 => ("FactFlowModel", "signsOf", "[I", true)
  | 10 => ("FactFlowModel", "grown", "Z", false)
  | 11 => ("FactFlowModel", "k", "[I", true)
  | 12 => ("FactFlowModel", "\x72", "[I", true)
  | 13 => ("FactFlowModel", "s", "[I", true)
  | 14 => ("FactFlowModel", "newBits", "I", false)
  | 15 => ("FactFlowModel", "newRest", "I", false)
  | 16 => ("FactFlowModel", "newSigns", "I", false)
  | 17 => ("FactFlowModel", "given", "I", false)
  | 18 => ("FactFlowModel", "inputs", "[I", true)
  | 19 => ("FactFlowModel", "done", "I", false)
  | 20 => ("FactFlowModel", "place", "I", false)
  | 21 => ("FactFlowModel", "values", "[I", true)
  | 22 => ("FactFlowModel", "told", "I", false)
  | 23 => ("FactFlowModel", "out", "[I", true)
  | _ => ("FactFlowModel", "eaten", "I", false)
def tn_8 : Nat → FieldType := fun k => match k with
  | 0 => .int
  | 1 => .array .int
  | 2 => .array .int
  | 3 => .array .int
  | 4 => .array .int
  | 5 => .boolean
  | 6 => .array .boolean
  | 7 => .array .int
  | 8 => .array .int
  | 9 => .array .int
  | 10 => .boolean
  | 11 => .array .int
  | 12 => .array .int
  | 13 => .array .int
  | 14 => .int
  | 15 => .int
  | 16 => .int
  | 17 => .int
  | 18 => .array .int
  | 19 => .int
  | 20 => .int
  | 21 => .array .int
  | 22 => .int
  | 23 => .array .int
  | _ => .int
theorem tk_8 : ∀ k, k < 25 → parseFieldDescriptor (Tn_8 k).2.2.1 = some (tn_8 k) := by decide +kernel
theorem nn_8 : ∀ a, a < 25 → ∀ b, b < 25 → a ≠ b → (Tn_8 a).2.1 ≠ (Tn_8 b).2.1 := by decide +kernel
abbrev vwCl : List vw_C := [(Rn_0, Tn_0, 4), (Rn_1, Tn_1, 3), (Rn_2, Tn_2, 4), (Rn_3, Tn_3, 3), (Rn_4, Tn_4, 2), (Rn_5, Tn_5, 4), (Rn_6, Tn_6, 2), (Rn_7, Tn_7, 6), (Rn_8, Tn_8, 25)]
abbrev c_Ff_init : ByteArray := prog_1_method_1_code
def y_Ff_init : MethodName := ⟨"FactFlow", "<init>", "()V"⟩
abbrev c_Pr_init : ByteArray := prog_6_method_1_code
def y_Pr_init : MethodName := ⟨"FactFlow$Program", "<init>", "()V"⟩
abbrev c_Fa_init : ByteArray := prog_2_method_1_code
def y_Fa_init : MethodName := ⟨"FactFlow$Fact", "<init>", "()V"⟩
abbrev c_In_init : ByteArray := prog_4_method_1_code
def y_In_init : MethodName := ⟨"FactFlow$Instruction", "<init>", "()V"⟩
abbrev c_So_init : ByteArray := prog_7_method_1_code
def y_So_init : MethodName := ⟨"FactFlow$Solution", "<init>", "()V"⟩
abbrev c_St_init : ByteArray := prog_8_method_1_code
def y_St_init : MethodName := ⟨"FactFlow$State", "<init>", "()V"⟩
abbrev c_Ip_init : ByteArray := prog_3_method_1_code
def y_Ip_init : MethodName := ⟨"FactFlow$Inputs", "<init>", "()V"⟩
abbrev c_Ma_init : ByteArray := prog_5_method_1_code
def y_Ma_init : MethodName := ⟨"FactFlow$Machine", "<init>", "()V"⟩
abbrev c_Ff_add : ByteArray := prog_1_method_2_code
def y_Ff_add : MethodName := ⟨"FactFlow", "add", "(IIII)I"⟩
abbrev c_In_isTold : ByteArray := prog_4_method_2_code
def y_In_isTold : MethodName := ⟨"FactFlow$Instruction", "isTold", "(IIII)Z"⟩
abbrev c_In_usesA : ByteArray := prog_4_method_3_code
def y_In_usesA : MethodName := ⟨"FactFlow$Instruction", "usesA", "(I)Z"⟩
abbrev c_Ff_isVariable : ByteArray := prog_1_method_21_code
def y_Ff_isVariable : MethodName := ⟨"FactFlow", "isVariable", "(I)Z"⟩
abbrev c_In_usesB : ByteArray := prog_4_method_4_code
def y_In_usesB : MethodName := ⟨"FactFlow$Instruction", "usesB", "(I)Z"⟩
abbrev c_In_calculates : ByteArray := prog_4_method_6_code
def y_In_calculates : MethodName := ⟨"FactFlow$Instruction", "calculates", "(I)Z"⟩
abbrev c_In_jumps : ByteArray := prog_4_method_7_code
def y_In_jumps : MethodName := ⟨"FactFlow$Instruction", "jumps", "(I)Z"⟩
abbrev c_In_become : ByteArray := prog_4_method_8_code
def y_In_become : MethodName := ⟨"FactFlow$Instruction", "become", "(IIII)V"⟩
abbrev c_In_usesC : ByteArray := prog_4_method_5_code
def y_In_usesC : MethodName := ⟨"FactFlow$Instruction", "usesC", "(I)Z"⟩
abbrev c_Ff_put : ByteArray := prog_1_method_3_code
def y_Ff_put : MethodName := ⟨"FactFlow", "put", "(IIIII)Z"⟩
abbrev c_Pr_has : ByteArray := prog_6_method_2_code
def y_Pr_has : MethodName := ⟨"FactFlow$Program", "has", "(I)Z"⟩
abbrev c_Ff_clear : ByteArray := prog_1_method_4_code
def y_Ff_clear : MethodName := ⟨"FactFlow", "clear", "()V"⟩
abbrev c_Ff_length : ByteArray := prog_1_method_5_code
def y_Ff_length : MethodName := ⟨"FactFlow", "length", "()I"⟩
abbrev c_Ff_code : ByteArray := prog_1_method_6_code
def y_Ff_code : MethodName := ⟨"FactFlow", "code", "(II)I"⟩
abbrev c_In_partOf : ByteArray := prog_4_method_9_code
def y_In_partOf : MethodName := ⟨"FactFlow$Instruction", "partOf", "(I)I"⟩
abbrev c_Ff_reached : ByteArray := prog_1_method_7_code
def y_Ff_reached : MethodName := ⟨"FactFlow", "reached", "(I)Z"⟩
abbrev c_So_find : ByteArray := prog_7_method_2_code
def y_So_find : MethodName := ⟨"FactFlow$Solution", "find", "(LFactFlow$Program;)V"⟩
abbrev c_So_begin : ByteArray := prog_7_method_3_code
def y_So_begin : MethodName := ⟨"FactFlow$Solution", "begin", "()V"⟩
abbrev c_St_becomeZeros : ByteArray := prog_8_method_2_code
def y_St_becomeZeros : MethodName := ⟨"FactFlow$State", "becomeZeros", "()V"⟩
abbrev c_Fa_becomeNumber : ByteArray := prog_2_method_2_code
def y_Fa_becomeNumber : MethodName := ⟨"FactFlow$Fact", "becomeNumber", "(I)V"⟩
abbrev c_Fa_reduce : ByteArray := prog_2_method_8_code
def y_Fa_reduce : MethodName := ⟨"FactFlow$Fact", "reduce", "()V"⟩
abbrev c_So_carry : ByteArray := prog_7_method_4_code
def y_So_carry : MethodName := ⟨"FactFlow$Solution", "carry", "(LFactFlow$Program;I)V"⟩
abbrev c_St_becomeSame : ByteArray := prog_8_method_3_code
def y_St_becomeSame : MethodName := ⟨"FactFlow$State", "becomeSame", "(LFactFlow$State;)V"⟩
abbrev c_Fa_becomeSame : ByteArray := prog_2_method_4_code
def y_Fa_becomeSame : MethodName := ⟨"FactFlow$Fact", "becomeSame", "(LFactFlow$Fact;)V"⟩
abbrev c_So_arrive : ByteArray := prog_7_method_5_code
def y_So_arrive : MethodName := ⟨"FactFlow$Solution", "arrive", "(LFactFlow$Program;I)V"⟩
abbrev c_St_joinWith : ByteArray := prog_8_method_6_code
def y_St_joinWith : MethodName := ⟨"FactFlow$State", "joinWith", "(LFactFlow$State;)Z"⟩
abbrev c_Fa_joinWith : ByteArray := prog_2_method_7_code
def y_Fa_joinWith : MethodName := ⟨"FactFlow$Fact", "joinWith", "(LFactFlow$Fact;)Z"⟩
abbrev c_Ig_numberOfTrailingZeros : ByteArray := prog_11_method_48_code
def y_Ig_numberOfTrailingZeros : MethodName := ⟨"java/lang/Integer", "numberOfTrailingZeros", "(I)I"⟩
abbrev c_Fa_lastBits : ByteArray := prog_2_method_9_code
def y_Fa_lastBits : MethodName := ⟨"FactFlow$Fact", "lastBits", "(II)I"⟩
abbrev c_In_jumpSigns : ByteArray := prog_4_method_10_code
def y_In_jumpSigns : MethodName := ⟨"FactFlow$Instruction", "jumpSigns", "()I"⟩
abbrev c_St_keepSigns : ByteArray := prog_8_method_4_code
def y_St_keepSigns : MethodName := ⟨"FactFlow$State", "keepSigns", "(II)V"⟩
abbrev c_Fa_keepSigns : ByteArray := prog_2_method_6_code
def y_Fa_keepSigns : MethodName := ⟨"FactFlow$Fact", "keepSigns", "(I)V"⟩
abbrev c_St_goThrough : ByteArray := prog_8_method_5_code
def y_St_goThrough : MethodName := ⟨"FactFlow$State", "goThrough", "(LFactFlow$Instruction;)V"⟩
abbrev c_Fa_becomeResult : ByteArray := prog_2_method_5_code
def y_Fa_becomeResult : MethodName := ⟨"FactFlow$Fact", "becomeResult", "(ILFactFlow$Fact;LFactFlow$Fact;)V"⟩
abbrev c_Fa_productBits : ByteArray := prog_2_method_11_code
def y_Fa_productBits : MethodName := ⟨"FactFlow$Fact", "productBits", "(LFactFlow$Fact;LFactFlow$Fact;)I"⟩
abbrev c_Fa_otherBits : ByteArray := prog_2_method_10_code
def y_Fa_otherBits : MethodName := ⟨"FactFlow$Fact", "otherBits", "(ILFactFlow$Fact;LFactFlow$Fact;)I"⟩
abbrev c_Ff_calculated : ByteArray := prog_1_method_22_code
def y_Ff_calculated : MethodName := ⟨"FactFlow", "calculated", "(III)I"⟩
abbrev c_Fa_signTable : ByteArray := prog_2_method_12_code
def y_Fa_signTable : MethodName := ⟨"FactFlow$Fact", "signTable", "(I)[I"⟩
abbrev c_Fa_resultSigns : ByteArray := prog_2_method_13_code
def y_Fa_resultSigns : MethodName := ⟨"FactFlow$Fact", "resultSigns", "([III)I"⟩
abbrev c_Fa_becomeAnything : ByteArray := prog_2_method_3_code
def y_Fa_becomeAnything : MethodName := ⟨"FactFlow$Fact", "becomeAnything", "()V"⟩
abbrev c_Ff_comesTo : ByteArray := prog_1_method_20_code
def y_Ff_comesTo : MethodName := ⟨"FactFlow", "comesTo", "(I)Z"⟩
abbrev c_Ff_bits : ByteArray := prog_1_method_8_code
def y_Ff_bits : MethodName := ⟨"FactFlow", "bits", "(II)I"⟩
abbrev c_Ff_rest : ByteArray := prog_1_method_9_code
def y_Ff_rest : MethodName := ⟨"FactFlow", "rest", "(II)I"⟩
abbrev c_Ff_signs : ByteArray := prog_1_method_10_code
def y_Ff_signs : MethodName := ⟨"FactFlow", "signs", "(II)I"⟩
abbrev c_Ff_rewrite : ByteArray := prog_1_method_11_code
def y_Ff_rewrite : MethodName := ⟨"FactFlow", "rewrite", "()I"⟩
abbrev c_Pr_improve : ByteArray := prog_6_method_3_code
def y_Pr_improve : MethodName := ⟨"FactFlow$Program", "improve", "(ILFactFlow$State;)Z"⟩
abbrev c_Pr_stopInstead : ByteArray := prog_6_method_4_code
def y_Pr_stopInstead : MethodName := ⟨"FactFlow$Program", "stopInstead", "(LFactFlow$Instruction;)Z"⟩
abbrev c_Pr_goInstead : ByteArray := prog_6_method_5_code
def y_Pr_goInstead : MethodName := ⟨"FactFlow$Program", "goInstead", "(LFactFlow$Instruction;II)Z"⟩
abbrev c_Pr_setInstead : ByteArray := prog_6_method_6_code
def y_Pr_setInstead : MethodName := ⟨"FactFlow$Program", "setInstead", "(LFactFlow$Instruction;LFactFlow$Fact;)Z"⟩
abbrev c_Ff_input : ByteArray := prog_1_method_12_code
def y_Ff_input : MethodName := ⟨"FactFlow", "input", "(I)Z"⟩
abbrev c_Ip_take : ByteArray := prog_3_method_2_code
def y_Ip_take : MethodName := ⟨"FactFlow$Inputs", "take", "(I)Z"⟩
abbrev c_Ff_dry : ByteArray := prog_1_method_13_code
def y_Ff_dry : MethodName := ⟨"FactFlow", "dry", "()V"⟩
abbrev c_Ff_run : ByteArray := prog_1_method_14_code
def y_Ff_run : MethodName := ⟨"FactFlow", "run", "(I)I"⟩
abbrev c_Ma_execute : ByteArray := prog_5_method_2_code
def y_Ma_execute : MethodName := ⟨"FactFlow$Machine", "execute", "(LFactFlow$Program;LFactFlow$Inputs;I)I"⟩
abbrev c_Ma_begin : ByteArray := prog_5_method_3_code
def y_Ma_begin : MethodName := ⟨"FactFlow$Machine", "begin", "()V"⟩
abbrev c_Ma_change : ByteArray := prog_5_method_4_code
def y_Ma_change : MethodName := ⟨"FactFlow$Machine", "change", "(LFactFlow$Instruction;LFactFlow$Inputs;)V"⟩
abbrev c_Ip_numberOrZero : ByteArray := prog_3_method_3_code
def y_Ip_numberOrZero : MethodName := ⟨"FactFlow$Inputs", "numberOrZero", "(I)I"⟩
abbrev c_Ma_print : ByteArray := prog_5_method_5_code
def y_Ma_print : MethodName := ⟨"FactFlow$Machine", "print", "(I)V"⟩
abbrev c_Ma_placeBehind : ByteArray := prog_5_method_6_code
def y_Ma_placeBehind : MethodName := ⟨"FactFlow$Machine", "placeBehind", "(LFactFlow$Instruction;I)I"⟩
abbrev c_Ff_steps : ByteArray := prog_1_method_15_code
def y_Ff_steps : MethodName := ⟨"FactFlow", "steps", "()I"⟩
abbrev c_Ff_next : ByteArray := prog_1_method_16_code
def y_Ff_next : MethodName := ⟨"FactFlow", "next", "()I"⟩
abbrev c_Ff_variable : ByteArray := prog_1_method_17_code
def y_Ff_variable : MethodName := ⟨"FactFlow", "variable", "(I)I"⟩
abbrev c_Ff_outputs : ByteArray := prog_1_method_18_code
def y_Ff_outputs : MethodName := ⟨"FactFlow", "outputs", "()I"⟩
abbrev c_Ff_output : ByteArray := prog_1_method_19_code
def y_Ff_output : MethodName := ⟨"FactFlow", "output", "(I)I"⟩
abbrev c_Mo_init : ByteArray := prog_10_method_1_code
def y_Mo_init : MethodName := ⟨"FactFlowModel", "<init>", "()V"⟩
abbrev c_Mo_add : ByteArray := prog_10_method_9_code
def y_Mo_add : MethodName := ⟨"FactFlowModel", "add", "(IIII)I"⟩
abbrev c_Mo_wrong : ByteArray := prog_10_method_6_code
def y_Mo_wrong : MethodName := ⟨"FactFlowModel", "wrong", "(IIII)Z"⟩
abbrev c_Mo_usesFirst : ByteArray := prog_10_method_3_code
def y_Mo_usesFirst : MethodName := ⟨"FactFlowModel", "usesFirst", "(I)Z"⟩
abbrev c_Mo_isVariable : ByteArray := prog_10_method_2_code
def y_Mo_isVariable : MethodName := ⟨"FactFlowModel", "isVariable", "(I)Z"⟩
abbrev c_Mo_usesSecond : ByteArray := prog_10_method_4_code
def y_Mo_usesSecond : MethodName := ⟨"FactFlowModel", "usesSecond", "(I)Z"⟩
abbrev c_Mo_jumps : ByteArray := prog_10_method_5_code
def y_Mo_jumps : MethodName := ⟨"FactFlowModel", "jumps", "(I)Z"⟩
abbrev c_Mo_place : ByteArray := prog_10_method_8_code
def y_Mo_place : MethodName := ⟨"FactFlowModel", "place", "(IIIII)Z"⟩
abbrev c_Mo_usesThird : ByteArray := prog_10_method_7_code
def y_Mo_usesThird : MethodName := ⟨"FactFlowModel", "usesThird", "(I)Z"⟩
abbrev c_Mo_put : ByteArray := prog_10_method_11_code
def y_Mo_put : MethodName := ⟨"FactFlowModel", "put", "(IIIII)Z"⟩
abbrev c_Mo_none : ByteArray := prog_10_method_10_code
def y_Mo_none : MethodName := ⟨"FactFlowModel", "none", "(I)Z"⟩
abbrev c_Mo_clear : ByteArray := prog_10_method_12_code
def y_Mo_clear : MethodName := ⟨"FactFlowModel", "clear", "()V"⟩
abbrev c_Mo_length : ByteArray := prog_10_method_13_code
def y_Mo_length : MethodName := ⟨"FactFlowModel", "length", "()I"⟩
abbrev c_Mo_code : ByteArray := prog_10_method_14_code
def y_Mo_code : MethodName := ⟨"FactFlowModel", "code", "(II)I"⟩
abbrev c_Mo_reached : ByteArray := prog_10_method_36_code
def y_Mo_reached : MethodName := ⟨"FactFlowModel", "reached", "(I)Z"⟩
abbrev c_Mo_solve : ByteArray := prog_10_method_35_code
def y_Mo_solve : MethodName := ⟨"FactFlowModel", "solve", "()V"⟩
abbrev c_Mo_result : ByteArray := prog_10_method_20_code
def y_Mo_result : MethodName := ⟨"FactFlowModel", "result", "(III)V"⟩
abbrev c_Mo_take : ByteArray := prog_10_method_21_code
def y_Mo_take : MethodName := ⟨"FactFlowModel", "take", "(I)V"⟩
abbrev c_Mo_join : ByteArray := prog_10_method_33_code
def y_Mo_join : MethodName := ⟨"FactFlowModel", "join", "(I)V"⟩
abbrev c_Mo_joinFact : ByteArray := prog_10_method_32_code
def y_Mo_joinFact : MethodName := ⟨"FactFlowModel", "joinFact", "(II)V"⟩
abbrev c_Mo_least : ByteArray := prog_10_method_18_code
def y_Mo_least : MethodName := ⟨"FactFlowModel", "least", "(II)I"⟩
abbrev c_Mo_zeros : ByteArray := prog_10_method_16_code
def y_Mo_zeros : MethodName := ⟨"FactFlowModel", "zeros", "(I)I"⟩
abbrev c_Mo_cut : ByteArray := prog_10_method_17_code
def y_Mo_cut : MethodName := ⟨"FactFlowModel", "cut", "(II)I"⟩
abbrev c_Mo_pass : ByteArray := prog_10_method_34_code
def y_Mo_pass : MethodName := ⟨"FactFlowModel", "pass", "(I)V"⟩
abbrev c_Mo_load : ByteArray := prog_10_method_29_code
def y_Mo_load : MethodName := ⟨"FactFlowModel", "load", "(I)V"⟩
abbrev c_Mo_only : ByteArray := prog_10_method_30_code
def y_Mo_only : MethodName := ⟨"FactFlowModel", "only", "(II)Z"⟩
abbrev c_Mo_reduced : ByteArray := prog_10_method_19_code
def y_Mo_reduced : MethodName := ⟨"FactFlowModel", "reduced", "()Z"⟩
abbrev c_Mo_sign : ByteArray := prog_10_method_15_code
def y_Mo_sign : MethodName := ⟨"FactFlowModel", "sign", "(I)I"⟩
abbrev c_Mo_worked : ByteArray := prog_10_method_31_code
def y_Mo_worked : MethodName := ⟨"FactFlowModel", "worked", "(I)Z"⟩
abbrev c_Mo_reckon : ByteArray := prog_10_method_28_code
def y_Mo_reckon : MethodName := ⟨"FactFlowModel", "reckon", "(III)Z"⟩
abbrev c_Mo_signsBy : ByteArray := prog_10_method_26_code
def y_Mo_signsBy : MethodName := ⟨"FactFlowModel", "signsBy", "(III)I"⟩
abbrev c_Mo_pairSigns : ByteArray := prog_10_method_25_code
def y_Mo_pairSigns : MethodName := ⟨"FactFlowModel", "pairSigns", "(III)I"⟩
abbrev c_Mo_sumSigns : ByteArray := prog_10_method_22_code
def y_Mo_sumSigns : MethodName := ⟨"FactFlowModel", "sumSigns", "(II)I"⟩
abbrev c_Mo_lessSigns : ByteArray := prog_10_method_23_code
def y_Mo_lessSigns : MethodName := ⟨"FactFlowModel", "lessSigns", "(II)I"⟩
abbrev c_Mo_partSigns : ByteArray := prog_10_method_24_code
def y_Mo_partSigns : MethodName := ⟨"FactFlowModel", "partSigns", "(II)I"⟩
abbrev c_Mo_divided : ByteArray := prog_10_method_27_code
def y_Mo_divided : MethodName := ⟨"FactFlowModel", "divided", "(II)I"⟩
abbrev c_Mo_bits : ByteArray := prog_10_method_38_code
def y_Mo_bits : MethodName := ⟨"FactFlowModel", "bits", "(II)I"⟩
abbrev c_Mo_untold : ByteArray := prog_10_method_37_code
def y_Mo_untold : MethodName := ⟨"FactFlowModel", "untold", "(II)Z"⟩
abbrev c_Mo_rest : ByteArray := prog_10_method_39_code
def y_Mo_rest : MethodName := ⟨"FactFlowModel", "rest", "(II)I"⟩
abbrev c_Mo_signs : ByteArray := prog_10_method_40_code
def y_Mo_signs : MethodName := ⟨"FactFlowModel", "signs", "(II)I"⟩
abbrev c_Mo_rewrite : ByteArray := prog_10_method_42_code
def y_Mo_rewrite : MethodName := ⟨"FactFlowModel", "rewrite", "()I"⟩
abbrev c_Mo_written : ByteArray := prog_10_method_41_code
def y_Mo_written : MethodName := ⟨"FactFlowModel", "written", "(I)Z"⟩
abbrev c_Mo_input : ByteArray := prog_10_method_43_code
def y_Mo_input : MethodName := ⟨"FactFlowModel", "input", "(I)Z"⟩
abbrev c_Mo_dry : ByteArray := prog_10_method_44_code
def y_Mo_dry : MethodName := ⟨"FactFlowModel", "dry", "()V"⟩
abbrev c_Mo_run : ByteArray := prog_10_method_49_code
def y_Mo_run : MethodName := ⟨"FactFlowModel", "run", "(I)I"⟩
abbrev c_Mo_step : ByteArray := prog_10_method_48_code
def y_Mo_step : MethodName := ⟨"FactFlowModel", "step", "()I"⟩
abbrev c_Mo_worth : ByteArray := prog_10_method_47_code
def y_Mo_worth : MethodName := ⟨"FactFlowModel", "worth", "(III)I"⟩
abbrev c_Mo_read : ByteArray := prog_10_method_46_code
def y_Mo_read : MethodName := ⟨"FactFlowModel", "read", "(I)V"⟩
abbrev c_Mo_print : ByteArray := prog_10_method_45_code
def y_Mo_print : MethodName := ⟨"FactFlowModel", "print", "(I)V"⟩
abbrev c_Mo_steps : ByteArray := prog_10_method_50_code
def y_Mo_steps : MethodName := ⟨"FactFlowModel", "steps", "()I"⟩
abbrev c_Mo_next : ByteArray := prog_10_method_51_code
def y_Mo_next : MethodName := ⟨"FactFlowModel", "next", "()I"⟩
abbrev c_Mo_variable : ByteArray := prog_10_method_52_code
def y_Mo_variable : MethodName := ⟨"FactFlowModel", "variable", "(I)I"⟩
abbrev c_Mo_outputs : ByteArray := prog_10_method_53_code
def y_Mo_outputs : MethodName := ⟨"FactFlowModel", "outputs", "()I"⟩
abbrev c_Mo_output : ByteArray := prog_10_method_54_code
def y_Mo_output : MethodName := ⟨"FactFlowModel", "output", "(I)I"⟩
/-- the words that every method may use: the tables', as far as they keep -/
def wsAll : List Cond := lw_tbl.filter goodWord
theorem ws_mem {w : Cond} (h : w ∈ lw_tbl) (g : goodWord w = true) : w ∈ wsAll := List.mem_filter.mpr ⟨h, g⟩
theorem ws_good {w : Cond} (h : w ∈ wsAll) : (w.onTables && w.keeps) = true ∨ ∃ ty, w = .arrayClass ty := good_of_word (List.mem_filter.mp h).2
theorem ws_g {c : Cond} {ws : List Cond} (h : ∀ w ∈ ws, w ∈ wsAll) : GoodIn (c :: wsAll) ws := fun w hw => ⟨List.mem_cons_of_mem _ (h w hw), ws_good (h w hw)⟩
theorem ws_gc {c w : Cond} (h : w ∈ wsAll) : GoodIn (c :: wsAll) (w :: wsAll) := ws_g (fun x hx => by
  rcases List.mem_cons.mp hx with e | e
  · rw [e]; exact h
  · exact e)
theorem ws_gV {c : Cond} {own C : String} {i m : Nat} {y : MethodName} {b : ByteArray} {r : Option FieldType} (h1 : Cond.methodLink own i y ∈ wsAll) (h2 : Cond.instanceMethod y ∈ wsAll) (h3 : Cond.selects C y y ∈ wsAll) (h4 : Cond.initialized C ∈ wsAll) (h5 : Cond.code y b m r ∈ wsAll) : GoodIn (c :: wsAll) (wsV own i C y (Cond.code y b m r :: wsAll)) := ws_g (fun x hx => by
  unfold wsV at hx
  rcases List.mem_append.mp hx with e | e
  · rcases List.mem_cons.mp e with e | e
    · rw [e]; exact h1
    · rcases List.mem_cons.mp e with e | e
      · rw [e]; exact h2
      · rcases List.mem_cons.mp e with e | e
        · rw [e]; exact h3
        · rcases List.mem_cons.mp e with e | e
          · rw [e]; exact h4
          · cases e
  · rcases List.mem_cons.mp e with e | e
    · rw [e]; exact h5
    · exact e)
theorem ws_gS {c : Cond} {own : String} {i m : Nat} {y : MethodName} {b : ByteArray} {r : Option FieldType} (h1 : Cond.methodLink own i y ∈ wsAll) (h2 : Cond.static y ∈ wsAll) (h3 : Cond.initialized y.cls ∈ wsAll) (h4 : Cond.code y b m r ∈ wsAll) : GoodIn (c :: wsAll) (va_wsS own i y (Cond.code y b m r :: wsAll)) := ws_g (fun x hx => by
  unfold va_wsS at hx
  rcases List.mem_append.mp hx with e | e
  · rcases List.mem_cons.mp e with e | e
    · rw [e]; exact h1
    · rcases List.mem_cons.mp e with e | e
      · rw [e]; exact h2
      · rcases List.mem_cons.mp e with e | e
        · rw [e]; exact h3
        · cases e
  · rcases List.mem_cons.mp e with e | e
    · rw [e]; exact h4
    · exact e)
theorem ws_in {c : Cond} {A : List Cond} (h : ∀ w ∈ A, w ∈ wsAll) : ∀ w ∈ A, w ∈ c :: wsAll := fun w hw => List.mem_cons_of_mem _ (h w hw)
theorem ws_1 {c w : Cond} (h : w ∈ wsAll) : w ∈ c :: wsAll := List.mem_cons_of_mem _ h
def ws_Ff_init : List Cond := Cond.code y_Ff_init c_Ff_init 1 none :: wsAll
def ws_Pr_init : List Cond := Cond.code y_Pr_init c_Pr_init 2 none :: wsAll
def ws_Fa_init : List Cond := Cond.code y_Fa_init c_Fa_init 1 none :: wsAll
def ws_In_init : List Cond := Cond.code y_In_init c_In_init 1 none :: wsAll
def ws_So_init : List Cond := Cond.code y_So_init c_So_init 2 none :: wsAll
def ws_St_init : List Cond := Cond.code y_St_init c_St_init 2 none :: wsAll
def ws_Ip_init : List Cond := Cond.code y_Ip_init c_Ip_init 1 none :: wsAll
def ws_Ma_init : List Cond := Cond.code y_Ma_init c_Ma_init 1 none :: wsAll
def ws_Ff_add : List Cond := Cond.code y_Ff_add c_Ff_add 6 (some .int) :: wsAll
def ws_In_isTold : List Cond := Cond.code y_In_isTold c_In_isTold 4 (some .boolean) :: wsAll
def ws_In_usesA : List Cond := Cond.code y_In_usesA c_In_usesA 1 (some .boolean) :: wsAll
def ws_Ff_isVariable : List Cond := Cond.code y_Ff_isVariable c_Ff_isVariable 1 (some .boolean) :: wsAll
def ws_In_usesB : List Cond := Cond.code y_In_usesB c_In_usesB 1 (some .boolean) :: wsAll
def ws_In_calculates : List Cond := Cond.code y_In_calculates c_In_calculates 1 (some .boolean) :: wsAll
def ws_In_jumps : List Cond := Cond.code y_In_jumps c_In_jumps 1 (some .boolean) :: wsAll
def ws_In_become : List Cond := Cond.code y_In_become c_In_become 5 none :: wsAll
def ws_In_usesC : List Cond := Cond.code y_In_usesC c_In_usesC 1 (some .boolean) :: wsAll
def ws_Ff_put : List Cond := Cond.code y_Ff_put c_Ff_put 6 (some .boolean) :: wsAll
def ws_Pr_has : List Cond := Cond.code y_Pr_has c_Pr_has 2 (some .boolean) :: wsAll
def ws_Ff_clear : List Cond := Cond.code y_Ff_clear c_Ff_clear 1 none :: wsAll
def ws_Ff_length : List Cond := Cond.code y_Ff_length c_Ff_length 1 (some .int) :: wsAll
def ws_Ff_code : List Cond := Cond.code y_Ff_code c_Ff_code 3 (some .int) :: wsAll
def ws_In_partOf : List Cond := Cond.code y_In_partOf c_In_partOf 2 (some .int) :: wsAll
def ws_Ff_reached : List Cond := Cond.code y_Ff_reached c_Ff_reached 2 (some .boolean) :: wsAll
def ws_So_find : List Cond := Cond.code y_So_find c_So_find 5 none :: wsAll
def ws_So_begin : List Cond := Cond.code y_So_begin c_So_begin 2 none :: wsAll
def ws_St_becomeZeros : List Cond := Cond.code y_St_becomeZeros c_St_becomeZeros 2 none :: wsAll
def ws_Fa_becomeNumber : List Cond := Cond.code y_Fa_becomeNumber c_Fa_becomeNumber 2 none :: wsAll
def ws_Fa_reduce : List Cond := Cond.code y_Fa_reduce c_Fa_reduce 1 none :: wsAll
def ws_So_carry : List Cond := Cond.code y_So_carry c_So_carry 4 none :: wsAll
def ws_St_becomeSame : List Cond := Cond.code y_St_becomeSame c_St_becomeSame 3 none :: wsAll
def ws_Fa_becomeSame : List Cond := Cond.code y_Fa_becomeSame c_Fa_becomeSame 2 none :: wsAll
def ws_So_arrive : List Cond := Cond.code y_So_arrive c_So_arrive 3 none :: wsAll
def ws_St_joinWith : List Cond := Cond.code y_St_joinWith c_St_joinWith 4 (some .boolean) :: wsAll
def ws_Fa_joinWith : List Cond := Cond.code y_Fa_joinWith c_Fa_joinWith 6 (some .boolean) :: wsAll
def ws_Ig_numberOfTrailingZeros : List Cond := Cond.code y_Ig_numberOfTrailingZeros c_Ig_numberOfTrailingZeros 2 (some .int) :: wsAll
def ws_Fa_lastBits : List Cond := Cond.code y_Fa_lastBits c_Fa_lastBits 2 (some .int) :: wsAll
def ws_In_jumpSigns : List Cond := Cond.code y_In_jumpSigns c_In_jumpSigns 1 (some .int) :: wsAll
def ws_St_keepSigns : List Cond := Cond.code y_St_keepSigns c_St_keepSigns 3 none :: wsAll
def ws_Fa_keepSigns : List Cond := Cond.code y_Fa_keepSigns c_Fa_keepSigns 2 none :: wsAll
def ws_St_goThrough : List Cond := Cond.code y_St_goThrough c_St_goThrough 2 none :: wsAll
def ws_Fa_becomeResult : List Cond := Cond.code y_Fa_becomeResult c_Fa_becomeResult 7 none :: wsAll
def ws_Fa_productBits : List Cond := Cond.code y_Fa_productBits c_Fa_productBits 5 (some .int) :: wsAll
def ws_Fa_otherBits : List Cond := Cond.code y_Fa_otherBits c_Fa_otherBits 4 (some .int) :: wsAll
def ws_Ff_calculated : List Cond := Cond.code y_Ff_calculated c_Ff_calculated 3 (some .int) :: wsAll
def ws_Fa_signTable : List Cond := Cond.code y_Fa_signTable c_Fa_signTable 1 (some (.array .int)) :: wsAll
def ws_Fa_resultSigns : List Cond := Cond.code y_Fa_resultSigns c_Fa_resultSigns 6 (some .int) :: wsAll
def ws_Fa_becomeAnything : List Cond := Cond.code y_Fa_becomeAnything c_Fa_becomeAnything 1 none :: wsAll
def ws_Ff_comesTo : List Cond := Cond.code y_Ff_comesTo c_Ff_comesTo 2 (some .boolean) :: wsAll
def ws_Ff_bits : List Cond := Cond.code y_Ff_bits c_Ff_bits 3 (some .int) :: wsAll
def ws_Ff_rest : List Cond := Cond.code y_Ff_rest c_Ff_rest 3 (some .int) :: wsAll
def ws_Ff_signs : List Cond := Cond.code y_Ff_signs c_Ff_signs 3 (some .int) :: wsAll
def ws_Ff_rewrite : List Cond := Cond.code y_Ff_rewrite c_Ff_rewrite 3 (some .int) :: wsAll
def ws_Pr_improve : List Cond := Cond.code y_Pr_improve c_Pr_improve 4 (some .boolean) :: wsAll
def ws_Pr_stopInstead : List Cond := Cond.code y_Pr_stopInstead c_Pr_stopInstead 1 (some .boolean) :: wsAll
def ws_Pr_goInstead : List Cond := Cond.code y_Pr_goInstead c_Pr_goInstead 5 (some .boolean) :: wsAll
def ws_Pr_setInstead : List Cond := Cond.code y_Pr_setInstead c_Pr_setInstead 2 (some .boolean) :: wsAll
def ws_Ff_input : List Cond := Cond.code y_Ff_input c_Ff_input 2 (some .boolean) :: wsAll
def ws_Ip_take : List Cond := Cond.code y_Ip_take c_Ip_take 2 (some .boolean) :: wsAll
def ws_Ff_dry : List Cond := Cond.code y_Ff_dry c_Ff_dry 1 none :: wsAll
def ws_Ff_run : List Cond := Cond.code y_Ff_run c_Ff_run 2 (some .int) :: wsAll
def ws_Ma_execute : List Cond := Cond.code y_Ma_execute c_Ma_execute 6 (some .int) :: wsAll
def ws_Ma_begin : List Cond := Cond.code y_Ma_begin c_Ma_begin 2 none :: wsAll
def ws_Ma_change : List Cond := Cond.code y_Ma_change c_Ma_change 3 none :: wsAll
def ws_Ip_numberOrZero : List Cond := Cond.code y_Ip_numberOrZero c_Ip_numberOrZero 2 (some .int) :: wsAll
def ws_Ma_print : List Cond := Cond.code y_Ma_print c_Ma_print 2 none :: wsAll
def ws_Ma_placeBehind : List Cond := Cond.code y_Ma_placeBehind c_Ma_placeBehind 3 (some .int) :: wsAll
def ws_Ff_steps : List Cond := Cond.code y_Ff_steps c_Ff_steps 1 (some .int) :: wsAll
def ws_Ff_next : List Cond := Cond.code y_Ff_next c_Ff_next 1 (some .int) :: wsAll
def ws_Ff_variable : List Cond := Cond.code y_Ff_variable c_Ff_variable 2 (some .int) :: wsAll
def ws_Ff_outputs : List Cond := Cond.code y_Ff_outputs c_Ff_outputs 1 (some .int) :: wsAll
def ws_Ff_output : List Cond := Cond.code y_Ff_output c_Ff_output 2 (some .int) :: wsAll
def ws_Mo_init : List Cond := Cond.code y_Mo_init c_Mo_init 1 none :: wsAll
def ws_Mo_add : List Cond := Cond.code y_Mo_add c_Mo_add 5 (some .int) :: wsAll
def ws_Mo_wrong : List Cond := Cond.code y_Mo_wrong c_Mo_wrong 5 (some .boolean) :: wsAll
def ws_Mo_usesFirst : List Cond := Cond.code y_Mo_usesFirst c_Mo_usesFirst 1 (some .boolean) :: wsAll
def ws_Mo_isVariable : List Cond := Cond.code y_Mo_isVariable c_Mo_isVariable 1 (some .boolean) :: wsAll
def ws_Mo_usesSecond : List Cond := Cond.code y_Mo_usesSecond c_Mo_usesSecond 1 (some .boolean) :: wsAll
def ws_Mo_jumps : List Cond := Cond.code y_Mo_jumps c_Mo_jumps 1 (some .boolean) :: wsAll
def ws_Mo_place : List Cond := Cond.code y_Mo_place c_Mo_place 10 (some .boolean) :: wsAll
def ws_Mo_usesThird : List Cond := Cond.code y_Mo_usesThird c_Mo_usesThird 1 (some .boolean) :: wsAll
def ws_Mo_put : List Cond := Cond.code y_Mo_put c_Mo_put 6 (some .boolean) :: wsAll
def ws_Mo_none : List Cond := Cond.code y_Mo_none c_Mo_none 2 (some .boolean) :: wsAll
def ws_Mo_clear : List Cond := Cond.code y_Mo_clear c_Mo_clear 1 none :: wsAll
def ws_Mo_length : List Cond := Cond.code y_Mo_length c_Mo_length 1 (some .int) :: wsAll
def ws_Mo_code : List Cond := Cond.code y_Mo_code c_Mo_code 3 (some .int) :: wsAll
def ws_Mo_reached : List Cond := Cond.code y_Mo_reached c_Mo_reached 2 (some .boolean) :: wsAll
def ws_Mo_solve : List Cond := Cond.code y_Mo_solve c_Mo_solve 2 none :: wsAll
def ws_Mo_result : List Cond := Cond.code y_Mo_result c_Mo_result 4 none :: wsAll
def ws_Mo_take : List Cond := Cond.code y_Mo_take c_Mo_take 2 none :: wsAll
def ws_Mo_join : List Cond := Cond.code y_Mo_join c_Mo_join 3 none :: wsAll
def ws_Mo_joinFact : List Cond := Cond.code y_Mo_joinFact c_Mo_joinFact 9 none :: wsAll
def ws_Mo_least : List Cond := Cond.code y_Mo_least c_Mo_least 2 (some .int) :: wsAll
def ws_Mo_zeros : List Cond := Cond.code y_Mo_zeros c_Mo_zeros 2 (some .int) :: wsAll
def ws_Mo_cut : List Cond := Cond.code y_Mo_cut c_Mo_cut 2 (some .int) :: wsAll
def ws_Mo_pass : List Cond := Cond.code y_Mo_pass c_Mo_pass 4 none :: wsAll
def ws_Mo_load : List Cond := Cond.code y_Mo_load c_Mo_load 3 none :: wsAll
def ws_Mo_only : List Cond := Cond.code y_Mo_only c_Mo_only 3 (some .boolean) :: wsAll
def ws_Mo_reduced : List Cond := Cond.code y_Mo_reduced c_Mo_reduced 1 (some .boolean) :: wsAll
def ws_Mo_sign : List Cond := Cond.code y_Mo_sign c_Mo_sign 1 (some .int) :: wsAll
def ws_Mo_worked : List Cond := Cond.code y_Mo_worked c_Mo_worked 4 (some .boolean) :: wsAll
def ws_Mo_reckon : List Cond := Cond.code y_Mo_reckon c_Mo_reckon 9 (some .boolean) :: wsAll
def ws_Mo_signsBy : List Cond := Cond.code y_Mo_signsBy c_Mo_signsBy 8 (some .int) :: wsAll
def ws_Mo_pairSigns : List Cond := Cond.code y_Mo_pairSigns c_Mo_pairSigns 3 (some .int) :: wsAll
def ws_Mo_sumSigns : List Cond := Cond.code y_Mo_sumSigns c_Mo_sumSigns 2 (some .int) :: wsAll
def ws_Mo_lessSigns : List Cond := Cond.code y_Mo_lessSigns c_Mo_lessSigns 2 (some .int) :: wsAll
def ws_Mo_partSigns : List Cond := Cond.code y_Mo_partSigns c_Mo_partSigns 2 (some .int) :: wsAll
def ws_Mo_divided : List Cond := Cond.code y_Mo_divided c_Mo_divided 2 (some .int) :: wsAll
def ws_Mo_bits : List Cond := Cond.code y_Mo_bits c_Mo_bits 3 (some .int) :: wsAll
def ws_Mo_untold : List Cond := Cond.code y_Mo_untold c_Mo_untold 3 (some .boolean) :: wsAll
def ws_Mo_rest : List Cond := Cond.code y_Mo_rest c_Mo_rest 3 (some .int) :: wsAll
def ws_Mo_signs : List Cond := Cond.code y_Mo_signs c_Mo_signs 3 (some .int) :: wsAll
def ws_Mo_rewrite : List Cond := Cond.code y_Mo_rewrite c_Mo_rewrite 3 (some .int) :: wsAll
def ws_Mo_written : List Cond := Cond.code y_Mo_written c_Mo_written 5 (some .boolean) :: wsAll
def ws_Mo_input : List Cond := Cond.code y_Mo_input c_Mo_input 2 (some .boolean) :: wsAll
def ws_Mo_dry : List Cond := Cond.code y_Mo_dry c_Mo_dry 1 none :: wsAll
def ws_Mo_run : List Cond := Cond.code y_Mo_run c_Mo_run 3 (some .int) :: wsAll
def ws_Mo_step : List Cond := Cond.code y_Mo_step c_Mo_step 6 (some .int) :: wsAll
def ws_Mo_worth : List Cond := Cond.code y_Mo_worth c_Mo_worth 4 (some .int) :: wsAll
def ws_Mo_read : List Cond := Cond.code y_Mo_read c_Mo_read 2 none :: wsAll
def ws_Mo_print : List Cond := Cond.code y_Mo_print c_Mo_print 2 none :: wsAll
def ws_Mo_steps : List Cond := Cond.code y_Mo_steps c_Mo_steps 1 (some .int) :: wsAll
def ws_Mo_next : List Cond := Cond.code y_Mo_next c_Mo_next 1 (some .int) :: wsAll
def ws_Mo_variable : List Cond := Cond.code y_Mo_variable c_Mo_variable 2 (some .int) :: wsAll
def ws_Mo_outputs : List Cond := Cond.code y_Mo_outputs c_Mo_outputs 1 (some .int) :: wsAll
def ws_Mo_output : List Cond := Cond.code y_Mo_output c_Mo_output 2 (some .int) :: wsAll
