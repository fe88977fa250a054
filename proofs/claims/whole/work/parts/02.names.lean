def R_Net : String := "CircuitDesk$Net"
def F_Net : u_T := fun k => match k with
  | 0 => ("CircuitDesk$Net", "gates", "I", false)
  | 1 => ("CircuitDesk$Net", "greatestDepth", "I", false)
  | 2 => ("CircuitDesk$Net", "pairs", "[I", true)
  | 3 => ("CircuitDesk$Net", "depths", "[I", true)
  | 4 => ("CircuitDesk$Net", "values", "[I", true)
  | 5 => ("CircuitDesk$Net", "slots", "[I", true)
  | _ => ("CircuitDesk$Net", "settled", "Z", false)
def t_Net : Nat → FieldType := fun k => match k with
  | 0 => .int
  | 1 => .int
  | 2 => .array .int
  | 3 => .array .int
  | 4 => .array .int
  | 5 => .array .int
  | _ => .boolean
abbrev w_Net : List Cond := u_ws R_Net F_Net 7
theorem n_Net : ∀ a, a < 7 → ∀ b, b < 7 → a ≠ b → (F_Net a).2.1 ≠ (F_Net b).2.1 := by decide +kernel
theorem t_Net_ok : ∀ k, k < 7 → parseFieldDescriptor (F_Net k).2.2.1 = some (t_Net k) := by decide +kernel
theorem i_Net : ∀ w ∈ w_Net, w ∈ lw_tbl ∧ goodWord w = true := by decide +kernel
def R_Sig : String := "CircuitDesk$Signals"
def F_Sig : u_T := fun k => match k with
  | 0 => ("CircuitDesk$Signals", "kind", "[I", true)
  | 1 => ("CircuitDesk$Signals", "width", "[I", true)
  | 2 => ("CircuitDesk$Signals", "resetWord", "[I", true)
  | 3 => ("CircuitDesk$Signals", "op", "[I", true)
  | 4 => ("CircuitDesk$Signals", "a", "[I", true)
  | 5 => ("CircuitDesk$Signals", "b", "[I", true)
  | 6 => ("CircuitDesk$Signals", "c", "[I", true)
  | _ => ("CircuitDesk$Signals", "size", "I", false)
def t_Sig : Nat → FieldType := fun k => match k with
  | 0 => .array .int
  | 1 => .array .int
  | 2 => .array .int
  | 3 => .array .int
  | 4 => .array .int
  | 5 => .array .int
  | 6 => .array .int
  | _ => .int
abbrev w_Sig : List Cond := u_ws R_Sig F_Sig 8
theorem n_Sig : ∀ a, a < 8 → ∀ b, b < 8 → a ≠ b → (F_Sig a).2.1 ≠ (F_Sig b).2.1 := by decide +kernel
theorem t_Sig_ok : ∀ k, k < 8 → parseFieldDescriptor (F_Sig k).2.2.1 = some (t_Sig k) := by decide +kernel
theorem i_Sig : ∀ w ∈ w_Sig, w ∈ lw_tbl ∧ goodWord w = true := by decide +kernel
def R_Stm : String := "CircuitDesk$Statements"
def F_Stm : u_T := fun k => match k with
  | 0 => ("CircuitDesk$Statements", "sort", "[I", true)
  | 1 => ("CircuitDesk$Statements", "subject", "[I", true)
  | 2 => ("CircuitDesk$Statements", "source", "[I", true)
  | 3 => ("CircuitDesk$Statements", "size", "I", false)
  | 4 => ("CircuitDesk$Statements", "openWhens", "I", false)
  | _ => ("CircuitDesk$Statements", "elseSeen", "[Z", true)
def t_Stm : Nat → FieldType := fun k => match k with
  | 0 => .array .int
  | 1 => .array .int
  | 2 => .array .int
  | 3 => .int
  | 4 => .int
  | _ => .array .boolean
abbrev w_Stm : List Cond := u_ws R_Stm F_Stm 6
theorem n_Stm : ∀ a, a < 6 → ∀ b, b < 6 → a ≠ b → (F_Stm a).2.1 ≠ (F_Stm b).2.1 := by decide +kernel
theorem t_Stm_ok : ∀ k, k < 6 → parseFieldDescriptor (F_Stm k).2.2.1 = some (t_Stm k) := by decide +kernel
theorem i_Stm : ∀ w ∈ w_Stm, w ∈ lw_tbl ∧ goodWord w = true := by decide +kernel
def R_Chk : String := "CircuitDesk$Checks"
def F_Chk : u_T := fun k => match k with
  | 0 => ("CircuitDesk$Checks", "restsAtOnce", "[I", true)
  | 1 => ("CircuitDesk$Checks", "signals", "LCircuitDesk$Signals;", true)
  | 2 => ("CircuitDesk$Checks", "statements", "LCircuitDesk$Statements;", true)
  | 3 => ("CircuitDesk$Checks", "restsOn", "[I", true)
  | 4 => ("CircuitDesk$Checks", "around", "[I", true)
  | 5 => ("CircuitDesk$Checks", "sureInPart", "[I", true)
  | _ => ("CircuitDesk$Checks", "sureInFirst", "[I", true)
def t_Chk : Nat → FieldType := fun k => match k with
  | 0 => .array .int
  | 1 => .object "CircuitDesk$Signals"
  | 2 => .object "CircuitDesk$Statements"
  | 3 => .array .int
  | 4 => .array .int
  | 5 => .array .int
  | _ => .array .int
abbrev w_Chk : List Cond := u_ws R_Chk F_Chk 7
theorem n_Chk : ∀ a, a < 7 → ∀ b, b < 7 → a ≠ b → (F_Chk a).2.1 ≠ (F_Chk b).2.1 := by decide +kernel
theorem t_Chk_ok : ∀ k, k < 7 → parseFieldDescriptor (F_Chk k).2.2.1 = some (t_Chk k) := by decide +kernel
theorem i_Chk : ∀ w ∈ w_Chk, w ∈ lw_tbl ∧ goodWord w = true := by decide +kernel
def R_Mkr : String := "CircuitDesk$NetMaker"
def F_Mkr : u_T := fun k => match k with
  | 0 => ("CircuitDesk$NetMaker", "bits", "[I", true)
  | 1 => ("CircuitDesk$NetMaker", "nextBits", "[I", true)
  | 2 => ("CircuitDesk$NetMaker", "signals", "LCircuitDesk$Signals;", true)
  | 3 => ("CircuitDesk$NetMaker", "statements", "LCircuitDesk$Statements;", true)
  | 4 => ("CircuitDesk$NetMaker", "checks", "LCircuitDesk$Checks;", true)
  | 5 => ("CircuitDesk$NetMaker", "net", "LCircuitDesk$Net;", true)
  | 6 => ("CircuitDesk$NetMaker", "sums", "[I", true)
  | 7 => ("CircuitDesk$NetMaker", "given", "[I", true)
  | 8 => ("CircuitDesk$NetMaker", "givenByFirst", "[I", true)
  | 9 => ("CircuitDesk$NetMaker", "condition", "[I", true)
  | _ => ("CircuitDesk$NetMaker", "inSecond", "[Z", true)
def t_Mkr : Nat → FieldType := fun k => match k with
  | 0 => .array .int
  | 1 => .array .int
  | 2 => .object "CircuitDesk$Signals"
  | 3 => .object "CircuitDesk$Statements"
  | 4 => .object "CircuitDesk$Checks"
  | 5 => .object "CircuitDesk$Net"
  | 6 => .array .int
  | 7 => .array .int
  | 8 => .array .int
  | 9 => .array .int
  | _ => .array .boolean
abbrev w_Mkr : List Cond := u_ws R_Mkr F_Mkr 11
theorem n_Mkr : ∀ a, a < 11 → ∀ b, b < 11 → a ≠ b → (F_Mkr a).2.1 ≠ (F_Mkr b).2.1 := by decide +kernel
theorem t_Mkr_ok : ∀ k, k < 11 → parseFieldDescriptor (F_Mkr k).2.2.1 = some (t_Mkr k) := by decide +kernel
theorem i_Mkr : ∀ w ∈ w_Mkr, w ∈ lw_tbl ∧ goodWord w = true := by decide +kernel
def R_Desk : String := "CircuitDesk"
def F_Desk : u_T := fun k => match k with
  | 0 => ("CircuitDesk", "signals", "LCircuitDesk$Signals;", true)
  | 1 => ("CircuitDesk", "statements", "LCircuitDesk$Statements;", true)
  | 2 => ("CircuitDesk", "checks", "LCircuitDesk$Checks;", true)
  | 3 => ("CircuitDesk", "net", "LCircuitDesk$Net;", true)
  | 4 => ("CircuitDesk", "maker", "LCircuitDesk$NetMaker;", true)
  | 5 => ("CircuitDesk", "nextWords", "[I", true)
  | 6 => ("CircuitDesk", "ready", "Z", false)
  | 7 => ("CircuitDesk", "faultySignal", "I", false)
  | _ => ("CircuitDesk", "clocksDone", "I", false)
def t_Desk : Nat → FieldType := fun k => match k with
  | 0 => .object "CircuitDesk$Signals"
  | 1 => .object "CircuitDesk$Statements"
  | 2 => .object "CircuitDesk$Checks"
  | 3 => .object "CircuitDesk$Net"
  | 4 => .object "CircuitDesk$NetMaker"
  | 5 => .array .int
  | 6 => .boolean
  | 7 => .int
  | _ => .int
abbrev w_Desk : List Cond := u_ws R_Desk F_Desk 9
theorem n_Desk : ∀ a, a < 9 → ∀ b, b < 9 → a ≠ b → (F_Desk a).2.1 ≠ (F_Desk b).2.1 := by decide +kernel
theorem t_Desk_ok : ∀ k, k < 9 → parseFieldDescriptor (F_Desk k).2.2.1 = some (t_Desk k) := by decide +kernel
theorem i_Desk : ∀ w ∈ w_Desk, w ∈ lw_tbl ∧ goodWord w = true := by decide +kernel
def R_Mod : String := "CircuitDeskModel"
def F_Mod : u_T := fun k => match k with
  | 0 => ("CircuitDeskModel", "kind", "[I", true)
  | 1 => ("CircuitDeskModel", "width", "[I", true)
  | 2 => ("CircuitDeskModel", "reset", "[I", true)
  | 3 => ("CircuitDeskModel", "op", "[I", true)
  | 4 => ("CircuitDeskModel", "a", "[I", true)
  | 5 => ("CircuitDeskModel", "b", "[I", true)
  | 6 => ("CircuitDeskModel", "c", "[I", true)
  | 7 => ("CircuitDeskModel", "held", "[I", true)
  | 8 => ("CircuitDeskModel", "signals", "I", false)
  | 9 => ("CircuitDeskModel", "sort", "[I", true)
  | 10 => ("CircuitDeskModel", "of", "[I", true)
  | 11 => ("CircuitDeskModel", "from", "[I", true)
  | 12 => ("CircuitDeskModel", "statements", "I", false)
  | 13 => ("CircuitDeskModel", "bit", "[I", true)
  | 14 => ("CircuitDeskModel", "done", "[Z", true)
  | 15 => ("CircuitDeskModel", "rests", "[Z", true)
  | 16 => ("CircuitDeskModel", "x", "[I", true)
  | 17 => ("CircuitDeskModel", "y", "[I", true)
  | 18 => ("CircuitDeskModel", "depth", "[I", true)
  | 19 => ("CircuitDeskModel", "isOne", "[Z", true)
  | 20 => ("CircuitDeskModel", "gates", "I", false)
  | 21 => ("CircuitDeskModel", "clocks", "I", false)
  | 22 => ("CircuitDeskModel", "where", "I", false)
  | 23 => ("CircuitDeskModel", "ready", "Z", false)
  | 24 => ("CircuitDeskModel", "before", "[I", true)
  | 25 => ("CircuitDeskModel", "first", "[I", true)
  | _ => ("CircuitDeskModel", "turned", "[Z", true)
def t_Mod : Nat → FieldType := fun k => match k with
  | 0 => .array .int
  | 1 => .array .int
  | 2 => .array .int
  | 3 => .array .int
  | 4 => .array .int
  | 5 => .array .int
  | 6 => .array .int
  | 7 => .array .int
  | 8 => .int
  | 9 => .array .int
  | 10 => .array .int
  | 11 => .array .int
  | 12 => .int
  | 13 => .array .int
  | 14 => .array .boolean
  | 15 => .array .boolean
  | 16 => .array .int
  | 17 => .array .int
  | 18 => .array .int
  | 19 => .array .boolean
  | 20 => .int
  | 21 => .int
  | 22 => .int
  | 23 => .boolean
  | 24 => .array .int
  | 25 => .array .int
  | _ => .array .boolean
abbrev w_Mod : List Cond := u_ws R_Mod F_Mod 27
theorem n_Mod : ∀ a, a < 27 → ∀ b, b < 27 → a ≠ b → (F_Mod a).2.1 ≠ (F_Mod b).2.1 := by decide +kernel
theorem t_Mod_ok : ∀ k, k < 27 → parseFieldDescriptor (F_Mod k).2.2.1 = some (t_Mod k) := by decide +kernel
theorem i_Mod : ∀ w ∈ w_Mod, w ∈ lw_tbl ∧ goodWord w = true := by decide +kernel
abbrev classes : List vw_C := [(R_Net, F_Net, 7), (R_Sig, F_Sig, 8), (R_Stm, F_Stm, 6), (R_Chk, F_Chk, 7), (R_Mkr, F_Mkr, 11), (R_Desk, F_Desk, 9), (R_Mod, F_Mod, 27)]
def R_Arr : String := "java/util/Arrays"
def lw_gw : List Cond := lw_tbl.filter goodWord
theorem mw (k : Nat) {w : Cond} (h : lw_tbl[k]? = some w) (hg : goodWord w = true) : w ∈ lw_gw := List.mem_filter.mpr ⟨List.mem_of_getElem? h, hg⟩
theorem mt (k : Nat) {w c0 : Cond} (h : lw_tbl[k]? = some w) (hg : goodWord w = true) : w ∈ c0 :: lw_gw := List.mem_cons_of_mem _ (mw k h hg)
theorem mt0 (k : Nat) {w : Cond} (h : lw_tbl[k]? = some w) : w ∈ lw_tbl := List.mem_of_getElem? h
theorem wi {ws : List Cond} {c0 : Cond} (h : ∀ w ∈ ws, w ∈ lw_tbl ∧ goodWord w = true) : ∀ w ∈ ws, w ∈ c0 :: lw_gw := fun w hw => List.mem_cons_of_mem _ (List.mem_filter.mpr (h w hw))
theorem gd_of {Ts ws : List Cond} (hT : ∀ w ∈ lw_gw, w ∈ Ts) (h : ∀ w ∈ ws, w ∈ lw_gw) : GoodIn Ts ws := fun w hw => ⟨hT w (h w hw), good_of_word (List.mem_filter.mp (h w hw)).2⟩
theorem in_tl {c0 : Cond} : ∀ w ∈ lw_gw, w ∈ c0 :: lw_gw := fun _ h => List.mem_cons_of_mem _ h
theorem in_tb : ∀ w ∈ lw_gw, w ∈ lw_tbl := fun _ h => (List.mem_filter.mp h).1
theorem gd_V {Ts : List Cond} (hT : ∀ w ∈ lw_gw, w ∈ Ts) {own C : String} {idx n : Nat} {y : MethodName} {b : ByteArray} {ret : Option FieldType} (h1 : Cond.methodLink own idx y ∈ lw_gw) (h2 : Cond.instanceMethod y ∈ lw_gw) (h3 : Cond.selects C y y ∈ lw_gw) (h4 : Cond.initialized C ∈ lw_gw) (h5 : Cond.code y b n ret ∈ lw_gw) : GoodIn Ts (wsV own idx C y (.code y b n ret :: lw_gw)) := by
  refine gd_of hT fun w hw => ?_
  unfold wsV at hw
  rcases List.mem_append.mp hw with hw | hw
  · simp only [List.mem_cons, List.not_mem_nil, or_false] at hw
    rcases hw with rfl | rfl | rfl | rfl
    · exact h1
    · exact h2
    · exact h3
    · exact h4
  · rcases List.mem_cons.mp hw with rfl | hw
    · exact h5
    · exact hw
theorem gd_S {Ts : List Cond} (hT : ∀ w ∈ lw_gw, w ∈ Ts) {own : String} {idx n : Nat} {y : MethodName} {b : ByteArray} {ret : Option FieldType} (h1 : Cond.methodLink own idx y ∈ lw_gw) (h2 : Cond.static y ∈ lw_gw) (h4 : Cond.initialized y.cls ∈ lw_gw) (h5 : Cond.code y b n ret ∈ lw_gw) : GoodIn Ts (va_wsS own idx y (.code y b n ret :: lw_gw)) := by
  refine gd_of hT fun w hw => ?_
  unfold va_wsS at hw
  rcases List.mem_append.mp hw with hw | hw
  · simp only [List.mem_cons, List.not_mem_nil, or_false] at hw
    rcases hw with rfl | rfl | rfl
    · exact h1
    · exact h2
    · exact h4
  · rcases List.mem_cons.mp hw with rfl | hw
    · exact h5
    · exact hw
theorem gd_N {Ts : List Cond} (hT : ∀ w ∈ lw_gw, w ∈ Ts) {n : Nat} {y : MethodName} {b : ByteArray} {ret : Option FieldType} (h5 : Cond.code y b n ret ∈ lw_gw) : GoodIn Ts (.code y b n ret :: lw_gw) := by
  refine gd_of hT fun w hw => ?_
  rcases List.mem_cons.mp hw with rfl | hw
  · exact h5
  · exact hw
