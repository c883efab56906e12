/-! THE PROGRAM: tables written by a program (wip/prog/gen_tables.py) out of the Statement's bytes and words -/
def vz_lk {α : Type} : List (Nat × α) → Nat → Option α
  | [], _ => none
  | q :: r, k => bif Nat.beq q.1 k then some q.2 else vz_lk r k
theorem vz_lk_mem {α : Type} {l : List (Nat × α)} {k : Nat} {a : α} (h : vz_lk l k = some a) : (k, a) ∈ l := by
  induction l with
  | nil => cases h
  | cons q r ih =>
    unfold vz_lk at h
    cases hb : Nat.beq q.1 k with
    | true =>
      rw [hb] at h
      have h : some q.2 = some a := h
      cases h
      have e : q.1 = k := Nat.eq_of_beq_eq_true hb
      subst e
      exact List.mem_cons_self
    | false =>
      rw [hb] at h
      exact List.mem_cons_of_mem _ (ih h)
def tc_0 : u_T := fun k => match k with
  | 0 => ("GameText", "words", "LGameText$Words;", true)
  | 1 => ("GameText", "parser", "LGameText$Parser;", true)
  | 2 => ("GameText", "checker", "LGameText$Checker;", true)
  | 3 => ("GameText", "graph", "LGameText$Graph;", true)
  | 4 => ("GameText", "explorer", "LGameText$Explorer;", true)
  | 5 => ("GameText", "text", "LGameText$Text;", false)
  | 6 => ("GameText", "spare", "LGameText$Text;", false)
  | 7 => ("GameText", "hasText", "Z", false)
  | 8 => ("GameText", "explored", "Z", false)
  | _ => ("GameText", "place", "I", false)
def tt_0 : Nat → FieldType := fun k => match k with
  | 0 => (.object "GameText$Words")
  | 1 => (.object "GameText$Parser")
  | 2 => (.object "GameText$Checker")
  | 3 => (.object "GameText$Graph")
  | 4 => (.object "GameText$Explorer")
  | 5 => (.object "GameText$Text")
  | 6 => (.object "GameText$Text")
  | 7 => .boolean
  | 8 => .boolean
  | _ => .int
def tc_1 : u_T := fun k => match k with
  | 0 => ("GameText$Words", "tape", "[I", false)
  | 1 => ("GameText$Words", "length", "I", false)
  | 2 => ("GameText$Words", "at", "I", false)
  | 3 => ("GameText$Words", "kind", "I", false)
  | 4 => ("GameText$Words", "start", "I", false)
  | 5 => ("GameText$Words", "size", "I", false)
  | _ => ("GameText$Words", "value", "I", false)
def tt_1 : Nat → FieldType := fun k => match k with
  | 0 => (.array .int)
  | 1 => .int
  | 2 => .int
  | 3 => .int
  | 4 => .int
  | 5 => .int
  | _ => .int
def tc_2 : u_T := fun k => match k with
  | 0 => ("GameText$Text", "code", "LGameText$Code;", true)
  | 1 => ("GameText$Text", "low", "[I", true)
  | 2 => ("GameText$Text", "high", "[I", true)
  | 3 => ("GameText$Text", "init", "[I", true)
  | 4 => ("GameText$Text", "kind", "[I", true)
  | 5 => ("GameText$Text", "formulaEnd", "[I", true)
  | 6 => ("GameText$Text", "commandNode", "[I", true)
  | 7 => ("GameText$Text", "vars", "I", false)
  | 8 => ("GameText$Text", "defined", "I", false)
  | 9 => ("GameText$Text", "formulas", "I", false)
  | 10 => ("GameText$Text", "commands", "I", false)
  | _ => ("GameText$Text", "target", "I", false)
def tt_2 : Nat → FieldType := fun k => match k with
  | 0 => (.object "GameText$Code")
  | 1 => (.array .int)
  | 2 => (.array .int)
  | 3 => (.array .int)
  | 4 => (.array .int)
  | 5 => (.array .int)
  | 6 => (.array .int)
  | 7 => .int
  | 8 => .int
  | 9 => .int
  | 10 => .int
  | _ => .int
def tc_3 : u_T := fun k => match k with
  | 0 => ("GameText$Code", "op", "[I", false)
  | 1 => ("GameText$Code", "place", "[I", false)
  | 2 => ("GameText$Code", "first", "[I", false)
  | 3 => ("GameText$Code", "second", "[I", false)
  | 4 => ("GameText$Code", "third", "[I", false)
  | 5 => ("GameText$Code", "kind", "[I", false)
  | 6 => ("GameText$Code", "above", "[I", false)
  | 7 => ("GameText$Code", "below", "[I", false)
  | _ => ("GameText$Code", "size", "I", false)
def tt_3 : Nat → FieldType := fun k => match k with
  | 0 => (.array .int)
  | 1 => (.array .int)
  | 2 => (.array .int)
  | 3 => (.array .int)
  | 4 => (.array .int)
  | 5 => (.array .int)
  | 6 => (.array .int)
  | 7 => (.array .int)
  | _ => .int
def tc_4 : u_T := fun k => match k with
  | 0 => ("GameText$Parser", "words", "LGameText$Words;", true)
  | 1 => ("GameText$Parser", "waits", "[I", true)
  | 2 => ("GameText$Parser", "waitPlace", "[I", true)
  | 3 => ("GameText$Parser", "waitLeft", "[I", true)
  | 4 => ("GameText$Parser", "waitMiddle", "[I", true)
  | 5 => ("GameText$Parser", "waitJump", "[I", true)
  | 6 => ("GameText$Parser", "height", "I", false)
  | 7 => ("GameText$Parser", "code", "LGameText$Code;", false)
  | 8 => ("GameText$Parser", "want", "I", false)
  | 9 => ("GameText$Parser", "role", "I", false)
  | 10 => ("GameText$Parser", "rulePlace", "I", false)
  | 11 => ("GameText$Parser", "ruleStart", "I", false)
  | 12 => ("GameText$Parser", "levels", "I", false)
  | 13 => ("GameText$Parser", "last", "I", false)
  | 14 => ("GameText$Parser", "head", "I", false)
  | 15 => ("GameText$Parser", "branch", "I", false)
  | _ => ("GameText$Parser", "openPlace", "I", false)
def tt_4 : Nat → FieldType := fun k => match k with
  | 0 => (.object "GameText$Words")
  | 1 => (.array .int)
  | 2 => (.array .int)
  | 3 => (.array .int)
  | 4 => (.array .int)
  | 5 => (.array .int)
  | 6 => .int
  | 7 => (.object "GameText$Code")
  | 8 => .int
  | 9 => .int
  | 10 => .int
  | 11 => .int
  | 12 => .int
  | 13 => .int
  | 14 => .int
  | 15 => .int
  | _ => .int
def tc_5 : u_T := fun k => match k with
  | 0 => ("GameText$Machine", "values", "[I", true)
  | 1 => ("GameText$Machine", "metIn", "[I", true)
  | 2 => ("GameText$Machine", "calls", "[I", true)
  | 3 => ("GameText$Machine", "text", "LGameText$Text;", false)
  | 4 => ("GameText$Machine", "code", "LGameText$Code;", false)
  | 5 => ("GameText$Machine", "round", "I", false)
  | 6 => ("GameText$Machine", "place", "I", false)
  | 7 => ("GameText$Machine", "above", "J", false)
  | _ => ("GameText$Machine", "below", "J", false)
def tt_5 : Nat → FieldType := fun k => match k with
  | 0 => (.array .int)
  | 1 => (.array .int)
  | 2 => (.array .int)
  | 3 => (.object "GameText$Text")
  | 4 => (.object "GameText$Code")
  | 5 => .int
  | 6 => .int
  | 7 => .long
  | _ => .long
def tc_6 : u_T := fun k => match k with
  | 0 => ("GameText$Checker", "names", "LGameText$Names;", true)
  | 1 => ("GameText$Checker", "machine", "LGameText$Machine;", true)
  | 2 => ("GameText$Checker", "text", "LGameText$Text;", false)
  | 3 => ("GameText$Checker", "code", "LGameText$Code;", false)
  | 4 => ("GameText$Checker", "place", "I", false)
  | 5 => ("GameText$Checker", "head", "I", false)
  | 6 => ("GameText$Checker", "rule", "I", false)
  | 7 => ("GameText$Checker", "low", "I", false)
  | 8 => ("GameText$Checker", "high", "I", false)
  | 9 => ("GameText$Checker", "init", "I", false)
  | 10 => ("GameText$Checker", "branch", "I", false)
  | 11 => ("GameText$Checker", "branches", "I", false)
  | _ => ("GameText$Checker", "set", "I", false)
def tt_6 : Nat → FieldType := fun k => match k with
  | 0 => (.object "GameText$Names")
  | 1 => (.object "GameText$Machine")
  | 2 => (.object "GameText$Text")
  | 3 => (.object "GameText$Code")
  | 4 => .int
  | 5 => .int
  | 6 => .int
  | 7 => .int
  | 8 => .int
  | 9 => .int
  | 10 => .int
  | 11 => .int
  | _ => .int
def tc_7 : u_T := fun k => match k with
  | 0 => ("GameText$Names", "words", "LGameText$Words;", true)
  | 1 => ("GameText$Names", "start", "[I", true)
  | 2 => ("GameText$Names", "size", "[I", true)
  | 3 => ("GameText$Names", "sort", "[I", true)
  | 4 => ("GameText$Names", "index", "[I", true)
  | _ => ("GameText$Names", "count", "I", false)
def tt_7 : Nat → FieldType := fun k => match k with
  | 0 => (.object "GameText$Words")
  | 1 => (.array .int)
  | 2 => (.array .int)
  | 3 => (.array .int)
  | 4 => (.array .int)
  | _ => .int
def tc_8 : u_T := fun k => match k with
  | 0 => ("GameText$Graph", "table", "[I", true)
  | 1 => ("GameText$Graph", "held", "[I", false)
  | 2 => ("GameText$Graph", "kinds", "[I", false)
  | 3 => ("GameText$Graph", "commandFrom", "[I", false)
  | 4 => ("GameText$Graph", "commandOf", "[I", false)
  | 5 => ("GameText$Graph", "branchFrom", "[I", false)
  | 6 => ("GameText$Graph", "to", "[I", false)
  | 7 => ("GameText$Graph", "above", "[I", false)
  | 8 => ("GameText$Graph", "below", "[I", false)
  | 9 => ("GameText$Graph", "vars", "I", false)
  | 10 => ("GameText$Graph", "states", "I", false)
  | 11 => ("GameText$Graph", "commands", "I", false)
  | _ => ("GameText$Graph", "branches", "I", false)
def tt_8 : Nat → FieldType := fun k => match k with
  | 0 => (.array .int)
  | 1 => (.array .int)
  | 2 => (.array .int)
  | 3 => (.array .int)
  | 4 => (.array .int)
  | 5 => (.array .int)
  | 6 => (.array .int)
  | 7 => (.array .int)
  | 8 => (.array .int)
  | 9 => .int
  | 10 => .int
  | 11 => .int
  | _ => .int
def tc_9 : u_T := fun k => match k with
  | 0 => ("GameText$Explorer", "machine", "LGameText$Machine;", true)
  | 1 => ("GameText$Explorer", "graph", "LGameText$Graph;", true)
  | 2 => ("GameText$Explorer", "chanceAbove", "[I", true)
  | 3 => ("GameText$Explorer", "chanceBelow", "[I", true)
  | 4 => ("GameText$Explorer", "goal", "[I", true)
  | 5 => ("GameText$Explorer", "text", "LGameText$Text;", false)
  | 6 => ("GameText$Explorer", "code", "LGameText$Code;", false)
  | 7 => ("GameText$Explorer", "fault", "I", false)
  | 8 => ("GameText$Explorer", "place", "I", false)
  | _ => ("GameText$Explorer", "state", "I", false)
def tt_9 : Nat → FieldType := fun k => match k with
  | 0 => (.object "GameText$Machine")
  | 1 => (.object "GameText$Graph")
  | 2 => (.array .int)
  | 3 => (.array .int)
  | 4 => (.array .int)
  | 5 => (.object "GameText$Text")
  | 6 => (.object "GameText$Code")
  | 7 => .int
  | 8 => .int
  | _ => .int
def tc_10 : u_T := fun k => match k with
  | 0 => ("GameTextModel", "thrown", "I", false)
  | 1 => ("GameTextModel", "tape", "LGameTextModel$Numbers;", false)
  | 2 => ("GameTextModel", "text", "LGameTextModel$Numbers;", false)
  | 3 => ("GameTextModel", "kinds", "LGameTextModel$Numbers;", true)
  | 4 => ("GameTextModel", "places", "LGameTextModel$Numbers;", true)
  | 5 => ("GameTextModel", "ends", "LGameTextModel$Numbers;", true)
  | 6 => ("GameTextModel", "wanted", "LGameTextModel$Numbers;", true)
  | 7 => ("GameTextModel", "levels", "I", false)
  | 8 => ("GameTextModel", "bad", "I", false)
  | 9 => ("GameTextModel", "game", "LGameTextModel$Game;", false)
  | 10 => ("GameTextModel", "draft", "LGameTextModel$Game;", false)
  | 11 => ("GameTextModel", "known", "Z", false)
  | 12 => ("GameTextModel", "wrong", "I", false)
  | 13 => ("GameTextModel", "nameWord", "LGameTextModel$Numbers;", true)
  | 14 => ("GameTextModel", "nameSort", "LGameTextModel$Numbers;", true)
  | 15 => ("GameTextModel", "nameIndex", "LGameTextModel$Numbers;", true)
  | 16 => ("GameTextModel", "fault", "I", false)
  | 17 => ("GameTextModel", "faultPlace", "I", false)
  | 18 => ("GameTextModel", "jobs", "LGameTextModel$Numbers;", true)
  | 19 => ("GameTextModel", "truths", "LGameTextModel$Numbers;", true)
  | 20 => ("GameTextModel", "looks", "LGameTextModel$Numbers;", true)
  | 21 => ("GameTextModel", "above", "[J", true)
  | 22 => ("GameTextModel", "below", "[J", true)
  | 23 => ("GameTextModel", "values", "I", false)
  | 24 => ("GameTextModel", "todo", "LGameTextModel$Numbers;", true)
  | 25 => ("GameTextModel", "now", "[I", true)
  | 26 => ("GameTextModel", "met", "[Z", true)
  | 27 => ("GameTextModel", "metAbove", "[J", true)
  | 28 => ("GameTextModel", "metBelow", "[J", true)
  | 29 => ("GameTextModel", "many", "I", false)
  | 30 => ("GameTextModel", "faultState", "I", false)
  | 31 => ("GameTextModel", "vars", "[I", true)
  | 32 => ("GameTextModel", "kindOf", "[I", true)
  | 33 => ("GameTextModel", "firstCommand", "[I", true)
  | 34 => ("GameTextModel", "manyCommands", "[I", true)
  | 35 => ("GameTextModel", "commandOf", "LGameTextModel$Numbers;", true)
  | 36 => ("GameTextModel", "firstBranch", "LGameTextModel$Numbers;", true)
  | 37 => ("GameTextModel", "manyBranches", "LGameTextModel$Numbers;", true)
  | 38 => ("GameTextModel", "ways", "I", false)
  | 39 => ("GameTextModel", "wayTo", "[I", true)
  | 40 => ("GameTextModel", "wayAbove", "[J", true)
  | 41 => ("GameTextModel", "wayBelow", "[J", true)
  | 42 => ("GameTextModel", "next", "[I", true)
  | 43 => ("GameTextModel", "chanceAbove", "[J", true)
  | _ => ("GameTextModel", "chanceBelow", "[J", true)
def tt_10 : Nat → FieldType := fun k => match k with
  | 0 => .int
  | 1 => (.object "GameTextModel$Numbers")
  | 2 => (.object "GameTextModel$Numbers")
  | 3 => (.object "GameTextModel$Numbers")
  | 4 => (.object "GameTextModel$Numbers")
  | 5 => (.object "GameTextModel$Numbers")
  | 6 => (.object "GameTextModel$Numbers")
  | 7 => .int
  | 8 => .int
  | 9 => (.object "GameTextModel$Game")
  | 10 => (.object "GameTextModel$Game")
  | 11 => .boolean
  | 12 => .int
  | 13 => (.object "GameTextModel$Numbers")
  | 14 => (.object "GameTextModel$Numbers")
  | 15 => (.object "GameTextModel$Numbers")
  | 16 => .int
  | 17 => .int
  | 18 => (.object "GameTextModel$Numbers")
  | 19 => (.object "GameTextModel$Numbers")
  | 20 => (.object "GameTextModel$Numbers")
  | 21 => (.array .long)
  | 22 => (.array .long)
  | 23 => .int
  | 24 => (.object "GameTextModel$Numbers")
  | 25 => (.array .int)
  | 26 => (.array .boolean)
  | 27 => (.array .long)
  | 28 => (.array .long)
  | 29 => .int
  | 30 => .int
  | 31 => (.array .int)
  | 32 => (.array .int)
  | 33 => (.array .int)
  | 34 => (.array .int)
  | 35 => (.object "GameTextModel$Numbers")
  | 36 => (.object "GameTextModel$Numbers")
  | 37 => (.object "GameTextModel$Numbers")
  | 38 => .int
  | 39 => (.array .int)
  | 40 => (.array .long)
  | 41 => (.array .long)
  | 42 => (.array .int)
  | 43 => (.array .long)
  | _ => (.array .long)
def tc_11 : u_T := fun k => match k with
  | 0 => ("GameTextModel$Numbers", "all", "[I", false)
  | _ => ("GameTextModel$Numbers", "size", "I", false)
def tt_11 : Nat → FieldType := fun k => match k with
  | 0 => (.array .int)
  | _ => .int
def tc_12 : u_T := fun k => match k with
  | 0 => ("GameTextModel$Game", "sort", "LGameTextModel$Numbers;", true)
  | 1 => ("GameTextModel$Game", "place", "LGameTextModel$Numbers;", true)
  | 2 => ("GameTextModel$Game", "from", "LGameTextModel$Numbers;", true)
  | 3 => ("GameTextModel$Game", "value", "LGameTextModel$Numbers;", true)
  | 4 => ("GameTextModel$Game", "firstPart", "LGameTextModel$Numbers;", true)
  | 5 => ("GameTextModel$Game", "nextPart", "LGameTextModel$Numbers;", true)
  | 6 => ("GameTextModel$Game", "rules", "I", false)
  | 7 => ("GameTextModel$Game", "isFormula", "[Z", true)
  | 8 => ("GameTextModel$Game", "isTruth", "[Z", true)
  | 9 => ("GameTextModel$Game", "rootOf", "[I", true)
  | 10 => ("GameTextModel$Game", "above", "[J", true)
  | 11 => ("GameTextModel$Game", "below", "[J", true)
  | 12 => ("GameTextModel$Game", "vars", "I", false)
  | 13 => ("GameTextModel$Game", "isBool", "[Z", true)
  | 14 => ("GameTextModel$Game", "least", "[I", true)
  | 15 => ("GameTextModel$Game", "greatest", "[I", true)
  | 16 => ("GameTextModel$Game", "begin", "[I", true)
  | 17 => ("GameTextModel$Game", "target", "I", false)
  | 18 => ("GameTextModel$Game", "commands", "I", false)
  | 19 => ("GameTextModel$Game", "isMin", "[Z", true)
  | 20 => ("GameTextModel$Game", "commandPlace", "[I", true)
  | 21 => ("GameTextModel$Game", "guard", "[I", true)
  | 22 => ("GameTextModel$Game", "branches", "[I", true)
  | 23 => ("GameTextModel$Game", "chance", "[I", true)
  | 24 => ("GameTextModel$Game", "branchPlace", "[I", true)
  | 25 => ("GameTextModel$Game", "firstSet", "[I", true)
  | 26 => ("GameTextModel$Game", "manySets", "[I", true)
  | 27 => ("GameTextModel$Game", "setVar", "LGameTextModel$Numbers;", true)
  | 28 => ("GameTextModel$Game", "setPlace", "LGameTextModel$Numbers;", true)
  | _ => ("GameTextModel$Game", "setRule", "LGameTextModel$Numbers;", true)
def tt_12 : Nat → FieldType := fun k => match k with
  | 0 => (.object "GameTextModel$Numbers")
  | 1 => (.object "GameTextModel$Numbers")
  | 2 => (.object "GameTextModel$Numbers")
  | 3 => (.object "GameTextModel$Numbers")
  | 4 => (.object "GameTextModel$Numbers")
  | 5 => (.object "GameTextModel$Numbers")
  | 6 => .int
  | 7 => (.array .boolean)
  | 8 => (.array .boolean)
  | 9 => (.array .int)
  | 10 => (.array .long)
  | 11 => (.array .long)
  | 12 => .int
  | 13 => (.array .boolean)
  | 14 => (.array .int)
  | 15 => (.array .int)
  | 16 => (.array .int)
  | 17 => .int
  | 18 => .int
  | 19 => (.array .boolean)
  | 20 => (.array .int)
  | 21 => (.array .int)
  | 22 => (.array .int)
  | 23 => (.array .int)
  | 24 => (.array .int)
  | 25 => (.array .int)
  | 26 => (.array .int)
  | 27 => (.object "GameTextModel$Numbers")
  | 28 => (.object "GameTextModel$Numbers")
  | _ => (.object "GameTextModel$Numbers")
def tb_cl : List vw_C := [("GameText", tc_0, 10), ("GameText$Words", tc_1, 7), ("GameText$Text", tc_2, 12), ("GameText$Code", tc_3, 9), ("GameText$Parser", tc_4, 17), ("GameText$Machine", tc_5, 9), ("GameText$Checker", tc_6, 13), ("GameText$Names", tc_7, 6), ("GameText$Graph", tc_8, 13), ("GameText$Explorer", tc_9, 10), ("GameTextModel", tc_10, 45), ("GameTextModel$Numbers", tc_11, 2), ("GameTextModel$Game", tc_12, 30)]
abbrev tb_M : Type := String × Nat × Bool × ByteArray × Nat × Option FieldType × MethodName
abbrev tb_E : Type := tb_M × List (Nat × Instr × Nat) × List (Nat × (Nat × Nat × FieldType × Bool)) × List (Nat × (Nat × Nat × Nat)) × List (Nat × (Nat × List Value)) × List (Nat × Value) × List (Nat × String) × List (Nat × (String × Nat × Nat))
/-- GameTextLaw.law([I)Z -/
def tE_0 : tb_E := (("GameTextLaw", 99, false, code, 7, (some .boolean), ⟨"GameTextLaw", "law", "([I)Z"⟩),
  [(0, .new 8, 3), (3, .dup, 1), (4, .invokespecial 27, 3), (7, .astore_n 1, 1), (8, .new 28, 3), (11, .dup, 1), (12, .invokespecial 30, 3), (15, .astore_n 2, 1), (16, .iconst 1, 1), (17, .newarray .long, 2), (19, .astore_n 3, 1), (20, .iconst 0, 1), (21, .istore 4, 2), (23, .iload 4, 2), (25, .aload_n 0, 1), (26, .arraylength, 1), (27, .bipush 6, 2), (29, .isub, 1), (30, .if_icmp .gt 591, 3), (33, .aload_n 0, 1), (34, .iload 4, 2), (36, .iaload, 1), (37, .bipush 15, 2), (39, .iand, 1), (40, .tableswitch 575 0 13 #[72, 145, 201, 214, 227, 252, 296, 309, 322, 390, 415, 440, 477, 514], 72), (112, .aload_n 1, 1), (113, .aload_n 0, 1), (114, .iload 4, 2), (116, .iconst 1, 1), (117, .iadd, 1), (118, .iaload, 1), (119, .aload_n 0, 1), (120, .iload 4, 2), (122, .iconst 2, 1), (123, .iadd, 1), (124, .iaload, 1), (125, .aload_n 0, 1), (126, .iload 4, 2), (128, .iconst 3, 1), (129, .iadd, 1), (130, .iaload, 1), (131, .aload_n 0, 1), (132, .iload 4, 2), (134, .iconst 4, 1), (135, .iadd, 1), (136, .iaload, 1), (137, .aload_n 0, 1), (138, .iload 4, 2), (140, .iconst 5, 1), (141, .iadd, 1), (142, .iaload, 1), (143, .invokevirtual 31, 3), (146, .aload_n 2, 1), (147, .aload_n 0, 1), (148, .iload 4, 2), (150, .iconst 1, 1), (151, .iadd, 1), (152, .iaload, 1), (153, .aload_n 0, 1), (154, .iload 4, 2), (156, .iconst 2, 1), (157, .iadd, 1), (158, .iaload, 1), (159, .aload_n 0, 1), (160, .iload 4, 2), (162, .iconst 3, 1), (163, .iadd, 1), (164, .iaload, 1), (165, .aload_n 0, 1), (166, .iload 4, 2), (168, .iconst 4, 1), (169, .iadd, 1), (170, .iaload, 1), (171, .aload_n 0, 1), (172, .iload 4, 2), (174, .iconst 5, 1), (175, .iadd, 1), (176, .iaload, 1), (177, .invokevirtual 35, 3), (180, .if_icmp .eq 435, 3), (183, .iconst 0, 1), (184, .ireturn, 1), (185, .aload_n 1, 1), (186, .aload_n 0, 1), (187, .iload 4, 2), (189, .iconst 1, 1), (190, .iadd, 1), (191, .iaload, 1), (192, .aload_n 3, 1), (193, .invokestatic 36, 3), (196, .istore 5, 2), (198, .aload_n 2, 1), (199, .aload_n 0, 1), (200, .iload 4, 2), (202, .iconst 1, 1), (203, .iadd, 1), (204, .iaload, 1), (205, .invokevirtual 41, 3), (208, .istore 6, 2), (210, .aload_n 2, 1), (211, .invokevirtual 42, 3), (214, .iload 5, 2), (216, .if_icmp .eq 5, 3), (219, .iconst 0, 1), (220, .ireturn, 1), (221, .iload 5, 2), (223, .ifCond .ne 15, 3), (226, .aload_n 3, 1), (227, .iconst 0, 1), (228, .laload, 1), (229, .iload 6, 2), (231, .i2l, 1), (232, .lcmp, 1), (233, .ifCond .eq 5, 3), (236, .iconst 0, 1), (237, .ireturn, 1), (238, .goto 377, 3), (241, .aload_n 1, 1), (242, .invokevirtual 45, 3), (245, .aload_n 2, 1), (246, .invokevirtual 48, 3), (249, .if_icmp .eq 366, 3), (252, .iconst 0, 1), (253, .ireturn, 1), (254, .aload_n 1, 1), (255, .invokevirtual 49, 3), (258, .aload_n 2, 1), (259, .invokevirtual 52, 3), (262, .if_icmp .eq 353, 3), (265, .iconst 0, 1), (266, .ireturn, 1), (267, .aload_n 1, 1), (268, .aload_n 0, 1), (269, .iload 4, 2), (271, .iconst 1, 1), (272, .iadd, 1), (273, .iaload, 1), (274, .invokevirtual 53, 3), (277, .aload_n 2, 1), (278, .aload_n 0, 1), (279, .iload 4, 2), (281, .iconst 1, 1), (282, .iadd, 1), (283, .iaload, 1), (284, .invokevirtual 56, 3), (287, .if_icmp .eq 328, 3), (290, .iconst 0, 1), (291, .ireturn, 1), (292, .aload_n 1, 1), (293, .aload_n 3, 1), (294, .invokestatic 57, 3), (297, .istore 5, 2), (299, .aload_n 2, 1), (300, .invokevirtual 60, 3), (303, .istore 6, 2), (305, .aload_n 2, 1), (306, .invokevirtual 42, 3), (309, .iload 5, 2), (311, .if_icmp .eq 5, 3), (314, .iconst 0, 1), (315, .ireturn, 1), (316, .iload 5, 2), (318, .ifCond .ne 15, 3), (321, .aload_n 3, 1), (322, .iconst 0, 1), (323, .laload, 1), (324, .iload 6, 2), (326, .i2l, 1), (327, .lcmp, 1), (328, .ifCond .eq 5, 3), (331, .iconst 0, 1), (332, .ireturn, 1), (333, .goto 282, 3), (336, .aload_n 1, 1), (337, .invokevirtual 61, 3), (340, .aload_n 2, 1), (341, .invokevirtual 64, 3), (344, .if_icmp .eq 271, 3), (347, .iconst 0, 1), (348, .ireturn, 1), (349, .aload_n 1, 1), (350, .invokevirtual 65, 3), (353, .aload_n 2, 1), (354, .invokevirtual 68, 3), (357, .if_icmp .eq 258, 3), (360, .iconst 0, 1), (361, .ireturn, 1), (362, .aload_n 1, 1), (363, .aload_n 0, 1), (364, .iload 4, 2), (366, .iconst 1, 1), (367, .iadd, 1), (368, .iaload, 1), (369, .aload_n 0, 1), (370, .iload 4, 2), (372, .iconst 2, 1), (373, .iadd, 1), (374, .iaload, 1), (375, .aload_n 3, 1), (376, .invokestatic 69, 3), (379, .istore 5, 2), (381, .aload_n 2, 1), (382, .aload_n 0, 1), (383, .iload 4, 2), (385, .iconst 1, 1), (386, .iadd, 1), (387, .iaload, 1), (388, .aload_n 0, 1), (389, .iload 4, 2), (391, .iconst 2, 1), (392, .iadd, 1), (393, .iaload, 1), (394, .invokevirtual 72, 3), (397, .istore 6, 2), (399, .aload_n 2, 1), (400, .invokevirtual 42, 3), (403, .iload 5, 2), (405, .if_icmp .eq 5, 3), (408, .iconst 0, 1), (409, .ireturn, 1), (410, .iload 5, 2), (412, .ifCond .ne 15, 3), (415, .aload_n 3, 1), (416, .iconst 0, 1), (417, .laload, 1), (418, .iload 6, 2), (420, .i2l, 1), (421, .lcmp, 1), (422, .ifCond .eq 5, 3), (425, .iconst 0, 1), (426, .ireturn, 1), (427, .goto 188, 3), (430, .aload_n 1, 1), (431, .aload_n 0, 1), (432, .iload 4, 2), (434, .iconst 1, 1), (435, .iadd, 1), (436, .iaload, 1), (437, .invokevirtual 73, 3), (440, .aload_n 2, 1), (441, .aload_n 0, 1), (442, .iload 4, 2), (444, .iconst 1, 1), (445, .iadd, 1), (446, .iaload, 1), (447, .invokevirtual 76, 3), (450, .if_icmp .eq 165, 3), (453, .iconst 0, 1), (454, .ireturn, 1), (455, .aload_n 1, 1), (456, .aload_n 0, 1), (457, .iload 4, 2), (459, .iconst 1, 1), (460, .iadd, 1), (461, .iaload, 1), (462, .invokevirtual 77, 3), (465, .aload_n 2, 1), (466, .aload_n 0, 1), (467, .iload 4, 2), (469, .iconst 1, 1), (470, .iadd, 1), (471, .iaload, 1), (472, .invokevirtual 80, 3), (475, .if_icmp .eq 140, 3), (478, .iconst 0, 1), (479, .ireturn, 1), (480, .aload_n 1, 1), (481, .aload_n 0, 1), (482, .iload 4, 2), (484, .iconst 1, 1), (485, .iadd, 1), (486, .iaload, 1), (487, .aload_n 0, 1), (488, .iload 4, 2), (490, .iconst 2, 1), (491, .iadd, 1), (492, .iaload, 1), (493, .invokevirtual 81, 3), (496, .aload_n 2, 1), (497, .aload_n 0, 1), (498, .iload 4, 2), (500, .iconst 1, 1), (501, .iadd, 1), (502, .iaload, 1), (503, .aload_n 0, 1), (504, .iload 4, 2), (506, .iconst 2, 1), (507, .iadd, 1), (508, .iaload, 1), (509, .invokevirtual 84, 3), (512, .if_icmp .eq 103, 3), (515, .iconst 0, 1), (516, .ireturn, 1), (517, .aload_n 1, 1), (518, .aload_n 0, 1), (519, .iload 4, 2), (521, .iconst 1, 1), (522, .iadd, 1), (523, .iaload, 1), (524, .aload_n 0, 1), (525, .iload 4, 2), (527, .iconst 2, 1), (528, .iadd, 1), (529, .iaload, 1), (530, .invokevirtual 85, 3), (533, .aload_n 2, 1), (534, .aload_n 0, 1), (535, .iload 4, 2), (537, .iconst 1, 1), (538, .iadd, 1), (539, .iaload, 1), (540, .aload_n 0, 1), (541, .iload 4, 2), (543, .iconst 2, 1), (544, .iadd, 1), (545, .iaload, 1), (546, .invokevirtual 88, 3), (549, .if_icmp .eq 66, 3), (552, .iconst 0, 1), (553, .ireturn, 1), (554, .aload_n 1, 1), (555, .aload_n 0, 1), (556, .iload 4, 2), (558, .iconst 1, 1), (559, .iadd, 1), (560, .iaload, 1), (561, .aload_n 0, 1), (562, .iload 4, 2), (564, .iconst 2, 1), (565, .iadd, 1), (566, .iaload, 1), (567, .aload_n 0, 1), (568, .iload 4, 2), (570, .iconst 3, 1), (571, .iadd, 1), (572, .iaload, 1), (573, .aload_n 0, 1), (574, .iload 4, 2), (576, .iconst 4, 1), (577, .iadd, 1), (578, .iaload, 1), (579, .invokevirtual 89, 3), (582, .aload_n 2, 1), (583, .aload_n 0, 1), (584, .iload 4, 2), (586, .iconst 1, 1), (587, .iadd, 1), (588, .iaload, 1), (589, .aload_n 0, 1), (590, .iload 4, 2), (592, .iconst 2, 1), (593, .iadd, 1), (594, .iaload, 1), (595, .aload_n 0, 1), (596, .iload 4, 2), (598, .iconst 3, 1), (599, .iadd, 1), (600, .iaload, 1), (601, .aload_n 0, 1), (602, .iload 4, 2), (604, .iconst 4, 1), (605, .iadd, 1), (606, .iaload, 1), (607, .invokevirtual 93, 3), (610, .if_icmp .eq 5, 3), (613, .iconst 0, 1), (614, .ireturn, 1), (615, .iinc 4 6, 3), (618, .goto (-595), 3), (621, .iconst 1, 1), (622, .ireturn, 1)],
  [],
  [(27, 2, 1, 0), (30, 2, 127, 0), (31, 1, 11, 5), (35, 1, 131, 5), (36, 9, 104, 3), (41, 1, 134, 1), (42, 1, 130, 0), (45, 1, 15, 0), (48, 1, 135, 0), (49, 1, 92, 0), (52, 1, 208, 0), (53, 1, 93, 1), (56, 1, 209, 1), (57, 9, 106, 2), (60, 1, 210, 0), (61, 1, 94, 0), (64, 1, 220, 0), (65, 1, 95, 0), (68, 1, 221, 0), (69, 9, 125, 4), (72, 1, 222, 2), (73, 1, 96, 1), (76, 1, 223, 1), (77, 1, 98, 1), (80, 1, 225, 1), (81, 1, 99, 2), (84, 1, 226, 2), (85, 1, 101, 2), (88, 1, 228, 2), (89, 1, 102, 4), (93, 1, 229, 4)],
  [(8, 0, [.null, .null, .null, .null, .null, .null, .null, .int 0, .int 0, .int 0]), (28, 10, [.int 0, .null, .null, .null, .null, .null, .null, .int 0, .int 0, .null, .null, .int 0, .int 0, .null, .null, .null, .int 0, .int 0, .null, .null, .null, .null, .null, .int 0, .null, .null, .null, .null, .null, .int 0, .int 0, .null, .null, .null, .null, .null, .null, .null, .int 0, .null, .null, .null, .null, .null, .null])],
  [],
  [],
  [])
/-- GameText.<init>()V -/
def tE_1 : tb_E := (("GameText", 0, true, prog_1_method_1_code, 2, none, ⟨"GameText", "<init>", "()V"⟩),
  [(0, .aload_n 0, 1), (1, .invokespecial 1, 3), (4, .aload_n 0, 1), (5, .new 7, 3), (8, .dup, 1), (9, .invokespecial 9, 3), (12, .putfield 10, 3), (15, .aload_n 0, 1), (16, .new 16, 3), (19, .dup, 1), (20, .invokespecial 18, 3), (23, .putfield 19, 3), (26, .aload_n 0, 1), (27, .new 16, 3), (30, .dup, 1), (31, .invokespecial 18, 3), (34, .putfield 23, 3), (37, .aload_n 0, 1), (38, .new 26, 3), (41, .dup, 1), (42, .aload_n 0, 1), (43, .getfield 10, 3), (46, .aload_n 0, 1), (47, .getfield 23, 3), (50, .getfield 28, 3), (53, .invokespecial 32, 3), (56, .putfield 35, 3), (59, .new 39, 3), (62, .dup, 1), (63, .aload_n 0, 1), (64, .getfield 23, 3), (67, .invokespecial 41, 3), (70, .astore_n 1, 1), (71, .aload_n 0, 1), (72, .new 44, 3), (75, .dup, 1), (76, .aload_n 0, 1), (77, .getfield 10, 3), (80, .aload_n 1, 1), (81, .aload_n 0, 1), (82, .getfield 23, 3), (85, .invokespecial 46, 3), (88, .putfield 49, 3), (91, .aload_n 0, 1), (92, .new 53, 3), (95, .dup, 1), (96, .invokespecial 55, 3), (99, .putfield 56, 3), (102, .aload_n 0, 1), (103, .new 60, 3), (106, .dup, 1), (107, .aload_n 1, 1), (108, .aload_n 0, 1), (109, .getfield 56, 3), (112, .aload_n 0, 1), (113, .getfield 19, 3), (116, .invokespecial 62, 3), (119, .putfield 65, 3), (122, .aload_n 0, 1), (123, .iconst 0, 1), (124, .putfield 69, 3), (127, .aload_n 0, 1), (128, .iconst 0, 1), (129, .putfield 73, 3), (132, .aload_n 0, 1), (133, .iconst (-1), 1), (134, .putfield 76, 3), (137, .return_, 1)],
  [(10, 0, 0, (.object "GameText$Words"), true), (19, 0, 5, (.object "GameText$Text"), false), (23, 0, 6, (.object "GameText$Text"), false), (28, 2, 0, (.object "GameText$Code"), true), (35, 0, 1, (.object "GameText$Parser"), true), (49, 0, 2, (.object "GameText$Checker"), true), (56, 0, 3, (.object "GameText$Graph"), true), (65, 0, 4, (.object "GameText$Explorer"), true), (69, 0, 7, .boolean, false), (73, 0, 8, .boolean, false), (76, 0, 9, .int, false)],
  [(1, 3, 0, 0), (9, 2, 2, 0), (18, 2, 3, 0), (32, 2, 5, 2), (41, 2, 6, 1), (46, 2, 7, 3), (55, 2, 9, 0), (62, 2, 10, 3)],
  [(7, 1, [.null, .int 0, .int 0, .int 0, .int 0, .int 0, .int 0]), (16, 2, [.null, .null, .null, .null, .null, .null, .null, .int 0, .int 0, .int 0, .int 0, .int 0]), (26, 4, [.null, .null, .null, .null, .null, .null, .int 0, .null, .int 0, .int 0, .int 0, .int 0, .int 0, .int 0, .int 0, .int 0, .int 0]), (39, 5, [.null, .null, .null, .null, .null, .int 0, .int 0, .long 0, .long 0]), (44, 6, [.null, .null, .null, .null, .int 0, .int 0, .int 0, .int 0, .int 0, .int 0, .int 0, .int 0, .int 0]), (53, 8, [.null, .null, .null, .null, .null, .null, .null, .null, .null, .int 0, .int 0, .int 0, .int 0]), (60, 9, [.null, .null, .null, .null, .null, .null, .null, .int 0, .int 0, .int 0])],
  [],
  [],
  [])
/-- GameText$Words.<init>()V -/
def tE_2 : tb_E := (("GameText$Words", 1, true, prog_10_method_1_code, 1, none, ⟨"GameText$Words", "<init>", "()V"⟩),
  [(0, .aload_n 0, 1), (1, .invokespecial 3, 3), (4, .aload_n 0, 1), (5, .sipush 256, 3), (8, .newarray .int, 2), (10, .putfield 9, 3), (13, .aload_n 0, 1), (14, .iconst 0, 1), (15, .putfield 15, 3), (18, .aload_n 0, 1), (19, .iconst 0, 1), (20, .putfield 19, 3), (23, .aload_n 0, 1), (24, .sipush 264, 3), (27, .putfield 22, 3), (30, .aload_n 0, 1), (31, .iconst 0, 1), (32, .putfield 25, 3), (35, .aload_n 0, 1), (36, .iconst 0, 1), (37, .putfield 28, 3), (40, .aload_n 0, 1), (41, .iconst 0, 1), (42, .putfield 31, 3), (45, .return_, 1)],
  [(9, 1, 0, (.array .int), false), (15, 1, 1, .int, false), (19, 1, 2, .int, false), (22, 1, 3, .int, false), (25, 1, 4, .int, false), (28, 1, 5, .int, false), (31, 1, 6, .int, false)],
  [(3, 3, 0, 0)],
  [],
  [],
  [],
  [])
/-- GameText$Text.<init>()V -/
def tE_3 : tb_E := (("GameText$Text", 2, true, prog_9_method_1_code, 1, none, ⟨"GameText$Text", "<init>", "()V"⟩),
  [(0, .aload_n 0, 1), (1, .invokespecial 3, 3), (4, .aload_n 0, 1), (5, .new 9, 3), (8, .dup, 1), (9, .invokespecial 11, 3), (12, .putfield 12, 3), (15, .aload_n 0, 1), (16, .bipush 12, 2), (18, .newarray .int, 2), (20, .putfield 18, 3), (23, .aload_n 0, 1), (24, .bipush 12, 2), (26, .newarray .int, 2), (28, .putfield 22, 3), (31, .aload_n 0, 1), (32, .bipush 12, 2), (34, .newarray .int, 2), (36, .putfield 25, 3), (39, .aload_n 0, 1), (40, .bipush 12, 2), (42, .newarray .int, 2), (44, .putfield 28, 3), (47, .aload_n 0, 1), (48, .bipush 60, 2), (50, .newarray .int, 2), (52, .putfield 31, 3), (55, .aload_n 0, 1), (56, .bipush 60, 2), (58, .newarray .int, 2), (60, .putfield 34, 3), (63, .aload_n 0, 1), (64, .iconst 0, 1), (65, .putfield 37, 3), (68, .aload_n 0, 1), (69, .iconst 0, 1), (70, .putfield 41, 3), (73, .aload_n 0, 1), (74, .iconst 0, 1), (75, .putfield 44, 3), (78, .aload_n 0, 1), (79, .iconst 0, 1), (80, .putfield 47, 3), (83, .aload_n 0, 1), (84, .iconst (-1), 1), (85, .putfield 50, 3), (88, .return_, 1)],
  [(12, 2, 0, (.object "GameText$Code"), true), (18, 2, 1, (.array .int), true), (22, 2, 2, (.array .int), true), (25, 2, 3, (.array .int), true), (28, 2, 4, (.array .int), true), (31, 2, 5, (.array .int), true), (34, 2, 6, (.array .int), true), (37, 2, 7, .int, false), (41, 2, 8, .int, false), (44, 2, 9, .int, false), (47, 2, 10, .int, false), (50, 2, 11, .int, false)],
  [(3, 3, 0, 0), (11, 2, 4, 0)],
  [(9, 3, [.null, .null, .null, .null, .null, .null, .null, .null, .int 0])],
  [],
  [],
  [])
/-- GameText$Code.<init>()V -/
def tE_4 : tb_E := (("GameText$Code", 3, true, prog_3_method_1_code, 1, none, ⟨"GameText$Code", "<init>", "()V"⟩),
  [(0, .aload_n 0, 1), (1, .invokespecial 3, 3), (4, .aload_n 0, 1), (5, .bipush 64, 2), (7, .newarray .int, 2), (9, .putfield 9, 3), (12, .aload_n 0, 1), (13, .bipush 64, 2), (15, .newarray .int, 2), (17, .putfield 15, 3), (20, .aload_n 0, 1), (21, .bipush 64, 2), (23, .newarray .int, 2), (25, .putfield 18, 3), (28, .aload_n 0, 1), (29, .bipush 64, 2), (31, .newarray .int, 2), (33, .putfield 21, 3), (36, .aload_n 0, 1), (37, .bipush 64, 2), (39, .newarray .int, 2), (41, .putfield 24, 3), (44, .aload_n 0, 1), (45, .bipush 64, 2), (47, .newarray .int, 2), (49, .putfield 27, 3), (52, .aload_n 0, 1), (53, .bipush 64, 2), (55, .newarray .int, 2), (57, .putfield 30, 3), (60, .aload_n 0, 1), (61, .bipush 64, 2), (63, .newarray .int, 2), (65, .putfield 33, 3), (68, .aload_n 0, 1), (69, .iconst 0, 1), (70, .putfield 36, 3), (73, .return_, 1)],
  [(9, 3, 0, (.array .int), false), (15, 3, 1, (.array .int), false), (18, 3, 2, (.array .int), false), (21, 3, 3, (.array .int), false), (24, 3, 4, (.array .int), false), (27, 3, 5, (.array .int), false), (30, 3, 6, (.array .int), false), (33, 3, 7, (.array .int), false), (36, 3, 8, .int, false)],
  [(3, 3, 0, 0)],
  [],
  [],
  [],
  [])
/-- GameText$Parser.<init>(LGameText$Words;LGameText$Code;)V -/
def tE_5 : tb_E := (("GameText$Parser", 4, true, prog_8_method_1_code, 3, none, ⟨"GameText$Parser", "<init>", "(LGameText$Words;LGameText$Code;)V"⟩),
  [(0, .aload_n 0, 1), (1, .invokespecial 3, 3), (4, .aload_n 0, 1), (5, .aload_n 1, 1), (6, .putfield 9, 3), (9, .aload_n 0, 1), (10, .sipush 256, 3), (13, .newarray .int, 2), (15, .putfield 15, 3), (18, .aload_n 0, 1), (19, .sipush 256, 3), (22, .newarray .int, 2), (24, .putfield 19, 3), (27, .aload_n 0, 1), (28, .sipush 256, 3), (31, .newarray .int, 2), (33, .putfield 22, 3), (36, .aload_n 0, 1), (37, .sipush 256, 3), (40, .newarray .int, 2), (42, .putfield 25, 3), (45, .aload_n 0, 1), (46, .sipush 256, 3), (49, .newarray .int, 2), (51, .putfield 28, 3), (54, .aload_n 0, 1), (55, .iconst 0, 1), (56, .putfield 31, 3), (59, .aload_n 0, 1), (60, .aload_n 2, 1), (61, .putfield 35, 3), (64, .aload_n 0, 1), (65, .iconst 0, 1), (66, .putfield 39, 3), (69, .aload_n 0, 1), (70, .iconst 0, 1), (71, .putfield 42, 3), (74, .aload_n 0, 1), (75, .iconst (-1), 1), (76, .putfield 45, 3), (79, .aload_n 0, 1), (80, .iconst 0, 1), (81, .putfield 48, 3), (84, .aload_n 0, 1), (85, .iconst 0, 1), (86, .putfield 51, 3), (89, .aload_n 0, 1), (90, .iconst 0, 1), (91, .putfield 54, 3), (94, .aload_n 0, 1), (95, .iconst 0, 1), (96, .putfield 57, 3), (99, .aload_n 0, 1), (100, .iconst 0, 1), (101, .putfield 60, 3), (104, .aload_n 0, 1), (105, .iconst 0, 1), (106, .putfield 63, 3), (109, .return_, 1)],
  [(9, 4, 0, (.object "GameText$Words"), true), (15, 4, 1, (.array .int), true), (19, 4, 2, (.array .int), true), (22, 4, 3, (.array .int), true), (25, 4, 4, (.array .int), true), (28, 4, 5, (.array .int), true), (31, 4, 6, .int, false), (35, 4, 7, (.object "GameText$Code"), false), (39, 4, 8, .int, false), (42, 4, 9, .int, false), (45, 4, 10, .int, false), (48, 4, 11, .int, false), (51, 4, 12, .int, false), (54, 4, 13, .int, false), (57, 4, 14, .int, false), (60, 4, 15, .int, false), (63, 4, 16, .int, false)],
  [(3, 3, 0, 0)],
  [],
  [],
  [],
  [])
/-- GameText$Machine.<init>(LGameText$Text;)V -/
def tE_6 : tb_E := (("GameText$Machine", 5, true, prog_6_method_1_code, 2, none, ⟨"GameText$Machine", "<init>", "(LGameText$Text;)V"⟩),
  [(0, .aload_n 0, 1), (1, .invokespecial 3, 3), (4, .aload_n 0, 1), (5, .bipush 12, 2), (7, .newarray .int, 2), (9, .putfield 9, 3), (12, .aload_n 0, 1), (13, .bipush 60, 2), (15, .newarray .int, 2), (17, .putfield 15, 3), (20, .aload_n 0, 1), (21, .bipush 60, 2), (23, .newarray .int, 2), (25, .putfield 18, 3), (28, .aload_n 0, 1), (29, .aload_n 1, 1), (30, .putfield 21, 3), (33, .aload_n 0, 1), (34, .aload_n 1, 1), (35, .getfield 25, 3), (38, .putfield 31, 3), (41, .aload_n 0, 1), (42, .iconst 1, 1), (43, .putfield 32, 3), (46, .aload_n 0, 1), (47, .iconst (-1), 1), (48, .putfield 36, 3), (51, .aload_n 0, 1), (52, .lconst 0, 1), (53, .putfield 39, 3), (56, .aload_n 0, 1), (57, .lconst 1, 1), (58, .putfield 43, 3), (61, .return_, 1)],
  [(9, 5, 0, (.array .int), true), (15, 5, 1, (.array .int), true), (18, 5, 2, (.array .int), true), (21, 5, 3, (.object "GameText$Text"), false), (25, 2, 0, (.object "GameText$Code"), true), (31, 5, 4, (.object "GameText$Code"), false), (32, 5, 5, .int, false), (36, 5, 6, .int, false), (39, 5, 7, .long, false), (43, 5, 8, .long, false)],
  [(3, 3, 0, 0)],
  [],
  [],
  [],
  [])
/-- GameText$Checker.<init>(LGameText$Words;LGameText$Machine;LGameText$Text;)V -/
def tE_7 : tb_E := (("GameText$Checker", 6, true, prog_2_method_1_code, 4, none, ⟨"GameText$Checker", "<init>", "(LGameText$Words;LGameText$Machine;LGameText$Text;)V"⟩),
  [(0, .aload_n 0, 1), (1, .invokespecial 3, 3), (4, .aload_n 0, 1), (5, .new 9, 3), (8, .dup, 1), (9, .aload_n 1, 1), (10, .invokespecial 11, 3), (13, .putfield 14, 3), (16, .aload_n 0, 1), (17, .aload_n 2, 1), (18, .putfield 20, 3), (21, .aload_n 0, 1), (22, .aload_n 3, 1), (23, .putfield 24, 3), (26, .aload_n 0, 1), (27, .aload_n 3, 1), (28, .getfield 28, 3), (31, .putfield 34, 3), (34, .aload_n 0, 1), (35, .iconst (-1), 1), (36, .putfield 35, 3), (39, .aload_n 0, 1), (40, .iconst 0, 1), (41, .putfield 39, 3), (44, .aload_n 0, 1), (45, .iconst 0, 1), (46, .putfield 42, 3), (49, .aload_n 0, 1), (50, .iconst 0, 1), (51, .putfield 45, 3), (54, .aload_n 0, 1), (55, .iconst 0, 1), (56, .putfield 48, 3), (59, .aload_n 0, 1), (60, .iconst (-1), 1), (61, .putfield 51, 3), (64, .aload_n 0, 1), (65, .iconst (-1), 1), (66, .putfield 54, 3), (69, .aload_n 0, 1), (70, .iconst 0, 1), (71, .putfield 57, 3), (74, .aload_n 0, 1), (75, .iconst (-1), 1), (76, .putfield 60, 3), (79, .return_, 1)],
  [(14, 6, 0, (.object "GameText$Names"), true), (20, 6, 1, (.object "GameText$Machine"), true), (24, 6, 2, (.object "GameText$Text"), false), (28, 2, 0, (.object "GameText$Code"), true), (34, 6, 3, (.object "GameText$Code"), false), (35, 6, 4, .int, false), (39, 6, 5, .int, false), (42, 6, 6, .int, false), (45, 6, 7, .int, false), (48, 6, 8, .int, false), (51, 6, 9, .int, false), (54, 6, 10, .int, false), (57, 6, 11, .int, false), (60, 6, 12, .int, false)],
  [(3, 3, 0, 0), (11, 2, 8, 1)],
  [(9, 7, [.null, .null, .null, .null, .null, .int 0])],
  [],
  [],
  [])
/-- GameText$Names.<init>(LGameText$Words;)V -/
def tE_8 : tb_E := (("GameText$Names", 7, true, prog_7_method_1_code, 2, none, ⟨"GameText$Names", "<init>", "(LGameText$Words;)V"⟩),
  [(0, .aload_n 0, 1), (1, .invokespecial 3, 3), (4, .aload_n 0, 1), (5, .aload_n 1, 1), (6, .putfield 9, 3), (9, .aload_n 0, 1), (10, .bipush 72, 2), (12, .newarray .int, 2), (14, .putfield 15, 3), (17, .aload_n 0, 1), (18, .bipush 72, 2), (20, .newarray .int, 2), (22, .putfield 19, 3), (25, .aload_n 0, 1), (26, .bipush 72, 2), (28, .newarray .int, 2), (30, .putfield 22, 3), (33, .aload_n 0, 1), (34, .bipush 72, 2), (36, .newarray .int, 2), (38, .putfield 25, 3), (41, .aload_n 0, 1), (42, .iconst 0, 1), (43, .putfield 28, 3), (46, .return_, 1)],
  [(9, 7, 0, (.object "GameText$Words"), true), (15, 7, 1, (.array .int), true), (19, 7, 2, (.array .int), true), (22, 7, 3, (.array .int), true), (25, 7, 4, (.array .int), true), (28, 7, 5, .int, false)],
  [(3, 3, 0, 0)],
  [],
  [],
  [],
  [])
/-- GameText$Graph.<init>()V -/
def tE_9 : tb_E := (("GameText$Graph", 8, true, prog_5_method_1_code, 1, none, ⟨"GameText$Graph", "<init>", "()V"⟩),
  [(0, .aload_n 0, 1), (1, .invokespecial 3, 3), (4, .aload_n 0, 1), (5, .sipush 1024, 3), (8, .newarray .int, 2), (10, .putfield 11, 3), (13, .aload_n 0, 1), (14, .sipush 192, 3), (17, .newarray .int, 2), (19, .putfield 15, 3), (22, .aload_n 0, 1), (23, .bipush 16, 2), (25, .newarray .int, 2), (27, .putfield 18, 3), (30, .aload_n 0, 1), (31, .bipush 17, 2), (33, .newarray .int, 2), (35, .putfield 21, 3), (38, .aload_n 0, 1), (39, .bipush 16, 2), (41, .newarray .int, 2), (43, .putfield 24, 3), (46, .aload_n 0, 1), (47, .bipush 17, 2), (49, .newarray .int, 2), (51, .putfield 27, 3), (54, .aload_n 0, 1), (55, .bipush 16, 2), (57, .newarray .int, 2), (59, .putfield 30, 3), (62, .aload_n 0, 1), (63, .bipush 16, 2), (65, .newarray .int, 2), (67, .putfield 33, 3), (70, .aload_n 0, 1), (71, .bipush 16, 2), (73, .newarray .int, 2), (75, .putfield 36, 3), (78, .aload_n 0, 1), (79, .iconst 0, 1), (80, .putfield 39, 3), (83, .aload_n 0, 1), (84, .iconst 0, 1), (85, .putfield 43, 3), (88, .aload_n 0, 1), (89, .iconst 0, 1), (90, .putfield 46, 3), (93, .aload_n 0, 1), (94, .iconst 0, 1), (95, .putfield 49, 3), (98, .return_, 1)],
  [(11, 8, 0, (.array .int), true), (15, 8, 1, (.array .int), false), (18, 8, 2, (.array .int), false), (21, 8, 3, (.array .int), false), (24, 8, 4, (.array .int), false), (27, 8, 5, (.array .int), false), (30, 8, 6, (.array .int), false), (33, 8, 7, (.array .int), false), (36, 8, 8, (.array .int), false), (39, 8, 9, .int, false), (43, 8, 10, .int, false), (46, 8, 11, .int, false), (49, 8, 12, .int, false)],
  [(3, 3, 0, 0)],
  [],
  [],
  [],
  [])
/-- GameText$Explorer.<init>(LGameText$Machine;LGameText$Graph;LGameText$Text;)V -/
def tE_10 : tb_E := (("GameText$Explorer", 9, true, prog_4_method_1_code, 4, none, ⟨"GameText$Explorer", "<init>", "(LGameText$Machine;LGameText$Graph;LGameText$Text;)V"⟩),
  [(0, .aload_n 0, 1), (1, .invokespecial 3, 3), (4, .aload_n 0, 1), (5, .aload_n 1, 1), (6, .putfield 9, 3), (9, .aload_n 0, 1), (10, .aload_n 2, 1), (11, .putfield 15, 3), (14, .aload_n 0, 1), (15, .bipush 8, 2), (17, .newarray .int, 2), (19, .putfield 19, 3), (22, .aload_n 0, 1), (23, .bipush 8, 2), (25, .newarray .int, 2), (27, .putfield 23, 3), (30, .aload_n 0, 1), (31, .bipush 12, 2), (33, .newarray .int, 2), (35, .putfield 26, 3), (38, .aload_n 0, 1), (39, .aload_n 3, 1), (40, .putfield 29, 3), (43, .aload_n 0, 1), (44, .aload_n 3, 1), (45, .getfield 33, 3), (48, .putfield 39, 3), (51, .aload_n 0, 1), (52, .iconst 0, 1), (53, .putfield 40, 3), (56, .aload_n 0, 1), (57, .iconst (-1), 1), (58, .putfield 44, 3), (61, .aload_n 0, 1), (62, .iconst (-1), 1), (63, .putfield 47, 3), (66, .return_, 1)],
  [(9, 9, 0, (.object "GameText$Machine"), true), (15, 9, 1, (.object "GameText$Graph"), true), (19, 9, 2, (.array .int), true), (23, 9, 3, (.array .int), true), (26, 9, 4, (.array .int), true), (29, 9, 5, (.object "GameText$Text"), false), (33, 2, 0, (.object "GameText$Code"), true), (39, 9, 6, (.object "GameText$Code"), false), (40, 9, 7, .int, false), (44, 9, 8, .int, false), (47, 9, 9, .int, false)],
  [(3, 3, 0, 0)],
  [],
  [],
  [],
  [])
/-- GameText.feed(IIIII)I -/
def tE_11 : tb_E := (("GameText", 0, false, prog_1_method_2_code, 6, (some .int), ⟨"GameText", "feed", "(IIIII)I"⟩),
  [(0, .aload_n 0, 1), (1, .getfield 10, 3), (4, .getfield 80, 3), (7, .bipush 20, 2), (9, .iadd, 1), (10, .sipush 16384, 3), (13, .if_icmp .le 5, 3), (16, .iconst (-1), 1), (17, .ireturn, 1), (18, .aload_n 0, 1), (19, .getfield 10, 3), (22, .invokevirtual 83, 3), (25, .aload_n 0, 1), (26, .getfield 10, 3), (29, .iload_n 1, 1), (30, .invokevirtual 86, 3), (33, .aload_n 0, 1), (34, .getfield 10, 3), (37, .iload_n 2, 1), (38, .invokevirtual 86, 3), (41, .aload_n 0, 1), (42, .getfield 10, 3), (45, .iload_n 3, 1), (46, .invokevirtual 86, 3), (49, .aload_n 0, 1), (50, .getfield 10, 3), (53, .iload 4, 2), (55, .invokevirtual 86, 3), (58, .aload_n 0, 1), (59, .getfield 10, 3), (62, .iload 5, 2), (64, .invokevirtual 86, 3), (67, .aload_n 0, 1), (68, .getfield 10, 3), (71, .getfield 80, 3), (74, .ireturn, 1)],
  [(10, 0, 0, (.object "GameText$Words"), true), (80, 1, 1, .int, false)],
  [(83, 1, 12, 0), (86, 1, 14, 1)],
  [],
  [],
  [],
  [])
/-- GameText$Words.makeRoom()V -/
def tE_12 : tb_E := (("GameText$Words", 1, false, prog_10_method_2_code, 1, none, ⟨"GameText$Words", "makeRoom", "()V"⟩),
  [(0, .aload_n 0, 1), (1, .getfield 15, 3), (4, .bipush 20, 2), (6, .iadd, 1), (7, .aload_n 0, 1), (8, .getfield 9, 3), (11, .arraylength, 1), (12, .if_icmp .le 21, 3), (15, .aload_n 0, 1), (16, .aload_n 0, 1), (17, .getfield 9, 3), (20, .iconst 2, 1), (21, .aload_n 0, 1), (22, .getfield 9, 3), (25, .arraylength, 1), (26, .imul, 1), (27, .invokestatic 34, 3), (30, .putfield 9, 3), (33, .return_, 1)],
  [(15, 1, 1, .int, false), (9, 1, 0, (.array .int), false)],
  [(34, 0, 13, 2)],
  [],
  [],
  [],
  [])
/-- java/util/Arrays.copyOf([II)[I -/
def tE_13 : tb_E := (("java/util/Arrays", 99, false, prog_28_method_123_code, 3, (some (.array .int)), ⟨"java/util/Arrays", "copyOf", "([II)[I"⟩),
  [(0, .iload_n 1, 1), (1, .aload_n 0, 1), (2, .arraylength, 1), (3, .if_icmp .ne 11, 3), (6, .aload_n 0, 1), (7, .invokevirtual 316, 3), (10, .checkcast 317, 3), (13, .areturn, 1), (14, .iload_n 1, 1), (15, .newarray .int, 2), (17, .astore_n 2, 1), (18, .aload_n 0, 1), (19, .iconst 0, 1), (20, .aload_n 2, 1), (21, .iconst 0, 1), (22, .aload_n 0, 1), (23, .arraylength, 1), (24, .iload_n 1, 1), (25, .invokestatic 304, 3), (28, .invokestatic 150, 3), (31, .aload_n 2, 1), (32, .areturn, 1)],
  [],
  [(304, 7, 3, 2), (150, 5, 0, 5)],
  [],
  [],
  [],
  [])
/-- GameText$Words.put(I)V -/
def tE_14 : tb_E := (("GameText$Words", 1, false, prog_10_method_3_code, 3, none, ⟨"GameText$Words", "put", "(I)V"⟩),
  [(0, .bipush 24, 2), (2, .istore_n 2, 1), (3, .iload_n 2, 1), (4, .ifCond .lt 47, 3), (7, .aload_n 0, 1), (8, .getfield 15, 3), (11, .aload_n 0, 1), (12, .getfield 9, 3), (15, .arraylength, 1), (16, .if_icmp .ge 29, 3), (19, .aload_n 0, 1), (20, .getfield 9, 3), (23, .aload_n 0, 1), (24, .getfield 15, 3), (27, .iload_n 1, 1), (28, .iload_n 2, 1), (29, .iushr, 1), (30, .sipush 255, 3), (33, .iand, 1), (34, .iastore, 1), (35, .aload_n 0, 1), (36, .dup, 1), (37, .getfield 15, 3), (40, .iconst 1, 1), (41, .iadd, 1), (42, .putfield 15, 3), (45, .iinc 2 (-8), 3), (48, .goto (-45), 3), (51, .return_, 1)],
  [(15, 1, 1, .int, false), (9, 1, 0, (.array .int), false)],
  [],
  [],
  [],
  [],
  [])
/-- GameText.compile()I -/
def tE_15 : tb_E := (("GameText", 0, false, prog_1_method_4_code, 2, (some .int), ⟨"GameText", "compile", "()I"⟩),
  [(0, .iconst 0, 1), (1, .istore_n 1, 1), (2, .aload_n 0, 1), (3, .getfield 35, 3), (6, .aload_n 0, 1), (7, .getfield 23, 3), (10, .getfield 28, 3), (13, .invokevirtual 99, 3), (16, .ifCond .eq 29, 3), (19, .aload_n 0, 1), (20, .getfield 49, 3), (23, .aload_n 0, 1), (24, .getfield 23, 3), (27, .invokevirtual 103, 3), (30, .istore_n 1, 1), (31, .aload_n 0, 1), (32, .aload_n 0, 1), (33, .getfield 49, 3), (36, .getfield 107, 3), (39, .putfield 76, 3), (42, .goto 16, 3), (45, .iconst 1, 1), (46, .istore_n 1, 1), (47, .aload_n 0, 1), (48, .aload_n 0, 1), (49, .getfield 10, 3), (52, .getfield 108, 3), (55, .putfield 76, 3), (58, .aload_n 0, 1), (59, .getfield 10, 3), (62, .iconst 0, 1), (63, .putfield 80, 3), (66, .iload_n 1, 1), (67, .ifCond .ne 7, 3), (70, .aload_n 0, 1), (71, .invokevirtual 111, 3), (74, .iload_n 1, 1), (75, .ireturn, 1)],
  [(35, 0, 1, (.object "GameText$Parser"), true), (23, 0, 6, (.object "GameText$Text"), false), (28, 2, 0, (.object "GameText$Code"), true), (49, 0, 2, (.object "GameText$Checker"), true), (107, 6, 4, .int, false), (76, 0, 9, .int, false), (10, 0, 0, (.object "GameText$Words"), true), (108, 1, 4, .int, false), (80, 1, 1, .int, false)],
  [(99, 1, 16, 1), (103, 1, 53, 1), (111, 1, 90, 0)],
  [],
  [],
  [],
  [])
/-- GameText$Parser.reads(LGameText$Code;)Z -/
def tE_16 : tb_E := (("GameText$Parser", 4, false, prog_8_method_2_code, 4, (some .boolean), ⟨"GameText$Parser", "reads", "(LGameText$Code;)Z"⟩),
  [(0, .aload_n 0, 1), (1, .aload_n 1, 1), (2, .putfield 35, 3), (5, .aload_n 0, 1), (6, .getfield 35, 3), (9, .iconst 0, 1), (10, .putfield 66, 3), (13, .aload_n 0, 1), (14, .getfield 9, 3), (17, .iconst 0, 1), (18, .putfield 71, 3), (21, .aload_n 0, 1), (22, .iconst 0, 1), (23, .putfield 39, 3), (26, .iconst 0, 1), (27, .istore_n 2, 1), (28, .iload_n 2, 1), (29, .sipush 16384, 3), (32, .if_icmp .gt 119, 3), (35, .aload_n 0, 1), (36, .getfield 9, 3), (39, .invokevirtual 76, 3), (42, .aload_n 0, 1), (43, .getfield 9, 3), (46, .getfield 79, 3), (49, .sipush 264, 3), (52, .if_icmp .ne 16, 3), (55, .aload_n 0, 1), (56, .getfield 39, 3), (59, .ifCond .ne 7, 3), (62, .iconst 1, 1), (63, .goto 4, 3), (66, .iconst 0, 1), (67, .ireturn, 1), (68, .iconst 0, 1), (69, .istore_n 3, 1), (70, .aload_n 0, 1), (71, .getfield 39, 3), (74, .bipush 15, 2), (76, .if_icmp .ne 11, 3), (79, .aload_n 0, 1), (80, .invokevirtual 82, 3), (83, .istore_n 3, 1), (84, .goto 55, 3), (87, .aload_n 0, 1), (88, .getfield 39, 3), (91, .bipush 14, 2), (93, .if_icmp .ne 11, 3), (96, .aload_n 0, 1), (97, .invokevirtual 86, 3), (100, .istore_n 3, 1), (101, .goto 38, 3), (104, .aload_n 0, 1), (105, .getfield 39, 3), (108, .ifCond .ne 11, 3), (111, .aload_n 0, 1), (112, .invokevirtual 89, 3), (115, .istore_n 3, 1), (116, .goto 23, 3), (119, .aload_n 0, 1), (120, .getfield 39, 3), (123, .iconst 5, 1), (124, .if_icmp .gt 10, 3), (127, .aload_n 0, 1), (128, .invokevirtual 92, 3), (131, .goto 7, 3), (134, .aload_n 0, 1), (135, .invokevirtual 95, 3), (138, .istore_n 3, 1), (139, .iload_n 3, 1), (140, .ifCond .ne 5, 3), (143, .iconst 0, 1), (144, .ireturn, 1), (145, .iinc 2 1, 3), (148, .goto (-120), 3), (151, .iconst 0, 1), (152, .ireturn, 1)],
  [(35, 4, 7, (.object "GameText$Code"), false), (66, 3, 8, .int, false), (9, 4, 0, (.object "GameText$Words"), true), (71, 1, 2, .int, false), (39, 4, 8, .int, false), (79, 1, 3, .int, false)],
  [(76, 1, 17, 0), (82, 1, 26, 0), (86, 1, 45, 0), (89, 1, 47, 0), (92, 1, 49, 0), (95, 1, 50, 0)],
  [],
  [],
  [],
  [])
/-- GameText$Words.next()V -/
def tE_17 : tb_E := (("GameText$Words", 1, false, prog_10_method_4_code, 1, none, ⟨"GameText$Words", "next", "()V"⟩),
  [(0, .aload_n 0, 1), (1, .invokevirtual 40, 3), (4, .aload_n 0, 1), (5, .aload_n 0, 1), (6, .getfield 19, 3), (9, .putfield 25, 3), (12, .aload_n 0, 1), (13, .getfield 19, 3), (16, .aload_n 0, 1), (17, .getfield 15, 3), (20, .if_icmp .lt 13, 3), (23, .aload_n 0, 1), (24, .sipush 264, 3), (27, .putfield 22, 3), (30, .goto 60, 3), (33, .aload_n 0, 1), (34, .getfield 9, 3), (37, .aload_n 0, 1), (38, .getfield 19, 3), (41, .iaload, 1), (42, .invokestatic 43, 3), (45, .ifCond .eq 10, 3), (48, .aload_n 0, 1), (49, .invokevirtual 47, 3), (52, .goto 38, 3), (55, .aload_n 0, 1), (56, .getfield 9, 3), (59, .aload_n 0, 1), (60, .getfield 19, 3), (63, .iaload, 1), (64, .invokestatic 50, 3), (67, .ifCond .eq 10, 3), (70, .aload_n 0, 1), (71, .invokevirtual 53, 3), (74, .goto 16, 3), (77, .aload_n 0, 1), (78, .aload_n 0, 1), (79, .getfield 9, 3), (82, .aload_n 0, 1), (83, .getfield 19, 3), (86, .iaload, 1), (87, .invokevirtual 56, 3), (90, .return_, 1)],
  [(19, 1, 2, .int, false), (25, 1, 4, .int, false), (15, 1, 1, .int, false), (22, 1, 3, .int, false), (9, 1, 0, (.array .int), false)],
  [(40, 1, 18, 0), (43, 0, 19, 1), (47, 1, 20, 0), (50, 0, 21, 1), (53, 1, 24, 0), (56, 1, 25, 1)],
  [],
  [],
  [],
  [])
/-- GameText$Words.skipBlanks()V -/
def tE_18 : tb_E := (("GameText$Words", 1, false, prog_10_method_5_code, 3, none, ⟨"GameText$Words", "skipBlanks", "()V"⟩),
  [(0, .iconst 0, 1), (1, .istore_n 1, 1), (2, .aload_n 0, 1), (3, .getfield 19, 3), (6, .aload_n 0, 1), (7, .getfield 15, 3), (10, .if_icmp .ge 81, 3), (13, .aload_n 0, 1), (14, .getfield 9, 3), (17, .aload_n 0, 1), (18, .getfield 19, 3), (21, .iaload, 1), (22, .istore_n 2, 1), (23, .iload_n 1, 1), (24, .ifCond .eq 18, 3), (27, .iload_n 2, 1), (28, .bipush 10, 2), (30, .if_icmp .eq 7, 3), (33, .iconst 1, 1), (34, .goto 4, 3), (37, .iconst 0, 1), (38, .istore_n 1, 1), (39, .goto 39, 3), (42, .iload_n 2, 1), (43, .bipush 35, 2), (45, .if_icmp .ne 8, 3), (48, .iconst 1, 1), (49, .istore_n 1, 1), (50, .goto 28, 3), (53, .iload_n 2, 1), (54, .bipush 9, 2), (56, .if_icmp .eq 22, 3), (59, .iload_n 2, 1), (60, .bipush 10, 2), (62, .if_icmp .eq 16, 3), (65, .iload_n 2, 1), (66, .bipush 13, 2), (68, .if_icmp .eq 10, 3), (71, .iload_n 2, 1), (72, .bipush 32, 2), (74, .if_icmp .eq 4, 3), (77, .return_, 1), (78, .aload_n 0, 1), (79, .dup, 1), (80, .getfield 19, 3), (83, .iconst 1, 1), (84, .iadd, 1), (85, .putfield 19, 3), (88, .goto (-86), 3), (91, .return_, 1)],
  [(19, 1, 2, .int, false), (15, 1, 1, .int, false), (9, 1, 0, (.array .int), false)],
  [],
  [],
  [],
  [],
  [])
/-- GameText$Words.isLetter(I)Z -/
def tE_19 : tb_E := (("GameText$Words", 1, false, prog_10_method_6_code, 1, (some .boolean), ⟨"GameText$Words", "isLetter", "(I)Z"⟩),
  [(0, .iload_n 0, 1), (1, .bipush 65, 2), (3, .if_icmp .lt 9, 3), (6, .iload_n 0, 1), (7, .bipush 90, 2), (9, .if_icmp .le 15, 3), (12, .iload_n 0, 1), (13, .bipush 97, 2), (15, .if_icmp .lt 13, 3), (18, .iload_n 0, 1), (19, .bipush 122, 2), (21, .if_icmp .gt 7, 3), (24, .iconst 1, 1), (25, .goto 4, 3), (28, .iconst 0, 1), (29, .ireturn, 1)],
  [],
  [],
  [],
  [],
  [],
  [])
/-- GameText$Words.readName()V -/
def tE_20 : tb_E := (("GameText$Words", 1, false, prog_10_method_8_code, 2, none, ⟨"GameText$Words", "readName", "()V"⟩),
  [(0, .aload_n 0, 1), (1, .getfield 19, 3), (4, .aload_n 0, 1), (5, .getfield 15, 3), (8, .if_icmp .ge 49, 3), (11, .aload_n 0, 1), (12, .getfield 9, 3), (15, .aload_n 0, 1), (16, .getfield 19, 3), (19, .iaload, 1), (20, .istore_n 1, 1), (21, .iload_n 1, 1), (22, .invokestatic 43, 3), (25, .ifCond .ne 19, 3), (28, .iload_n 1, 1), (29, .invokestatic 50, 3), (32, .ifCond .ne 12, 3), (35, .iload_n 1, 1), (36, .bipush 95, 2), (38, .if_icmp .eq 6, 3), (41, .goto 16, 3), (44, .aload_n 0, 1), (45, .dup, 1), (46, .getfield 19, 3), (49, .iconst 1, 1), (50, .iadd, 1), (51, .putfield 19, 3), (54, .goto (-54), 3), (57, .aload_n 0, 1), (58, .aload_n 0, 1), (59, .getfield 19, 3), (62, .aload_n 0, 1), (63, .getfield 25, 3), (66, .isub, 1), (67, .putfield 28, 3), (70, .aload_n 0, 1), (71, .aload_n 0, 1), (72, .getfield 28, 3), (75, .bipush 40, 2), (77, .if_icmp .le 9, 3), (80, .sipush 263, 3), (83, .goto 7, 3), (86, .aload_n 0, 1), (87, .invokevirtual 60, 3), (90, .putfield 22, 3), (93, .return_, 1)],
  [(19, 1, 2, .int, false), (15, 1, 1, .int, false), (9, 1, 0, (.array .int), false), (25, 1, 4, .int, false), (28, 1, 5, .int, false), (22, 1, 3, .int, false)],
  [(43, 0, 19, 1), (50, 0, 21, 1), (60, 1, 22, 0)],
  [],
  [],
  [],
  [])
/-- GameText$Words.isDigit(I)Z -/
def tE_21 : tb_E := (("GameText$Words", 1, false, prog_10_method_7_code, 1, (some .boolean), ⟨"GameText$Words", "isDigit", "(I)Z"⟩),
  [(0, .iload_n 0, 1), (1, .bipush 48, 2), (3, .if_icmp .lt 13, 3), (6, .iload_n 0, 1), (7, .bipush 57, 2), (9, .if_icmp .gt 7, 3), (12, .iconst 1, 1), (13, .goto 4, 3), (16, .iconst 0, 1), (17, .ireturn, 1)],
  [],
  [],
  [],
  [],
  [],
  [])
/-- GameText$Words.keyOrName()I -/
def tE_22 : tb_E := (("GameText$Words", 1, false, prog_10_method_9_code, 4, (some .int), ⟨"GameText$Words", "keyOrName", "()I"⟩),
  [(0, .sipush 300, 3), (3, .istore_n 1, 1), (4, .iconst 0, 1), (5, .istore_n 2, 1), (6, .iconst 0, 1), (7, .istore_n 3, 1), (8, .iload_n 3, 1), (9, .ldc 64, 2), (11, .invokevirtual 66, 3), (14, .if_icmp .ge 47, 3), (17, .ldc 64, 2), (19, .iload_n 3, 1), (20, .invokevirtual 70, 3), (23, .bipush 32, 2), (25, .if_icmp .ne 30, 3), (28, .iload_n 3, 1), (29, .iload_n 2, 1), (30, .isub, 1), (31, .aload_n 0, 1), (32, .getfield 28, 3), (35, .if_icmp .ne 13, 3), (38, .aload_n 0, 1), (39, .iload_n 2, 1), (40, .invokevirtual 74, 3), (43, .ifCond .eq 5, 3), (46, .iload_n 1, 1), (47, .ireturn, 1), (48, .iinc 1 1, 3), (51, .iload_n 3, 1), (52, .iconst 1, 1), (53, .iadd, 1), (54, .istore_n 2, 1), (55, .iinc 3 1, 3), (58, .goto (-50), 3), (61, .sipush 261, 3), (64, .ireturn, 1)],
  [(28, 1, 5, .int, false)],
  [(66, 6, 0, 0), (70, 6, 1, 1), (74, 1, 23, 1)],
  [],
  [(64, .ref 1000000)],
  [],
  [])
/-- GameText$Words.isKeyAt(I)Z -/
def tE_23 : tb_E := (("GameText$Words", 1, false, prog_10_method_10_code, 3, (some .boolean), ⟨"GameText$Words", "isKeyAt", "(I)Z"⟩),
  [(0, .iconst 0, 1), (1, .istore_n 2, 1), (2, .iload_n 2, 1), (3, .aload_n 0, 1), (4, .getfield 28, 3), (7, .if_icmp .ge 33, 3), (10, .ldc 64, 2), (12, .iload_n 1, 1), (13, .iload_n 2, 1), (14, .iadd, 1), (15, .invokevirtual 70, 3), (18, .aload_n 0, 1), (19, .getfield 9, 3), (22, .aload_n 0, 1), (23, .getfield 25, 3), (26, .iload_n 2, 1), (27, .iadd, 1), (28, .iaload, 1), (29, .if_icmp .eq 5, 3), (32, .iconst 0, 1), (33, .ireturn, 1), (34, .iinc 2 1, 3), (37, .goto (-35), 3), (40, .iconst 1, 1), (41, .ireturn, 1)],
  [(28, 1, 5, .int, false), (9, 1, 0, (.array .int), false), (25, 1, 4, .int, false)],
  [(70, 6, 1, 1)],
  [],
  [(64, .ref 1000000)],
  [],
  [])
/-- GameText$Words.readNumber()V -/
def tE_24 : tb_E := (("GameText$Words", 1, false, prog_10_method_11_code, 1, none, ⟨"GameText$Words", "readNumber", "()V"⟩),
  [(0, .aload_n 0, 1), (1, .iconst 0, 1), (2, .putfield 31, 3), (5, .aload_n 0, 1), (6, .getfield 19, 3), (9, .aload_n 0, 1), (10, .getfield 15, 3), (13, .if_icmp .ge 55, 3), (16, .aload_n 0, 1), (17, .getfield 9, 3), (20, .aload_n 0, 1), (21, .getfield 19, 3), (24, .iaload, 1), (25, .invokestatic 50, 3), (28, .ifCond .eq 40, 3), (31, .aload_n 0, 1), (32, .aload_n 0, 1), (33, .getfield 31, 3), (36, .bipush 10, 2), (38, .imul, 1), (39, .aload_n 0, 1), (40, .getfield 9, 3), (43, .aload_n 0, 1), (44, .getfield 19, 3), (47, .iaload, 1), (48, .iadd, 1), (49, .bipush 48, 2), (51, .isub, 1), (52, .putfield 31, 3), (55, .aload_n 0, 1), (56, .dup, 1), (57, .getfield 19, 3), (60, .iconst 1, 1), (61, .iadd, 1), (62, .putfield 19, 3), (65, .goto (-60), 3), (68, .aload_n 0, 1), (69, .aload_n 0, 1), (70, .getfield 19, 3), (73, .aload_n 0, 1), (74, .getfield 25, 3), (77, .isub, 1), (78, .putfield 28, 3), (81, .aload_n 0, 1), (82, .aload_n 0, 1), (83, .getfield 28, 3), (86, .bipush 9, 2), (88, .if_icmp .le 9, 3), (91, .sipush 263, 3), (94, .goto 6, 3), (97, .sipush 262, 3), (100, .putfield 22, 3), (103, .return_, 1)],
  [(31, 1, 6, .int, false), (19, 1, 2, .int, false), (15, 1, 1, .int, false), (9, 1, 0, (.array .int), false), (25, 1, 4, .int, false), (28, 1, 5, .int, false), (22, 1, 3, .int, false)],
  [(50, 0, 21, 1)],
  [],
  [],
  [],
  [])
/-- GameText$Words.readSign(I)V -/
def tE_25 : tb_E := (("GameText$Words", 1, false, prog_10_method_12_code, 3, none, ⟨"GameText$Words", "readSign", "(I)V"⟩),
  [(0, .aload_n 0, 1), (1, .getfield 19, 3), (4, .iconst 1, 1), (5, .iadd, 1), (6, .aload_n 0, 1), (7, .getfield 15, 3), (10, .if_icmp .ge 17, 3), (13, .aload_n 0, 1), (14, .getfield 9, 3), (17, .aload_n 0, 1), (18, .getfield 19, 3), (21, .iconst 1, 1), (22, .iadd, 1), (23, .iaload, 1), (24, .goto 4, 3), (27, .iconst 0, 1), (28, .istore_n 2, 1), (29, .aload_n 0, 1), (30, .iconst 2, 1), (31, .putfield 28, 3), (34, .iload_n 1, 1), (35, .bipush 46, 2), (37, .if_icmp .ne 19, 3), (40, .iload_n 2, 1), (41, .bipush 46, 2), (43, .if_icmp .ne 13, 3), (46, .aload_n 0, 1), (47, .sipush 256, 3), (50, .putfield 22, 3), (53, .goto 117, 3), (56, .iload_n 1, 1), (57, .bipush 45, 2), (59, .if_icmp .ne 19, 3), (62, .iload_n 2, 1), (63, .bipush 62, 2), (65, .if_icmp .ne 13, 3), (68, .aload_n 0, 1), (69, .sipush 257, 3), (72, .putfield 22, 3), (75, .goto 95, 3), (78, .iload_n 1, 1), (79, .bipush 33, 2), (81, .if_icmp .ne 19, 3), (84, .iload_n 2, 1), (85, .bipush 61, 2), (87, .if_icmp .ne 13, 3), (90, .aload_n 0, 1), (91, .sipush 258, 3), (94, .putfield 22, 3), (97, .goto 73, 3), (100, .iload_n 1, 1), (101, .bipush 60, 2), (103, .if_icmp .ne 19, 3), (106, .iload_n 2, 1), (107, .bipush 61, 2), (109, .if_icmp .ne 13, 3), (112, .aload_n 0, 1), (113, .sipush 259, 3), (116, .putfield 22, 3), (119, .goto 51, 3), (122, .iload_n 1, 1), (123, .bipush 62, 2), (125, .if_icmp .ne 19, 3), (128, .iload_n 2, 1), (129, .bipush 61, 2), (131, .if_icmp .ne 13, 3), (134, .aload_n 0, 1), (135, .sipush 260, 3), (138, .putfield 22, 3), (141, .goto 29, 3), (144, .aload_n 0, 1), (145, .iconst 1, 1), (146, .putfield 28, 3), (149, .aload_n 0, 1), (150, .ldc 77, 2), (152, .iload_n 1, 1), (153, .i2c, 1), (154, .invokevirtual 79, 3), (157, .ifCond .lt 7, 3), (160, .iload_n 1, 1), (161, .goto 6, 3), (164, .sipush 263, 3), (167, .putfield 22, 3), (170, .aload_n 0, 1), (171, .dup, 1), (172, .getfield 19, 3), (175, .aload_n 0, 1), (176, .getfield 28, 3), (179, .iadd, 1), (180, .putfield 19, 3), (183, .return_, 1)],
  [(19, 1, 2, .int, false), (15, 1, 1, .int, false), (9, 1, 0, (.array .int), false), (28, 1, 5, .int, false), (22, 1, 3, .int, false)],
  [(79, 6, 2, 1)],
  [],
  [(77, .ref 1000001)],
  [],
  [])
/-- GameText$Parser.takesOperator()Z -/
def tE_26 : tb_E := (("GameText$Parser", 4, false, prog_8_method_18_code, 1, (some .boolean), ⟨"GameText$Parser", "takesOperator", "()Z"⟩),
  [(0, .aload_n 0, 1), (1, .getfield 9, 3), (4, .getfield 79, 3), (7, .lookupswitch 231 #[(37, 139), (38, 206), (42, 121), (43, 148), (45, 156), (47, 130), (60, 178), (61, 164), (62, 192), (63, 226), (124, 216), (258, 171), (259, 185), (260, 199)], 121), (128, .aload_n 0, 1), (129, .bipush 6, 2), (131, .bipush 7, 2), (133, .invokevirtual 162, 3), (136, .ireturn, 1), (137, .aload_n 0, 1), (138, .bipush 7, 2), (140, .bipush 7, 2), (142, .invokevirtual 162, 3), (145, .ireturn, 1), (146, .aload_n 0, 1), (147, .bipush 8, 2), (149, .bipush 7, 2), (151, .invokevirtual 162, 3), (154, .ireturn, 1), (155, .aload_n 0, 1), (156, .iconst 4, 1), (157, .bipush 6, 2), (159, .invokevirtual 162, 3), (162, .ireturn, 1), (163, .aload_n 0, 1), (164, .iconst 5, 1), (165, .bipush 6, 2), (167, .invokevirtual 162, 3), (170, .ireturn, 1), (171, .aload_n 0, 1), (172, .bipush 10, 2), (174, .invokevirtual 165, 3), (177, .ireturn, 1), (178, .aload_n 0, 1), (179, .bipush 11, 2), (181, .invokevirtual 165, 3), (184, .ireturn, 1), (185, .aload_n 0, 1), (186, .bipush 12, 2), (188, .invokevirtual 165, 3), (191, .ireturn, 1), (192, .aload_n 0, 1), (193, .bipush 13, 2), (195, .invokevirtual 165, 3), (198, .ireturn, 1), (199, .aload_n 0, 1), (200, .bipush 14, 2), (202, .invokevirtual 165, 3), (205, .ireturn, 1), (206, .aload_n 0, 1), (207, .bipush 15, 2), (209, .invokevirtual 165, 3), (212, .ireturn, 1), (213, .aload_n 0, 1), (214, .bipush 17, 2), (216, .iconst 3, 1), (217, .bipush 23, 2), (219, .invokevirtual 168, 3), (222, .ireturn, 1), (223, .aload_n 0, 1), (224, .bipush 18, 2), (226, .iconst 2, 1), (227, .bipush 24, 2), (229, .invokevirtual 168, 3), (232, .ireturn, 1), (233, .aload_n 0, 1), (234, .invokevirtual 172, 3), (237, .ireturn, 1), (238, .aload_n 0, 1), (239, .invokevirtual 175, 3), (242, .ireturn, 1)],
  [(9, 4, 0, (.object "GameText$Words"), true), (79, 1, 3, .int, false)],
  [(162, 1, 27, 2), (165, 1, 33, 1), (168, 1, 34, 3), (172, 1, 35, 0), (175, 1, 37, 0)],
  [],
  [],
  [],
  [])
/-- GameText$Parser.takesBinary(II)Z -/
def tE_27 : tb_E := (("GameText$Parser", 4, false, prog_8_method_19_code, 3, (some .boolean), ⟨"GameText$Parser", "takesBinary", "(II)Z"⟩),
  [(0, .aload_n 0, 1), (1, .iload_n 2, 1), (2, .invokevirtual 178, 3), (5, .aload_n 0, 1), (6, .iload_n 1, 1), (7, .iconst (-1), 1), (8, .invokevirtual 150, 3), (11, .ireturn, 1)],
  [],
  [(178, 1, 28, 1), (150, 1, 31, 2)],
  [],
  [],
  [],
  [])
/-- GameText$Parser.build(I)V -/
def tE_28 : tb_E := (("GameText$Parser", 4, false, prog_8_method_23_code, 5, none, ⟨"GameText$Parser", "build", "(I)V"⟩),
  [(0, .iconst 0, 1), (1, .istore_n 2, 1), (2, .iload_n 2, 1), (3, .sipush 256, 3), (6, .if_icmp .ge 216, 3), (9, .aload_n 0, 1), (10, .getfield 31, 3), (13, .ifCond .le 209, 3), (16, .aload_n 0, 1), (17, .invokevirtual 153, 3), (20, .iload_n 1, 1), (21, .if_icmp .lt 201, 3), (24, .aload_n 0, 1), (25, .dup, 1), (26, .getfield 31, 3), (29, .iconst 1, 1), (30, .isub, 1), (31, .putfield 31, 3), (34, .aload_n 0, 1), (35, .getfield 15, 3), (38, .aload_n 0, 1), (39, .getfield 31, 3), (42, .iaload, 1), (43, .istore_n 3, 1), (44, .aload_n 0, 1), (45, .getfield 19, 3), (48, .aload_n 0, 1), (49, .getfield 31, 3), (52, .iaload, 1), (53, .istore 4, 2), (55, .iload_n 3, 1), (56, .bipush 16, 2), (58, .if_icmp .eq 9, 3), (61, .iload_n 3, 1), (62, .bipush 9, 2), (64, .if_icmp .ne 36, 3), (67, .aload_n 0, 1), (68, .aload_n 0, 1), (69, .getfield 35, 3), (72, .iload_n 3, 1), (73, .iload 4, 2), (75, .aload_n 0, 1), (76, .getfield 54, 3), (79, .iconst (-1), 1), (80, .iconst (-1), 1), (81, .invokevirtual 109, 3), (84, .putfield 54, 3), (87, .aload_n 0, 1), (88, .dup, 1), (89, .getfield 51, 3), (92, .iconst 1, 1), (93, .isub, 1), (94, .putfield 51, 3), (97, .goto 86, 3), (100, .iload_n 3, 1), (101, .bipush 19, 2), (103, .if_icmp .ne 52, 3), (106, .aload_n 0, 1), (107, .aload_n 0, 1), (108, .getfield 35, 3), (111, .iload_n 3, 1), (112, .iload 4, 2), (114, .aload_n 0, 1), (115, .getfield 22, 3), (118, .aload_n 0, 1), (119, .getfield 31, 3), (122, .iaload, 1), (123, .aload_n 0, 1), (124, .getfield 25, 3), (127, .aload_n 0, 1), (128, .getfield 31, 3), (131, .iaload, 1), (132, .aload_n 0, 1), (133, .getfield 54, 3), (136, .invokevirtual 109, 3), (139, .putfield 54, 3), (142, .aload_n 0, 1), (143, .dup, 1), (144, .getfield 51, 3), (147, .iconst 1, 1), (148, .isub, 1), (149, .putfield 51, 3), (152, .goto 31, 3), (155, .aload_n 0, 1), (156, .aload_n 0, 1), (157, .getfield 35, 3), (160, .iload_n 3, 1), (161, .iload 4, 2), (163, .aload_n 0, 1), (164, .getfield 22, 3), (167, .aload_n 0, 1), (168, .getfield 31, 3), (171, .iaload, 1), (172, .aload_n 0, 1), (173, .getfield 54, 3), (176, .iconst (-1), 1), (177, .invokevirtual 109, 3), (180, .putfield 54, 3), (183, .aload_n 0, 1), (184, .getfield 28, 3), (187, .aload_n 0, 1), (188, .getfield 31, 3), (191, .iaload, 1), (192, .ifCond .lt 24, 3), (195, .aload_n 0, 1), (196, .getfield 35, 3), (199, .getfield 126, 3), (202, .aload_n 0, 1), (203, .getfield 28, 3), (206, .aload_n 0, 1), (207, .getfield 31, 3), (210, .iaload, 1), (211, .aload_n 0, 1), (212, .getfield 54, 3), (215, .iastore, 1), (216, .iinc 2 1, 3), (219, .goto (-217), 3), (222, .return_, 1)],
  [(31, 4, 6, .int, false), (15, 4, 1, (.array .int), true), (19, 4, 2, (.array .int), true), (35, 4, 7, (.object "GameText$Code"), false), (54, 4, 13, .int, false), (51, 4, 12, .int, false), (22, 4, 3, (.array .int), true), (25, 4, 4, (.array .int), true), (28, 4, 5, (.array .int), true), (126, 3, 4, (.array .int), false)],
  [(153, 1, 29, 0), (109, 1, 30, 5)],
  [],
  [],
  [],
  [])
/-- GameText$Parser.holding()I -/
def tE_29 : tb_E := (("GameText$Parser", 4, false, prog_8_method_17_code, 1, (some .int), ⟨"GameText$Parser", "holding", "()I"⟩),
  [(0, .aload_n 0, 1), (1, .getfield 31, 3), (4, .ifCond .le 17, 3), (7, .aload_n 0, 1), (8, .getfield 15, 3), (11, .aload_n 0, 1), (12, .getfield 31, 3), (15, .iconst 1, 1), (16, .isub, 1), (17, .iaload, 1), (18, .goto 4, 3), (21, .iconst (-1), 1), (22, .tableswitch 97 4 19 #[88, 88, 91, 91, 91, 94, 86, 86, 86, 86, 86, 86, 84, 82, 80, 78], 78), (100, .iconst 1, 1), (101, .ireturn, 1), (102, .iconst 2, 1), (103, .ireturn, 1), (104, .iconst 3, 1), (105, .ireturn, 1), (106, .iconst 4, 1), (107, .ireturn, 1), (108, .iconst 5, 1), (109, .ireturn, 1), (110, .bipush 6, 2), (112, .ireturn, 1), (113, .bipush 7, 2), (115, .ireturn, 1), (116, .bipush 8, 2), (118, .ireturn, 1), (119, .iconst 0, 1), (120, .ireturn, 1)],
  [(31, 4, 6, .int, false), (15, 4, 1, (.array .int), true)],
  [],
  [],
  [],
  [],
  [])
/-- GameText$Code.emit(IIIII)I -/
def tE_30 : tb_E := (("GameText$Code", 3, false, prog_3_method_2_code, 7, (some .int), ⟨"GameText$Code", "emit", "(IIIII)I"⟩),
  [(0, .aload_n 0, 1), (1, .getfield 36, 3), (4, .aload_n 0, 1), (5, .getfield 9, 3), (8, .arraylength, 1), (9, .if_icmp .lt 116, 3), (12, .iconst 2, 1), (13, .aload_n 0, 1), (14, .getfield 9, 3), (17, .arraylength, 1), (18, .imul, 1), (19, .istore 6, 2), (21, .aload_n 0, 1), (22, .aload_n 0, 1), (23, .getfield 9, 3), (26, .iload 6, 2), (28, .invokestatic 40, 3), (31, .putfield 9, 3), (34, .aload_n 0, 1), (35, .aload_n 0, 1), (36, .getfield 15, 3), (39, .iload 6, 2), (41, .invokestatic 40, 3), (44, .putfield 15, 3), (47, .aload_n 0, 1), (48, .aload_n 0, 1), (49, .getfield 18, 3), (52, .iload 6, 2), (54, .invokestatic 40, 3), (57, .putfield 18, 3), (60, .aload_n 0, 1), (61, .aload_n 0, 1), (62, .getfield 21, 3), (65, .iload 6, 2), (67, .invokestatic 40, 3), (70, .putfield 21, 3), (73, .aload_n 0, 1), (74, .aload_n 0, 1), (75, .getfield 24, 3), (78, .iload 6, 2), (80, .invokestatic 40, 3), (83, .putfield 24, 3), (86, .aload_n 0, 1), (87, .aload_n 0, 1), (88, .getfield 27, 3), (91, .iload 6, 2), (93, .invokestatic 40, 3), (96, .putfield 27, 3), (99, .aload_n 0, 1), (100, .aload_n 0, 1), (101, .getfield 30, 3), (104, .iload 6, 2), (106, .invokestatic 40, 3), (109, .putfield 30, 3), (112, .aload_n 0, 1), (113, .aload_n 0, 1), (114, .getfield 33, 3), (117, .iload 6, 2), (119, .invokestatic 40, 3), (122, .putfield 33, 3), (125, .aload_n 0, 1), (126, .getfield 36, 3), (129, .istore 6, 2), (131, .aload_n 0, 1), (132, .getfield 9, 3), (135, .iload 6, 2), (137, .iload_n 1, 1), (138, .iastore, 1), (139, .aload_n 0, 1), (140, .getfield 15, 3), (143, .iload 6, 2), (145, .iload_n 2, 1), (146, .iastore, 1), (147, .aload_n 0, 1), (148, .getfield 18, 3), (151, .iload 6, 2), (153, .iload_n 3, 1), (154, .iastore, 1), (155, .aload_n 0, 1), (156, .getfield 21, 3), (159, .iload 6, 2), (161, .iload 4, 2), (163, .iastore, 1), (164, .aload_n 0, 1), (165, .getfield 24, 3), (168, .iload 6, 2), (170, .iload 5, 2), (172, .iastore, 1), (173, .aload_n 0, 1), (174, .getfield 27, 3), (177, .iload 6, 2), (179, .iconst 0, 1), (180, .iastore, 1), (181, .aload_n 0, 1), (182, .getfield 30, 3), (185, .iload 6, 2), (187, .iconst 0, 1), (188, .iastore, 1), (189, .aload_n 0, 1), (190, .getfield 33, 3), (193, .iload 6, 2), (195, .iconst 1, 1), (196, .iastore, 1), (197, .aload_n 0, 1), (198, .dup, 1), (199, .getfield 36, 3), (202, .iconst 1, 1), (203, .iadd, 1), (204, .putfield 36, 3), (207, .iload 6, 2), (209, .ireturn, 1)],
  [(36, 3, 8, .int, false), (9, 3, 0, (.array .int), false), (15, 3, 1, (.array .int), false), (18, 3, 2, (.array .int), false), (21, 3, 3, (.array .int), false), (24, 3, 4, (.array .int), false), (27, 3, 5, (.array .int), false), (30, 3, 6, (.array .int), false), (33, 3, 7, (.array .int), false)],
  [(40, 0, 13, 2)],
  [],
  [],
  [],
  [])
/-- GameText$Parser.pushes(II)Z -/
def tE_31 : tb_E := (("GameText$Parser", 4, false, prog_8_method_16_code, 3, (some .boolean), ⟨"GameText$Parser", "pushes", "(II)Z"⟩),
  [(0, .aload_n 0, 1), (1, .getfield 31, 3), (4, .sipush 256, 3), (7, .if_icmp .lt 5, 3), (10, .iconst 0, 1), (11, .ireturn, 1), (12, .aload_n 0, 1), (13, .getfield 15, 3), (16, .aload_n 0, 1), (17, .getfield 31, 3), (20, .iload_n 1, 1), (21, .iastore, 1), (22, .aload_n 0, 1), (23, .getfield 19, 3), (26, .aload_n 0, 1), (27, .getfield 31, 3), (30, .aload_n 0, 1), (31, .getfield 9, 3), (34, .getfield 106, 3), (37, .iastore, 1), (38, .aload_n 0, 1), (39, .getfield 22, 3), (42, .aload_n 0, 1), (43, .getfield 31, 3), (46, .aload_n 0, 1), (47, .getfield 54, 3), (50, .iastore, 1), (51, .aload_n 0, 1), (52, .getfield 25, 3), (55, .aload_n 0, 1), (56, .getfield 31, 3), (59, .iconst (-1), 1), (60, .iastore, 1), (61, .aload_n 0, 1), (62, .getfield 28, 3), (65, .aload_n 0, 1), (66, .getfield 31, 3), (69, .iload_n 2, 1), (70, .iastore, 1), (71, .aload_n 0, 1), (72, .dup, 1), (73, .getfield 31, 3), (76, .iconst 1, 1), (77, .iadd, 1), (78, .putfield 31, 3), (81, .aload_n 0, 1), (82, .bipush 14, 2), (84, .invokevirtual 113, 3), (87, .ireturn, 1)],
  [(31, 4, 6, .int, false), (15, 4, 1, (.array .int), true), (19, 4, 2, (.array .int), true), (9, 4, 0, (.object "GameText$Words"), true), (106, 1, 4, .int, false), (22, 4, 3, (.array .int), true), (54, 4, 13, .int, false), (25, 4, 4, (.array .int), true), (28, 4, 5, (.array .int), true)],
  [(113, 1, 32, 1)],
  [],
  [],
  [],
  [])
/-- GameText$Parser.wants(I)Z -/
def tE_32 : tb_E := (("GameText$Parser", 4, false, prog_8_method_5_code, 2, (some .boolean), ⟨"GameText$Parser", "wants", "(I)Z"⟩),
  [(0, .aload_n 0, 1), (1, .iload_n 1, 1), (2, .putfield 39, 3), (5, .iconst 1, 1), (6, .ireturn, 1)],
  [(39, 4, 8, .int, false)],
  [],
  [],
  [],
  [],
  [])
/-- GameText$Parser.takesCompare(I)Z -/
def tE_33 : tb_E := (("GameText$Parser", 4, false, prog_8_method_20_code, 2, (some .boolean), ⟨"GameText$Parser", "takesCompare", "(I)Z"⟩),
  [(0, .aload_n 0, 1), (1, .bipush 6, 2), (3, .invokevirtual 178, 3), (6, .aload_n 0, 1), (7, .invokevirtual 153, 3), (10, .iconst 5, 1), (11, .if_icmp .eq 16, 3), (14, .aload_n 0, 1), (15, .iload_n 1, 1), (16, .iconst (-1), 1), (17, .invokevirtual 150, 3), (20, .ifCond .eq 7, 3), (23, .iconst 1, 1), (24, .goto 4, 3), (27, .iconst 0, 1), (28, .ireturn, 1)],
  [],
  [(178, 1, 28, 1), (153, 1, 29, 0), (150, 1, 31, 2)],
  [],
  [],
  [],
  [])
/-- GameText$Parser.takesLogic(III)Z -/
def tE_34 : tb_E := (("GameText$Parser", 4, false, prog_8_method_21_code, 4, (some .boolean), ⟨"GameText$Parser", "takesLogic", "(III)Z"⟩),
  [(0, .aload_n 0, 1), (1, .iload_n 2, 1), (2, .invokevirtual 178, 3), (5, .aload_n 0, 1), (6, .iload_n 1, 1), (7, .aload_n 0, 1), (8, .getfield 35, 3), (11, .iload_n 3, 1), (12, .aload_n 0, 1), (13, .getfield 9, 3), (16, .getfield 106, 3), (19, .aload_n 0, 1), (20, .getfield 54, 3), (23, .iconst (-1), 1), (24, .iconst (-1), 1), (25, .invokevirtual 109, 3), (28, .invokevirtual 150, 3), (31, .ireturn, 1)],
  [(35, 4, 7, (.object "GameText$Code"), false), (9, 4, 0, (.object "GameText$Words"), true), (106, 1, 4, .int, false), (54, 4, 13, .int, false)],
  [(178, 1, 28, 1), (109, 1, 30, 5), (150, 1, 31, 2)],
  [],
  [],
  [],
  [])
/-- GameText$Parser.takesQuestion()Z -/
def tE_35 : tb_E := (("GameText$Parser", 4, false, prog_8_method_22_code, 1, (some .boolean), ⟨"GameText$Parser", "takesQuestion", "()Z"⟩),
  [(0, .aload_n 0, 1), (1, .iconst 2, 1), (2, .invokevirtual 178, 3), (5, .aload_n 0, 1), (6, .getfield 31, 3), (9, .ifCond .ne 14, 3), (12, .aload_n 0, 1), (13, .getfield 42, 3), (16, .bipush 6, 2), (18, .if_icmp .ne 5, 3), (21, .iconst 0, 1), (22, .ireturn, 1), (23, .aload_n 0, 1), (24, .invokevirtual 138, 3), (27, .ifCond .eq 38, 3), (30, .aload_n 0, 1), (31, .bipush 36, 2), (33, .aload_n 0, 1), (34, .getfield 35, 3), (37, .bipush 23, 2), (39, .aload_n 0, 1), (40, .getfield 9, 3), (43, .getfield 106, 3), (46, .aload_n 0, 1), (47, .getfield 54, 3), (50, .iconst (-1), 1), (51, .iconst (-1), 1), (52, .invokevirtual 109, 3), (55, .invokevirtual 150, 3), (58, .ifCond .eq 7, 3), (61, .iconst 1, 1), (62, .goto 4, 3), (65, .iconst 0, 1), (66, .ireturn, 1)],
  [(31, 4, 6, .int, false), (42, 4, 9, .int, false), (35, 4, 7, (.object "GameText$Code"), false), (9, 4, 0, (.object "GameText$Words"), true), (106, 1, 4, .int, false), (54, 4, 13, .int, false)],
  [(178, 1, 28, 1), (138, 1, 36, 0), (109, 1, 30, 5), (150, 1, 31, 2)],
  [],
  [],
  [],
  [])
/-- GameText$Parser.deepens()Z -/
def tE_36 : tb_E := (("GameText$Parser", 4, false, prog_8_method_13_code, 1, (some .boolean), ⟨"GameText$Parser", "deepens", "()Z"⟩),
  [(0, .aload_n 0, 1), (1, .getfield 51, 3), (4, .bipush 40, 2), (6, .if_icmp .lt 5, 3), (9, .iconst 0, 1), (10, .ireturn, 1), (11, .aload_n 0, 1), (12, .dup, 1), (13, .getfield 51, 3), (16, .iconst 1, 1), (17, .iadd, 1), (18, .putfield 51, 3), (21, .iconst 1, 1), (22, .ireturn, 1)],
  [(51, 4, 12, .int, false)],
  [],
  [],
  [],
  [],
  [])
/-- GameText$Parser.takesRuleEnd()Z -/
def tE_37 : tb_E := (("GameText$Parser", 4, false, prog_8_method_24_code, 2, (some .boolean), ⟨"GameText$Parser", "takesRuleEnd", "()Z"⟩),
  [(0, .aload_n 0, 1), (1, .iconst 1, 1), (2, .invokevirtual 178, 3), (5, .aload_n 0, 1), (6, .getfield 31, 3), (9, .ifCond .ne 15, 3), (12, .aload_n 0, 1), (13, .aload_n 0, 1), (14, .getfield 9, 3), (17, .getfield 79, 3), (20, .invokevirtual 182, 3), (23, .ireturn, 1), (24, .aload_n 0, 1), (25, .getfield 15, 3), (28, .aload_n 0, 1), (29, .getfield 31, 3), (32, .iconst 1, 1), (33, .isub, 1), (34, .iaload, 1), (35, .istore_n 1, 1), (36, .aload_n 0, 1), (37, .getfield 9, 3), (40, .getfield 79, 3), (43, .bipush 41, 2), (45, .if_icmp .ne 31, 3), (48, .iload_n 1, 1), (49, .bipush 35, 2), (51, .if_icmp .ne 25, 3), (54, .aload_n 0, 1), (55, .dup, 1), (56, .getfield 31, 3), (59, .iconst 1, 1), (60, .isub, 1), (61, .putfield 31, 3), (64, .aload_n 0, 1), (65, .dup, 1), (66, .getfield 51, 3), (69, .iconst 1, 1), (70, .isub, 1), (71, .putfield 51, 3), (74, .iconst 1, 1), (75, .ireturn, 1), (76, .aload_n 0, 1), (77, .getfield 9, 3), (80, .getfield 79, 3), (83, .bipush 58, 2), (85, .if_icmp .ne 20, 3), (88, .iload_n 1, 1), (89, .bipush 36, 2), (91, .if_icmp .ne 14, 3), (94, .aload_n 0, 1), (95, .aload_n 0, 1), (96, .getfield 31, 3), (99, .iconst 1, 1), (100, .isub, 1), (101, .invokevirtual 185, 3), (104, .ireturn, 1), (105, .iload_n 1, 1), (106, .bipush 20, 2), (108, .if_icmp .eq 11, 3), (111, .iload_n 1, 1), (112, .bipush 21, 2), (114, .if_icmp .eq 5, 3), (117, .iconst 0, 1), (118, .ireturn, 1), (119, .aload_n 0, 1), (120, .getfield 9, 3), (123, .getfield 79, 3), (126, .bipush 44, 2), (128, .if_icmp .ne 20, 3), (131, .aload_n 0, 1), (132, .aload_n 0, 1), (133, .getfield 31, 3), (136, .iconst 1, 1), (137, .isub, 1), (138, .invokevirtual 188, 3), (141, .aload_n 0, 1), (142, .bipush 14, 2), (144, .invokevirtual 113, 3), (147, .ireturn, 1), (148, .aload_n 0, 1), (149, .getfield 9, 3), (152, .getfield 79, 3), (155, .bipush 41, 2), (157, .if_icmp .ne 20, 3), (160, .aload_n 0, 1), (161, .aload_n 0, 1), (162, .getfield 31, 3), (165, .iconst 1, 1), (166, .isub, 1), (167, .invokevirtual 191, 3), (170, .ifCond .eq 7, 3), (173, .iconst 1, 1), (174, .goto 4, 3), (177, .iconst 0, 1), (178, .ireturn, 1)],
  [(31, 4, 6, .int, false), (9, 4, 0, (.object "GameText$Words"), true), (79, 1, 3, .int, false), (15, 4, 1, (.array .int), true), (51, 4, 12, .int, false)],
  [(178, 1, 28, 1), (182, 1, 38, 1), (185, 1, 42, 1), (188, 1, 43, 1), (113, 1, 32, 1), (191, 1, 44, 1)],
  [],
  [],
  [],
  [])
/-- GameText$Parser.closesRule(I)Z -/
def tE_38 : tb_E := (("GameText$Parser", 4, false, prog_8_method_28_code, 2, (some .boolean), ⟨"GameText$Parser", "closesRule", "(I)Z"⟩),
  [(0, .aload_n 0, 1), (1, .getfield 35, 3), (4, .bipush 26, 2), (6, .aload_n 0, 1), (7, .getfield 45, 3), (10, .aload_n 0, 1), (11, .getfield 54, 3), (14, .aload_n 0, 1), (15, .getfield 42, 3), (18, .aload_n 0, 1), (19, .getfield 48, 3), (22, .invokevirtual 109, 3), (25, .pop, 1), (26, .aload_n 0, 1), (27, .getfield 42, 3), (30, .tableswitch 175 1 7 #[42, 63, 175, 175, 97, 117, 154], 42), (72, .iload_n 1, 1), (73, .sipush 256, 3), (76, .if_icmp .ne 15, 3), (79, .aload_n 0, 1), (80, .iconst 2, 1), (81, .invokevirtual 102, 3), (84, .ifCond .eq 7, 3), (87, .iconst 1, 1), (88, .goto 4, 3), (91, .iconst 0, 1), (92, .ireturn, 1), (93, .iload_n 1, 1), (94, .sipush 306, 3), (97, .if_icmp .ne 11, 3), (100, .aload_n 0, 1), (101, .iconst 3, 1), (102, .invokevirtual 102, 3), (105, .goto 21, 3), (108, .iload_n 1, 1), (109, .bipush 59, 2), (111, .if_icmp .ne 14, 3), (114, .aload_n 0, 1), (115, .invokevirtual 129, 3), (118, .ifCond .eq 7, 3), (121, .iconst 1, 1), (122, .goto 4, 3), (125, .iconst 0, 1), (126, .ireturn, 1), (127, .iload_n 1, 1), (128, .sipush 257, 3), (131, .if_icmp .ne 14, 3), (134, .aload_n 0, 1), (135, .invokevirtual 141, 3), (138, .ifCond .eq 7, 3), (141, .iconst 1, 1), (142, .goto 4, 3), (145, .iconst 0, 1), (146, .ireturn, 1), (147, .aload_n 0, 1), (148, .getfield 35, 3), (151, .getfield 194, 3), (154, .aload_n 0, 1), (155, .getfield 60, 3), (158, .aload_n 0, 1), (159, .getfield 45, 3), (162, .iastore, 1), (163, .iload_n 1, 1), (164, .bipush 58, 2), (166, .if_icmp .ne 16, 3), (169, .aload_n 0, 1), (170, .bipush 6, 2), (172, .invokevirtual 113, 3), (175, .ifCond .eq 7, 3), (178, .iconst 1, 1), (179, .goto 4, 3), (182, .iconst 0, 1), (183, .ireturn, 1), (184, .iload_n 1, 1), (185, .bipush 41, 2), (187, .if_icmp .ne 16, 3), (190, .aload_n 0, 1), (191, .bipush 12, 2), (193, .invokevirtual 113, 3), (196, .ifCond .eq 7, 3), (199, .iconst 1, 1), (200, .goto 4, 3), (203, .iconst 0, 1), (204, .ireturn, 1), (205, .iload_n 1, 1), (206, .bipush 59, 2), (208, .if_icmp .ne 14, 3), (211, .aload_n 0, 1), (212, .invokevirtual 129, 3), (215, .ifCond .eq 7, 3), (218, .iconst 1, 1), (219, .goto 4, 3), (222, .iconst 0, 1), (223, .ireturn, 1)],
  [(35, 4, 7, (.object "GameText$Code"), false), (45, 4, 10, .int, false), (54, 4, 13, .int, false), (42, 4, 9, .int, false), (48, 4, 11, .int, false), (194, 3, 1, (.array .int), false), (60, 4, 15, .int, false)],
  [(109, 1, 30, 5), (102, 1, 39, 1), (129, 1, 40, 0), (141, 1, 41, 0), (113, 1, 32, 1)],
  [],
  [],
  [],
  [])
/-- GameText$Parser.opensRule(I)Z -/
def tE_39 : tb_E := (("GameText$Parser", 4, false, prog_8_method_6_code, 2, (some .boolean), ⟨"GameText$Parser", "opensRule", "(I)Z"⟩),
  [(0, .aload_n 0, 1), (1, .iload_n 1, 1), (2, .putfield 42, 3), (5, .aload_n 0, 1), (6, .iconst (-1), 1), (7, .putfield 45, 3), (10, .aload_n 0, 1), (11, .aload_n 0, 1), (12, .getfield 35, 3), (15, .getfield 66, 3), (18, .putfield 48, 3), (21, .aload_n 0, 1), (22, .iconst 0, 1), (23, .putfield 31, 3), (26, .aload_n 0, 1), (27, .iload_n 1, 1), (28, .bipush 7, 2), (30, .if_icmp .ne 7, 3), (33, .iconst 1, 1), (34, .goto 4, 3), (37, .iconst 0, 1), (38, .putfield 51, 3), (41, .aload_n 0, 1), (42, .bipush 14, 2), (44, .putfield 39, 3), (47, .iconst 1, 1), (48, .ireturn, 1)],
  [(42, 4, 9, .int, false), (45, 4, 10, .int, false), (35, 4, 7, (.object "GameText$Code"), false), (66, 3, 8, .int, false), (48, 4, 11, .int, false), (31, 4, 6, .int, false), (51, 4, 12, .int, false), (39, 4, 8, .int, false)],
  [],
  [],
  [],
  [],
  [])
/-- GameText$Parser.finishes()Z -/
def tE_40 : tb_E := (("GameText$Parser", 4, false, prog_8_method_8_code, 1, (some .boolean), ⟨"GameText$Parser", "finishes", "()Z"⟩),
  [(0, .aload_n 0, 1), (1, .getfield 35, 3), (4, .bipush 34, 2), (6, .aload_n 0, 1), (7, .getfield 9, 3), (10, .getfield 106, 3), (13, .iconst (-1), 1), (14, .iconst (-1), 1), (15, .iconst (-1), 1), (16, .invokevirtual 109, 3), (19, .pop, 1), (20, .aload_n 0, 1), (21, .iconst 0, 1), (22, .invokevirtual 113, 3), (25, .ireturn, 1)],
  [(35, 4, 7, (.object "GameText$Code"), false), (9, 4, 0, (.object "GameText$Words"), true), (106, 1, 4, .int, false)],
  [(109, 1, 30, 5), (113, 1, 32, 1)],
  [],
  [],
  [],
  [])
/-- GameText$Parser.opensBranch()Z -/
def tE_41 : tb_E := (("GameText$Parser", 4, false, prog_8_method_12_code, 1, (some .boolean), ⟨"GameText$Parser", "opensBranch", "()Z"⟩),
  [(0, .aload_n 0, 1), (1, .aload_n 0, 1), (2, .getfield 35, 3), (5, .bipush 32, 2), (7, .iconst (-1), 1), (8, .iconst (-1), 1), (9, .iconst (-1), 1), (10, .iconst (-1), 1), (11, .invokevirtual 109, 3), (14, .putfield 60, 3), (17, .aload_n 0, 1), (18, .bipush 6, 2), (20, .invokevirtual 102, 3), (23, .ireturn, 1)],
  [(35, 4, 7, (.object "GameText$Code"), false), (60, 4, 15, .int, false)],
  [(109, 1, 30, 5), (102, 1, 39, 1)],
  [],
  [],
  [],
  [])
/-- GameText$Parser.takesOtherwise(I)Z -/
def tE_42 : tb_E := (("GameText$Parser", 4, false, prog_8_method_25_code, 3, (some .boolean), ⟨"GameText$Parser", "takesOtherwise", "(I)Z"⟩),
  [(0, .aload_n 0, 1), (1, .getfield 35, 3), (4, .bipush 25, 2), (6, .aload_n 0, 1), (7, .getfield 9, 3), (10, .getfield 106, 3), (13, .iconst (-1), 1), (14, .iconst (-1), 1), (15, .iconst (-1), 1), (16, .invokevirtual 109, 3), (19, .istore_n 2, 1), (20, .aload_n 0, 1), (21, .getfield 35, 3), (24, .getfield 126, 3), (27, .aload_n 0, 1), (28, .getfield 28, 3), (31, .iload_n 1, 1), (32, .iaload, 1), (33, .aload_n 0, 1), (34, .getfield 35, 3), (37, .getfield 66, 3), (40, .iastore, 1), (41, .aload_n 0, 1), (42, .getfield 15, 3), (45, .iload_n 1, 1), (46, .bipush 19, 2), (48, .iastore, 1), (49, .aload_n 0, 1), (50, .getfield 25, 3), (53, .iload_n 1, 1), (54, .aload_n 0, 1), (55, .getfield 54, 3), (58, .iastore, 1), (59, .aload_n 0, 1), (60, .getfield 28, 3), (63, .iload_n 1, 1), (64, .iload_n 2, 1), (65, .iastore, 1), (66, .aload_n 0, 1), (67, .bipush 14, 2), (69, .invokevirtual 113, 3), (72, .ireturn, 1)],
  [(35, 4, 7, (.object "GameText$Code"), false), (9, 4, 0, (.object "GameText$Words"), true), (106, 1, 4, .int, false), (126, 3, 4, (.array .int), false), (28, 4, 5, (.array .int), true), (66, 3, 8, .int, false), (15, 4, 1, (.array .int), true), (25, 4, 4, (.array .int), true), (54, 4, 13, .int, false)],
  [(109, 1, 30, 5), (113, 1, 32, 1)],
  [],
  [],
  [],
  [])
/-- GameText$Parser.foldsList(I)V -/
def tE_43 : tb_E := (("GameText$Parser", 4, false, prog_8_method_26_code, 2, none, ⟨"GameText$Parser", "foldsList", "(I)V"⟩),
  [(0, .aload_n 0, 1), (1, .getfield 25, 3), (4, .iload_n 1, 1), (5, .iaload, 1), (6, .ifCond .lt 37, 3), (9, .aload_n 0, 1), (10, .aload_n 0, 1), (11, .getfield 35, 3), (14, .aload_n 0, 1), (15, .getfield 15, 3), (18, .iload_n 1, 1), (19, .iaload, 1), (20, .aload_n 0, 1), (21, .getfield 19, 3), (24, .iload_n 1, 1), (25, .iaload, 1), (26, .aload_n 0, 1), (27, .getfield 25, 3), (30, .iload_n 1, 1), (31, .iaload, 1), (32, .aload_n 0, 1), (33, .getfield 54, 3), (36, .iconst (-1), 1), (37, .invokevirtual 109, 3), (40, .putfield 54, 3), (43, .aload_n 0, 1), (44, .getfield 25, 3), (47, .iload_n 1, 1), (48, .aload_n 0, 1), (49, .getfield 54, 3), (52, .iastore, 1), (53, .return_, 1)],
  [(25, 4, 4, (.array .int), true), (35, 4, 7, (.object "GameText$Code"), false), (15, 4, 1, (.array .int), true), (19, 4, 2, (.array .int), true), (54, 4, 13, .int, false)],
  [(109, 1, 30, 5)],
  [],
  [],
  [],
  [])
/-- GameText$Parser.closesList(I)Z -/
def tE_44 : tb_E := (("GameText$Parser", 4, false, prog_8_method_27_code, 2, (some .boolean), ⟨"GameText$Parser", "closesList", "(I)Z"⟩),
  [(0, .aload_n 0, 1), (1, .iload_n 1, 1), (2, .invokevirtual 188, 3), (5, .aload_n 0, 1), (6, .aload_n 0, 1), (7, .getfield 35, 3), (10, .bipush 22, 2), (12, .aload_n 0, 1), (13, .getfield 19, 3), (16, .iload_n 1, 1), (17, .iaload, 1), (18, .aload_n 0, 1), (19, .getfield 54, 3), (22, .iconst (-1), 1), (23, .iconst (-1), 1), (24, .invokevirtual 109, 3), (27, .putfield 54, 3), (30, .aload_n 0, 1), (31, .dup, 1), (32, .getfield 31, 3), (35, .iconst 1, 1), (36, .isub, 1), (37, .putfield 31, 3), (40, .aload_n 0, 1), (41, .dup, 1), (42, .getfield 51, 3), (45, .iconst 1, 1), (46, .isub, 1), (47, .putfield 51, 3), (50, .iconst 1, 1), (51, .ireturn, 1)],
  [(35, 4, 7, (.object "GameText$Code"), false), (19, 4, 2, (.array .int), true), (54, 4, 13, .int, false), (31, 4, 6, .int, false), (51, 4, 12, .int, false)],
  [(188, 1, 43, 1), (109, 1, 30, 5)],
  [],
  [],
  [],
  [])
/-- GameText$Parser.takesOperand()Z -/
def tE_45 : tb_E := (("GameText$Parser", 4, false, prog_8_method_14_code, 1, (some .boolean), ⟨"GameText$Parser", "takesOperand", "()Z"⟩),
  [(0, .aload_n 0, 1), (1, .getfield 45, 3), (4, .ifCond .ge 14, 3), (7, .aload_n 0, 1), (8, .aload_n 0, 1), (9, .getfield 9, 3), (12, .getfield 106, 3), (15, .putfield 45, 3), (18, .aload_n 0, 1), (19, .getfield 9, 3), (22, .getfield 79, 3), (25, .lookupswitch 278 #[(33, 197), (40, 151), (45, 174), (261, 110), (262, 83), (309, 96), (310, 103), (311, 228), (312, 253)], 83), (108, .aload_n 0, 1), (109, .iconst 1, 1), (110, .aload_n 0, 1), (111, .getfield 9, 3), (114, .getfield 144, 3), (117, .invokevirtual 147, 3), (120, .ireturn, 1), (121, .aload_n 0, 1), (122, .iconst 2, 1), (123, .iconst 1, 1), (124, .invokevirtual 147, 3), (127, .ireturn, 1), (128, .aload_n 0, 1), (129, .iconst 2, 1), (130, .iconst 0, 1), (131, .invokevirtual 147, 3), (134, .ireturn, 1), (135, .aload_n 0, 1), (136, .aload_n 0, 1), (137, .getfield 35, 3), (140, .iconst 1, 1), (141, .aload_n 0, 1), (142, .getfield 9, 3), (145, .getfield 106, 3), (148, .aload_n 0, 1), (149, .getfield 9, 3), (152, .getfield 106, 3), (155, .aload_n 0, 1), (156, .getfield 9, 3), (159, .getfield 122, 3), (162, .iconst (-1), 1), (163, .invokevirtual 109, 3), (166, .putfield 54, 3), (169, .aload_n 0, 1), (170, .bipush 15, 2), (172, .invokevirtual 113, 3), (175, .ireturn, 1), (176, .aload_n 0, 1), (177, .invokevirtual 138, 3), (180, .ifCond .eq 17, 3), (183, .aload_n 0, 1), (184, .bipush 35, 2), (186, .iconst (-1), 1), (187, .invokevirtual 150, 3), (190, .ifCond .eq 7, 3), (193, .iconst 1, 1), (194, .goto 4, 3), (197, .iconst 0, 1), (198, .ireturn, 1), (199, .aload_n 0, 1), (200, .invokevirtual 138, 3), (203, .ifCond .eq 17, 3), (206, .aload_n 0, 1), (207, .bipush 9, 2), (209, .iconst (-1), 1), (210, .invokevirtual 150, 3), (213, .ifCond .eq 7, 3), (216, .iconst 1, 1), (217, .goto 4, 3), (220, .iconst 0, 1), (221, .ireturn, 1), (222, .aload_n 0, 1), (223, .invokevirtual 153, 3), (226, .iconst 4, 1), (227, .if_icmp .gt 24, 3), (230, .aload_n 0, 1), (231, .invokevirtual 138, 3), (234, .ifCond .eq 17, 3), (237, .aload_n 0, 1), (238, .bipush 16, 2), (240, .iconst (-1), 1), (241, .invokevirtual 150, 3), (244, .ifCond .eq 7, 3), (247, .iconst 1, 1), (248, .goto 4, 3), (251, .iconst 0, 1), (252, .ireturn, 1), (253, .aload_n 0, 1), (254, .bipush 20, 2), (256, .iconst (-1), 1), (257, .invokevirtual 150, 3), (260, .ifCond .eq 16, 3), (263, .aload_n 0, 1), (264, .bipush 13, 2), (266, .invokevirtual 113, 3), (269, .ifCond .eq 7, 3), (272, .iconst 1, 1), (273, .goto 4, 3), (276, .iconst 0, 1), (277, .ireturn, 1), (278, .aload_n 0, 1), (279, .bipush 21, 2), (281, .iconst (-1), 1), (282, .invokevirtual 150, 3), (285, .ifCond .eq 16, 3), (288, .aload_n 0, 1), (289, .bipush 13, 2), (291, .invokevirtual 113, 3), (294, .ifCond .eq 7, 3), (297, .iconst 1, 1), (298, .goto 4, 3), (301, .iconst 0, 1), (302, .ireturn, 1), (303, .iconst 0, 1), (304, .ireturn, 1)],
  [(45, 4, 10, .int, false), (9, 4, 0, (.object "GameText$Words"), true), (106, 1, 4, .int, false), (79, 1, 3, .int, false), (144, 1, 6, .int, false), (35, 4, 7, (.object "GameText$Code"), false), (122, 1, 5, .int, false), (54, 4, 13, .int, false)],
  [(147, 1, 46, 2), (109, 1, 30, 5), (113, 1, 32, 1), (138, 1, 36, 0), (150, 1, 31, 2), (153, 1, 29, 0)],
  [],
  [],
  [],
  [])
/-- GameText$Parser.takesValue(II)Z -/
def tE_46 : tb_E := (("GameText$Parser", 4, false, prog_8_method_15_code, 3, (some .boolean), ⟨"GameText$Parser", "takesValue", "(II)Z"⟩),
  [(0, .aload_n 0, 1), (1, .aload_n 0, 1), (2, .getfield 35, 3), (5, .iconst 0, 1), (6, .aload_n 0, 1), (7, .getfield 9, 3), (10, .getfield 106, 3), (13, .iconst (-1), 1), (14, .iconst (-1), 1), (15, .iconst (-1), 1), (16, .invokevirtual 109, 3), (19, .putfield 54, 3), (22, .aload_n 0, 1), (23, .getfield 35, 3), (26, .getfield 157, 3), (29, .aload_n 0, 1), (30, .getfield 54, 3), (33, .iload_n 1, 1), (34, .iastore, 1), (35, .aload_n 0, 1), (36, .getfield 35, 3), (39, .getfield 159, 3), (42, .aload_n 0, 1), (43, .getfield 54, 3), (46, .iload_n 2, 1), (47, .iastore, 1), (48, .aload_n 0, 1), (49, .bipush 15, 2), (51, .invokevirtual 113, 3), (54, .ireturn, 1)],
  [(35, 4, 7, (.object "GameText$Code"), false), (9, 4, 0, (.object "GameText$Words"), true), (106, 1, 4, .int, false), (54, 4, 13, .int, false), (157, 3, 5, (.array .int), false), (159, 3, 6, (.array .int), false)],
  [(109, 1, 30, 5), (113, 1, 32, 1)],
  [],
  [],
  [],
  [])
/-- GameText$Parser.takesItem()Z -/
def tE_47 : tb_E := (("GameText$Parser", 4, false, prog_8_method_3_code, 1, (some .boolean), ⟨"GameText$Parser", "takesItem", "()Z"⟩),
  [(0, .aload_n 0, 1), (1, .getfield 9, 3), (4, .getfield 79, 3), (7, .tableswitch 115 300 308 #[49, 65, 115, 57, 87, 101, 115, 115, 73], 49), (56, .aload_n 0, 1), (57, .bipush 27, 2), (59, .iconst 0, 1), (60, .invokevirtual 98, 3), (63, .ireturn, 1), (64, .aload_n 0, 1), (65, .bipush 28, 2), (67, .iconst 0, 1), (68, .invokevirtual 98, 3), (71, .ireturn, 1), (72, .aload_n 0, 1), (73, .bipush 29, 2), (75, .iconst 0, 1), (76, .invokevirtual 98, 3), (79, .ireturn, 1), (80, .aload_n 0, 1), (81, .bipush 30, 2), (83, .iconst 0, 1), (84, .invokevirtual 98, 3), (87, .pop, 1), (88, .aload_n 0, 1), (89, .iconst 4, 1), (90, .invokevirtual 102, 3), (93, .ireturn, 1), (94, .aload_n 0, 1), (95, .bipush 31, 2), (97, .iconst 1, 1), (98, .invokevirtual 98, 3), (101, .pop, 1), (102, .aload_n 0, 1), (103, .iconst 5, 1), (104, .invokevirtual 102, 3), (107, .ireturn, 1), (108, .aload_n 0, 1), (109, .bipush 31, 2), (111, .iconst 2, 1), (112, .invokevirtual 98, 3), (115, .pop, 1), (116, .aload_n 0, 1), (117, .iconst 5, 1), (118, .invokevirtual 102, 3), (121, .ireturn, 1), (122, .iconst 0, 1), (123, .ireturn, 1)],
  [(9, 4, 0, (.object "GameText$Words"), true), (79, 1, 3, .int, false)],
  [(98, 1, 48, 2), (102, 1, 39, 1)],
  [],
  [],
  [],
  [])
/-- GameText$Parser.begins(II)Z -/
def tE_48 : tb_E := (("GameText$Parser", 4, false, prog_8_method_4_code, 3, (some .boolean), ⟨"GameText$Parser", "begins", "(II)Z"⟩),
  [(0, .aload_n 0, 1), (1, .aload_n 0, 1), (2, .getfield 35, 3), (5, .iload_n 1, 1), (6, .aload_n 0, 1), (7, .getfield 9, 3), (10, .getfield 106, 3), (13, .iload_n 2, 1), (14, .iconst (-1), 1), (15, .iconst (-1), 1), (16, .invokevirtual 109, 3), (19, .putfield 57, 3), (22, .aload_n 0, 1), (23, .iconst 1, 1), (24, .invokevirtual 113, 3), (27, .ireturn, 1)],
  [(35, 4, 7, (.object "GameText$Code"), false), (9, 4, 0, (.object "GameText$Words"), true), (106, 1, 4, .int, false), (57, 4, 14, .int, false)],
  [(109, 1, 30, 5), (113, 1, 32, 1)],
  [],
  [],
  [],
  [])
/-- GameText$Parser.takesInDefinition()Z -/
def tE_49 : tb_E := (("GameText$Parser", 4, false, prog_8_method_7_code, 2, (some .boolean), ⟨"GameText$Parser", "takesInDefinition", "()Z"⟩),
  [(0, .aload_n 0, 1), (1, .getfield 9, 3), (4, .getfield 79, 3), (7, .istore_n 1, 1), (8, .aload_n 0, 1), (9, .getfield 39, 3), (12, .tableswitch 240 1 5 #[36, 116, 136, 156, 206], 36), (48, .aload_n 0, 1), (49, .getfield 35, 3), (52, .getfield 116, 3), (55, .aload_n 0, 1), (56, .getfield 57, 3), (59, .aload_n 0, 1), (60, .getfield 9, 3), (63, .getfield 106, 3), (66, .iastore, 1), (67, .aload_n 0, 1), (68, .getfield 35, 3), (71, .getfield 119, 3), (74, .aload_n 0, 1), (75, .getfield 57, 3), (78, .aload_n 0, 1), (79, .getfield 9, 3), (82, .getfield 122, 3), (85, .iastore, 1), (86, .iload_n 1, 1), (87, .sipush 261, 3), (90, .if_icmp .ne 36, 3), (93, .aload_n 0, 1), (94, .aload_n 0, 1), (95, .getfield 35, 3), (98, .getfield 123, 3), (101, .aload_n 0, 1), (102, .getfield 57, 3), (105, .iaload, 1), (106, .bipush 29, 2), (108, .if_icmp .ne 7, 3), (111, .iconst 3, 1), (112, .goto 4, 3), (115, .iconst 2, 1), (116, .invokevirtual 113, 3), (119, .ifCond .eq 7, 3), (122, .iconst 1, 1), (123, .goto 4, 3), (126, .iconst 0, 1), (127, .ireturn, 1), (128, .iload_n 1, 1), (129, .bipush 61, 2), (131, .if_icmp .ne 15, 3), (134, .aload_n 0, 1), (135, .iconst 0, 1), (136, .invokevirtual 102, 3), (139, .ifCond .eq 7, 3), (142, .iconst 1, 1), (143, .goto 4, 3), (146, .iconst 0, 1), (147, .ireturn, 1), (148, .iload_n 1, 1), (149, .bipush 58, 2), (151, .if_icmp .ne 15, 3), (154, .aload_n 0, 1), (155, .iconst 4, 1), (156, .invokevirtual 113, 3), (159, .ifCond .eq 7, 3), (162, .iconst 1, 1), (163, .goto 4, 3), (166, .iconst 0, 1), (167, .ireturn, 1), (168, .iload_n 1, 1), (169, .sipush 302, 3), (172, .if_icmp .ne 22, 3), (175, .aload_n 0, 1), (176, .getfield 35, 3), (179, .getfield 126, 3), (182, .aload_n 0, 1), (183, .getfield 57, 3), (186, .iconst 2, 1), (187, .iastore, 1), (188, .aload_n 0, 1), (189, .iconst 5, 1), (190, .invokevirtual 113, 3), (193, .ireturn, 1), (194, .aload_n 0, 1), (195, .getfield 35, 3), (198, .getfield 126, 3), (201, .aload_n 0, 1), (202, .getfield 57, 3), (205, .iconst 1, 1), (206, .iastore, 1), (207, .aload_n 0, 1), (208, .iconst 1, 1), (209, .invokevirtual 102, 3), (212, .pop, 1), (213, .aload_n 0, 1), (214, .invokevirtual 86, 3), (217, .ireturn, 1), (218, .iload_n 1, 1), (219, .sipush 306, 3), (222, .if_icmp .ne 11, 3), (225, .aload_n 0, 1), (226, .iconst 3, 1), (227, .invokevirtual 102, 3), (230, .goto 21, 3), (233, .iload_n 1, 1), (234, .bipush 59, 2), (236, .if_icmp .ne 14, 3), (239, .aload_n 0, 1), (240, .invokevirtual 129, 3), (243, .ifCond .eq 7, 3), (246, .iconst 1, 1), (247, .goto 4, 3), (250, .iconst 0, 1), (251, .ireturn, 1), (252, .iconst 0, 1), (253, .ireturn, 1)],
  [(9, 4, 0, (.object "GameText$Words"), true), (79, 1, 3, .int, false), (39, 4, 8, .int, false), (35, 4, 7, (.object "GameText$Code"), false), (116, 3, 2, (.array .int), false), (57, 4, 14, .int, false), (106, 1, 4, .int, false), (119, 3, 3, (.array .int), false), (122, 1, 5, .int, false), (123, 3, 0, (.array .int), false), (126, 3, 4, (.array .int), false)],
  [(113, 1, 32, 1), (102, 1, 39, 1), (86, 1, 45, 0), (129, 1, 40, 0)],
  [],
  [],
  [],
  [])
/-- GameText$Parser.takesInBranch()Z -/
def tE_50 : tb_E := (("GameText$Parser", 4, false, prog_8_method_9_code, 2, (some .boolean), ⟨"GameText$Parser", "takesInBranch", "()Z"⟩),
  [(0, .aload_n 0, 1), (1, .getfield 9, 3), (4, .getfield 79, 3), (7, .istore_n 1, 1), (8, .aload_n 0, 1), (9, .getfield 39, 3), (12, .tableswitch 248 6 13 #[48, 83, 88, 107, 158, 179, 200, 220], 48), (60, .iload_n 1, 1), (61, .sipush 307, 3), (64, .if_icmp .ne 12, 3), (67, .aload_n 0, 1), (68, .bipush 7, 2), (70, .invokevirtual 113, 3), (73, .goto 21, 3), (76, .iload_n 1, 1), (77, .bipush 40, 2), (79, .if_icmp .ne 14, 3), (82, .aload_n 0, 1), (83, .invokevirtual 132, 3), (86, .ifCond .eq 7, 3), (89, .iconst 1, 1), (90, .goto 4, 3), (93, .iconst 0, 1), (94, .ireturn, 1), (95, .aload_n 0, 1), (96, .invokevirtual 135, 3), (99, .ireturn, 1), (100, .iload_n 1, 1), (101, .bipush 40, 2), (103, .if_icmp .ne 14, 3), (106, .aload_n 0, 1), (107, .invokevirtual 132, 3), (110, .ifCond .eq 7, 3), (113, .iconst 1, 1), (114, .goto 4, 3), (117, .iconst 0, 1), (118, .ireturn, 1), (119, .aload_n 0, 1), (120, .getfield 35, 3), (123, .bipush 33, 2), (125, .aload_n 0, 1), (126, .getfield 63, 3), (129, .aload_n 0, 1), (130, .getfield 9, 3), (133, .getfield 106, 3), (136, .aload_n 0, 1), (137, .getfield 9, 3), (140, .getfield 122, 3), (143, .iconst (-1), 1), (144, .invokevirtual 109, 3), (147, .pop, 1), (148, .iload_n 1, 1), (149, .sipush 261, 3), (152, .if_icmp .ne 16, 3), (155, .aload_n 0, 1), (156, .bipush 10, 2), (158, .invokevirtual 113, 3), (161, .ifCond .eq 7, 3), (164, .iconst 1, 1), (165, .goto 4, 3), (168, .iconst 0, 1), (169, .ireturn, 1), (170, .iload_n 1, 1), (171, .bipush 39, 2), (173, .if_icmp .ne 16, 3), (176, .aload_n 0, 1), (177, .bipush 11, 2), (179, .invokevirtual 113, 3), (182, .ifCond .eq 7, 3), (185, .iconst 1, 1), (186, .goto 4, 3), (189, .iconst 0, 1), (190, .ireturn, 1), (191, .iload_n 1, 1), (192, .bipush 61, 2), (194, .if_icmp .ne 16, 3), (197, .aload_n 0, 1), (198, .bipush 7, 2), (200, .invokevirtual 102, 3), (203, .ifCond .eq 7, 3), (206, .iconst 1, 1), (207, .goto 4, 3), (210, .iconst 0, 1), (211, .ireturn, 1), (212, .iload_n 1, 1), (213, .bipush 38, 2), (215, .if_icmp .ne 12, 3), (218, .aload_n 0, 1), (219, .bipush 8, 2), (221, .invokevirtual 113, 3), (224, .goto 7, 3), (227, .aload_n 0, 1), (228, .invokevirtual 135, 3), (231, .ireturn, 1), (232, .iload_n 1, 1), (233, .bipush 40, 2), (235, .if_icmp .ne 23, 3), (238, .aload_n 0, 1), (239, .invokevirtual 138, 3), (242, .ifCond .eq 16, 3), (245, .aload_n 0, 1), (246, .bipush 14, 2), (248, .invokevirtual 113, 3), (251, .ifCond .eq 7, 3), (254, .iconst 1, 1), (255, .goto 4, 3), (258, .iconst 0, 1), (259, .ireturn, 1), (260, .iconst 0, 1), (261, .ireturn, 1)],
  [(9, 4, 0, (.object "GameText$Words"), true), (79, 1, 3, .int, false), (39, 4, 8, .int, false), (35, 4, 7, (.object "GameText$Code"), false), (63, 4, 16, .int, false), (106, 1, 4, .int, false), (122, 1, 5, .int, false)],
  [(113, 1, 32, 1), (132, 1, 51, 0), (135, 1, 52, 0), (109, 1, 30, 5), (102, 1, 39, 1), (138, 1, 36, 0)],
  [],
  [],
  [],
  [])
/-- GameText$Parser.opensSet()Z -/
def tE_51 : tb_E := (("GameText$Parser", 4, false, prog_8_method_10_code, 1, (some .boolean), ⟨"GameText$Parser", "opensSet", "()Z"⟩),
  [(0, .aload_n 0, 1), (1, .aload_n 0, 1), (2, .getfield 9, 3), (5, .getfield 106, 3), (8, .putfield 63, 3), (11, .aload_n 0, 1), (12, .bipush 9, 2), (14, .invokevirtual 113, 3), (17, .ireturn, 1)],
  [(9, 4, 0, (.object "GameText$Words"), true), (106, 1, 4, .int, false), (63, 4, 16, .int, false)],
  [(113, 1, 32, 1)],
  [],
  [],
  [],
  [])
/-- GameText$Parser.takesBranchEnd()Z -/
def tE_52 : tb_E := (("GameText$Parser", 4, false, prog_8_method_11_code, 1, (some .boolean), ⟨"GameText$Parser", "takesBranchEnd", "()Z"⟩),
  [(0, .aload_n 0, 1), (1, .getfield 9, 3), (4, .getfield 79, 3), (7, .bipush 43, 2), (9, .if_icmp .ne 8, 3), (12, .aload_n 0, 1), (13, .invokevirtual 141, 3), (16, .ireturn, 1), (17, .aload_n 0, 1), (18, .getfield 9, 3), (21, .getfield 79, 3), (24, .bipush 59, 2), (26, .if_icmp .ne 14, 3), (29, .aload_n 0, 1), (30, .invokevirtual 129, 3), (33, .ifCond .eq 7, 3), (36, .iconst 1, 1), (37, .goto 4, 3), (40, .iconst 0, 1), (41, .ireturn, 1)],
  [(9, 4, 0, (.object "GameText$Words"), true), (79, 1, 3, .int, false)],
  [(141, 1, 41, 0), (129, 1, 40, 0)],
  [],
  [],
  [],
  [])
/-- GameText$Checker.checks(LGameText$Text;)I -/
def tE_53 : tb_E := (("GameText$Checker", 6, false, prog_2_method_2_code, 5, (some .int), ⟨"GameText$Checker", "checks", "(LGameText$Text;)I"⟩),
  [(0, .aload_n 0, 1), (1, .aload_n 1, 1), (2, .putfield 24, 3), (5, .aload_n 0, 1), (6, .aload_n 1, 1), (7, .getfield 28, 3), (10, .putfield 34, 3), (13, .aload_n 0, 1), (14, .getfield 24, 3), (17, .invokevirtual 63, 3), (20, .aload_n 0, 1), (21, .getfield 14, 3), (24, .iconst 0, 1), (25, .putfield 66, 3), (28, .aload_n 0, 1), (29, .getfield 20, 3), (32, .aload_n 0, 1), (33, .getfield 24, 3), (36, .invokevirtual 69, 3), (39, .aload_n 0, 1), (40, .iconst (-1), 1), (41, .putfield 35, 3), (44, .iconst 0, 1), (45, .istore_n 2, 1), (46, .iload_n 2, 1), (47, .aload_n 0, 1), (48, .getfield 34, 3), (51, .getfield 75, 3), (54, .if_icmp .ge 66, 3), (57, .aload_n 0, 1), (58, .getfield 34, 3), (61, .getfield 80, 3), (64, .iload_n 2, 1), (65, .iaload, 1), (66, .istore_n 3, 1), (67, .iconst 0, 1), (68, .istore 4, 2), (70, .iload_n 3, 1), (71, .bipush 26, 2), (73, .if_icmp .ge 13, 3), (76, .aload_n 0, 1), (77, .iload_n 2, 1), (78, .invokevirtual 84, 3), (81, .istore 4, 2), (83, .goto 23, 3), (86, .iload_n 3, 1), (87, .bipush 34, 2), (89, .if_icmp .ne 10, 3), (92, .aload_n 0, 1), (93, .invokevirtual 88, 3), (96, .goto 8, 3), (99, .aload_n 0, 1), (100, .iload_n 2, 1), (101, .invokevirtual 92, 3), (104, .istore 4, 2), (106, .iload 4, 2), (108, .ifCond .eq 6, 3), (111, .iload 4, 2), (113, .ireturn, 1), (114, .iinc 2 1, 3), (117, .goto (-71), 3), (120, .aload_n 0, 1), (121, .getfield 24, 3), (124, .getfield 95, 3), (127, .ifCond .ge 22, 3), (130, .aload_n 0, 1), (131, .bipush 10, 2), (133, .aload_n 0, 1), (134, .getfield 14, 3), (137, .getfield 98, 3), (140, .getfield 102, 3), (143, .invokevirtual 107, 3), (146, .goto 4, 3), (149, .iconst 0, 1), (150, .ireturn, 1)],
  [(24, 6, 2, (.object "GameText$Text"), false), (28, 2, 0, (.object "GameText$Code"), true), (34, 6, 3, (.object "GameText$Code"), false), (14, 6, 0, (.object "GameText$Names"), true), (66, 7, 5, .int, false), (20, 6, 1, (.object "GameText$Machine"), true), (35, 6, 4, .int, false), (75, 3, 8, .int, false), (80, 3, 0, (.array .int), false), (95, 2, 11, .int, false), (98, 7, 0, (.object "GameText$Words"), true), (102, 1, 1, .int, false)],
  [(63, 1, 54, 0), (69, 1, 55, 1), (84, 1, 57, 1), (88, 1, 67, 0), (92, 1, 84, 1), (107, 1, 61, 2)],
  [],
  [],
  [],
  [])
/-- GameText$Text.clear()V -/
def tE_54 : tb_E := (("GameText$Text", 2, false, prog_9_method_2_code, 1, none, ⟨"GameText$Text", "clear", "()V"⟩),
  [(0, .aload_n 0, 1), (1, .iconst 0, 1), (2, .putfield 37, 3), (5, .aload_n 0, 1), (6, .iconst 0, 1), (7, .putfield 41, 3), (10, .aload_n 0, 1), (11, .iconst 0, 1), (12, .putfield 44, 3), (15, .aload_n 0, 1), (16, .iconst 0, 1), (17, .putfield 47, 3), (20, .aload_n 0, 1), (21, .iconst (-1), 1), (22, .putfield 50, 3), (25, .return_, 1)],
  [(37, 2, 7, .int, false), (41, 2, 8, .int, false), (44, 2, 9, .int, false), (47, 2, 10, .int, false), (50, 2, 11, .int, false)],
  [],
  [],
  [],
  [],
  [])
/-- GameText$Machine.load(LGameText$Text;)V -/
def tE_55 : tb_E := (("GameText$Machine", 5, false, prog_6_method_2_code, 2, none, ⟨"GameText$Machine", "load", "(LGameText$Text;)V"⟩),
  [(0, .aload_n 0, 1), (1, .aload_n 1, 1), (2, .putfield 21, 3), (5, .aload_n 0, 1), (6, .aload_n 1, 1), (7, .getfield 25, 3), (10, .putfield 31, 3), (13, .aload_n 0, 1), (14, .iconst 1, 1), (15, .putfield 32, 3), (18, .aload_n 0, 1), (19, .getfield 15, 3), (22, .iconst 0, 1), (23, .invokestatic 46, 3), (26, .return_, 1)],
  [(21, 5, 3, (.object "GameText$Text"), false), (25, 2, 0, (.object "GameText$Code"), true), (31, 5, 4, (.object "GameText$Code"), false), (32, 5, 5, .int, false), (15, 5, 1, (.array .int), true)],
  [(46, 0, 56, 2)],
  [],
  [],
  [],
  [])
/-- java/util/Arrays.fill([II)V -/
def tE_56 : tb_E := (("java/util/Arrays", 99, false, prog_28_method_103_code, 4, none, ⟨"java/util/Arrays", "fill", "([II)V"⟩),
  [(0, .iconst 0, 1), (1, .istore_n 2, 1), (2, .aload_n 0, 1), (3, .arraylength, 1), (4, .istore_n 3, 1), (5, .iload_n 2, 1), (6, .iload_n 3, 1), (7, .if_icmp .ge 13, 3), (10, .aload_n 0, 1), (11, .iload_n 2, 1), (12, .iload_n 1, 1), (13, .iastore, 1), (14, .iinc 2 1, 3), (17, .goto (-12), 3), (20, .return_, 1)],
  [],
  [],
  [],
  [],
  [],
  [])
/-- GameText$Checker.looksAtValue(I)I -/
def tE_57 : tb_E := (("GameText$Checker", 6, false, prog_2_method_4_code, 2, (some .int), ⟨"GameText$Checker", "looksAtValue", "(I)I"⟩),
  [(0, .aload_n 0, 1), (1, .getfield 34, 3), (4, .getfield 80, 3), (7, .iload_n 1, 1), (8, .iaload, 1), (9, .tableswitch 234 1 22 #[103, 234, 234, 109, 109, 109, 109, 109, 122, 143, 143, 160, 160, 160, 160, 173, 194, 194, 207, 213, 213, 122], 103), (112, .aload_n 0, 1), (113, .iload_n 1, 1), (114, .invokevirtual 111, 3), (117, .ireturn, 1), (118, .aload_n 0, 1), (119, .iload_n 1, 1), (120, .iconst 1, 1), (121, .aload_n 0, 1), (122, .iload_n 1, 1), (123, .iconst 1, 1), (124, .invokevirtual 114, 3), (127, .invokevirtual 118, 3), (130, .ireturn, 1), (131, .aload_n 0, 1), (132, .iload_n 1, 1), (133, .iconst 1, 1), (134, .aload_n 0, 1), (135, .iload_n 1, 1), (136, .invokevirtual 122, 3), (139, .iconst 1, 1), (140, .if_icmp .ne 7, 3), (143, .iconst 1, 1), (144, .goto 4, 3), (147, .iconst 0, 1), (148, .invokevirtual 118, 3), (151, .ireturn, 1), (152, .aload_n 0, 1), (153, .iload_n 1, 1), (154, .iconst 2, 1), (155, .aload_n 0, 1), (156, .iload_n 1, 1), (157, .aload_n 0, 1), (158, .iload_n 1, 1), (159, .invokevirtual 122, 3), (162, .invokevirtual 114, 3), (165, .invokevirtual 118, 3), (168, .ireturn, 1), (169, .aload_n 0, 1), (170, .iload_n 1, 1), (171, .iconst 2, 1), (172, .aload_n 0, 1), (173, .iload_n 1, 1), (174, .iconst 1, 1), (175, .invokevirtual 114, 3), (178, .invokevirtual 118, 3), (181, .ireturn, 1), (182, .aload_n 0, 1), (183, .iload_n 1, 1), (184, .iconst 2, 1), (185, .aload_n 0, 1), (186, .iload_n 1, 1), (187, .invokevirtual 122, 3), (190, .iconst 2, 1), (191, .if_icmp .ne 7, 3), (194, .iconst 1, 1), (195, .goto 4, 3), (198, .iconst 0, 1), (199, .invokevirtual 118, 3), (202, .ireturn, 1), (203, .aload_n 0, 1), (204, .iload_n 1, 1), (205, .iconst 2, 1), (206, .aload_n 0, 1), (207, .iload_n 1, 1), (208, .iconst 2, 1), (209, .invokevirtual 114, 3), (212, .invokevirtual 118, 3), (215, .ireturn, 1), (216, .aload_n 0, 1), (217, .iload_n 1, 1), (218, .invokevirtual 125, 3), (221, .ireturn, 1), (222, .aload_n 0, 1), (223, .iload_n 1, 1), (224, .aload_n 0, 1), (225, .iload_n 1, 1), (226, .iconst 1, 1), (227, .invokevirtual 114, 3), (230, .ifCond .eq 7, 3), (233, .iconst 1, 1), (234, .goto 4, 3), (237, .iconst 0, 1), (238, .iconst 1, 1), (239, .invokevirtual 118, 3), (242, .ireturn, 1), (243, .iconst 0, 1), (244, .ireturn, 1)],
  [(34, 6, 3, (.object "GameText$Code"), false), (80, 3, 0, (.array .int), false)],
  [(111, 1, 58, 1), (114, 1, 64, 2), (118, 1, 65, 3), (122, 1, 63, 1), (125, 1, 66, 1)],
  [],
  [],
  [],
  [])
/-- GameText$Checker.looksAtName(I)I -/
def tE_58 : tb_E := (("GameText$Checker", 6, false, prog_2_method_9_code, 6, (some .int), ⟨"GameText$Checker", "looksAtName", "(I)I"⟩),
  [(0, .aload_n 0, 1), (1, .getfield 14, 3), (4, .aload_n 0, 1), (5, .getfield 34, 3), (8, .getfield 133, 3), (11, .iload_n 1, 1), (12, .iaload, 1), (13, .aload_n 0, 1), (14, .getfield 34, 3), (17, .getfield 136, 3), (20, .iload_n 1, 1), (21, .iaload, 1), (22, .invokevirtual 142, 3), (25, .istore_n 2, 1), (26, .aload_n 0, 1), (27, .getfield 34, 3), (30, .getfield 80, 3), (33, .aload_n 0, 1), (34, .getfield 39, 3), (37, .iaload, 1), (38, .istore_n 3, 1), (39, .iload_n 3, 1), (40, .bipush 27, 2), (42, .if_icmp .eq 9, 3), (45, .iload_n 3, 1), (46, .bipush 29, 2), (48, .if_icmp .ne 7, 3), (51, .iconst 1, 1), (52, .goto 4, 3), (55, .iconst 0, 1), (56, .istore 4, 2), (58, .iload_n 2, 1), (59, .ifCond .lt 22, 3), (62, .iload 4, 2), (64, .ifCond .eq 32, 3), (67, .aload_n 0, 1), (68, .getfield 14, 3), (71, .getfield 145, 3), (74, .iload_n 2, 1), (75, .iaload, 1), (76, .bipush 27, 2), (78, .if_icmp .eq 18, 3), (81, .aload_n 0, 1), (82, .iconst 2, 1), (83, .aload_n 0, 1), (84, .getfield 34, 3), (87, .getfield 131, 3), (90, .iload_n 1, 1), (91, .iaload, 1), (92, .invokevirtual 107, 3), (95, .ireturn, 1), (96, .aload_n 0, 1), (97, .getfield 14, 3), (100, .getfield 148, 3), (103, .iload_n 2, 1), (104, .iaload, 1), (105, .istore 5, 2), (107, .aload_n 0, 1), (108, .getfield 14, 3), (111, .getfield 145, 3), (114, .iload_n 2, 1), (115, .iaload, 1), (116, .bipush 27, 2), (118, .if_icmp .ne 26, 3), (121, .aload_n 0, 1), (122, .getfield 34, 3), (125, .iload 5, 2), (127, .iload_n 1, 1), (128, .invokevirtual 151, 3), (131, .aload_n 0, 1), (132, .getfield 34, 3), (135, .getfield 80, 3), (138, .iload_n 1, 1), (139, .iconst 0, 1), (140, .iastore, 1), (141, .goto 104, 3), (144, .aload_n 0, 1), (145, .getfield 14, 3), (148, .getfield 145, 3), (151, .iload_n 2, 1), (152, .iaload, 1), (153, .bipush 28, 2), (155, .if_icmp .ne 50, 3), (158, .aload_n 0, 1), (159, .getfield 34, 3), (162, .getfield 80, 3), (165, .iload_n 1, 1), (166, .iconst 3, 1), (167, .iastore, 1), (168, .aload_n 0, 1), (169, .getfield 34, 3), (172, .getfield 133, 3), (175, .iload_n 1, 1), (176, .iload 5, 2), (178, .iastore, 1), (179, .aload_n 0, 1), (180, .getfield 34, 3), (183, .getfield 128, 3), (186, .iload_n 1, 1), (187, .aload_n 0, 1), (188, .aload_n 0, 1), (189, .getfield 24, 3), (192, .getfield 155, 3), (195, .iload 5, 2), (197, .iaload, 1), (198, .invokevirtual 122, 3), (201, .iastore, 1), (202, .goto 43, 3), (205, .aload_n 0, 1), (206, .getfield 34, 3), (209, .getfield 80, 3), (212, .iload_n 1, 1), (213, .iconst 2, 1), (214, .iastore, 1), (215, .aload_n 0, 1), (216, .getfield 34, 3), (219, .getfield 133, 3), (222, .iload_n 1, 1), (223, .iload 5, 2), (225, .iastore, 1), (226, .aload_n 0, 1), (227, .getfield 34, 3), (230, .getfield 128, 3), (233, .iload_n 1, 1), (234, .aload_n 0, 1), (235, .getfield 24, 3), (238, .getfield 158, 3), (241, .iload 5, 2), (243, .iaload, 1), (244, .iastore, 1), (245, .iconst 0, 1), (246, .ireturn, 1)],
  [(14, 6, 0, (.object "GameText$Names"), true), (34, 6, 3, (.object "GameText$Code"), false), (133, 3, 2, (.array .int), false), (136, 3, 3, (.array .int), false), (80, 3, 0, (.array .int), false), (39, 6, 5, .int, false), (145, 7, 3, (.array .int), true), (131, 3, 1, (.array .int), false), (148, 7, 4, (.array .int), true), (128, 3, 5, (.array .int), false), (24, 6, 2, (.object "GameText$Text"), false), (155, 2, 5, (.array .int), true), (158, 2, 4, (.array .int), true)],
  [(142, 1, 59, 2), (107, 1, 61, 2), (151, 1, 62, 2), (122, 1, 63, 1)],
  [],
  [],
  [],
  [])
/-- GameText$Names.find(II)I -/
def tE_59 : tb_E := (("GameText$Names", 7, false, prog_7_method_3_code, 4, (some .int), ⟨"GameText$Names", "find", "(II)I"⟩),
  [(0, .iconst 0, 1), (1, .istore_n 3, 1), (2, .iload_n 3, 1), (3, .aload_n 0, 1), (4, .getfield 28, 3), (7, .if_icmp .ge 36, 3), (10, .aload_n 0, 1), (11, .getfield 19, 3), (14, .iload_n 3, 1), (15, .iaload, 1), (16, .iload_n 2, 1), (17, .if_icmp .ne 20, 3), (20, .aload_n 0, 1), (21, .aload_n 0, 1), (22, .getfield 15, 3), (25, .iload_n 3, 1), (26, .iaload, 1), (27, .iload_n 1, 1), (28, .iload_n 2, 1), (29, .invokevirtual 32, 3), (32, .ifCond .eq 5, 3), (35, .iload_n 3, 1), (36, .ireturn, 1), (37, .iinc 3 1, 3), (40, .goto (-38), 3), (43, .iconst (-1), 1), (44, .ireturn, 1)],
  [(28, 7, 5, .int, false), (19, 7, 2, (.array .int), true), (15, 7, 1, (.array .int), true)],
  [(32, 1, 60, 3)],
  [],
  [],
  [],
  [])
/-- GameText$Names.isSame(III)Z -/
def tE_60 : tb_E := (("GameText$Names", 7, false, prog_7_method_4_code, 5, (some .boolean), ⟨"GameText$Names", "isSame", "(III)Z"⟩),
  [(0, .iconst 0, 1), (1, .istore 4, 2), (3, .iload 4, 2), (5, .iload_n 3, 1), (6, .if_icmp .ge 38, 3), (9, .aload_n 0, 1), (10, .getfield 9, 3), (13, .getfield 36, 3), (16, .iload_n 1, 1), (17, .iload 4, 2), (19, .iadd, 1), (20, .iaload, 1), (21, .aload_n 0, 1), (22, .getfield 9, 3), (25, .getfield 36, 3), (28, .iload_n 2, 1), (29, .iload 4, 2), (31, .iadd, 1), (32, .iaload, 1), (33, .if_icmp .eq 5, 3), (36, .iconst 0, 1), (37, .ireturn, 1), (38, .iinc 4 1, 3), (41, .goto (-38), 3), (44, .iconst 1, 1), (45, .ireturn, 1)],
  [(9, 7, 0, (.object "GameText$Words"), true), (36, 1, 0, (.array .int), false)],
  [],
  [],
  [],
  [],
  [])
/-- GameText$Checker.fails(II)I -/
def tE_61 : tb_E := (("GameText$Checker", 6, false, prog_2_method_3_code, 3, (some .int), ⟨"GameText$Checker", "fails", "(II)I"⟩),
  [(0, .aload_n 0, 1), (1, .iload_n 2, 1), (2, .putfield 35, 3), (5, .iload_n 1, 1), (6, .ireturn, 1)],
  [(35, 6, 4, .int, false)],
  [],
  [],
  [],
  [],
  [])
/-- GameText$Code.copyValue(II)V -/
def tE_62 : tb_E := (("GameText$Code", 3, false, prog_3_method_3_code, 3, none, ⟨"GameText$Code", "copyValue", "(II)V"⟩),
  [(0, .aload_n 0, 1), (1, .getfield 27, 3), (4, .iload_n 2, 1), (5, .aload_n 0, 1), (6, .getfield 27, 3), (9, .iload_n 1, 1), (10, .iaload, 1), (11, .iastore, 1), (12, .aload_n 0, 1), (13, .getfield 30, 3), (16, .iload_n 2, 1), (17, .aload_n 0, 1), (18, .getfield 30, 3), (21, .iload_n 1, 1), (22, .iaload, 1), (23, .iastore, 1), (24, .aload_n 0, 1), (25, .getfield 33, 3), (28, .iload_n 2, 1), (29, .aload_n 0, 1), (30, .getfield 33, 3), (33, .iload_n 1, 1), (34, .iaload, 1), (35, .iastore, 1), (36, .return_, 1)],
  [(27, 3, 5, (.array .int), false), (30, 3, 6, (.array .int), false), (33, 3, 7, (.array .int), false)],
  [],
  [],
  [],
  [],
  [])
/-- GameText$Checker.kindOfFirst(I)I -/
def tE_63 : tb_E := (("GameText$Checker", 6, false, prog_2_method_6_code, 2, (some .int), ⟨"GameText$Checker", "kindOfFirst", "(I)I"⟩),
  [(0, .aload_n 0, 1), (1, .getfield 34, 3), (4, .getfield 128, 3), (7, .aload_n 0, 1), (8, .getfield 34, 3), (11, .getfield 133, 3), (14, .iload_n 1, 1), (15, .iaload, 1), (16, .iaload, 1), (17, .ireturn, 1)],
  [(34, 6, 3, (.object "GameText$Code"), false), (128, 3, 5, (.array .int), false), (133, 3, 2, (.array .int), false)],
  [],
  [],
  [],
  [],
  [])
/-- GameText$Checker.areBoth(II)Z -/
def tE_64 : tb_E := (("GameText$Checker", 6, false, prog_2_method_7_code, 3, (some .boolean), ⟨"GameText$Checker", "areBoth", "(II)Z"⟩),
  [(0, .aload_n 0, 1), (1, .getfield 34, 3), (4, .getfield 128, 3), (7, .aload_n 0, 1), (8, .getfield 34, 3), (11, .getfield 133, 3), (14, .iload_n 1, 1), (15, .iaload, 1), (16, .iaload, 1), (17, .iload_n 2, 1), (18, .if_icmp .ne 28, 3), (21, .aload_n 0, 1), (22, .getfield 34, 3), (25, .getfield 128, 3), (28, .aload_n 0, 1), (29, .getfield 34, 3), (32, .getfield 136, 3), (35, .iload_n 1, 1), (36, .iaload, 1), (37, .iaload, 1), (38, .iload_n 2, 1), (39, .if_icmp .ne 7, 3), (42, .iconst 1, 1), (43, .goto 4, 3), (46, .iconst 0, 1), (47, .ireturn, 1)],
  [(34, 6, 3, (.object "GameText$Code"), false), (128, 3, 5, (.array .int), false), (133, 3, 2, (.array .int), false), (136, 3, 3, (.array .int), false)],
  [],
  [],
  [],
  [],
  [])
/-- GameText$Checker.makes(IIZ)I -/
def tE_65 : tb_E := (("GameText$Checker", 6, false, prog_2_method_5_code, 4, (some .int), ⟨"GameText$Checker", "makes", "(IIZ)I"⟩),
  [(0, .aload_n 0, 1), (1, .getfield 34, 3), (4, .getfield 128, 3), (7, .iload_n 1, 1), (8, .iload_n 2, 1), (9, .iastore, 1), (10, .iload_n 3, 1), (11, .ifCond .eq 7, 3), (14, .iconst 0, 1), (15, .goto 17, 3), (18, .aload_n 0, 1), (19, .iconst 3, 1), (20, .aload_n 0, 1), (21, .getfield 34, 3), (24, .getfield 131, 3), (27, .iload_n 1, 1), (28, .iaload, 1), (29, .invokevirtual 107, 3), (32, .ireturn, 1)],
  [(34, 6, 3, (.object "GameText$Code"), false), (128, 3, 5, (.array .int), false), (131, 3, 1, (.array .int), false)],
  [(107, 1, 61, 2)],
  [],
  [],
  [],
  [])
/-- GameText$Checker.looksAtChoice(I)I -/
def tE_66 : tb_E := (("GameText$Checker", 6, false, prog_2_method_8_code, 4, (some .int), ⟨"GameText$Checker", "looksAtChoice", "(I)I"⟩),
  [(0, .aload_n 0, 1), (1, .getfield 34, 3), (4, .getfield 128, 3), (7, .aload_n 0, 1), (8, .getfield 34, 3), (11, .getfield 136, 3), (14, .iload_n 1, 1), (15, .iaload, 1), (16, .iaload, 1), (17, .istore_n 2, 1), (18, .aload_n 0, 1), (19, .iload_n 1, 1), (20, .invokevirtual 122, 3), (23, .iconst 2, 1), (24, .if_icmp .ne 28, 3), (27, .aload_n 0, 1), (28, .getfield 34, 3), (31, .getfield 128, 3), (34, .aload_n 0, 1), (35, .getfield 34, 3), (38, .getfield 139, 3), (41, .iload_n 1, 1), (42, .iaload, 1), (43, .iaload, 1), (44, .iload_n 2, 1), (45, .if_icmp .ne 7, 3), (48, .iconst 1, 1), (49, .goto 4, 3), (52, .iconst 0, 1), (53, .istore_n 3, 1), (54, .aload_n 0, 1), (55, .iload_n 1, 1), (56, .iload_n 2, 1), (57, .iload_n 3, 1), (58, .invokevirtual 118, 3), (61, .ireturn, 1)],
  [(34, 6, 3, (.object "GameText$Code"), false), (128, 3, 5, (.array .int), false), (136, 3, 3, (.array .int), false), (139, 3, 4, (.array .int), false)],
  [(122, 1, 63, 1), (118, 1, 65, 3)],
  [],
  [],
  [],
  [])
/-- GameText$Checker.finishes()I -/
def tE_67 : tb_E := (("GameText$Checker", 6, false, prog_2_method_16_code, 1, (some .int), ⟨"GameText$Checker", "finishes", "()I"⟩),
  [(0, .aload_n 0, 1), (1, .getfield 34, 3), (4, .getfield 80, 3), (7, .aload_n 0, 1), (8, .getfield 39, 3), (11, .iaload, 1), (12, .tableswitch 165 27 30 #[32, 37, 124, 152], 32), (44, .aload_n 0, 1), (45, .invokevirtual 184, 3), (48, .ireturn, 1), (49, .aload_n 0, 1), (50, .getfield 14, 3), (53, .aload_n 0, 1), (54, .getfield 34, 3), (57, .getfield 133, 3), (60, .aload_n 0, 1), (61, .getfield 39, 3), (64, .iaload, 1), (65, .aload_n 0, 1), (66, .getfield 34, 3), (69, .getfield 136, 3), (72, .aload_n 0, 1), (73, .getfield 39, 3), (76, .iaload, 1), (77, .bipush 28, 2), (79, .aload_n 0, 1), (80, .getfield 24, 3), (83, .getfield 187, 3), (86, .invokevirtual 190, 3), (89, .aload_n 0, 1), (90, .getfield 24, 3), (93, .getfield 155, 3), (96, .aload_n 0, 1), (97, .getfield 24, 3), (100, .getfield 187, 3), (103, .aload_n 0, 1), (104, .getfield 42, 3), (107, .iastore, 1), (108, .aload_n 0, 1), (109, .getfield 24, 3), (112, .dup, 1), (113, .getfield 187, 3), (116, .iconst 1, 1), (117, .iadd, 1), (118, .putfield 187, 3), (121, .aload_n 0, 1), (122, .getfield 24, 3), (125, .dup, 1), (126, .getfield 162, 3), (129, .iconst 1, 1), (130, .iadd, 1), (131, .putfield 162, 3), (134, .iconst 0, 1), (135, .ireturn, 1), (136, .aload_n 0, 1), (137, .getfield 34, 3), (140, .getfield 139, 3), (143, .aload_n 0, 1), (144, .getfield 39, 3), (147, .iaload, 1), (148, .iconst 2, 1), (149, .if_icmp .ne 10, 3), (152, .aload_n 0, 1), (153, .invokevirtual 194, 3), (156, .goto 7, 3), (159, .aload_n 0, 1), (160, .invokevirtual 197, 3), (163, .ireturn, 1), (164, .aload_n 0, 1), (165, .getfield 24, 3), (168, .aload_n 0, 1), (169, .getfield 42, 3), (172, .putfield 95, 3), (175, .iconst 0, 1), (176, .ireturn, 1), (177, .aload_n 0, 1), (178, .getfield 24, 3), (181, .getfield 200, 3), (184, .aload_n 0, 1), (185, .getfield 24, 3), (188, .getfield 172, 3), (191, .aload_n 0, 1), (192, .getfield 39, 3), (195, .iastore, 1), (196, .aload_n 0, 1), (197, .getfield 24, 3), (200, .dup, 1), (201, .getfield 172, 3), (204, .iconst 1, 1), (205, .iadd, 1), (206, .putfield 172, 3), (209, .iconst 0, 1), (210, .ireturn, 1)],
  [(34, 6, 3, (.object "GameText$Code"), false), (80, 3, 0, (.array .int), false), (39, 6, 5, .int, false), (14, 6, 0, (.object "GameText$Names"), true), (133, 3, 2, (.array .int), false), (136, 3, 3, (.array .int), false), (24, 6, 2, (.object "GameText$Text"), false), (187, 2, 9, .int, false), (155, 2, 5, (.array .int), true), (42, 6, 6, .int, false), (162, 2, 8, .int, false), (139, 3, 4, (.array .int), false), (95, 2, 11, .int, false), (200, 2, 6, (.array .int), true), (172, 2, 10, .int, false)],
  [(184, 1, 68, 0), (190, 1, 79, 4), (194, 1, 80, 0), (197, 1, 82, 0)],
  [],
  [],
  [],
  [])
/-- GameText$Checker.finishesConst()I -/
def tE_68 : tb_E := (("GameText$Checker", 6, false, prog_2_method_19_code, 2, (some .int), ⟨"GameText$Checker", "finishesConst", "()I"⟩),
  [(0, .aload_n 0, 1), (1, .aload_n 0, 1), (2, .getfield 42, 3), (5, .invokevirtual 210, 3), (8, .istore_n 1, 1), (9, .iload_n 1, 1), (10, .ifCond .ne 61, 3), (13, .aload_n 0, 1), (14, .getfield 14, 3), (17, .aload_n 0, 1), (18, .getfield 34, 3), (21, .getfield 133, 3), (24, .aload_n 0, 1), (25, .getfield 39, 3), (28, .iaload, 1), (29, .aload_n 0, 1), (30, .getfield 34, 3), (33, .getfield 136, 3), (36, .aload_n 0, 1), (37, .getfield 39, 3), (40, .iaload, 1), (41, .bipush 27, 2), (43, .aload_n 0, 1), (44, .getfield 34, 3), (47, .getfield 133, 3), (50, .aload_n 0, 1), (51, .getfield 42, 3), (54, .iaload, 1), (55, .invokevirtual 190, 3), (58, .aload_n 0, 1), (59, .getfield 24, 3), (62, .dup, 1), (63, .getfield 162, 3), (66, .iconst 1, 1), (67, .iadd, 1), (68, .putfield 162, 3), (71, .iload_n 1, 1), (72, .ireturn, 1)],
  [(42, 6, 6, .int, false), (14, 6, 0, (.object "GameText$Names"), true), (34, 6, 3, (.object "GameText$Code"), false), (133, 3, 2, (.array .int), false), (39, 6, 5, .int, false), (136, 3, 3, (.array .int), false), (24, 6, 2, (.object "GameText$Text"), false), (162, 2, 8, .int, false)],
  [(210, 1, 69, 1), (190, 1, 79, 4)],
  [],
  [],
  [],
  [])
/-- GameText$Checker.worksOut(I)I -/
def tE_69 : tb_E := (("GameText$Checker", 6, false, prog_2_method_17_code, 3, (some .int), ⟨"GameText$Checker", "worksOut", "(I)I"⟩),
  [(0, .aload_n 0, 1), (1, .getfield 20, 3), (4, .iload_n 1, 1), (5, .invokevirtual 203, 3), (8, .istore_n 2, 1), (9, .iload_n 2, 1), (10, .ifCond .ne 7, 3), (13, .iconst 0, 1), (14, .goto 15, 3), (17, .aload_n 0, 1), (18, .iload_n 2, 1), (19, .aload_n 0, 1), (20, .getfield 20, 3), (23, .getfield 206, 3), (26, .invokevirtual 107, 3), (29, .ireturn, 1)],
  [(20, 6, 1, (.object "GameText$Machine"), true), (206, 5, 6, .int, false)],
  [(203, 1, 70, 1), (107, 1, 61, 2)],
  [],
  [],
  [],
  [])
/-- GameText$Machine.run(I)I -/
def tE_70 : tb_E := (("GameText$Machine", 5, false, prog_6_method_4_code, 8, (some .int), ⟨"GameText$Machine", "run", "(I)I"⟩),
  [(0, .iconst 0, 1), (1, .istore_n 2, 1), (2, .aload_n 0, 1), (3, .getfield 31, 3), (6, .getfield 59, 3), (9, .iload_n 1, 1), (10, .iaload, 1), (11, .istore_n 3, 1), (12, .iconst 2, 1), (13, .aload_n 0, 1), (14, .getfield 31, 3), (17, .getfield 62, 3), (20, .imul, 1), (21, .iconst 2, 1), (22, .iadd, 1), (23, .istore 4, 2), (25, .iconst 0, 1), (26, .istore 5, 2), (28, .iload 5, 2), (30, .iload 4, 2), (32, .if_icmp .ge 243, 3), (35, .aload_n 0, 1), (36, .getfield 31, 3), (39, .getfield 65, 3), (42, .iload_n 3, 1), (43, .iaload, 1), (44, .istore 6, 2), (46, .iload 6, 2), (48, .bipush 26, 2), (50, .if_icmp .ne 40, 3), (53, .iload_n 2, 1), (54, .ifCond .ne 5, 3), (57, .iconst 0, 1), (58, .ireturn, 1), (59, .iinc 2 (-1), 3), (62, .aload_n 0, 1), (63, .getfield 18, 3), (66, .iload_n 2, 1), (67, .iaload, 1), (68, .istore_n 3, 1), (69, .aload_n 0, 1), (70, .getfield 15, 3), (73, .aload_n 0, 1), (74, .getfield 31, 3), (77, .getfield 56, 3), (80, .iload_n 3, 1), (81, .iaload, 1), (82, .aload_n 0, 1), (83, .getfield 32, 3), (86, .iastore, 1), (87, .goto 182, 3), (90, .iload 6, 2), (92, .iconst 3, 1), (93, .if_icmp .ne 69, 3), (96, .aload_n 0, 1), (97, .getfield 15, 3), (100, .aload_n 0, 1), (101, .getfield 31, 3), (104, .getfield 56, 3), (107, .iload_n 3, 1), (108, .iaload, 1), (109, .iaload, 1), (110, .aload_n 0, 1), (111, .getfield 32, 3), (114, .if_icmp .eq 48, 3), (117, .iload_n 2, 1), (118, .bipush 60, 2), (120, .if_icmp .ge 42, 3), (123, .aload_n 0, 1), (124, .getfield 18, 3), (127, .iload_n 2, 1), (128, .iload_n 3, 1), (129, .iastore, 1), (130, .iinc 2 1, 3), (133, .aload_n 0, 1), (134, .getfield 31, 3), (137, .getfield 59, 3), (140, .aload_n 0, 1), (141, .getfield 21, 3), (144, .getfield 68, 3), (147, .aload_n 0, 1), (148, .getfield 31, 3), (151, .getfield 56, 3), (154, .iload_n 3, 1), (155, .iaload, 1), (156, .iaload, 1), (157, .iaload, 1), (158, .istore_n 3, 1), (159, .goto 110, 3), (162, .iload 6, 2), (164, .bipush 23, 2), (166, .if_icmp .lt 32, 3), (169, .aload_n 0, 1), (170, .iload_n 3, 1), (171, .iload 6, 2), (173, .invokevirtual 71, 3), (176, .ifCond .eq 15, 3), (179, .aload_n 0, 1), (180, .getfield 31, 3), (183, .getfield 59, 3), (186, .iload_n 3, 1), (187, .iaload, 1), (188, .goto 6, 3), (191, .iload_n 3, 1), (192, .iconst 1, 1), (193, .iadd, 1), (194, .istore_n 3, 1), (195, .goto 74, 3), (198, .iload 6, 2), (200, .iconst 4, 1), (201, .if_icmp .lt 58, 3), (204, .iload 6, 2), (206, .bipush 8, 2), (208, .if_icmp .gt 51, 3), (211, .aload_n 0, 1), (212, .iload_n 3, 1), (213, .iload 6, 2), (215, .invokevirtual 75, 3), (218, .istore 7, 2), (220, .iload 7, 2), (222, .ifCond .ne 10, 3), (225, .aload_n 0, 1), (226, .iload_n 3, 1), (227, .invokevirtual 79, 3), (230, .istore 7, 2), (232, .iload 7, 2), (234, .ifCond .eq 19, 3), (237, .aload_n 0, 1), (238, .aload_n 0, 1), (239, .getfield 31, 3), (242, .getfield 83, 3), (245, .iload_n 3, 1), (246, .iaload, 1), (247, .putfield 36, 3), (250, .iload 7, 2), (252, .ireturn, 1), (253, .iinc 3 1, 3), (256, .goto 13, 3), (259, .aload_n 0, 1), (260, .iload_n 3, 1), (261, .iload 6, 2), (263, .invokevirtual 85, 3), (266, .iinc 3 1, 3), (269, .iinc 5 1, 3), (272, .goto (-244), 3), (275, .iconst 0, 1), (276, .ireturn, 1)],
  [(31, 5, 4, (.object "GameText$Code"), false), (59, 3, 4, (.array .int), false), (62, 3, 8, .int, false), (65, 3, 0, (.array .int), false), (18, 5, 2, (.array .int), true), (15, 5, 1, (.array .int), true), (56, 3, 2, (.array .int), false), (32, 5, 5, .int, false), (21, 5, 3, (.object "GameText$Text"), false), (68, 2, 5, (.array .int), true), (83, 3, 1, (.array .int), false), (36, 5, 6, .int, false)],
  [(71, 1, 71, 2), (75, 1, 72, 2), (79, 1, 74, 1), (85, 1, 76, 2)],
  [],
  [],
  [],
  [])
/-- GameText$Machine.isJumping(II)Z -/
def tE_71 : tb_E := (("GameText$Machine", 5, false, prog_6_method_5_code, 3, (some .boolean), ⟨"GameText$Machine", "isJumping", "(II)Z"⟩),
  [(0, .iload_n 2, 1), (1, .bipush 25, 2), (3, .if_icmp .eq 43, 3), (6, .aload_n 0, 1), (7, .getfield 31, 3), (10, .getfield 52, 3), (13, .aload_n 0, 1), (14, .getfield 31, 3), (17, .getfield 56, 3), (20, .iload_n 1, 1), (21, .iaload, 1), (22, .iaload, 1), (23, .iconst 1, 1), (24, .if_icmp .ne 7, 3), (27, .iconst 1, 1), (28, .goto 4, 3), (31, .iconst 0, 1), (32, .iload_n 2, 1), (33, .bipush 24, 2), (35, .if_icmp .ne 7, 3), (38, .iconst 1, 1), (39, .goto 4, 3), (42, .iconst 0, 1), (43, .if_icmp .ne 7, 3), (46, .iconst 1, 1), (47, .goto 4, 3), (50, .iconst 0, 1), (51, .ireturn, 1)],
  [(31, 5, 4, (.object "GameText$Code"), false), (52, 3, 6, (.array .int), false), (56, 3, 2, (.array .int), false)],
  [],
  [],
  [],
  [],
  [])
/-- GameText$Machine.reckon(II)I -/
def tE_72 : tb_E := (("GameText$Machine", 5, false, prog_6_method_6_code, 11, (some .int), ⟨"GameText$Machine", "reckon", "(II)I"⟩),
  [(0, .aload_n 0, 1), (1, .getfield 31, 3), (4, .getfield 52, 3), (7, .aload_n 0, 1), (8, .getfield 31, 3), (11, .getfield 56, 3), (14, .iload_n 1, 1), (15, .iaload, 1), (16, .iaload, 1), (17, .i2l, 1), (18, .lstore_n 3, 1), (19, .aload_n 0, 1), (20, .getfield 31, 3), (23, .getfield 89, 3), (26, .aload_n 0, 1), (27, .getfield 31, 3), (30, .getfield 56, 3), (33, .iload_n 1, 1), (34, .iaload, 1), (35, .iaload, 1), (36, .i2l, 1), (37, .lstore 5, 2), (39, .aload_n 0, 1), (40, .getfield 31, 3), (43, .getfield 52, 3), (46, .aload_n 0, 1), (47, .getfield 31, 3), (50, .getfield 91, 3), (53, .iload_n 1, 1), (54, .iaload, 1), (55, .iaload, 1), (56, .i2l, 1), (57, .lstore 7, 2), (59, .aload_n 0, 1), (60, .getfield 31, 3), (63, .getfield 89, 3), (66, .aload_n 0, 1), (67, .getfield 31, 3), (70, .getfield 91, 3), (73, .iload_n 1, 1), (74, .iaload, 1), (75, .iaload, 1), (76, .i2l, 1), (77, .lstore 9, 2), (79, .iload_n 2, 1), (80, .tableswitch 163 4 7 #[32, 57, 82, 101], 32), (112, .aload_n 0, 1), (113, .lload_n 3, 1), (114, .lload 9, 2), (116, .lmul, 1), (117, .lload 7, 2), (119, .lload 5, 2), (121, .lmul, 1), (122, .ladd, 1), (123, .putfield 39, 3), (126, .aload_n 0, 1), (127, .lload 5, 2), (129, .lload 9, 2), (131, .lmul, 1), (132, .putfield 43, 3), (135, .iconst 0, 1), (136, .ireturn, 1), (137, .aload_n 0, 1), (138, .lload_n 3, 1), (139, .lload 9, 2), (141, .lmul, 1), (142, .lload 7, 2), (144, .lload 5, 2), (146, .lmul, 1), (147, .lsub, 1), (148, .putfield 39, 3), (151, .aload_n 0, 1), (152, .lload 5, 2), (154, .lload 9, 2), (156, .lmul, 1), (157, .putfield 43, 3), (160, .iconst 0, 1), (161, .ireturn, 1), (162, .aload_n 0, 1), (163, .lload_n 3, 1), (164, .lload 7, 2), (166, .lmul, 1), (167, .putfield 39, 3), (170, .aload_n 0, 1), (171, .lload 5, 2), (173, .lload 9, 2), (175, .lmul, 1), (176, .putfield 43, 3), (179, .iconst 0, 1), (180, .ireturn, 1), (181, .aload_n 0, 1), (182, .lload 7, 2), (184, .lconst 0, 1), (185, .lcmp, 1), (186, .ifCond .ge 11, 3), (189, .lload_n 3, 1), (190, .lneg, 1), (191, .lload 9, 2), (193, .lmul, 1), (194, .goto 7, 3), (197, .lload_n 3, 1), (198, .lload 9, 2), (200, .lmul, 1), (201, .putfield 39, 3), (204, .aload_n 0, 1), (205, .lload 7, 2), (207, .lconst 0, 1), (208, .lcmp, 1), (209, .ifCond .ge 12, 3), (212, .lload 5, 2), (214, .lneg, 1), (215, .lload 7, 2), (217, .lmul, 1), (218, .goto 8, 3), (221, .lload 5, 2), (223, .lload 7, 2), (225, .lmul, 1), (226, .putfield 43, 3), (229, .lload 7, 2), (231, .lconst 0, 1), (232, .lcmp, 1), (233, .ifCond .ne 8, 3), (236, .bipush 7, 2), (238, .goto 4, 3), (241, .iconst 0, 1), (242, .ireturn, 1), (243, .lload 5, 2), (245, .lconst 1, 1), (246, .lcmp, 1), (247, .ifCond .ne 10, 3), (250, .lload 9, 2), (252, .lconst 1, 1), (253, .lcmp, 1), (254, .ifCond .eq 6, 3), (257, .bipush 8, 2), (259, .ireturn, 1), (260, .lload 7, 2), (262, .lconst 0, 1), (263, .lcmp, 1), (264, .ifCond .gt 6, 3), (267, .bipush 7, 2), (269, .ireturn, 1), (270, .aload_n 0, 1), (271, .lload_n 3, 1), (272, .lload 7, 2), (274, .invokestatic 94, 3), (277, .putfield 39, 3), (280, .aload_n 0, 1), (281, .lconst 1, 1), (282, .putfield 43, 3), (285, .iconst 0, 1), (286, .ireturn, 1)],
  [(31, 5, 4, (.object "GameText$Code"), false), (52, 3, 6, (.array .int), false), (56, 3, 2, (.array .int), false), (89, 3, 7, (.array .int), false), (91, 3, 3, (.array .int), false), (39, 5, 7, .long, false), (43, 5, 8, .long, false)],
  [(94, 0, 73, 2)],
  [],
  [],
  [],
  [])
/-- java/lang/Math.floorMod(JJ)J -/
def tE_73 : tb_E := (("java/lang/Math", 99, false, prog_21_method_52_code, 6, (some .long), ⟨"java/lang/Math", "floorMod", "(JJ)J"⟩),
  [(0, .lload_n 0, 1), (1, .lload_n 2, 1), (2, .lrem, 1), (3, .lstore 4, 2), (5, .lload_n 0, 1), (6, .lload_n 2, 1), (7, .lxor, 1), (8, .lconst 0, 1), (9, .lcmp, 1), (10, .ifCond .ge 15, 3), (13, .lload 4, 2), (15, .lconst 0, 1), (16, .lcmp, 1), (17, .ifCond .eq 8, 3), (20, .lload 4, 2), (22, .lload_n 2, 1), (23, .ladd, 1), (24, .lreturn, 1), (25, .lload 4, 2), (27, .lreturn, 1)],
  [],
  [],
  [],
  [],
  [],
  [])
/-- GameText$Machine.settle(I)I -/
def tE_74 : tb_E := (("GameText$Machine", 5, false, prog_6_method_7_code, 8, (some .int), ⟨"GameText$Machine", "settle", "(I)I"⟩),
  [(0, .aload_n 0, 1), (1, .getfield 43, 3), (4, .lconst 1, 1), (5, .lcmp, 1), (6, .ifCond .ne 7, 3), (9, .lconst 1, 1), (10, .goto 14, 3), (13, .aload_n 0, 1), (14, .getfield 39, 3), (17, .aload_n 0, 1), (18, .getfield 43, 3), (21, .invokestatic 100, 3), (24, .lstore_n 2, 1), (25, .aload_n 0, 1), (26, .getfield 39, 3), (29, .lload_n 2, 1), (30, .ldiv, 1), (31, .lstore 4, 2), (33, .aload_n 0, 1), (34, .getfield 43, 3), (37, .lload_n 2, 1), (38, .ldiv, 1), (39, .lstore 6, 2), (41, .lload 4, 2), (43, .ldc2_w 103, 3), (46, .lcmp, 1), (47, .ifCond .ge 21, 3), (50, .lload 4, 2), (52, .ldc2_w 105, 3), (55, .lcmp, 1), (56, .ifCond .le 12, 3), (59, .lload 6, 2), (61, .ldc2_w 103, 3), (64, .lcmp, 1), (65, .ifCond .lt 6, 3), (68, .bipush 6, 2), (70, .ireturn, 1), (71, .aload_n 0, 1), (72, .getfield 31, 3), (75, .getfield 52, 3), (78, .iload_n 1, 1), (79, .lload 4, 2), (81, .l2i, 1), (82, .iastore, 1), (83, .aload_n 0, 1), (84, .getfield 31, 3), (87, .getfield 89, 3), (90, .iload_n 1, 1), (91, .lload 6, 2), (93, .l2i, 1), (94, .iastore, 1), (95, .iconst 0, 1), (96, .ireturn, 1)],
  [(43, 5, 8, .long, false), (39, 5, 7, .long, false), (31, 5, 4, (.object "GameText$Code"), false), (52, 3, 6, (.array .int), false), (89, 3, 7, (.array .int), false)],
  [(100, 0, 75, 2)],
  [],
  [(103, .long 1000000000), (105, .long (-1000000000))],
  [],
  [])
/-- GameText.divisor(JJ)J -/
def tE_75 : tb_E := (("GameText", 0, false, prog_1_method_17_code, 11, (some .long), ⟨"GameText", "divisor", "(JJ)J"⟩),
  [(0, .lload_n 0, 1), (1, .lconst 0, 1), (2, .lcmp, 1), (3, .ifCond .ge 8, 3), (6, .lload_n 0, 1), (7, .lneg, 1), (8, .goto 4, 3), (11, .lload_n 0, 1), (12, .lstore 4, 2), (14, .lload_n 2, 1), (15, .lconst 0, 1), (16, .lcmp, 1), (17, .ifCond .ge 8, 3), (20, .lload_n 2, 1), (21, .lneg, 1), (22, .goto 4, 3), (25, .lload_n 2, 1), (26, .lstore 6, 2), (28, .iconst 0, 1), (29, .istore 8, 2), (31, .iload 8, 2), (33, .sipush 256, 3), (36, .if_icmp .ge 31, 3), (39, .lload 6, 2), (41, .lconst 0, 1), (42, .lcmp, 1), (43, .ifCond .eq 24, 3), (46, .lload 4, 2), (48, .lload 6, 2), (50, .lrem, 1), (51, .lstore 9, 2), (53, .lload 6, 2), (55, .lstore 4, 2), (57, .lload 9, 2), (59, .lstore 6, 2), (61, .iinc 8 1, 3), (64, .goto (-33), 3), (67, .lload 4, 2), (69, .lconst 0, 1), (70, .lcmp, 1), (71, .ifCond .le 8, 3), (74, .lload 4, 2), (76, .goto 4, 3), (79, .lconst 1, 1), (80, .lreturn, 1)],
  [],
  [],
  [],
  [],
  [],
  [])
/-- GameText$Machine.work(II)V -/
def tE_76 : tb_E := (("GameText$Machine", 5, false, prog_6_method_8_code, 4, none, ⟨"GameText$Machine", "work", "(II)V"⟩),
  [(0, .aload_n 0, 1), (1, .getfield 31, 3), (4, .getfield 56, 3), (7, .iload_n 1, 1), (8, .iaload, 1), (9, .istore_n 3, 1), (10, .iload_n 2, 1), (11, .tableswitch 419 2 22 #[97, 115, 419, 419, 419, 419, 419, 143, 419, 419, 419, 419, 419, 419, 183, 206, 252, 298, 343, 375, 407], 97), (108, .aload_n 0, 1), (109, .getfield 31, 3), (112, .getfield 52, 3), (115, .iload_n 1, 1), (116, .aload_n 0, 1), (117, .getfield 9, 3), (120, .iload_n 3, 1), (121, .iaload, 1), (122, .iastore, 1), (123, .goto 345, 3), (126, .aload_n 0, 1), (127, .getfield 31, 3), (130, .aload_n 0, 1), (131, .getfield 31, 3), (134, .getfield 56, 3), (137, .aload_n 0, 1), (138, .getfield 21, 3), (141, .getfield 68, 3), (144, .iload_n 3, 1), (145, .iaload, 1), (146, .iaload, 1), (147, .iload_n 1, 1), (148, .invokevirtual 107, 3), (151, .goto 317, 3), (154, .aload_n 0, 1), (155, .getfield 31, 3), (158, .getfield 52, 3), (161, .iload_n 1, 1), (162, .aload_n 0, 1), (163, .getfield 31, 3), (166, .getfield 52, 3), (169, .iload_n 3, 1), (170, .iaload, 1), (171, .ineg, 1), (172, .iastore, 1), (173, .aload_n 0, 1), (174, .getfield 31, 3), (177, .getfield 89, 3), (180, .iload_n 1, 1), (181, .aload_n 0, 1), (182, .getfield 31, 3), (185, .getfield 89, 3), (188, .iload_n 3, 1), (189, .iaload, 1), (190, .iastore, 1), (191, .goto 277, 3), (194, .aload_n 0, 1), (195, .getfield 31, 3), (198, .getfield 52, 3), (201, .iload_n 1, 1), (202, .iconst 1, 1), (203, .aload_n 0, 1), (204, .getfield 31, 3), (207, .getfield 52, 3), (210, .iload_n 3, 1), (211, .iaload, 1), (212, .isub, 1), (213, .iastore, 1), (214, .goto 254, 3), (217, .aload_n 0, 1), (218, .getfield 31, 3), (221, .getfield 52, 3), (224, .iload_n 1, 1), (225, .aload_n 0, 1), (226, .getfield 31, 3), (229, .getfield 52, 3), (232, .iload_n 3, 1), (233, .iaload, 1), (234, .iconst 1, 1), (235, .if_icmp .ne 23, 3), (238, .aload_n 0, 1), (239, .getfield 31, 3), (242, .getfield 52, 3), (245, .aload_n 0, 1), (246, .getfield 31, 3), (249, .getfield 91, 3), (252, .iload_n 1, 1), (253, .iaload, 1), (254, .iaload, 1), (255, .goto 4, 3), (258, .iconst 0, 1), (259, .iastore, 1), (260, .goto 208, 3), (263, .aload_n 0, 1), (264, .getfield 31, 3), (267, .getfield 52, 3), (270, .iload_n 1, 1), (271, .aload_n 0, 1), (272, .getfield 31, 3), (275, .getfield 52, 3), (278, .iload_n 3, 1), (279, .iaload, 1), (280, .iconst 1, 1), (281, .if_icmp .ne 7, 3), (284, .iconst 1, 1), (285, .goto 20, 3), (288, .aload_n 0, 1), (289, .getfield 31, 3), (292, .getfield 52, 3), (295, .aload_n 0, 1), (296, .getfield 31, 3), (299, .getfield 91, 3), (302, .iload_n 1, 1), (303, .iaload, 1), (304, .iaload, 1), (305, .iastore, 1), (306, .goto 162, 3), (309, .aload_n 0, 1), (310, .getfield 31, 3), (313, .aload_n 0, 1), (314, .getfield 31, 3), (317, .getfield 52, 3), (320, .iload_n 3, 1), (321, .iaload, 1), (322, .iconst 1, 1), (323, .if_icmp .ne 15, 3), (326, .aload_n 0, 1), (327, .getfield 31, 3), (330, .getfield 91, 3), (333, .iload_n 1, 1), (334, .iaload, 1), (335, .goto 12, 3), (338, .aload_n 0, 1), (339, .getfield 31, 3), (342, .getfield 59, 3), (345, .iload_n 1, 1), (346, .iaload, 1), (347, .iload_n 1, 1), (348, .invokevirtual 107, 3), (351, .goto 117, 3), (354, .aload_n 0, 1), (355, .getfield 31, 3), (358, .aload_n 0, 1), (359, .iload_n 1, 1), (360, .invokevirtual 110, 3), (363, .ifCond .gt 7, 3), (366, .iload_n 3, 1), (367, .goto 12, 3), (370, .aload_n 0, 1), (371, .getfield 31, 3), (374, .getfield 91, 3), (377, .iload_n 1, 1), (378, .iaload, 1), (379, .iload_n 1, 1), (380, .invokevirtual 107, 3), (383, .goto 85, 3), (386, .aload_n 0, 1), (387, .getfield 31, 3), (390, .aload_n 0, 1), (391, .iload_n 1, 1), (392, .invokevirtual 110, 3), (395, .ifCond .lt 7, 3), (398, .iload_n 3, 1), (399, .goto 12, 3), (402, .aload_n 0, 1), (403, .getfield 31, 3), (406, .getfield 91, 3), (409, .iload_n 1, 1), (410, .iaload, 1), (411, .iload_n 1, 1), (412, .invokevirtual 107, 3), (415, .goto 53, 3), (418, .aload_n 0, 1), (419, .getfield 31, 3), (422, .iload_n 3, 1), (423, .iload_n 1, 1), (424, .invokevirtual 107, 3), (427, .goto 41, 3), (430, .iload_n 2, 1), (431, .bipush 10, 2), (433, .if_icmp .lt 35, 3), (436, .iload_n 2, 1), (437, .bipush 15, 2), (439, .if_icmp .gt 29, 3), (442, .aload_n 0, 1), (443, .getfield 31, 3), (446, .getfield 52, 3), (449, .iload_n 1, 1), (450, .iload_n 2, 1), (451, .aload_n 0, 1), (452, .iload_n 1, 1), (453, .invokevirtual 110, 3), (456, .invokestatic 113, 3), (459, .ifCond .eq 7, 3), (462, .iconst 1, 1), (463, .goto 4, 3), (466, .iconst 0, 1), (467, .iastore, 1), (468, .return_, 1)],
  [(31, 5, 4, (.object "GameText$Code"), false), (56, 3, 2, (.array .int), false), (52, 3, 6, (.array .int), false), (9, 5, 0, (.array .int), true), (21, 5, 3, (.object "GameText$Text"), false), (68, 2, 5, (.array .int), true), (89, 3, 7, (.array .int), false), (91, 3, 3, (.array .int), false), (59, 3, 4, (.array .int), false)],
  [(107, 1, 62, 2), (110, 1, 77, 1), (113, 0, 78, 2)],
  [],
  [],
  [],
  [])
/-- GameText$Machine.compare(I)I -/
def tE_77 : tb_E := (("GameText$Machine", 5, false, prog_6_method_9_code, 8, (some .int), ⟨"GameText$Machine", "compare", "(I)I"⟩),
  [(0, .aload_n 0, 1), (1, .getfield 31, 3), (4, .getfield 56, 3), (7, .iload_n 1, 1), (8, .iaload, 1), (9, .istore_n 2, 1), (10, .aload_n 0, 1), (11, .getfield 31, 3), (14, .getfield 91, 3), (17, .iload_n 1, 1), (18, .iaload, 1), (19, .istore_n 3, 1), (20, .aload_n 0, 1), (21, .getfield 31, 3), (24, .getfield 52, 3), (27, .iload_n 2, 1), (28, .iaload, 1), (29, .i2l, 1), (30, .aload_n 0, 1), (31, .getfield 31, 3), (34, .getfield 89, 3), (37, .iload_n 3, 1), (38, .iaload, 1), (39, .i2l, 1), (40, .lmul, 1), (41, .lstore 4, 2), (43, .aload_n 0, 1), (44, .getfield 31, 3), (47, .getfield 52, 3), (50, .iload_n 3, 1), (51, .iaload, 1), (52, .i2l, 1), (53, .aload_n 0, 1), (54, .getfield 31, 3), (57, .getfield 89, 3), (60, .iload_n 2, 1), (61, .iaload, 1), (62, .i2l, 1), (63, .lmul, 1), (64, .lstore 6, 2), (66, .lload 4, 2), (68, .lload 6, 2), (70, .lcmp, 1), (71, .ifCond .ne 5, 3), (74, .iconst 0, 1), (75, .ireturn, 1), (76, .lload 4, 2), (78, .lload 6, 2), (80, .lcmp, 1), (81, .ifCond .ge 7, 3), (84, .iconst (-1), 1), (85, .goto 4, 3), (88, .iconst 1, 1), (89, .ireturn, 1)],
  [(31, 5, 4, (.object "GameText$Code"), false), (56, 3, 2, (.array .int), false), (91, 3, 3, (.array .int), false), (52, 3, 6, (.array .int), false), (89, 3, 7, (.array .int), false)],
  [],
  [],
  [],
  [],
  [])
/-- GameText$Machine.holds(II)Z -/
def tE_78 : tb_E := (("GameText$Machine", 5, false, prog_6_method_10_code, 2, (some .boolean), ⟨"GameText$Machine", "holds", "(II)Z"⟩),
  [(0, .iload_n 0, 1), (1, .tableswitch 85 10 14 #[35, 45, 55, 65, 75], 35), (36, .iload_n 1, 1), (37, .ifCond .ne 7, 3), (40, .iconst 1, 1), (41, .goto 4, 3), (44, .iconst 0, 1), (45, .ireturn, 1), (46, .iload_n 1, 1), (47, .ifCond .eq 7, 3), (50, .iconst 1, 1), (51, .goto 4, 3), (54, .iconst 0, 1), (55, .ireturn, 1), (56, .iload_n 1, 1), (57, .ifCond .ge 7, 3), (60, .iconst 1, 1), (61, .goto 4, 3), (64, .iconst 0, 1), (65, .ireturn, 1), (66, .iload_n 1, 1), (67, .ifCond .gt 7, 3), (70, .iconst 1, 1), (71, .goto 4, 3), (74, .iconst 0, 1), (75, .ireturn, 1), (76, .iload_n 1, 1), (77, .ifCond .le 7, 3), (80, .iconst 1, 1), (81, .goto 4, 3), (84, .iconst 0, 1), (85, .ireturn, 1), (86, .iload_n 1, 1), (87, .ifCond .lt 7, 3), (90, .iconst 1, 1), (91, .goto 4, 3), (94, .iconst 0, 1), (95, .ireturn, 1)],
  [],
  [],
  [],
  [],
  [],
  [])
/-- GameText$Names.add(IIII)V -/
def tE_79 : tb_E := (("GameText$Names", 7, false, prog_7_method_2_code, 5, none, ⟨"GameText$Names", "add", "(IIII)V"⟩),
  [(0, .aload_n 0, 1), (1, .getfield 28, 3), (4, .bipush 72, 2), (6, .if_icmp .ge 54, 3), (9, .aload_n 0, 1), (10, .getfield 15, 3), (13, .aload_n 0, 1), (14, .getfield 28, 3), (17, .iload_n 1, 1), (18, .iastore, 1), (19, .aload_n 0, 1), (20, .getfield 19, 3), (23, .aload_n 0, 1), (24, .getfield 28, 3), (27, .iload_n 2, 1), (28, .iastore, 1), (29, .aload_n 0, 1), (30, .getfield 22, 3), (33, .aload_n 0, 1), (34, .getfield 28, 3), (37, .iload_n 3, 1), (38, .iastore, 1), (39, .aload_n 0, 1), (40, .getfield 25, 3), (43, .aload_n 0, 1), (44, .getfield 28, 3), (47, .iload 4, 2), (49, .iastore, 1), (50, .aload_n 0, 1), (51, .dup, 1), (52, .getfield 28, 3), (55, .iconst 1, 1), (56, .iadd, 1), (57, .putfield 28, 3), (60, .return_, 1)],
  [(28, 7, 5, .int, false), (15, 7, 1, (.array .int), true), (19, 7, 2, (.array .int), true), (22, 7, 3, (.array .int), true), (25, 7, 4, (.array .int), true)],
  [],
  [],
  [],
  [],
  [])
/-- GameText$Checker.finishesBool()I -/
def tE_80 : tb_E := (("GameText$Checker", 6, false, prog_2_method_20_code, 2, (some .int), ⟨"GameText$Checker", "finishesBool", "()I"⟩),
  [(0, .aload_n 0, 1), (1, .getfield 51, 3), (4, .ifCond .ge 7, 3), (7, .iconst 0, 1), (8, .goto 11, 3), (11, .aload_n 0, 1), (12, .aload_n 0, 1), (13, .getfield 51, 3), (16, .invokevirtual 210, 3), (19, .istore_n 1, 1), (20, .iload_n 1, 1), (21, .ifCond .ne 40, 3), (24, .aload_n 0, 1), (25, .iconst 0, 1), (26, .iconst 1, 1), (27, .aload_n 0, 1), (28, .getfield 51, 3), (31, .ifCond .ge 7, 3), (34, .iconst 0, 1), (35, .goto 23, 3), (38, .aload_n 0, 1), (39, .getfield 34, 3), (42, .getfield 213, 3), (45, .aload_n 0, 1), (46, .getfield 34, 3), (49, .getfield 133, 3), (52, .aload_n 0, 1), (53, .getfield 51, 3), (56, .iaload, 1), (57, .iaload, 1), (58, .invokevirtual 216, 3), (61, .iload_n 1, 1), (62, .ireturn, 1)],
  [(51, 6, 9, .int, false), (34, 6, 3, (.object "GameText$Code"), false), (213, 3, 6, (.array .int), false), (133, 3, 2, (.array .int), false)],
  [(210, 1, 69, 1), (216, 1, 81, 3)],
  [],
  [],
  [],
  [])
/-- GameText$Checker.addVar(III)V -/
def tE_81 : tb_E := (("GameText$Checker", 6, false, prog_2_method_22_code, 5, none, ⟨"GameText$Checker", "addVar", "(III)V"⟩),
  [(0, .aload_n 0, 1), (1, .getfield 24, 3), (4, .getfield 169, 3), (7, .istore 4, 2), (9, .aload_n 0, 1), (10, .getfield 24, 3), (13, .getfield 223, 3), (16, .iload 4, 2), (18, .iload_n 1, 1), (19, .iastore, 1), (20, .aload_n 0, 1), (21, .getfield 24, 3), (24, .getfield 225, 3), (27, .iload 4, 2), (29, .iload_n 2, 1), (30, .iastore, 1), (31, .aload_n 0, 1), (32, .getfield 24, 3), (35, .getfield 227, 3), (38, .iload 4, 2), (40, .iload_n 3, 1), (41, .iastore, 1), (42, .aload_n 0, 1), (43, .getfield 24, 3), (46, .getfield 158, 3), (49, .iload 4, 2), (51, .aload_n 0, 1), (52, .getfield 34, 3), (55, .getfield 139, 3), (58, .aload_n 0, 1), (59, .getfield 39, 3), (62, .iaload, 1), (63, .iastore, 1), (64, .aload_n 0, 1), (65, .getfield 24, 3), (68, .dup, 1), (69, .getfield 169, 3), (72, .iconst 1, 1), (73, .iadd, 1), (74, .putfield 169, 3), (77, .aload_n 0, 1), (78, .getfield 14, 3), (81, .aload_n 0, 1), (82, .getfield 34, 3), (85, .getfield 133, 3), (88, .aload_n 0, 1), (89, .getfield 39, 3), (92, .iaload, 1), (93, .aload_n 0, 1), (94, .getfield 34, 3), (97, .getfield 136, 3), (100, .aload_n 0, 1), (101, .getfield 39, 3), (104, .iaload, 1), (105, .bipush 29, 2), (107, .iload 4, 2), (109, .invokevirtual 190, 3), (112, .return_, 1)],
  [(24, 6, 2, (.object "GameText$Text"), false), (169, 2, 7, .int, false), (223, 2, 1, (.array .int), true), (225, 2, 2, (.array .int), true), (227, 2, 3, (.array .int), true), (158, 2, 4, (.array .int), true), (34, 6, 3, (.object "GameText$Code"), false), (139, 3, 4, (.array .int), false), (39, 6, 5, .int, false), (14, 6, 0, (.object "GameText$Names"), true), (133, 3, 2, (.array .int), false), (136, 3, 3, (.array .int), false)],
  [(190, 1, 79, 4)],
  [],
  [],
  [],
  [])
/-- GameText$Checker.finishesRange()I -/
def tE_82 : tb_E := (("GameText$Checker", 6, false, prog_2_method_21_code, 5, (some .int), ⟨"GameText$Checker", "finishesRange", "()I"⟩),
  [(0, .aload_n 0, 1), (1, .aload_n 0, 1), (2, .getfield 45, 3), (5, .invokevirtual 220, 3), (8, .istore_n 1, 1), (9, .iload_n 1, 1), (10, .ifCond .ne 12, 3), (13, .aload_n 0, 1), (14, .aload_n 0, 1), (15, .getfield 48, 3), (18, .invokevirtual 220, 3), (21, .istore_n 1, 1), (22, .iload_n 1, 1), (23, .ifCond .eq 5, 3), (26, .iload_n 1, 1), (27, .ireturn, 1), (28, .aload_n 0, 1), (29, .getfield 34, 3), (32, .getfield 213, 3), (35, .aload_n 0, 1), (36, .getfield 34, 3), (39, .getfield 133, 3), (42, .aload_n 0, 1), (43, .getfield 45, 3), (46, .iaload, 1), (47, .iaload, 1), (48, .istore_n 2, 1), (49, .aload_n 0, 1), (50, .getfield 34, 3), (53, .getfield 213, 3), (56, .aload_n 0, 1), (57, .getfield 34, 3), (60, .getfield 133, 3), (63, .aload_n 0, 1), (64, .getfield 48, 3), (67, .iaload, 1), (68, .iaload, 1), (69, .istore_n 3, 1), (70, .iload_n 2, 1), (71, .iload_n 3, 1), (72, .if_icmp .gt 12, 3), (75, .iload_n 3, 1), (76, .iload_n 2, 1), (77, .isub, 1), (78, .sipush 10000, 3), (81, .if_icmp .lt 22, 3), (84, .aload_n 0, 1), (85, .bipush 9, 2), (87, .aload_n 0, 1), (88, .getfield 34, 3), (91, .getfield 131, 3), (94, .aload_n 0, 1), (95, .getfield 48, 3), (98, .iaload, 1), (99, .invokevirtual 107, 3), (102, .ireturn, 1), (103, .iload_n 2, 1), (104, .istore 4, 2), (106, .aload_n 0, 1), (107, .getfield 51, 3), (110, .ifCond .lt 71, 3), (113, .aload_n 0, 1), (114, .aload_n 0, 1), (115, .getfield 51, 3), (118, .invokevirtual 220, 3), (121, .istore_n 1, 1), (122, .iload_n 1, 1), (123, .ifCond .eq 5, 3), (126, .iload_n 1, 1), (127, .ireturn, 1), (128, .aload_n 0, 1), (129, .getfield 34, 3), (132, .getfield 213, 3), (135, .aload_n 0, 1), (136, .getfield 34, 3), (139, .getfield 133, 3), (142, .aload_n 0, 1), (143, .getfield 51, 3), (146, .iaload, 1), (147, .iaload, 1), (148, .istore 4, 2), (150, .iload 4, 2), (152, .iload_n 2, 1), (153, .if_icmp .lt 9, 3), (156, .iload 4, 2), (158, .iload_n 3, 1), (159, .if_icmp .le 22, 3), (162, .aload_n 0, 1), (163, .bipush 9, 2), (165, .aload_n 0, 1), (166, .getfield 34, 3), (169, .getfield 131, 3), (172, .aload_n 0, 1), (173, .getfield 51, 3), (176, .iaload, 1), (177, .invokevirtual 107, 3), (180, .ireturn, 1), (181, .aload_n 0, 1), (182, .iload_n 2, 1), (183, .iload_n 3, 1), (184, .iload 4, 2), (186, .invokevirtual 216, 3), (189, .iconst 0, 1), (190, .ireturn, 1)],
  [(45, 6, 7, .int, false), (48, 6, 8, .int, false), (34, 6, 3, (.object "GameText$Code"), false), (213, 3, 6, (.array .int), false), (133, 3, 2, (.array .int), false), (131, 3, 1, (.array .int), false), (51, 6, 9, .int, false)],
  [(220, 1, 83, 1), (107, 1, 61, 2), (216, 1, 81, 3)],
  [],
  [],
  [],
  [])
/-- GameText$Checker.worksOutWhole(I)I -/
def tE_83 : tb_E := (("GameText$Checker", 6, false, prog_2_method_18_code, 3, (some .int), ⟨"GameText$Checker", "worksOutWhole", "(I)I"⟩),
  [(0, .aload_n 0, 1), (1, .getfield 20, 3), (4, .iload_n 1, 1), (5, .invokevirtual 203, 3), (8, .istore_n 2, 1), (9, .iload_n 2, 1), (10, .ifCond .eq 16, 3), (13, .aload_n 0, 1), (14, .iload_n 2, 1), (15, .aload_n 0, 1), (16, .getfield 20, 3), (19, .getfield 206, 3), (22, .invokevirtual 107, 3), (25, .ireturn, 1), (26, .aload_n 0, 1), (27, .getfield 34, 3), (30, .getfield 207, 3), (33, .aload_n 0, 1), (34, .getfield 34, 3), (37, .getfield 133, 3), (40, .iload_n 1, 1), (41, .iaload, 1), (42, .iaload, 1), (43, .iconst 1, 1), (44, .if_icmp .ne 7, 3), (47, .iconst 0, 1), (48, .goto 18, 3), (51, .aload_n 0, 1), (52, .bipush 8, 2), (54, .aload_n 0, 1), (55, .getfield 34, 3), (58, .getfield 131, 3), (61, .iload_n 1, 1), (62, .iaload, 1), (63, .invokevirtual 107, 3), (66, .ireturn, 1)],
  [(20, 6, 1, (.object "GameText$Machine"), true), (206, 5, 6, .int, false), (34, 6, 3, (.object "GameText$Code"), false), (207, 3, 7, (.array .int), false), (133, 3, 2, (.array .int), false), (131, 3, 1, (.array .int), false)],
  [(203, 1, 70, 1), (107, 1, 61, 2)],
  [],
  [],
  [],
  [])
/-- GameText$Checker.looksAtPart(I)I -/
def tE_84 : tb_E := (("GameText$Checker", 6, false, prog_2_method_10_code, 2, (some .int), ⟨"GameText$Checker", "looksAtPart", "(I)I"⟩),
  [(0, .aload_n 0, 1), (1, .getfield 34, 3), (4, .getfield 80, 3), (7, .iload_n 1, 1), (8, .iaload, 1), (9, .tableswitch 186 26 32 #[43, 49, 49, 72, 100, 134, 180], 43), (52, .aload_n 0, 1), (53, .iload_n 1, 1), (54, .invokevirtual 159, 3), (57, .ireturn, 1), (58, .aload_n 0, 1), (59, .iload_n 1, 1), (60, .aload_n 0, 1), (61, .getfield 24, 3), (64, .getfield 162, 3), (67, .bipush 60, 2), (69, .if_icmp .lt 7, 3), (72, .iconst 1, 1), (73, .goto 4, 3), (76, .iconst 0, 1), (77, .invokevirtual 165, 3), (80, .ireturn, 1), (81, .aload_n 0, 1), (82, .iconst (-1), 1), (83, .putfield 51, 3), (86, .aload_n 0, 1), (87, .iload_n 1, 1), (88, .aload_n 0, 1), (89, .getfield 24, 3), (92, .getfield 169, 3), (95, .bipush 12, 2), (97, .if_icmp .lt 7, 3), (100, .iconst 1, 1), (101, .goto 4, 3), (104, .iconst 0, 1), (105, .invokevirtual 165, 3), (108, .ireturn, 1), (109, .aload_n 0, 1), (110, .iload_n 1, 1), (111, .putfield 39, 3), (114, .aload_n 0, 1), (115, .getfield 24, 3), (118, .getfield 95, 3), (121, .ifCond .lt 20, 3), (124, .aload_n 0, 1), (125, .iconst 4, 1), (126, .aload_n 0, 1), (127, .getfield 34, 3), (130, .getfield 131, 3), (133, .iload_n 1, 1), (134, .iaload, 1), (135, .invokevirtual 107, 3), (138, .goto 4, 3), (141, .iconst 0, 1), (142, .ireturn, 1), (143, .aload_n 0, 1), (144, .iload_n 1, 1), (145, .putfield 39, 3), (148, .aload_n 0, 1), (149, .iconst (-1), 1), (150, .putfield 54, 3), (153, .aload_n 0, 1), (154, .iconst 0, 1), (155, .putfield 57, 3), (158, .aload_n 0, 1), (159, .getfield 24, 3), (162, .getfield 172, 3), (165, .bipush 60, 2), (167, .if_icmp .lt 20, 3), (170, .aload_n 0, 1), (171, .iconst 5, 1), (172, .aload_n 0, 1), (173, .getfield 34, 3), (176, .getfield 131, 3), (179, .iload_n 1, 1), (180, .iaload, 1), (181, .invokevirtual 107, 3), (184, .goto 4, 3), (187, .iconst 0, 1), (188, .ireturn, 1), (189, .aload_n 0, 1), (190, .iload_n 1, 1), (191, .invokevirtual 175, 3), (194, .ireturn, 1), (195, .aload_n 0, 1), (196, .iload_n 1, 1), (197, .invokevirtual 178, 3), (200, .ireturn, 1)],
  [(34, 6, 3, (.object "GameText$Code"), false), (80, 3, 0, (.array .int), false), (24, 6, 2, (.object "GameText$Text"), false), (162, 2, 8, .int, false), (51, 6, 9, .int, false), (169, 2, 7, .int, false), (39, 6, 5, .int, false), (95, 2, 11, .int, false), (131, 3, 1, (.array .int), false), (54, 6, 10, .int, false), (57, 6, 11, .int, false), (172, 2, 10, .int, false)],
  [(159, 1, 85, 1), (165, 1, 87, 2), (107, 1, 61, 2), (175, 1, 88, 1), (178, 1, 89, 1)],
  [],
  [],
  [],
  [])
/-- GameText$Checker.looksAtRule(I)I -/
def tE_85 : tb_E := (("GameText$Checker", 6, false, prog_2_method_14_code, 4, (some .int), ⟨"GameText$Checker", "looksAtRule", "(I)I"⟩),
  [(0, .aload_n 0, 1), (1, .getfield 34, 3), (4, .getfield 136, 3), (7, .iload_n 1, 1), (8, .iaload, 1), (9, .istore_n 2, 1), (10, .aload_n 0, 1), (11, .iload_n 2, 1), (12, .invokevirtual 181, 3), (15, .istore_n 3, 1), (16, .iload_n 3, 1), (17, .ifCond .eq 27, 3), (20, .aload_n 0, 1), (21, .iload_n 1, 1), (22, .invokevirtual 122, 3), (25, .iload_n 3, 1), (26, .if_icmp .eq 18, 3), (29, .aload_n 0, 1), (30, .iconst 3, 1), (31, .aload_n 0, 1), (32, .getfield 34, 3), (35, .getfield 131, 3), (38, .iload_n 1, 1), (39, .iaload, 1), (40, .invokevirtual 107, 3), (43, .ireturn, 1), (44, .iload_n 2, 1), (45, .tableswitch 109 1 7 #[43, 50, 57, 109, 64, 79, 94], 43), (88, .aload_n 0, 1), (89, .iload_n 1, 1), (90, .putfield 45, 3), (93, .iconst 0, 1), (94, .ireturn, 1), (95, .aload_n 0, 1), (96, .iload_n 1, 1), (97, .putfield 48, 3), (100, .iconst 0, 1), (101, .ireturn, 1), (102, .aload_n 0, 1), (103, .iload_n 1, 1), (104, .putfield 51, 3), (107, .iconst 0, 1), (108, .ireturn, 1), (109, .aload_n 0, 1), (110, .getfield 34, 3), (113, .getfield 136, 3), (116, .aload_n 0, 1), (117, .getfield 39, 3), (120, .iload_n 1, 1), (121, .iastore, 1), (122, .iconst 0, 1), (123, .ireturn, 1), (124, .aload_n 0, 1), (125, .getfield 34, 3), (128, .getfield 133, 3), (131, .aload_n 0, 1), (132, .getfield 54, 3), (135, .iload_n 1, 1), (136, .iastore, 1), (137, .iconst 0, 1), (138, .ireturn, 1), (139, .aload_n 0, 1), (140, .getfield 34, 3), (143, .getfield 136, 3), (146, .aload_n 0, 1), (147, .getfield 60, 3), (150, .iload_n 1, 1), (151, .iastore, 1), (152, .iconst 0, 1), (153, .ireturn, 1), (154, .aload_n 0, 1), (155, .iload_n 1, 1), (156, .putfield 42, 3), (159, .iconst 0, 1), (160, .ireturn, 1)],
  [(34, 6, 3, (.object "GameText$Code"), false), (136, 3, 3, (.array .int), false), (131, 3, 1, (.array .int), false), (45, 6, 7, .int, false), (48, 6, 8, .int, false), (51, 6, 9, .int, false), (39, 6, 5, .int, false), (133, 3, 2, (.array .int), false), (54, 6, 10, .int, false), (60, 6, 12, .int, false), (42, 6, 6, .int, false)],
  [(181, 1, 86, 1), (122, 1, 63, 1), (107, 1, 61, 2)],
  [],
  [],
  [],
  [])
/-- GameText$Checker.wantedKind(I)I -/
def tE_86 : tb_E := (("GameText$Checker", 6, false, prog_2_method_15_code, 2, (some .int), ⟨"GameText$Checker", "wantedKind", "(I)I"⟩),
  [(0, .iload_n 1, 1), (1, .tableswitch 81 1 7 #[43, 43, 47, 45, 45, 43, 60], 43), (44, .iconst 1, 1), (45, .ireturn, 1), (46, .iconst 2, 1), (47, .ireturn, 1), (48, .aload_n 0, 1), (49, .getfield 34, 3), (52, .getfield 139, 3), (55, .aload_n 0, 1), (56, .getfield 39, 3), (59, .iaload, 1), (60, .ireturn, 1), (61, .aload_n 0, 1), (62, .getfield 24, 3), (65, .getfield 158, 3), (68, .aload_n 0, 1), (69, .getfield 34, 3), (72, .getfield 133, 3), (75, .aload_n 0, 1), (76, .getfield 60, 3), (79, .iaload, 1), (80, .iaload, 1), (81, .ireturn, 1), (82, .iconst 0, 1), (83, .ireturn, 1)],
  [(34, 6, 3, (.object "GameText$Code"), false), (139, 3, 4, (.array .int), false), (39, 6, 5, .int, false), (24, 6, 2, (.object "GameText$Text"), false), (158, 2, 4, (.array .int), true), (133, 3, 2, (.array .int), false), (60, 6, 12, .int, false)],
  [],
  [],
  [],
  [],
  [])
/-- GameText$Checker.begins(IZ)I -/
def tE_87 : tb_E := (("GameText$Checker", 6, false, prog_2_method_11_code, 4, (some .int), ⟨"GameText$Checker", "begins", "(IZ)I"⟩),
  [(0, .aload_n 0, 1), (1, .iload_n 1, 1), (2, .putfield 39, 3), (5, .iload_n 2, 1), (6, .ifCond .eq 18, 3), (9, .aload_n 0, 1), (10, .iconst 5, 1), (11, .aload_n 0, 1), (12, .getfield 34, 3), (15, .getfield 131, 3), (18, .iload_n 1, 1), (19, .iaload, 1), (20, .invokevirtual 107, 3), (23, .ireturn, 1), (24, .aload_n 0, 1), (25, .getfield 34, 3), (28, .getfield 133, 3), (31, .iload_n 1, 1), (32, .iaload, 1), (33, .istore_n 3, 1), (34, .aload_n 0, 1), (35, .getfield 14, 3), (38, .iload_n 3, 1), (39, .aload_n 0, 1), (40, .getfield 34, 3), (43, .getfield 136, 3), (46, .iload_n 1, 1), (47, .iaload, 1), (48, .invokevirtual 142, 3), (51, .ifCond .lt 12, 3), (54, .aload_n 0, 1), (55, .iconst 2, 1), (56, .iload_n 3, 1), (57, .invokevirtual 107, 3), (60, .goto 4, 3), (63, .iconst 0, 1), (64, .ireturn, 1)],
  [(39, 6, 5, .int, false), (34, 6, 3, (.object "GameText$Code"), false), (131, 3, 1, (.array .int), false), (133, 3, 2, (.array .int), false), (14, 6, 0, (.object "GameText$Names"), true), (136, 3, 3, (.array .int), false)],
  [(107, 1, 61, 2), (142, 1, 59, 2)],
  [],
  [],
  [],
  [])
/-- GameText$Checker.looksAtBranch(I)I -/
def tE_88 : tb_E := (("GameText$Checker", 6, false, prog_2_method_12_code, 2, (some .int), ⟨"GameText$Checker", "looksAtBranch", "(I)I"⟩),
  [(0, .aload_n 0, 1), (1, .getfield 57, 3), (4, .bipush 8, 2), (6, .if_icmp .lt 18, 3), (9, .aload_n 0, 1), (10, .iconst 5, 1), (11, .aload_n 0, 1), (12, .getfield 34, 3), (15, .getfield 131, 3), (18, .iload_n 1, 1), (19, .iaload, 1), (20, .invokevirtual 107, 3), (23, .ireturn, 1), (24, .aload_n 0, 1), (25, .getfield 34, 3), (28, .getfield 139, 3), (31, .aload_n 0, 1), (32, .getfield 57, 3), (35, .ifCond .ne 10, 3), (38, .aload_n 0, 1), (39, .getfield 39, 3), (42, .goto 7, 3), (45, .aload_n 0, 1), (46, .getfield 54, 3), (49, .iload_n 1, 1), (50, .iastore, 1), (51, .aload_n 0, 1), (52, .iload_n 1, 1), (53, .putfield 54, 3), (56, .aload_n 0, 1), (57, .dup, 1), (58, .getfield 57, 3), (61, .iconst 1, 1), (62, .iadd, 1), (63, .putfield 57, 3), (66, .aload_n 0, 1), (67, .iconst (-1), 1), (68, .putfield 60, 3), (71, .iconst 0, 1), (72, .ireturn, 1)],
  [(57, 6, 11, .int, false), (34, 6, 3, (.object "GameText$Code"), false), (131, 3, 1, (.array .int), false), (139, 3, 4, (.array .int), false), (39, 6, 5, .int, false), (54, 6, 10, .int, false), (60, 6, 12, .int, false)],
  [(107, 1, 61, 2)],
  [],
  [],
  [],
  [])
/-- GameText$Checker.looksAtSet(I)I -/
def tE_89 : tb_E := (("GameText$Checker", 6, false, prog_2_method_13_code, 7, (some .int), ⟨"GameText$Checker", "looksAtSet", "(I)I"⟩),
  [(0, .aload_n 0, 1), (1, .getfield 34, 3), (4, .getfield 133, 3), (7, .iload_n 1, 1), (8, .iaload, 1), (9, .istore_n 2, 1), (10, .aload_n 0, 1), (11, .getfield 14, 3), (14, .iload_n 2, 1), (15, .aload_n 0, 1), (16, .getfield 34, 3), (19, .getfield 136, 3), (22, .iload_n 1, 1), (23, .iaload, 1), (24, .invokevirtual 142, 3), (27, .istore_n 3, 1), (28, .iload_n 3, 1), (29, .ifCond .lt 17, 3), (32, .aload_n 0, 1), (33, .getfield 14, 3), (36, .getfield 145, 3), (39, .iload_n 3, 1), (40, .iaload, 1), (41, .bipush 29, 2), (43, .if_icmp .eq 10, 3), (46, .aload_n 0, 1), (47, .iconst 2, 1), (48, .iload_n 2, 1), (49, .invokevirtual 107, 3), (52, .ireturn, 1), (53, .aload_n 0, 1), (54, .getfield 14, 3), (57, .getfield 148, 3), (60, .iload_n 3, 1), (61, .iaload, 1), (62, .istore 4, 2), (64, .aload_n 0, 1), (65, .getfield 34, 3), (68, .getfield 136, 3), (71, .aload_n 0, 1), (72, .getfield 54, 3), (75, .iaload, 1), (76, .istore 5, 2), (78, .iconst 0, 1), (79, .istore 6, 2), (81, .iload 6, 2), (83, .bipush 12, 2), (85, .if_icmp .ge 48, 3), (88, .iload 5, 2), (90, .ifCond .lt 43, 3), (93, .aload_n 0, 1), (94, .getfield 34, 3), (97, .getfield 133, 3), (100, .iload 5, 2), (102, .iaload, 1), (103, .iload 4, 2), (105, .if_icmp .ne 10, 3), (108, .aload_n 0, 1), (109, .iconst 4, 1), (110, .iload_n 2, 1), (111, .invokevirtual 107, 3), (114, .ireturn, 1), (115, .aload_n 0, 1), (116, .getfield 34, 3), (119, .getfield 139, 3), (122, .iload 5, 2), (124, .iaload, 1), (125, .istore 5, 2), (127, .iinc 6 1, 3), (130, .goto (-49), 3), (133, .aload_n 0, 1), (134, .getfield 60, 3), (137, .ifCond .ge 19, 3), (140, .aload_n 0, 1), (141, .getfield 34, 3), (144, .getfield 136, 3), (147, .aload_n 0, 1), (148, .getfield 54, 3), (151, .iload_n 1, 1), (152, .iastore, 1), (153, .goto 16, 3), (156, .aload_n 0, 1), (157, .getfield 34, 3), (160, .getfield 139, 3), (163, .aload_n 0, 1), (164, .getfield 60, 3), (167, .iload_n 1, 1), (168, .iastore, 1), (169, .aload_n 0, 1), (170, .getfield 34, 3), (173, .getfield 133, 3), (176, .iload_n 1, 1), (177, .iload 4, 2), (179, .iastore, 1), (180, .aload_n 0, 1), (181, .iload_n 1, 1), (182, .putfield 60, 3), (185, .iconst 0, 1), (186, .ireturn, 1)],
  [(34, 6, 3, (.object "GameText$Code"), false), (133, 3, 2, (.array .int), false), (14, 6, 0, (.object "GameText$Names"), true), (136, 3, 3, (.array .int), false), (145, 7, 3, (.array .int), true), (148, 7, 4, (.array .int), true), (54, 6, 10, .int, false), (139, 3, 4, (.array .int), false), (60, 6, 12, .int, false)],
  [(142, 1, 59, 2), (107, 1, 61, 2)],
  [],
  [],
  [],
  [])
/-- GameText.takeSpare()V -/
def tE_90 : tb_E := (("GameText", 0, false, prog_1_method_5_code, 2, none, ⟨"GameText", "takeSpare", "()V"⟩),
  [(0, .aload_n 0, 1), (1, .getfield 19, 3), (4, .astore_n 1, 1), (5, .aload_n 0, 1), (6, .aload_n 0, 1), (7, .getfield 23, 3), (10, .putfield 19, 3), (13, .aload_n 0, 1), (14, .aload_n 1, 1), (15, .putfield 23, 3), (18, .aload_n 0, 1), (19, .iconst 1, 1), (20, .putfield 69, 3), (23, .aload_n 0, 1), (24, .iconst 0, 1), (25, .putfield 73, 3), (28, .aload_n 0, 1), (29, .getfield 56, 3), (32, .invokevirtual 114, 3), (35, .return_, 1)],
  [(19, 0, 5, (.object "GameText$Text"), false), (23, 0, 6, (.object "GameText$Text"), false), (69, 0, 7, .boolean, false), (73, 0, 8, .boolean, false), (56, 0, 3, (.object "GameText$Graph"), true)],
  [(114, 1, 91, 0)],
  [],
  [],
  [],
  [])
/-- GameText$Graph.clear()V -/
def tE_91 : tb_E := (("GameText$Graph", 8, false, prog_5_method_2_code, 1, none, ⟨"GameText$Graph", "clear", "()V"⟩),
  [(0, .aload_n 0, 1), (1, .iconst 0, 1), (2, .putfield 39, 3), (5, .aload_n 0, 1), (6, .iconst 0, 1), (7, .putfield 43, 3), (10, .aload_n 0, 1), (11, .iconst 0, 1), (12, .putfield 46, 3), (15, .aload_n 0, 1), (16, .iconst 0, 1), (17, .putfield 49, 3), (20, .return_, 1)],
  [(39, 8, 9, .int, false), (43, 8, 10, .int, false), (46, 8, 11, .int, false), (49, 8, 12, .int, false)],
  [],
  [],
  [],
  [],
  [])
/-- GameText.place()I -/
def tE_92 : tb_E := (("GameText", 0, false, prog_1_method_6_code, 1, (some .int), ⟨"GameText", "place", "()I"⟩),
  [(0, .aload_n 0, 1), (1, .getfield 76, 3), (4, .ireturn, 1)],
  [(76, 0, 9, .int, false)],
  [],
  [],
  [],
  [],
  [])
/-- GameText.items(I)I -/
def tE_93 : tb_E := (("GameText", 0, false, prog_1_method_7_code, 2, (some .int), ⟨"GameText", "items", "(I)I"⟩),
  [(0, .aload_n 0, 1), (1, .getfield 69, 3), (4, .ifCond .ne 5, 3), (7, .iconst (-1), 1), (8, .ireturn, 1), (9, .iload_n 1, 1), (10, .tableswitch 50 0 2 #[26, 34, 42], 26), (36, .aload_n 0, 1), (37, .getfield 19, 3), (40, .getfield 117, 3), (43, .ireturn, 1), (44, .aload_n 0, 1), (45, .getfield 19, 3), (48, .getfield 120, 3), (51, .ireturn, 1), (52, .aload_n 0, 1), (53, .getfield 19, 3), (56, .getfield 123, 3), (59, .ireturn, 1), (60, .iconst (-1), 1), (61, .ireturn, 1)],
  [(69, 0, 7, .boolean, false), (19, 0, 5, (.object "GameText$Text"), false), (117, 2, 7, .int, false), (120, 2, 8, .int, false), (123, 2, 10, .int, false)],
  [],
  [],
  [],
  [],
  [])
/-- GameText.state()I -/
def tE_94 : tb_E := (("GameText", 0, false, prog_1_method_9_code, 1, (some .int), ⟨"GameText", "state", "()I"⟩),
  [(0, .aload_n 0, 1), (1, .getfield 65, 3), (4, .getfield 138, 3), (7, .ireturn, 1)],
  [(65, 0, 4, (.object "GameText$Explorer"), true), (138, 9, 9, .int, false)],
  [],
  [],
  [],
  [],
  [])
/-- GameText.states()I -/
def tE_95 : tb_E := (("GameText", 0, false, prog_1_method_10_code, 1, (some .int), ⟨"GameText", "states", "()I"⟩),
  [(0, .aload_n 0, 1), (1, .getfield 56, 3), (4, .getfield 141, 3), (7, .ireturn, 1)],
  [(56, 0, 3, (.object "GameText$Graph"), true), (141, 8, 10, .int, false)],
  [],
  [],
  [],
  [],
  [])
/-- GameText.kind(I)I -/
def tE_96 : tb_E := (("GameText", 0, false, prog_1_method_12_code, 2, (some .int), ⟨"GameText", "kind", "(I)I"⟩),
  [(0, .aload_n 0, 1), (1, .getfield 56, 3), (4, .iload_n 1, 1), (5, .invokevirtual 144, 3), (8, .ifCond .eq 15, 3), (11, .aload_n 0, 1), (12, .getfield 56, 3), (15, .getfield 158, 3), (18, .iload_n 1, 1), (19, .iaload, 1), (20, .goto 4, 3), (23, .iconst (-1), 1), (24, .ireturn, 1)],
  [(56, 0, 3, (.object "GameText$Graph"), true), (158, 8, 2, (.array .int), false)],
  [(144, 1, 97, 1)],
  [],
  [],
  [],
  [])
/-- GameText$Graph.hasState(I)Z -/
def tE_97 : tb_E := (("GameText$Graph", 8, false, prog_5_method_4_code, 2, (some .boolean), ⟨"GameText$Graph", "hasState", "(I)Z"⟩),
  [(0, .iload_n 1, 1), (1, .ifCond .lt 15, 3), (4, .iload_n 1, 1), (5, .aload_n 0, 1), (6, .getfield 43, 3), (9, .if_icmp .ge 7, 3), (12, .iconst 1, 1), (13, .goto 4, 3), (16, .iconst 0, 1), (17, .ireturn, 1)],
  [(43, 8, 10, .int, false)],
  [],
  [],
  [],
  [],
  [])
/-- GameText.commands(I)I -/
def tE_98 : tb_E := (("GameText", 0, false, prog_1_method_13_code, 2, (some .int), ⟨"GameText", "commands", "(I)I"⟩),
  [(0, .aload_n 0, 1), (1, .getfield 56, 3), (4, .iload_n 1, 1), (5, .invokevirtual 144, 3), (8, .ifCond .eq 27, 3), (11, .aload_n 0, 1), (12, .getfield 56, 3), (15, .getfield 161, 3), (18, .iload_n 1, 1), (19, .iconst 1, 1), (20, .iadd, 1), (21, .iaload, 1), (22, .aload_n 0, 1), (23, .getfield 56, 3), (26, .getfield 161, 3), (29, .iload_n 1, 1), (30, .iaload, 1), (31, .isub, 1), (32, .goto 4, 3), (35, .iconst (-1), 1), (36, .ireturn, 1)],
  [(56, 0, 3, (.object "GameText$Graph"), true), (161, 8, 3, (.array .int), false)],
  [(144, 1, 97, 1)],
  [],
  [],
  [],
  [])
/-- GameText.command(II)I -/
def tE_99 : tb_E := (("GameText", 0, false, prog_1_method_14_code, 4, (some .int), ⟨"GameText", "command", "(II)I"⟩),
  [(0, .aload_n 0, 1), (1, .getfield 56, 3), (4, .iload_n 1, 1), (5, .iload_n 2, 1), (6, .invokevirtual 164, 3), (9, .istore_n 3, 1), (10, .iload_n 3, 1), (11, .ifCond .ge 7, 3), (14, .iconst (-1), 1), (15, .goto 12, 3), (18, .aload_n 0, 1), (19, .getfield 56, 3), (22, .getfield 168, 3), (25, .iload_n 3, 1), (26, .iaload, 1), (27, .ireturn, 1)],
  [(56, 0, 3, (.object "GameText$Graph"), true), (168, 8, 4, (.array .int), false)],
  [(164, 1, 100, 2)],
  [],
  [],
  [],
  [])
/-- GameText$Graph.commandAt(II)I -/
def tE_100 : tb_E := (("GameText$Graph", 8, false, prog_5_method_5_code, 3, (some .int), ⟨"GameText$Graph", "commandAt", "(II)I"⟩),
  [(0, .aload_n 0, 1), (1, .iload_n 1, 1), (2, .invokevirtual 61, 3), (5, .ifCond .eq 26, 3), (8, .iload_n 2, 1), (9, .ifCond .lt 22, 3), (12, .iload_n 2, 1), (13, .aload_n 0, 1), (14, .getfield 21, 3), (17, .iload_n 1, 1), (18, .iconst 1, 1), (19, .iadd, 1), (20, .iaload, 1), (21, .aload_n 0, 1), (22, .getfield 21, 3), (25, .iload_n 1, 1), (26, .iaload, 1), (27, .isub, 1), (28, .if_icmp .lt 5, 3), (31, .iconst (-1), 1), (32, .ireturn, 1), (33, .aload_n 0, 1), (34, .getfield 21, 3), (37, .iload_n 1, 1), (38, .iaload, 1), (39, .iload_n 2, 1), (40, .iadd, 1), (41, .ireturn, 1)],
  [(21, 8, 3, (.array .int), false)],
  [(61, 1, 97, 1)],
  [],
  [],
  [],
  [])
/-- GameText.branches(II)I -/
def tE_101 : tb_E := (("GameText", 0, false, prog_1_method_15_code, 4, (some .int), ⟨"GameText", "branches", "(II)I"⟩),
  [(0, .aload_n 0, 1), (1, .getfield 56, 3), (4, .iload_n 1, 1), (5, .iload_n 2, 1), (6, .invokevirtual 164, 3), (9, .istore_n 3, 1), (10, .iload_n 3, 1), (11, .ifCond .ge 7, 3), (14, .iconst (-1), 1), (15, .goto 24, 3), (18, .aload_n 0, 1), (19, .getfield 56, 3), (22, .getfield 171, 3), (25, .iload_n 3, 1), (26, .iconst 1, 1), (27, .iadd, 1), (28, .iaload, 1), (29, .aload_n 0, 1), (30, .getfield 56, 3), (33, .getfield 171, 3), (36, .iload_n 3, 1), (37, .iaload, 1), (38, .isub, 1), (39, .ireturn, 1)],
  [(56, 0, 3, (.object "GameText$Graph"), true), (171, 8, 5, (.array .int), false)],
  [(164, 1, 100, 2)],
  [],
  [],
  [],
  [])
/-- GameText.branch(IIII)I -/
def tE_102 : tb_E := (("GameText", 0, false, prog_1_method_16_code, 6, (some .int), ⟨"GameText", "branch", "(IIII)I"⟩),
  [(0, .aload_n 0, 1), (1, .getfield 56, 3), (4, .iload_n 1, 1), (5, .iload_n 2, 1), (6, .iload_n 3, 1), (7, .invokevirtual 174, 3), (10, .istore 5, 2), (12, .iload 5, 2), (14, .ifCond .ge 5, 3), (17, .iconst (-1), 1), (18, .ireturn, 1), (19, .iload 4, 2), (21, .tableswitch 60 0 2 #[27, 38, 49], 27), (48, .aload_n 0, 1), (49, .getfield 56, 3), (52, .getfield 178, 3), (55, .iload 5, 2), (57, .iaload, 1), (58, .ireturn, 1), (59, .aload_n 0, 1), (60, .getfield 56, 3), (63, .getfield 181, 3), (66, .iload 5, 2), (68, .iaload, 1), (69, .ireturn, 1), (70, .aload_n 0, 1), (71, .getfield 56, 3), (74, .getfield 184, 3), (77, .iload 5, 2), (79, .iaload, 1), (80, .ireturn, 1), (81, .iconst (-1), 1), (82, .ireturn, 1)],
  [(56, 0, 3, (.object "GameText$Graph"), true), (178, 8, 6, (.array .int), false), (181, 8, 7, (.array .int), false), (184, 8, 8, (.array .int), false)],
  [(174, 1, 103, 3)],
  [],
  [],
  [],
  [])
/-- GameText$Graph.branchAt(III)I -/
def tE_103 : tb_E := (("GameText$Graph", 8, false, prog_5_method_6_code, 5, (some .int), ⟨"GameText$Graph", "branchAt", "(III)I"⟩),
  [(0, .aload_n 0, 1), (1, .iload_n 1, 1), (2, .iload_n 2, 1), (3, .invokevirtual 65, 3), (6, .istore 4, 2), (8, .iload 4, 2), (10, .ifCond .lt 28, 3), (13, .iload_n 3, 1), (14, .ifCond .lt 24, 3), (17, .iload_n 3, 1), (18, .aload_n 0, 1), (19, .getfield 27, 3), (22, .iload 4, 2), (24, .iconst 1, 1), (25, .iadd, 1), (26, .iaload, 1), (27, .aload_n 0, 1), (28, .getfield 27, 3), (31, .iload 4, 2), (33, .iaload, 1), (34, .isub, 1), (35, .if_icmp .lt 5, 3), (38, .iconst (-1), 1), (39, .ireturn, 1), (40, .aload_n 0, 1), (41, .getfield 27, 3), (44, .iload 4, 2), (46, .iaload, 1), (47, .iload_n 3, 1), (48, .iadd, 1), (49, .ireturn, 1)],
  [(27, 8, 5, (.array .int), false)],
  [(65, 1, 100, 2)],
  [],
  [],
  [],
  [])
/-- GameTextLaw.end(LGameText;I[J)I -/
def tE_104 : tb_E := (("GameTextLaw", 99, false, method_3_code, 4, (some .int), ⟨"GameTextLaw", "end", "(LGameText;I[J)I"⟩),
  [(0, .aload_n 2, 1), (1, .iconst 0, 1), (2, .aload_n 0, 1), (3, .iload_n 1, 1), (4, .invokevirtual 7, 3), (7, .i2l, 1), (8, .lastore, 1), (9, .goto 6, 3), (12, .astore_n 3, 1), (13, .iconst 1, 1), (14, .ireturn, 1), (15, .iconst 0, 1), (16, .ireturn, 1)],
  [],
  [(7, 1, 105, 1)],
  [],
  [],
  [],
  [(4, "java/lang/IllegalArgumentException", 13, 3)])
/-- GameText.end(I)I -/
def tE_105 : tb_E := (("GameText", 0, false, prog_1_method_3_code, 2, (some .int), ⟨"GameText", "end", "(I)I"⟩),
  [(0, .iload_n 1, 1), (1, .ifCond .lt 9, 3), (4, .iload_n 1, 1), (5, .bipush 20, 2), (7, .if_icmp .le 13, 3), (10, .new 90, 3), (13, .dup, 1), (14, .ldc 92, 2), (16, .invokespecial 94, 3), (19, .athrow, 1), (20, .aload_n 0, 1), (21, .getfield 10, 3), (24, .getfield 80, 3), (27, .bipush 20, 2), (29, .if_icmp .ge 13, 3), (32, .new 90, 3), (35, .dup, 1), (36, .ldc 97, 2), (38, .invokespecial 94, 3), (41, .athrow, 1), (42, .aload_n 0, 1), (43, .getfield 10, 3), (46, .aload_n 0, 1), (47, .getfield 10, 3), (50, .getfield 80, 3), (53, .bipush 20, 2), (55, .isub, 1), (56, .iload_n 1, 1), (57, .iadd, 1), (58, .putfield 80, 3), (61, .aload_n 0, 1), (62, .getfield 10, 3), (65, .getfield 80, 3), (68, .ireturn, 1)],
  [(10, 0, 0, (.object "GameText$Words"), true), (80, 1, 1, .int, false)],
  [],
  [],
  [],
  [(10, "java/lang/IllegalArgumentException"), (32, "java/lang/IllegalArgumentException")],
  [])
/-- GameTextLaw.explore(LGameText;[J)I -/
def tE_106 : tb_E := (("GameTextLaw", 99, false, method_4_code, 3, (some .int), ⟨"GameTextLaw", "explore", "(LGameText;[J)I"⟩),
  [(0, .aload_n 1, 1), (1, .iconst 0, 1), (2, .aload_n 0, 1), (3, .invokevirtual 15, 3), (6, .i2l, 1), (7, .lastore, 1), (8, .goto 6, 3), (11, .astore_n 2, 1), (12, .iconst 1, 1), (13, .ireturn, 1), (14, .iconst 0, 1), (15, .ireturn, 1)],
  [],
  [(15, 1, 107, 0)],
  [],
  [],
  [],
  [(3, "java/lang/IllegalStateException", 12, 2)])
/-- GameText.explore()I -/
def tE_107 : tb_E := (("GameText", 0, false, prog_1_method_8_code, 1, (some .int), ⟨"GameText", "explore", "()I"⟩),
  [(0, .aload_n 0, 1), (1, .getfield 69, 3), (4, .ifCond .ne 13, 3), (7, .new 126, 3), (10, .dup, 1), (11, .ldc 128, 2), (13, .invokespecial 130, 3), (16, .athrow, 1), (17, .aload_n 0, 1), (18, .getfield 73, 3), (21, .ifCond .ne 19, 3), (24, .aload_n 0, 1), (25, .getfield 65, 3), (28, .aload_n 0, 1), (29, .getfield 19, 3), (32, .invokevirtual 131, 3), (35, .aload_n 0, 1), (36, .iconst 1, 1), (37, .putfield 73, 3), (40, .aload_n 0, 1), (41, .aload_n 0, 1), (42, .getfield 65, 3), (45, .getfield 134, 3), (48, .putfield 76, 3), (51, .aload_n 0, 1), (52, .getfield 65, 3), (55, .getfield 135, 3), (58, .ireturn, 1)],
  [(69, 0, 7, .boolean, false), (73, 0, 8, .boolean, false), (65, 0, 4, (.object "GameText$Explorer"), true), (19, 0, 5, (.object "GameText$Text"), false), (134, 9, 8, .int, false), (76, 0, 9, .int, false), (135, 9, 7, .int, false)],
  [(131, 1, 108, 1)],
  [],
  [],
  [(7, "java/lang/IllegalStateException")],
  [])
/-- GameText$Explorer.seek(LGameText$Text;)V -/
def tE_108 : tb_E := (("GameText$Explorer", 9, false, prog_4_method_2_code, 3, none, ⟨"GameText$Explorer", "seek", "(LGameText$Text;)V"⟩),
  [(0, .aload_n 0, 1), (1, .aload_n 1, 1), (2, .putfield 29, 3), (5, .aload_n 0, 1), (6, .aload_n 1, 1), (7, .getfield 33, 3), (10, .putfield 39, 3), (13, .aload_n 0, 1), (14, .iconst 0, 1), (15, .putfield 40, 3), (18, .aload_n 0, 1), (19, .iconst (-1), 1), (20, .putfield 44, 3), (23, .aload_n 0, 1), (24, .iconst (-1), 1), (25, .putfield 47, 3), (28, .aload_n 0, 1), (29, .getfield 9, 3), (32, .aload_n 0, 1), (33, .getfield 29, 3), (36, .invokevirtual 50, 3), (39, .aload_n 0, 1), (40, .getfield 15, 3), (43, .aload_n 0, 1), (44, .getfield 29, 3), (47, .getfield 56, 3), (50, .invokevirtual 59, 3), (53, .aload_n 0, 1), (54, .getfield 15, 3), (57, .aload_n 0, 1), (58, .getfield 29, 3), (61, .getfield 65, 3), (64, .invokevirtual 68, 3), (67, .pop, 1), (68, .iconst 0, 1), (69, .istore_n 2, 1), (70, .iload_n 2, 1), (71, .sipush 512, 3), (74, .if_icmp .ge 49, 3), (77, .iload_n 2, 1), (78, .aload_n 0, 1), (79, .getfield 15, 3), (82, .getfield 72, 3), (85, .if_icmp .ge 38, 3), (88, .aload_n 0, 1), (89, .aload_n 0, 1), (90, .iload_n 2, 1), (91, .invokevirtual 75, 3), (94, .putfield 40, 3), (97, .aload_n 0, 1), (98, .getfield 40, 3), (101, .ifCond .eq 16, 3), (104, .aload_n 0, 1), (105, .iload_n 2, 1), (106, .putfield 47, 3), (109, .aload_n 0, 1), (110, .getfield 15, 3), (113, .invokevirtual 79, 3), (116, .return_, 1), (117, .iinc 2 1, 3), (120, .goto (-50), 3), (123, .return_, 1)],
  [(29, 9, 5, (.object "GameText$Text"), false), (33, 2, 0, (.object "GameText$Code"), true), (39, 9, 6, (.object "GameText$Code"), false), (40, 9, 7, .int, false), (44, 9, 8, .int, false), (47, 9, 9, .int, false), (9, 9, 0, (.object "GameText$Machine"), true), (15, 9, 1, (.object "GameText$Graph"), true), (56, 2, 7, .int, false), (65, 2, 3, (.array .int), true), (72, 8, 10, .int, false)],
  [(50, 1, 55, 1), (59, 1, 109, 1), (68, 1, 110, 1), (75, 1, 114, 1), (79, 1, 91, 0)],
  [],
  [],
  [],
  [])
/-- GameText$Graph.begin(I)V -/
def tE_109 : tb_E := (("GameText$Graph", 8, false, prog_5_method_3_code, 2, none, ⟨"GameText$Graph", "begin", "(I)V"⟩),
  [(0, .aload_n 0, 1), (1, .invokevirtual 52, 3), (4, .aload_n 0, 1), (5, .iload_n 1, 1), (6, .putfield 39, 3), (9, .aload_n 0, 1), (10, .getfield 11, 3), (13, .iconst 0, 1), (14, .invokestatic 55, 3), (17, .return_, 1)],
  [(39, 8, 9, .int, false), (11, 8, 0, (.array .int), true)],
  [(52, 1, 91, 0), (55, 0, 56, 2)],
  [],
  [],
  [],
  [])
/-- GameText$Graph.find([I)I -/
def tE_110 : tb_E := (("GameText$Graph", 8, false, prog_5_method_7_code, 4, (some .int), ⟨"GameText$Graph", "find", "([I)I"⟩),
  [(0, .aload_n 0, 1), (1, .aload_n 1, 1), (2, .invokevirtual 69, 3), (5, .istore_n 2, 1), (6, .iconst 0, 1), (7, .istore_n 3, 1), (8, .iload_n 3, 1), (9, .sipush 1024, 3), (12, .if_icmp .ge 51, 3), (15, .aload_n 0, 1), (16, .getfield 11, 3), (19, .iload_n 2, 1), (20, .iaload, 1), (21, .ifCond .eq 42, 3), (24, .aload_n 0, 1), (25, .aload_n 0, 1), (26, .getfield 11, 3), (29, .iload_n 2, 1), (30, .iaload, 1), (31, .iconst 1, 1), (32, .isub, 1), (33, .aload_n 1, 1), (34, .invokevirtual 73, 3), (37, .ifCond .eq 12, 3), (40, .aload_n 0, 1), (41, .getfield 11, 3), (44, .iload_n 2, 1), (45, .iaload, 1), (46, .iconst 1, 1), (47, .isub, 1), (48, .ireturn, 1), (49, .iload_n 2, 1), (50, .iconst 1, 1), (51, .iadd, 1), (52, .sipush 1023, 3), (55, .iand, 1), (56, .istore_n 2, 1), (57, .iinc 3 1, 3), (60, .goto (-52), 3), (63, .aload_n 0, 1), (64, .getfield 43, 3), (67, .sipush 512, 3), (70, .if_icmp .lt 5, 3), (73, .iconst (-1), 1), (74, .ireturn, 1), (75, .aload_n 0, 1), (76, .getfield 11, 3), (79, .iload_n 2, 1), (80, .aload_n 0, 1), (81, .getfield 43, 3), (84, .iconst 1, 1), (85, .iadd, 1), (86, .iastore, 1), (87, .aload_n 0, 1), (88, .aload_n 1, 1), (89, .invokevirtual 77, 3), (92, .aload_n 0, 1), (93, .getfield 43, 3), (96, .iconst 1, 1), (97, .isub, 1), (98, .ireturn, 1)],
  [(11, 8, 0, (.array .int), true), (43, 8, 10, .int, false)],
  [(69, 1, 111, 1), (73, 1, 112, 2), (77, 1, 113, 1)],
  [],
  [],
  [],
  [])
/-- GameText$Graph.slotOf([I)I -/
def tE_111 : tb_E := (("GameText$Graph", 8, false, prog_5_method_8_code, 4, (some .int), ⟨"GameText$Graph", "slotOf", "([I)I"⟩),
  [(0, .iconst 0, 1), (1, .istore_n 2, 1), (2, .iconst 0, 1), (3, .istore_n 3, 1), (4, .iload_n 3, 1), (5, .aload_n 0, 1), (6, .getfield 39, 3), (9, .if_icmp .ge 18, 3), (12, .iload_n 2, 1), (13, .aload_n 1, 1), (14, .iload_n 3, 1), (15, .iaload, 1), (16, .iadd, 1), (17, .ldc 81, 2), (19, .imul, 1), (20, .istore_n 2, 1), (21, .iinc 3 1, 3), (24, .goto (-20), 3), (27, .iload_n 2, 1), (28, .iload_n 2, 1), (29, .bipush 16, 2), (31, .iushr, 1), (32, .ixor, 1), (33, .sipush 1023, 3), (36, .iand, 1), (37, .ireturn, 1)],
  [(39, 8, 9, .int, false)],
  [],
  [],
  [(81, .int (-1640531535))],
  [],
  [])
/-- GameText$Graph.isHeld(I[I)Z -/
def tE_112 : tb_E := (("GameText$Graph", 8, false, prog_5_method_9_code, 5, (some .boolean), ⟨"GameText$Graph", "isHeld", "(I[I)Z"⟩),
  [(0, .iload_n 1, 1), (1, .bipush 12, 2), (3, .imul, 1), (4, .istore_n 3, 1), (5, .iconst 0, 1), (6, .istore 4, 2), (8, .iload 4, 2), (10, .aload_n 0, 1), (11, .getfield 39, 3), (14, .if_icmp .ge 27, 3), (17, .aload_n 0, 1), (18, .getfield 15, 3), (21, .iload_n 3, 1), (22, .iload 4, 2), (24, .iadd, 1), (25, .iaload, 1), (26, .aload_n 2, 1), (27, .iload 4, 2), (29, .iaload, 1), (30, .if_icmp .eq 5, 3), (33, .iconst 0, 1), (34, .ireturn, 1), (35, .iinc 4 1, 3), (38, .goto (-30), 3), (41, .iconst 1, 1), (42, .ireturn, 1)],
  [(39, 8, 9, .int, false), (15, 8, 1, (.array .int), false)],
  [],
  [],
  [],
  [],
  [])
/-- GameText$Graph.hold([I)V -/
def tE_113 : tb_E := (("GameText$Graph", 8, false, prog_5_method_10_code, 3, none, ⟨"GameText$Graph", "hold", "([I)V"⟩),
  [(0, .aload_n 0, 1), (1, .getfield 43, 3), (4, .aload_n 0, 1), (5, .getfield 18, 3), (8, .arraylength, 1), (9, .if_icmp .lt 52, 3), (12, .iconst 2, 1), (13, .aload_n 0, 1), (14, .getfield 18, 3), (17, .arraylength, 1), (18, .imul, 1), (19, .istore_n 2, 1), (20, .aload_n 0, 1), (21, .aload_n 0, 1), (22, .getfield 15, 3), (25, .iload_n 2, 1), (26, .bipush 12, 2), (28, .imul, 1), (29, .invokestatic 82, 3), (32, .putfield 15, 3), (35, .aload_n 0, 1), (36, .aload_n 0, 1), (37, .getfield 18, 3), (40, .iload_n 2, 1), (41, .invokestatic 82, 3), (44, .putfield 18, 3), (47, .aload_n 0, 1), (48, .aload_n 0, 1), (49, .getfield 21, 3), (52, .iload_n 2, 1), (53, .iconst 1, 1), (54, .iadd, 1), (55, .invokestatic 82, 3), (58, .putfield 21, 3), (61, .aload_n 1, 1), (62, .iconst 0, 1), (63, .aload_n 0, 1), (64, .getfield 15, 3), (67, .aload_n 0, 1), (68, .getfield 43, 3), (71, .bipush 12, 2), (73, .imul, 1), (74, .aload_n 0, 1), (75, .getfield 39, 3), (78, .invokestatic 86, 3), (81, .aload_n 0, 1), (82, .getfield 18, 3), (85, .aload_n 0, 1), (86, .getfield 43, 3), (89, .iconst 0, 1), (90, .iastore, 1), (91, .aload_n 0, 1), (92, .dup, 1), (93, .getfield 43, 3), (96, .iconst 1, 1), (97, .iadd, 1), (98, .putfield 43, 3), (101, .return_, 1)],
  [(43, 8, 10, .int, false), (18, 8, 2, (.array .int), false), (15, 8, 1, (.array .int), false), (21, 8, 3, (.array .int), false), (39, 8, 9, .int, false)],
  [(82, 0, 13, 2), (86, 5, 0, 5)],
  [],
  [],
  [],
  [])
/-- GameText$Explorer.looksAtState(I)I -/
def tE_114 : tb_E := (("GameText$Explorer", 9, false, prog_4_method_4_code, 4, (some .int), ⟨"GameText$Explorer", "looksAtState", "(I)I"⟩),
  [(0, .aload_n 0, 1), (1, .getfield 15, 3), (4, .getfield 82, 3), (7, .iload_n 1, 1), (8, .bipush 12, 2), (10, .imul, 1), (11, .aload_n 0, 1), (12, .getfield 9, 3), (15, .getfield 85, 3), (18, .iconst 0, 1), (19, .aload_n 0, 1), (20, .getfield 29, 3), (23, .getfield 56, 3), (26, .invokestatic 88, 3), (29, .aload_n 0, 1), (30, .getfield 9, 3), (33, .iload_n 1, 1), (34, .iconst 1, 1), (35, .iadd, 1), (36, .putfield 94, 3), (39, .aload_n 0, 1), (40, .getfield 15, 3), (43, .iload_n 1, 1), (44, .invokevirtual 97, 3), (47, .aload_n 0, 1), (48, .getfield 9, 3), (51, .aload_n 0, 1), (52, .getfield 29, 3), (55, .getfield 100, 3), (58, .invokevirtual 103, 3), (61, .istore_n 2, 1), (62, .iload_n 2, 1), (63, .ifCond .eq 16, 3), (66, .aload_n 0, 1), (67, .iload_n 2, 1), (68, .aload_n 0, 1), (69, .getfield 9, 3), (72, .getfield 106, 3), (75, .invokevirtual 107, 3), (78, .ireturn, 1), (79, .aload_n 0, 1), (80, .getfield 9, 3), (83, .aload_n 0, 1), (84, .getfield 29, 3), (87, .getfield 100, 3), (90, .invokevirtual 111, 3), (93, .ifCond .eq 15, 3), (96, .aload_n 0, 1), (97, .getfield 15, 3), (100, .getfield 115, 3), (103, .iload_n 1, 1), (104, .iconst 3, 1), (105, .iastore, 1), (106, .iconst 0, 1), (107, .ireturn, 1), (108, .iconst 0, 1), (109, .istore_n 3, 1), (110, .iload_n 3, 1), (111, .aload_n 0, 1), (112, .getfield 29, 3), (115, .getfield 118, 3), (118, .if_icmp .ge 22, 3), (121, .aload_n 0, 1), (122, .iload_n 1, 1), (123, .iload_n 3, 1), (124, .invokevirtual 121, 3), (127, .istore_n 2, 1), (128, .iload_n 2, 1), (129, .ifCond .eq 5, 3), (132, .iload_n 2, 1), (133, .ireturn, 1), (134, .iinc 3 1, 3), (137, .goto (-27), 3), (140, .iconst 0, 1), (141, .ireturn, 1)],
  [(15, 9, 1, (.object "GameText$Graph"), true), (82, 8, 1, (.array .int), false), (9, 9, 0, (.object "GameText$Machine"), true), (85, 5, 0, (.array .int), true), (29, 9, 5, (.object "GameText$Text"), false), (56, 2, 7, .int, false), (94, 5, 5, .int, false), (100, 2, 11, .int, false), (106, 5, 6, .int, false), (115, 8, 2, (.array .int), false), (118, 2, 10, .int, false)],
  [(88, 5, 0, 5), (97, 1, 115, 1), (103, 1, 70, 1), (107, 1, 116, 2), (111, 1, 117, 1), (121, 1, 118, 2)],
  [],
  [],
  [],
  [])
/-- GameText$Graph.openState(I)V -/
def tE_115 : tb_E := (("GameText$Graph", 8, false, prog_5_method_11_code, 2, none, ⟨"GameText$Graph", "openState", "(I)V"⟩),
  [(0, .aload_n 0, 1), (1, .getfield 21, 3), (4, .iload_n 1, 1), (5, .aload_n 0, 1), (6, .getfield 46, 3), (9, .iastore, 1), (10, .aload_n 0, 1), (11, .getfield 21, 3), (14, .iload_n 1, 1), (15, .iconst 1, 1), (16, .iadd, 1), (17, .aload_n 0, 1), (18, .getfield 46, 3), (21, .iastore, 1), (22, .return_, 1)],
  [(21, 8, 3, (.array .int), false), (46, 8, 11, .int, false)],
  [],
  [],
  [],
  [],
  [])
/-- GameText$Explorer.fails(II)I -/
def tE_116 : tb_E := (("GameText$Explorer", 9, false, prog_4_method_3_code, 3, (some .int), ⟨"GameText$Explorer", "fails", "(II)I"⟩),
  [(0, .aload_n 0, 1), (1, .iload_n 2, 1), (2, .putfield 44, 3), (5, .iload_n 1, 1), (6, .ireturn, 1)],
  [(44, 9, 8, .int, false)],
  [],
  [],
  [],
  [],
  [])
/-- GameText$Machine.isTrue(I)Z -/
def tE_117 : tb_E := (("GameText$Machine", 5, false, prog_6_method_3_code, 2, (some .boolean), ⟨"GameText$Machine", "isTrue", "(I)Z"⟩),
  [(0, .aload_n 0, 1), (1, .getfield 31, 3), (4, .getfield 52, 3), (7, .aload_n 0, 1), (8, .getfield 31, 3), (11, .getfield 56, 3), (14, .iload_n 1, 1), (15, .iaload, 1), (16, .iaload, 1), (17, .iconst 1, 1), (18, .if_icmp .ne 7, 3), (21, .iconst 1, 1), (22, .goto 4, 3), (25, .iconst 0, 1), (26, .ireturn, 1)],
  [(31, 5, 4, (.object "GameText$Code"), false), (52, 3, 6, (.array .int), false), (56, 3, 2, (.array .int), false)],
  [],
  [],
  [],
  [],
  [])
/-- GameText$Explorer.looksAtCommand(II)I -/
def tE_118 : tb_E := (("GameText$Explorer", 9, false, prog_4_method_5_code, 9, (some .int), ⟨"GameText$Explorer", "looksAtCommand", "(II)I"⟩),
  [(0, .aload_n 0, 1), (1, .getfield 29, 3), (4, .getfield 124, 3), (7, .iload_n 2, 1), (8, .iaload, 1), (9, .istore_n 3, 1), (10, .aload_n 0, 1), (11, .getfield 39, 3), (14, .getfield 127, 3), (17, .iload_n 3, 1), (18, .iaload, 1), (19, .istore 4, 2), (21, .aload_n 0, 1), (22, .getfield 9, 3), (25, .iload 4, 2), (27, .invokevirtual 103, 3), (30, .istore 5, 2), (32, .iload 5, 2), (34, .ifCond .eq 17, 3), (37, .aload_n 0, 1), (38, .iload 5, 2), (40, .aload_n 0, 1), (41, .getfield 9, 3), (44, .getfield 106, 3), (47, .invokevirtual 107, 3), (50, .ireturn, 1), (51, .aload_n 0, 1), (52, .getfield 9, 3), (55, .iload 4, 2), (57, .invokevirtual 111, 3), (60, .ifCond .ne 5, 3), (63, .iconst 0, 1), (64, .ireturn, 1), (65, .aload_n 0, 1), (66, .getfield 39, 3), (69, .getfield 132, 3), (72, .iload_n 3, 1), (73, .iaload, 1), (74, .istore 6, 2), (76, .aload_n 0, 1), (77, .getfield 15, 3), (80, .getfield 115, 3), (83, .iload_n 1, 1), (84, .iaload, 1), (85, .ifCond .eq 33, 3), (88, .aload_n 0, 1), (89, .getfield 15, 3), (92, .getfield 115, 3), (95, .iload_n 1, 1), (96, .iaload, 1), (97, .iload 6, 2), (99, .if_icmp .eq 19, 3), (102, .aload_n 0, 1), (103, .bipush 13, 2), (105, .aload_n 0, 1), (106, .getfield 39, 3), (109, .getfield 135, 3), (112, .iload_n 3, 1), (113, .iaload, 1), (114, .invokevirtual 107, 3), (117, .ireturn, 1), (118, .aload_n 0, 1), (119, .getfield 15, 3), (122, .getfield 115, 3), (125, .iload_n 1, 1), (126, .iload 6, 2), (128, .iastore, 1), (129, .aload_n 0, 1), (130, .iload_n 3, 1), (131, .invokevirtual 137, 3), (134, .istore 5, 2), (136, .iload 5, 2), (138, .ifCond .eq 6, 3), (141, .iload 5, 2), (143, .ireturn, 1), (144, .aload_n 0, 1), (145, .getfield 15, 3), (148, .iload_n 1, 1), (149, .iload_n 2, 1), (150, .invokevirtual 140, 3), (153, .aload_n 0, 1), (154, .getfield 39, 3), (157, .getfield 144, 3), (160, .iload_n 3, 1), (161, .iaload, 1), (162, .istore 7, 2), (164, .iconst 0, 1), (165, .istore 8, 2), (167, .iload 8, 2), (169, .bipush 8, 2), (171, .if_icmp .ge 52, 3), (174, .iload 7, 2), (176, .ifCond .lt 47, 3), (179, .iload 5, 2), (181, .ifCond .ne 42, 3), (184, .aload_n 0, 1), (185, .getfield 19, 3), (188, .iload 8, 2), (190, .iaload, 1), (191, .ifCond .eq 14, 3), (194, .aload_n 0, 1), (195, .iload_n 3, 1), (196, .iload 7, 2), (198, .iload 8, 2), (200, .invokevirtual 147, 3), (203, .istore 5, 2), (205, .aload_n 0, 1), (206, .getfield 39, 3), (209, .getfield 144, 3), (212, .iload 7, 2), (214, .iaload, 1), (215, .istore 7, 2), (217, .iinc 8 1, 3), (220, .goto (-53), 3), (223, .iload 5, 2), (225, .ireturn, 1)],
  [(29, 9, 5, (.object "GameText$Text"), false), (124, 2, 6, (.array .int), true), (39, 9, 6, (.object "GameText$Code"), false), (127, 3, 3, (.array .int), false), (9, 9, 0, (.object "GameText$Machine"), true), (106, 5, 6, .int, false), (132, 3, 2, (.array .int), false), (15, 9, 1, (.object "GameText$Graph"), true), (115, 8, 2, (.array .int), false), (135, 3, 1, (.array .int), false), (144, 3, 4, (.array .int), false), (19, 9, 2, (.array .int), true)],
  [(103, 1, 70, 1), (107, 1, 116, 2), (111, 1, 117, 1), (137, 1, 119, 1), (140, 1, 121, 2), (147, 1, 122, 3)],
  [],
  [],
  [],
  [])
/-- GameText$Explorer.worksOutChances(I)I -/
def tE_119 : tb_E := (("GameText$Explorer", 9, false, prog_4_method_6_code, 9, (some .int), ⟨"GameText$Explorer", "worksOutChances", "(I)I"⟩),
  [(0, .iconst 0, 1), (1, .istore_n 2, 1), (2, .aload_n 0, 1), (3, .getfield 39, 3), (6, .getfield 144, 3), (9, .iload_n 1, 1), (10, .iaload, 1), (11, .istore_n 3, 1), (12, .iconst 0, 1), (13, .istore 4, 2), (15, .iload 4, 2), (17, .bipush 8, 2), (19, .if_icmp .ge 154, 3), (22, .iload_n 3, 1), (23, .ifCond .lt 150, 3), (26, .aload_n 0, 1), (27, .getfield 39, 3), (30, .getfield 132, 3), (33, .iload_n 3, 1), (34, .iaload, 1), (35, .istore 5, 2), (37, .aload_n 0, 1), (38, .getfield 9, 3), (41, .iload 5, 2), (43, .invokevirtual 103, 3), (46, .istore 6, 2), (48, .iload 6, 2), (50, .ifCond .eq 17, 3), (53, .aload_n 0, 1), (54, .iload 6, 2), (56, .aload_n 0, 1), (57, .getfield 9, 3), (60, .getfield 106, 3), (63, .invokevirtual 107, 3), (66, .ireturn, 1), (67, .aload_n 0, 1), (68, .getfield 39, 3), (71, .getfield 151, 3), (74, .aload_n 0, 1), (75, .getfield 39, 3), (78, .getfield 132, 3), (81, .iload 5, 2), (83, .iaload, 1), (84, .iaload, 1), (85, .istore 7, 2), (87, .aload_n 0, 1), (88, .getfield 39, 3), (91, .getfield 154, 3), (94, .aload_n 0, 1), (95, .getfield 39, 3), (98, .getfield 132, 3), (101, .iload 5, 2), (103, .iaload, 1), (104, .iaload, 1), (105, .istore 8, 2), (107, .iload 7, 2), (109, .ifCond .lt 10, 3), (112, .iload 7, 2), (114, .iload 8, 2), (116, .if_icmp .le 20, 3), (119, .aload_n 0, 1), (120, .bipush 11, 2), (122, .aload_n 0, 1), (123, .getfield 39, 3), (126, .getfield 135, 3), (129, .iload 5, 2), (131, .iaload, 1), (132, .invokevirtual 107, 3), (135, .ireturn, 1), (136, .aload_n 0, 1), (137, .getfield 19, 3), (140, .iload 4, 2), (142, .iload 7, 2), (144, .iastore, 1), (145, .aload_n 0, 1), (146, .getfield 23, 3), (149, .iload 4, 2), (151, .iload 8, 2), (153, .iastore, 1), (154, .iinc 2 1, 3), (157, .aload_n 0, 1), (158, .getfield 39, 3), (161, .getfield 144, 3), (164, .iload_n 3, 1), (165, .iaload, 1), (166, .istore_n 3, 1), (167, .iinc 4 1, 3), (170, .goto (-155), 3), (173, .aload_n 0, 1), (174, .iload_n 1, 1), (175, .iload_n 2, 1), (176, .invokevirtual 157, 3), (179, .ireturn, 1)],
  [(39, 9, 6, (.object "GameText$Code"), false), (144, 3, 4, (.array .int), false), (132, 3, 2, (.array .int), false), (9, 9, 0, (.object "GameText$Machine"), true), (106, 5, 6, .int, false), (151, 3, 6, (.array .int), false), (154, 3, 7, (.array .int), false), (135, 3, 1, (.array .int), false), (19, 9, 2, (.array .int), true), (23, 9, 3, (.array .int), true)],
  [(103, 1, 70, 1), (107, 1, 116, 2), (157, 1, 120, 2)],
  [],
  [],
  [],
  [])
/-- GameText$Explorer.looksAtSum(II)I -/
def tE_120 : tb_E := (("GameText$Explorer", 9, false, prog_4_method_7_code, 8, (some .int), ⟨"GameText$Explorer", "looksAtSum", "(II)I"⟩),
  [(0, .lconst 1, 1), (1, .lstore_n 3, 1), (2, .iconst 0, 1), (3, .istore 5, 2), (5, .iload 5, 2), (7, .iload_n 2, 1), (8, .if_icmp .ge 57, 3), (11, .lload_n 3, 1), (12, .lload_n 3, 1), (13, .aload_n 0, 1), (14, .getfield 23, 3), (17, .iload 5, 2), (19, .iaload, 1), (20, .i2l, 1), (21, .invokestatic 160, 3), (24, .ldiv, 1), (25, .aload_n 0, 1), (26, .getfield 23, 3), (29, .iload 5, 2), (31, .iaload, 1), (32, .i2l, 1), (33, .lmul, 1), (34, .lstore_n 3, 1), (35, .lload_n 3, 1), (36, .ldc2_w 164, 3), (39, .lcmp, 1), (40, .ifCond .lt 19, 3), (43, .aload_n 0, 1), (44, .bipush 6, 2), (46, .aload_n 0, 1), (47, .getfield 39, 3), (50, .getfield 135, 3), (53, .iload_n 1, 1), (54, .iaload, 1), (55, .invokevirtual 107, 3), (58, .ireturn, 1), (59, .iinc 5 1, 3), (62, .goto (-57), 3), (65, .lconst 0, 1), (66, .lstore 5, 2), (68, .iconst 0, 1), (69, .istore 7, 2), (71, .iload 7, 2), (73, .iload_n 2, 1), (74, .if_icmp .ge 37, 3), (77, .lload 5, 2), (79, .aload_n 0, 1), (80, .getfield 19, 3), (83, .iload 7, 2), (85, .iaload, 1), (86, .i2l, 1), (87, .lload_n 3, 1), (88, .iconst 1, 1), (89, .aload_n 0, 1), (90, .getfield 23, 3), (93, .iload 7, 2), (95, .iaload, 1), (96, .invokestatic 166, 3), (99, .i2l, 1), (100, .ldiv, 1), (101, .lmul, 1), (102, .ladd, 1), (103, .lstore 5, 2), (105, .iinc 7 1, 3), (108, .goto (-37), 3), (111, .lload 5, 2), (113, .lload_n 3, 1), (114, .lcmp, 1), (115, .ifCond .ne 7, 3), (118, .iconst 0, 1), (119, .goto 18, 3), (122, .aload_n 0, 1), (123, .bipush 11, 2), (125, .aload_n 0, 1), (126, .getfield 39, 3), (129, .getfield 135, 3), (132, .iload_n 1, 1), (133, .iaload, 1), (134, .invokevirtual 107, 3), (137, .ireturn, 1)],
  [(23, 9, 3, (.array .int), true), (39, 9, 6, (.object "GameText$Code"), false), (135, 3, 1, (.array .int), false), (19, 9, 2, (.array .int), true)],
  [(160, 0, 75, 2), (107, 1, 116, 2), (166, 7, 4, 2)],
  [],
  [(164, .long 1000000000)],
  [],
  [])
/-- GameText$Graph.addCommand(II)V -/
def tE_121 : tb_E := (("GameText$Graph", 8, false, prog_5_method_12_code, 4, none, ⟨"GameText$Graph", "addCommand", "(II)V"⟩),
  [(0, .aload_n 0, 1), (1, .getfield 46, 3), (4, .aload_n 0, 1), (5, .getfield 24, 3), (8, .arraylength, 1), (9, .if_icmp .lt 37, 3), (12, .iconst 2, 1), (13, .aload_n 0, 1), (14, .getfield 24, 3), (17, .arraylength, 1), (18, .imul, 1), (19, .istore_n 3, 1), (20, .aload_n 0, 1), (21, .aload_n 0, 1), (22, .getfield 24, 3), (25, .iload_n 3, 1), (26, .invokestatic 82, 3), (29, .putfield 24, 3), (32, .aload_n 0, 1), (33, .aload_n 0, 1), (34, .getfield 27, 3), (37, .iload_n 3, 1), (38, .iconst 1, 1), (39, .iadd, 1), (40, .invokestatic 82, 3), (43, .putfield 27, 3), (46, .aload_n 0, 1), (47, .getfield 24, 3), (50, .aload_n 0, 1), (51, .getfield 46, 3), (54, .iload_n 2, 1), (55, .iastore, 1), (56, .aload_n 0, 1), (57, .getfield 27, 3), (60, .aload_n 0, 1), (61, .getfield 46, 3), (64, .aload_n 0, 1), (65, .getfield 49, 3), (68, .iastore, 1), (69, .aload_n 0, 1), (70, .dup, 1), (71, .getfield 46, 3), (74, .iconst 1, 1), (75, .iadd, 1), (76, .putfield 46, 3), (79, .aload_n 0, 1), (80, .getfield 27, 3), (83, .aload_n 0, 1), (84, .getfield 46, 3), (87, .aload_n 0, 1), (88, .getfield 49, 3), (91, .iastore, 1), (92, .aload_n 0, 1), (93, .getfield 21, 3), (96, .iload_n 1, 1), (97, .iconst 1, 1), (98, .iadd, 1), (99, .aload_n 0, 1), (100, .getfield 46, 3), (103, .iastore, 1), (104, .return_, 1)],
  [(46, 8, 11, .int, false), (24, 8, 4, (.array .int), false), (27, 8, 5, (.array .int), false), (49, 8, 12, .int, false), (21, 8, 3, (.array .int), false)],
  [(82, 0, 13, 2)],
  [],
  [],
  [],
  [])
/-- GameText$Explorer.follows(III)I -/
def tE_122 : tb_E := (("GameText$Explorer", 9, false, prog_4_method_8_code, 10, (some .int), ⟨"GameText$Explorer", "follows", "(III)I"⟩),
  [(0, .aload_n 0, 1), (1, .getfield 9, 3), (4, .getfield 85, 3), (7, .iconst 0, 1), (8, .aload_n 0, 1), (9, .getfield 26, 3), (12, .iconst 0, 1), (13, .aload_n 0, 1), (14, .getfield 29, 3), (17, .getfield 56, 3), (20, .invokestatic 88, 3), (23, .aload_n 0, 1), (24, .getfield 39, 3), (27, .getfield 127, 3), (30, .iload_n 2, 1), (31, .iaload, 1), (32, .istore 4, 2), (34, .iconst 0, 1), (35, .istore 5, 2), (37, .iload 5, 2), (39, .bipush 12, 2), (41, .if_icmp .ge 195, 3), (44, .iload 4, 2), (46, .ifCond .lt 190, 3), (49, .aload_n 0, 1), (50, .getfield 39, 3), (53, .getfield 127, 3), (56, .iload 4, 2), (58, .iaload, 1), (59, .istore 6, 2), (61, .aload_n 0, 1), (62, .getfield 9, 3), (65, .iload 6, 2), (67, .invokevirtual 103, 3), (70, .istore 7, 2), (72, .iload 7, 2), (74, .ifCond .eq 17, 3), (77, .aload_n 0, 1), (78, .iload 7, 2), (80, .aload_n 0, 1), (81, .getfield 9, 3), (84, .getfield 106, 3), (87, .invokevirtual 107, 3), (90, .ireturn, 1), (91, .aload_n 0, 1), (92, .getfield 39, 3), (95, .getfield 151, 3), (98, .aload_n 0, 1), (99, .getfield 39, 3), (102, .getfield 132, 3), (105, .iload 6, 2), (107, .iaload, 1), (108, .iaload, 1), (109, .istore 8, 2), (111, .aload_n 0, 1), (112, .getfield 39, 3), (115, .getfield 132, 3), (118, .iload 4, 2), (120, .iaload, 1), (121, .istore 9, 2), (123, .aload_n 0, 1), (124, .getfield 39, 3), (127, .getfield 154, 3), (130, .aload_n 0, 1), (131, .getfield 39, 3), (134, .getfield 132, 3), (137, .iload 6, 2), (139, .iaload, 1), (140, .iaload, 1), (141, .iconst 1, 1), (142, .if_icmp .eq 20, 3), (145, .aload_n 0, 1), (146, .bipush 8, 2), (148, .aload_n 0, 1), (149, .getfield 39, 3), (152, .getfield 135, 3), (155, .iload 4, 2), (157, .iaload, 1), (158, .invokevirtual 107, 3), (161, .ireturn, 1), (162, .iload 8, 2), (164, .aload_n 0, 1), (165, .getfield 29, 3), (168, .getfield 171, 3), (171, .iload 9, 2), (173, .iaload, 1), (174, .if_icmp .lt 18, 3), (177, .iload 8, 2), (179, .aload_n 0, 1), (180, .getfield 29, 3), (183, .getfield 174, 3), (186, .iload 9, 2), (188, .iaload, 1), (189, .if_icmp .le 20, 3), (192, .aload_n 0, 1), (193, .bipush 12, 2), (195, .aload_n 0, 1), (196, .getfield 39, 3), (199, .getfield 135, 3), (202, .iload 4, 2), (204, .iaload, 1), (205, .invokevirtual 107, 3), (208, .ireturn, 1), (209, .aload_n 0, 1), (210, .getfield 26, 3), (213, .iload 9, 2), (215, .iload 8, 2), (217, .iastore, 1), (218, .aload_n 0, 1), (219, .getfield 39, 3), (222, .getfield 144, 3), (225, .iload 4, 2), (227, .iaload, 1), (228, .istore 4, 2), (230, .iinc 5 1, 3), (233, .goto (-196), 3), (236, .aload_n 0, 1), (237, .getfield 15, 3), (240, .aload_n 0, 1), (241, .getfield 26, 3), (244, .invokevirtual 68, 3), (247, .istore 5, 2), (249, .iload 5, 2), (251, .ifCond .ge 18, 3), (254, .aload_n 0, 1), (255, .iconst 5, 1), (256, .aload_n 0, 1), (257, .getfield 39, 3), (260, .getfield 135, 3), (263, .iload_n 2, 1), (264, .iaload, 1), (265, .invokevirtual 107, 3), (268, .ireturn, 1), (269, .aload_n 0, 1), (270, .getfield 15, 3), (273, .iload 5, 2), (275, .aload_n 0, 1), (276, .getfield 19, 3), (279, .iload_n 3, 1), (280, .iaload, 1), (281, .aload_n 0, 1), (282, .getfield 23, 3), (285, .iload_n 3, 1), (286, .iaload, 1), (287, .invokevirtual 177, 3), (290, .ifCond .ne 18, 3), (293, .aload_n 0, 1), (294, .iconst 5, 1), (295, .aload_n 0, 1), (296, .getfield 39, 3), (299, .getfield 135, 3), (302, .iload_n 1, 1), (303, .iaload, 1), (304, .invokevirtual 107, 3), (307, .ireturn, 1), (308, .iconst 0, 1), (309, .ireturn, 1)],
  [(9, 9, 0, (.object "GameText$Machine"), true), (85, 5, 0, (.array .int), true), (26, 9, 4, (.array .int), true), (29, 9, 5, (.object "GameText$Text"), false), (56, 2, 7, .int, false), (39, 9, 6, (.object "GameText$Code"), false), (127, 3, 3, (.array .int), false), (106, 5, 6, .int, false), (151, 3, 6, (.array .int), false), (132, 3, 2, (.array .int), false), (154, 3, 7, (.array .int), false), (135, 3, 1, (.array .int), false), (171, 2, 1, (.array .int), true), (174, 2, 2, (.array .int), true), (144, 3, 4, (.array .int), false), (15, 9, 1, (.object "GameText$Graph"), true), (19, 9, 2, (.array .int), true), (23, 9, 3, (.array .int), true)],
  [(88, 5, 0, 5), (103, 1, 70, 1), (107, 1, 116, 2), (68, 1, 110, 1), (177, 1, 123, 3)],
  [],
  [],
  [],
  [])
/-- GameText$Graph.addBranch(III)Z -/
def tE_123 : tb_E := (("GameText$Graph", 8, false, prog_5_method_13_code, 6, (some .boolean), ⟨"GameText$Graph", "addBranch", "(III)Z"⟩),
  [(0, .aload_n 0, 1), (1, .getfield 46, 3), (4, .ifCond .le 17, 3), (7, .aload_n 0, 1), (8, .getfield 27, 3), (11, .aload_n 0, 1), (12, .getfield 46, 3), (15, .iconst 1, 1), (16, .isub, 1), (17, .iaload, 1), (18, .goto 4, 3), (21, .iconst 0, 1), (22, .istore 4, 2), (24, .iload 4, 2), (26, .istore 5, 2), (28, .iload 5, 2), (30, .aload_n 0, 1), (31, .getfield 49, 3), (34, .if_icmp .ge 30, 3), (37, .aload_n 0, 1), (38, .getfield 30, 3), (41, .iload 5, 2), (43, .iaload, 1), (44, .iload_n 1, 1), (45, .if_icmp .ne 13, 3), (48, .aload_n 0, 1), (49, .iload 5, 2), (51, .iload_n 2, 1), (52, .iload_n 3, 1), (53, .invokevirtual 92, 3), (56, .iconst 1, 1), (57, .ireturn, 1), (58, .iinc 5 1, 3), (61, .goto (-33), 3), (64, .aload_n 0, 1), (65, .getfield 49, 3), (68, .sipush 4096, 3), (71, .if_icmp .lt 5, 3), (74, .iconst 0, 1), (75, .ireturn, 1), (76, .aload_n 0, 1), (77, .getfield 49, 3), (80, .aload_n 0, 1), (81, .getfield 30, 3), (84, .arraylength, 1), (85, .if_icmp .lt 51, 3), (88, .iconst 2, 1), (89, .aload_n 0, 1), (90, .getfield 30, 3), (93, .arraylength, 1), (94, .imul, 1), (95, .istore 5, 2), (97, .aload_n 0, 1), (98, .aload_n 0, 1), (99, .getfield 30, 3), (102, .iload 5, 2), (104, .invokestatic 82, 3), (107, .putfield 30, 3), (110, .aload_n 0, 1), (111, .aload_n 0, 1), (112, .getfield 33, 3), (115, .iload 5, 2), (117, .invokestatic 82, 3), (120, .putfield 33, 3), (123, .aload_n 0, 1), (124, .aload_n 0, 1), (125, .getfield 36, 3), (128, .iload 5, 2), (130, .invokestatic 82, 3), (133, .putfield 36, 3), (136, .aload_n 0, 1), (137, .getfield 30, 3), (140, .aload_n 0, 1), (141, .getfield 49, 3), (144, .iload_n 1, 1), (145, .iastore, 1), (146, .aload_n 0, 1), (147, .getfield 33, 3), (150, .aload_n 0, 1), (151, .getfield 49, 3), (154, .iload_n 2, 1), (155, .iastore, 1), (156, .aload_n 0, 1), (157, .getfield 36, 3), (160, .aload_n 0, 1), (161, .getfield 49, 3), (164, .iload_n 3, 1), (165, .iastore, 1), (166, .aload_n 0, 1), (167, .dup, 1), (168, .getfield 49, 3), (171, .iconst 1, 1), (172, .iadd, 1), (173, .putfield 49, 3), (176, .aload_n 0, 1), (177, .getfield 27, 3), (180, .aload_n 0, 1), (181, .getfield 46, 3), (184, .aload_n 0, 1), (185, .getfield 49, 3), (188, .iastore, 1), (189, .iconst 1, 1), (190, .ireturn, 1)],
  [(46, 8, 11, .int, false), (27, 8, 5, (.array .int), false), (49, 8, 12, .int, false), (30, 8, 6, (.array .int), false), (33, 8, 7, (.array .int), false), (36, 8, 8, (.array .int), false)],
  [(92, 1, 124, 3), (82, 0, 13, 2)],
  [],
  [],
  [],
  [])
/-- GameText$Graph.join(III)V -/
def tE_124 : tb_E := (("GameText$Graph", 8, false, prog_5_method_14_code, 10, none, ⟨"GameText$Graph", "join", "(III)V"⟩),
  [(0, .aload_n 0, 1), (1, .getfield 33, 3), (4, .iload_n 1, 1), (5, .iaload, 1), (6, .i2l, 1), (7, .iload_n 3, 1), (8, .i2l, 1), (9, .lmul, 1), (10, .iload_n 2, 1), (11, .i2l, 1), (12, .aload_n 0, 1), (13, .getfield 36, 3), (16, .iload_n 1, 1), (17, .iaload, 1), (18, .i2l, 1), (19, .lmul, 1), (20, .ladd, 1), (21, .lstore 4, 2), (23, .aload_n 0, 1), (24, .getfield 36, 3), (27, .iload_n 1, 1), (28, .iaload, 1), (29, .i2l, 1), (30, .iload_n 3, 1), (31, .i2l, 1), (32, .lmul, 1), (33, .lstore 6, 2), (35, .lload 4, 2), (37, .lload 6, 2), (39, .invokestatic 96, 3), (42, .lstore 8, 2), (44, .aload_n 0, 1), (45, .getfield 33, 3), (48, .iload_n 1, 1), (49, .lload 4, 2), (51, .lload 8, 2), (53, .ldiv, 1), (54, .l2i, 1), (55, .iastore, 1), (56, .aload_n 0, 1), (57, .getfield 36, 3), (60, .iload_n 1, 1), (61, .lload 6, 2), (63, .lload 8, 2), (65, .ldiv, 1), (66, .l2i, 1), (67, .iastore, 1), (68, .return_, 1)],
  [(33, 8, 7, (.array .int), false), (36, 8, 8, (.array .int), false)],
  [(96, 0, 75, 2)],
  [],
  [],
  [],
  [])
/-- GameTextLaw.variable(LGameText;II[J)I -/
def tE_125 : tb_E := (("GameTextLaw", 99, false, method_5_code, 5, (some .int), ⟨"GameTextLaw", "variable", "(LGameText;II[J)I"⟩),
  [(0, .aload_n 3, 1), (1, .iconst 0, 1), (2, .aload_n 0, 1), (3, .iload_n 1, 1), (4, .iload_n 2, 1), (5, .invokevirtual 21, 3), (8, .i2l, 1), (9, .lastore, 1), (10, .goto 7, 3), (13, .astore 4, 2), (15, .iconst 1, 1), (16, .ireturn, 1), (17, .iconst 0, 1), (18, .ireturn, 1)],
  [],
  [(21, 1, 126, 2)],
  [],
  [],
  [],
  [(5, "java/lang/IndexOutOfBoundsException", 15, 4)])
/-- GameText.variable(II)I -/
def tE_126 : tb_E := (("GameText", 0, false, prog_1_method_11_code, 3, (some .int), ⟨"GameText", "variable", "(II)I"⟩),
  [(0, .aload_n 0, 1), (1, .getfield 56, 3), (4, .iload_n 1, 1), (5, .invokevirtual 144, 3), (8, .ifCond .eq 18, 3), (11, .iload_n 2, 1), (12, .ifCond .lt 14, 3), (15, .iload_n 2, 1), (16, .aload_n 0, 1), (17, .getfield 56, 3), (20, .getfield 148, 3), (23, .if_icmp .lt 13, 3), (26, .new 149, 3), (29, .dup, 1), (30, .ldc 151, 2), (32, .invokespecial 153, 3), (35, .athrow, 1), (36, .aload_n 0, 1), (37, .getfield 56, 3), (40, .getfield 154, 3), (43, .iload_n 1, 1), (44, .bipush 12, 2), (46, .imul, 1), (47, .iload_n 2, 1), (48, .iadd, 1), (49, .iaload, 1), (50, .ireturn, 1)],
  [(56, 0, 3, (.object "GameText$Graph"), true), (148, 8, 9, .int, false), (154, 8, 1, (.array .int), false)],
  [(144, 1, 97, 1)],
  [],
  [],
  [(26, "java/lang/IndexOutOfBoundsException")],
  [])
/-- GameTextModel.<init>()V -/
def tE_127 : tb_E := (("GameTextModel", 10, true, prog_12_method_1_code, 1, none, ⟨"GameTextModel", "<init>", "()V"⟩),
  [(0, .aload_n 0, 1), (1, .invokespecial 1, 3), (4, .aload_n 0, 1), (5, .new 7, 3), (8, .dup, 1), (9, .invokespecial 9, 3), (12, .putfield 10, 3), (15, .aload_n 0, 1), (16, .new 7, 3), (19, .dup, 1), (20, .invokespecial 9, 3), (23, .putfield 16, 3), (26, .aload_n 0, 1), (27, .new 7, 3), (30, .dup, 1), (31, .invokespecial 9, 3), (34, .putfield 19, 3), (37, .aload_n 0, 1), (38, .new 7, 3), (41, .dup, 1), (42, .invokespecial 9, 3), (45, .putfield 22, 3), (48, .aload_n 0, 1), (49, .new 7, 3), (52, .dup, 1), (53, .invokespecial 9, 3), (56, .putfield 25, 3), (59, .aload_n 0, 1), (60, .new 7, 3), (63, .dup, 1), (64, .invokespecial 9, 3), (67, .putfield 28, 3), (70, .aload_n 0, 1), (71, .new 31, 3), (74, .dup, 1), (75, .invokespecial 33, 3), (78, .putfield 34, 3), (81, .aload_n 0, 1), (82, .new 31, 3), (85, .dup, 1), (86, .invokespecial 33, 3), (89, .putfield 38, 3), (92, .aload_n 0, 1), (93, .iconst (-1), 1), (94, .putfield 41, 3), (97, .aload_n 0, 1), (98, .new 7, 3), (101, .dup, 1), (102, .invokespecial 9, 3), (105, .putfield 45, 3), (108, .aload_n 0, 1), (109, .new 7, 3), (112, .dup, 1), (113, .invokespecial 9, 3), (116, .putfield 48, 3), (119, .aload_n 0, 1), (120, .new 7, 3), (123, .dup, 1), (124, .invokespecial 9, 3), (127, .putfield 51, 3), (130, .aload_n 0, 1), (131, .new 7, 3), (134, .dup, 1), (135, .invokespecial 9, 3), (138, .putfield 54, 3), (141, .aload_n 0, 1), (142, .new 7, 3), (145, .dup, 1), (146, .invokespecial 9, 3), (149, .putfield 57, 3), (152, .aload_n 0, 1), (153, .new 7, 3), (156, .dup, 1), (157, .invokespecial 9, 3), (160, .putfield 60, 3), (163, .aload_n 0, 1), (164, .sipush 16400, 3), (167, .newarray .long, 2), (169, .putfield 63, 3), (172, .aload_n 0, 1), (173, .sipush 16400, 3), (176, .newarray .long, 2), (178, .putfield 67, 3), (181, .aload_n 0, 1), (182, .new 7, 3), (185, .dup, 1), (186, .invokespecial 9, 3), (189, .putfield 70, 3), (192, .aload_n 0, 1), (193, .bipush 12, 2), (195, .newarray .int, 2), (197, .putfield 73, 3), (200, .aload_n 0, 1), (201, .bipush 60, 2), (203, .newarray .boolean, 2), (205, .putfield 77, 3), (208, .aload_n 0, 1), (209, .bipush 60, 2), (211, .newarray .long, 2), (213, .putfield 81, 3), (216, .aload_n 0, 1), (217, .bipush 60, 2), (219, .newarray .long, 2), (221, .putfield 84, 3), (224, .aload_n 0, 1), (225, .iconst (-1), 1), (226, .putfield 87, 3), (229, .aload_n 0, 1), (230, .sipush 6144, 3), (233, .newarray .int, 2), (235, .putfield 90, 3), (238, .aload_n 0, 1), (239, .sipush 512, 3), (242, .newarray .int, 2), (244, .putfield 93, 3), (247, .aload_n 0, 1), (248, .sipush 512, 3), (251, .newarray .int, 2), (253, .putfield 96, 3), (256, .aload_n 0, 1), (257, .sipush 512, 3), (260, .newarray .int, 2), (262, .putfield 99, 3), (265, .aload_n 0, 1), (266, .new 7, 3), (269, .dup, 1), (270, .invokespecial 9, 3), (273, .putfield 102, 3), (276, .aload_n 0, 1), (277, .new 7, 3), (280, .dup, 1), (281, .invokespecial 9, 3), (284, .putfield 105, 3), (287, .aload_n 0, 1), (288, .new 7, 3), (291, .dup, 1), (292, .invokespecial 9, 3), (295, .putfield 108, 3), (298, .aload_n 0, 1), (299, .sipush 4096, 3), (302, .newarray .int, 2), (304, .putfield 111, 3), (307, .aload_n 0, 1), (308, .sipush 4096, 3), (311, .newarray .long, 2), (313, .putfield 114, 3), (316, .aload_n 0, 1), (317, .sipush 4096, 3), (320, .newarray .long, 2), (322, .putfield 117, 3), (325, .aload_n 0, 1), (326, .bipush 12, 2), (328, .newarray .int, 2), (330, .putfield 120, 3), (333, .aload_n 0, 1), (334, .bipush 8, 2), (336, .newarray .long, 2), (338, .putfield 123, 3), (341, .aload_n 0, 1), (342, .bipush 8, 2), (344, .newarray .long, 2), (346, .putfield 126, 3), (349, .return_, 1)],
  [(10, 10, 1, (.object "GameTextModel$Numbers"), false), (16, 10, 2, (.object "GameTextModel$Numbers"), false), (19, 10, 3, (.object "GameTextModel$Numbers"), true), (22, 10, 4, (.object "GameTextModel$Numbers"), true), (25, 10, 5, (.object "GameTextModel$Numbers"), true), (28, 10, 6, (.object "GameTextModel$Numbers"), true), (34, 10, 9, (.object "GameTextModel$Game"), false), (38, 10, 10, (.object "GameTextModel$Game"), false), (41, 10, 12, .int, false), (45, 10, 13, (.object "GameTextModel$Numbers"), true), (48, 10, 14, (.object "GameTextModel$Numbers"), true), (51, 10, 15, (.object "GameTextModel$Numbers"), true), (54, 10, 18, (.object "GameTextModel$Numbers"), true), (57, 10, 19, (.object "GameTextModel$Numbers"), true), (60, 10, 20, (.object "GameTextModel$Numbers"), true), (63, 10, 21, (.array .long), true), (67, 10, 22, (.array .long), true), (70, 10, 24, (.object "GameTextModel$Numbers"), true), (73, 10, 25, (.array .int), true), (77, 10, 26, (.array .boolean), true), (81, 10, 27, (.array .long), true), (84, 10, 28, (.array .long), true), (87, 10, 30, .int, false), (90, 10, 31, (.array .int), true), (93, 10, 32, (.array .int), true), (96, 10, 33, (.array .int), true), (99, 10, 34, (.array .int), true), (102, 10, 35, (.object "GameTextModel$Numbers"), true), (105, 10, 36, (.object "GameTextModel$Numbers"), true), (108, 10, 37, (.object "GameTextModel$Numbers"), true), (111, 10, 39, (.array .int), true), (114, 10, 40, (.array .long), true), (117, 10, 41, (.array .long), true), (120, 10, 42, (.array .int), true), (123, 10, 43, (.array .long), true), (126, 10, 44, (.array .long), true)],
  [(1, 3, 0, 0), (9, 2, 128, 0), (33, 2, 129, 0)],
  [(7, 11, [.null, .int 0]), (31, 12, [.null, .null, .null, .null, .null, .null, .int 0, .null, .null, .null, .null, .null, .int 0, .null, .null, .null, .null, .int 0, .int 0, .null, .null, .null, .null, .null, .null, .null, .null, .null, .null, .null])],
  [],
  [],
  [])
/-- GameTextModel$Numbers.<init>()V -/
def tE_128 : tb_E := (("GameTextModel$Numbers", 11, true, prog_14_method_1_code, 1, none, ⟨"GameTextModel$Numbers", "<init>", "()V"⟩),
  [(0, .aload_n 0, 1), (1, .invokespecial 1, 3), (4, .aload_n 0, 1), (5, .bipush 16, 2), (7, .newarray .int, 2), (9, .putfield 7, 3), (12, .return_, 1)],
  [(7, 11, 0, (.array .int), false)],
  [(1, 3, 0, 0)],
  [],
  [],
  [],
  [])
/-- GameTextModel$Game.<init>()V -/
def tE_129 : tb_E := (("GameTextModel$Game", 12, true, prog_13_method_1_code, 1, none, ⟨"GameTextModel$Game", "<init>", "()V"⟩),
  [(0, .aload_n 0, 1), (1, .invokespecial 3, 3), (4, .aload_n 0, 1), (5, .new 9, 3), (8, .dup, 1), (9, .invokespecial 11, 3), (12, .putfield 12, 3), (15, .aload_n 0, 1), (16, .new 9, 3), (19, .dup, 1), (20, .invokespecial 11, 3), (23, .putfield 18, 3), (26, .aload_n 0, 1), (27, .new 9, 3), (30, .dup, 1), (31, .invokespecial 11, 3), (34, .putfield 21, 3), (37, .aload_n 0, 1), (38, .new 9, 3), (41, .dup, 1), (42, .invokespecial 11, 3), (45, .putfield 24, 3), (48, .aload_n 0, 1), (49, .new 9, 3), (52, .dup, 1), (53, .invokespecial 11, 3), (56, .putfield 27, 3), (59, .aload_n 0, 1), (60, .new 9, 3), (63, .dup, 1), (64, .invokespecial 11, 3), (67, .putfield 30, 3), (70, .aload_n 0, 1), (71, .bipush 60, 2), (73, .newarray .boolean, 2), (75, .putfield 33, 3), (78, .aload_n 0, 1), (79, .bipush 60, 2), (81, .newarray .boolean, 2), (83, .putfield 37, 3), (86, .aload_n 0, 1), (87, .bipush 60, 2), (89, .newarray .int, 2), (91, .putfield 40, 3), (94, .aload_n 0, 1), (95, .bipush 60, 2), (97, .newarray .long, 2), (99, .putfield 44, 3), (102, .aload_n 0, 1), (103, .bipush 60, 2), (105, .newarray .long, 2), (107, .putfield 48, 3), (110, .aload_n 0, 1), (111, .bipush 12, 2), (113, .newarray .boolean, 2), (115, .putfield 51, 3), (118, .aload_n 0, 1), (119, .bipush 12, 2), (121, .newarray .int, 2), (123, .putfield 54, 3), (126, .aload_n 0, 1), (127, .bipush 12, 2), (129, .newarray .int, 2), (131, .putfield 57, 3), (134, .aload_n 0, 1), (135, .bipush 12, 2), (137, .newarray .int, 2), (139, .putfield 60, 3), (142, .aload_n 0, 1), (143, .bipush 60, 2), (145, .newarray .boolean, 2), (147, .putfield 63, 3), (150, .aload_n 0, 1), (151, .bipush 60, 2), (153, .newarray .int, 2), (155, .putfield 66, 3), (158, .aload_n 0, 1), (159, .bipush 60, 2), (161, .newarray .int, 2), (163, .putfield 69, 3), (166, .aload_n 0, 1), (167, .bipush 60, 2), (169, .newarray .int, 2), (171, .putfield 72, 3), (174, .aload_n 0, 1), (175, .sipush 480, 3), (178, .newarray .int, 2), (180, .putfield 75, 3), (183, .aload_n 0, 1), (184, .sipush 480, 3), (187, .newarray .int, 2), (189, .putfield 78, 3), (192, .aload_n 0, 1), (193, .sipush 480, 3), (196, .newarray .int, 2), (198, .putfield 81, 3), (201, .aload_n 0, 1), (202, .sipush 480, 3), (205, .newarray .int, 2), (207, .putfield 84, 3), (210, .aload_n 0, 1), (211, .new 9, 3), (214, .dup, 1), (215, .invokespecial 11, 3), (218, .putfield 87, 3), (221, .aload_n 0, 1), (222, .new 9, 3), (225, .dup, 1), (226, .invokespecial 11, 3), (229, .putfield 90, 3), (232, .aload_n 0, 1), (233, .new 9, 3), (236, .dup, 1), (237, .invokespecial 11, 3), (240, .putfield 93, 3), (243, .return_, 1)],
  [(12, 12, 0, (.object "GameTextModel$Numbers"), true), (18, 12, 1, (.object "GameTextModel$Numbers"), true), (21, 12, 2, (.object "GameTextModel$Numbers"), true), (24, 12, 3, (.object "GameTextModel$Numbers"), true), (27, 12, 4, (.object "GameTextModel$Numbers"), true), (30, 12, 5, (.object "GameTextModel$Numbers"), true), (33, 12, 7, (.array .boolean), true), (37, 12, 8, (.array .boolean), true), (40, 12, 9, (.array .int), true), (44, 12, 10, (.array .long), true), (48, 12, 11, (.array .long), true), (51, 12, 13, (.array .boolean), true), (54, 12, 14, (.array .int), true), (57, 12, 15, (.array .int), true), (60, 12, 16, (.array .int), true), (63, 12, 19, (.array .boolean), true), (66, 12, 20, (.array .int), true), (69, 12, 21, (.array .int), true), (72, 12, 22, (.array .int), true), (75, 12, 23, (.array .int), true), (78, 12, 24, (.array .int), true), (81, 12, 25, (.array .int), true), (84, 12, 26, (.array .int), true), (87, 12, 27, (.object "GameTextModel$Numbers"), true), (90, 12, 28, (.object "GameTextModel$Numbers"), true), (93, 12, 29, (.object "GameTextModel$Numbers"), true)],
  [(3, 3, 0, 0), (11, 2, 128, 0)],
  [(9, 11, [.null, .int 0])],
  [],
  [],
  [])
/-- GameTextModel.thrown()I -/
def tE_130 : tb_E := (("GameTextModel", 10, false, prog_12_method_2_code, 1, (some .int), ⟨"GameTextModel", "thrown", "()I"⟩),
  [(0, .aload_n 0, 1), (1, .getfield 129, 3), (4, .ireturn, 1)],
  [(129, 10, 0, .int, false)],
  [],
  [],
  [],
  [],
  [])
/-- GameTextModel.feed(IIIII)I -/
def tE_131 : tb_E := (("GameTextModel", 10, false, prog_12_method_3_code, 6, (some .int), ⟨"GameTextModel", "feed", "(IIIII)I"⟩),
  [(0, .aload_n 0, 1), (1, .iconst 0, 1), (2, .putfield 129, 3), (5, .aload_n 0, 1), (6, .getfield 10, 3), (9, .getfield 132, 3), (12, .bipush 20, 2), (14, .iadd, 1), (15, .sipush 16384, 3), (18, .if_icmp .le 5, 3), (21, .iconst (-1), 1), (22, .ireturn, 1), (23, .aload_n 0, 1), (24, .iload_n 1, 1), (25, .invokevirtual 135, 3), (28, .aload_n 0, 1), (29, .iload_n 2, 1), (30, .invokevirtual 135, 3), (33, .aload_n 0, 1), (34, .iload_n 3, 1), (35, .invokevirtual 135, 3), (38, .aload_n 0, 1), (39, .iload 4, 2), (41, .invokevirtual 135, 3), (44, .aload_n 0, 1), (45, .iload 5, 2), (47, .invokevirtual 135, 3), (50, .aload_n 0, 1), (51, .getfield 10, 3), (54, .getfield 132, 3), (57, .ireturn, 1)],
  [(129, 10, 0, .int, false), (10, 10, 1, (.object "GameTextModel$Numbers"), false), (132, 11, 1, .int, false)],
  [(135, 1, 132, 1)],
  [],
  [],
  [],
  [])
/-- GameTextModel.add4(I)V -/
def tE_132 : tb_E := (("GameTextModel", 10, false, prog_12_method_4_code, 3, none, ⟨"GameTextModel", "add4", "(I)V"⟩),
  [(0, .bipush 24, 2), (2, .istore_n 2, 1), (3, .iload_n 2, 1), (4, .ifCond .lt 23, 3), (7, .aload_n 0, 1), (8, .getfield 10, 3), (11, .iload_n 1, 1), (12, .iload_n 2, 1), (13, .ishr, 1), (14, .sipush 255, 3), (17, .iand, 1), (18, .invokevirtual 139, 3), (21, .iinc 2 (-8), 3), (24, .goto (-21), 3), (27, .return_, 1)],
  [(10, 10, 1, (.object "GameTextModel$Numbers"), false)],
  [(139, 1, 133, 1)],
  [],
  [],
  [],
  [])
/-- GameTextModel$Numbers.add(I)V -/
def tE_133 : tb_E := (("GameTextModel$Numbers", 11, false, prog_14_method_2_code, 4, none, ⟨"GameTextModel$Numbers", "add", "(I)V"⟩),
  [(0, .aload_n 0, 1), (1, .getfield 13, 3), (4, .aload_n 0, 1), (5, .getfield 7, 3), (8, .arraylength, 1), (9, .if_icmp .ne 42, 3), (12, .iconst 2, 1), (13, .aload_n 0, 1), (14, .getfield 13, 3), (17, .imul, 1), (18, .newarray .int, 2), (20, .astore_n 2, 1), (21, .iconst 0, 1), (22, .istore_n 3, 1), (23, .iload_n 3, 1), (24, .aload_n 0, 1), (25, .getfield 13, 3), (28, .if_icmp .ge 18, 3), (31, .aload_n 2, 1), (32, .iload_n 3, 1), (33, .aload_n 0, 1), (34, .getfield 7, 3), (37, .iload_n 3, 1), (38, .iaload, 1), (39, .iastore, 1), (40, .iinc 3 1, 3), (43, .goto (-20), 3), (46, .aload_n 0, 1), (47, .aload_n 2, 1), (48, .putfield 7, 3), (51, .aload_n 0, 1), (52, .getfield 7, 3), (55, .aload_n 0, 1), (56, .getfield 13, 3), (59, .iload_n 1, 1), (60, .iastore, 1), (61, .aload_n 0, 1), (62, .aload_n 0, 1), (63, .getfield 13, 3), (66, .iconst 1, 1), (67, .iadd, 1), (68, .putfield 13, 3), (71, .return_, 1)],
  [(13, 11, 1, .int, false), (7, 11, 0, (.array .int), false)],
  [],
  [],
  [],
  [],
  [])
/-- GameTextModel.end(I)I -/
def tE_134 : tb_E := (("GameTextModel", 10, false, prog_12_method_5_code, 2, (some .int), ⟨"GameTextModel", "end", "(I)I"⟩),
  [(0, .aload_n 0, 1), (1, .iload_n 1, 1), (2, .ifCond .lt 21, 3), (5, .iload_n 1, 1), (6, .bipush 20, 2), (8, .if_icmp .gt 15, 3), (11, .aload_n 0, 1), (12, .getfield 10, 3), (15, .getfield 132, 3), (18, .bipush 20, 2), (20, .if_icmp .ge 7, 3), (23, .iconst 1, 1), (24, .goto 4, 3), (27, .iconst 0, 1), (28, .putfield 129, 3), (31, .aload_n 0, 1), (32, .getfield 129, 3), (35, .ifCond .le 5, 3), (38, .iconst 0, 1), (39, .ireturn, 1), (40, .aload_n 0, 1), (41, .getfield 10, 3), (44, .aload_n 0, 1), (45, .getfield 10, 3), (48, .getfield 132, 3), (51, .bipush 20, 2), (53, .isub, 1), (54, .iload_n 1, 1), (55, .iadd, 1), (56, .putfield 132, 3), (59, .aload_n 0, 1), (60, .getfield 10, 3), (63, .getfield 132, 3), (66, .ireturn, 1)],
  [(10, 10, 1, (.object "GameTextModel$Numbers"), false), (132, 11, 1, .int, false), (129, 10, 0, .int, false)],
  [],
  [],
  [],
  [],
  [])
/-- GameTextModel.compile()I -/
def tE_135 : tb_E := (("GameTextModel", 10, false, prog_12_method_74_code, 3, (some .int), ⟨"GameTextModel", "compile", "()I"⟩),
  [(0, .aload_n 0, 1), (1, .iconst 0, 1), (2, .putfield 129, 3), (5, .aload_n 0, 1), (6, .getfield 16, 3), (9, .astore_n 1, 1), (10, .aload_n 0, 1), (11, .aload_n 0, 1), (12, .getfield 10, 3), (15, .putfield 16, 3), (18, .aload_n 0, 1), (19, .aload_n 1, 1), (20, .putfield 10, 3), (23, .aload_n 0, 1), (24, .getfield 10, 3), (27, .iconst 0, 1), (28, .putfield 132, 3), (31, .aload_n 0, 1), (32, .invokevirtual 506, 3), (35, .aload_n 0, 1), (36, .invokevirtual 509, 3), (39, .ifCond .ne 17, 3), (42, .aload_n 0, 1), (43, .aload_n 0, 1), (44, .aload_n 0, 1), (45, .getfield 216, 3), (48, .invokevirtual 266, 3), (51, .putfield 41, 3), (54, .iconst 1, 1), (55, .ireturn, 1), (56, .aload_n 0, 1), (57, .invokevirtual 512, 3), (60, .aload_n 0, 1), (61, .getfield 254, 3), (64, .ifCond .eq 16, 3), (67, .aload_n 0, 1), (68, .aload_n 0, 1), (69, .getfield 257, 3), (72, .putfield 41, 3), (75, .aload_n 0, 1), (76, .getfield 254, 3), (79, .ireturn, 1), (80, .aload_n 0, 1), (81, .getfield 34, 3), (84, .astore_n 2, 1), (85, .aload_n 0, 1), (86, .aload_n 0, 1), (87, .getfield 38, 3), (90, .putfield 34, 3), (93, .aload_n 0, 1), (94, .aload_n 2, 1), (95, .putfield 38, 3), (98, .aload_n 0, 1), (99, .iconst 1, 1), (100, .putfield 515, 3), (103, .aload_n 0, 1), (104, .iconst 0, 1), (105, .putfield 519, 3), (108, .aload_n 0, 1), (109, .iconst (-1), 1), (110, .putfield 41, 3), (113, .iconst 0, 1), (114, .ireturn, 1)],
  [(129, 10, 0, .int, false), (16, 10, 2, (.object "GameTextModel$Numbers"), false), (10, 10, 1, (.object "GameTextModel$Numbers"), false), (132, 11, 1, .int, false), (216, 10, 8, .int, false), (41, 10, 12, .int, false), (254, 10, 16, .int, false), (257, 10, 17, .int, false), (34, 10, 9, (.object "GameTextModel$Game"), false), (38, 10, 10, (.object "GameTextModel$Game"), false), (515, 10, 11, .boolean, false), (519, 10, 29, .int, false)],
  [(506, 1, 136, 0), (509, 1, 147, 0), (266, 1, 159, 1), (512, 1, 160, 0)],
  [],
  [],
  [],
  [])
/-- GameTextModel.cut()V -/
def tE_136 : tb_E := (("GameTextModel", 10, false, prog_12_method_15_code, 6, none, ⟨"GameTextModel", "cut", "()V"⟩),
  [(0, .aload_n 0, 1), (1, .getfield 19, 3), (4, .iconst 0, 1), (5, .putfield 132, 3), (8, .aload_n 0, 1), (9, .getfield 22, 3), (12, .iconst 0, 1), (13, .putfield 132, 3), (16, .aload_n 0, 1), (17, .getfield 25, 3), (20, .iconst 0, 1), (21, .putfield 132, 3), (24, .aload_n 0, 1), (25, .iconst 0, 1), (26, .invokevirtual 193, 3), (29, .istore_n 1, 1), (30, .iconst 1, 1), (31, .istore_n 2, 1), (32, .iload_n 2, 1), (33, .ifCond .eq 207, 3), (36, .iload_n 1, 1), (37, .aload_n 0, 1), (38, .getfield 16, 3), (41, .getfield 132, 3), (44, .if_icmp .ge 196, 3), (47, .iload_n 1, 1), (48, .istore_n 3, 1), (49, .aload_n 0, 1), (50, .iload_n 1, 1), (51, .invokevirtual 146, 3), (54, .invokestatic 196, 3), (57, .ifCond .eq 65, 3), (60, .aload_n 0, 1), (61, .iload_n 3, 1), (62, .invokevirtual 146, 3), (65, .invokestatic 196, 3), (68, .ifCond .ne 24, 3), (71, .aload_n 0, 1), (72, .iload_n 3, 1), (73, .invokevirtual 146, 3), (76, .invokestatic 199, 3), (79, .ifCond .ne 13, 3), (82, .aload_n 0, 1), (83, .iload_n 3, 1), (84, .invokevirtual 146, 3), (87, .bipush 95, 2), (89, .if_icmp .ne 9, 3), (92, .iinc 3 1, 3), (95, .goto (-35), 3), (98, .iload_n 3, 1), (99, .iload_n 1, 1), (100, .isub, 1), (101, .bipush 40, 2), (103, .if_icmp .le 8, 3), (106, .bipush 39, 2), (108, .goto 9, 3), (111, .aload_n 0, 1), (112, .iload_n 1, 1), (113, .iload_n 3, 1), (114, .invokevirtual 202, 3), (117, .istore 4, 2), (119, .goto 91, 3), (122, .aload_n 0, 1), (123, .iload_n 1, 1), (124, .invokevirtual 146, 3), (127, .invokestatic 199, 3), (130, .ifCond .eq 39, 3), (133, .aload_n 0, 1), (134, .iload_n 3, 1), (135, .invokevirtual 146, 3), (138, .invokestatic 199, 3), (141, .ifCond .eq 9, 3), (144, .iinc 3 1, 3), (147, .goto (-14), 3), (150, .iload_n 3, 1), (151, .iload_n 1, 1), (152, .isub, 1), (153, .bipush 9, 2), (155, .if_icmp .le 8, 3), (158, .bipush 39, 2), (160, .goto 4, 3), (163, .iconst 2, 1), (164, .istore 4, 2), (166, .goto 44, 3), (169, .aload_n 0, 1), (170, .iload_n 1, 1), (171, .invokevirtual 206, 3), (174, .istore 4, 2), (176, .iload 4, 2), (178, .bipush 16, 2), (180, .if_icmp .lt 14, 3), (183, .iload 4, 2), (185, .bipush 20, 2), (187, .if_icmp .gt 7, 3), (190, .iconst 1, 1), (191, .goto 4, 3), (194, .iconst 0, 1), (195, .istore 5, 2), (197, .iload_n 1, 1), (198, .iload 5, 2), (200, .ifCond .eq 7, 3), (203, .iconst 2, 1), (204, .goto 4, 3), (207, .iconst 1, 1), (208, .iadd, 1), (209, .istore_n 3, 1), (210, .aload_n 0, 1), (211, .iload 4, 2), (213, .iload_n 1, 1), (214, .iload_n 3, 1), (215, .invokevirtual 209, 3), (218, .iload 4, 2), (220, .bipush 39, 2), (222, .if_icmp .eq 7, 3), (225, .iconst 1, 1), (226, .goto 4, 3), (229, .iconst 0, 1), (230, .istore_n 2, 1), (231, .aload_n 0, 1), (232, .iload_n 3, 1), (233, .invokevirtual 193, 3), (236, .istore_n 1, 1), (237, .goto (-205), 3), (240, .iload_n 2, 1), (241, .ifCond .eq 22, 3), (244, .aload_n 0, 1), (245, .iconst 0, 1), (246, .aload_n 0, 1), (247, .getfield 16, 3), (250, .getfield 132, 3), (253, .aload_n 0, 1), (254, .getfield 16, 3), (257, .getfield 132, 3), (260, .invokevirtual 209, 3), (263, .return_, 1)],
  [(19, 10, 3, (.object "GameTextModel$Numbers"), true), (132, 11, 1, .int, false), (22, 10, 4, (.object "GameTextModel$Numbers"), true), (25, 10, 5, (.object "GameTextModel$Numbers"), true), (16, 10, 2, (.object "GameTextModel$Numbers"), false)],
  [(193, 1, 137, 1), (146, 1, 138, 1), (196, 0, 141, 1), (199, 0, 142, 1), (202, 1, 143, 2), (206, 1, 145, 1), (209, 1, 146, 3)],
  [],
  [],
  [],
  [])
/-- GameTextModel.skip(I)I -/
def tE_137 : tb_E := (("GameTextModel", 10, false, prog_12_method_10_code, 3, (some .int), ⟨"GameTextModel", "skip", "(I)I"⟩),
  [(0, .iload_n 1, 1), (1, .istore_n 2, 1), (2, .iload_n 2, 1), (3, .aload_n 0, 1), (4, .getfield 16, 3), (7, .getfield 132, 3), (10, .if_icmp .ge 67, 3), (13, .aload_n 0, 1), (14, .iload_n 2, 1), (15, .invokevirtual 146, 3), (18, .invokestatic 149, 3), (21, .ifCond .ne 13, 3), (24, .aload_n 0, 1), (25, .iload_n 2, 1), (26, .invokevirtual 146, 3), (29, .bipush 35, 2), (31, .if_icmp .ne 46, 3), (34, .aload_n 0, 1), (35, .iload_n 2, 1), (36, .invokevirtual 146, 3), (39, .bipush 35, 2), (41, .if_icmp .ne 30, 3), (44, .iload_n 2, 1), (45, .aload_n 0, 1), (46, .getfield 16, 3), (49, .getfield 132, 3), (52, .if_icmp .ge (-50), 3), (55, .aload_n 0, 1), (56, .iload_n 2, 1), (57, .invokevirtual 146, 3), (60, .bipush 10, 2), (62, .if_icmp .eq (-60), 3), (65, .iinc 2 1, 3), (68, .goto (-24), 3), (71, .iinc 2 1, 3), (74, .goto (-72), 3), (77, .iload_n 2, 1), (78, .ireturn, 1)],
  [(16, 10, 2, (.object "GameTextModel$Numbers"), false), (132, 11, 1, .int, false)],
  [(146, 1, 138, 1), (149, 0, 140, 1)],
  [],
  [],
  [],
  [])
/-- GameTextModel.letter(I)I -/
def tE_138 : tb_E := (("GameTextModel", 10, false, prog_12_method_6_code, 2, (some .int), ⟨"GameTextModel", "letter", "(I)I"⟩),
  [(0, .iload_n 1, 1), (1, .aload_n 0, 1), (2, .getfield 16, 3), (5, .getfield 132, 3), (8, .if_icmp .ge 14, 3), (11, .aload_n 0, 1), (12, .getfield 16, 3), (15, .iload_n 1, 1), (16, .invokevirtual 142, 3), (19, .goto 4, 3), (22, .iconst 0, 1), (23, .ireturn, 1)],
  [(16, 10, 2, (.object "GameTextModel$Numbers"), false), (132, 11, 1, .int, false)],
  [(142, 1, 139, 1)],
  [],
  [],
  [],
  [])
/-- GameTextModel$Numbers.at(I)I -/
def tE_139 : tb_E := (("GameTextModel$Numbers", 11, false, prog_14_method_3_code, 2, (some .int), ⟨"GameTextModel$Numbers", "at", "(I)I"⟩),
  [(0, .aload_n 0, 1), (1, .getfield 7, 3), (4, .iload_n 1, 1), (5, .iaload, 1), (6, .ireturn, 1)],
  [(7, 11, 0, (.array .int), false)],
  [],
  [],
  [],
  [],
  [])
/-- GameTextModel.isBlank(I)Z -/
def tE_140 : tb_E := (("GameTextModel", 10, false, prog_12_method_9_code, 1, (some .boolean), ⟨"GameTextModel", "isBlank", "(I)Z"⟩),
  [(0, .iload_n 0, 1), (1, .bipush 9, 2), (3, .if_icmp .eq 21, 3), (6, .iload_n 0, 1), (7, .bipush 10, 2), (9, .if_icmp .eq 15, 3), (12, .iload_n 0, 1), (13, .bipush 13, 2), (15, .if_icmp .eq 9, 3), (18, .iload_n 0, 1), (19, .bipush 32, 2), (21, .if_icmp .ne 7, 3), (24, .iconst 1, 1), (25, .goto 4, 3), (28, .iconst 0, 1), (29, .ireturn, 1)],
  [],
  [],
  [],
  [],
  [],
  [])
/-- GameTextModel.isLetter(I)Z -/
def tE_141 : tb_E := (("GameTextModel", 10, false, prog_12_method_7_code, 1, (some .boolean), ⟨"GameTextModel", "isLetter", "(I)Z"⟩),
  [(0, .iload_n 0, 1), (1, .bipush 97, 2), (3, .if_icmp .lt 9, 3), (6, .iload_n 0, 1), (7, .bipush 122, 2), (9, .if_icmp .le 15, 3), (12, .iload_n 0, 1), (13, .bipush 65, 2), (15, .if_icmp .lt 13, 3), (18, .iload_n 0, 1), (19, .bipush 90, 2), (21, .if_icmp .gt 7, 3), (24, .iconst 1, 1), (25, .goto 4, 3), (28, .iconst 0, 1), (29, .ireturn, 1)],
  [],
  [],
  [],
  [],
  [],
  [])
/-- GameTextModel.isDigit(I)Z -/
def tE_142 : tb_E := (("GameTextModel", 10, false, prog_12_method_8_code, 1, (some .boolean), ⟨"GameTextModel", "isDigit", "(I)Z"⟩),
  [(0, .iload_n 0, 1), (1, .bipush 48, 2), (3, .if_icmp .lt 13, 3), (6, .iload_n 0, 1), (7, .bipush 57, 2), (9, .if_icmp .gt 7, 3), (12, .iconst 1, 1), (13, .goto 4, 3), (16, .iconst 0, 1), (17, .ireturn, 1)],
  [],
  [],
  [],
  [],
  [],
  [])
/-- GameTextModel.wordKind(II)I -/
def tE_143 : tb_E := (("GameTextModel", 10, false, prog_12_method_12_code, 3, (some .int), ⟨"GameTextModel", "wordKind", "(II)I"⟩),
  [(0, .aload_n 0, 1), (1, .iload_n 1, 1), (2, .invokevirtual 146, 3), (5, .tableswitch 322 98 118 #[133, 99, 322, 322, 150, 322, 322, 234, 322, 322, 304, 184, 322, 322, 322, 322, 322, 252, 270, 322, 116], 99), (104, .aload_n 0, 1), (105, .iload_n 1, 1), (106, .iload_n 2, 1), (107, .ldc 163, 2), (109, .invokevirtual 165, 3), (112, .ifCond .eq 7, 3), (115, .iconst 3, 1), (116, .goto 4, 3), (119, .iconst 1, 1), (120, .ireturn, 1), (121, .aload_n 0, 1), (122, .iload_n 1, 1), (123, .iload_n 2, 1), (124, .ldc 169, 2), (126, .invokevirtual 165, 3), (129, .ifCond .eq 7, 3), (132, .iconst 4, 1), (133, .goto 4, 3), (136, .iconst 1, 1), (137, .ireturn, 1), (138, .aload_n 0, 1), (139, .iload_n 1, 1), (140, .iload_n 2, 1), (141, .ldc 171, 2), (143, .invokevirtual 165, 3), (146, .ifCond .eq 7, 3), (149, .iconst 5, 1), (150, .goto 4, 3), (153, .iconst 1, 1), (154, .ireturn, 1), (155, .aload_n 0, 1), (156, .iload_n 1, 1), (157, .iload_n 2, 1), (158, .ldc 173, 2), (160, .invokevirtual 165, 3), (163, .ifCond .eq 8, 3), (166, .bipush 6, 2), (168, .goto 20, 3), (171, .aload_n 0, 1), (172, .iload_n 1, 1), (173, .iload_n 2, 1), (174, .ldc 175, 2), (176, .invokevirtual 165, 3), (179, .ifCond .eq 8, 3), (182, .bipush 13, 2), (184, .goto 4, 3), (187, .iconst 1, 1), (188, .ireturn, 1), (189, .aload_n 0, 1), (190, .iload_n 1, 1), (191, .iload_n 2, 1), (192, .ldc 177, 2), (194, .invokevirtual 165, 3), (197, .ifCond .eq 8, 3), (200, .bipush 7, 2), (202, .goto 36, 3), (205, .aload_n 0, 1), (206, .iload_n 1, 1), (207, .iload_n 2, 1), (208, .ldc 179, 2), (210, .invokevirtual 165, 3), (213, .ifCond .eq 8, 3), (216, .bipush 8, 2), (218, .goto 20, 3), (221, .aload_n 0, 1), (222, .iload_n 1, 1), (223, .iload_n 2, 1), (224, .ldc 181, 2), (226, .invokevirtual 165, 3), (229, .ifCond .eq 8, 3), (232, .bipush 15, 2), (234, .goto 4, 3), (237, .iconst 1, 1), (238, .ireturn, 1), (239, .aload_n 0, 1), (240, .iload_n 1, 1), (241, .iload_n 2, 1), (242, .ldc 183, 2), (244, .invokevirtual 165, 3), (247, .ifCond .eq 8, 3), (250, .bipush 9, 2), (252, .goto 4, 3), (255, .iconst 1, 1), (256, .ireturn, 1), (257, .aload_n 0, 1), (258, .iload_n 1, 1), (259, .iload_n 2, 1), (260, .ldc 185, 2), (262, .invokevirtual 165, 3), (265, .ifCond .eq 8, 3), (268, .bipush 10, 2), (270, .goto 4, 3), (273, .iconst 1, 1), (274, .ireturn, 1), (275, .aload_n 0, 1), (276, .iload_n 1, 1), (277, .iload_n 2, 1), (278, .ldc 187, 2), (280, .invokevirtual 165, 3), (283, .ifCond .eq 8, 3), (286, .bipush 11, 2), (288, .goto 20, 3), (291, .aload_n 0, 1), (292, .iload_n 1, 1), (293, .iload_n 2, 1), (294, .ldc 189, 2), (296, .invokevirtual 165, 3), (299, .ifCond .eq 8, 3), (302, .bipush 12, 2), (304, .goto 4, 3), (307, .iconst 1, 1), (308, .ireturn, 1), (309, .aload_n 0, 1), (310, .iload_n 1, 1), (311, .iload_n 2, 1), (312, .ldc 191, 2), (314, .invokevirtual 165, 3), (317, .ifCond .eq 8, 3), (320, .bipush 14, 2), (322, .goto 4, 3), (325, .iconst 1, 1), (326, .ireturn, 1), (327, .iconst 1, 1), (328, .ireturn, 1)],
  [],
  [(146, 1, 138, 1), (165, 1, 144, 3)],
  [],
  [(163, .ref 1000002), (169, .ref 1000003), (171, .ref 1000004), (173, .ref 1000005), (175, .ref 1000006), (177, .ref 1000007), (179, .ref 1000008), (181, .ref 1000009), (183, .ref 1000010), (185, .ref 1000011), (187, .ref 1000012), (189, .ref 1000013), (191, .ref 1000014)],
  [],
  [])
/-- GameTextModel.is(IILjava/lang/String;)Z -/
def tE_144 : tb_E := (("GameTextModel", 10, false, prog_12_method_11_code, 6, (some .boolean), ⟨"GameTextModel", "is", "(IILjava/lang/String;)Z"⟩),
  [(0, .iload_n 2, 1), (1, .iload_n 1, 1), (2, .isub, 1), (3, .aload_n 3, 1), (4, .invokevirtual 153, 3), (7, .if_icmp .ne 7, 3), (10, .iconst 1, 1), (11, .goto 4, 3), (14, .iconst 0, 1), (15, .istore 4, 2), (17, .iconst 0, 1), (18, .istore 5, 2), (20, .iload 4, 2), (22, .ifCond .eq 42, 3), (25, .iload 5, 2), (27, .aload_n 3, 1), (28, .invokevirtual 153, 3), (31, .if_icmp .ge 33, 3), (34, .aload_n 0, 1), (35, .iload_n 1, 1), (36, .iload 5, 2), (38, .iadd, 1), (39, .invokevirtual 146, 3), (42, .aload_n 3, 1), (43, .iload 5, 2), (45, .invokevirtual 159, 3), (48, .if_icmp .ne 7, 3), (51, .iconst 1, 1), (52, .goto 4, 3), (55, .iconst 0, 1), (56, .istore 4, 2), (58, .iinc 5 1, 3), (61, .goto (-41), 3), (64, .iload 4, 2), (66, .ireturn, 1)],
  [],
  [(153, 6, 0, 0), (146, 1, 138, 1), (159, 6, 1, 1)],
  [],
  [],
  [],
  [])
/-- GameTextModel.signKind(I)I -/
def tE_145 : tb_E := (("GameTextModel", 10, false, prog_12_method_13_code, 3, (some .int), ⟨"GameTextModel", "signKind", "(I)I"⟩),
  [(0, .aload_n 0, 1), (1, .iload_n 1, 1), (2, .iconst 1, 1), (3, .iadd, 1), (4, .invokevirtual 146, 3), (7, .istore_n 2, 1), (8, .aload_n 0, 1), (9, .iload_n 1, 1), (10, .invokevirtual 146, 3), (13, .lookupswitch 275 #[(33, 191), (37, 245), (38, 248), (39, 272), (40, 266), (41, 269), (42, 239), (43, 236), (44, 263), (45, 177), (46, 163), (47, 242), (58, 257), (59, 260), (60, 205), (61, 233), (62, 219), (63, 254), (124, 251)], 163), (176, .iload_n 2, 1), (177, .bipush 46, 2), (179, .if_icmp .ne 8, 3), (182, .bipush 16, 2), (184, .goto 5, 3), (187, .bipush 39, 2), (189, .ireturn, 1), (190, .iload_n 2, 1), (191, .bipush 62, 2), (193, .if_icmp .ne 8, 3), (196, .bipush 17, 2), (198, .goto 5, 3), (201, .bipush 25, 2), (203, .ireturn, 1), (204, .iload_n 2, 1), (205, .bipush 61, 2), (207, .if_icmp .ne 8, 3), (210, .bipush 18, 2), (212, .goto 5, 3), (215, .bipush 31, 2), (217, .ireturn, 1), (218, .iload_n 2, 1), (219, .bipush 61, 2), (221, .if_icmp .ne 8, 3), (224, .bipush 19, 2), (226, .goto 5, 3), (229, .bipush 21, 2), (231, .ireturn, 1), (232, .iload_n 2, 1), (233, .bipush 61, 2), (235, .if_icmp .ne 8, 3), (238, .bipush 20, 2), (240, .goto 5, 3), (243, .bipush 22, 2), (245, .ireturn, 1), (246, .bipush 23, 2), (248, .ireturn, 1), (249, .bipush 24, 2), (251, .ireturn, 1), (252, .bipush 26, 2), (254, .ireturn, 1), (255, .bipush 27, 2), (257, .ireturn, 1), (258, .bipush 28, 2), (260, .ireturn, 1), (261, .bipush 29, 2), (263, .ireturn, 1), (264, .bipush 30, 2), (266, .ireturn, 1), (267, .bipush 32, 2), (269, .ireturn, 1), (270, .bipush 33, 2), (272, .ireturn, 1), (273, .bipush 34, 2), (275, .ireturn, 1), (276, .bipush 35, 2), (278, .ireturn, 1), (279, .bipush 36, 2), (281, .ireturn, 1), (282, .bipush 37, 2), (284, .ireturn, 1), (285, .bipush 38, 2), (287, .ireturn, 1), (288, .bipush 39, 2), (290, .ireturn, 1)],
  [],
  [(146, 1, 138, 1)],
  [],
  [],
  [],
  [])
/-- GameTextModel.word(III)V -/
def tE_146 : tb_E := (("GameTextModel", 10, false, prog_12_method_14_code, 4, none, ⟨"GameTextModel", "word", "(III)V"⟩),
  [(0, .aload_n 0, 1), (1, .getfield 19, 3), (4, .iload_n 1, 1), (5, .invokevirtual 139, 3), (8, .aload_n 0, 1), (9, .getfield 22, 3), (12, .iload_n 2, 1), (13, .invokevirtual 139, 3), (16, .aload_n 0, 1), (17, .getfield 25, 3), (20, .iload_n 3, 1), (21, .invokevirtual 139, 3), (24, .return_, 1)],
  [(19, 10, 3, (.object "GameTextModel$Numbers"), true), (22, 10, 4, (.object "GameTextModel$Numbers"), true), (25, 10, 5, (.object "GameTextModel$Numbers"), true)],
  [(139, 1, 133, 1)],
  [],
  [],
  [],
  [])
/-- GameTextModel.readText()Z -/
def tE_147 : tb_E := (("GameTextModel", 10, false, prog_12_method_19_code, 5, (some .boolean), ⟨"GameTextModel", "readText", "()Z"⟩),
  [(0, .aload_n 0, 1), (1, .getfield 28, 3), (4, .iconst 0, 1), (5, .putfield 132, 3), (8, .aload_n 0, 1), (9, .iconst 0, 1), (10, .putfield 213, 3), (13, .aload_n 0, 1), (14, .iconst (-1), 1), (15, .putfield 216, 3), (18, .aload_n 0, 1), (19, .getfield 28, 3), (22, .bipush 50, 2), (24, .invokevirtual 139, 3), (27, .iconst 0, 1), (28, .istore_n 1, 1), (29, .aload_n 0, 1), (30, .getfield 216, 3), (33, .ifCond .ge 128, 3), (36, .aload_n 0, 1), (37, .getfield 28, 3), (40, .getfield 132, 3), (43, .ifCond .le 118, 3), (46, .aload_n 0, 1), (47, .getfield 28, 3), (50, .invokevirtual 219, 3), (53, .istore_n 2, 1), (54, .aload_n 0, 1), (55, .getfield 19, 3), (58, .iload_n 1, 1), (59, .invokevirtual 142, 3), (62, .istore_n 3, 1), (63, .iload_n 2, 1), (64, .bipush 75, 2), (66, .if_icmp .ne 16, 3), (69, .aload_n 0, 1), (70, .aload_n 0, 1), (71, .getfield 213, 3), (74, .iconst 1, 1), (75, .isub, 1), (76, .putfield 213, 3), (79, .goto 79, 3), (82, .iload_n 2, 1), (83, .bipush 50, 2), (85, .if_icmp .ge 23, 3), (88, .aload_n 0, 1), (89, .iload_n 2, 1), (90, .iload_n 3, 1), (91, .if_icmp .ne 7, 3), (94, .iconst (-1), 1), (95, .goto 4, 3), (98, .iload_n 1, 1), (99, .putfield 216, 3), (102, .iinc 1 1, 3), (105, .goto 53, 3), (108, .iload_n 2, 1), (109, .bipush 61, 2), (111, .if_icmp .ge 12, 3), (114, .aload_n 0, 1), (115, .iload_n 2, 1), (116, .iload_n 3, 1), (117, .invokevirtual 222, 3), (120, .goto 9, 3), (123, .aload_n 0, 1), (124, .iload_n 2, 1), (125, .iload_n 3, 1), (126, .invokevirtual 225, 3), (129, .istore 4, 2), (131, .aload_n 0, 1), (132, .iload 4, 2), (134, .ifCond .ge 7, 3), (137, .iload_n 1, 1), (138, .goto 4, 3), (141, .iconst (-1), 1), (142, .putfield 216, 3), (145, .iload 4, 2), (147, .ifCond .le 9, 3), (150, .iload_n 1, 1), (151, .iconst 1, 1), (152, .iadd, 1), (153, .goto 4, 3), (156, .iload_n 1, 1), (157, .istore_n 1, 1), (158, .goto (-129), 3), (161, .aload_n 0, 1), (162, .getfield 216, 3), (165, .ifCond .ge 7, 3), (168, .iconst 1, 1), (169, .goto 4, 3), (172, .iconst 0, 1), (173, .ireturn, 1)],
  [(28, 10, 6, (.object "GameTextModel$Numbers"), true), (132, 11, 1, .int, false), (213, 10, 7, .int, false), (216, 10, 8, .int, false), (19, 10, 3, (.object "GameTextModel$Numbers"), true)],
  [(139, 1, 133, 1), (219, 1, 148, 0), (142, 1, 139, 1), (222, 1, 149, 2), (225, 1, 155, 2)],
  [],
  [],
  [],
  [])
/-- GameTextModel$Numbers.take()I -/
def tE_148 : tb_E := (("GameTextModel$Numbers", 11, false, prog_14_method_5_code, 1, (some .int), ⟨"GameTextModel$Numbers", "take", "()I"⟩),
  [(0, .aload_n 0, 1), (1, .aload_n 0, 1), (2, .getfield 13, 3), (5, .iconst 1, 1), (6, .isub, 1), (7, .putfield 13, 3), (10, .aload_n 0, 1), (11, .getfield 7, 3), (14, .aload_n 0, 1), (15, .getfield 13, 3), (18, .iaload, 1), (19, .ireturn, 1)],
  [(13, 11, 1, .int, false), (7, 11, 0, (.array .int), false)],
  [],
  [],
  [],
  [],
  [])
/-- GameTextModel.item(II)I -/
def tE_149 : tb_E := (("GameTextModel", 10, false, prog_12_method_20_code, 3, (some .int), ⟨"GameTextModel", "item", "(II)I"⟩),
  [(0, .iload_n 1, 1), (1, .tableswitch 194 50 60 #[59, 65, 194, 76, 95, 194, 114, 126, 146, 194, 174], 59), (60, .aload_n 0, 1), (61, .iload_n 2, 1), (62, .invokevirtual 228, 3), (65, .ireturn, 1), (66, .aload_n 0, 1), (67, .iconst 1, 1), (68, .bipush 23, 2), (70, .bipush 61, 2), (72, .invokevirtual 231, 3), (75, .iconst 0, 1), (76, .ireturn, 1), (77, .iload_n 2, 1), (78, .iconst 5, 1), (79, .if_icmp .ne 5, 3), (82, .iconst 1, 1), (83, .ireturn, 1), (84, .aload_n 0, 1), (85, .bipush 61, 2), (87, .bipush 16, 2), (89, .bipush 61, 2), (91, .invokevirtual 231, 3), (94, .iconst 0, 1), (95, .ireturn, 1), (96, .iload_n 2, 1), (97, .bipush 9, 2), (99, .if_icmp .ne 14, 3), (102, .aload_n 0, 1), (103, .getfield 28, 3), (106, .bipush 61, 2), (108, .invokevirtual 139, 3), (111, .iconst 1, 1), (112, .ireturn, 1), (113, .iconst 0, 1), (114, .ireturn, 1), (115, .aload_n 0, 1), (116, .bipush 63, 2), (118, .bipush 33, 2), (120, .bipush 58, 2), (122, .invokevirtual 231, 3), (125, .iconst 0, 1), (126, .ireturn, 1), (127, .aload_n 0, 1), (128, .iload_n 2, 1), (129, .bipush 24, 2), (131, .if_icmp .ne 7, 3), (134, .iconst 1, 1), (135, .goto 4, 3), (138, .iconst 0, 1), (139, .bipush 57, 2), (141, .bipush 56, 2), (143, .invokevirtual 234, 3), (146, .ireturn, 1), (147, .iload_n 2, 1), (148, .bipush 10, 2), (150, .if_icmp .ne 5, 3), (153, .iconst 1, 1), (154, .ireturn, 1), (155, .aload_n 0, 1), (156, .getfield 28, 3), (159, .bipush 60, 2), (161, .invokevirtual 139, 3), (164, .aload_n 0, 1), (165, .getfield 28, 3), (168, .bipush 59, 2), (170, .invokevirtual 139, 3), (173, .iconst 0, 1), (174, .ireturn, 1), (175, .aload_n 0, 1), (176, .iload_n 2, 1), (177, .bipush 29, 2), (179, .if_icmp .ne 7, 3), (182, .iconst 1, 1), (183, .goto 4, 3), (186, .iconst 0, 1), (187, .bipush 60, 2), (189, .bipush 59, 2), (191, .invokevirtual 234, 3), (194, .ireturn, 1), (195, .aload_n 0, 1), (196, .iload_n 2, 1), (197, .invokevirtual 238, 3), (200, .ireturn, 1)],
  [(28, 10, 6, (.object "GameTextModel$Numbers"), true)],
  [(228, 1, 150, 1), (231, 1, 151, 3), (139, 1, 133, 1), (234, 1, 152, 3), (238, 1, 153, 1)],
  [],
  [],
  [],
  [])
/-- GameTextModel.anItem(I)I -/
def tE_150 : tb_E := (("GameTextModel", 10, false, prog_12_method_22_code, 2, (some .int), ⟨"GameTextModel", "anItem", "(I)I"⟩),
  [(0, .iload_n 1, 1), (1, .ifCond .ne 5, 3), (4, .iconst 1, 1), (5, .ireturn, 1), (6, .aload_n 0, 1), (7, .getfield 28, 3), (10, .bipush 50, 2), (12, .invokevirtual 139, 3), (15, .aload_n 0, 1), (16, .getfield 28, 3), (19, .bipush 34, 2), (21, .invokevirtual 139, 3), (24, .iload_n 1, 1), (25, .tableswitch 114 3 11 #[51, 62, 114, 51, 93, 93, 114, 114, 82], 51), (76, .aload_n 0, 1), (77, .getfield 28, 3), (80, .bipush 51, 2), (82, .invokevirtual 139, 3), (85, .iconst 1, 1), (86, .ireturn, 1), (87, .aload_n 0, 1), (88, .getfield 28, 3), (91, .bipush 54, 2), (93, .invokevirtual 139, 3), (96, .aload_n 0, 1), (97, .iconst 1, 1), (98, .bipush 33, 2), (100, .bipush 53, 2), (102, .invokevirtual 231, 3), (105, .iconst 1, 1), (106, .ireturn, 1), (107, .aload_n 0, 1), (108, .getfield 28, 3), (111, .bipush 61, 2), (113, .invokevirtual 139, 3), (116, .iconst 1, 1), (117, .ireturn, 1), (118, .aload_n 0, 1), (119, .getfield 28, 3), (122, .bipush 57, 2), (124, .invokevirtual 139, 3), (127, .aload_n 0, 1), (128, .bipush 61, 2), (130, .bipush 17, 2), (132, .bipush 56, 2), (134, .invokevirtual 231, 3), (137, .iconst 1, 1), (138, .ireturn, 1), (139, .iconst (-1), 1), (140, .ireturn, 1)],
  [(28, 10, 6, (.object "GameTextModel$Numbers"), true)],
  [(139, 1, 133, 1), (231, 1, 151, 3)],
  [],
  [],
  [],
  [])
/-- GameTextModel.want(III)V -/
def tE_151 : tb_E := (("GameTextModel", 10, false, prog_12_method_16_code, 4, none, ⟨"GameTextModel", "want", "(III)V"⟩),
  [(0, .aload_n 0, 1), (1, .getfield 28, 3), (4, .iload_n 3, 1), (5, .invokevirtual 139, 3), (8, .aload_n 0, 1), (9, .getfield 28, 3), (12, .iload_n 2, 1), (13, .invokevirtual 139, 3), (16, .aload_n 0, 1), (17, .getfield 28, 3), (20, .iload_n 1, 1), (21, .invokevirtual 139, 3), (24, .return_, 1)],
  [(28, 10, 6, (.object "GameTextModel$Numbers"), true)],
  [(139, 1, 133, 1)],
  [],
  [],
  [],
  [])
/-- GameTextModel.again(ZII)I -/
def tE_152 : tb_E := (("GameTextModel", 10, false, prog_12_method_25_code, 4, (some .int), ⟨"GameTextModel", "again", "(ZII)I"⟩),
  [(0, .iload_n 1, 1), (1, .ifCond .ne 5, 3), (4, .iconst 0, 1), (5, .ireturn, 1), (6, .aload_n 0, 1), (7, .getfield 28, 3), (10, .iload_n 2, 1), (11, .invokevirtual 139, 3), (14, .aload_n 0, 1), (15, .getfield 28, 3), (18, .iload_n 3, 1), (19, .invokevirtual 139, 3), (22, .iconst 1, 1), (23, .ireturn, 1)],
  [(28, 10, 6, (.object "GameTextModel$Numbers"), true)],
  [(139, 1, 133, 1)],
  [],
  [],
  [],
  [])
/-- GameTextModel.set(I)I -/
def tE_153 : tb_E := (("GameTextModel", 10, false, prog_12_method_21_code, 2, (some .int), ⟨"GameTextModel", "set", "(I)I"⟩),
  [(0, .iload_n 1, 1), (1, .bipush 36, 2), (3, .if_icmp .ne 10, 3), (6, .aload_n 0, 1), (7, .invokevirtual 241, 3), (10, .ifCond .ne 5, 3), (13, .iconst (-1), 1), (14, .ireturn, 1), (15, .aload_n 0, 1), (16, .getfield 28, 3), (19, .bipush 75, 2), (21, .invokevirtual 139, 3), (24, .aload_n 0, 1), (25, .getfield 28, 3), (28, .bipush 37, 2), (30, .invokevirtual 139, 3), (33, .aload_n 0, 1), (34, .getfield 28, 3), (37, .bipush 61, 2), (39, .invokevirtual 139, 3), (42, .aload_n 0, 1), (43, .iconst 1, 1), (44, .bipush 38, 2), (46, .bipush 23, 2), (48, .invokevirtual 231, 3), (51, .iconst 1, 1), (52, .ireturn, 1)],
  [(28, 10, 6, (.object "GameTextModel$Numbers"), true)],
  [(241, 1, 154, 0), (139, 1, 133, 1), (231, 1, 151, 3)],
  [],
  [],
  [],
  [])
/-- GameTextModel.level()Z -/
def tE_154 : tb_E := (("GameTextModel", 10, false, prog_12_method_17_code, 1, (some .boolean), ⟨"GameTextModel", "level", "()Z"⟩),
  [(0, .aload_n 0, 1), (1, .aload_n 0, 1), (2, .getfield 213, 3), (5, .iconst 1, 1), (6, .iadd, 1), (7, .putfield 213, 3), (10, .aload_n 0, 1), (11, .getfield 213, 3), (14, .bipush 40, 2), (16, .if_icmp .gt 7, 3), (19, .iconst 1, 1), (20, .goto 4, 3), (23, .iconst 0, 1), (24, .ireturn, 1)],
  [(213, 10, 7, .int, false)],
  [],
  [],
  [],
  [],
  [])
/-- GameTextModel.rule(II)I -/
def tE_155 : tb_E := (("GameTextModel", 10, false, prog_12_method_23_code, 3, (some .int), ⟨"GameTextModel", "rule", "(II)I"⟩),
  [(0, .iload_n 1, 1), (1, .tableswitch 408 61 76 #[79, 99, 114, 134, 154, 174, 194, 251, 271, 291, 317, 337, 408, 369, 408, 389], 79), (80, .aload_n 0, 1), (81, .getfield 28, 3), (84, .bipush 62, 2), (86, .invokevirtual 139, 3), (89, .aload_n 0, 1), (90, .getfield 28, 3), (93, .bipush 63, 2), (95, .invokevirtual 139, 3), (98, .iconst 0, 1), (99, .ireturn, 1), (100, .iload_n 2, 1), (101, .bipush 32, 2), (103, .if_icmp .ne 10, 3), (106, .aload_n 0, 1), (107, .invokevirtual 245, 3), (110, .goto 4, 3), (113, .iconst 0, 1), (114, .ireturn, 1), (115, .aload_n 0, 1), (116, .getfield 28, 3), (119, .bipush 64, 2), (121, .invokevirtual 139, 3), (124, .aload_n 0, 1), (125, .getfield 28, 3), (128, .bipush 65, 2), (130, .invokevirtual 139, 3), (133, .iconst 0, 1), (134, .ireturn, 1), (135, .aload_n 0, 1), (136, .iload_n 2, 1), (137, .bipush 30, 2), (139, .if_icmp .ne 7, 3), (142, .iconst 1, 1), (143, .goto 4, 3), (146, .iconst 0, 1), (147, .bipush 64, 2), (149, .bipush 65, 2), (151, .invokevirtual 234, 3), (154, .ireturn, 1), (155, .aload_n 0, 1), (156, .getfield 28, 3), (159, .bipush 66, 2), (161, .invokevirtual 139, 3), (164, .aload_n 0, 1), (165, .getfield 28, 3), (168, .bipush 67, 2), (170, .invokevirtual 139, 3), (173, .iconst 0, 1), (174, .ireturn, 1), (175, .aload_n 0, 1), (176, .iload_n 2, 1), (177, .bipush 29, 2), (179, .if_icmp .ne 7, 3), (182, .iconst 1, 1), (183, .goto 4, 3), (186, .iconst 0, 1), (187, .bipush 66, 2), (189, .bipush 67, 2), (191, .invokevirtual 234, 3), (194, .ireturn, 1), (195, .iload_n 2, 1), (196, .bipush 31, 2), (198, .if_icmp .ne 34, 3), (201, .aload_n 0, 1), (202, .getfield 28, 3), (205, .bipush 75, 2), (207, .invokevirtual 139, 3), (210, .aload_n 0, 1), (211, .getfield 28, 3), (214, .bipush 67, 2), (216, .invokevirtual 139, 3), (219, .aload_n 0, 1), (220, .invokevirtual 241, 3), (223, .ifCond .eq 7, 3), (226, .iconst 1, 1), (227, .goto 4, 3), (230, .iconst (-1), 1), (231, .ireturn, 1), (232, .aload_n 0, 1), (233, .getfield 28, 3), (236, .bipush 68, 2), (238, .invokevirtual 139, 3), (241, .aload_n 0, 1), (242, .getfield 28, 3), (245, .bipush 69, 2), (247, .invokevirtual 139, 3), (250, .iconst 0, 1), (251, .ireturn, 1), (252, .iload_n 2, 1), (253, .invokestatic 248, 3), (256, .ifCond .eq 14, 3), (259, .aload_n 0, 1), (260, .getfield 28, 3), (263, .bipush 69, 2), (265, .invokevirtual 139, 3), (268, .iconst 1, 1), (269, .ireturn, 1), (270, .iconst 0, 1), (271, .ireturn, 1), (272, .aload_n 0, 1), (273, .getfield 28, 3), (276, .bipush 70, 2), (278, .invokevirtual 139, 3), (281, .aload_n 0, 1), (282, .getfield 28, 3), (285, .bipush 71, 2), (287, .invokevirtual 139, 3), (290, .iconst 0, 1), (291, .ireturn, 1), (292, .aload_n 0, 1), (293, .iload_n 2, 1), (294, .bipush 24, 2), (296, .if_icmp .eq 9, 3), (299, .iload_n 2, 1), (300, .bipush 25, 2), (302, .if_icmp .ne 7, 3), (305, .iconst 1, 1), (306, .goto 4, 3), (309, .iconst 0, 1), (310, .bipush 70, 2), (312, .bipush 71, 2), (314, .invokevirtual 234, 3), (317, .ireturn, 1), (318, .aload_n 0, 1), (319, .getfield 28, 3), (322, .bipush 72, 2), (324, .invokevirtual 139, 3), (327, .aload_n 0, 1), (328, .getfield 28, 3), (331, .bipush 73, 2), (333, .invokevirtual 139, 3), (336, .iconst 0, 1), (337, .ireturn, 1), (338, .aload_n 0, 1), (339, .iload_n 2, 1), (340, .bipush 26, 2), (342, .if_icmp .eq 15, 3), (345, .iload_n 2, 1), (346, .bipush 27, 2), (348, .if_icmp .eq 9, 3), (351, .iload_n 2, 1), (352, .bipush 28, 2), (354, .if_icmp .ne 7, 3), (357, .iconst 1, 1), (358, .goto 4, 3), (361, .iconst 0, 1), (362, .bipush 72, 2), (364, .bipush 73, 2), (366, .invokevirtual 234, 3), (369, .ireturn, 1), (370, .aload_n 0, 1), (371, .iload_n 2, 1), (372, .bipush 35, 2), (374, .if_icmp .ne 7, 3), (377, .iconst 1, 1), (378, .goto 4, 3), (381, .iconst 0, 1), (382, .bipush 74, 2), (384, .bipush 61, 2), (386, .invokevirtual 234, 3), (389, .ireturn, 1), (390, .iload_n 2, 1), (391, .bipush 36, 2), (393, .if_icmp .ne 14, 3), (396, .aload_n 0, 1), (397, .invokevirtual 241, 3), (400, .ifCond .eq 7, 3), (403, .iconst 1, 1), (404, .goto 4, 3), (407, .iconst (-1), 1), (408, .ireturn, 1), (409, .aload_n 0, 1), (410, .iload_n 2, 1), (411, .invokevirtual 251, 3), (414, .ireturn, 1)],
  [(28, 10, 6, (.object "GameTextModel$Numbers"), true)],
  [(139, 1, 133, 1), (245, 1, 156, 0), (234, 1, 152, 3), (241, 1, 154, 0), (248, 0, 157, 1), (251, 1, 158, 1)],
  [],
  [],
  [],
  [])
/-- GameTextModel.ask()I -/
def tE_156 : tb_E := (("GameTextModel", 10, false, prog_12_method_24_code, 1, (some .int), ⟨"GameTextModel", "ask", "()I"⟩),
  [(0, .aload_n 0, 1), (1, .getfield 28, 3), (4, .bipush 75, 2), (6, .invokevirtual 139, 3), (9, .aload_n 0, 1), (10, .bipush 61, 2), (12, .bipush 33, 2), (14, .bipush 61, 2), (16, .invokevirtual 231, 3), (19, .aload_n 0, 1), (20, .invokevirtual 241, 3), (23, .ifCond .eq 7, 3), (26, .iconst 1, 1), (27, .goto 4, 3), (30, .iconst (-1), 1), (31, .ireturn, 1)],
  [(28, 10, 6, (.object "GameTextModel$Numbers"), true)],
  [(139, 1, 133, 1), (231, 1, 151, 3), (241, 1, 154, 0)],
  [],
  [],
  [],
  [])
/-- GameTextModel.isComparison(I)Z -/
def tE_157 : tb_E := (("GameTextModel", 10, false, prog_12_method_18_code, 1, (some .boolean), ⟨"GameTextModel", "isComparison", "(I)Z"⟩),
  [(0, .iload_n 0, 1), (1, .bipush 23, 2), (3, .if_icmp .eq 33, 3), (6, .iload_n 0, 1), (7, .bipush 18, 2), (9, .if_icmp .eq 27, 3), (12, .iload_n 0, 1), (13, .bipush 21, 2), (15, .if_icmp .eq 21, 3), (18, .iload_n 0, 1), (19, .bipush 19, 2), (21, .if_icmp .eq 15, 3), (24, .iload_n 0, 1), (25, .bipush 22, 2), (27, .if_icmp .eq 9, 3), (30, .iload_n 0, 1), (31, .bipush 20, 2), (33, .if_icmp .ne 7, 3), (36, .iconst 1, 1), (37, .goto 4, 3), (40, .iconst 0, 1), (41, .ireturn, 1)],
  [],
  [],
  [],
  [],
  [],
  [])
/-- GameTextModel.sign(I)I -/
def tE_158 : tb_E := (("GameTextModel", 10, false, prog_12_method_26_code, 2, (some .int), ⟨"GameTextModel", "sign", "(I)I"⟩),
  [(0, .iload_n 1, 1), (1, .lookupswitch 195 #[(1, 106), (2, 106), (12, 106), (13, 106), (14, 148), (15, 148), (25, 75), (36, 108)], 75), (76, .aload_n 0, 1), (77, .getfield 28, 3), (80, .bipush 75, 2), (82, .invokevirtual 139, 3), (85, .aload_n 0, 1), (86, .getfield 28, 3), (89, .bipush 73, 2), (91, .invokevirtual 139, 3), (94, .aload_n 0, 1), (95, .invokevirtual 241, 3), (98, .ifCond .eq 7, 3), (101, .iconst 1, 1), (102, .goto 4, 3), (105, .iconst (-1), 1), (106, .ireturn, 1), (107, .iconst 1, 1), (108, .ireturn, 1), (109, .aload_n 0, 1), (110, .getfield 28, 3), (113, .bipush 75, 2), (115, .invokevirtual 139, 3), (118, .aload_n 0, 1), (119, .getfield 28, 3), (122, .bipush 37, 2), (124, .invokevirtual 139, 3), (127, .aload_n 0, 1), (128, .getfield 28, 3), (131, .bipush 61, 2), (133, .invokevirtual 139, 3), (136, .aload_n 0, 1), (137, .invokevirtual 241, 3), (140, .ifCond .eq 7, 3), (143, .iconst 1, 1), (144, .goto 4, 3), (147, .iconst (-1), 1), (148, .ireturn, 1), (149, .aload_n 0, 1), (150, .getfield 28, 3), (153, .bipush 75, 2), (155, .invokevirtual 139, 3), (158, .aload_n 0, 1), (159, .getfield 28, 3), (162, .bipush 37, 2), (164, .invokevirtual 139, 3), (167, .aload_n 0, 1), (168, .getfield 28, 3), (171, .bipush 74, 2), (173, .invokevirtual 139, 3), (176, .aload_n 0, 1), (177, .getfield 28, 3), (180, .bipush 61, 2), (182, .invokevirtual 139, 3), (185, .aload_n 0, 1), (186, .getfield 28, 3), (189, .bipush 76, 2), (191, .invokevirtual 139, 3), (194, .iconst 1, 1), (195, .ireturn, 1), (196, .iconst (-1), 1), (197, .ireturn, 1)],
  [(28, 10, 6, (.object "GameTextModel$Numbers"), true)],
  [(139, 1, 133, 1), (241, 1, 154, 0)],
  [],
  [],
  [],
  [])
/-- GameTextModel.place(I)I -/
def tE_159 : tb_E := (("GameTextModel", 10, false, prog_12_method_29_code, 2, (some .int), ⟨"GameTextModel", "place", "(I)I"⟩),
  [(0, .aload_n 0, 1), (1, .getfield 22, 3), (4, .iload_n 1, 1), (5, .invokevirtual 142, 3), (8, .ireturn, 1)],
  [(22, 10, 4, (.object "GameTextModel$Numbers"), true)],
  [(142, 1, 139, 1)],
  [],
  [],
  [],
  [])
/-- GameTextModel.items()V -/
def tE_160 : tb_E := (("GameTextModel", 10, false, prog_12_method_65_code, 3, none, ⟨"GameTextModel", "items", "()V"⟩),
  [(0, .aload_n 0, 1), (1, .getfield 38, 3), (4, .invokevirtual 414, 3), (7, .aload_n 0, 1), (8, .getfield 45, 3), (11, .iconst 0, 1), (12, .putfield 132, 3), (15, .aload_n 0, 1), (16, .getfield 48, 3), (19, .iconst 0, 1), (20, .putfield 132, 3), (23, .aload_n 0, 1), (24, .getfield 51, 3), (27, .iconst 0, 1), (28, .putfield 132, 3), (31, .aload_n 0, 1), (32, .iconst 0, 1), (33, .putfield 254, 3), (36, .iconst 0, 1), (37, .istore_n 1, 1), (38, .aload_n 0, 1), (39, .getfield 254, 3), (42, .ifCond .ne 148, 3), (45, .aload_n 0, 1), (46, .iload_n 1, 1), (47, .invokevirtual 289, 3), (50, .ifCond .eq 140, 3), (53, .aload_n 0, 1), (54, .iload_n 1, 1), (55, .bipush 34, 2), (57, .invokevirtual 417, 3), (60, .istore_n 2, 1), (61, .aload_n 0, 1), (62, .iload_n 1, 1), (63, .invokevirtual 289, 3), (66, .tableswitch 111 3 11 #[50, 59, 111, 50, 111, 111, 111, 111, 68], 50), (116, .aload_n 0, 1), (117, .iload_n 1, 1), (118, .iload_n 2, 1), (119, .invokevirtual 420, 3), (122, .goto 61, 3), (125, .aload_n 0, 1), (126, .iload_n 1, 1), (127, .iload_n 2, 1), (128, .invokevirtual 423, 3), (131, .goto 52, 3), (134, .aload_n 0, 1), (135, .getfield 38, 3), (138, .getfield 426, 3), (141, .ifCond .lt 16, 3), (144, .aload_n 0, 1), (145, .iconst 4, 1), (146, .aload_n 0, 1), (147, .iload_n 1, 1), (148, .invokevirtual 266, 3), (151, .invokevirtual 338, 3), (154, .goto 29, 3), (157, .aload_n 0, 1), (158, .getfield 38, 3), (161, .aload_n 0, 1), (162, .iload_n 1, 1), (163, .iconst 1, 1), (164, .iadd, 1), (165, .iload_n 2, 1), (166, .iconst 1, 1), (167, .iconst 0, 1), (168, .invokevirtual 428, 3), (171, .putfield 426, 3), (174, .goto 9, 3), (177, .aload_n 0, 1), (178, .iload_n 1, 1), (179, .iload_n 2, 1), (180, .invokevirtual 431, 3), (183, .iload_n 2, 1), (184, .iconst 1, 1), (185, .iadd, 1), (186, .istore_n 1, 1), (187, .goto (-149), 3), (190, .aload_n 0, 1), (191, .getfield 254, 3), (194, .ifCond .ne 24, 3), (197, .aload_n 0, 1), (198, .getfield 38, 3), (201, .getfield 426, 3), (204, .ifCond .ge 14, 3), (207, .aload_n 0, 1), (208, .bipush 10, 2), (210, .aload_n 0, 1), (211, .iload_n 1, 1), (212, .invokevirtual 266, 3), (215, .invokevirtual 338, 3), (218, .return_, 1)],
  [(38, 10, 10, (.object "GameTextModel$Game"), false), (45, 10, 13, (.object "GameTextModel$Numbers"), true), (132, 11, 1, .int, false), (48, 10, 14, (.object "GameTextModel$Numbers"), true), (51, 10, 15, (.object "GameTextModel$Numbers"), true), (254, 10, 16, .int, false), (426, 12, 17, .int, false)],
  [(414, 1, 161, 0), (289, 1, 162, 1), (417, 1, 163, 2), (420, 1, 164, 2), (423, 1, 199, 2), (266, 1, 159, 1), (338, 1, 165, 2), (428, 1, 201, 4), (431, 1, 204, 2)],
  [],
  [],
  [],
  [])
/-- GameTextModel$Game.clear()V -/
def tE_161 : tb_E := (("GameTextModel$Game", 12, false, prog_13_method_2_code, 1, none, ⟨"GameTextModel$Game", "clear", "()V"⟩),
  [(0, .aload_n 0, 1), (1, .getfield 12, 3), (4, .iconst 0, 1), (5, .putfield 96, 3), (8, .aload_n 0, 1), (9, .getfield 18, 3), (12, .iconst 0, 1), (13, .putfield 96, 3), (16, .aload_n 0, 1), (17, .getfield 21, 3), (20, .iconst 0, 1), (21, .putfield 96, 3), (24, .aload_n 0, 1), (25, .getfield 24, 3), (28, .iconst 0, 1), (29, .putfield 96, 3), (32, .aload_n 0, 1), (33, .getfield 27, 3), (36, .iconst 0, 1), (37, .putfield 96, 3), (40, .aload_n 0, 1), (41, .getfield 30, 3), (44, .iconst 0, 1), (45, .putfield 96, 3), (48, .aload_n 0, 1), (49, .iconst 0, 1), (50, .putfield 100, 3), (53, .aload_n 0, 1), (54, .iconst 0, 1), (55, .putfield 103, 3), (58, .aload_n 0, 1), (59, .iconst (-1), 1), (60, .putfield 106, 3), (63, .aload_n 0, 1), (64, .iconst 0, 1), (65, .putfield 109, 3), (68, .aload_n 0, 1), (69, .getfield 87, 3), (72, .iconst 0, 1), (73, .putfield 96, 3), (76, .aload_n 0, 1), (77, .getfield 90, 3), (80, .iconst 0, 1), (81, .putfield 96, 3), (84, .aload_n 0, 1), (85, .getfield 93, 3), (88, .iconst 0, 1), (89, .putfield 96, 3), (92, .return_, 1)],
  [(12, 12, 0, (.object "GameTextModel$Numbers"), true), (96, 11, 1, .int, false), (18, 12, 1, (.object "GameTextModel$Numbers"), true), (21, 12, 2, (.object "GameTextModel$Numbers"), true), (24, 12, 3, (.object "GameTextModel$Numbers"), true), (27, 12, 4, (.object "GameTextModel$Numbers"), true), (30, 12, 5, (.object "GameTextModel$Numbers"), true), (100, 12, 6, .int, false), (103, 12, 12, .int, false), (106, 12, 17, .int, false), (109, 12, 18, .int, false), (87, 12, 27, (.object "GameTextModel$Numbers"), true), (90, 12, 28, (.object "GameTextModel$Numbers"), true), (93, 12, 29, (.object "GameTextModel$Numbers"), true)],
  [],
  [],
  [],
  [],
  [])
/-- GameTextModel.word(I)I -/
def tE_162 : tb_E := (("GameTextModel", 10, false, prog_12_method_28_code, 2, (some .int), ⟨"GameTextModel", "word", "(I)I"⟩),
  [(0, .aload_n 0, 1), (1, .getfield 19, 3), (4, .iload_n 1, 1), (5, .invokevirtual 142, 3), (8, .ireturn, 1)],
  [(19, 10, 3, (.object "GameTextModel$Numbers"), true)],
  [(142, 1, 139, 1)],
  [],
  [],
  [],
  [])
/-- GameTextModel.until(II)I -/
def tE_163 : tb_E := (("GameTextModel", 10, false, prog_12_method_63_code, 7, (some .int), ⟨"GameTextModel", "until", "(II)I"⟩),
  [(0, .iconst 0, 1), (1, .istore_n 3, 1), (2, .iconst 0, 1), (3, .istore 4, 2), (5, .iload_n 1, 1), (6, .istore 5, 2), (8, .aload_n 0, 1), (9, .iload 5, 2), (11, .invokevirtual 289, 3), (14, .iload_n 2, 1), (15, .if_icmp .ne 12, 3), (18, .iload_n 3, 1), (19, .ifCond .gt 8, 3), (22, .iload 4, 2), (24, .ifCond .le 86, 3), (27, .aload_n 0, 1), (28, .iload 5, 2), (30, .invokevirtual 289, 3), (33, .istore 6, 2), (35, .iload 6, 2), (37, .bipush 36, 2), (39, .if_icmp .ne 9, 3), (42, .iload_n 3, 1), (43, .iconst 1, 1), (44, .iadd, 1), (45, .goto 17, 3), (48, .iload 6, 2), (50, .bipush 37, 2), (52, .if_icmp .ne 9, 3), (55, .iload_n 3, 1), (56, .iconst 1, 1), (57, .isub, 1), (58, .goto 4, 3), (61, .iload_n 3, 1), (62, .istore_n 3, 1), (63, .iload_n 3, 1), (64, .ifCond .le 8, 3), (67, .iload 4, 2), (69, .goto 33, 3), (72, .iload 6, 2), (74, .bipush 32, 2), (76, .if_icmp .ne 10, 3), (79, .iload 4, 2), (81, .iconst 1, 1), (82, .iadd, 1), (83, .goto 19, 3), (86, .iload 6, 2), (88, .bipush 33, 2), (90, .if_icmp .ne 10, 3), (93, .iload 4, 2), (95, .iconst 1, 1), (96, .isub, 1), (97, .goto 5, 3), (100, .iload 4, 2), (102, .istore 4, 2), (104, .iinc 5 1, 3), (107, .goto (-99), 3), (110, .iload 5, 2), (112, .ireturn, 1)],
  [],
  [(289, 1, 162, 1)],
  [],
  [],
  [],
  [])
/-- GameTextModel.ruleItem(II)V -/
def tE_164 : tb_E := (("GameTextModel", 10, false, prog_12_method_66_code, 7, none, ⟨"GameTextModel", "ruleItem", "(II)V"⟩),
  [(0, .aload_n 0, 1), (1, .iload_n 1, 1), (2, .invokevirtual 289, 3), (5, .bipush 6, 2), (7, .if_icmp .ne 7, 3), (10, .iconst 1, 1), (11, .goto 4, 3), (14, .iconst 0, 1), (15, .istore_n 3, 1), (16, .aload_n 0, 1), (17, .getfield 38, 3), (20, .getfield 434, 3), (23, .bipush 60, 2), (25, .if_icmp .ne 14, 3), (28, .aload_n 0, 1), (29, .iconst 5, 1), (30, .aload_n 0, 1), (31, .iload_n 1, 1), (32, .invokevirtual 266, 3), (35, .invokevirtual 338, 3), (38, .return_, 1), (39, .aload_n 0, 1), (40, .iload_n 1, 1), (41, .iconst 1, 1), (42, .iadd, 1), (43, .invokevirtual 341, 3), (46, .ifCond .lt 16, 3), (49, .aload_n 0, 1), (50, .iconst 2, 1), (51, .aload_n 0, 1), (52, .iload_n 1, 1), (53, .iconst 1, 1), (54, .iadd, 1), (55, .invokevirtual 266, 3), (58, .invokevirtual 338, 3), (61, .return_, 1), (62, .aload_n 0, 1), (63, .getfield 38, 3), (66, .getfield 434, 3), (69, .istore 4, 2), (71, .aload_n 0, 1), (72, .iload_n 1, 1), (73, .iconst 3, 1), (74, .iadd, 1), (75, .iload_n 2, 1), (76, .invokevirtual 350, 3), (79, .istore 5, 2), (81, .aload_n 0, 1), (82, .iload 5, 2), (84, .iload_n 3, 1), (85, .ifCond .ne 7, 3), (88, .iconst 1, 1), (89, .goto 4, 3), (92, .iconst 0, 1), (93, .invokevirtual 353, 3), (96, .istore 6, 2), (98, .aload_n 0, 1), (99, .getfield 254, 3), (102, .ifCond .eq 4, 3), (105, .return_, 1), (106, .aload_n 0, 1), (107, .getfield 38, 3), (110, .getfield 394, 3), (113, .iload 4, 2), (115, .iload_n 3, 1), (116, .bastore, 1), (117, .aload_n 0, 1), (118, .getfield 38, 3), (121, .getfield 347, 3), (124, .iload 4, 2), (126, .iload 6, 2), (128, .bastore, 1), (129, .aload_n 0, 1), (130, .getfield 38, 3), (133, .getfield 399, 3), (136, .iload 4, 2), (138, .iload 5, 2), (140, .iastore, 1), (141, .iload_n 3, 1), (142, .ifCond .ne 45, 3), (145, .aload_n 0, 1), (146, .aload_n 0, 1), (147, .getfield 38, 3), (150, .iload 5, 2), (152, .invokevirtual 437, 3), (155, .aload_n 0, 1), (156, .getfield 38, 3), (159, .getfield 397, 3), (162, .iload 4, 2), (164, .aload_n 0, 1), (165, .getfield 63, 3), (168, .iconst 0, 1), (169, .laload, 1), (170, .lastore, 1), (171, .aload_n 0, 1), (172, .getfield 38, 3), (175, .getfield 398, 3), (178, .iload 4, 2), (180, .aload_n 0, 1), (181, .getfield 67, 3), (184, .iconst 0, 1), (185, .laload, 1), (186, .lastore, 1), (187, .aload_n 0, 1), (188, .getfield 38, 3), (191, .iload 4, 2), (193, .iconst 1, 1), (194, .iadd, 1), (195, .putfield 434, 3), (198, .aload_n 0, 1), (199, .iload_n 1, 1), (200, .iconst 1, 1), (201, .iadd, 1), (202, .iload_n 3, 1), (203, .ifCond .eq 7, 3), (206, .iconst 2, 1), (207, .goto 4, 3), (210, .iconst 1, 1), (211, .iload 4, 2), (213, .invokevirtual 440, 3), (216, .return_, 1)],
  [(38, 10, 10, (.object "GameTextModel$Game"), false), (434, 12, 6, .int, false), (254, 10, 16, .int, false), (394, 12, 7, (.array .boolean), true), (347, 12, 8, (.array .boolean), true), (399, 12, 9, (.array .int), true), (397, 12, 10, (.array .long), true), (63, 10, 21, (.array .long), true), (398, 12, 11, (.array .long), true), (67, 10, 22, (.array .long), true)],
  [(289, 1, 162, 1), (266, 1, 159, 1), (338, 1, 165, 2), (341, 1, 166, 1), (350, 1, 168, 2), (353, 1, 179, 2), (437, 1, 185, 2), (440, 1, 198, 3)],
  [],
  [],
  [],
  [])
/-- GameTextModel.stop(II)V -/
def tE_165 : tb_E := (("GameTextModel", 10, false, prog_12_method_27_code, 3, none, ⟨"GameTextModel", "stop", "(II)V"⟩),
  [(0, .aload_n 0, 1), (1, .iload_n 1, 1), (2, .putfield 254, 3), (5, .aload_n 0, 1), (6, .iload_n 2, 1), (7, .putfield 257, 3), (10, .return_, 1)],
  [(254, 10, 16, .int, false), (257, 10, 17, .int, false)],
  [],
  [],
  [],
  [],
  [])
/-- GameTextModel.find(I)I -/
def tE_166 : tb_E := (("GameTextModel", 10, false, prog_12_method_42_code, 4, (some .int), ⟨"GameTextModel", "find", "(I)I"⟩),
  [(0, .iconst (-1), 1), (1, .istore_n 2, 1), (2, .iconst 0, 1), (3, .istore_n 3, 1), (4, .iload_n 3, 1), (5, .aload_n 0, 1), (6, .getfield 45, 3), (9, .getfield 132, 3), (12, .if_icmp .ge 31, 3), (15, .aload_n 0, 1), (16, .aload_n 0, 1), (17, .getfield 45, 3), (20, .iload_n 3, 1), (21, .invokevirtual 142, 3), (24, .iload_n 1, 1), (25, .invokevirtual 317, 3), (28, .ifCond .eq 7, 3), (31, .iload_n 3, 1), (32, .goto 4, 3), (35, .iload_n 2, 1), (36, .istore_n 2, 1), (37, .iinc 3 1, 3), (40, .goto (-36), 3), (43, .iload_n 2, 1), (44, .ireturn, 1)],
  [(45, 10, 13, (.object "GameTextModel$Numbers"), true), (132, 11, 1, .int, false)],
  [(142, 1, 139, 1), (317, 1, 167, 2)],
  [],
  [],
  [],
  [])
/-- GameTextModel.sameWord(II)Z -/
def tE_167 : tb_E := (("GameTextModel", 10, false, prog_12_method_41_code, 6, (some .boolean), ⟨"GameTextModel", "sameWord", "(II)Z"⟩),
  [(0, .aload_n 0, 1), (1, .getfield 25, 3), (4, .iload_n 1, 1), (5, .invokevirtual 142, 3), (8, .aload_n 0, 1), (9, .iload_n 1, 1), (10, .invokevirtual 266, 3), (13, .isub, 1), (14, .istore_n 3, 1), (15, .aload_n 0, 1), (16, .getfield 25, 3), (19, .iload_n 2, 1), (20, .invokevirtual 142, 3), (23, .aload_n 0, 1), (24, .iload_n 2, 1), (25, .invokevirtual 266, 3), (28, .isub, 1), (29, .iload_n 3, 1), (30, .if_icmp .ne 7, 3), (33, .iconst 1, 1), (34, .goto 4, 3), (37, .iconst 0, 1), (38, .istore 4, 2), (40, .iconst 0, 1), (41, .istore 5, 2), (43, .iload 5, 2), (45, .iload_n 3, 1), (46, .if_icmp .ge 54, 3), (49, .iload 4, 2), (51, .ifCond .eq 49, 3), (54, .aload_n 0, 1), (55, .getfield 16, 3), (58, .aload_n 0, 1), (59, .iload_n 1, 1), (60, .invokevirtual 266, 3), (63, .iload 5, 2), (65, .iadd, 1), (66, .invokevirtual 142, 3), (69, .aload_n 0, 1), (70, .getfield 16, 3), (73, .aload_n 0, 1), (74, .iload_n 2, 1), (75, .invokevirtual 266, 3), (78, .iload 5, 2), (80, .iadd, 1), (81, .invokevirtual 142, 3), (84, .if_icmp .ne 7, 3), (87, .iconst 1, 1), (88, .goto 4, 3), (91, .iconst 0, 1), (92, .istore 4, 2), (94, .iinc 5 1, 3), (97, .goto (-54), 3), (100, .iload 4, 2), (102, .ireturn, 1)],
  [(25, 10, 5, (.object "GameTextModel$Numbers"), true), (16, 10, 2, (.object "GameTextModel$Numbers"), false)],
  [(142, 1, 139, 1), (266, 1, 159, 1)],
  [],
  [],
  [],
  [])
/-- GameTextModel.tree(II)I -/
def tE_168 : tb_E := (("GameTextModel", 10, false, prog_12_method_33_code, 6, (some .int), ⟨"GameTextModel", "tree", "(II)I"⟩),
  [(0, .aload_n 0, 1), (1, .getfield 54, 3), (4, .iconst 0, 1), (5, .putfield 132, 3), (8, .aload_n 0, 1), (9, .getfield 38, 3), (12, .getfield 260, 3), (15, .getfield 132, 3), (18, .istore_n 3, 1), (19, .aload_n 0, 1), (20, .iconst (-1), 1), (21, .iload_n 1, 1), (22, .iload_n 2, 1), (23, .invokevirtual 283, 3), (26, .aload_n 0, 1), (27, .getfield 54, 3), (30, .getfield 132, 3), (33, .ifCond .le 39, 3), (36, .aload_n 0, 1), (37, .getfield 54, 3), (40, .invokevirtual 219, 3), (43, .istore 4, 2), (45, .aload_n 0, 1), (46, .getfield 54, 3), (49, .invokevirtual 219, 3), (52, .istore 5, 2), (54, .aload_n 0, 1), (55, .aload_n 0, 1), (56, .getfield 54, 3), (59, .invokevirtual 219, 3), (62, .iload 5, 2), (64, .iload 4, 2), (66, .invokevirtual 286, 3), (69, .goto (-43), 3), (72, .iload_n 3, 1), (73, .ireturn, 1)],
  [(54, 10, 18, (.object "GameTextModel$Numbers"), true), (132, 11, 1, .int, false), (38, 10, 10, (.object "GameTextModel$Game"), false), (260, 12, 0, (.object "GameTextModel$Numbers"), true)],
  [(283, 1, 169, 3), (219, 1, 148, 0), (286, 1, 170, 3)],
  [],
  [],
  [],
  [])
/-- GameTextModel.job(III)V -/
def tE_169 : tb_E := (("GameTextModel", 10, false, prog_12_method_32_code, 4, none, ⟨"GameTextModel", "job", "(III)V"⟩),
  [(0, .aload_n 0, 1), (1, .getfield 54, 3), (4, .iload_n 1, 1), (5, .invokevirtual 139, 3), (8, .aload_n 0, 1), (9, .getfield 54, 3), (12, .iload_n 2, 1), (13, .invokevirtual 139, 3), (16, .aload_n 0, 1), (17, .getfield 54, 3), (20, .iload_n 3, 1), (21, .invokevirtual 139, 3), (24, .return_, 1)],
  [(54, 10, 18, (.object "GameTextModel$Numbers"), true)],
  [(139, 1, 133, 1)],
  [],
  [],
  [],
  [])
/-- GameTextModel.part(III)V -/
def tE_170 : tb_E := (("GameTextModel", 10, false, prog_12_method_38_code, 7, none, ⟨"GameTextModel", "part", "(III)V"⟩),
  [(0, .aload_n 0, 1), (1, .iload_n 2, 1), (2, .iload_n 3, 1), (3, .invokevirtual 297, 3), (6, .istore 4, 2), (8, .iload 4, 2), (10, .ifCond .lt 99, 3), (13, .aload_n 0, 1), (14, .aload_n 0, 1), (15, .iload 4, 2), (17, .invokevirtual 289, 3), (20, .iload 4, 2), (22, .iload_n 2, 1), (23, .invokevirtual 300, 3), (26, .istore 5, 2), (28, .aload_n 0, 1), (29, .iload_n 1, 1), (30, .iload 5, 2), (32, .invokevirtual 304, 3), (35, .aload_n 0, 1), (36, .iload 4, 2), (38, .invokevirtual 289, 3), (41, .bipush 32, 2), (43, .if_icmp .eq 24, 3), (46, .aload_n 0, 1), (47, .iload 5, 2), (49, .iload 4, 2), (51, .iconst 1, 1), (52, .iadd, 1), (53, .iload_n 3, 1), (54, .invokevirtual 283, 3), (57, .aload_n 0, 1), (58, .iload 5, 2), (60, .iload_n 2, 1), (61, .iload 4, 2), (63, .invokevirtual 283, 3), (66, .return_, 1), (67, .aload_n 0, 1), (68, .iload 4, 2), (70, .iload_n 3, 1), (71, .invokevirtual 308, 3), (74, .istore 6, 2), (76, .aload_n 0, 1), (77, .iload 5, 2), (79, .iload 6, 2), (81, .iconst 1, 1), (82, .iadd, 1), (83, .iload_n 3, 1), (84, .invokevirtual 283, 3), (87, .aload_n 0, 1), (88, .iload 5, 2), (90, .iload 4, 2), (92, .iconst 1, 1), (93, .iadd, 1), (94, .iload 6, 2), (96, .invokevirtual 283, 3), (99, .aload_n 0, 1), (100, .iload 5, 2), (102, .iload_n 2, 1), (103, .iload 4, 2), (105, .invokevirtual 283, 3), (108, .return_, 1), (109, .aload_n 0, 1), (110, .iload_n 2, 1), (111, .invokevirtual 289, 3), (114, .istore 5, 2), (116, .iload 5, 2), (118, .bipush 36, 2), (120, .if_icmp .ne 15, 3), (123, .aload_n 0, 1), (124, .iload_n 1, 1), (125, .iload_n 2, 1), (126, .iconst 1, 1), (127, .iadd, 1), (128, .iload_n 3, 1), (129, .iconst 1, 1), (130, .isub, 1), (131, .invokevirtual 283, 3), (134, .return_, 1), (135, .aload_n 0, 1), (136, .iload 5, 2), (138, .bipush 25, 2), (140, .if_icmp .ne 8, 3), (143, .bipush 45, 2), (145, .goto 5, 3), (148, .iload 5, 2), (150, .iload_n 2, 1), (151, .iload_n 2, 1), (152, .invokevirtual 300, 3), (155, .istore 6, 2), (157, .aload_n 0, 1), (158, .iload_n 1, 1), (159, .iload 6, 2), (161, .invokevirtual 304, 3), (164, .iload 5, 2), (166, .bipush 25, 2), (168, .if_icmp .eq 10, 3), (171, .iload 5, 2), (173, .bipush 31, 2), (175, .if_icmp .ne 16, 3), (178, .aload_n 0, 1), (179, .iload 6, 2), (181, .iload_n 2, 1), (182, .iconst 1, 1), (183, .iadd, 1), (184, .iload_n 3, 1), (185, .invokevirtual 283, 3), (188, .goto 79, 3), (191, .iload 5, 2), (193, .iconst 2, 1), (194, .if_icmp .ne 24, 3), (197, .aload_n 0, 1), (198, .getfield 38, 3), (201, .getfield 271, 3), (204, .getfield 280, 3), (207, .iload 6, 2), (209, .aload_n 0, 1), (210, .iload_n 2, 1), (211, .invokevirtual 311, 3), (214, .iastore, 1), (215, .goto 52, 3), (218, .iload 5, 2), (220, .iconst 1, 1), (221, .if_icmp .ne 20, 3), (224, .aload_n 0, 1), (225, .getfield 38, 3), (228, .getfield 271, 3), (231, .getfield 280, 3), (234, .iload 6, 2), (236, .iload_n 2, 1), (237, .iastore, 1), (238, .goto 29, 3), (241, .iload 5, 2), (243, .bipush 14, 2), (245, .if_icmp .eq 10, 3), (248, .iload 5, 2), (250, .bipush 15, 2), (252, .if_icmp .ne 15, 3), (255, .aload_n 0, 1), (256, .iload 6, 2), (258, .iload_n 2, 1), (259, .iconst 2, 1), (260, .iadd, 1), (261, .iload_n 3, 1), (262, .iconst 1, 1), (263, .isub, 1), (264, .invokevirtual 314, 3), (267, .return_, 1)],
  [(38, 10, 10, (.object "GameTextModel$Game"), false), (271, 12, 3, (.object "GameTextModel$Numbers"), true), (280, 11, 0, (.array .int), false)],
  [(297, 1, 171, 2), (289, 1, 162, 1), (300, 1, 174, 3), (304, 1, 175, 2), (283, 1, 169, 3), (308, 1, 176, 2), (311, 1, 177, 1), (314, 1, 178, 3)],
  [],
  [],
  [],
  [])
/-- GameTextModel.loosest(II)I -/
def tE_171 : tb_E := (("GameTextModel", 10, false, prog_12_method_36_code, 8, (some .int), ⟨"GameTextModel", "loosest", "(II)I"⟩),
  [(0, .iconst (-1), 1), (1, .istore_n 3, 1), (2, .iconst 0, 1), (3, .istore 4, 2), (5, .iconst 0, 1), (6, .istore 5, 2), (8, .iload_n 1, 1), (9, .istore 6, 2), (11, .iload 6, 2), (13, .iload_n 2, 1), (14, .if_icmp .ge 104, 3), (17, .aload_n 0, 1), (18, .iload 6, 2), (20, .invokevirtual 289, 3), (23, .bipush 37, 2), (25, .if_icmp .ne 10, 3), (28, .iload 5, 2), (30, .iconst 1, 1), (31, .isub, 1), (32, .goto 5, 3), (35, .iload 5, 2), (37, .istore 5, 2), (39, .iload 5, 2), (41, .ifCond .ne 13, 3), (44, .aload_n 0, 1), (45, .iload 6, 2), (47, .iload_n 1, 1), (48, .invokevirtual 294, 3), (51, .goto 4, 3), (54, .iconst 0, 1), (55, .istore 7, 2), (57, .iload 7, 2), (59, .iload 4, 2), (61, .if_icmp .gt 22, 3), (64, .iload 7, 2), (66, .ifCond .le 24, 3), (69, .iload 7, 2), (71, .iload 4, 2), (73, .if_icmp .ne 17, 3), (76, .iload 7, 2), (78, .bipush 6, 2), (80, .if_icmp .ge 10, 3), (83, .iload 7, 2), (85, .istore 4, 2), (87, .iload 6, 2), (89, .istore_n 3, 1), (90, .aload_n 0, 1), (91, .iload 6, 2), (93, .invokevirtual 289, 3), (96, .bipush 36, 2), (98, .if_icmp .ne 10, 3), (101, .iload 5, 2), (103, .iconst 1, 1), (104, .iadd, 1), (105, .goto 5, 3), (108, .iload 5, 2), (110, .istore 5, 2), (112, .iinc 6 1, 3), (115, .goto (-104), 3), (118, .aload_n 0, 1), (119, .iload_n 1, 1), (120, .invokevirtual 289, 3), (123, .bipush 31, 2), (125, .if_icmp .ne 13, 3), (128, .iload 4, 2), (130, .iconst 4, 1), (131, .if_icmp .ge 7, 3), (134, .iconst (-1), 1), (135, .goto 4, 3), (138, .iload_n 3, 1), (139, .ireturn, 1)],
  [],
  [(289, 1, 162, 1), (294, 1, 172, 2)],
  [],
  [],
  [],
  [])
/-- GameTextModel.looseness(II)I -/
def tE_172 : tb_E := (("GameTextModel", 10, false, prog_12_method_35_code, 4, (some .int), ⟨"GameTextModel", "looseness", "(II)I"⟩),
  [(0, .aload_n 0, 1), (1, .iload_n 1, 1), (2, .invokevirtual 289, 3), (5, .istore_n 3, 1), (6, .iload_n 3, 1), (7, .bipush 32, 2), (9, .if_icmp .ne 6, 3), (12, .bipush 6, 2), (14, .ireturn, 1), (15, .iload_n 3, 1), (16, .bipush 30, 2), (18, .if_icmp .eq 9, 3), (21, .iload_n 3, 1), (22, .bipush 29, 2), (24, .if_icmp .ne 15, 3), (27, .iload_n 3, 1), (28, .bipush 30, 2), (30, .if_icmp .ne 7, 3), (33, .iconst 5, 1), (34, .goto 4, 3), (37, .iconst 4, 1), (38, .ireturn, 1), (39, .iload_n 3, 1), (40, .invokestatic 248, 3), (43, .ifCond .eq 5, 3), (46, .iconst 3, 1), (47, .ireturn, 1), (48, .iload_n 3, 1), (49, .bipush 24, 2), (51, .if_icmp .eq 9, 3), (54, .iload_n 3, 1), (55, .bipush 25, 2), (57, .if_icmp .ne 24, 3), (60, .iload_n 1, 1), (61, .iload_n 2, 1), (62, .if_icmp .le 17, 3), (65, .aload_n 0, 1), (66, .iload_n 1, 1), (67, .iconst 1, 1), (68, .isub, 1), (69, .invokevirtual 291, 3), (72, .ifCond .eq 7, 3), (75, .iconst 2, 1), (76, .goto 4, 3), (79, .iconst 0, 1), (80, .ireturn, 1), (81, .iload_n 3, 1), (82, .bipush 26, 2), (84, .if_icmp .eq 15, 3), (87, .iload_n 3, 1), (88, .bipush 27, 2), (90, .if_icmp .eq 9, 3), (93, .iload_n 3, 1), (94, .bipush 28, 2), (96, .if_icmp .ne 7, 3), (99, .iconst 1, 1), (100, .goto 4, 3), (103, .iconst 0, 1), (104, .ireturn, 1)],
  [],
  [(289, 1, 162, 1), (248, 0, 157, 1), (291, 1, 173, 1)],
  [],
  [],
  [],
  [])
/-- GameTextModel.isOperand(I)Z -/
def tE_173 : tb_E := (("GameTextModel", 10, false, prog_12_method_34_code, 2, (some .boolean), ⟨"GameTextModel", "isOperand", "(I)Z"⟩),
  [(0, .aload_n 0, 1), (1, .iload_n 1, 1), (2, .invokevirtual 289, 3), (5, .iconst 2, 1), (6, .if_icmp .eq 42, 3), (9, .aload_n 0, 1), (10, .iload_n 1, 1), (11, .invokevirtual 289, 3), (14, .iconst 1, 1), (15, .if_icmp .eq 33, 3), (18, .aload_n 0, 1), (19, .iload_n 1, 1), (20, .invokevirtual 289, 3), (23, .bipush 12, 2), (25, .if_icmp .eq 23, 3), (28, .aload_n 0, 1), (29, .iload_n 1, 1), (30, .invokevirtual 289, 3), (33, .bipush 13, 2), (35, .if_icmp .eq 13, 3), (38, .aload_n 0, 1), (39, .iload_n 1, 1), (40, .invokevirtual 289, 3), (43, .bipush 37, 2), (45, .if_icmp .ne 7, 3), (48, .iconst 1, 1), (49, .goto 4, 3), (52, .iconst 0, 1), (53, .ireturn, 1)],
  [],
  [(289, 1, 162, 1)],
  [],
  [],
  [],
  [])
/-- GameTextModel.node(III)I -/
def tE_174 : tb_E := (("GameTextModel", 10, false, prog_12_method_30_code, 4, (some .int), ⟨"GameTextModel", "node", "(III)I"⟩),
  [(0, .aload_n 0, 1), (1, .getfield 38, 3), (4, .getfield 260, 3), (7, .iload_n 1, 1), (8, .invokevirtual 139, 3), (11, .aload_n 0, 1), (12, .getfield 38, 3), (15, .getfield 263, 3), (18, .aload_n 0, 1), (19, .iload_n 2, 1), (20, .invokevirtual 266, 3), (23, .invokevirtual 139, 3), (26, .aload_n 0, 1), (27, .getfield 38, 3), (30, .getfield 268, 3), (33, .aload_n 0, 1), (34, .iload_n 3, 1), (35, .invokevirtual 266, 3), (38, .invokevirtual 139, 3), (41, .aload_n 0, 1), (42, .getfield 38, 3), (45, .getfield 271, 3), (48, .iconst 0, 1), (49, .invokevirtual 139, 3), (52, .aload_n 0, 1), (53, .getfield 38, 3), (56, .getfield 274, 3), (59, .iconst (-1), 1), (60, .invokevirtual 139, 3), (63, .aload_n 0, 1), (64, .getfield 38, 3), (67, .getfield 277, 3), (70, .iconst (-1), 1), (71, .invokevirtual 139, 3), (74, .aload_n 0, 1), (75, .getfield 38, 3), (78, .getfield 260, 3), (81, .getfield 132, 3), (84, .iconst 1, 1), (85, .isub, 1), (86, .ireturn, 1)],
  [(38, 10, 10, (.object "GameTextModel$Game"), false), (260, 12, 0, (.object "GameTextModel$Numbers"), true), (263, 12, 1, (.object "GameTextModel$Numbers"), true), (268, 12, 2, (.object "GameTextModel$Numbers"), true), (271, 12, 3, (.object "GameTextModel$Numbers"), true), (274, 12, 4, (.object "GameTextModel$Numbers"), true), (277, 12, 5, (.object "GameTextModel$Numbers"), true), (132, 11, 1, .int, false)],
  [(139, 1, 133, 1), (266, 1, 159, 1)],
  [],
  [],
  [],
  [])
/-- GameTextModel.join(II)V -/
def tE_175 : tb_E := (("GameTextModel", 10, false, prog_12_method_31_code, 4, none, ⟨"GameTextModel", "join", "(II)V"⟩),
  [(0, .iload_n 1, 1), (1, .ifCond .ge 4, 3), (4, .return_, 1), (5, .aload_n 0, 1), (6, .getfield 38, 3), (9, .getfield 274, 3), (12, .iload_n 1, 1), (13, .invokevirtual 142, 3), (16, .ifCond .ge 17, 3), (19, .aload_n 0, 1), (20, .getfield 38, 3), (23, .getfield 274, 3), (26, .getfield 280, 3), (29, .iload_n 1, 1), (30, .iload_n 2, 1), (31, .iastore, 1), (32, .return_, 1), (33, .aload_n 0, 1), (34, .getfield 38, 3), (37, .getfield 274, 3), (40, .iload_n 1, 1), (41, .invokevirtual 142, 3), (44, .istore_n 3, 1), (45, .aload_n 0, 1), (46, .getfield 38, 3), (49, .getfield 277, 3), (52, .iload_n 3, 1), (53, .invokevirtual 142, 3), (56, .ifCond .lt 18, 3), (59, .aload_n 0, 1), (60, .getfield 38, 3), (63, .getfield 277, 3), (66, .iload_n 3, 1), (67, .invokevirtual 142, 3), (70, .istore_n 3, 1), (71, .goto (-26), 3), (74, .aload_n 0, 1), (75, .getfield 38, 3), (78, .getfield 277, 3), (81, .getfield 280, 3), (84, .iload_n 3, 1), (85, .iload_n 2, 1), (86, .iastore, 1), (87, .return_, 1)],
  [(38, 10, 10, (.object "GameTextModel$Game"), false), (274, 12, 4, (.object "GameTextModel$Numbers"), true), (280, 11, 0, (.array .int), false), (277, 12, 5, (.object "GameTextModel$Numbers"), true)],
  [(142, 1, 139, 1)],
  [],
  [],
  [],
  [])
/-- GameTextModel.colonOf(II)I -/
def tE_176 : tb_E := (("GameTextModel", 10, false, prog_12_method_37_code, 8, (some .int), ⟨"GameTextModel", "colonOf", "(II)I"⟩),
  [(0, .iconst 0, 1), (1, .istore_n 3, 1), (2, .iconst 0, 1), (3, .istore 4, 2), (5, .iload_n 1, 1), (6, .istore 5, 2), (8, .iconst 0, 1), (9, .istore 6, 2), (11, .iload 6, 2), (13, .ifCond .ne 109, 3), (16, .iinc 5 1, 3), (19, .aload_n 0, 1), (20, .iload 5, 2), (22, .invokevirtual 289, 3), (25, .istore 7, 2), (27, .iload 7, 2), (29, .bipush 36, 2), (31, .if_icmp .ne 10, 3), (34, .iload 4, 2), (36, .iconst 1, 1), (37, .iadd, 1), (38, .goto 19, 3), (41, .iload 7, 2), (43, .bipush 37, 2), (45, .if_icmp .ne 10, 3), (48, .iload 4, 2), (50, .iconst 1, 1), (51, .isub, 1), (52, .goto 5, 3), (55, .iload 4, 2), (57, .istore 4, 2), (59, .iload 7, 2), (61, .bipush 33, 2), (63, .if_icmp .ne 16, 3), (66, .iload 4, 2), (68, .ifCond .ne 11, 3), (71, .iload_n 3, 1), (72, .ifCond .ne 7, 3), (75, .iconst 1, 1), (76, .goto 4, 3), (79, .iconst 0, 1), (80, .istore 6, 2), (82, .iload 4, 2), (84, .ifCond .le 7, 3), (87, .iload_n 3, 1), (88, .goto 30, 3), (91, .iload 7, 2), (93, .bipush 32, 2), (95, .if_icmp .ne 9, 3), (98, .iload_n 3, 1), (99, .iconst 1, 1), (100, .iadd, 1), (101, .goto 17, 3), (104, .iload 7, 2), (106, .bipush 33, 2), (108, .if_icmp .ne 9, 3), (111, .iload_n 3, 1), (112, .iconst 1, 1), (113, .isub, 1), (114, .goto 4, 3), (117, .iload_n 3, 1), (118, .istore_n 3, 1), (119, .goto (-108), 3), (122, .iload 5, 2), (124, .ireturn, 1)],
  [],
  [(289, 1, 162, 1)],
  [],
  [],
  [],
  [])
/-- GameTextModel.numberOf(I)I -/
def tE_177 : tb_E := (("GameTextModel", 10, false, prog_12_method_40_code, 4, (some .int), ⟨"GameTextModel", "numberOf", "(I)I"⟩),
  [(0, .iconst 0, 1), (1, .istore_n 2, 1), (2, .aload_n 0, 1), (3, .iload_n 1, 1), (4, .invokevirtual 266, 3), (7, .istore_n 3, 1), (8, .iload_n 3, 1), (9, .aload_n 0, 1), (10, .getfield 25, 3), (13, .iload_n 1, 1), (14, .invokevirtual 142, 3), (17, .if_icmp .ge 26, 3), (20, .bipush 10, 2), (22, .iload_n 2, 1), (23, .imul, 1), (24, .aload_n 0, 1), (25, .getfield 16, 3), (28, .iload_n 3, 1), (29, .invokevirtual 142, 3), (32, .iadd, 1), (33, .bipush 48, 2), (35, .isub, 1), (36, .istore_n 2, 1), (37, .iinc 3 1, 3), (40, .goto (-32), 3), (43, .iload_n 2, 1), (44, .ireturn, 1)],
  [(25, 10, 5, (.object "GameTextModel$Numbers"), true), (16, 10, 2, (.object "GameTextModel$Numbers"), false)],
  [(266, 1, 159, 1), (142, 1, 139, 1)],
  [],
  [],
  [],
  [])
/-- GameTextModel.list(III)V -/
def tE_178 : tb_E := (("GameTextModel", 10, false, prog_12_method_39_code, 8, none, ⟨"GameTextModel", "list", "(III)V"⟩),
  [(0, .iload_n 3, 1), (1, .istore 4, 2), (3, .iconst 0, 1), (4, .istore 5, 2), (6, .iload_n 3, 1), (7, .iconst 1, 1), (8, .isub, 1), (9, .istore 6, 2), (11, .iload 6, 2), (13, .iload_n 2, 1), (14, .iconst 1, 1), (15, .isub, 1), (16, .if_icmp .lt 87, 3), (19, .iload 6, 2), (21, .iload_n 2, 1), (22, .if_icmp .ge 8, 3), (25, .bipush 35, 2), (27, .goto 9, 3), (30, .aload_n 0, 1), (31, .iload 6, 2), (33, .invokevirtual 289, 3), (36, .istore 7, 2), (38, .iload 7, 2), (40, .bipush 37, 2), (42, .if_icmp .ne 10, 3), (45, .iload 5, 2), (47, .iconst 1, 1), (48, .iadd, 1), (49, .goto 19, 3), (52, .iload 7, 2), (54, .bipush 36, 2), (56, .if_icmp .ne 10, 3), (59, .iload 5, 2), (61, .iconst 1, 1), (62, .isub, 1), (63, .goto 5, 3), (66, .iload 5, 2), (68, .istore 5, 2), (70, .iload 5, 2), (72, .ifCond .ne 25, 3), (75, .iload 7, 2), (77, .bipush 35, 2), (79, .if_icmp .ne 18, 3), (82, .aload_n 0, 1), (83, .iload_n 1, 1), (84, .iload 6, 2), (86, .iconst 1, 1), (87, .iadd, 1), (88, .iload 4, 2), (90, .invokevirtual 283, 3), (93, .iload 6, 2), (95, .istore 4, 2), (97, .iinc 6 (-1), 3), (100, .goto (-89), 3), (103, .return_, 1)],
  [],
  [(289, 1, 162, 1), (283, 1, 169, 3)],
  [],
  [],
  [],
  [])
/-- GameTextModel.look(IZ)Z -/
def tE_179 : tb_E := (("GameTextModel", 10, false, prog_12_method_44_code, 7, (some .boolean), ⟨"GameTextModel", "look", "(IZ)Z"⟩),
  [(0, .aload_n 0, 1), (1, .getfield 60, 3), (4, .iconst 0, 1), (5, .putfield 132, 3), (8, .aload_n 0, 1), (9, .getfield 57, 3), (12, .iconst 0, 1), (13, .putfield 132, 3), (16, .aload_n 0, 1), (17, .getfield 60, 3), (20, .iload_n 1, 1), (21, .invokevirtual 139, 3), (24, .aload_n 0, 1), (25, .getfield 60, 3), (28, .iconst 0, 1), (29, .invokevirtual 139, 3), (32, .aload_n 0, 1), (33, .getfield 60, 3), (36, .getfield 132, 3), (39, .ifCond .le 135, 3), (42, .aload_n 0, 1), (43, .getfield 254, 3), (46, .ifCond .ne 128, 3), (49, .aload_n 0, 1), (50, .getfield 60, 3), (53, .invokevirtual 219, 3), (56, .istore_n 3, 1), (57, .aload_n 0, 1), (58, .getfield 60, 3), (61, .invokevirtual 219, 3), (64, .istore 4, 2), (66, .aload_n 0, 1), (67, .getfield 38, 3), (70, .getfield 274, 3), (73, .iload 4, 2), (75, .invokevirtual 142, 3), (78, .istore 5, 2), (80, .iload_n 3, 1), (81, .iconst 1, 1), (82, .if_icmp .eq 8, 3), (85, .iload 5, 2), (87, .ifCond .ge 13, 3), (90, .aload_n 0, 1), (91, .iload 4, 2), (93, .iload_n 2, 1), (94, .invokevirtual 321, 3), (97, .goto 74, 3), (100, .aload_n 0, 1), (101, .getfield 60, 3), (104, .iload 4, 2), (106, .invokevirtual 139, 3), (109, .aload_n 0, 1), (110, .getfield 60, 3), (113, .iconst 1, 1), (114, .invokevirtual 139, 3), (117, .aload_n 0, 1), (118, .getfield 60, 3), (121, .getfield 132, 3), (124, .istore 6, 2), (126, .iload 5, 2), (128, .ifCond .lt 37, 3), (131, .aload_n 0, 1), (132, .getfield 60, 3), (135, .iload 5, 2), (137, .invokevirtual 139, 3), (140, .aload_n 0, 1), (141, .getfield 60, 3), (144, .iconst 0, 1), (145, .invokevirtual 139, 3), (148, .aload_n 0, 1), (149, .getfield 38, 3), (152, .getfield 277, 3), (155, .iload 5, 2), (157, .invokevirtual 142, 3), (160, .istore 5, 2), (162, .goto (-36), 3), (165, .aload_n 0, 1), (166, .iload 6, 2), (168, .invokevirtual 325, 3), (171, .goto (-139), 3), (174, .aload_n 0, 1), (175, .getfield 254, 3), (178, .ifCond .ne 18, 3), (181, .aload_n 0, 1), (182, .getfield 57, 3), (185, .invokevirtual 328, 3), (188, .iconst 1, 1), (189, .if_icmp .ne 7, 3), (192, .iconst 1, 1), (193, .goto 4, 3), (196, .iconst 0, 1), (197, .ireturn, 1)],
  [(60, 10, 20, (.object "GameTextModel$Numbers"), true), (132, 11, 1, .int, false), (57, 10, 19, (.object "GameTextModel$Numbers"), true), (254, 10, 16, .int, false), (38, 10, 10, (.object "GameTextModel$Game"), false), (274, 12, 4, (.object "GameTextModel$Numbers"), true), (277, 12, 5, (.object "GameTextModel$Numbers"), true)],
  [(139, 1, 133, 1), (219, 1, 148, 0), (142, 1, 139, 1), (321, 1, 180, 2), (325, 1, 184, 1), (328, 1, 183, 0)],
  [],
  [],
  [],
  [])
/-- GameTextModel.lookAt(IZ)V -/
def tE_180 : tb_E := (("GameTextModel", 10, false, prog_12_method_47_code, 10, none, ⟨"GameTextModel", "lookAt", "(IZ)V"⟩),
  [(0, .aload_n 0, 1), (1, .getfield 38, 3), (4, .getfield 260, 3), (7, .iload_n 1, 1), (8, .invokevirtual 142, 3), (11, .istore_n 3, 1), (12, .aload_n 0, 1), (13, .getfield 38, 3), (16, .getfield 263, 3), (19, .iload_n 1, 1), (20, .invokevirtual 142, 3), (23, .istore 4, 2), (25, .aload_n 0, 1), (26, .iload_n 1, 1), (27, .invokevirtual 331, 3), (30, .istore 5, 2), (32, .aload_n 0, 1), (33, .getfield 57, 3), (36, .getfield 132, 3), (39, .iload 5, 2), (41, .isub, 1), (42, .istore 6, 2), (44, .iconst 0, 1), (45, .istore 7, 2), (47, .iload 6, 2), (49, .istore 8, 2), (51, .iload 8, 2), (53, .aload_n 0, 1), (54, .getfield 57, 3), (57, .getfield 132, 3), (60, .if_icmp .ge 23, 3), (63, .iload 7, 2), (65, .aload_n 0, 1), (66, .getfield 57, 3), (69, .iload 8, 2), (71, .invokevirtual 142, 3), (74, .iadd, 1), (75, .istore 7, 2), (77, .iinc 8 1, 3), (80, .goto (-29), 3), (83, .iconst 1, 1), (84, .istore 8, 2), (86, .iconst 0, 1), (87, .istore 9, 2), (89, .iload_n 3, 1), (90, .tableswitch 258 1 32 #[151, 142, 258, 258, 258, 258, 258, 258, 258, 258, 258, 145, 145, 258, 258, 258, 258, 182, 258, 258, 258, 258, 182, 258, 258, 258, 258, 258, 162, 162, 162, 201], 142), (232, .goto 142, 3), (235, .iconst 1, 1), (236, .istore 9, 2), (238, .goto 136, 3), (241, .aload_n 0, 1), (242, .iload_n 1, 1), (243, .iload_n 2, 1), (244, .invokevirtual 334, 3), (247, .istore 9, 2), (249, .goto 125, 3), (252, .iload 7, 2), (254, .iload 5, 2), (256, .if_icmp .ne 7, 3), (259, .iconst 1, 1), (260, .goto 4, 3), (263, .iconst 0, 1), (264, .istore 8, 2), (266, .iconst 1, 1), (267, .istore 9, 2), (269, .goto 105, 3), (272, .iload 7, 2), (274, .iconst 1, 1), (275, .if_icmp .eq 7, 3), (278, .iconst 1, 1), (279, .goto 4, 3), (282, .iconst 0, 1), (283, .istore 8, 2), (285, .iconst 1, 1), (286, .istore 9, 2), (288, .goto 86, 3), (291, .aload_n 0, 1), (292, .getfield 57, 3), (295, .iload 6, 2), (297, .invokevirtual 142, 3), (300, .iconst 1, 1), (301, .if_icmp .ne 32, 3), (304, .aload_n 0, 1), (305, .getfield 57, 3), (308, .iload 6, 2), (310, .iconst 1, 1), (311, .iadd, 1), (312, .invokevirtual 142, 3), (315, .aload_n 0, 1), (316, .getfield 57, 3), (319, .iload 6, 2), (321, .iconst 2, 1), (322, .iadd, 1), (323, .invokevirtual 142, 3), (326, .if_icmp .ne 7, 3), (329, .iconst 1, 1), (330, .goto 4, 3), (333, .iconst 0, 1), (334, .istore 8, 2), (336, .aload_n 0, 1), (337, .getfield 57, 3), (340, .invokevirtual 328, 3), (343, .istore 9, 2), (345, .goto 29, 3), (348, .iload 7, 2), (350, .ifCond .ne 7, 3), (353, .iconst 1, 1), (354, .goto 4, 3), (357, .iconst 0, 1), (358, .istore 8, 2), (360, .iload_n 3, 1), (361, .invokestatic 248, 3), (364, .ifCond .eq 7, 3), (367, .iconst 1, 1), (368, .goto 4, 3), (371, .iconst 0, 1), (372, .istore 9, 2), (374, .iload 8, 2), (376, .ifCond .ne 10, 3), (379, .aload_n 0, 1), (380, .iconst 3, 1), (381, .iload 4, 2), (383, .invokevirtual 338, 3), (386, .aload_n 0, 1), (387, .getfield 57, 3), (390, .iload 6, 2), (392, .putfield 132, 3), (395, .aload_n 0, 1), (396, .getfield 57, 3), (399, .iload 9, 2), (401, .invokevirtual 139, 3), (404, .return_, 1)],
  [(38, 10, 10, (.object "GameTextModel$Game"), false), (260, 12, 0, (.object "GameTextModel$Numbers"), true), (263, 12, 1, (.object "GameTextModel$Numbers"), true), (57, 10, 19, (.object "GameTextModel$Numbers"), true), (132, 11, 1, .int, false)],
  [(142, 1, 139, 1), (331, 1, 181, 1), (334, 1, 182, 2), (328, 1, 183, 0), (248, 0, 157, 1), (338, 1, 165, 2), (139, 1, 133, 1)],
  [],
  [],
  [],
  [])
/-- GameTextModel.parts(I)I -/
def tE_181 : tb_E := (("GameTextModel", 10, false, prog_12_method_46_code, 4, (some .int), ⟨"GameTextModel", "parts", "(I)I"⟩),
  [(0, .iconst 0, 1), (1, .istore_n 2, 1), (2, .aload_n 0, 1), (3, .getfield 38, 3), (6, .getfield 274, 3), (9, .iload_n 1, 1), (10, .invokevirtual 142, 3), (13, .istore_n 3, 1), (14, .iload_n 3, 1), (15, .ifCond .lt 21, 3), (18, .iinc 2 1, 3), (21, .aload_n 0, 1), (22, .getfield 38, 3), (25, .getfield 277, 3), (28, .iload_n 3, 1), (29, .invokevirtual 142, 3), (32, .istore_n 3, 1), (33, .goto (-19), 3), (36, .iload_n 2, 1), (37, .ireturn, 1)],
  [(38, 10, 10, (.object "GameTextModel$Game"), false), (274, 12, 4, (.object "GameTextModel$Numbers"), true), (277, 12, 5, (.object "GameTextModel$Numbers"), true)],
  [(142, 1, 139, 1)],
  [],
  [],
  [],
  [])
/-- GameTextModel.lookUp(IZ)I -/
def tE_182 : tb_E := (("GameTextModel", 10, false, prog_12_method_48_code, 6, (some .int), ⟨"GameTextModel", "lookUp", "(IZ)I"⟩),
  [(0, .aload_n 0, 1), (1, .aload_n 0, 1), (2, .getfield 38, 3), (5, .getfield 271, 3), (8, .iload_n 1, 1), (9, .invokevirtual 142, 3), (12, .invokevirtual 341, 3), (15, .istore_n 3, 1), (16, .iload_n 3, 1), (17, .ifCond .lt 19, 3), (20, .iload_n 2, 1), (21, .ifCond .eq 33, 3), (24, .aload_n 0, 1), (25, .getfield 48, 3), (28, .iload_n 3, 1), (29, .invokevirtual 142, 3), (32, .iconst 1, 1), (33, .if_icmp .eq 21, 3), (36, .aload_n 0, 1), (37, .iconst 2, 1), (38, .aload_n 0, 1), (39, .getfield 38, 3), (42, .getfield 263, 3), (45, .iload_n 1, 1), (46, .invokevirtual 142, 3), (49, .invokevirtual 338, 3), (52, .iconst 0, 1), (53, .ireturn, 1), (54, .aload_n 0, 1), (55, .getfield 51, 3), (58, .iload_n 3, 1), (59, .invokevirtual 142, 3), (62, .istore 4, 2), (64, .aload_n 0, 1), (65, .getfield 38, 3), (68, .getfield 271, 3), (71, .getfield 280, 3), (74, .iload_n 1, 1), (75, .aload_n 0, 1), (76, .getfield 48, 3), (79, .iload_n 3, 1), (80, .invokevirtual 142, 3), (83, .iconst 3, 1), (84, .if_icmp .ne 11, 3), (87, .bipush 100, 2), (89, .iload 4, 2), (91, .iadd, 1), (92, .goto 5, 3), (95, .iload 4, 2), (97, .iastore, 1), (98, .aload_n 0, 1), (99, .getfield 48, 3), (102, .iload_n 3, 1), (103, .invokevirtual 142, 3), (106, .iconst 3, 1), (107, .if_icmp .ne 16, 3), (110, .aload_n 0, 1), (111, .getfield 38, 3), (114, .getfield 344, 3), (117, .iload 4, 2), (119, .baload, 1), (120, .goto 13, 3), (123, .aload_n 0, 1), (124, .getfield 38, 3), (127, .getfield 347, 3), (130, .iload 4, 2), (132, .baload, 1), (133, .istore 5, 2), (135, .iload 5, 2), (137, .ifCond .eq 7, 3), (140, .iconst 1, 1), (141, .goto 4, 3), (144, .iconst 0, 1), (145, .ireturn, 1)],
  [(38, 10, 10, (.object "GameTextModel$Game"), false), (271, 12, 3, (.object "GameTextModel$Numbers"), true), (48, 10, 14, (.object "GameTextModel$Numbers"), true), (263, 12, 1, (.object "GameTextModel$Numbers"), true), (51, 10, 15, (.object "GameTextModel$Numbers"), true), (280, 11, 0, (.array .int), false), (344, 12, 13, (.array .boolean), true), (347, 12, 8, (.array .boolean), true)],
  [(142, 1, 139, 1), (341, 1, 166, 1), (338, 1, 165, 2)],
  [],
  [],
  [],
  [])
/-- GameTextModel$Numbers.last()I -/
def tE_183 : tb_E := (("GameTextModel$Numbers", 11, false, prog_14_method_4_code, 1, (some .int), ⟨"GameTextModel$Numbers", "last", "()I"⟩),
  [(0, .aload_n 0, 1), (1, .getfield 7, 3), (4, .aload_n 0, 1), (5, .getfield 13, 3), (8, .iconst 1, 1), (9, .isub, 1), (10, .iaload, 1), (11, .ireturn, 1)],
  [(7, 11, 0, (.array .int), false), (13, 11, 1, .int, false)],
  [],
  [],
  [],
  [],
  [])
/-- GameTextModel.turn(I)V -/
def tE_184 : tb_E := (("GameTextModel", 10, false, prog_12_method_45_code, 5, none, ⟨"GameTextModel", "turn", "(I)V"⟩),
  [(0, .iload_n 1, 1), (1, .istore_n 2, 1), (2, .aload_n 0, 1), (3, .getfield 60, 3), (6, .getfield 132, 3), (9, .iconst 2, 1), (10, .isub, 1), (11, .istore_n 3, 1), (12, .iload_n 2, 1), (13, .iload_n 3, 1), (14, .if_icmp .ge 52, 3), (17, .aload_n 0, 1), (18, .getfield 60, 3), (21, .iload_n 2, 1), (22, .invokevirtual 142, 3), (25, .istore 4, 2), (27, .aload_n 0, 1), (28, .getfield 60, 3), (31, .getfield 280, 3), (34, .iload_n 2, 1), (35, .aload_n 0, 1), (36, .getfield 60, 3), (39, .iload_n 3, 1), (40, .invokevirtual 142, 3), (43, .iastore, 1), (44, .aload_n 0, 1), (45, .getfield 60, 3), (48, .getfield 280, 3), (51, .iload_n 3, 1), (52, .iload 4, 2), (54, .iastore, 1), (55, .iload_n 2, 1), (56, .iconst 2, 1), (57, .iadd, 1), (58, .istore_n 2, 1), (59, .iload_n 3, 1), (60, .iconst 2, 1), (61, .isub, 1), (62, .istore_n 3, 1), (63, .goto (-51), 3), (66, .return_, 1)],
  [(60, 10, 20, (.object "GameTextModel$Numbers"), true), (132, 11, 1, .int, false), (280, 11, 0, (.array .int), false)],
  [(142, 1, 139, 1)],
  [],
  [],
  [],
  [])
/-- GameTextModel.workOut(LGameTextModel$Game;I)V -/
def tE_185 : tb_E := (("GameTextModel", 10, false, prog_12_method_55_code, 5, none, ⟨"GameTextModel", "workOut", "(LGameTextModel$Game;I)V"⟩),
  [(0, .aload_n 0, 1), (1, .iconst 0, 1), (2, .putfield 357, 3), (5, .aload_n 0, 1), (6, .getfield 70, 3), (9, .iconst 0, 1), (10, .putfield 132, 3), (13, .aload_n 0, 1), (14, .iconst 0, 1), (15, .iload_n 2, 1), (16, .invokevirtual 372, 3), (19, .aload_n 0, 1), (20, .getfield 70, 3), (23, .getfield 132, 3), (26, .ifCond .le 115, 3), (29, .aload_n 0, 1), (30, .getfield 254, 3), (33, .ifCond .ne 108, 3), (36, .aload_n 0, 1), (37, .getfield 70, 3), (40, .invokevirtual 219, 3), (43, .istore_n 3, 1), (44, .aload_n 0, 1), (45, .getfield 70, 3), (48, .invokevirtual 219, 3), (51, .istore 4, 2), (53, .iload 4, 2), (55, .ifCond .ne 12, 3), (58, .aload_n 0, 1), (59, .aload_n 1, 1), (60, .iload_n 3, 1), (61, .invokevirtual 374, 3), (64, .goto 74, 3), (67, .iload 4, 2), (69, .iconst 1, 1), (70, .if_icmp .ne 12, 3), (73, .aload_n 0, 1), (74, .aload_n 1, 1), (75, .iload_n 3, 1), (76, .invokevirtual 378, 3), (79, .goto 59, 3), (82, .iload 4, 2), (84, .iconst 2, 1), (85, .if_icmp .ne 12, 3), (88, .aload_n 0, 1), (89, .aload_n 1, 1), (90, .iload_n 3, 1), (91, .invokevirtual 381, 3), (94, .goto 44, 3), (97, .aload_n 0, 1), (98, .getfield 77, 3), (101, .iload_n 3, 1), (102, .iconst 1, 1), (103, .bastore, 1), (104, .aload_n 0, 1), (105, .getfield 81, 3), (108, .iload_n 3, 1), (109, .aload_n 0, 1), (110, .getfield 63, 3), (113, .aload_n 0, 1), (114, .getfield 357, 3), (117, .iconst 1, 1), (118, .isub, 1), (119, .laload, 1), (120, .lastore, 1), (121, .aload_n 0, 1), (122, .getfield 84, 3), (125, .iload_n 3, 1), (126, .aload_n 0, 1), (127, .getfield 67, 3), (130, .aload_n 0, 1), (131, .getfield 357, 3), (134, .iconst 1, 1), (135, .isub, 1), (136, .laload, 1), (137, .lastore, 1), (138, .goto (-119), 3), (141, .return_, 1)],
  [(357, 10, 23, .int, false), (70, 10, 24, (.object "GameTextModel$Numbers"), true), (132, 11, 1, .int, false), (254, 10, 16, .int, false), (77, 10, 26, (.array .boolean), true), (81, 10, 27, (.array .long), true), (63, 10, 21, (.array .long), true), (84, 10, 28, (.array .long), true), (67, 10, 22, (.array .long), true)],
  [(372, 1, 186, 2), (219, 1, 148, 0), (374, 1, 187, 2), (378, 1, 192, 2), (381, 1, 197, 2)],
  [],
  [],
  [],
  [])
/-- GameTextModel.todo(II)V -/
def tE_186 : tb_E := (("GameTextModel", 10, false, prog_12_method_54_code, 3, none, ⟨"GameTextModel", "todo", "(II)V"⟩),
  [(0, .aload_n 0, 1), (1, .getfield 70, 3), (4, .iload_n 1, 1), (5, .invokevirtual 139, 3), (8, .aload_n 0, 1), (9, .getfield 70, 3), (12, .iload_n 2, 1), (13, .invokevirtual 139, 3), (16, .return_, 1)],
  [(70, 10, 24, (.object "GameTextModel$Numbers"), true)],
  [(139, 1, 133, 1)],
  [],
  [],
  [],
  [])
/-- GameTextModel.begin(LGameTextModel$Game;I)V -/
def tE_187 : tb_E := (("GameTextModel", 10, false, prog_12_method_56_code, 7, none, ⟨"GameTextModel", "begin", "(LGameTextModel$Game;I)V"⟩),
  [(0, .aload_n 1, 1), (1, .getfield 260, 3), (4, .iload_n 2, 1), (5, .invokevirtual 142, 3), (8, .istore_n 3, 1), (9, .aload_n 1, 1), (10, .getfield 274, 3), (13, .iload_n 2, 1), (14, .invokevirtual 142, 3), (17, .istore 4, 2), (19, .iload_n 3, 1), (20, .lookupswitch 127 #[(1, 99), (2, 68), (12, 83), (13, 83), (29, 113), (30, 113), (32, 113)], 68), (88, .aload_n 0, 1), (89, .aload_n 1, 1), (90, .getfield 271, 3), (93, .iload_n 2, 1), (94, .invokevirtual 142, 3), (97, .i2l, 1), (98, .lconst 1, 1), (99, .invokevirtual 360, 3), (102, .return_, 1), (103, .aload_n 0, 1), (104, .iload_n 3, 1), (105, .bipush 12, 2), (107, .if_icmp .ne 7, 3), (110, .iconst 1, 1), (111, .goto 4, 3), (114, .iconst 0, 1), (115, .invokevirtual 384, 3), (118, .return_, 1), (119, .aload_n 0, 1), (120, .aload_n 1, 1), (121, .aload_n 1, 1), (122, .getfield 271, 3), (125, .iload_n 2, 1), (126, .invokevirtual 142, 3), (129, .invokevirtual 388, 3), (132, .return_, 1), (133, .aload_n 0, 1), (134, .iconst 2, 1), (135, .iload_n 2, 1), (136, .invokevirtual 372, 3), (139, .aload_n 0, 1), (140, .iconst 0, 1), (141, .iload 4, 2), (143, .invokevirtual 372, 3), (146, .return_, 1), (147, .aload_n 0, 1), (148, .iconst 1, 1), (149, .iload_n 2, 1), (150, .invokevirtual 372, 3), (153, .aload_n 0, 1), (154, .getfield 70, 3), (157, .getfield 132, 3), (160, .istore 5, 2), (162, .iload 4, 2), (164, .istore 6, 2), (166, .iload 6, 2), (168, .ifCond .lt 24, 3), (171, .aload_n 0, 1), (172, .iconst 0, 1), (173, .iload 6, 2), (175, .invokevirtual 372, 3), (178, .aload_n 1, 1), (179, .getfield 277, 3), (182, .iload 6, 2), (184, .invokevirtual 142, 3), (187, .istore 6, 2), (189, .goto (-23), 3), (192, .aload_n 0, 1), (193, .iload 5, 2), (195, .invokevirtual 391, 3), (198, .return_, 1)],
  [(260, 12, 0, (.object "GameTextModel$Numbers"), true), (274, 12, 4, (.object "GameTextModel$Numbers"), true), (271, 12, 3, (.object "GameTextModel$Numbers"), true), (70, 10, 24, (.object "GameTextModel$Numbers"), true), (132, 11, 1, .int, false), (277, 12, 5, (.object "GameTextModel$Numbers"), true)],
  [(142, 1, 139, 1), (360, 1, 188, 2), (384, 1, 189, 1), (388, 1, 190, 2), (372, 1, 186, 2), (391, 1, 191, 1)],
  [],
  [],
  [],
  [])
/-- GameTextModel.push(JJ)V -/
def tE_188 : tb_E := (("GameTextModel", 10, false, prog_12_method_50_code, 5, none, ⟨"GameTextModel", "push", "(JJ)V"⟩),
  [(0, .aload_n 0, 1), (1, .getfield 63, 3), (4, .aload_n 0, 1), (5, .getfield 357, 3), (8, .lload_n 1, 1), (9, .lastore, 1), (10, .aload_n 0, 1), (11, .getfield 67, 3), (14, .aload_n 0, 1), (15, .getfield 357, 3), (18, .lload_n 3, 1), (19, .lastore, 1), (20, .aload_n 0, 1), (21, .aload_n 0, 1), (22, .getfield 357, 3), (25, .iconst 1, 1), (26, .iadd, 1), (27, .putfield 357, 3), (30, .return_, 1)],
  [(63, 10, 21, (.array .long), true), (357, 10, 23, .int, false), (67, 10, 22, (.array .long), true)],
  [],
  [],
  [],
  [],
  [])
/-- GameTextModel.pushTruth(Z)V -/
def tE_189 : tb_E := (("GameTextModel", 10, false, prog_12_method_51_code, 2, none, ⟨"GameTextModel", "pushTruth", "(Z)V"⟩),
  [(0, .aload_n 0, 1), (1, .iload_n 1, 1), (2, .ifCond .eq 7, 3), (5, .lconst 1, 1), (6, .goto 4, 3), (9, .lconst 0, 1), (10, .lconst 0, 1), (11, .invokevirtual 360, 3), (14, .return_, 1)],
  [],
  [(360, 1, 188, 2)],
  [],
  [],
  [],
  [])
/-- GameTextModel.name(LGameTextModel$Game;I)V -/
def tE_190 : tb_E := (("GameTextModel", 10, false, prog_12_method_58_code, 4, none, ⟨"GameTextModel", "name", "(LGameTextModel$Game;I)V"⟩),
  [(0, .iload_n 2, 1), (1, .bipush 100, 2), (3, .if_icmp .lt 36, 3), (6, .iload_n 2, 1), (7, .bipush 100, 2), (9, .isub, 1), (10, .istore_n 3, 1), (11, .aload_n 0, 1), (12, .aload_n 0, 1), (13, .getfield 73, 3), (16, .iload_n 3, 1), (17, .iaload, 1), (18, .i2l, 1), (19, .aload_n 1, 1), (20, .getfield 344, 3), (23, .iload_n 3, 1), (24, .baload, 1), (25, .ifCond .eq 7, 3), (28, .lconst 0, 1), (29, .goto 4, 3), (32, .lconst 1, 1), (33, .invokevirtual 360, 3), (36, .goto 76, 3), (39, .aload_n 1, 1), (40, .getfield 394, 3), (43, .iload_n 2, 1), (44, .baload, 1), (45, .ifCond .ne 22, 3), (48, .aload_n 0, 1), (49, .aload_n 1, 1), (50, .getfield 397, 3), (53, .iload_n 2, 1), (54, .laload, 1), (55, .aload_n 1, 1), (56, .getfield 398, 3), (59, .iload_n 2, 1), (60, .laload, 1), (61, .invokevirtual 360, 3), (64, .goto 48, 3), (67, .aload_n 0, 1), (68, .getfield 77, 3), (71, .iload_n 2, 1), (72, .baload, 1), (73, .ifCond .eq 22, 3), (76, .aload_n 0, 1), (77, .aload_n 0, 1), (78, .getfield 81, 3), (81, .iload_n 2, 1), (82, .laload, 1), (83, .aload_n 0, 1), (84, .getfield 84, 3), (87, .iload_n 2, 1), (88, .laload, 1), (89, .invokevirtual 360, 3), (92, .goto 20, 3), (95, .aload_n 0, 1), (96, .iconst 3, 1), (97, .iload_n 2, 1), (98, .invokevirtual 372, 3), (101, .aload_n 0, 1), (102, .iconst 0, 1), (103, .aload_n 1, 1), (104, .getfield 399, 3), (107, .iload_n 2, 1), (108, .iaload, 1), (109, .invokevirtual 372, 3), (112, .return_, 1)],
  [(73, 10, 25, (.array .int), true), (344, 12, 13, (.array .boolean), true), (394, 12, 7, (.array .boolean), true), (397, 12, 10, (.array .long), true), (398, 12, 11, (.array .long), true), (77, 10, 26, (.array .boolean), true), (81, 10, 27, (.array .long), true), (84, 10, 28, (.array .long), true), (399, 12, 9, (.array .int), true)],
  [(360, 1, 188, 2), (372, 1, 186, 2)],
  [],
  [],
  [],
  [])
/-- GameTextModel.turnTodo(I)V -/
def tE_191 : tb_E := (("GameTextModel", 10, false, prog_12_method_57_code, 5, none, ⟨"GameTextModel", "turnTodo", "(I)V"⟩),
  [(0, .iload_n 1, 1), (1, .istore_n 2, 1), (2, .aload_n 0, 1), (3, .getfield 70, 3), (6, .getfield 132, 3), (9, .iconst 2, 1), (10, .isub, 1), (11, .istore_n 3, 1), (12, .iload_n 2, 1), (13, .iload_n 3, 1), (14, .if_icmp .ge 60, 3), (17, .aload_n 0, 1), (18, .getfield 70, 3), (21, .iload_n 2, 1), (22, .iconst 1, 1), (23, .iadd, 1), (24, .invokevirtual 142, 3), (27, .istore 4, 2), (29, .aload_n 0, 1), (30, .getfield 70, 3), (33, .getfield 280, 3), (36, .iload_n 2, 1), (37, .iconst 1, 1), (38, .iadd, 1), (39, .aload_n 0, 1), (40, .getfield 70, 3), (43, .iload_n 3, 1), (44, .iconst 1, 1), (45, .iadd, 1), (46, .invokevirtual 142, 3), (49, .iastore, 1), (50, .aload_n 0, 1), (51, .getfield 70, 3), (54, .getfield 280, 3), (57, .iload_n 3, 1), (58, .iconst 1, 1), (59, .iadd, 1), (60, .iload 4, 2), (62, .iastore, 1), (63, .iload_n 2, 1), (64, .iconst 2, 1), (65, .iadd, 1), (66, .istore_n 2, 1), (67, .iload_n 3, 1), (68, .iconst 2, 1), (69, .isub, 1), (70, .istore_n 3, 1), (71, .goto (-59), 3), (74, .return_, 1)],
  [(70, 10, 24, (.object "GameTextModel$Numbers"), true), (132, 11, 1, .int, false), (280, 11, 0, (.array .int), false)],
  [(142, 1, 139, 1)],
  [],
  [],
  [],
  [])
/-- GameTextModel.finish(LGameTextModel$Game;I)V -/
def tE_192 : tb_E := (("GameTextModel", 10, false, prog_12_method_60_code, 9, none, ⟨"GameTextModel", "finish", "(LGameTextModel$Game;I)V"⟩),
  [(0, .aload_n 1, 1), (1, .getfield 260, 3), (4, .iload_n 2, 1), (5, .invokevirtual 142, 3), (8, .istore_n 3, 1), (9, .aload_n 1, 1), (10, .getfield 263, 3), (13, .iload_n 2, 1), (14, .invokevirtual 142, 3), (17, .istore 4, 2), (19, .iconst 0, 1), (20, .istore 5, 2), (22, .aload_n 1, 1), (23, .getfield 274, 3), (26, .iload_n 2, 1), (27, .invokevirtual 142, 3), (30, .istore 6, 2), (32, .iload 6, 2), (34, .ifCond .lt 20, 3), (37, .iinc 5 1, 3), (40, .aload_n 1, 1), (41, .getfield 277, 3), (44, .iload 6, 2), (46, .invokevirtual 142, 3), (49, .istore 6, 2), (51, .goto (-19), 3), (54, .aload_n 0, 1), (55, .getfield 357, 3), (58, .iload 5, 2), (60, .isub, 1), (61, .istore 6, 2), (63, .aload_n 0, 1), (64, .iload 6, 2), (66, .putfield 357, 3), (69, .iload_n 3, 1), (70, .bipush 31, 2), (72, .if_icmp .ne 27, 3), (75, .aload_n 0, 1), (76, .aload_n 0, 1), (77, .getfield 63, 3), (80, .iload 6, 2), (82, .laload, 1), (83, .lconst 0, 1), (84, .lcmp, 1), (85, .ifCond .ne 7, 3), (88, .iconst 1, 1), (89, .goto 4, 3), (92, .iconst 0, 1), (93, .invokevirtual 384, 3), (96, .goto 304, 3), (99, .iload_n 3, 1), (100, .bipush 45, 2), (102, .if_icmp .ne 25, 3), (105, .aload_n 0, 1), (106, .aload_n 0, 1), (107, .getfield 63, 3), (110, .iload 6, 2), (112, .laload, 1), (113, .lneg, 1), (114, .aload_n 0, 1), (115, .getfield 67, 3), (118, .iload 6, 2), (120, .laload, 1), (121, .invokevirtual 360, 3), (124, .goto 276, 3), (127, .iload_n 3, 1), (128, .bipush 14, 2), (130, .if_icmp .eq 9, 3), (133, .iload_n 3, 1), (134, .bipush 15, 2), (136, .if_icmp .ne 25, 3), (139, .aload_n 0, 1), (140, .iload_n 3, 1), (141, .bipush 14, 2), (143, .if_icmp .ne 7, 3), (146, .iconst 1, 1), (147, .goto 4, 3), (150, .iconst 0, 1), (151, .iload 6, 2), (153, .iload 5, 2), (155, .invokevirtual 402, 3), (158, .goto 242, 3), (161, .iload_n 3, 1), (162, .invokestatic 248, 3), (165, .ifCond .eq 196, 3), (168, .aload_n 0, 1), (169, .getfield 67, 3), (172, .iload 6, 2), (174, .laload, 1), (175, .lconst 0, 1), (176, .lcmp, 1), (177, .ifCond .ne 23, 3), (180, .aload_n 0, 1), (181, .getfield 63, 3), (184, .iload 6, 2), (186, .laload, 1), (187, .aload_n 0, 1), (188, .getfield 63, 3), (191, .iload 6, 2), (193, .iconst 1, 1), (194, .iadd, 1), (195, .laload, 1), (196, .lsub, 1), (197, .goto 38, 3), (200, .aload_n 0, 1), (201, .getfield 63, 3), (204, .iload 6, 2), (206, .laload, 1), (207, .aload_n 0, 1), (208, .getfield 67, 3), (211, .iload 6, 2), (213, .iconst 1, 1), (214, .iadd, 1), (215, .laload, 1), (216, .lmul, 1), (217, .aload_n 0, 1), (218, .getfield 63, 3), (221, .iload 6, 2), (223, .iconst 1, 1), (224, .iadd, 1), (225, .laload, 1), (226, .aload_n 0, 1), (227, .getfield 67, 3), (230, .iload 6, 2), (232, .laload, 1), (233, .lmul, 1), (234, .lsub, 1), (235, .lstore 7, 2), (237, .aload_n 0, 1), (238, .iload_n 3, 1), (239, .bipush 23, 2), (241, .if_icmp .ne 18, 3), (244, .lload 7, 2), (246, .lconst 0, 1), (247, .lcmp, 1), (248, .ifCond .ne 7, 3), (251, .iconst 1, 1), (252, .goto 103, 3), (255, .iconst 0, 1), (256, .goto 99, 3), (259, .iload_n 3, 1), (260, .bipush 18, 2), (262, .if_icmp .ne 18, 3), (265, .lload 7, 2), (267, .lconst 0, 1), (268, .lcmp, 1), (269, .ifCond .eq 7, 3), (272, .iconst 1, 1), (273, .goto 82, 3), (276, .iconst 0, 1), (277, .goto 78, 3), (280, .iload_n 3, 1), (281, .bipush 21, 2), (283, .if_icmp .ne 18, 3), (286, .lload 7, 2), (288, .lconst 0, 1), (289, .lcmp, 1), (290, .ifCond .ge 7, 3), (293, .iconst 1, 1), (294, .goto 61, 3), (297, .iconst 0, 1), (298, .goto 57, 3), (301, .iload_n 3, 1), (302, .bipush 19, 2), (304, .if_icmp .ne 18, 3), (307, .lload 7, 2), (309, .lconst 0, 1), (310, .lcmp, 1), (311, .ifCond .gt 7, 3), (314, .iconst 1, 1), (315, .goto 40, 3), (318, .iconst 0, 1), (319, .goto 36, 3), (322, .iload_n 3, 1), (323, .bipush 22, 2), (325, .if_icmp .ne 18, 3), (328, .lload 7, 2), (330, .lconst 0, 1), (331, .lcmp, 1), (332, .ifCond .le 7, 3), (335, .iconst 1, 1), (336, .goto 19, 3), (339, .iconst 0, 1), (340, .goto 15, 3), (343, .lload 7, 2), (345, .lconst 0, 1), (346, .lcmp, 1), (347, .ifCond .lt 7, 3), (350, .iconst 1, 1), (351, .goto 4, 3), (354, .iconst 0, 1), (355, .invokevirtual 384, 3), (358, .goto 42, 3), (361, .aload_n 0, 1), (362, .iload_n 3, 1), (363, .aload_n 0, 1), (364, .getfield 63, 3), (367, .iload 6, 2), (369, .laload, 1), (370, .aload_n 0, 1), (371, .getfield 67, 3), (374, .iload 6, 2), (376, .laload, 1), (377, .aload_n 0, 1), (378, .getfield 63, 3), (381, .iload 6, 2), (383, .iconst 1, 1), (384, .iadd, 1), (385, .laload, 1), (386, .aload_n 0, 1), (387, .getfield 67, 3), (390, .iload 6, 2), (392, .iconst 1, 1), (393, .iadd, 1), (394, .laload, 1), (395, .iload 4, 2), (397, .invokevirtual 406, 3), (400, .return_, 1)],
  [(260, 12, 0, (.object "GameTextModel$Numbers"), true), (263, 12, 1, (.object "GameTextModel$Numbers"), true), (274, 12, 4, (.object "GameTextModel$Numbers"), true), (277, 12, 5, (.object "GameTextModel$Numbers"), true), (357, 10, 23, .int, false), (63, 10, 21, (.array .long), true), (67, 10, 22, (.array .long), true)],
  [(142, 1, 139, 1), (384, 1, 189, 1), (360, 1, 188, 2), (402, 1, 193, 3), (248, 0, 157, 1), (406, 1, 194, 6)],
  [],
  [],
  [],
  [])
/-- GameTextModel.best(ZII)V -/
def tE_193 : tb_E := (("GameTextModel", 10, false, prog_12_method_61_code, 8, none, ⟨"GameTextModel", "best", "(ZII)V"⟩),
  [(0, .iload_n 2, 1), (1, .istore 4, 2), (3, .iload_n 2, 1), (4, .iconst 1, 1), (5, .iadd, 1), (6, .istore 5, 2), (8, .iload 5, 2), (10, .iload_n 2, 1), (11, .iload_n 3, 1), (12, .iadd, 1), (13, .if_icmp .ge 73, 3), (16, .aload_n 0, 1), (17, .getfield 63, 3), (20, .iload 5, 2), (22, .laload, 1), (23, .aload_n 0, 1), (24, .getfield 67, 3), (27, .iload 4, 2), (29, .laload, 1), (30, .lmul, 1), (31, .aload_n 0, 1), (32, .getfield 63, 3), (35, .iload 4, 2), (37, .laload, 1), (38, .aload_n 0, 1), (39, .getfield 67, 3), (42, .iload 5, 2), (44, .laload, 1), (45, .lmul, 1), (46, .lsub, 1), (47, .lstore 6, 2), (49, .iload_n 1, 1), (50, .ifCond .eq 10, 3), (53, .lload 6, 2), (55, .lconst 0, 1), (56, .lcmp, 1), (57, .ifCond .lt 14, 3), (60, .iload_n 1, 1), (61, .ifCond .ne 15, 3), (64, .lload 6, 2), (66, .lconst 0, 1), (67, .lcmp, 1), (68, .ifCond .le 8, 3), (71, .iload 5, 2), (73, .goto 5, 3), (76, .iload 4, 2), (78, .istore 4, 2), (80, .iinc 5 1, 3), (83, .goto (-75), 3), (86, .aload_n 0, 1), (87, .aload_n 0, 1), (88, .getfield 63, 3), (91, .iload 4, 2), (93, .laload, 1), (94, .aload_n 0, 1), (95, .getfield 67, 3), (98, .iload 4, 2), (100, .laload, 1), (101, .invokevirtual 360, 3), (104, .return_, 1)],
  [(63, 10, 21, (.array .long), true), (67, 10, 22, (.array .long), true)],
  [(360, 1, 188, 2)],
  [],
  [],
  [],
  [])
/-- GameTextModel.reckon(IJJJJI)V -/
def tE_194 : tb_E := (("GameTextModel", 10, false, prog_12_method_62_code, 11, none, ⟨"GameTextModel", "reckon", "(IJJJJI)V"⟩),
  [(0, .iload_n 1, 1), (1, .tableswitch 156 24 27 #[31, 53, 75, 91], 31), (32, .aload_n 0, 1), (33, .lload_n 2, 1), (34, .lload 8, 2), (36, .lmul, 1), (37, .lload 6, 2), (39, .lload 4, 2), (41, .lmul, 1), (42, .ladd, 1), (43, .lload 4, 2), (45, .lload 8, 2), (47, .lmul, 1), (48, .iload 10, 2), (50, .invokevirtual 410, 3), (53, .return_, 1), (54, .aload_n 0, 1), (55, .lload_n 2, 1), (56, .lload 8, 2), (58, .lmul, 1), (59, .lload 6, 2), (61, .lload 4, 2), (63, .lmul, 1), (64, .lsub, 1), (65, .lload 4, 2), (67, .lload 8, 2), (69, .lmul, 1), (70, .iload 10, 2), (72, .invokevirtual 410, 3), (75, .return_, 1), (76, .aload_n 0, 1), (77, .lload_n 2, 1), (78, .lload 6, 2), (80, .lmul, 1), (81, .lload 4, 2), (83, .lload 8, 2), (85, .lmul, 1), (86, .iload 10, 2), (88, .invokevirtual 410, 3), (91, .return_, 1), (92, .lload 6, 2), (94, .lconst 0, 1), (95, .lcmp, 1), (96, .ifCond .ne 14, 3), (99, .aload_n 0, 1), (100, .bipush 7, 2), (102, .iload 10, 2), (104, .invokevirtual 338, 3), (107, .goto 49, 3), (110, .aload_n 0, 1), (111, .lload 6, 2), (113, .lconst 0, 1), (114, .lcmp, 1), (115, .ifCond .ge 11, 3), (118, .lload_n 2, 1), (119, .lneg, 1), (120, .lload 8, 2), (122, .lmul, 1), (123, .goto 7, 3), (126, .lload_n 2, 1), (127, .lload 8, 2), (129, .lmul, 1), (130, .lload 6, 2), (132, .lconst 0, 1), (133, .lcmp, 1), (134, .ifCond .ge 12, 3), (137, .lload 6, 2), (139, .lneg, 1), (140, .lload 4, 2), (142, .lmul, 1), (143, .goto 8, 3), (146, .lload 6, 2), (148, .lload 4, 2), (150, .lmul, 1), (151, .iload 10, 2), (153, .invokevirtual 410, 3), (156, .return_, 1), (157, .lload 4, 2), (159, .lconst 1, 1), (160, .lcmp, 1), (161, .ifCond .ne 10, 3), (164, .lload 8, 2), (166, .lconst 1, 1), (167, .lcmp, 1), (168, .ifCond .eq 14, 3), (171, .aload_n 0, 1), (172, .bipush 8, 2), (174, .iload 10, 2), (176, .invokevirtual 338, 3), (179, .goto 49, 3), (182, .lload 6, 2), (184, .lconst 0, 1), (185, .lcmp, 1), (186, .ifCond .gt 14, 3), (189, .aload_n 0, 1), (190, .bipush 7, 2), (192, .iload 10, 2), (194, .invokevirtual 338, 3), (197, .goto 31, 3), (200, .aload_n 0, 1), (201, .lload_n 2, 1), (202, .lload 6, 2), (204, .lrem, 1), (205, .lconst 0, 1), (206, .lcmp, 1), (207, .ifCond .ge 13, 3), (210, .lload_n 2, 1), (211, .lload 6, 2), (213, .lrem, 1), (214, .lload 6, 2), (216, .ladd, 1), (217, .goto 7, 3), (220, .lload_n 2, 1), (221, .lload 6, 2), (223, .lrem, 1), (224, .lconst 1, 1), (225, .invokevirtual 360, 3), (228, .return_, 1)],
  [],
  [(410, 1, 195, 3), (338, 1, 165, 2), (360, 1, 188, 2)],
  [],
  [],
  [],
  [])
/-- GameTextModel.pushFraction(JJI)V -/
def tE_195 : tb_E := (("GameTextModel", 10, false, prog_12_method_53_code, 12, none, ⟨"GameTextModel", "pushFraction", "(JJI)V"⟩),
  [(0, .lload_n 1, 1), (1, .lload_n 3, 1), (2, .invokestatic 364, 3), (5, .lstore 6, 2), (7, .lload_n 1, 1), (8, .lload 6, 2), (10, .ldiv, 1), (11, .lstore 8, 2), (13, .lload_n 3, 1), (14, .lload 6, 2), (16, .ldiv, 1), (17, .lstore 10, 2), (19, .lload 8, 2), (21, .ldc2_w 368, 3), (24, .lcmp, 1), (25, .ifCond .ge 21, 3), (28, .lload 8, 2), (30, .ldc2_w 370, 3), (33, .lcmp, 1), (34, .ifCond .le 12, 3), (37, .lload 10, 2), (39, .ldc2_w 368, 3), (42, .lcmp, 1), (43, .ifCond .lt 11, 3), (46, .aload_n 0, 1), (47, .bipush 6, 2), (49, .iload 5, 2), (51, .invokevirtual 338, 3), (54, .aload_n 0, 1), (55, .lload 8, 2), (57, .lload 10, 2), (59, .invokevirtual 360, 3), (62, .return_, 1)],
  [],
  [(364, 0, 196, 2), (338, 1, 165, 2), (360, 1, 188, 2)],
  [],
  [(368, .long 1000000000), (370, .long (-1000000000))],
  [],
  [])
/-- GameTextModel.divisor(JJ)J -/
def tE_196 : tb_E := (("GameTextModel", 10, false, prog_12_method_52_code, 10, (some .long), ⟨"GameTextModel", "divisor", "(JJ)J"⟩),
  [(0, .lload_n 0, 1), (1, .lconst 0, 1), (2, .lcmp, 1), (3, .ifCond .ge 8, 3), (6, .lload_n 0, 1), (7, .lneg, 1), (8, .goto 4, 3), (11, .lload_n 0, 1), (12, .lstore 4, 2), (14, .lload_n 2, 1), (15, .lstore 6, 2), (17, .lload 6, 2), (19, .lconst 0, 1), (20, .lcmp, 1), (21, .ifCond .le 21, 3), (24, .lload 4, 2), (26, .lload 6, 2), (28, .lrem, 1), (29, .lstore 8, 2), (31, .lload 6, 2), (33, .lstore 4, 2), (35, .lload 8, 2), (37, .lstore 6, 2), (39, .goto (-22), 3), (42, .lload 4, 2), (44, .lreturn, 1)],
  [],
  [],
  [],
  [],
  [],
  [])
/-- GameTextModel.choose(LGameTextModel$Game;I)V -/
def tE_197 : tb_E := (("GameTextModel", 10, false, prog_12_method_59_code, 6, none, ⟨"GameTextModel", "choose", "(LGameTextModel$Game;I)V"⟩),
  [(0, .aload_n 1, 1), (1, .getfield 260, 3), (4, .iload_n 2, 1), (5, .invokevirtual 142, 3), (8, .istore_n 3, 1), (9, .aload_n 0, 1), (10, .getfield 63, 3), (13, .aload_n 0, 1), (14, .getfield 357, 3), (17, .iconst 1, 1), (18, .isub, 1), (19, .laload, 1), (20, .lconst 1, 1), (21, .lcmp, 1), (22, .ifCond .ne 7, 3), (25, .iconst 1, 1), (26, .goto 4, 3), (29, .iconst 0, 1), (30, .istore 4, 2), (32, .aload_n 1, 1), (33, .getfield 277, 3), (36, .aload_n 1, 1), (37, .getfield 274, 3), (40, .iload_n 2, 1), (41, .invokevirtual 142, 3), (44, .invokevirtual 142, 3), (47, .istore 5, 2), (49, .iload_n 3, 1), (50, .bipush 32, 2), (52, .if_icmp .ne 40, 3), (55, .aload_n 0, 1), (56, .aload_n 0, 1), (57, .getfield 357, 3), (60, .iconst 1, 1), (61, .isub, 1), (62, .putfield 357, 3), (65, .aload_n 0, 1), (66, .iconst 0, 1), (67, .iload 4, 2), (69, .ifCond .eq 8, 3), (72, .iload 5, 2), (74, .goto 12, 3), (77, .aload_n 1, 1), (78, .getfield 277, 3), (81, .iload 5, 2), (83, .invokevirtual 142, 3), (86, .invokevirtual 372, 3), (89, .goto 36, 3), (92, .iload 4, 2), (94, .iload_n 3, 1), (95, .bipush 29, 2), (97, .if_icmp .ne 7, 3), (100, .iconst 1, 1), (101, .goto 4, 3), (104, .iconst 0, 1), (105, .if_icmp .ne 20, 3), (108, .aload_n 0, 1), (109, .aload_n 0, 1), (110, .getfield 357, 3), (113, .iconst 1, 1), (114, .isub, 1), (115, .putfield 357, 3), (118, .aload_n 0, 1), (119, .iconst 0, 1), (120, .iload 5, 2), (122, .invokevirtual 372, 3), (125, .return_, 1)],
  [(260, 12, 0, (.object "GameTextModel$Numbers"), true), (63, 10, 21, (.array .long), true), (357, 10, 23, .int, false), (277, 12, 5, (.object "GameTextModel$Numbers"), true), (274, 12, 4, (.object "GameTextModel$Numbers"), true)],
  [(142, 1, 139, 1), (372, 1, 186, 2)],
  [],
  [],
  [],
  [])
/-- GameTextModel.know(III)V -/
def tE_198 : tb_E := (("GameTextModel", 10, false, prog_12_method_43_code, 4, none, ⟨"GameTextModel", "know", "(III)V"⟩),
  [(0, .aload_n 0, 1), (1, .getfield 45, 3), (4, .iload_n 1, 1), (5, .invokevirtual 139, 3), (8, .aload_n 0, 1), (9, .getfield 48, 3), (12, .iload_n 2, 1), (13, .invokevirtual 139, 3), (16, .aload_n 0, 1), (17, .getfield 51, 3), (20, .iload_n 3, 1), (21, .invokevirtual 139, 3), (24, .return_, 1)],
  [(45, 10, 13, (.object "GameTextModel$Numbers"), true), (48, 10, 14, (.object "GameTextModel$Numbers"), true), (51, 10, 15, (.object "GameTextModel$Numbers"), true)],
  [(139, 1, 133, 1)],
  [],
  [],
  [],
  [])
/-- GameTextModel.varItem(II)V -/
def tE_199 : tb_E := (("GameTextModel", 10, false, prog_12_method_67_code, 12, none, ⟨"GameTextModel", "varItem", "(II)V"⟩),
  [(0, .aload_n 0, 1), (1, .getfield 38, 3), (4, .getfield 443, 3), (7, .bipush 12, 2), (9, .if_icmp .ne 14, 3), (12, .aload_n 0, 1), (13, .iconst 5, 1), (14, .aload_n 0, 1), (15, .iload_n 1, 1), (16, .invokevirtual 266, 3), (19, .invokevirtual 338, 3), (22, .return_, 1), (23, .aload_n 0, 1), (24, .iload_n 1, 1), (25, .iconst 1, 1), (26, .iadd, 1), (27, .invokevirtual 341, 3), (30, .ifCond .lt 16, 3), (33, .aload_n 0, 1), (34, .iconst 2, 1), (35, .aload_n 0, 1), (36, .iload_n 1, 1), (37, .iconst 1, 1), (38, .iadd, 1), (39, .invokevirtual 266, 3), (42, .invokevirtual 338, 3), (45, .return_, 1), (46, .aload_n 0, 1), (47, .getfield 38, 3), (50, .getfield 443, 3), (53, .istore_n 3, 1), (54, .aload_n 0, 1), (55, .iload_n 1, 1), (56, .iconst 3, 1), (57, .iadd, 1), (58, .invokevirtual 289, 3), (61, .iconst 5, 1), (62, .if_icmp .ne 7, 3), (65, .iconst 1, 1), (66, .goto 4, 3), (69, .iconst 0, 1), (70, .istore 4, 2), (72, .iload 4, 2), (74, .ifCond .eq 9, 3), (77, .iload_n 1, 1), (78, .iconst 4, 1), (79, .iadd, 1), (80, .goto 11, 3), (83, .aload_n 0, 1), (84, .iload_n 1, 1), (85, .iconst 3, 1), (86, .iadd, 1), (87, .iload_n 2, 1), (88, .invokevirtual 445, 3), (91, .istore 5, 2), (93, .aload_n 0, 1), (94, .iload 5, 2), (96, .invokevirtual 289, 3), (99, .bipush 9, 2), (101, .if_icmp .ne 7, 3), (104, .iconst 1, 1), (105, .goto 4, 3), (108, .iconst 0, 1), (109, .istore 6, 2), (111, .aload_n 0, 1), (112, .getfield 38, 3), (115, .getfield 344, 3), (118, .iload_n 3, 1), (119, .iload 4, 2), (121, .bastore, 1), (122, .iconst (-1), 1), (123, .istore 7, 2), (125, .iconst (-1), 1), (126, .istore 8, 2), (128, .iload_n 1, 1), (129, .iconst 3, 1), (130, .iadd, 1), (131, .istore 9, 2), (133, .iload 4, 2), (135, .ifCond .ne 52, 3), (138, .aload_n 0, 1), (139, .iload_n 1, 1), (140, .iconst 3, 1), (141, .iadd, 1), (142, .bipush 16, 2), (144, .invokevirtual 417, 3), (147, .istore 9, 2), (149, .aload_n 0, 1), (150, .iload_n 1, 1), (151, .iconst 3, 1), (152, .iadd, 1), (153, .iload 9, 2), (155, .iconst 0, 1), (156, .iconst 1, 1), (157, .invokevirtual 428, 3), (160, .istore 7, 2), (162, .aload_n 0, 1), (163, .getfield 254, 3), (166, .ifCond .ne 18, 3), (169, .aload_n 0, 1), (170, .iload 9, 2), (172, .iconst 1, 1), (173, .iadd, 1), (174, .iload 5, 2), (176, .iconst 0, 1), (177, .iconst 1, 1), (178, .invokevirtual 428, 3), (181, .goto 4, 3), (184, .iconst (-1), 1), (185, .istore 8, 2), (187, .iload 6, 2), (189, .ifCond .eq 25, 3), (192, .aload_n 0, 1), (193, .getfield 254, 3), (196, .ifCond .ne 18, 3), (199, .aload_n 0, 1), (200, .iload 5, 2), (202, .iconst 1, 1), (203, .iadd, 1), (204, .iload_n 2, 1), (205, .iload 4, 2), (207, .iconst 1, 1), (208, .invokevirtual 428, 3), (211, .goto 4, 3), (214, .iconst (-1), 1), (215, .istore 10, 2), (217, .aload_n 0, 1), (218, .getfield 254, 3), (221, .ifCond .eq 4, 3), (224, .return_, 1), (225, .iload 4, 2), (227, .ifCond .eq 26, 3), (230, .aload_n 0, 1), (231, .getfield 38, 3), (234, .getfield 448, 3), (237, .iload_n 3, 1), (238, .iconst 0, 1), (239, .iastore, 1), (240, .aload_n 0, 1), (241, .getfield 38, 3), (244, .getfield 450, 3), (247, .iload_n 3, 1), (248, .iconst 1, 1), (249, .iastore, 1), (250, .goto 119, 3), (253, .aload_n 0, 1), (254, .getfield 38, 3), (257, .getfield 448, 3), (260, .iload_n 3, 1), (261, .aload_n 0, 1), (262, .iload 7, 2), (264, .iload_n 1, 1), (265, .iconst 3, 1), (266, .iadd, 1), (267, .invokevirtual 453, 3), (270, .iastore, 1), (271, .aload_n 0, 1), (272, .getfield 38, 3), (275, .getfield 450, 3), (278, .iload_n 3, 1), (279, .aload_n 0, 1), (280, .iload 8, 2), (282, .iload 9, 2), (284, .iconst 1, 1), (285, .iadd, 1), (286, .invokevirtual 453, 3), (289, .iastore, 1), (290, .aload_n 0, 1), (291, .getfield 38, 3), (294, .getfield 448, 3), (297, .iload_n 3, 1), (298, .iaload, 1), (299, .aload_n 0, 1), (300, .getfield 38, 3), (303, .getfield 450, 3), (306, .iload_n 3, 1), (307, .iaload, 1), (308, .if_icmp .gt 32, 3), (311, .aload_n 0, 1), (312, .getfield 38, 3), (315, .getfield 450, 3), (318, .iload_n 3, 1), (319, .iaload, 1), (320, .aload_n 0, 1), (321, .getfield 38, 3), (324, .getfield 448, 3), (327, .iload_n 3, 1), (328, .iaload, 1), (329, .isub, 1), (330, .sipush 10000, 3), (333, .if_icmp .ge 7, 3), (336, .iconst 1, 1), (337, .goto 4, 3), (340, .iconst 0, 1), (341, .istore 11, 2), (343, .aload_n 0, 1), (344, .getfield 254, 3), (347, .ifCond .ne 22, 3), (350, .iload 11, 2), (352, .ifCond .ne 17, 3), (355, .aload_n 0, 1), (356, .bipush 9, 2), (358, .aload_n 0, 1), (359, .iload 9, 2), (361, .iconst 1, 1), (362, .iadd, 1), (363, .invokevirtual 266, 3), (366, .invokevirtual 338, 3), (369, .aload_n 0, 1), (370, .getfield 38, 3), (373, .getfield 456, 3), (376, .iload_n 3, 1), (377, .aload_n 0, 1), (378, .getfield 38, 3), (381, .getfield 448, 3), (384, .iload_n 3, 1), (385, .iaload, 1), (386, .iastore, 1), (387, .iload 6, 2), (389, .ifCond .eq 21, 3), (392, .aload_n 0, 1), (393, .getfield 254, 3), (396, .ifCond .ne 14, 3), (399, .aload_n 0, 1), (400, .iload_n 3, 1), (401, .iload 10, 2), (403, .iload 5, 2), (405, .iconst 1, 1), (406, .iadd, 1), (407, .invokevirtual 458, 3), (410, .aload_n 0, 1), (411, .getfield 38, 3), (414, .iload_n 3, 1), (415, .iconst 1, 1), (416, .iadd, 1), (417, .putfield 443, 3), (420, .aload_n 0, 1), (421, .iload_n 1, 1), (422, .iconst 1, 1), (423, .iadd, 1), (424, .iconst 3, 1), (425, .iload_n 3, 1), (426, .invokevirtual 440, 3), (429, .return_, 1)],
  [(38, 10, 10, (.object "GameTextModel$Game"), false), (443, 12, 12, .int, false), (344, 12, 13, (.array .boolean), true), (254, 10, 16, .int, false), (448, 12, 14, (.array .int), true), (450, 12, 15, (.array .int), true), (456, 12, 16, (.array .int), true)],
  [(266, 1, 159, 1), (338, 1, 165, 2), (341, 1, 166, 1), (289, 1, 162, 1), (445, 1, 200, 2), (417, 1, 163, 2), (428, 1, 201, 4), (453, 1, 202, 2), (458, 1, 203, 3), (440, 1, 198, 3)],
  [],
  [],
  [],
  [])
/-- GameTextModel.initOf(II)I -/
def tE_200 : tb_E := (("GameTextModel", 10, false, prog_12_method_68_code, 4, (some .int), ⟨"GameTextModel", "initOf", "(II)I"⟩),
  [(0, .iload_n 1, 1), (1, .istore_n 3, 1), (2, .iload_n 3, 1), (3, .iload_n 2, 1), (4, .if_icmp .ge 19, 3), (7, .aload_n 0, 1), (8, .iload_n 3, 1), (9, .invokevirtual 289, 3), (12, .bipush 9, 2), (14, .if_icmp .eq 9, 3), (17, .iinc 3 1, 3), (20, .goto (-18), 3), (23, .iload_n 3, 1), (24, .ireturn, 1)],
  [],
  [(289, 1, 162, 1)],
  [],
  [],
  [],
  [])
/-- GameTextModel.rule(IIZZ)I -/
def tE_201 : tb_E := (("GameTextModel", 10, false, prog_12_method_49_code, 7, (some .int), ⟨"GameTextModel", "rule", "(IIZZ)I"⟩),
  [(0, .aload_n 0, 1), (1, .iload_n 1, 1), (2, .iload_n 2, 1), (3, .invokevirtual 350, 3), (6, .istore 5, 2), (8, .aload_n 0, 1), (9, .iload 5, 2), (11, .iload 4, 2), (13, .invokevirtual 353, 3), (16, .istore 6, 2), (18, .aload_n 0, 1), (19, .getfield 254, 3), (22, .ifCond .ne 19, 3), (25, .iload 6, 2), (27, .iload_n 3, 1), (28, .if_icmp .eq 13, 3), (31, .aload_n 0, 1), (32, .iconst 3, 1), (33, .aload_n 0, 1), (34, .iload_n 1, 1), (35, .invokevirtual 266, 3), (38, .invokevirtual 338, 3), (41, .iload 5, 2), (43, .ireturn, 1)],
  [(254, 10, 16, .int, false)],
  [(350, 1, 168, 2), (353, 1, 179, 2), (266, 1, 159, 1), (338, 1, 165, 2)],
  [],
  [],
  [],
  [])
/-- GameTextModel.wholeOf(II)I -/
def tE_202 : tb_E := (("GameTextModel", 10, false, prog_12_method_69_code, 3, (some .int), ⟨"GameTextModel", "wholeOf", "(II)I"⟩),
  [(0, .aload_n 0, 1), (1, .getfield 254, 3), (4, .ifCond .eq 5, 3), (7, .iconst 0, 1), (8, .ireturn, 1), (9, .aload_n 0, 1), (10, .aload_n 0, 1), (11, .getfield 38, 3), (14, .iload_n 1, 1), (15, .invokevirtual 437, 3), (18, .aload_n 0, 1), (19, .getfield 254, 3), (22, .ifCond .ne 25, 3), (25, .aload_n 0, 1), (26, .getfield 67, 3), (29, .iconst 0, 1), (30, .laload, 1), (31, .lconst 1, 1), (32, .lcmp, 1), (33, .ifCond .eq 14, 3), (36, .aload_n 0, 1), (37, .bipush 8, 2), (39, .aload_n 0, 1), (40, .iload_n 2, 1), (41, .invokevirtual 266, 3), (44, .invokevirtual 338, 3), (47, .aload_n 0, 1), (48, .getfield 63, 3), (51, .iconst 0, 1), (52, .laload, 1), (53, .l2i, 1), (54, .ireturn, 1)],
  [(254, 10, 16, .int, false), (38, 10, 10, (.object "GameTextModel$Game"), false), (67, 10, 22, (.array .long), true), (63, 10, 21, (.array .long), true)],
  [(437, 1, 185, 2), (266, 1, 159, 1), (338, 1, 165, 2)],
  [],
  [],
  [],
  [])
/-- GameTextModel.begins(III)V -/
def tE_203 : tb_E := (("GameTextModel", 10, false, prog_12_method_70_code, 5, none, ⟨"GameTextModel", "begins", "(III)V"⟩),
  [(0, .aload_n 0, 1), (1, .getfield 38, 3), (4, .getfield 344, 3), (7, .iload_n 1, 1), (8, .baload, 1), (9, .ifCond .eq 29, 3), (12, .aload_n 0, 1), (13, .aload_n 0, 1), (14, .getfield 38, 3), (17, .iload_n 2, 1), (18, .invokevirtual 437, 3), (21, .aload_n 0, 1), (22, .getfield 38, 3), (25, .getfield 456, 3), (28, .iload_n 1, 1), (29, .aload_n 0, 1), (30, .getfield 63, 3), (33, .iconst 0, 1), (34, .laload, 1), (35, .l2i, 1), (36, .iastore, 1), (37, .return_, 1), (38, .aload_n 0, 1), (39, .iload_n 2, 1), (40, .iload_n 3, 1), (41, .invokevirtual 453, 3), (44, .istore 4, 2), (46, .aload_n 0, 1), (47, .getfield 254, 3), (50, .ifCond .ne 42, 3), (53, .iload 4, 2), (55, .aload_n 0, 1), (56, .getfield 38, 3), (59, .getfield 448, 3), (62, .iload_n 1, 1), (63, .iaload, 1), (64, .if_icmp .lt 17, 3), (67, .iload 4, 2), (69, .aload_n 0, 1), (70, .getfield 38, 3), (73, .getfield 450, 3), (76, .iload_n 1, 1), (77, .iaload, 1), (78, .if_icmp .le 14, 3), (81, .aload_n 0, 1), (82, .bipush 9, 2), (84, .aload_n 0, 1), (85, .iload_n 3, 1), (86, .invokevirtual 266, 3), (89, .invokevirtual 338, 3), (92, .aload_n 0, 1), (93, .getfield 38, 3), (96, .getfield 456, 3), (99, .iload_n 1, 1), (100, .iload 4, 2), (102, .iastore, 1), (103, .return_, 1)],
  [(38, 10, 10, (.object "GameTextModel$Game"), false), (344, 12, 13, (.array .boolean), true), (456, 12, 16, (.array .int), true), (63, 10, 21, (.array .long), true), (254, 10, 16, .int, false), (448, 12, 14, (.array .int), true), (450, 12, 15, (.array .int), true)],
  [(437, 1, 185, 2), (453, 1, 202, 2), (266, 1, 159, 1), (338, 1, 165, 2)],
  [],
  [],
  [],
  [])
/-- GameTextModel.commandItem(II)V -/
def tE_204 : tb_E := (("GameTextModel", 10, false, prog_12_method_71_code, 6, none, ⟨"GameTextModel", "commandItem", "(II)V"⟩),
  [(0, .aload_n 0, 1), (1, .getfield 38, 3), (4, .getfield 461, 3), (7, .bipush 60, 2), (9, .if_icmp .ne 14, 3), (12, .aload_n 0, 1), (13, .iconst 5, 1), (14, .aload_n 0, 1), (15, .iload_n 1, 1), (16, .invokevirtual 266, 3), (19, .invokevirtual 338, 3), (22, .return_, 1), (23, .aload_n 0, 1), (24, .getfield 38, 3), (27, .getfield 461, 3), (30, .istore_n 3, 1), (31, .aload_n 0, 1), (32, .iload_n 1, 1), (33, .iconst 1, 1), (34, .iadd, 1), (35, .bipush 17, 2), (37, .invokevirtual 417, 3), (40, .istore 4, 2), (42, .aload_n 0, 1), (43, .getfield 38, 3), (46, .getfield 464, 3), (49, .iload_n 3, 1), (50, .aload_n 0, 1), (51, .iload_n 1, 1), (52, .invokevirtual 289, 3), (55, .bipush 8, 2), (57, .if_icmp .ne 7, 3), (60, .iconst 1, 1), (61, .goto 4, 3), (64, .iconst 0, 1), (65, .bastore, 1), (66, .aload_n 0, 1), (67, .getfield 38, 3), (70, .getfield 467, 3), (73, .iload_n 3, 1), (74, .aload_n 0, 1), (75, .iload_n 1, 1), (76, .invokevirtual 266, 3), (79, .iastore, 1), (80, .aload_n 0, 1), (81, .getfield 38, 3), (84, .getfield 470, 3), (87, .iload_n 3, 1), (88, .aload_n 0, 1), (89, .iload_n 1, 1), (90, .iconst 1, 1), (91, .iadd, 1), (92, .iload 4, 2), (94, .iconst 1, 1), (95, .iconst 0, 1), (96, .invokevirtual 428, 3), (99, .iastore, 1), (100, .aload_n 0, 1), (101, .getfield 38, 3), (104, .getfield 473, 3), (107, .iload_n 3, 1), (108, .iconst 0, 1), (109, .iastore, 1), (110, .iload 4, 2), (112, .iconst 1, 1), (113, .iadd, 1), (114, .istore 5, 2), (116, .aload_n 0, 1), (117, .getfield 254, 3), (120, .ifCond .ne 24, 3), (123, .iload 5, 2), (125, .iload_n 2, 1), (126, .if_icmp .ge 18, 3), (129, .aload_n 0, 1), (130, .iload_n 3, 1), (131, .iload 5, 2), (133, .iload_n 2, 1), (134, .invokevirtual 476, 3), (137, .iconst 1, 1), (138, .iadd, 1), (139, .istore 5, 2), (141, .goto (-25), 3), (144, .aload_n 0, 1), (145, .getfield 38, 3), (148, .iload_n 3, 1), (149, .iconst 1, 1), (150, .iadd, 1), (151, .putfield 461, 3), (154, .return_, 1)],
  [(38, 10, 10, (.object "GameTextModel$Game"), false), (461, 12, 18, .int, false), (464, 12, 19, (.array .boolean), true), (467, 12, 20, (.array .int), true), (470, 12, 21, (.array .int), true), (473, 12, 22, (.array .int), true), (254, 10, 16, .int, false)],
  [(266, 1, 159, 1), (338, 1, 165, 2), (417, 1, 163, 2), (289, 1, 162, 1), (428, 1, 201, 4), (476, 1, 205, 3)],
  [],
  [],
  [],
  [])
/-- GameTextModel.branch(III)I -/
def tE_205 : tb_E := (("GameTextModel", 10, false, prog_12_method_72_code, 9, (some .int), ⟨"GameTextModel", "branch", "(III)I"⟩),
  [(0, .aload_n 0, 1), (1, .getfield 38, 3), (4, .getfield 473, 3), (7, .iload_n 1, 1), (8, .iaload, 1), (9, .istore 4, 2), (11, .iload 4, 2), (13, .bipush 8, 2), (15, .if_icmp .ne 15, 3), (18, .aload_n 0, 1), (19, .iconst 5, 1), (20, .aload_n 0, 1), (21, .iload_n 2, 1), (22, .invokevirtual 266, 3), (25, .invokevirtual 338, 3), (28, .iload_n 3, 1), (29, .ireturn, 1), (30, .aload_n 0, 1), (31, .iload_n 2, 1), (32, .bipush 33, 2), (34, .invokevirtual 417, 3), (37, .istore 5, 2), (39, .bipush 8, 2), (41, .iload_n 1, 1), (42, .imul, 1), (43, .iload 4, 2), (45, .iadd, 1), (46, .istore 6, 2), (48, .aload_n 0, 1), (49, .getfield 38, 3), (52, .getfield 479, 3), (55, .iload 6, 2), (57, .aload_n 0, 1), (58, .iload_n 2, 1), (59, .iload 5, 2), (61, .iconst 0, 1), (62, .iconst 0, 1), (63, .invokevirtual 428, 3), (66, .iastore, 1), (67, .aload_n 0, 1), (68, .getfield 38, 3), (71, .getfield 482, 3), (74, .iload 6, 2), (76, .aload_n 0, 1), (77, .iload_n 2, 1), (78, .invokevirtual 266, 3), (81, .iastore, 1), (82, .aload_n 0, 1), (83, .getfield 38, 3), (86, .getfield 485, 3), (89, .iload 6, 2), (91, .aload_n 0, 1), (92, .getfield 38, 3), (95, .getfield 488, 3), (98, .getfield 132, 3), (101, .iastore, 1), (102, .iload 5, 2), (104, .iconst 1, 1), (105, .iadd, 1), (106, .istore 7, 2), (108, .aload_n 0, 1), (109, .iload 7, 2), (111, .invokevirtual 289, 3), (114, .bipush 10, 2), (116, .if_icmp .ne 9, 3), (119, .iinc 7 1, 3), (122, .goto 73, 3), (125, .iconst 1, 1), (126, .istore 8, 2), (128, .iload 8, 2), (130, .ifCond .eq 65, 3), (133, .aload_n 0, 1), (134, .getfield 254, 3), (137, .ifCond .ne 58, 3), (140, .aload_n 0, 1), (141, .iload 7, 2), (143, .aload_n 0, 1), (144, .getfield 38, 3), (147, .getfield 485, 3), (150, .iload 6, 2), (152, .iaload, 1), (153, .invokevirtual 491, 3), (156, .istore 7, 2), (158, .aload_n 0, 1), (159, .iload 7, 2), (161, .invokevirtual 289, 3), (164, .bipush 29, 2), (166, .if_icmp .ne 7, 3), (169, .iconst 1, 1), (170, .goto 4, 3), (173, .iconst 0, 1), (174, .istore 8, 2), (176, .iload 8, 2), (178, .ifCond .eq 10, 3), (181, .iload 7, 2), (183, .iconst 1, 1), (184, .iadd, 1), (185, .goto 5, 3), (188, .iload 7, 2), (190, .istore 7, 2), (192, .goto (-64), 3), (195, .aload_n 0, 1), (196, .getfield 38, 3), (199, .getfield 494, 3), (202, .iload 6, 2), (204, .aload_n 0, 1), (205, .getfield 38, 3), (208, .getfield 488, 3), (211, .getfield 132, 3), (214, .aload_n 0, 1), (215, .getfield 38, 3), (218, .getfield 485, 3), (221, .iload 6, 2), (223, .iaload, 1), (224, .isub, 1), (225, .iastore, 1), (226, .aload_n 0, 1), (227, .getfield 38, 3), (230, .getfield 473, 3), (233, .iload_n 1, 1), (234, .iload 4, 2), (236, .iconst 1, 1), (237, .iadd, 1), (238, .iastore, 1), (239, .iload 7, 2), (241, .ireturn, 1)],
  [(38, 10, 10, (.object "GameTextModel$Game"), false), (473, 12, 22, (.array .int), true), (479, 12, 23, (.array .int), true), (482, 12, 24, (.array .int), true), (485, 12, 25, (.array .int), true), (488, 12, 27, (.object "GameTextModel$Numbers"), true), (132, 11, 1, .int, false), (254, 10, 16, .int, false), (494, 12, 26, (.array .int), true)],
  [(266, 1, 159, 1), (338, 1, 165, 2), (417, 1, 163, 2), (428, 1, 201, 4), (289, 1, 162, 1), (491, 1, 206, 2)],
  [],
  [],
  [],
  [])
/-- GameTextModel.setItem(II)I -/
def tE_206 : tb_E := (("GameTextModel", 10, false, prog_12_method_73_code, 7, (some .int), ⟨"GameTextModel", "setItem", "(II)I"⟩),
  [(0, .aload_n 0, 1), (1, .iload_n 1, 1), (2, .invokevirtual 497, 3), (5, .istore_n 3, 1), (6, .aload_n 0, 1), (7, .iload_n 1, 1), (8, .iconst 1, 1), (9, .iadd, 1), (10, .invokevirtual 341, 3), (13, .istore 4, 2), (15, .iload 4, 2), (17, .ifCond .lt 16, 3), (20, .aload_n 0, 1), (21, .getfield 48, 3), (24, .iload 4, 2), (26, .invokevirtual 142, 3), (29, .iconst 3, 1), (30, .if_icmp .eq 17, 3), (33, .aload_n 0, 1), (34, .iconst 2, 1), (35, .aload_n 0, 1), (36, .iload_n 1, 1), (37, .iconst 1, 1), (38, .iadd, 1), (39, .invokevirtual 266, 3), (42, .invokevirtual 338, 3), (45, .iload_n 3, 1), (46, .ireturn, 1), (47, .aload_n 0, 1), (48, .getfield 51, 3), (51, .iload 4, 2), (53, .invokevirtual 142, 3), (56, .istore 5, 2), (58, .iload_n 2, 1), (59, .istore 6, 2), (61, .iload 6, 2), (63, .aload_n 0, 1), (64, .getfield 38, 3), (67, .getfield 488, 3), (70, .getfield 132, 3), (73, .if_icmp .ge 40, 3), (76, .aload_n 0, 1), (77, .getfield 38, 3), (80, .getfield 488, 3), (83, .iload 6, 2), (85, .invokevirtual 142, 3), (88, .iload 5, 2), (90, .if_icmp .ne 17, 3), (93, .aload_n 0, 1), (94, .iconst 4, 1), (95, .aload_n 0, 1), (96, .iload_n 1, 1), (97, .iconst 1, 1), (98, .iadd, 1), (99, .invokevirtual 266, 3), (102, .invokevirtual 338, 3), (105, .iload_n 3, 1), (106, .ireturn, 1), (107, .iinc 6 1, 3), (110, .goto (-49), 3), (113, .aload_n 0, 1), (114, .iload_n 1, 1), (115, .iconst 4, 1), (116, .iadd, 1), (117, .iload_n 3, 1), (118, .aload_n 0, 1), (119, .getfield 38, 3), (122, .getfield 344, 3), (125, .iload 5, 2), (127, .baload, 1), (128, .iconst 0, 1), (129, .invokevirtual 428, 3), (132, .istore 6, 2), (134, .aload_n 0, 1), (135, .getfield 38, 3), (138, .getfield 488, 3), (141, .iload 5, 2), (143, .invokevirtual 139, 3), (146, .aload_n 0, 1), (147, .getfield 38, 3), (150, .getfield 500, 3), (153, .aload_n 0, 1), (154, .iload_n 1, 1), (155, .invokevirtual 266, 3), (158, .invokevirtual 139, 3), (161, .aload_n 0, 1), (162, .getfield 38, 3), (165, .getfield 503, 3), (168, .iload 6, 2), (170, .invokevirtual 139, 3), (173, .iload_n 3, 1), (174, .iconst 1, 1), (175, .iadd, 1), (176, .ireturn, 1)],
  [(48, 10, 14, (.object "GameTextModel$Numbers"), true), (51, 10, 15, (.object "GameTextModel$Numbers"), true), (38, 10, 10, (.object "GameTextModel$Game"), false), (488, 12, 27, (.object "GameTextModel$Numbers"), true), (132, 11, 1, .int, false), (344, 12, 13, (.array .boolean), true), (500, 12, 28, (.object "GameTextModel$Numbers"), true), (503, 12, 29, (.object "GameTextModel$Numbers"), true)],
  [(497, 1, 207, 1), (341, 1, 166, 1), (142, 1, 139, 1), (266, 1, 159, 1), (338, 1, 165, 2), (428, 1, 201, 4), (139, 1, 133, 1)],
  [],
  [],
  [],
  [])
/-- GameTextModel.closeOf(I)I -/
def tE_207 : tb_E := (("GameTextModel", 10, false, prog_12_method_64_code, 4, (some .int), ⟨"GameTextModel", "closeOf", "(I)I"⟩),
  [(0, .iconst 0, 1), (1, .istore_n 2, 1), (2, .iload_n 1, 1), (3, .istore_n 3, 1), (4, .aload_n 0, 1), (5, .iload_n 3, 1), (6, .invokevirtual 289, 3), (9, .bipush 36, 2), (11, .if_icmp .ne 9, 3), (14, .iload_n 2, 1), (15, .iconst 1, 1), (16, .iadd, 1), (17, .goto 20, 3), (20, .aload_n 0, 1), (21, .iload_n 3, 1), (22, .invokevirtual 289, 3), (25, .bipush 37, 2), (27, .if_icmp .ne 9, 3), (30, .iload_n 2, 1), (31, .iconst 1, 1), (32, .isub, 1), (33, .goto 4, 3), (36, .iload_n 2, 1), (37, .istore_n 2, 1), (38, .iinc 3 1, 3), (41, .iload_n 2, 1), (42, .ifCond .gt (-38), 3), (45, .iload_n 3, 1), (46, .iconst 1, 1), (47, .isub, 1), (48, .ireturn, 1)],
  [],
  [(289, 1, 162, 1)],
  [],
  [],
  [],
  [])
/-- GameTextModel.place()I -/
def tE_208 : tb_E := (("GameTextModel", 10, false, prog_12_method_75_code, 1, (some .int), ⟨"GameTextModel", "place", "()I"⟩),
  [(0, .aload_n 0, 1), (1, .iconst 0, 1), (2, .putfield 129, 3), (5, .aload_n 0, 1), (6, .getfield 41, 3), (9, .ireturn, 1)],
  [(129, 10, 0, .int, false), (41, 10, 12, .int, false)],
  [],
  [],
  [],
  [],
  [])
/-- GameTextModel.items(I)I -/
def tE_209 : tb_E := (("GameTextModel", 10, false, prog_12_method_76_code, 2, (some .int), ⟨"GameTextModel", "items", "(I)I"⟩),
  [(0, .aload_n 0, 1), (1, .iconst 0, 1), (2, .putfield 129, 3), (5, .aload_n 0, 1), (6, .getfield 515, 3), (9, .ifCond .ne 7, 3), (12, .iconst (-1), 1), (13, .goto 48, 3), (16, .iload_n 1, 1), (17, .ifCond .ne 13, 3), (20, .aload_n 0, 1), (21, .getfield 34, 3), (24, .getfield 443, 3), (27, .goto 34, 3), (30, .iload_n 1, 1), (31, .iconst 1, 1), (32, .if_icmp .ne 13, 3), (35, .aload_n 0, 1), (36, .getfield 34, 3), (39, .getfield 434, 3), (42, .goto 19, 3), (45, .iload_n 1, 1), (46, .iconst 2, 1), (47, .if_icmp .ne 13, 3), (50, .aload_n 0, 1), (51, .getfield 34, 3), (54, .getfield 461, 3), (57, .goto 4, 3), (60, .iconst (-1), 1), (61, .ireturn, 1)],
  [(129, 10, 0, .int, false), (515, 10, 11, .boolean, false), (34, 10, 9, (.object "GameTextModel$Game"), false), (443, 12, 12, .int, false), (434, 12, 6, .int, false), (461, 12, 18, .int, false)],
  [],
  [],
  [],
  [],
  [])
/-- GameTextModel.explore()I -/
def tE_210 : tb_E := (("GameTextModel", 10, false, prog_12_method_79_code, 2, (some .int), ⟨"GameTextModel", "explore", "()I"⟩),
  [(0, .aload_n 0, 1), (1, .aload_n 0, 1), (2, .getfield 515, 3), (5, .ifCond .eq 7, 3), (8, .iconst 0, 1), (9, .goto 4, 3), (12, .iconst 1, 1), (13, .putfield 129, 3), (16, .aload_n 0, 1), (17, .getfield 129, 3), (20, .ifCond .le 5, 3), (23, .iconst 0, 1), (24, .ireturn, 1), (25, .aload_n 0, 1), (26, .iconst 1, 1), (27, .putfield 519, 3), (30, .aload_n 0, 1), (31, .iconst 0, 1), (32, .putfield 522, 3), (35, .aload_n 0, 1), (36, .getfield 102, 3), (39, .iconst 0, 1), (40, .putfield 132, 3), (43, .aload_n 0, 1), (44, .getfield 105, 3), (47, .iconst 0, 1), (48, .putfield 132, 3), (51, .aload_n 0, 1), (52, .getfield 108, 3), (55, .iconst 0, 1), (56, .putfield 132, 3), (59, .aload_n 0, 1), (60, .iconst 0, 1), (61, .putfield 254, 3), (64, .iconst 0, 1), (65, .istore_n 1, 1), (66, .iload_n 1, 1), (67, .aload_n 0, 1), (68, .getfield 34, 3), (71, .getfield 443, 3), (74, .if_icmp .ge 24, 3), (77, .aload_n 0, 1), (78, .getfield 90, 3), (81, .iload_n 1, 1), (82, .aload_n 0, 1), (83, .getfield 34, 3), (86, .getfield 456, 3), (89, .iload_n 1, 1), (90, .iaload, 1), (91, .iastore, 1), (92, .iinc 1 1, 3), (95, .goto (-29), 3), (98, .iconst 0, 1), (99, .istore_n 1, 1), (100, .iload_n 1, 1), (101, .aload_n 0, 1), (102, .getfield 519, 3), (105, .if_icmp .ge 21, 3), (108, .aload_n 0, 1), (109, .getfield 254, 3), (112, .ifCond .ne 14, 3), (115, .aload_n 0, 1), (116, .iload_n 1, 1), (117, .invokevirtual 525, 3), (120, .iinc 1 1, 3), (123, .goto (-23), 3), (126, .aload_n 0, 1), (127, .aload_n 0, 1), (128, .getfield 254, 3), (131, .ifCond .ne 7, 3), (134, .iconst (-1), 1), (135, .goto 6, 3), (138, .iload_n 1, 1), (139, .iconst 1, 1), (140, .isub, 1), (141, .putfield 87, 3), (144, .aload_n 0, 1), (145, .aload_n 0, 1), (146, .getfield 254, 3), (149, .ifCond .ne 7, 3), (152, .iconst (-1), 1), (153, .goto 7, 3), (156, .aload_n 0, 1), (157, .getfield 257, 3), (160, .putfield 41, 3), (163, .aload_n 0, 1), (164, .aload_n 0, 1), (165, .getfield 254, 3), (168, .ifCond .ne 10, 3), (171, .aload_n 0, 1), (172, .getfield 519, 3), (175, .goto 4, 3), (178, .iconst 0, 1), (179, .putfield 519, 3), (182, .aload_n 0, 1), (183, .getfield 254, 3), (186, .ireturn, 1)],
  [(515, 10, 11, .boolean, false), (129, 10, 0, .int, false), (519, 10, 29, .int, false), (522, 10, 38, .int, false), (102, 10, 35, (.object "GameTextModel$Numbers"), true), (132, 11, 1, .int, false), (105, 10, 36, (.object "GameTextModel$Numbers"), true), (108, 10, 37, (.object "GameTextModel$Numbers"), true), (254, 10, 16, .int, false), (34, 10, 9, (.object "GameTextModel$Game"), false), (443, 12, 12, .int, false), (90, 10, 31, (.array .int), true), (456, 12, 16, (.array .int), true), (87, 10, 30, .int, false), (257, 10, 17, .int, false), (41, 10, 12, .int, false)],
  [(525, 1, 211, 1)],
  [],
  [],
  [],
  [])
/-- GameTextModel.state(I)V -/
def tE_211 : tb_E := (("GameTextModel", 10, false, prog_12_method_80_code, 3, none, ⟨"GameTextModel", "state", "(I)V"⟩),
  [(0, .aload_n 0, 1), (1, .iload_n 1, 1), (2, .invokevirtual 528, 3), (5, .aload_n 0, 1), (6, .getfield 93, 3), (9, .iload_n 1, 1), (10, .iconst 0, 1), (11, .iastore, 1), (12, .aload_n 0, 1), (13, .getfield 96, 3), (16, .iload_n 1, 1), (17, .aload_n 0, 1), (18, .getfield 102, 3), (21, .getfield 132, 3), (24, .iastore, 1), (25, .aload_n 0, 1), (26, .getfield 99, 3), (29, .iload_n 1, 1), (30, .iconst 0, 1), (31, .iastore, 1), (32, .aload_n 0, 1), (33, .aload_n 0, 1), (34, .getfield 34, 3), (37, .getfield 426, 3), (40, .invokevirtual 531, 3), (43, .aload_n 0, 1), (44, .getfield 254, 3), (47, .ifCond .eq 4, 3), (50, .return_, 1), (51, .aload_n 0, 1), (52, .getfield 63, 3), (55, .iconst 0, 1), (56, .laload, 1), (57, .lconst 1, 1), (58, .lcmp, 1), (59, .ifCond .ne 11, 3), (62, .aload_n 0, 1), (63, .getfield 93, 3), (66, .iload_n 1, 1), (67, .iconst 3, 1), (68, .iastore, 1), (69, .return_, 1), (70, .iconst 0, 1), (71, .istore_n 2, 1), (72, .iload_n 2, 1), (73, .aload_n 0, 1), (74, .getfield 34, 3), (77, .getfield 461, 3), (80, .if_icmp .ge 53, 3), (83, .aload_n 0, 1), (84, .getfield 254, 3), (87, .ifCond .ne 46, 3), (90, .aload_n 0, 1), (91, .aload_n 0, 1), (92, .getfield 34, 3), (95, .getfield 470, 3), (98, .iload_n 2, 1), (99, .iaload, 1), (100, .invokevirtual 531, 3), (103, .aload_n 0, 1), (104, .getfield 254, 3), (107, .ifCond .ne 20, 3), (110, .aload_n 0, 1), (111, .getfield 63, 3), (114, .iconst 0, 1), (115, .laload, 1), (116, .lconst 1, 1), (117, .lcmp, 1), (118, .ifCond .ne 9, 3), (121, .aload_n 0, 1), (122, .iload_n 1, 1), (123, .iload_n 2, 1), (124, .invokevirtual 534, 3), (127, .iinc 2 1, 3), (130, .goto (-58), 3), (133, .return_, 1)],
  [(93, 10, 32, (.array .int), true), (96, 10, 33, (.array .int), true), (102, 10, 35, (.object "GameTextModel$Numbers"), true), (132, 11, 1, .int, false), (99, 10, 34, (.array .int), true), (34, 10, 9, (.object "GameTextModel$Game"), false), (426, 12, 17, .int, false), (254, 10, 16, .int, false), (63, 10, 21, (.array .long), true), (461, 12, 18, .int, false), (470, 12, 21, (.array .int), true)],
  [(528, 1, 212, 1), (531, 1, 213, 1), (534, 1, 214, 2)],
  [],
  [],
  [],
  [])
/-- GameTextModel.enter(I)V -/
def tE_212 : tb_E := (("GameTextModel", 10, false, prog_12_method_78_code, 3, none, ⟨"GameTextModel", "enter", "(I)V"⟩),
  [(0, .iconst 0, 1), (1, .istore_n 2, 1), (2, .iload_n 2, 1), (3, .aload_n 0, 1), (4, .getfield 34, 3), (7, .getfield 443, 3), (10, .if_icmp .ge 26, 3), (13, .aload_n 0, 1), (14, .getfield 73, 3), (17, .iload_n 2, 1), (18, .aload_n 0, 1), (19, .getfield 90, 3), (22, .bipush 12, 2), (24, .iload_n 1, 1), (25, .imul, 1), (26, .iload_n 2, 1), (27, .iadd, 1), (28, .iaload, 1), (29, .iastore, 1), (30, .iinc 2 1, 3), (33, .goto (-31), 3), (36, .iconst 0, 1), (37, .istore_n 2, 1), (38, .iload_n 2, 1), (39, .aload_n 0, 1), (40, .getfield 34, 3), (43, .getfield 434, 3), (46, .if_icmp .ge 16, 3), (49, .aload_n 0, 1), (50, .getfield 77, 3), (53, .iload_n 2, 1), (54, .iconst 0, 1), (55, .bastore, 1), (56, .iinc 2 1, 3), (59, .goto (-21), 3), (62, .return_, 1)],
  [(34, 10, 9, (.object "GameTextModel$Game"), false), (443, 12, 12, .int, false), (73, 10, 25, (.array .int), true), (90, 10, 31, (.array .int), true), (434, 12, 6, .int, false), (77, 10, 26, (.array .boolean), true)],
  [],
  [],
  [],
  [],
  [])
/-- GameTextModel.reach(I)V -/
def tE_213 : tb_E := (("GameTextModel", 10, false, prog_12_method_77_code, 2, none, ⟨"GameTextModel", "reach", "(I)V"⟩),
  [(0, .aload_n 0, 1), (1, .aload_n 0, 1), (2, .getfield 34, 3), (5, .iload_n 1, 1), (6, .invokevirtual 437, 3), (9, .return_, 1)],
  [(34, 10, 9, (.object "GameTextModel$Game"), false)],
  [(437, 1, 185, 2)],
  [],
  [],
  [],
  [])
/-- GameTextModel.enabled(II)V -/
def tE_214 : tb_E := (("GameTextModel", 10, false, prog_12_method_81_code, 10, none, ⟨"GameTextModel", "enabled", "(II)V"⟩),
  [(0, .aload_n 0, 1), (1, .getfield 34, 3), (4, .getfield 464, 3), (7, .iload_n 2, 1), (8, .baload, 1), (9, .ifCond .eq 7, 3), (12, .iconst 2, 1), (13, .goto 4, 3), (16, .iconst 1, 1), (17, .istore_n 3, 1), (18, .aload_n 0, 1), (19, .getfield 34, 3), (22, .getfield 467, 3), (25, .iload_n 2, 1), (26, .iaload, 1), (27, .istore 4, 2), (29, .aload_n 0, 1), (30, .getfield 93, 3), (33, .iload_n 1, 1), (34, .iaload, 1), (35, .ifCond .eq 22, 3), (38, .aload_n 0, 1), (39, .getfield 93, 3), (42, .iload_n 1, 1), (43, .iaload, 1), (44, .iload_n 3, 1), (45, .if_icmp .eq 12, 3), (48, .aload_n 0, 1), (49, .bipush 13, 2), (51, .iload 4, 2), (53, .invokevirtual 338, 3), (56, .return_, 1), (57, .aload_n 0, 1), (58, .getfield 93, 3), (61, .iload_n 1, 1), (62, .iload_n 3, 1), (63, .iastore, 1), (64, .aload_n 0, 1), (65, .iload_n 2, 1), (66, .iload 4, 2), (68, .invokevirtual 537, 3), (71, .lstore 5, 2), (73, .aload_n 0, 1), (74, .getfield 254, 3), (77, .ifCond .eq 4, 3), (80, .return_, 1), (81, .lconst 0, 1), (82, .lstore 7, 2), (84, .iconst 0, 1), (85, .istore 9, 2), (87, .iload 9, 2), (89, .aload_n 0, 1), (90, .getfield 34, 3), (93, .getfield 473, 3), (96, .iload_n 2, 1), (97, .iaload, 1), (98, .if_icmp .ge 32, 3), (101, .lload 7, 2), (103, .aload_n 0, 1), (104, .getfield 123, 3), (107, .iload 9, 2), (109, .laload, 1), (110, .lload 5, 2), (112, .aload_n 0, 1), (113, .getfield 126, 3), (116, .iload 9, 2), (118, .laload, 1), (119, .ldiv, 1), (120, .lmul, 1), (121, .ladd, 1), (122, .lstore 7, 2), (124, .iinc 9 1, 3), (127, .goto (-40), 3), (130, .lload 7, 2), (132, .lload 5, 2), (134, .lcmp, 1), (135, .ifCond .eq 12, 3), (138, .aload_n 0, 1), (139, .bipush 11, 2), (141, .iload 4, 2), (143, .invokevirtual 338, 3), (146, .return_, 1), (147, .aload_n 0, 1), (148, .getfield 102, 3), (151, .iload_n 2, 1), (152, .invokevirtual 139, 3), (155, .aload_n 0, 1), (156, .getfield 105, 3), (159, .aload_n 0, 1), (160, .getfield 522, 3), (163, .invokevirtual 139, 3), (166, .aload_n 0, 1), (167, .getfield 108, 3), (170, .iconst 0, 1), (171, .invokevirtual 139, 3), (174, .aload_n 0, 1), (175, .getfield 99, 3), (178, .iload_n 1, 1), (179, .aload_n 0, 1), (180, .getfield 99, 3), (183, .iload_n 1, 1), (184, .iaload, 1), (185, .iconst 1, 1), (186, .iadd, 1), (187, .iastore, 1), (188, .iconst 0, 1), (189, .istore 9, 2), (191, .iload 9, 2), (193, .aload_n 0, 1), (194, .getfield 34, 3), (197, .getfield 473, 3), (200, .iload_n 2, 1), (201, .iaload, 1), (202, .if_icmp .ge 37, 3), (205, .aload_n 0, 1), (206, .getfield 254, 3), (209, .ifCond .ne 30, 3), (212, .aload_n 0, 1), (213, .getfield 123, 3), (216, .iload 9, 2), (218, .laload, 1), (219, .lconst 0, 1), (220, .lcmp, 1), (221, .ifCond .eq 12, 3), (224, .aload_n 0, 1), (225, .iload_n 2, 1), (226, .iload 9, 2), (228, .iload 4, 2), (230, .invokevirtual 541, 3), (233, .iinc 9 1, 3), (236, .goto (-45), 3), (239, .return_, 1)],
  [(34, 10, 9, (.object "GameTextModel$Game"), false), (464, 12, 19, (.array .boolean), true), (467, 12, 20, (.array .int), true), (93, 10, 32, (.array .int), true), (254, 10, 16, .int, false), (473, 12, 22, (.array .int), true), (123, 10, 43, (.array .long), true), (126, 10, 44, (.array .long), true), (102, 10, 35, (.object "GameTextModel$Numbers"), true), (105, 10, 36, (.object "GameTextModel$Numbers"), true), (522, 10, 38, .int, false), (108, 10, 37, (.object "GameTextModel$Numbers"), true), (99, 10, 34, (.array .int), true)],
  [(338, 1, 165, 2), (537, 1, 215, 2), (139, 1, 133, 1), (541, 1, 216, 3)],
  [],
  [],
  [],
  [])
/-- GameTextModel.chances(II)J -/
def tE_215 : tb_E := (("GameTextModel", 10, false, prog_12_method_82_code, 6, (some .long), ⟨"GameTextModel", "chances", "(II)J"⟩),
  [(0, .iconst 0, 1), (1, .istore_n 3, 1), (2, .iload_n 3, 1), (3, .aload_n 0, 1), (4, .getfield 34, 3), (7, .getfield 473, 3), (10, .iload_n 1, 1), (11, .iaload, 1), (12, .if_icmp .ge 112, 3), (15, .aload_n 0, 1), (16, .getfield 254, 3), (19, .ifCond .ne 105, 3), (22, .aload_n 0, 1), (23, .aload_n 0, 1), (24, .getfield 34, 3), (27, .getfield 479, 3), (30, .bipush 8, 2), (32, .iload_n 1, 1), (33, .imul, 1), (34, .iload_n 3, 1), (35, .iadd, 1), (36, .iaload, 1), (37, .invokevirtual 531, 3), (40, .aload_n 0, 1), (41, .getfield 123, 3), (44, .iload_n 3, 1), (45, .aload_n 0, 1), (46, .getfield 63, 3), (49, .iconst 0, 1), (50, .laload, 1), (51, .lastore, 1), (52, .aload_n 0, 1), (53, .getfield 126, 3), (56, .iload_n 3, 1), (57, .aload_n 0, 1), (58, .getfield 67, 3), (61, .iconst 0, 1), (62, .laload, 1), (63, .lastore, 1), (64, .aload_n 0, 1), (65, .getfield 254, 3), (68, .ifCond .ne 50, 3), (71, .aload_n 0, 1), (72, .getfield 63, 3), (75, .iconst 0, 1), (76, .laload, 1), (77, .lconst 0, 1), (78, .lcmp, 1), (79, .ifCond .lt 19, 3), (82, .aload_n 0, 1), (83, .getfield 63, 3), (86, .iconst 0, 1), (87, .laload, 1), (88, .aload_n 0, 1), (89, .getfield 67, 3), (92, .iconst 0, 1), (93, .laload, 1), (94, .lcmp, 1), (95, .ifCond .le 23, 3), (98, .aload_n 0, 1), (99, .bipush 11, 2), (101, .aload_n 0, 1), (102, .getfield 34, 3), (105, .getfield 482, 3), (108, .bipush 8, 2), (110, .iload_n 1, 1), (111, .imul, 1), (112, .iload_n 3, 1), (113, .iadd, 1), (114, .iaload, 1), (115, .invokevirtual 338, 3), (118, .iinc 3 1, 3), (121, .goto (-119), 3), (124, .lconst 1, 1), (125, .lstore_n 3, 1), (126, .iconst 0, 1), (127, .istore 5, 2), (129, .iload 5, 2), (131, .aload_n 0, 1), (132, .getfield 34, 3), (135, .getfield 473, 3), (138, .iload_n 1, 1), (139, .iaload, 1), (140, .if_icmp .ge 53, 3), (143, .aload_n 0, 1), (144, .getfield 254, 3), (147, .ifCond .ne 46, 3), (150, .lload_n 3, 1), (151, .lload_n 3, 1), (152, .aload_n 0, 1), (153, .getfield 126, 3), (156, .iload 5, 2), (158, .laload, 1), (159, .invokestatic 364, 3), (162, .ldiv, 1), (163, .aload_n 0, 1), (164, .getfield 126, 3), (167, .iload 5, 2), (169, .laload, 1), (170, .lmul, 1), (171, .lstore_n 3, 1), (172, .lload_n 3, 1), (173, .ldc2_w 368, 3), (176, .lcmp, 1), (177, .ifCond .lt 10, 3), (180, .aload_n 0, 1), (181, .bipush 6, 2), (183, .iload_n 2, 1), (184, .invokevirtual 338, 3), (187, .iinc 5 1, 3), (190, .goto (-61), 3), (193, .lload_n 3, 1), (194, .lreturn, 1)],
  [(34, 10, 9, (.object "GameTextModel$Game"), false), (473, 12, 22, (.array .int), true), (254, 10, 16, .int, false), (479, 12, 23, (.array .int), true), (123, 10, 43, (.array .long), true), (63, 10, 21, (.array .long), true), (126, 10, 44, (.array .long), true), (67, 10, 22, (.array .long), true), (482, 12, 24, (.array .int), true)],
  [(531, 1, 213, 1), (338, 1, 165, 2), (364, 0, 196, 2)],
  [],
  [(368, .long 1000000000)],
  [],
  [])
/-- GameTextModel.way(III)V -/
def tE_216 : tb_E := (("GameTextModel", 10, false, prog_12_method_83_code, 9, none, ⟨"GameTextModel", "way", "(III)V"⟩),
  [(0, .bipush 8, 2), (2, .iload_n 1, 1), (3, .imul, 1), (4, .iload_n 2, 1), (5, .iadd, 1), (6, .istore 4, 2), (8, .iconst 0, 1), (9, .istore 5, 2), (11, .iload 5, 2), (13, .aload_n 0, 1), (14, .getfield 34, 3), (17, .getfield 443, 3), (20, .if_icmp .ge 23, 3), (23, .aload_n 0, 1), (24, .getfield 120, 3), (27, .iload 5, 2), (29, .aload_n 0, 1), (30, .getfield 73, 3), (33, .iload 5, 2), (35, .iaload, 1), (36, .iastore, 1), (37, .iinc 5 1, 3), (40, .goto (-29), 3), (43, .aload_n 0, 1), (44, .getfield 34, 3), (47, .getfield 485, 3), (50, .iload 4, 2), (52, .iaload, 1), (53, .istore 5, 2), (55, .iload 5, 2), (57, .istore 6, 2), (59, .iload 6, 2), (61, .iload 5, 2), (63, .aload_n 0, 1), (64, .getfield 34, 3), (67, .getfield 494, 3), (70, .iload 4, 2), (72, .iaload, 1), (73, .iadd, 1), (74, .if_icmp .ge 56, 3), (77, .aload_n 0, 1), (78, .getfield 254, 3), (81, .ifCond .ne 49, 3), (84, .aload_n 0, 1), (85, .aload_n 0, 1), (86, .getfield 34, 3), (89, .getfield 488, 3), (92, .iload 6, 2), (94, .invokevirtual 142, 3), (97, .aload_n 0, 1), (98, .getfield 34, 3), (101, .getfield 503, 3), (104, .iload 6, 2), (106, .invokevirtual 142, 3), (109, .aload_n 0, 1), (110, .getfield 34, 3), (113, .getfield 500, 3), (116, .iload 6, 2), (118, .invokevirtual 142, 3), (121, .invokevirtual 544, 3), (124, .iinc 6 1, 3), (127, .goto (-68), 3), (130, .aload_n 0, 1), (131, .getfield 254, 3), (134, .ifCond .eq 4, 3), (137, .return_, 1), (138, .aload_n 0, 1), (139, .invokevirtual 546, 3), (142, .istore 6, 2), (144, .iload 6, 2), (146, .ifCond .ge 19, 3), (149, .aload_n 0, 1), (150, .iconst 5, 1), (151, .aload_n 0, 1), (152, .getfield 34, 3), (155, .getfield 482, 3), (158, .iload 4, 2), (160, .iaload, 1), (161, .invokevirtual 338, 3), (164, .return_, 1), (165, .aload_n 0, 1), (166, .getfield 105, 3), (169, .getfield 132, 3), (172, .iconst 1, 1), (173, .isub, 1), (174, .istore 7, 2), (176, .aload_n 0, 1), (177, .getfield 105, 3), (180, .iload 7, 2), (182, .invokevirtual 142, 3), (185, .istore 8, 2), (187, .iload 8, 2), (189, .aload_n 0, 1), (190, .getfield 522, 3), (193, .if_icmp .ge 40, 3), (196, .aload_n 0, 1), (197, .getfield 111, 3), (200, .iload 8, 2), (202, .iaload, 1), (203, .iload 6, 2), (205, .if_icmp .ne 22, 3), (208, .aload_n 0, 1), (209, .iload 8, 2), (211, .aload_n 0, 1), (212, .getfield 123, 3), (215, .iload_n 2, 1), (216, .laload, 1), (217, .aload_n 0, 1), (218, .getfield 126, 3), (221, .iload_n 2, 1), (222, .laload, 1), (223, .invokevirtual 549, 3), (226, .return_, 1), (227, .iinc 8 1, 3), (230, .goto (-43), 3), (233, .aload_n 0, 1), (234, .getfield 522, 3), (237, .sipush 4096, 3), (240, .if_icmp .ne 10, 3), (243, .aload_n 0, 1), (244, .iconst 5, 1), (245, .iload_n 3, 1), (246, .invokevirtual 338, 3), (249, .return_, 1), (250, .aload_n 0, 1), (251, .getfield 111, 3), (254, .aload_n 0, 1), (255, .getfield 522, 3), (258, .iload 6, 2), (260, .iastore, 1), (261, .aload_n 0, 1), (262, .getfield 114, 3), (265, .aload_n 0, 1), (266, .getfield 522, 3), (269, .aload_n 0, 1), (270, .getfield 123, 3), (273, .iload_n 2, 1), (274, .laload, 1), (275, .lastore, 1), (276, .aload_n 0, 1), (277, .getfield 117, 3), (280, .aload_n 0, 1), (281, .getfield 522, 3), (284, .aload_n 0, 1), (285, .getfield 126, 3), (288, .iload_n 2, 1), (289, .laload, 1), (290, .lastore, 1), (291, .aload_n 0, 1), (292, .aload_n 0, 1), (293, .getfield 522, 3), (296, .iconst 1, 1), (297, .iadd, 1), (298, .putfield 522, 3), (301, .aload_n 0, 1), (302, .getfield 108, 3), (305, .getfield 280, 3), (308, .iload 7, 2), (310, .aload_n 0, 1), (311, .getfield 108, 3), (314, .getfield 280, 3), (317, .iload 7, 2), (319, .iaload, 1), (320, .iconst 1, 1), (321, .iadd, 1), (322, .iastore, 1), (323, .return_, 1)],
  [(34, 10, 9, (.object "GameTextModel$Game"), false), (443, 12, 12, .int, false), (120, 10, 42, (.array .int), true), (73, 10, 25, (.array .int), true), (485, 12, 25, (.array .int), true), (494, 12, 26, (.array .int), true), (254, 10, 16, .int, false), (488, 12, 27, (.object "GameTextModel$Numbers"), true), (503, 12, 29, (.object "GameTextModel$Numbers"), true), (500, 12, 28, (.object "GameTextModel$Numbers"), true), (482, 12, 24, (.array .int), true), (105, 10, 36, (.object "GameTextModel$Numbers"), true), (132, 11, 1, .int, false), (522, 10, 38, .int, false), (111, 10, 39, (.array .int), true), (123, 10, 43, (.array .long), true), (126, 10, 44, (.array .long), true), (114, 10, 40, (.array .long), true), (117, 10, 41, (.array .long), true), (108, 10, 37, (.object "GameTextModel$Numbers"), true), (280, 11, 0, (.array .int), false)],
  [(142, 1, 139, 1), (544, 1, 217, 3), (546, 1, 218, 0), (338, 1, 165, 2), (549, 1, 219, 3)],
  [],
  [],
  [],
  [])
/-- GameTextModel.set(III)V -/
def tE_217 : tb_E := (("GameTextModel", 10, false, prog_12_method_85_code, 4, none, ⟨"GameTextModel", "set", "(III)V"⟩),
  [(0, .aload_n 0, 1), (1, .iload_n 2, 1), (2, .invokevirtual 531, 3), (5, .aload_n 0, 1), (6, .getfield 254, 3), (9, .ifCond .eq 4, 3), (12, .return_, 1), (13, .aload_n 0, 1), (14, .getfield 34, 3), (17, .getfield 344, 3), (20, .iload_n 1, 1), (21, .baload, 1), (22, .ifCond .ne 24, 3), (25, .aload_n 0, 1), (26, .getfield 67, 3), (29, .iconst 0, 1), (30, .laload, 1), (31, .lconst 1, 1), (32, .lcmp, 1), (33, .ifCond .eq 13, 3), (36, .aload_n 0, 1), (37, .bipush 8, 2), (39, .iload_n 3, 1), (40, .invokevirtual 338, 3), (43, .goto 66, 3), (46, .aload_n 0, 1), (47, .getfield 63, 3), (50, .iconst 0, 1), (51, .laload, 1), (52, .aload_n 0, 1), (53, .getfield 34, 3), (56, .getfield 448, 3), (59, .iload_n 1, 1), (60, .iaload, 1), (61, .i2l, 1), (62, .lcmp, 1), (63, .ifCond .lt 23, 3), (66, .aload_n 0, 1), (67, .getfield 63, 3), (70, .iconst 0, 1), (71, .laload, 1), (72, .aload_n 0, 1), (73, .getfield 34, 3), (76, .getfield 450, 3), (79, .iload_n 1, 1), (80, .iaload, 1), (81, .i2l, 1), (82, .lcmp, 1), (83, .ifCond .le 13, 3), (86, .aload_n 0, 1), (87, .bipush 12, 2), (89, .iload_n 3, 1), (90, .invokevirtual 338, 3), (93, .goto 16, 3), (96, .aload_n 0, 1), (97, .getfield 120, 3), (100, .iload_n 1, 1), (101, .aload_n 0, 1), (102, .getfield 63, 3), (105, .iconst 0, 1), (106, .laload, 1), (107, .l2i, 1), (108, .iastore, 1), (109, .return_, 1)],
  [(254, 10, 16, .int, false), (34, 10, 9, (.object "GameTextModel$Game"), false), (344, 12, 13, (.array .boolean), true), (67, 10, 22, (.array .long), true), (63, 10, 21, (.array .long), true), (448, 12, 14, (.array .int), true), (450, 12, 15, (.array .int), true), (120, 10, 42, (.array .int), true)],
  [(531, 1, 213, 1), (338, 1, 165, 2)],
  [],
  [],
  [],
  [])
/-- GameTextModel.stateOf()I -/
def tE_218 : tb_E := (("GameTextModel", 10, false, prog_12_method_86_code, 4, (some .int), ⟨"GameTextModel", "stateOf", "()I"⟩),
  [(0, .iconst 0, 1), (1, .istore_n 1, 1), (2, .iload_n 1, 1), (3, .aload_n 0, 1), (4, .getfield 519, 3), (7, .if_icmp .ge 66, 3), (10, .iconst 1, 1), (11, .istore_n 2, 1), (12, .iconst 0, 1), (13, .istore_n 3, 1), (14, .iload_n 3, 1), (15, .aload_n 0, 1), (16, .getfield 34, 3), (19, .getfield 443, 3), (22, .if_icmp .ge 39, 3), (25, .iload_n 2, 1), (26, .ifCond .eq 35, 3), (29, .aload_n 0, 1), (30, .getfield 90, 3), (33, .bipush 12, 2), (35, .iload_n 1, 1), (36, .imul, 1), (37, .iload_n 3, 1), (38, .iadd, 1), (39, .iaload, 1), (40, .aload_n 0, 1), (41, .getfield 120, 3), (44, .iload_n 3, 1), (45, .iaload, 1), (46, .if_icmp .ne 7, 3), (49, .iconst 1, 1), (50, .goto 4, 3), (53, .iconst 0, 1), (54, .istore_n 2, 1), (55, .iinc 3 1, 3), (58, .goto (-44), 3), (61, .iload_n 2, 1), (62, .ifCond .eq 5, 3), (65, .iload_n 1, 1), (66, .ireturn, 1), (67, .iinc 1 1, 3), (70, .goto (-68), 3), (73, .aload_n 0, 1), (74, .getfield 519, 3), (77, .sipush 512, 3), (80, .if_icmp .ne 5, 3), (83, .iconst (-1), 1), (84, .ireturn, 1), (85, .iconst 0, 1), (86, .istore_n 1, 1), (87, .iload_n 1, 1), (88, .aload_n 0, 1), (89, .getfield 34, 3), (92, .getfield 443, 3), (95, .if_icmp .ge 29, 3), (98, .aload_n 0, 1), (99, .getfield 90, 3), (102, .bipush 12, 2), (104, .aload_n 0, 1), (105, .getfield 519, 3), (108, .imul, 1), (109, .iload_n 1, 1), (110, .iadd, 1), (111, .aload_n 0, 1), (112, .getfield 120, 3), (115, .iload_n 1, 1), (116, .iaload, 1), (117, .iastore, 1), (118, .iinc 1 1, 3), (121, .goto (-34), 3), (124, .aload_n 0, 1), (125, .aload_n 0, 1), (126, .getfield 519, 3), (129, .iconst 1, 1), (130, .iadd, 1), (131, .putfield 519, 3), (134, .aload_n 0, 1), (135, .getfield 519, 3), (138, .iconst 1, 1), (139, .isub, 1), (140, .ireturn, 1)],
  [(519, 10, 29, .int, false), (34, 10, 9, (.object "GameTextModel$Game"), false), (443, 12, 12, .int, false), (90, 10, 31, (.array .int), true), (120, 10, 42, (.array .int), true)],
  [],
  [],
  [],
  [],
  [])
/-- GameTextModel.add(IJJ)V -/
def tE_219 : tb_E := (("GameTextModel", 10, false, prog_12_method_84_code, 12, none, ⟨"GameTextModel", "add", "(IJJ)V"⟩),
  [(0, .aload_n 0, 1), (1, .getfield 114, 3), (4, .iload_n 1, 1), (5, .laload, 1), (6, .lload 4, 2), (8, .lmul, 1), (9, .lload_n 2, 1), (10, .aload_n 0, 1), (11, .getfield 117, 3), (14, .iload_n 1, 1), (15, .laload, 1), (16, .lmul, 1), (17, .ladd, 1), (18, .lstore 6, 2), (20, .aload_n 0, 1), (21, .getfield 117, 3), (24, .iload_n 1, 1), (25, .laload, 1), (26, .lload 4, 2), (28, .lmul, 1), (29, .lstore 8, 2), (31, .lload 6, 2), (33, .lload 8, 2), (35, .invokestatic 364, 3), (38, .lstore 10, 2), (40, .aload_n 0, 1), (41, .getfield 114, 3), (44, .iload_n 1, 1), (45, .lload 6, 2), (47, .lload 10, 2), (49, .ldiv, 1), (50, .lastore, 1), (51, .aload_n 0, 1), (52, .getfield 117, 3), (55, .iload_n 1, 1), (56, .lload 8, 2), (58, .lload 10, 2), (60, .ldiv, 1), (61, .lastore, 1), (62, .return_, 1)],
  [(114, 10, 40, (.array .long), true), (117, 10, 41, (.array .long), true)],
  [(364, 0, 196, 2)],
  [],
  [],
  [],
  [])
/-- GameTextModel.state()I -/
def tE_220 : tb_E := (("GameTextModel", 10, false, prog_12_method_87_code, 1, (some .int), ⟨"GameTextModel", "state", "()I"⟩),
  [(0, .aload_n 0, 1), (1, .iconst 0, 1), (2, .putfield 129, 3), (5, .aload_n 0, 1), (6, .getfield 87, 3), (9, .ireturn, 1)],
  [(129, 10, 0, .int, false), (87, 10, 30, .int, false)],
  [],
  [],
  [],
  [],
  [])
/-- GameTextModel.states()I -/
def tE_221 : tb_E := (("GameTextModel", 10, false, prog_12_method_88_code, 1, (some .int), ⟨"GameTextModel", "states", "()I"⟩),
  [(0, .aload_n 0, 1), (1, .iconst 0, 1), (2, .putfield 129, 3), (5, .aload_n 0, 1), (6, .getfield 519, 3), (9, .ireturn, 1)],
  [(129, 10, 0, .int, false), (519, 10, 29, .int, false)],
  [],
  [],
  [],
  [],
  [])
/-- GameTextModel.variable(II)I -/
def tE_222 : tb_E := (("GameTextModel", 10, false, prog_12_method_89_code, 3, (some .int), ⟨"GameTextModel", "variable", "(II)I"⟩),
  [(0, .aload_n 0, 1), (1, .iload_n 1, 1), (2, .ifCond .lt 26, 3), (5, .iload_n 1, 1), (6, .aload_n 0, 1), (7, .getfield 519, 3), (10, .if_icmp .ge 18, 3), (13, .iload_n 2, 1), (14, .ifCond .lt 14, 3), (17, .iload_n 2, 1), (18, .aload_n 0, 1), (19, .getfield 34, 3), (22, .getfield 443, 3), (25, .if_icmp .lt 7, 3), (28, .iconst 1, 1), (29, .goto 4, 3), (32, .iconst 0, 1), (33, .putfield 129, 3), (36, .aload_n 0, 1), (37, .getfield 129, 3), (40, .ifCond .le 7, 3), (43, .iconst 0, 1), (44, .goto 14, 3), (47, .aload_n 0, 1), (48, .getfield 90, 3), (51, .bipush 12, 2), (53, .iload_n 1, 1), (54, .imul, 1), (55, .iload_n 2, 1), (56, .iadd, 1), (57, .iaload, 1), (58, .ireturn, 1)],
  [(519, 10, 29, .int, false), (34, 10, 9, (.object "GameTextModel$Game"), false), (443, 12, 12, .int, false), (129, 10, 0, .int, false), (90, 10, 31, (.array .int), true)],
  [],
  [],
  [],
  [],
  [])
/-- GameTextModel.kind(I)I -/
def tE_223 : tb_E := (("GameTextModel", 10, false, prog_12_method_91_code, 2, (some .int), ⟨"GameTextModel", "kind", "(I)I"⟩),
  [(0, .aload_n 0, 1), (1, .iload_n 1, 1), (2, .invokevirtual 552, 3), (5, .ifCond .eq 12, 3), (8, .aload_n 0, 1), (9, .getfield 93, 3), (12, .iload_n 1, 1), (13, .iaload, 1), (14, .goto 4, 3), (17, .iconst (-1), 1), (18, .ireturn, 1)],
  [(93, 10, 32, (.array .int), true)],
  [(552, 1, 224, 1)],
  [],
  [],
  [],
  [])
/-- GameTextModel.isState(I)Z -/
def tE_224 : tb_E := (("GameTextModel", 10, false, prog_12_method_90_code, 2, (some .boolean), ⟨"GameTextModel", "isState", "(I)Z"⟩),
  [(0, .aload_n 0, 1), (1, .iconst 0, 1), (2, .putfield 129, 3), (5, .iload_n 1, 1), (6, .ifCond .lt 15, 3), (9, .iload_n 1, 1), (10, .aload_n 0, 1), (11, .getfield 519, 3), (14, .if_icmp .ge 7, 3), (17, .iconst 1, 1), (18, .goto 4, 3), (21, .iconst 0, 1), (22, .ireturn, 1)],
  [(129, 10, 0, .int, false), (519, 10, 29, .int, false)],
  [],
  [],
  [],
  [],
  [])
/-- GameTextModel.commands(I)I -/
def tE_225 : tb_E := (("GameTextModel", 10, false, prog_12_method_92_code, 2, (some .int), ⟨"GameTextModel", "commands", "(I)I"⟩),
  [(0, .aload_n 0, 1), (1, .iload_n 1, 1), (2, .invokevirtual 552, 3), (5, .ifCond .eq 12, 3), (8, .aload_n 0, 1), (9, .getfield 99, 3), (12, .iload_n 1, 1), (13, .iaload, 1), (14, .goto 4, 3), (17, .iconst (-1), 1), (18, .ireturn, 1)],
  [(99, 10, 34, (.array .int), true)],
  [(552, 1, 224, 1)],
  [],
  [],
  [],
  [])
/-- GameTextModel.command(II)I -/
def tE_226 : tb_E := (("GameTextModel", 10, false, prog_12_method_94_code, 3, (some .int), ⟨"GameTextModel", "command", "(II)I"⟩),
  [(0, .aload_n 0, 1), (1, .iload_n 1, 1), (2, .iload_n 2, 1), (3, .invokevirtual 555, 3), (6, .ifCond .eq 21, 3), (9, .aload_n 0, 1), (10, .getfield 102, 3), (13, .aload_n 0, 1), (14, .getfield 96, 3), (17, .iload_n 1, 1), (18, .iaload, 1), (19, .iload_n 2, 1), (20, .iadd, 1), (21, .invokevirtual 142, 3), (24, .goto 4, 3), (27, .iconst (-1), 1), (28, .ireturn, 1)],
  [(102, 10, 35, (.object "GameTextModel$Numbers"), true), (96, 10, 33, (.array .int), true)],
  [(555, 1, 227, 2), (142, 1, 139, 1)],
  [],
  [],
  [],
  [])
/-- GameTextModel.isCommand(II)Z -/
def tE_227 : tb_E := (("GameTextModel", 10, false, prog_12_method_93_code, 3, (some .boolean), ⟨"GameTextModel", "isCommand", "(II)Z"⟩),
  [(0, .aload_n 0, 1), (1, .iload_n 1, 1), (2, .invokevirtual 552, 3), (5, .ifCond .eq 21, 3), (8, .iload_n 2, 1), (9, .ifCond .lt 17, 3), (12, .iload_n 2, 1), (13, .aload_n 0, 1), (14, .getfield 99, 3), (17, .iload_n 1, 1), (18, .iaload, 1), (19, .if_icmp .ge 7, 3), (22, .iconst 1, 1), (23, .goto 4, 3), (26, .iconst 0, 1), (27, .ireturn, 1)],
  [(99, 10, 34, (.array .int), true)],
  [(552, 1, 224, 1)],
  [],
  [],
  [],
  [])
/-- GameTextModel.branches(II)I -/
def tE_228 : tb_E := (("GameTextModel", 10, false, prog_12_method_95_code, 3, (some .int), ⟨"GameTextModel", "branches", "(II)I"⟩),
  [(0, .aload_n 0, 1), (1, .iload_n 1, 1), (2, .iload_n 2, 1), (3, .invokevirtual 555, 3), (6, .ifCond .eq 21, 3), (9, .aload_n 0, 1), (10, .getfield 108, 3), (13, .aload_n 0, 1), (14, .getfield 96, 3), (17, .iload_n 1, 1), (18, .iaload, 1), (19, .iload_n 2, 1), (20, .iadd, 1), (21, .invokevirtual 142, 3), (24, .goto 4, 3), (27, .iconst (-1), 1), (28, .ireturn, 1)],
  [(108, 10, 37, (.object "GameTextModel$Numbers"), true), (96, 10, 33, (.array .int), true)],
  [(555, 1, 227, 2), (142, 1, 139, 1)],
  [],
  [],
  [],
  [])
/-- GameTextModel.branch(IIII)I -/
def tE_229 : tb_E := (("GameTextModel", 10, false, prog_12_method_96_code, 6, (some .int), ⟨"GameTextModel", "branch", "(IIII)I"⟩),
  [(0, .aload_n 0, 1), (1, .iload_n 1, 1), (2, .iload_n 2, 1), (3, .invokevirtual 555, 3), (6, .ifCond .eq 37, 3), (9, .iload_n 3, 1), (10, .ifCond .lt 33, 3), (13, .iload_n 3, 1), (14, .aload_n 0, 1), (15, .getfield 108, 3), (18, .aload_n 0, 1), (19, .getfield 96, 3), (22, .iload_n 1, 1), (23, .iaload, 1), (24, .iload_n 2, 1), (25, .iadd, 1), (26, .invokevirtual 142, 3), (29, .if_icmp .ge 14, 3), (32, .iload 4, 2), (34, .ifCond .lt 9, 3), (37, .iload 4, 2), (39, .iconst 2, 1), (40, .if_icmp .le 5, 3), (43, .iconst (-1), 1), (44, .ireturn, 1), (45, .aload_n 0, 1), (46, .getfield 105, 3), (49, .aload_n 0, 1), (50, .getfield 96, 3), (53, .iload_n 1, 1), (54, .iaload, 1), (55, .iload_n 2, 1), (56, .iadd, 1), (57, .invokevirtual 142, 3), (60, .iload_n 3, 1), (61, .iadd, 1), (62, .istore 5, 2), (64, .iload 4, 2), (66, .ifCond .ne 13, 3), (69, .aload_n 0, 1), (70, .getfield 111, 3), (73, .iload 5, 2), (75, .iaload, 1), (76, .goto 27, 3), (79, .iload 4, 2), (81, .iconst 1, 1), (82, .if_icmp .ne 13, 3), (85, .aload_n 0, 1), (86, .getfield 114, 3), (89, .iload 5, 2), (91, .laload, 1), (92, .goto 10, 3), (95, .aload_n 0, 1), (96, .getfield 117, 3), (99, .iload 5, 2), (101, .laload, 1), (102, .l2i, 1), (103, .ireturn, 1)],
  [(108, 10, 37, (.object "GameTextModel$Numbers"), true), (96, 10, 33, (.array .int), true), (105, 10, 36, (.object "GameTextModel$Numbers"), true), (111, 10, 39, (.array .int), true), (114, 10, 40, (.array .long), true), (117, 10, 41, (.array .long), true)],
  [(555, 1, 227, 2), (142, 1, 139, 1)],
  [],
  [],
  [],
  [])
def tb_all : List tb_E := [tE_0, tE_1, tE_2, tE_3, tE_4, tE_5, tE_6, tE_7, tE_8, tE_9, tE_10, tE_11, tE_12, tE_13, tE_14, tE_15, tE_16, tE_17, tE_18, tE_19, tE_20, tE_21, tE_22, tE_23, tE_24, tE_25, tE_26, tE_27, tE_28, tE_29, tE_30, tE_31, tE_32, tE_33, tE_34, tE_35, tE_36, tE_37, tE_38, tE_39, tE_40, tE_41, tE_42, tE_43, tE_44, tE_45, tE_46, tE_47, tE_48, tE_49, tE_50, tE_51, tE_52, tE_53, tE_54, tE_55, tE_56, tE_57, tE_58, tE_59, tE_60, tE_61, tE_62, tE_63, tE_64, tE_65, tE_66, tE_67, tE_68, tE_69, tE_70, tE_71, tE_72, tE_73, tE_74, tE_75, tE_76, tE_77, tE_78, tE_79, tE_80, tE_81, tE_82, tE_83, tE_84, tE_85, tE_86, tE_87, tE_88, tE_89, tE_90, tE_91, tE_92, tE_93, tE_94, tE_95, tE_96, tE_97, tE_98, tE_99, tE_100, tE_101, tE_102, tE_103, tE_104, tE_105, tE_106, tE_107, tE_108, tE_109, tE_110, tE_111, tE_112, tE_113, tE_114, tE_115, tE_116, tE_117, tE_118, tE_119, tE_120, tE_121, tE_122, tE_123, tE_124, tE_125, tE_126, tE_127, tE_128, tE_129, tE_130, tE_131, tE_132, tE_133, tE_134, tE_135, tE_136, tE_137, tE_138, tE_139, tE_140, tE_141, tE_142, tE_143, tE_144, tE_145, tE_146, tE_147, tE_148, tE_149, tE_150, tE_151, tE_152, tE_153, tE_154, tE_155, tE_156, tE_157, tE_158, tE_159, tE_160, tE_161, tE_162, tE_163, tE_164, tE_165, tE_166, tE_167, tE_168, tE_169, tE_170, tE_171, tE_172, tE_173, tE_174, tE_175, tE_176, tE_177, tE_178, tE_179, tE_180, tE_181, tE_182, tE_183, tE_184, tE_185, tE_186, tE_187, tE_188, tE_189, tE_190, tE_191, tE_192, tE_193, tE_194, tE_195, tE_196, tE_197, tE_198, tE_199, tE_200, tE_201, tE_202, tE_203, tE_204, tE_205, tE_206, tE_207, tE_208, tE_209, tE_210, tE_211, tE_212, tE_213, tE_214, tE_215, tE_216, tE_217, tE_218, tE_219, tE_220, tE_221, tE_222, tE_223, tE_224, tE_225, tE_226, tE_227, tE_228, tE_229]
def tb_tx : List (List Nat) := [[99, 111, 110, 115, 116, 32, 118, 97, 114, 32, 98, 111, 111, 108, 32, 102, 111, 114, 109, 117, 108, 97, 32, 109, 97, 120, 32, 109, 105, 110, 32, 105, 110, 105, 116, 32, 115, 116, 97, 121, 32, 116, 97, 114, 103, 101, 116, 32, 116, 114, 117, 101, 32, 102, 97, 108, 115, 101, 32, 108, 101, 97, 115, 116, 32, 109, 111, 115, 116, 32], [60, 62, 61, 43, 45, 42, 47, 37, 38, 124, 33, 63, 58, 59, 44, 40, 41, 39], [99, 111, 110, 115, 116], [118, 97, 114], [98, 111, 111, 108], [102, 111, 114, 109, 117, 108, 97], [102, 97, 108, 115, 101], [109, 97, 120], [109, 105, 110], [109, 111, 115, 116], [105, 110, 105, 116], [115, 116, 97, 121], [116, 97, 114, 103, 101, 116], [116, 114, 117, 101], [108, 101, 97, 115, 116]]
def tb_0 : tb_E := (("GameTextLaw", 99, false, ByteArray.empty, 0, none, ⟨"GameTextLaw", "none", "()V"⟩), [], [], [], [], [], [], [])
def tb_at (y : Nat) : tb_E := (tb_all[y]?).getD tb_0
