/-! KINDS: the engines of the system, their fields, the arrays; the words of the tables -/
def F_E : u_T := fun k => match k with
  | 0 => ("FixpointEngine", "tables", "[LFixpointEngine$Relation;", true)
  | 1 => ("FixpointEngine", "tableCount", "I", false)
  | 2 => ("FixpointEngine", "reader", "LFixpointEngine$Reader;", true)
  | 3 => ("FixpointEngine", "checker", "LFixpointEngine$Checker;", true)
  | 4 => ("FixpointEngine", "runner", "LFixpointEngine$Runner;", true)
  | 5 => ("FixpointEngine", "query", "LFixpointEngine$Query;", false)
  | 6 => ("FixpointEngine", "latestFault", "I", false)
  | _ => ("FixpointEngine", "answered", "Z", false)
def K_E : List (Nat × Nat) := [(2, 29), (0, 0), (2, 2), (2, 3), (2, 4), (2, 6), (0, 0), (0, 0)]
def F_M : u_T := fun k => match k with
  | 0 => ("FixpointEngineModel", "code", "I", false)
  | 1 => ("FixpointEngineModel", "tables", "I", false)
  | 2 => ("FixpointEngineModel", "columns", "[I", true)
  | 3 => ("FixpointEngineModel", "rowCount", "[I", true)
  | 4 => ("FixpointEngineModel", "cells", "[J", true)
  | 5 => ("FixpointEngineModel", "length", "I", false)
  | 6 => ("FixpointEngineModel", "text", "[I", true)
  | 7 => ("FixpointEngineModel", "keyword", "[J", true)
  | 8 => ("FixpointEngineModel", "tokens", "I", false)
  | 9 => ("FixpointEngineModel", "pos", "I", false)
  | 10 => ("FixpointEngineModel", "kind", "[I", true)
  | 11 => ("FixpointEngineModel", "place", "[I", true)
  | 12 => ("FixpointEngineModel", "value", "[J", true)
  | 13 => ("FixpointEngineModel", "faultNumber", "I", false)
  | 14 => ("FixpointEngineModel", "faultPlace", "I", false)
  | 15 => ("FixpointEngineModel", "fault", "I", false)
  | 16 => ("FixpointEngineModel", "ready", "Z", false)
  | 17 => ("FixpointEngineModel", "answered", "Z", false)
  | 18 => ("FixpointEngineModel", "parts", "I", false)
  | 19 => ("FixpointEngineModel", "partToken", "[I", true)
  | 20 => ("FixpointEngineModel", "width", "[I", true)
  | 21 => ("FixpointEngineModel", "columnToken", "[I", true)
  | 22 => ("FixpointEngineModel", "search", "[I", true)
  | 23 => ("FixpointEngineModel", "byToken", "[I", true)
  | 24 => ("FixpointEngineModel", "trailToken", "[I", true)
  | 25 => ("FixpointEngineModel", "cycleToken", "[I", true)
  | 26 => ("FixpointEngineModel", "markToken", "[I", true)
  | 27 => ("FixpointEngineModel", "byColumn", "[I", true)
  | 28 => ("FixpointEngineModel", "cycleColumn", "[I", true)
  | 29 => ("FixpointEngineModel", "plainUnion", "[Z", true)
  | 30 => ("FixpointEngineModel", "unionAll", "[Z", true)
  | 31 => ("FixpointEngineModel", "firstSelection", "[I", true)
  | 32 => ("FixpointEngineModel", "selectionsOf", "[I", true)
  | 33 => ("FixpointEngineModel", "recursiveWord", "Z", false)
  | 34 => ("FixpointEngineModel", "selections", "I", false)
  | 35 => ("FixpointEngineModel", "owner", "[I", true)
  | 36 => ("FixpointEngineModel", "selectAt", "[I", true)
  | 37 => ("FixpointEngineModel", "firstItem", "[I", true)
  | 38 => ("FixpointEngineModel", "itemCount", "[I", true)
  | 39 => ("FixpointEngineModel", "firstSource", "[I", true)
  | 40 => ("FixpointEngineModel", "sourceCount", "[I", true)
  | 41 => ("FixpointEngineModel", "conditionCount", "[I", true)
  | 42 => ("FixpointEngineModel", "condition", "[I", true)
  | 43 => ("FixpointEngineModel", "folds", "[Z", true)
  | 44 => ("FixpointEngineModel", "items", "I", false)
  | 45 => ("FixpointEngineModel", "itemKind", "[I", true)
  | 46 => ("FixpointEngineModel", "itemExpression", "[I", true)
  | 47 => ("FixpointEngineModel", "expressions", "I", false)
  | 48 => ("FixpointEngineModel", "operands", "I", false)
  | 49 => ("FixpointEngineModel", "firstOperand", "[I", true)
  | 50 => ("FixpointEngineModel", "operandCount", "[I", true)
  | 51 => ("FixpointEngineModel", "operandKind", "[I", true)
  | 52 => ("FixpointEngineModel", "operandSign", "[I", true)
  | 53 => ("FixpointEngineModel", "operandToken", "[I", true)
  | 54 => ("FixpointEngineModel", "operandSlot", "[I", true)
  | 55 => ("FixpointEngineModel", "operandColumn", "[I", true)
  | 56 => ("FixpointEngineModel", "sources", "I", false)
  | 57 => ("FixpointEngineModel", "sourceToken", "[I", true)
  | 58 => ("FixpointEngineModel", "aliasToken", "[I", true)
  | 59 => ("FixpointEngineModel", "means", "[I", true)
  | 60 => ("FixpointEngineModel", "conditions", "I", false)
  | 61 => ("FixpointEngineModel", "conditionKind", "[I", true)
  | 62 => ("FixpointEngineModel", "sign", "[I", true)
  | 63 => ("FixpointEngineModel", "leftSide", "[I", true)
  | 64 => ("FixpointEngineModel", "rightSide", "[I", true)
  | 65 => ("FixpointEngineModel", "innerSource", "[I", true)
  | 66 => ("FixpointEngineModel", "innerCount", "[I", true)
  | 67 => ("FixpointEngineModel", "inner", "[I", true)
  | 68 => ("FixpointEngineModel", "orders", "I", false)
  | 69 => ("FixpointEngineModel", "orderToken", "I", false)
  | 70 => ("FixpointEngineModel", "orderAt", "[I", true)
  | 71 => ("FixpointEngineModel", "orderSlot", "[I", true)
  | 72 => ("FixpointEngineModel", "orderColumn", "[I", true)
  | 73 => ("FixpointEngineModel", "needs", "[I", true)
  | 74 => ("FixpointEngineModel", "reaches", "[I", true)
  | 75 => ("FixpointEngineModel", "component", "[I", true)
  | 76 => ("FixpointEngineModel", "components", "I", false)
  | 77 => ("FixpointEngineModel", "pool", "I", false)
  | 78 => ("FixpointEngineModel", "rowPart", "[I", true)
  | 79 => ("FixpointEngineModel", "rowCell", "[J", true)
  | 80 => ("FixpointEngineModel", "searchLength", "[I", true)
  | 81 => ("FixpointEngineModel", "searchTrail", "[J", true)
  | 82 => ("FixpointEngineModel", "cycleLength", "[I", true)
  | 83 => ("FixpointEngineModel", "cycleTrail", "[J", true)
  | 84 => ("FixpointEngineModel", "answers", "I", false)
  | 85 => ("FixpointEngineModel", "allowed", "I", false)
  | 86 => ("FixpointEngineModel", "answerCell", "[J", true)
  | 87 => ("FixpointEngineModel", "orderKey", "[J", true)
  | 88 => ("FixpointEngineModel", "answerWidth", "I", false)
  | 89 => ("FixpointEngineModel", "order", "[I", true)
  | 90 => ("FixpointEngineModel", "roundCount", "[I", true)
  | 91 => ("FixpointEngineModel", "brought", "[I", true)
  | 92 => ("FixpointEngineModel", "answerComponents", "I", false)
  | 93 => ("FixpointEngineModel", "partSize", "[I", true)
  | 94 => ("FixpointEngineModel", "answerParts", "I", false)
  | 95 => ("FixpointEngineModel", "candidate", "[I", true)
  | 96 => ("FixpointEngineModel", "candidates", "[I", true)
  | 97 => ("FixpointEngineModel", "pick", "[I", true)
  | 98 => ("FixpointEngineModel", "at", "[I", true)
  | 99 => ("FixpointEngineModel", "groups", "I", false)
  | 100 => ("FixpointEngineModel", "groupItem", "[J", true)
  | _ => ("FixpointEngineModel", "groupCount", "[J", true)
def K_M : List (Nat × Nat) := [(0, 0), (0, 0), (2, 20), (2, 20), (2, 21), (0, 0), (2, 20), (2, 21), (0, 0), (0, 0), (2, 20), (2, 20), (2, 21), (0, 0), (0, 0), (0, 0), (0, 0), (0, 0), (0, 0), (2, 20), (2, 20), (2, 20), (2, 20), (2, 20), (2, 20), (2, 20), (2, 20), (2, 20), (2, 20), (2, 31), (2, 31), (2, 20), (2, 20), (0, 0), (0, 0), (2, 20), (2, 20), (2, 20), (2, 20), (2, 20), (2, 20), (2, 20), (2, 20), (2, 31), (0, 0), (2, 20), (2, 20), (0, 0), (0, 0), (2, 20), (2, 20), (2, 20), (2, 20), (2, 20), (2, 20), (2, 20), (0, 0), (2, 20), (2, 20), (2, 20), (0, 0), (2, 20), (2, 20), (2, 20), (2, 20), (2, 20), (2, 20), (2, 20), (0, 0), (0, 0), (2, 20), (2, 20), (2, 20), (2, 20), (2, 20), (2, 20), (0, 0), (0, 0), (2, 20), (2, 21), (2, 20), (2, 21), (2, 20), (2, 21), (0, 0), (0, 0), (2, 21), (2, 21), (0, 0), (2, 20), (2, 20), (2, 20), (0, 0), (2, 20), (0, 0), (2, 20), (2, 20), (2, 20), (2, 20), (0, 0), (2, 21), (2, 21)]
def F_Re : u_T := fun k => match k with
  | 0 => ("FixpointEngine$Reader", "letters", "[C", true)
  | 1 => ("FixpointEngine$Reader", "length", "I", false)
  | 2 => ("FixpointEngine$Reader", "kinds", "[LFixpointEngine$Kind;", true)
  | 3 => ("FixpointEngine$Reader", "places", "[I", true)
  | 4 => ("FixpointEngine$Reader", "words", "[J", true)
  | 5 => ("FixpointEngine$Reader", "at", "I", false)
  | 6 => ("FixpointEngine$Reader", "stuck", "Z", false)
  | 7 => ("FixpointEngine$Reader", "query", "LFixpointEngine$Query;", false)
  | 8 => ("FixpointEngine$Reader", "selection", "LFixpointEngine$Selection;", false)
  | _ => ("FixpointEngine$Reader", "top", "LFixpointEngine$Condition;", false)
def K_Re : List (Nat × Nat) := [(2, 22), (0, 0), (2, 23), (2, 20), (2, 21), (0, 0), (0, 0), (2, 6), (2, 8), (2, 10)]
def F_Ch : u_T := fun k => match k with
  | 0 => ("FixpointEngine$Checker", "query", "LFixpointEngine$Query;", false)
  | 1 => ("FixpointEngine$Checker", "tables", "[LFixpointEngine$Relation;", false)
  | 2 => ("FixpointEngine$Checker", "tableCount", "I", false)
  | _ => ("FixpointEngine$Checker", "lowest", "I", false)
def K_Ch : List (Nat × Nat) := [(2, 6), (2, 29), (0, 0), (0, 0)]
def F_Ru : u_T := fun k => match k with
  | 0 => ("FixpointEngine$Runner", "relations", "[LFixpointEngine$Relation;", true)
  | 1 => ("FixpointEngine$Runner", "tally", "[I", true)
  | 2 => ("FixpointEngine$Runner", "sorted", "[I", true)
  | 3 => ("FixpointEngine$Runner", "keys", "[J", true)
  | 4 => ("FixpointEngine$Runner", "items", "[J", true)
  | 5 => ("FixpointEngine$Runner", "gathered", "[J", true)
  | 6 => ("FixpointEngine$Runner", "counted", "[I", true)
  | 7 => ("FixpointEngine$Runner", "query", "LFixpointEngine$Query;", false)
  | 8 => ("FixpointEngine$Runner", "tables", "[LFixpointEngine$Relation;", false)
  | 9 => ("FixpointEngine$Runner", "mostRounds", "I", false)
  | 10 => ("FixpointEngine$Runner", "allowed", "I", false)
  | 11 => ("FixpointEngine$Runner", "total", "I", false)
  | 12 => ("FixpointEngine$Runner", "selection", "LFixpointEngine$Selection;", false)
  | 13 => ("FixpointEngine$Runner", "part", "LFixpointEngine$Part;", false)
  | 14 => ("FixpointEngine$Runner", "target", "LFixpointEngine$Relation;", false)
  | 15 => ("FixpointEngine$Runner", "groupCount", "I", false)
  | 16 => ("FixpointEngine$Runner", "crowded", "Z", false)
  | _ => ("FixpointEngine$Runner", "overfull", "Z", false)
def K_Ru : List (Nat × Nat) := [(2, 29), (2, 20), (2, 20), (2, 21), (2, 21), (2, 21), (2, 20), (2, 6), (2, 29), (0, 0), (0, 0), (0, 0), (2, 8), (2, 7), (2, 5), (0, 0), (0, 0), (0, 0)]
def F_Rl : u_T := fun k => match k with
  | 0 => ("FixpointEngine$Relation", "columns", "I", true)
  | 1 => ("FixpointEngine$Relation", "cells", "[J", true)
  | 2 => ("FixpointEngine$Relation", "parents", "[I", true)
  | 3 => ("FixpointEngine$Relation", "lengths", "[I", true)
  | 4 => ("FixpointEngine$Relation", "count", "I", false)
  | 5 => ("FixpointEngine$Relation", "start", "I", false)
  | _ => ("FixpointEngine$Relation", "before", "I", false)
def K_Rl : List (Nat × Nat) := [(0, 0), (2, 21), (2, 20), (2, 20), (0, 0), (0, 0), (0, 0)]
def F_Qu : u_T := fun k => match k with
  | 0 => ("FixpointEngine$Query", "parts", "[LFixpointEngine$Part;", true)
  | 1 => ("FixpointEngine$Query", "partCount", "I", false)
  | 2 => ("FixpointEngine$Query", "recursive", "Z", false)
  | 3 => ("FixpointEngine$Query", "own", "LFixpointEngine$Selection;", false)
  | 4 => ("FixpointEngine$Query", "order", "[LFixpointEngine$Term;", true)
  | 5 => ("FixpointEngine$Query", "orderCount", "I", false)
  | 6 => ("FixpointEngine$Query", "orderPlace", "I", false)
  | 7 => ("FixpointEngine$Query", "componentCount", "I", false)
  | 8 => ("FixpointEngine$Query", "sources", "Ljava/util/ArrayList;", true)
  | _ => ("FixpointEngine$Query", "columns", "Ljava/util/ArrayList;", true)
def K_Qu : List (Nat × Nat) := [(2, 24), (0, 0), (0, 0), (2, 8), (2, 26), (0, 0), (0, 0), (0, 0), (2, 12), (2, 12)]
def F_Pa : u_T := fun k => match k with
  | 0 => ("FixpointEngine$Part", "name", "J", false)
  | 1 => ("FixpointEngine$Part", "place", "I", false)
  | 2 => ("FixpointEngine$Part", "width", "I", false)
  | 3 => ("FixpointEngine$Part", "words", "[J", true)
  | 4 => ("FixpointEngine$Part", "places", "[I", true)
  | 5 => ("FixpointEngine$Part", "breadth", "Z", false)
  | 6 => ("FixpointEngine$Part", "searched", "Z", false)
  | 7 => ("FixpointEngine$Part", "cycled", "Z", false)
  | 8 => ("FixpointEngine$Part", "union", "Z", false)
  | 9 => ("FixpointEngine$Part", "unionAll", "Z", false)
  | 10 => ("FixpointEngine$Part", "selections", "[LFixpointEngine$Selection;", true)
  | 11 => ("FixpointEngine$Part", "selectionCount", "I", false)
  | 12 => ("FixpointEngine$Part", "needed", "I", false)
  | 13 => ("FixpointEngine$Part", "members", "I", false)
  | 14 => ("FixpointEngine$Part", "component", "I", false)
  | 15 => ("FixpointEngine$Part", "recursive", "Z", false)
  | 16 => ("FixpointEngine$Part", "searchColumn", "I", false)
  | _ => ("FixpointEngine$Part", "cycleColumn", "I", false)
def K_Pa : List (Nat × Nat) := [(1, 0), (0, 0), (0, 0), (2, 21), (2, 20), (0, 0), (0, 0), (0, 0), (0, 0), (0, 0), (2, 25), (0, 0), (0, 0), (0, 0), (0, 0), (0, 0), (0, 0), (0, 0)]
def F_Se : u_T := fun k => match k with
  | 0 => ("FixpointEngine$Selection", "owner", "I", true)
  | 1 => ("FixpointEngine$Selection", "place", "I", true)
  | 2 => ("FixpointEngine$Selection", "items", "[LFixpointEngine$Term;", true)
  | 3 => ("FixpointEngine$Selection", "gathers", "[LFixpointEngine$Kind;", true)
  | 4 => ("FixpointEngine$Selection", "itemCount", "I", false)
  | 5 => ("FixpointEngine$Selection", "gatherCount", "I", false)
  | 6 => ("FixpointEngine$Selection", "sources", "[LFixpointEngine$Source;", true)
  | 7 => ("FixpointEngine$Selection", "sourceCount", "I", false)
  | 8 => ("FixpointEngine$Selection", "conditions", "[LFixpointEngine$Condition;", true)
  | 9 => ("FixpointEngine$Selection", "conditionCount", "I", false)
  | 10 => ("FixpointEngine$Selection", "namings", "I", false)
  | _ => ("FixpointEngine$Selection", "risky", "Z", false)
def K_Se : List (Nat × Nat) := [(0, 0), (0, 0), (2, 26), (2, 23), (0, 0), (0, 0), (2, 27), (0, 0), (2, 28), (0, 0), (0, 0), (0, 0)]
def F_So : u_T := fun k => match k with
  | 0 => ("FixpointEngine$Source", "selection", "LFixpointEngine$Selection;", true)
  | 1 => ("FixpointEngine$Source", "slot", "I", true)
  | 2 => ("FixpointEngine$Source", "place", "I", true)
  | 3 => ("FixpointEngine$Source", "name", "J", false)
  | 4 => ("FixpointEngine$Source", "aliasPlace", "I", false)
  | 5 => ("FixpointEngine$Source", "alias", "J", false)
  | 6 => ("FixpointEngine$Source", "part", "I", false)
  | 7 => ("FixpointEngine$Source", "table", "I", false)
  | 8 => ("FixpointEngine$Source", "relation", "LFixpointEngine$Relation;", false)
  | 9 => ("FixpointEngine$Source", "from", "I", false)
  | 10 => ("FixpointEngine$Source", "to", "I", false)
  | 11 => ("FixpointEngine$Source", "at", "I", false)
  | _ => ("FixpointEngine$Source", "unmarked", "Z", false)
def K_So : List (Nat × Nat) := [(2, 8), (0, 0), (0, 0), (1, 0), (0, 0), (1, 0), (0, 0), (0, 0), (2, 5), (0, 0), (0, 0), (0, 0), (0, 0)]
def F_Co : u_T := fun k => match k with
  | 0 => ("FixpointEngine$Condition", "test", "LFixpointEngine$Kind;", false)
  | 1 => ("FixpointEngine$Condition", "left", "LFixpointEngine$Term;", false)
  | 2 => ("FixpointEngine$Condition", "right", "LFixpointEngine$Term;", false)
  | 3 => ("FixpointEngine$Condition", "source", "LFixpointEngine$Source;", false)
  | 4 => ("FixpointEngine$Condition", "inner", "[LFixpointEngine$Condition;", true)
  | 5 => ("FixpointEngine$Condition", "innerCount", "I", false)
  | _ => ("FixpointEngine$Condition", "level", "I", false)
def K_Co : List (Nat × Nat) := [(2, 13), (2, 11), (2, 11), (2, 9), (2, 28), (0, 0), (0, 0)]
def F_Te : u_T := fun k => match k with
  | 0 => ("FixpointEngine$Term", "minus", "Z", true)
  | 1 => ("FixpointEngine$Term", "place", "I", true)
  | 2 => ("FixpointEngine$Term", "selection", "LFixpointEngine$Selection;", true)
  | 3 => ("FixpointEngine$Term", "top", "LFixpointEngine$Condition;", true)
  | 4 => ("FixpointEngine$Term", "value", "J", false)
  | 5 => ("FixpointEngine$Term", "alias", "J", false)
  | 6 => ("FixpointEngine$Term", "name", "J", false)
  | 7 => ("FixpointEngine$Term", "ordering", "Z", false)
  | 8 => ("FixpointEngine$Term", "source", "LFixpointEngine$Source;", false)
  | 9 => ("FixpointEngine$Term", "index", "I", false)
  | _ => ("FixpointEngine$Term", "next", "LFixpointEngine$Term;", false)
def K_Te : List (Nat × Nat) := [(0, 0), (0, 0), (2, 8), (2, 10), (1, 0), (1, 0), (1, 0), (0, 0), (2, 9), (0, 0), (2, 11)]
def F_Al : u_T := fun k => match k with
  | 0 => ("java/util/AbstractList", "modCount", "I", false)
  | 1 => ("java/util/ArrayList", "elementData", "[Ljava/lang/Object;", false)
  | _ => ("java/util/ArrayList", "size", "I", false)
def K_Al : List (Nat × Nat) := [(0, 0), (2, 30), (0, 0)]
def g_objs : List (Nat × vw_C × List (Nat × Nat)) := [(0, ("FixpointEngine", F_E, 8), K_E), (1, ("FixpointEngineModel", F_M, 102), K_M), (2, ("FixpointEngine$Reader", F_Re, 10), K_Re), (3, ("FixpointEngine$Checker", F_Ch, 4), K_Ch), (4, ("FixpointEngine$Runner", F_Ru, 18), K_Ru), (5, ("FixpointEngine$Relation", F_Rl, 7), K_Rl), (6, ("FixpointEngine$Query", F_Qu, 10), K_Qu), (7, ("FixpointEngine$Part", F_Pa, 18), K_Pa), (8, ("FixpointEngine$Selection", F_Se, 12), K_Se), (9, ("FixpointEngine$Source", F_So, 13), K_So), (10, ("FixpointEngine$Condition", F_Co, 7), K_Co), (11, ("FixpointEngine$Term", F_Te, 11), K_Te), (12, ("java/util/ArrayList", F_Al, 3), K_Al)]
def g_arrs : List (Nat × FieldType × Nat × Nat) := [(20, .int, 0, 0), (21, .long, 1, 0), (22, .char, 0, 0), (23, (.object "FixpointEngine$Kind"), 2, 13), (24, (.object "FixpointEngine$Part"), 2, 7), (25, (.object "FixpointEngine$Selection"), 2, 8), (26, (.object "FixpointEngine$Term"), 2, 11), (27, (.object "FixpointEngine$Source"), 2, 9), (28, (.object "FixpointEngine$Condition"), 2, 10), (29, (.object "FixpointEngine$Relation"), 2, 5), (30, (.object "java/lang/Object"), 2, 63), (31, .boolean, 0, 0)]
def g_olds : List (Nat × Nat) := [(13, 40), (14, 75), (30, 1), (40, 1), (41, 1)]
def g_exn : List String := ["java/lang/IllegalArgumentException", "java/lang/IllegalStateException", "java/lang/ArithmeticException", "java/lang/UnsupportedOperationException", "java/util/NoSuchElementException", "java/lang/IndexOutOfBoundsException"]
/-- the constants of Kind in their order; which text each has; the texts -/
def g_kn : List String := ["WITH", "RECURSIVE", "AS", "SELECT", "FROM", "WHERE", "AND", "NOT", "EXISTS", "IS", "NULL_WORD", "UNION", "ALL", "SEARCH", "DEPTH", "BREADTH", "FIRST", "BY", "SET", "CYCLE", "COUNT", "SUM", "MIN", "MAX", "ORDER", "COMMA", "OPEN", "CLOSE", "DOT", "PLUS", "MINUS", "EQUAL", "LESS", "GREATER", "STAR", "UNEQUAL", "NAME", "NUMBER", "END", "ODD"]
def g_kw : List Nat := [0, 1, 2, 3, 4, 5, 6, 7, 8, 9, 10, 11, 12, 13, 14, 15, 16, 17, 18, 19, 20, 21, 22, 23, 24, 25, 26, 27, 28, 29, 30, 31, 32, 33, 34, 35, 36, 36, 36, 36]
def g_tx : List (List Int32) := [[87, 73, 84, 72], [82, 69, 67, 85, 82, 83, 73, 86, 69], [65, 83], [83, 69, 76, 69, 67, 84], [70, 82, 79, 77], [87, 72, 69, 82, 69], [65, 78, 68], [78, 79, 84], [69, 88, 73, 83, 84, 83], [73, 83], [78, 85, 76, 76], [85, 78, 73, 79, 78], [65, 76, 76], [83, 69, 65, 82, 67, 72], [68, 69, 80, 84, 72], [66, 82, 69, 65, 68, 84, 72], [70, 73, 82, 83, 84], [66, 89], [83, 69, 84], [67, 89, 67, 76, 69], [67, 79, 85, 78, 84], [83, 85, 77], [77, 73, 78], [77, 65, 88], [79, 82, 68, 69, 82], [44], [40], [41], [46], [43], [45], [61], [60], [62], [42], [60, 62], []]
def g_swt : List Int32 := [0, 0, 0, 0, 0, 0, 0, 0, 0, 0, 0, 0, 0, 0, 0, 0, 0, 0, 0, 0, 0, 0, 0, 0, 0, 0, 0, 0, 0, 0, 0, 1, 3, 4, 0, 2, 0, 0, 0, 0]
def g_stZ : List (String × String × String × (Int32 ⊕ Nat)) := (List.range 40).map (fun i => ("FixpointEngine$Kind", g_kn.getD i "", "LFixpointEngine$Kind;", .inr (i * 64 + 13))) ++ [("FixpointEngine$1", "$SwitchMap$FixpointEngine$Kind", "[I", .inr 40), ("FixpointEngine", "KINDS", "[LFixpointEngine$Kind;", .inr 41), ("java/lang/String", "COMPACT_STRINGS", "Z", .inl 1), ("java/util/ArrayList", "DEFAULTCAPACITY_EMPTY_ELEMENTDATA", "[Ljava/lang/Object;", .inr 30)]
def g_stO : List (Nat × String) := (List.range 40).map (fun i => (i * 64 + 13, "FixpointEngine$Kind")) ++ (List.range 37).map (fun i => (i * 64 + 14, "java/lang/String"))
def g_stF : List (Nat × String × String × String × (Int32 ⊕ Nat)) := (List.range 40).map (fun i => (i * 64 + 13, "java/lang/Enum", "ordinal", "I", .inl (Int32.ofNat i))) ++ ((List.range 40).map (fun i => (i * 64 + 13, "FixpointEngine$Kind", "word", "Ljava/lang/String;", .inr (g_kw.getD i 0 * 64 + 14))) ++ ((List.range 37).map (fun i => (i * 64 + 14, "java/lang/String", "coder", "B", .inl 0)) ++ (List.range 37).map (fun i => (i * 64 + 14, "java/lang/String", "value", "[B", .inr ((i + 37) * 64 + 14)))))
def g_stT : List (Nat × FieldType × List (Int32 ⊕ Nat)) := (List.range 37).map (fun i => ((i + 37) * 64 + 14, .byte, (g_tx.getD i []).map Sum.inl)) ++ [(40, .int, g_swt.map Sum.inl), (41, .object "FixpointEngine$Kind", (List.range 40).map (fun i => .inr (i * 64 + 13))), (30, .object "java/lang/Object", [])]
/-- statics of the JDK of which only is said that they are references; texts of exceptions -/
def g_stQ : List (String × String × String) := [("java/lang/Throwable", "UNASSIGNED_STACK", "[Ljava/lang/StackTraceElement;"), ("java/lang/Throwable", "SUPPRESSED_SENTINEL", "Ljava/util/List;")]
def g_strs : List (String × Nat × String) := [("FixpointEngine", 53, "a table has one to three columns"), ("FixpointEngine", 60, "there are five tables"), ("FixpointEngine", 66, "there is no such table"), ("FixpointEngine", 71, "the table has sixteen rows"), ("FixpointEngine", 98, "the text has a fault"), ("FixpointEngine", 107, "there is no such part"), ("FixpointEngine", 128, "what is 0, 1 or 2"), ("FixpointEngine", 130, "rounds are 1 to 30, rows 1 to 48"), ("FixpointEngine", 132, "there is no query"), ("FixpointEngine", 165, "there is no such cell"), ("FixpointEngine", 172, "there is no answer, or no such part"), ("FixpointEngine", 177, "there is no answer, no such component or round"), ("FixpointEngine$Runner", 96, "more rounds than allowed"), ("FixpointEngine$Runner", 168, "more rows than allowed"), ("FixpointEngine$Runner", 285, "an item is out of range"), ("FixpointEngine$Runner", 319, "more groups than rows are allowed"), ("FixpointEngine$Runner", 321, "a SUM, MIN or MAX is out of range")]
def g_fix : List Nat := [13, 14, 40, 41]
theorem g_objs_14 : ∀ q ∈ g_objs, q.1 ≠ 14 ∧ q.1 ≠ 40 ∧ q.1 ≠ 41 := by
  have h : ((g_objs.map fun q => q.1).all fun n => decide (n ≠ 14 ∧ n ≠ 40 ∧ n ≠ 41)) = true := by decide +kernel
  intro q hq
  exact of_decide_eq_true (List.all_eq_true.mp h q.1 (List.mem_map.mpr ⟨q, hq, rfl⟩))
theorem g_arrs_14 : ∀ q ∈ g_arrs, q.1 ≠ 14 ∧ q.1 ≠ 40 ∧ q.1 ≠ 41 := by
  have h : ((g_arrs.map fun q => q.1).all fun n => decide (n ≠ 14 ∧ n ≠ 40 ∧ n ≠ 41)) = true := by decide +kernel
  intro q hq
  exact of_decide_eq_true (List.all_eq_true.mp h q.1 (List.mem_map.mpr ⟨q, hq, rfl⟩))
theorem g_objs_fix : ∀ q ∈ g_objs, q.1 ∉ g_fix := by
  have h : ((g_objs.map fun q => q.1).all fun n => decide (n ∉ g_fix)) = true := by decide +kernel
  intro q hq
  exact of_decide_eq_true (List.all_eq_true.mp h q.1 (List.mem_map.mpr ⟨q, hq, rfl⟩))
theorem g_arrs_fix : ∀ q ∈ g_arrs, q.1 ∉ g_fix := by
  have h : ((g_arrs.map fun q => q.1).all fun n => decide (n ∉ g_fix)) = true := by decide +kernel
  intro q hq
  exact of_decide_eq_true (List.all_eq_true.mp h q.1 (List.mem_map.mpr ⟨q, hq, rfl⟩))
theorem g_objs_nd : (g_objs.map fun q => q.1).Nodup := by decide +kernel
theorem g_arrs_nd : (g_arrs.map fun q => q.1).Nodup := by decide +kernel
theorem g_objs_lt : ∀ q ∈ g_objs, q.1 < 63 := by
  have h : ((g_objs.map fun q => q.1).all fun n => decide (n < 63)) = true := by decide +kernel
  intro q hq
  exact of_decide_eq_true (List.all_eq_true.mp h q.1 (List.mem_map.mpr ⟨q, hq, rfl⟩))
theorem g_arrs_lt : ∀ q ∈ g_arrs, q.1 < 63 := by
  have h : ((g_arrs.map fun q => q.1).all fun n => decide (n < 63)) = true := by decide +kernel
  intro q hq
  exact of_decide_eq_true (List.all_eq_true.mp h q.1 (List.mem_map.mpr ⟨q, hq, rfl⟩))
theorem g_apart : ∀ q ∈ g_objs, ∀ q2 ∈ g_arrs, q.1 ≠ q2.1 := by
  have h : ((g_objs.map fun q => q.1).all fun n => (g_arrs.map fun q => q.1).all fun k => decide (n ≠ k)) = true := by decide +kernel
  intro q hq q2 hq2
  exact of_decide_eq_true (List.all_eq_true.mp (List.all_eq_true.mp h q.1 (List.mem_map.mpr ⟨q, hq, rfl⟩)) q2.1 (List.mem_map.mpr ⟨q2, hq2, rfl⟩))
/-- words that stay true under warmer tables -/
def g_cls (w : Cond) : Bool := match w with
  | .methodLinkNest .. => true
  | .fieldLinkNest .. => true
  | .castable .. => true
  | .declares _ => true
  | .arrayClass _ => true
  | .arrayOver (.object _) => true
  | w => w.onTables && w.keeps
def g_tbl : List Cond := lw_tbl.filter g_cls
theorem g_tbl_cls : ∀ w ∈ g_tbl, g_cls w = true := fun _ h => (List.mem_filter.mp h).2
theorem g_tbl_in : ∀ w ∈ g_tbl, w ∈ lw_tbl := fun _ h => (List.mem_filter.mp h).1
theorem g_mp (i : Nat) {w : Cond} (h : (k2_sels lw_privs)[i]? = some w) (hc : g_cls w = true) : w ∈ g_tbl := List.mem_filter.mpr ⟨List.mem_append_left _ (List.mem_of_getElem? h), hc⟩
theorem g_m1 (i : Nat) {w : Cond} (h : tables_1_1[i]? = some w) (hc : g_cls w = true) : w ∈ g_tbl := List.mem_filter.mpr ⟨List.mem_append_right _ (List.mem_append_left _ (List.mem_of_getElem? h)), hc⟩
theorem g_m2 (i : Nat) {w : Cond} (h : tables_1_2[i]? = some w) (hc : g_cls w = true) : w ∈ g_tbl := List.mem_filter.mpr ⟨List.mem_append_right _ (List.mem_append_right _ (List.mem_append_left _ (List.mem_of_getElem? h))), hc⟩
theorem g_m3 (i : Nat) {w : Cond} (h : tables_1_3[i]? = some w) (hc : g_cls w = true) : w ∈ g_tbl := List.mem_filter.mpr ⟨List.mem_append_right _ (List.mem_append_right _ (List.mem_append_right _ (List.mem_append_left _ (List.mem_of_getElem? h)))), hc⟩
theorem g_m4 (i : Nat) {w : Cond} (h : tables_1_4[i]? = some w) (hc : g_cls w = true) : w ∈ g_tbl := List.mem_filter.mpr ⟨List.mem_append_right _ (List.mem_append_right _ (List.mem_append_right _ (List.mem_append_right _ (List.mem_append_left _ (List.mem_of_getElem? h))))), hc⟩
theorem g_m5 (i : Nat) {w : Cond} (h : tables_1_5[i]? = some w) (hc : g_cls w = true) : w ∈ g_tbl := List.mem_filter.mpr ⟨List.mem_append_right _ (List.mem_append_right _ (List.mem_append_right _ (List.mem_append_right _ (List.mem_append_right _ (List.mem_append_left _ (List.mem_of_getElem? h)))))), hc⟩
theorem g_m6 (i : Nat) {w : Cond} (h : tables_1_6[i]? = some w) (hc : g_cls w = true) : w ∈ g_tbl := List.mem_filter.mpr ⟨List.mem_append_right _ (List.mem_append_right _ (List.mem_append_right _ (List.mem_append_right _ (List.mem_append_right _ (List.mem_append_right _ (List.mem_append_left _ (List.mem_of_getElem? h))))))), hc⟩
theorem g_m7 (i : Nat) {w : Cond} (h : tables_1_7[i]? = some w) (hc : g_cls w = true) : w ∈ g_tbl := List.mem_filter.mpr ⟨List.mem_append_right _ (List.mem_append_right _ (List.mem_append_right _ (List.mem_append_right _ (List.mem_append_right _ (List.mem_append_right _ (List.mem_append_right _ (List.mem_append_left _ (List.mem_of_getElem? h)))))))), hc⟩
theorem g_m8 (i : Nat) {w : Cond} (h : tables_1_8[i]? = some w) (hc : g_cls w = true) : w ∈ g_tbl := List.mem_filter.mpr ⟨List.mem_append_right _ (List.mem_append_right _ (List.mem_append_right _ (List.mem_append_right _ (List.mem_append_right _ (List.mem_append_right _ (List.mem_append_right _ (List.mem_append_right _ (List.mem_append_left _ (List.mem_of_getElem? h))))))))), hc⟩
theorem g_m9 (i : Nat) {w : Cond} (h : tables_1_9[i]? = some w) (hc : g_cls w = true) : w ∈ g_tbl := List.mem_filter.mpr ⟨List.mem_append_right _ (List.mem_append_right _ (List.mem_append_right _ (List.mem_append_right _ (List.mem_append_right _ (List.mem_append_right _ (List.mem_append_right _ (List.mem_append_right _ (List.mem_append_right _ (List.mem_append_left _ (List.mem_of_getElem? h)))))))))), hc⟩
theorem g_m10 (i : Nat) {w : Cond} (h : tables_1_10[i]? = some w) (hc : g_cls w = true) : w ∈ g_tbl := List.mem_filter.mpr ⟨List.mem_append_right _ (List.mem_append_right _ (List.mem_append_right _ (List.mem_append_right _ (List.mem_append_right _ (List.mem_append_right _ (List.mem_append_right _ (List.mem_append_right _ (List.mem_append_right _ (List.mem_append_right _ (List.mem_of_getElem? h)))))))))), hc⟩
theorem in_E : ∀ w ∈ u_ws "FixpointEngine" F_E 8, w ∈ g_tbl := by
  intro w hw
  obtain ⟨k, hk, rfl⟩ := List.mem_map.mp hw
  have hk := List.mem_range.mp hk
  match k, hk with
  | 0, _ => exact g_m1 220 rfl rfl
  | 1, _ => exact g_m1 222 rfl rfl
  | 2, _ => exact g_m1 224 rfl rfl
  | 3, _ => exact g_m1 226 rfl rfl
  | 4, _ => exact g_m1 228 rfl rfl
  | 5, _ => exact g_m1 230 rfl rfl
  | 6, _ => exact g_m1 232 rfl rfl
  | 7, _ => exact g_m1 234 rfl rfl
  | k + 8, hk => exact absurd hk (by omega)
theorem in_M : ∀ w ∈ u_ws "FixpointEngineModel" F_M 102, w ∈ g_tbl := by
  intro w hw
  obtain ⟨k, hk, rfl⟩ := List.mem_map.mp hw
  have hk := List.mem_range.mp hk
  match k, hk with
  | 0, _ => exact g_m7 134 rfl rfl
  | 1, _ => exact g_m7 136 rfl rfl
  | 2, _ => exact g_m7 138 rfl rfl
  | 3, _ => exact g_m7 140 rfl rfl
  | 4, _ => exact g_m7 142 rfl rfl
  | 5, _ => exact g_m7 144 rfl rfl
  | 6, _ => exact g_m7 146 rfl rfl
  | 7, _ => exact g_m7 148 rfl rfl
  | 8, _ => exact g_m7 150 rfl rfl
  | 9, _ => exact g_m7 152 rfl rfl
  | 10, _ => exact g_m7 154 rfl rfl
  | 11, _ => exact g_m7 156 rfl rfl
  | 12, _ => exact g_m7 158 rfl rfl
  | 13, _ => exact g_m7 160 rfl rfl
  | 14, _ => exact g_m7 162 rfl rfl
  | 15, _ => exact g_m7 164 rfl rfl
  | 16, _ => exact g_m7 166 rfl rfl
  | 17, _ => exact g_m7 168 rfl rfl
  | 18, _ => exact g_m7 170 rfl rfl
  | 19, _ => exact g_m7 172 rfl rfl
  | 20, _ => exact g_m7 174 rfl rfl
  | 21, _ => exact g_m7 176 rfl rfl
  | 22, _ => exact g_m7 178 rfl rfl
  | 23, _ => exact g_m7 180 rfl rfl
  | 24, _ => exact g_m7 182 rfl rfl
  | 25, _ => exact g_m7 184 rfl rfl
  | 26, _ => exact g_m7 186 rfl rfl
  | 27, _ => exact g_m7 188 rfl rfl
  | 28, _ => exact g_m7 190 rfl rfl
  | 29, _ => exact g_m7 192 rfl rfl
  | 30, _ => exact g_m7 194 rfl rfl
  | 31, _ => exact g_m7 196 rfl rfl
  | 32, _ => exact g_m7 198 rfl rfl
  | 33, _ => exact g_m7 200 rfl rfl
  | 34, _ => exact g_m7 202 rfl rfl
  | 35, _ => exact g_m7 204 rfl rfl
  | 36, _ => exact g_m7 206 rfl rfl
  | 37, _ => exact g_m7 208 rfl rfl
  | 38, _ => exact g_m7 210 rfl rfl
  | 39, _ => exact g_m7 212 rfl rfl
  | 40, _ => exact g_m7 214 rfl rfl
  | 41, _ => exact g_m7 216 rfl rfl
  | 42, _ => exact g_m7 218 rfl rfl
  | 43, _ => exact g_m7 220 rfl rfl
  | 44, _ => exact g_m7 222 rfl rfl
  | 45, _ => exact g_m7 224 rfl rfl
  | 46, _ => exact g_m7 226 rfl rfl
  | 47, _ => exact g_m7 228 rfl rfl
  | 48, _ => exact g_m7 230 rfl rfl
  | 49, _ => exact g_m7 232 rfl rfl
  | 50, _ => exact g_m7 234 rfl rfl
  | 51, _ => exact g_m7 236 rfl rfl
  | 52, _ => exact g_m7 238 rfl rfl
  | 53, _ => exact g_m8 0 rfl rfl
  | 54, _ => exact g_m8 2 rfl rfl
  | 55, _ => exact g_m8 4 rfl rfl
  | 56, _ => exact g_m8 6 rfl rfl
  | 57, _ => exact g_m8 8 rfl rfl
  | 58, _ => exact g_m8 10 rfl rfl
  | 59, _ => exact g_m8 12 rfl rfl
  | 60, _ => exact g_m8 14 rfl rfl
  | 61, _ => exact g_m8 16 rfl rfl
  | 62, _ => exact g_m8 18 rfl rfl
  | 63, _ => exact g_m8 20 rfl rfl
  | 64, _ => exact g_m8 22 rfl rfl
  | 65, _ => exact g_m8 24 rfl rfl
  | 66, _ => exact g_m8 26 rfl rfl
  | 67, _ => exact g_m8 28 rfl rfl
  | 68, _ => exact g_m8 30 rfl rfl
  | 69, _ => exact g_m8 32 rfl rfl
  | 70, _ => exact g_m8 34 rfl rfl
  | 71, _ => exact g_m8 36 rfl rfl
  | 72, _ => exact g_m8 38 rfl rfl
  | 73, _ => exact g_m8 40 rfl rfl
  | 74, _ => exact g_m8 42 rfl rfl
  | 75, _ => exact g_m8 44 rfl rfl
  | 76, _ => exact g_m8 46 rfl rfl
  | 77, _ => exact g_m8 48 rfl rfl
  | 78, _ => exact g_m8 50 rfl rfl
  | 79, _ => exact g_m8 52 rfl rfl
  | 80, _ => exact g_m8 54 rfl rfl
  | 81, _ => exact g_m8 56 rfl rfl
  | 82, _ => exact g_m8 58 rfl rfl
  | 83, _ => exact g_m8 60 rfl rfl
  | 84, _ => exact g_m8 62 rfl rfl
  | 85, _ => exact g_m8 64 rfl rfl
  | 86, _ => exact g_m8 66 rfl rfl
  | 87, _ => exact g_m8 68 rfl rfl
  | 88, _ => exact g_m8 70 rfl rfl
  | 89, _ => exact g_m8 72 rfl rfl
  | 90, _ => exact g_m8 74 rfl rfl
  | 91, _ => exact g_m8 76 rfl rfl
  | 92, _ => exact g_m8 78 rfl rfl
  | 93, _ => exact g_m8 80 rfl rfl
  | 94, _ => exact g_m8 82 rfl rfl
  | 95, _ => exact g_m8 84 rfl rfl
  | 96, _ => exact g_m8 86 rfl rfl
  | 97, _ => exact g_m8 88 rfl rfl
  | 98, _ => exact g_m8 90 rfl rfl
  | 99, _ => exact g_m8 92 rfl rfl
  | 100, _ => exact g_m8 94 rfl rfl
  | 101, _ => exact g_m8 96 rfl rfl
  | k + 102, hk => exact absurd hk (by omega)
theorem in_Re : ∀ w ∈ u_ws "FixpointEngine$Reader" F_Re 10, w ∈ g_tbl := by
  intro w hw
  obtain ⟨k, hk, rfl⟩ := List.mem_map.mp hw
  have hk := List.mem_range.mp hk
  match k, hk with
  | 0, _ => exact g_m1 68 rfl rfl
  | 1, _ => exact g_m1 70 rfl rfl
  | 2, _ => exact g_m1 72 rfl rfl
  | 3, _ => exact g_m1 74 rfl rfl
  | 4, _ => exact g_m1 76 rfl rfl
  | 5, _ => exact g_m1 78 rfl rfl
  | 6, _ => exact g_m1 80 rfl rfl
  | 7, _ => exact g_m1 82 rfl rfl
  | 8, _ => exact g_m1 84 rfl rfl
  | 9, _ => exact g_m1 86 rfl rfl
  | k + 10, hk => exact absurd hk (by omega)
theorem in_Ch : ∀ w ∈ u_ws "FixpointEngine$Checker" F_Ch 4, w ∈ g_tbl := by
  intro w hw
  obtain ⟨k, hk, rfl⟩ := List.mem_map.mp hw
  have hk := List.mem_range.mp hk
  match k, hk with
  | 0, _ => exact g_m1 102 rfl rfl
  | 1, _ => exact g_m1 104 rfl rfl
  | 2, _ => exact g_m1 106 rfl rfl
  | 3, _ => exact g_m1 108 rfl rfl
  | k + 4, hk => exact absurd hk (by omega)
theorem in_Ru : ∀ w ∈ u_ws "FixpointEngine$Runner" F_Ru 18, w ∈ g_tbl := by
  intro w hw
  obtain ⟨k, hk, rfl⟩ := List.mem_map.mp hw
  have hk := List.mem_range.mp hk
  match k, hk with
  | 0, _ => exact g_m1 175 rfl rfl
  | 1, _ => exact g_m1 177 rfl rfl
  | 2, _ => exact g_m1 179 rfl rfl
  | 3, _ => exact g_m1 181 rfl rfl
  | 4, _ => exact g_m1 183 rfl rfl
  | 5, _ => exact g_m1 185 rfl rfl
  | 6, _ => exact g_m1 187 rfl rfl
  | 7, _ => exact g_m1 189 rfl rfl
  | 8, _ => exact g_m1 191 rfl rfl
  | 9, _ => exact g_m1 193 rfl rfl
  | 10, _ => exact g_m1 195 rfl rfl
  | 11, _ => exact g_m1 197 rfl rfl
  | 12, _ => exact g_m1 199 rfl rfl
  | 13, _ => exact g_m1 201 rfl rfl
  | 14, _ => exact g_m1 203 rfl rfl
  | 15, _ => exact g_m1 205 rfl rfl
  | 16, _ => exact g_m1 207 rfl rfl
  | 17, _ => exact g_m1 209 rfl rfl
  | k + 18, hk => exact absurd hk (by omega)
theorem in_Rl : ∀ w ∈ u_ws "FixpointEngine$Relation" F_Rl 7, w ∈ g_tbl := by
  intro w hw
  obtain ⟨k, hk, rfl⟩ := List.mem_map.mp hw
  have hk := List.mem_range.mp hk
  match k, hk with
  | 0, _ => exact g_m1 139 rfl rfl
  | 1, _ => exact g_m1 141 rfl rfl
  | 2, _ => exact g_m1 143 rfl rfl
  | 3, _ => exact g_m1 145 rfl rfl
  | 4, _ => exact g_m1 147 rfl rfl
  | 5, _ => exact g_m1 149 rfl rfl
  | 6, _ => exact g_m1 151 rfl rfl
  | k + 7, hk => exact absurd hk (by omega)
theorem in_Qu : ∀ w ∈ u_ws "FixpointEngine$Query" F_Qu 10, w ∈ g_tbl := by
  intro w hw
  obtain ⟨k, hk, rfl⟩ := List.mem_map.mp hw
  have hk := List.mem_range.mp hk
  match k, hk with
  | 0, _ => exact g_m3 52 rfl rfl
  | 1, _ => exact g_m3 54 rfl rfl
  | 2, _ => exact g_m3 56 rfl rfl
  | 3, _ => exact g_m3 58 rfl rfl
  | 4, _ => exact g_m3 60 rfl rfl
  | 5, _ => exact g_m3 62 rfl rfl
  | 6, _ => exact g_m3 64 rfl rfl
  | 7, _ => exact g_m3 66 rfl rfl
  | 8, _ => exact g_m3 68 rfl rfl
  | 9, _ => exact g_m3 70 rfl rfl
  | k + 10, hk => exact absurd hk (by omega)
theorem in_Pa : ∀ w ∈ u_ws "FixpointEngine$Part" F_Pa 18, w ∈ g_tbl := by
  intro w hw
  obtain ⟨k, hk, rfl⟩ := List.mem_map.mp hw
  have hk := List.mem_range.mp hk
  match k, hk with
  | 0, _ => exact g_m3 148 rfl rfl
  | 1, _ => exact g_m3 150 rfl rfl
  | 2, _ => exact g_m3 152 rfl rfl
  | 3, _ => exact g_m3 154 rfl rfl
  | 4, _ => exact g_m3 156 rfl rfl
  | 5, _ => exact g_m3 158 rfl rfl
  | 6, _ => exact g_m3 160 rfl rfl
  | 7, _ => exact g_m3 162 rfl rfl
  | 8, _ => exact g_m3 164 rfl rfl
  | 9, _ => exact g_m3 166 rfl rfl
  | 10, _ => exact g_m3 168 rfl rfl
  | 11, _ => exact g_m3 170 rfl rfl
  | 12, _ => exact g_m3 172 rfl rfl
  | 13, _ => exact g_m3 174 rfl rfl
  | 14, _ => exact g_m3 176 rfl rfl
  | 15, _ => exact g_m3 178 rfl rfl
  | 16, _ => exact g_m3 180 rfl rfl
  | 17, _ => exact g_m3 182 rfl rfl
  | k + 18, hk => exact absurd hk (by omega)
theorem in_Se : ∀ w ∈ u_ws "FixpointEngine$Selection" F_Se 12, w ∈ g_tbl := by
  intro w hw
  obtain ⟨k, hk, rfl⟩ := List.mem_map.mp hw
  have hk := List.mem_range.mp hk
  match k, hk with
  | 0, _ => exact g_m4 15 rfl rfl
  | 1, _ => exact g_m4 17 rfl rfl
  | 2, _ => exact g_m4 19 rfl rfl
  | 3, _ => exact g_m4 21 rfl rfl
  | 4, _ => exact g_m4 23 rfl rfl
  | 5, _ => exact g_m4 25 rfl rfl
  | 6, _ => exact g_m4 27 rfl rfl
  | 7, _ => exact g_m4 29 rfl rfl
  | 8, _ => exact g_m4 31 rfl rfl
  | 9, _ => exact g_m4 33 rfl rfl
  | 10, _ => exact g_m4 35 rfl rfl
  | 11, _ => exact g_m4 37 rfl rfl
  | k + 12, hk => exact absurd hk (by omega)
theorem in_So : ∀ w ∈ u_ws "FixpointEngine$Source" F_So 13, w ∈ g_tbl := by
  intro w hw
  obtain ⟨k, hk, rfl⟩ := List.mem_map.mp hw
  have hk := List.mem_range.mp hk
  match k, hk with
  | 0, _ => exact g_m4 231 rfl rfl
  | 1, _ => exact g_m4 233 rfl rfl
  | 2, _ => exact g_m4 235 rfl rfl
  | 3, _ => exact g_m4 237 rfl rfl
  | 4, _ => exact g_m4 239 rfl rfl
  | 5, _ => exact g_m5 1 rfl rfl
  | 6, _ => exact g_m5 3 rfl rfl
  | 7, _ => exact g_m5 5 rfl rfl
  | 8, _ => exact g_m5 7 rfl rfl
  | 9, _ => exact g_m5 9 rfl rfl
  | 10, _ => exact g_m5 11 rfl rfl
  | 11, _ => exact g_m5 13 rfl rfl
  | 12, _ => exact g_m5 15 rfl rfl
  | k + 13, hk => exact absurd hk (by omega)
theorem in_Co : ∀ w ∈ u_ws "FixpointEngine$Condition" F_Co 7, w ∈ g_tbl := by
  intro w hw
  obtain ⟨k, hk, rfl⟩ := List.mem_map.mp hw
  have hk := List.mem_range.mp hk
  match k, hk with
  | 0, _ => exact g_m5 49 rfl rfl
  | 1, _ => exact g_m5 51 rfl rfl
  | 2, _ => exact g_m5 53 rfl rfl
  | 3, _ => exact g_m5 55 rfl rfl
  | 4, _ => exact g_m5 57 rfl rfl
  | 5, _ => exact g_m5 59 rfl rfl
  | 6, _ => exact g_m5 61 rfl rfl
  | k + 7, hk => exact absurd hk (by omega)
theorem in_Te : ∀ w ∈ u_ws "FixpointEngine$Term" F_Te 11, w ∈ g_tbl := by
  intro w hw
  obtain ⟨k, hk, rfl⟩ := List.mem_map.mp hw
  have hk := List.mem_range.mp hk
  match k, hk with
  | 0, _ => exact g_m4 93 rfl rfl
  | 1, _ => exact g_m4 95 rfl rfl
  | 2, _ => exact g_m4 97 rfl rfl
  | 3, _ => exact g_m4 99 rfl rfl
  | 4, _ => exact g_m4 101 rfl rfl
  | 5, _ => exact g_m4 103 rfl rfl
  | 6, _ => exact g_m4 105 rfl rfl
  | 7, _ => exact g_m4 107 rfl rfl
  | 8, _ => exact g_m4 109 rfl rfl
  | 9, _ => exact g_m4 111 rfl rfl
  | 10, _ => exact g_m4 113 rfl rfl
  | k + 11, hk => exact absurd hk (by omega)
theorem in_Al : ∀ w ∈ u_ws "java/util/ArrayList" F_Al 3, w ∈ g_tbl := by
  intro w hw
  obtain ⟨k, hk, rfl⟩ := List.mem_map.mp hw
  have hk := List.mem_range.mp hk
  match k, hk with
  | 0, _ => exact g_m3 18 rfl rfl
  | 1, _ => exact g_m3 14 rfl rfl
  | 2, _ => exact g_m3 16 rfl rfl
  | k + 3, hk => exact absurd hk (by omega)
theorem g_objs_in : ∀ q ∈ g_objs, ∀ w ∈ u_ws q.2.1.1 q.2.1.2.1 q.2.1.2.2, w ∈ g_tbl := by
  intro q hq
  simp only [g_objs, List.mem_cons, List.not_mem_nil, or_false] at hq
  rcases hq with rfl | rfl | rfl | rfl | rfl | rfl | rfl | rfl | rfl | rfl | rfl | rfl | rfl
  · exact in_E
  · exact in_M
  · exact in_Re
  · exact in_Ch
  · exact in_Ru
  · exact in_Rl
  · exact in_Qu
  · exact in_Pa
  · exact in_Se
  · exact in_So
  · exact in_Co
  · exact in_Te
  · exact in_Al
/-- what a new field or place holds -/
def g_dv (kd : Nat) : Value := match kd with
  | 0 => .int 0
  | 1 => .long 0
  | _ => .null
def g_dvb (v : Value) (kd : Nat) : Bool := match v, kd with
  | .int x, 0 => x == 0
  | .long x, 1 => x == 0
  | .null, 2 => true
  | _, _ => false
theorem g_dvb_ok {v : Value} {kd : Nat} (h : g_dvb v kd = true) : v = g_dv kd := by
  unfold g_dvb at h
  split at h
  · rw [eq_of_beq h]; rfl
  · rw [eq_of_beq h]; rfl
  · rfl
  · cases h
def g_ty (T : u_T) (k : Nat) : FieldType := (parseFieldDescriptor (T k).2.2.1).getD .int
theorem g_objs_tyb : (g_objs.all fun q => (List.range q.2.1.2.2).all fun k => (parseFieldDescriptor (q.2.1.2.1 k).2.2.1).isSome && g_dvb (defaultValue (g_ty q.2.1.2.1 k)) (q.2.2.getD k (0, 0)).1) = true := by decide +kernel
theorem g_objs_ty : ∀ q ∈ g_objs, ∃ ty : Nat → FieldType, (∀ k, k < q.2.1.2.2 → parseFieldDescriptor (q.2.1.2.1 k).2.2.1 = some (ty k)) ∧ ∀ j, j < q.2.1.2.2 → defaultValue (ty j) = g_dv (q.2.2.getD j (0, 0)).1 := by
  intro q hq
  have h := List.all_eq_true.mp g_objs_tyb q hq
  refine ⟨g_ty q.2.1.2.1, fun k hk => ?_, fun k hk => ?_⟩
  · have h1 := (Bool.and_eq_true_iff.mp (List.all_eq_true.mp h k (List.mem_range.mpr hk))).1
    obtain ⟨t, ht⟩ := Option.isSome_iff_exists.mp h1
    unfold g_ty
    rw [ht]
    rfl
  · exact g_dvb_ok (Bool.and_eq_true_iff.mp (List.all_eq_true.mp h k (List.mem_range.mpr hk))).2
theorem w_objinst : Cond.instanceMethod objectInit ∈ g_tbl := g_m1 45 rfl rfl
theorem w_objcode : Cond.code objectInit ⟨#[0xb1]⟩ 1 none ∈ g_tbl := g_m1 46 rfl rfl
