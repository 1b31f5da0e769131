/-! FACTS of the kinds; the methods' code and names -/
theorem sf_word : ∀ a, a % 64 = 13 → a / 64 < g_old 13 → ((a, "FixpointEngine$Kind", "word", "Ljava/lang/String;", .inr (g_kw.getD (a / 64) 0 * 64 + 14)) : Nat × String × String × String × (Int32 ⊕ Nat)) ∈ g_stF := fun a h1 h2 => List.mem_append_right _ (List.mem_append_left _ (List.mem_map.mpr ⟨a / 64, List.mem_range.mpr h2, by rw [show a / 64 * 64 + 13 = a by omega]⟩))
theorem sf_word1 : ∀ a, a / 64 < g_old 13 → (g_kw.getD (a / 64) 0 * 64 + 14) % 64 = 14 ∧ (g_kw.getD (a / 64) 0 * 64 + 14) / 64 < g_old 14 := by
  have h : ((List.range 40).all fun i => decide (g_kw.getD i 0 < 37)) = true := by decide +kernel
  intro a ha
  have h1 : g_kw.getD (a / 64) 0 < 37 := of_decide_eq_true (List.all_eq_true.mp h (a / 64) (List.mem_range.mpr ha))
  exact ⟨by omega, by show _ < 75; omega⟩
theorem sf_ord : ∀ a, a % 64 = 13 → a / 64 < g_old 13 → ((a, "java/lang/Enum", "ordinal", "I", .inl (Int32.ofNat (a / 64))) : Nat × String × String × String × (Int32 ⊕ Nat)) ∈ g_stF := fun a h1 h2 => List.mem_append_left _ (List.mem_map.mpr ⟨a / 64, List.mem_range.mpr h2, by rw [show a / 64 * 64 + 13 = a by omega]⟩)
theorem sf_coder : ∀ a, a % 64 = 14 → a / 64 < 37 → ((a, "java/lang/String", "coder", "B", .inl ((fun _ => 0) a)) : Nat × String × String × String × (Int32 ⊕ Nat)) ∈ g_stF := fun a h1 h2 => List.mem_append_right _ (List.mem_append_right _ (List.mem_append_left _ (List.mem_map.mpr ⟨a / 64, List.mem_range.mpr h2, by rw [show a / 64 * 64 + 14 = a by omega]⟩)))
theorem sf_val : ∀ a, a % 64 = 14 → a / 64 < 37 → ((a, "java/lang/String", "value", "[B", .inr ((fun a => (a / 64 + 37) * 64 + 14) a)) : Nat × String × String × String × (Int32 ⊕ Nat)) ∈ g_stF := fun a h1 h2 => List.mem_append_right _ (List.mem_append_right _ (List.mem_append_right _ (List.mem_map.mpr ⟨a / 64, List.mem_range.mpr h2, by rw [show a / 64 * 64 + 14 = a by omega]⟩)))
theorem sf_val1 : ∀ a, a / 64 < 37 → (fun a => (a / 64 + 37) * 64 + 14) a % 64 = 14 ∧ (fun a => (a / 64 + 37) * 64 + 14) a / 64 < 74 := fun a h => by dsimp only; omega
def y_Kord : MethodName := ⟨"FixpointEngine$Kind", "ordinal", "()I"⟩
theorem pl_Kord : (parseMethodDescriptor y_Kord.desc).map (fun z => z.parameters.length) = some 0 := by decide +kernel
theorem fd_E_0 : g_Fd 0 0 2 29 "FixpointEngine" "tables" "[LFixpointEngine$Relation;" true := ⟨_, 0, List.mem_of_getElem? (i := 0) rfl, rfl, rfl, by decide, rfl, rfl⟩
theorem fd_E_1 : g_Fd 64 0 0 0 "FixpointEngine" "tableCount" "I" false := ⟨_, 1, List.mem_of_getElem? (i := 0) rfl, rfl, rfl, by decide, rfl, rfl⟩
theorem fd_E_2 : g_Fd 128 0 2 2 "FixpointEngine" "reader" "LFixpointEngine$Reader;" true := ⟨_, 2, List.mem_of_getElem? (i := 0) rfl, rfl, rfl, by decide, rfl, rfl⟩
theorem fd_E_3 : g_Fd 192 0 2 3 "FixpointEngine" "checker" "LFixpointEngine$Checker;" true := ⟨_, 3, List.mem_of_getElem? (i := 0) rfl, rfl, rfl, by decide, rfl, rfl⟩
theorem fd_E_4 : g_Fd 256 0 2 4 "FixpointEngine" "runner" "LFixpointEngine$Runner;" true := ⟨_, 4, List.mem_of_getElem? (i := 0) rfl, rfl, rfl, by decide, rfl, rfl⟩
theorem fd_E_5 : g_Fd 320 0 2 6 "FixpointEngine" "query" "LFixpointEngine$Query;" false := ⟨_, 5, List.mem_of_getElem? (i := 0) rfl, rfl, rfl, by decide, rfl, rfl⟩
theorem fd_E_6 : g_Fd 384 0 0 0 "FixpointEngine" "latestFault" "I" false := ⟨_, 6, List.mem_of_getElem? (i := 0) rfl, rfl, rfl, by decide, rfl, rfl⟩
theorem fd_E_7 : g_Fd 448 0 0 0 "FixpointEngine" "answered" "Z" false := ⟨_, 7, List.mem_of_getElem? (i := 0) rfl, rfl, rfl, by decide, rfl, rfl⟩
theorem fd_M_0 : g_Fd 1 1 0 0 "FixpointEngineModel" "code" "I" false := ⟨_, 0, List.mem_of_getElem? (i := 1) rfl, rfl, rfl, by decide, rfl, rfl⟩
theorem fd_M_1 : g_Fd 65 1 0 0 "FixpointEngineModel" "tables" "I" false := ⟨_, 1, List.mem_of_getElem? (i := 1) rfl, rfl, rfl, by decide, rfl, rfl⟩
theorem fd_M_2 : g_Fd 129 1 2 20 "FixpointEngineModel" "columns" "[I" true := ⟨_, 2, List.mem_of_getElem? (i := 1) rfl, rfl, rfl, by decide, rfl, rfl⟩
theorem fd_M_3 : g_Fd 193 1 2 20 "FixpointEngineModel" "rowCount" "[I" true := ⟨_, 3, List.mem_of_getElem? (i := 1) rfl, rfl, rfl, by decide, rfl, rfl⟩
theorem fd_M_4 : g_Fd 257 1 2 21 "FixpointEngineModel" "cells" "[J" true := ⟨_, 4, List.mem_of_getElem? (i := 1) rfl, rfl, rfl, by decide, rfl, rfl⟩
theorem fd_M_5 : g_Fd 321 1 0 0 "FixpointEngineModel" "length" "I" false := ⟨_, 5, List.mem_of_getElem? (i := 1) rfl, rfl, rfl, by decide, rfl, rfl⟩
theorem fd_M_6 : g_Fd 385 1 2 20 "FixpointEngineModel" "text" "[I" true := ⟨_, 6, List.mem_of_getElem? (i := 1) rfl, rfl, rfl, by decide, rfl, rfl⟩
theorem fd_M_7 : g_Fd 449 1 2 21 "FixpointEngineModel" "keyword" "[J" true := ⟨_, 7, List.mem_of_getElem? (i := 1) rfl, rfl, rfl, by decide, rfl, rfl⟩
theorem fd_M_8 : g_Fd 513 1 0 0 "FixpointEngineModel" "tokens" "I" false := ⟨_, 8, List.mem_of_getElem? (i := 1) rfl, rfl, rfl, by decide, rfl, rfl⟩
theorem fd_M_9 : g_Fd 577 1 0 0 "FixpointEngineModel" "pos" "I" false := ⟨_, 9, List.mem_of_getElem? (i := 1) rfl, rfl, rfl, by decide, rfl, rfl⟩
theorem fd_M_10 : g_Fd 641 1 2 20 "FixpointEngineModel" "kind" "[I" true := ⟨_, 10, List.mem_of_getElem? (i := 1) rfl, rfl, rfl, by decide, rfl, rfl⟩
theorem fd_M_11 : g_Fd 705 1 2 20 "FixpointEngineModel" "place" "[I" true := ⟨_, 11, List.mem_of_getElem? (i := 1) rfl, rfl, rfl, by decide, rfl, rfl⟩
theorem fd_M_12 : g_Fd 769 1 2 21 "FixpointEngineModel" "value" "[J" true := ⟨_, 12, List.mem_of_getElem? (i := 1) rfl, rfl, rfl, by decide, rfl, rfl⟩
theorem fd_M_13 : g_Fd 833 1 0 0 "FixpointEngineModel" "faultNumber" "I" false := ⟨_, 13, List.mem_of_getElem? (i := 1) rfl, rfl, rfl, by decide, rfl, rfl⟩
theorem fd_M_14 : g_Fd 897 1 0 0 "FixpointEngineModel" "faultPlace" "I" false := ⟨_, 14, List.mem_of_getElem? (i := 1) rfl, rfl, rfl, by decide, rfl, rfl⟩
theorem fd_M_15 : g_Fd 961 1 0 0 "FixpointEngineModel" "fault" "I" false := ⟨_, 15, List.mem_of_getElem? (i := 1) rfl, rfl, rfl, by decide, rfl, rfl⟩
theorem fd_M_16 : g_Fd 1025 1 0 0 "FixpointEngineModel" "ready" "Z" false := ⟨_, 16, List.mem_of_getElem? (i := 1) rfl, rfl, rfl, by decide, rfl, rfl⟩
theorem fd_M_17 : g_Fd 1089 1 0 0 "FixpointEngineModel" "answered" "Z" false := ⟨_, 17, List.mem_of_getElem? (i := 1) rfl, rfl, rfl, by decide, rfl, rfl⟩
theorem fd_M_18 : g_Fd 1153 1 0 0 "FixpointEngineModel" "parts" "I" false := ⟨_, 18, List.mem_of_getElem? (i := 1) rfl, rfl, rfl, by decide, rfl, rfl⟩
theorem fd_M_19 : g_Fd 1217 1 2 20 "FixpointEngineModel" "partToken" "[I" true := ⟨_, 19, List.mem_of_getElem? (i := 1) rfl, rfl, rfl, by decide, rfl, rfl⟩
theorem fd_M_20 : g_Fd 1281 1 2 20 "FixpointEngineModel" "width" "[I" true := ⟨_, 20, List.mem_of_getElem? (i := 1) rfl, rfl, rfl, by decide, rfl, rfl⟩
theorem fd_M_21 : g_Fd 1345 1 2 20 "FixpointEngineModel" "columnToken" "[I" true := ⟨_, 21, List.mem_of_getElem? (i := 1) rfl, rfl, rfl, by decide, rfl, rfl⟩
theorem fd_M_22 : g_Fd 1409 1 2 20 "FixpointEngineModel" "search" "[I" true := ⟨_, 22, List.mem_of_getElem? (i := 1) rfl, rfl, rfl, by decide, rfl, rfl⟩
theorem fd_M_23 : g_Fd 1473 1 2 20 "FixpointEngineModel" "byToken" "[I" true := ⟨_, 23, List.mem_of_getElem? (i := 1) rfl, rfl, rfl, by decide, rfl, rfl⟩
theorem fd_M_24 : g_Fd 1537 1 2 20 "FixpointEngineModel" "trailToken" "[I" true := ⟨_, 24, List.mem_of_getElem? (i := 1) rfl, rfl, rfl, by decide, rfl, rfl⟩
theorem fd_M_25 : g_Fd 1601 1 2 20 "FixpointEngineModel" "cycleToken" "[I" true := ⟨_, 25, List.mem_of_getElem? (i := 1) rfl, rfl, rfl, by decide, rfl, rfl⟩
theorem fd_M_26 : g_Fd 1665 1 2 20 "FixpointEngineModel" "markToken" "[I" true := ⟨_, 26, List.mem_of_getElem? (i := 1) rfl, rfl, rfl, by decide, rfl, rfl⟩
theorem fd_M_27 : g_Fd 1729 1 2 20 "FixpointEngineModel" "byColumn" "[I" true := ⟨_, 27, List.mem_of_getElem? (i := 1) rfl, rfl, rfl, by decide, rfl, rfl⟩
theorem fd_M_28 : g_Fd 1793 1 2 20 "FixpointEngineModel" "cycleColumn" "[I" true := ⟨_, 28, List.mem_of_getElem? (i := 1) rfl, rfl, rfl, by decide, rfl, rfl⟩
theorem fd_M_29 : g_Fd 1857 1 2 31 "FixpointEngineModel" "plainUnion" "[Z" true := ⟨_, 29, List.mem_of_getElem? (i := 1) rfl, rfl, rfl, by decide, rfl, rfl⟩
theorem fd_M_30 : g_Fd 1921 1 2 31 "FixpointEngineModel" "unionAll" "[Z" true := ⟨_, 30, List.mem_of_getElem? (i := 1) rfl, rfl, rfl, by decide, rfl, rfl⟩
theorem fd_M_31 : g_Fd 1985 1 2 20 "FixpointEngineModel" "firstSelection" "[I" true := ⟨_, 31, List.mem_of_getElem? (i := 1) rfl, rfl, rfl, by decide, rfl, rfl⟩
theorem fd_M_32 : g_Fd 2049 1 2 20 "FixpointEngineModel" "selectionsOf" "[I" true := ⟨_, 32, List.mem_of_getElem? (i := 1) rfl, rfl, rfl, by decide, rfl, rfl⟩
theorem fd_M_33 : g_Fd 2113 1 0 0 "FixpointEngineModel" "recursiveWord" "Z" false := ⟨_, 33, List.mem_of_getElem? (i := 1) rfl, rfl, rfl, by decide, rfl, rfl⟩
theorem fd_M_34 : g_Fd 2177 1 0 0 "FixpointEngineModel" "selections" "I" false := ⟨_, 34, List.mem_of_getElem? (i := 1) rfl, rfl, rfl, by decide, rfl, rfl⟩
theorem fd_M_35 : g_Fd 2241 1 2 20 "FixpointEngineModel" "owner" "[I" true := ⟨_, 35, List.mem_of_getElem? (i := 1) rfl, rfl, rfl, by decide, rfl, rfl⟩
theorem fd_M_36 : g_Fd 2305 1 2 20 "FixpointEngineModel" "selectAt" "[I" true := ⟨_, 36, List.mem_of_getElem? (i := 1) rfl, rfl, rfl, by decide, rfl, rfl⟩
theorem fd_M_37 : g_Fd 2369 1 2 20 "FixpointEngineModel" "firstItem" "[I" true := ⟨_, 37, List.mem_of_getElem? (i := 1) rfl, rfl, rfl, by decide, rfl, rfl⟩
theorem fd_M_38 : g_Fd 2433 1 2 20 "FixpointEngineModel" "itemCount" "[I" true := ⟨_, 38, List.mem_of_getElem? (i := 1) rfl, rfl, rfl, by decide, rfl, rfl⟩
theorem fd_M_39 : g_Fd 2497 1 2 20 "FixpointEngineModel" "firstSource" "[I" true := ⟨_, 39, List.mem_of_getElem? (i := 1) rfl, rfl, rfl, by decide, rfl, rfl⟩
theorem fd_M_40 : g_Fd 2561 1 2 20 "FixpointEngineModel" "sourceCount" "[I" true := ⟨_, 40, List.mem_of_getElem? (i := 1) rfl, rfl, rfl, by decide, rfl, rfl⟩
theorem fd_M_41 : g_Fd 2625 1 2 20 "FixpointEngineModel" "conditionCount" "[I" true := ⟨_, 41, List.mem_of_getElem? (i := 1) rfl, rfl, rfl, by decide, rfl, rfl⟩
theorem fd_M_42 : g_Fd 2689 1 2 20 "FixpointEngineModel" "condition" "[I" true := ⟨_, 42, List.mem_of_getElem? (i := 1) rfl, rfl, rfl, by decide, rfl, rfl⟩
theorem fd_M_43 : g_Fd 2753 1 2 31 "FixpointEngineModel" "folds" "[Z" true := ⟨_, 43, List.mem_of_getElem? (i := 1) rfl, rfl, rfl, by decide, rfl, rfl⟩
theorem fd_M_44 : g_Fd 2817 1 0 0 "FixpointEngineModel" "items" "I" false := ⟨_, 44, List.mem_of_getElem? (i := 1) rfl, rfl, rfl, by decide, rfl, rfl⟩
theorem fd_M_45 : g_Fd 2881 1 2 20 "FixpointEngineModel" "itemKind" "[I" true := ⟨_, 45, List.mem_of_getElem? (i := 1) rfl, rfl, rfl, by decide, rfl, rfl⟩
theorem fd_M_46 : g_Fd 2945 1 2 20 "FixpointEngineModel" "itemExpression" "[I" true := ⟨_, 46, List.mem_of_getElem? (i := 1) rfl, rfl, rfl, by decide, rfl, rfl⟩
theorem fd_M_47 : g_Fd 3009 1 0 0 "FixpointEngineModel" "expressions" "I" false := ⟨_, 47, List.mem_of_getElem? (i := 1) rfl, rfl, rfl, by decide, rfl, rfl⟩
theorem fd_M_48 : g_Fd 3073 1 0 0 "FixpointEngineModel" "operands" "I" false := ⟨_, 48, List.mem_of_getElem? (i := 1) rfl, rfl, rfl, by decide, rfl, rfl⟩
theorem fd_M_49 : g_Fd 3137 1 2 20 "FixpointEngineModel" "firstOperand" "[I" true := ⟨_, 49, List.mem_of_getElem? (i := 1) rfl, rfl, rfl, by decide, rfl, rfl⟩
theorem fd_M_50 : g_Fd 3201 1 2 20 "FixpointEngineModel" "operandCount" "[I" true := ⟨_, 50, List.mem_of_getElem? (i := 1) rfl, rfl, rfl, by decide, rfl, rfl⟩
theorem fd_M_51 : g_Fd 3265 1 2 20 "FixpointEngineModel" "operandKind" "[I" true := ⟨_, 51, List.mem_of_getElem? (i := 1) rfl, rfl, rfl, by decide, rfl, rfl⟩
theorem fd_M_52 : g_Fd 3329 1 2 20 "FixpointEngineModel" "operandSign" "[I" true := ⟨_, 52, List.mem_of_getElem? (i := 1) rfl, rfl, rfl, by decide, rfl, rfl⟩
theorem fd_M_53 : g_Fd 3393 1 2 20 "FixpointEngineModel" "operandToken" "[I" true := ⟨_, 53, List.mem_of_getElem? (i := 1) rfl, rfl, rfl, by decide, rfl, rfl⟩
theorem fd_M_54 : g_Fd 3457 1 2 20 "FixpointEngineModel" "operandSlot" "[I" true := ⟨_, 54, List.mem_of_getElem? (i := 1) rfl, rfl, rfl, by decide, rfl, rfl⟩
theorem fd_M_55 : g_Fd 3521 1 2 20 "FixpointEngineModel" "operandColumn" "[I" true := ⟨_, 55, List.mem_of_getElem? (i := 1) rfl, rfl, rfl, by decide, rfl, rfl⟩
theorem fd_M_56 : g_Fd 3585 1 0 0 "FixpointEngineModel" "sources" "I" false := ⟨_, 56, List.mem_of_getElem? (i := 1) rfl, rfl, rfl, by decide, rfl, rfl⟩
theorem fd_M_57 : g_Fd 3649 1 2 20 "FixpointEngineModel" "sourceToken" "[I" true := ⟨_, 57, List.mem_of_getElem? (i := 1) rfl, rfl, rfl, by decide, rfl, rfl⟩
theorem fd_M_58 : g_Fd 3713 1 2 20 "FixpointEngineModel" "aliasToken" "[I" true := ⟨_, 58, List.mem_of_getElem? (i := 1) rfl, rfl, rfl, by decide, rfl, rfl⟩
theorem fd_M_59 : g_Fd 3777 1 2 20 "FixpointEngineModel" "means" "[I" true := ⟨_, 59, List.mem_of_getElem? (i := 1) rfl, rfl, rfl, by decide, rfl, rfl⟩
theorem fd_M_60 : g_Fd 3841 1 0 0 "FixpointEngineModel" "conditions" "I" false := ⟨_, 60, List.mem_of_getElem? (i := 1) rfl, rfl, rfl, by decide, rfl, rfl⟩
theorem fd_M_61 : g_Fd 3905 1 2 20 "FixpointEngineModel" "conditionKind" "[I" true := ⟨_, 61, List.mem_of_getElem? (i := 1) rfl, rfl, rfl, by decide, rfl, rfl⟩
theorem fd_M_62 : g_Fd 3969 1 2 20 "FixpointEngineModel" "sign" "[I" true := ⟨_, 62, List.mem_of_getElem? (i := 1) rfl, rfl, rfl, by decide, rfl, rfl⟩
theorem fd_M_63 : g_Fd 4033 1 2 20 "FixpointEngineModel" "leftSide" "[I" true := ⟨_, 63, List.mem_of_getElem? (i := 1) rfl, rfl, rfl, by decide, rfl, rfl⟩
theorem fd_M_64 : g_Fd 4097 1 2 20 "FixpointEngineModel" "rightSide" "[I" true := ⟨_, 64, List.mem_of_getElem? (i := 1) rfl, rfl, rfl, by decide, rfl, rfl⟩
theorem fd_M_65 : g_Fd 4161 1 2 20 "FixpointEngineModel" "innerSource" "[I" true := ⟨_, 65, List.mem_of_getElem? (i := 1) rfl, rfl, rfl, by decide, rfl, rfl⟩
theorem fd_M_66 : g_Fd 4225 1 2 20 "FixpointEngineModel" "innerCount" "[I" true := ⟨_, 66, List.mem_of_getElem? (i := 1) rfl, rfl, rfl, by decide, rfl, rfl⟩
theorem fd_M_67 : g_Fd 4289 1 2 20 "FixpointEngineModel" "inner" "[I" true := ⟨_, 67, List.mem_of_getElem? (i := 1) rfl, rfl, rfl, by decide, rfl, rfl⟩
theorem fd_M_68 : g_Fd 4353 1 0 0 "FixpointEngineModel" "orders" "I" false := ⟨_, 68, List.mem_of_getElem? (i := 1) rfl, rfl, rfl, by decide, rfl, rfl⟩
theorem fd_M_69 : g_Fd 4417 1 0 0 "FixpointEngineModel" "orderToken" "I" false := ⟨_, 69, List.mem_of_getElem? (i := 1) rfl, rfl, rfl, by decide, rfl, rfl⟩
theorem fd_M_70 : g_Fd 4481 1 2 20 "FixpointEngineModel" "orderAt" "[I" true := ⟨_, 70, List.mem_of_getElem? (i := 1) rfl, rfl, rfl, by decide, rfl, rfl⟩
theorem fd_M_71 : g_Fd 4545 1 2 20 "FixpointEngineModel" "orderSlot" "[I" true := ⟨_, 71, List.mem_of_getElem? (i := 1) rfl, rfl, rfl, by decide, rfl, rfl⟩
theorem fd_M_72 : g_Fd 4609 1 2 20 "FixpointEngineModel" "orderColumn" "[I" true := ⟨_, 72, List.mem_of_getElem? (i := 1) rfl, rfl, rfl, by decide, rfl, rfl⟩
theorem fd_M_73 : g_Fd 4673 1 2 20 "FixpointEngineModel" "needs" "[I" true := ⟨_, 73, List.mem_of_getElem? (i := 1) rfl, rfl, rfl, by decide, rfl, rfl⟩
theorem fd_M_74 : g_Fd 4737 1 2 20 "FixpointEngineModel" "reaches" "[I" true := ⟨_, 74, List.mem_of_getElem? (i := 1) rfl, rfl, rfl, by decide, rfl, rfl⟩
theorem fd_M_75 : g_Fd 4801 1 2 20 "FixpointEngineModel" "component" "[I" true := ⟨_, 75, List.mem_of_getElem? (i := 1) rfl, rfl, rfl, by decide, rfl, rfl⟩
theorem fd_M_76 : g_Fd 4865 1 0 0 "FixpointEngineModel" "components" "I" false := ⟨_, 76, List.mem_of_getElem? (i := 1) rfl, rfl, rfl, by decide, rfl, rfl⟩
theorem fd_M_77 : g_Fd 4929 1 0 0 "FixpointEngineModel" "pool" "I" false := ⟨_, 77, List.mem_of_getElem? (i := 1) rfl, rfl, rfl, by decide, rfl, rfl⟩
theorem fd_M_78 : g_Fd 4993 1 2 20 "FixpointEngineModel" "rowPart" "[I" true := ⟨_, 78, List.mem_of_getElem? (i := 1) rfl, rfl, rfl, by decide, rfl, rfl⟩
theorem fd_M_79 : g_Fd 5057 1 2 21 "FixpointEngineModel" "rowCell" "[J" true := ⟨_, 79, List.mem_of_getElem? (i := 1) rfl, rfl, rfl, by decide, rfl, rfl⟩
theorem fd_M_80 : g_Fd 5121 1 2 20 "FixpointEngineModel" "searchLength" "[I" true := ⟨_, 80, List.mem_of_getElem? (i := 1) rfl, rfl, rfl, by decide, rfl, rfl⟩
theorem fd_M_81 : g_Fd 5185 1 2 21 "FixpointEngineModel" "searchTrail" "[J" true := ⟨_, 81, List.mem_of_getElem? (i := 1) rfl, rfl, rfl, by decide, rfl, rfl⟩
theorem fd_M_82 : g_Fd 5249 1 2 20 "FixpointEngineModel" "cycleLength" "[I" true := ⟨_, 82, List.mem_of_getElem? (i := 1) rfl, rfl, rfl, by decide, rfl, rfl⟩
theorem fd_M_83 : g_Fd 5313 1 2 21 "FixpointEngineModel" "cycleTrail" "[J" true := ⟨_, 83, List.mem_of_getElem? (i := 1) rfl, rfl, rfl, by decide, rfl, rfl⟩
theorem fd_M_84 : g_Fd 5377 1 0 0 "FixpointEngineModel" "answers" "I" false := ⟨_, 84, List.mem_of_getElem? (i := 1) rfl, rfl, rfl, by decide, rfl, rfl⟩
theorem fd_M_85 : g_Fd 5441 1 0 0 "FixpointEngineModel" "allowed" "I" false := ⟨_, 85, List.mem_of_getElem? (i := 1) rfl, rfl, rfl, by decide, rfl, rfl⟩
theorem fd_M_86 : g_Fd 5505 1 2 21 "FixpointEngineModel" "answerCell" "[J" true := ⟨_, 86, List.mem_of_getElem? (i := 1) rfl, rfl, rfl, by decide, rfl, rfl⟩
theorem fd_M_87 : g_Fd 5569 1 2 21 "FixpointEngineModel" "orderKey" "[J" true := ⟨_, 87, List.mem_of_getElem? (i := 1) rfl, rfl, rfl, by decide, rfl, rfl⟩
theorem fd_M_88 : g_Fd 5633 1 0 0 "FixpointEngineModel" "answerWidth" "I" false := ⟨_, 88, List.mem_of_getElem? (i := 1) rfl, rfl, rfl, by decide, rfl, rfl⟩
theorem fd_M_89 : g_Fd 5697 1 2 20 "FixpointEngineModel" "order" "[I" true := ⟨_, 89, List.mem_of_getElem? (i := 1) rfl, rfl, rfl, by decide, rfl, rfl⟩
theorem fd_M_90 : g_Fd 5761 1 2 20 "FixpointEngineModel" "roundCount" "[I" true := ⟨_, 90, List.mem_of_getElem? (i := 1) rfl, rfl, rfl, by decide, rfl, rfl⟩
theorem fd_M_91 : g_Fd 5825 1 2 20 "FixpointEngineModel" "brought" "[I" true := ⟨_, 91, List.mem_of_getElem? (i := 1) rfl, rfl, rfl, by decide, rfl, rfl⟩
theorem fd_M_92 : g_Fd 5889 1 0 0 "FixpointEngineModel" "answerComponents" "I" false := ⟨_, 92, List.mem_of_getElem? (i := 1) rfl, rfl, rfl, by decide, rfl, rfl⟩
theorem fd_M_93 : g_Fd 5953 1 2 20 "FixpointEngineModel" "partSize" "[I" true := ⟨_, 93, List.mem_of_getElem? (i := 1) rfl, rfl, rfl, by decide, rfl, rfl⟩
theorem fd_M_94 : g_Fd 6017 1 0 0 "FixpointEngineModel" "answerParts" "I" false := ⟨_, 94, List.mem_of_getElem? (i := 1) rfl, rfl, rfl, by decide, rfl, rfl⟩
theorem fd_M_95 : g_Fd 6081 1 2 20 "FixpointEngineModel" "candidate" "[I" true := ⟨_, 95, List.mem_of_getElem? (i := 1) rfl, rfl, rfl, by decide, rfl, rfl⟩
theorem fd_M_96 : g_Fd 6145 1 2 20 "FixpointEngineModel" "candidates" "[I" true := ⟨_, 96, List.mem_of_getElem? (i := 1) rfl, rfl, rfl, by decide, rfl, rfl⟩
theorem fd_M_97 : g_Fd 6209 1 2 20 "FixpointEngineModel" "pick" "[I" true := ⟨_, 97, List.mem_of_getElem? (i := 1) rfl, rfl, rfl, by decide, rfl, rfl⟩
theorem fd_M_98 : g_Fd 6273 1 2 20 "FixpointEngineModel" "at" "[I" true := ⟨_, 98, List.mem_of_getElem? (i := 1) rfl, rfl, rfl, by decide, rfl, rfl⟩
theorem fd_M_99 : g_Fd 6337 1 0 0 "FixpointEngineModel" "groups" "I" false := ⟨_, 99, List.mem_of_getElem? (i := 1) rfl, rfl, rfl, by decide, rfl, rfl⟩
theorem fd_M_100 : g_Fd 6401 1 2 21 "FixpointEngineModel" "groupItem" "[J" true := ⟨_, 100, List.mem_of_getElem? (i := 1) rfl, rfl, rfl, by decide, rfl, rfl⟩
theorem fd_M_101 : g_Fd 6465 1 2 21 "FixpointEngineModel" "groupCount" "[J" true := ⟨_, 101, List.mem_of_getElem? (i := 1) rfl, rfl, rfl, by decide, rfl, rfl⟩
theorem fd_Re_0 : g_Fd 2 2 2 22 "FixpointEngine$Reader" "letters" "[C" true := ⟨_, 0, List.mem_of_getElem? (i := 2) rfl, rfl, rfl, by decide, rfl, rfl⟩
theorem fd_Re_1 : g_Fd 66 2 0 0 "FixpointEngine$Reader" "length" "I" false := ⟨_, 1, List.mem_of_getElem? (i := 2) rfl, rfl, rfl, by decide, rfl, rfl⟩
theorem fd_Re_2 : g_Fd 130 2 2 23 "FixpointEngine$Reader" "kinds" "[LFixpointEngine$Kind;" true := ⟨_, 2, List.mem_of_getElem? (i := 2) rfl, rfl, rfl, by decide, rfl, rfl⟩
theorem fd_Re_3 : g_Fd 194 2 2 20 "FixpointEngine$Reader" "places" "[I" true := ⟨_, 3, List.mem_of_getElem? (i := 2) rfl, rfl, rfl, by decide, rfl, rfl⟩
theorem fd_Re_4 : g_Fd 258 2 2 21 "FixpointEngine$Reader" "words" "[J" true := ⟨_, 4, List.mem_of_getElem? (i := 2) rfl, rfl, rfl, by decide, rfl, rfl⟩
theorem fd_Re_5 : g_Fd 322 2 0 0 "FixpointEngine$Reader" "at" "I" false := ⟨_, 5, List.mem_of_getElem? (i := 2) rfl, rfl, rfl, by decide, rfl, rfl⟩
theorem fd_Re_6 : g_Fd 386 2 0 0 "FixpointEngine$Reader" "stuck" "Z" false := ⟨_, 6, List.mem_of_getElem? (i := 2) rfl, rfl, rfl, by decide, rfl, rfl⟩
theorem fd_Re_7 : g_Fd 450 2 2 6 "FixpointEngine$Reader" "query" "LFixpointEngine$Query;" false := ⟨_, 7, List.mem_of_getElem? (i := 2) rfl, rfl, rfl, by decide, rfl, rfl⟩
theorem fd_Re_8 : g_Fd 514 2 2 8 "FixpointEngine$Reader" "selection" "LFixpointEngine$Selection;" false := ⟨_, 8, List.mem_of_getElem? (i := 2) rfl, rfl, rfl, by decide, rfl, rfl⟩
theorem fd_Re_9 : g_Fd 578 2 2 10 "FixpointEngine$Reader" "top" "LFixpointEngine$Condition;" false := ⟨_, 9, List.mem_of_getElem? (i := 2) rfl, rfl, rfl, by decide, rfl, rfl⟩
theorem fd_Ch_0 : g_Fd 3 3 2 6 "FixpointEngine$Checker" "query" "LFixpointEngine$Query;" false := ⟨_, 0, List.mem_of_getElem? (i := 3) rfl, rfl, rfl, by decide, rfl, rfl⟩
theorem fd_Ch_1 : g_Fd 67 3 2 29 "FixpointEngine$Checker" "tables" "[LFixpointEngine$Relation;" false := ⟨_, 1, List.mem_of_getElem? (i := 3) rfl, rfl, rfl, by decide, rfl, rfl⟩
theorem fd_Ch_2 : g_Fd 131 3 0 0 "FixpointEngine$Checker" "tableCount" "I" false := ⟨_, 2, List.mem_of_getElem? (i := 3) rfl, rfl, rfl, by decide, rfl, rfl⟩
theorem fd_Ch_3 : g_Fd 195 3 0 0 "FixpointEngine$Checker" "lowest" "I" false := ⟨_, 3, List.mem_of_getElem? (i := 3) rfl, rfl, rfl, by decide, rfl, rfl⟩
theorem fd_Ru_0 : g_Fd 4 4 2 29 "FixpointEngine$Runner" "relations" "[LFixpointEngine$Relation;" true := ⟨_, 0, List.mem_of_getElem? (i := 4) rfl, rfl, rfl, by decide, rfl, rfl⟩
theorem fd_Ru_1 : g_Fd 68 4 2 20 "FixpointEngine$Runner" "tally" "[I" true := ⟨_, 1, List.mem_of_getElem? (i := 4) rfl, rfl, rfl, by decide, rfl, rfl⟩
theorem fd_Ru_2 : g_Fd 132 4 2 20 "FixpointEngine$Runner" "sorted" "[I" true := ⟨_, 2, List.mem_of_getElem? (i := 4) rfl, rfl, rfl, by decide, rfl, rfl⟩
theorem fd_Ru_3 : g_Fd 196 4 2 21 "FixpointEngine$Runner" "keys" "[J" true := ⟨_, 3, List.mem_of_getElem? (i := 4) rfl, rfl, rfl, by decide, rfl, rfl⟩
theorem fd_Ru_4 : g_Fd 260 4 2 21 "FixpointEngine$Runner" "items" "[J" true := ⟨_, 4, List.mem_of_getElem? (i := 4) rfl, rfl, rfl, by decide, rfl, rfl⟩
theorem fd_Ru_5 : g_Fd 324 4 2 21 "FixpointEngine$Runner" "gathered" "[J" true := ⟨_, 5, List.mem_of_getElem? (i := 4) rfl, rfl, rfl, by decide, rfl, rfl⟩
theorem fd_Ru_6 : g_Fd 388 4 2 20 "FixpointEngine$Runner" "counted" "[I" true := ⟨_, 6, List.mem_of_getElem? (i := 4) rfl, rfl, rfl, by decide, rfl, rfl⟩
theorem fd_Ru_7 : g_Fd 452 4 2 6 "FixpointEngine$Runner" "query" "LFixpointEngine$Query;" false := ⟨_, 7, List.mem_of_getElem? (i := 4) rfl, rfl, rfl, by decide, rfl, rfl⟩
theorem fd_Ru_8 : g_Fd 516 4 2 29 "FixpointEngine$Runner" "tables" "[LFixpointEngine$Relation;" false := ⟨_, 8, List.mem_of_getElem? (i := 4) rfl, rfl, rfl, by decide, rfl, rfl⟩
theorem fd_Ru_9 : g_Fd 580 4 0 0 "FixpointEngine$Runner" "mostRounds" "I" false := ⟨_, 9, List.mem_of_getElem? (i := 4) rfl, rfl, rfl, by decide, rfl, rfl⟩
theorem fd_Ru_10 : g_Fd 644 4 0 0 "FixpointEngine$Runner" "allowed" "I" false := ⟨_, 10, List.mem_of_getElem? (i := 4) rfl, rfl, rfl, by decide, rfl, rfl⟩
theorem fd_Ru_11 : g_Fd 708 4 0 0 "FixpointEngine$Runner" "total" "I" false := ⟨_, 11, List.mem_of_getElem? (i := 4) rfl, rfl, rfl, by decide, rfl, rfl⟩
theorem fd_Ru_12 : g_Fd 772 4 2 8 "FixpointEngine$Runner" "selection" "LFixpointEngine$Selection;" false := ⟨_, 12, List.mem_of_getElem? (i := 4) rfl, rfl, rfl, by decide, rfl, rfl⟩
theorem fd_Ru_13 : g_Fd 836 4 2 7 "FixpointEngine$Runner" "part" "LFixpointEngine$Part;" false := ⟨_, 13, List.mem_of_getElem? (i := 4) rfl, rfl, rfl, by decide, rfl, rfl⟩
theorem fd_Ru_14 : g_Fd 900 4 2 5 "FixpointEngine$Runner" "target" "LFixpointEngine$Relation;" false := ⟨_, 14, List.mem_of_getElem? (i := 4) rfl, rfl, rfl, by decide, rfl, rfl⟩
theorem fd_Ru_15 : g_Fd 964 4 0 0 "FixpointEngine$Runner" "groupCount" "I" false := ⟨_, 15, List.mem_of_getElem? (i := 4) rfl, rfl, rfl, by decide, rfl, rfl⟩
theorem fd_Ru_16 : g_Fd 1028 4 0 0 "FixpointEngine$Runner" "crowded" "Z" false := ⟨_, 16, List.mem_of_getElem? (i := 4) rfl, rfl, rfl, by decide, rfl, rfl⟩
theorem fd_Ru_17 : g_Fd 1092 4 0 0 "FixpointEngine$Runner" "overfull" "Z" false := ⟨_, 17, List.mem_of_getElem? (i := 4) rfl, rfl, rfl, by decide, rfl, rfl⟩
theorem fd_Rl_0 : g_Fd 5 5 0 0 "FixpointEngine$Relation" "columns" "I" true := ⟨_, 0, List.mem_of_getElem? (i := 5) rfl, rfl, rfl, by decide, rfl, rfl⟩
theorem fd_Rl_1 : g_Fd 69 5 2 21 "FixpointEngine$Relation" "cells" "[J" true := ⟨_, 1, List.mem_of_getElem? (i := 5) rfl, rfl, rfl, by decide, rfl, rfl⟩
theorem fd_Rl_2 : g_Fd 133 5 2 20 "FixpointEngine$Relation" "parents" "[I" true := ⟨_, 2, List.mem_of_getElem? (i := 5) rfl, rfl, rfl, by decide, rfl, rfl⟩
theorem fd_Rl_3 : g_Fd 197 5 2 20 "FixpointEngine$Relation" "lengths" "[I" true := ⟨_, 3, List.mem_of_getElem? (i := 5) rfl, rfl, rfl, by decide, rfl, rfl⟩
theorem fd_Rl_4 : g_Fd 261 5 0 0 "FixpointEngine$Relation" "count" "I" false := ⟨_, 4, List.mem_of_getElem? (i := 5) rfl, rfl, rfl, by decide, rfl, rfl⟩
theorem fd_Rl_5 : g_Fd 325 5 0 0 "FixpointEngine$Relation" "start" "I" false := ⟨_, 5, List.mem_of_getElem? (i := 5) rfl, rfl, rfl, by decide, rfl, rfl⟩
theorem fd_Rl_6 : g_Fd 389 5 0 0 "FixpointEngine$Relation" "before" "I" false := ⟨_, 6, List.mem_of_getElem? (i := 5) rfl, rfl, rfl, by decide, rfl, rfl⟩
theorem fd_Qu_0 : g_Fd 6 6 2 24 "FixpointEngine$Query" "parts" "[LFixpointEngine$Part;" true := ⟨_, 0, List.mem_of_getElem? (i := 6) rfl, rfl, rfl, by decide, rfl, rfl⟩
theorem fd_Qu_1 : g_Fd 70 6 0 0 "FixpointEngine$Query" "partCount" "I" false := ⟨_, 1, List.mem_of_getElem? (i := 6) rfl, rfl, rfl, by decide, rfl, rfl⟩
theorem fd_Qu_2 : g_Fd 134 6 0 0 "FixpointEngine$Query" "recursive" "Z" false := ⟨_, 2, List.mem_of_getElem? (i := 6) rfl, rfl, rfl, by decide, rfl, rfl⟩
theorem fd_Qu_3 : g_Fd 198 6 2 8 "FixpointEngine$Query" "own" "LFixpointEngine$Selection;" false := ⟨_, 3, List.mem_of_getElem? (i := 6) rfl, rfl, rfl, by decide, rfl, rfl⟩
theorem fd_Qu_4 : g_Fd 262 6 2 26 "FixpointEngine$Query" "order" "[LFixpointEngine$Term;" true := ⟨_, 4, List.mem_of_getElem? (i := 6) rfl, rfl, rfl, by decide, rfl, rfl⟩
theorem fd_Qu_5 : g_Fd 326 6 0 0 "FixpointEngine$Query" "orderCount" "I" false := ⟨_, 5, List.mem_of_getElem? (i := 6) rfl, rfl, rfl, by decide, rfl, rfl⟩
theorem fd_Qu_6 : g_Fd 390 6 0 0 "FixpointEngine$Query" "orderPlace" "I" false := ⟨_, 6, List.mem_of_getElem? (i := 6) rfl, rfl, rfl, by decide, rfl, rfl⟩
theorem fd_Qu_7 : g_Fd 454 6 0 0 "FixpointEngine$Query" "componentCount" "I" false := ⟨_, 7, List.mem_of_getElem? (i := 6) rfl, rfl, rfl, by decide, rfl, rfl⟩
theorem fd_Qu_8 : g_Fd 518 6 2 12 "FixpointEngine$Query" "sources" "Ljava/util/ArrayList;" true := ⟨_, 8, List.mem_of_getElem? (i := 6) rfl, rfl, rfl, by decide, rfl, rfl⟩
theorem fd_Qu_9 : g_Fd 582 6 2 12 "FixpointEngine$Query" "columns" "Ljava/util/ArrayList;" true := ⟨_, 9, List.mem_of_getElem? (i := 6) rfl, rfl, rfl, by decide, rfl, rfl⟩
theorem fd_Pa_0 : g_Fd 7 7 1 0 "FixpointEngine$Part" "name" "J" false := ⟨_, 0, List.mem_of_getElem? (i := 7) rfl, rfl, rfl, by decide, rfl, rfl⟩
theorem fd_Pa_1 : g_Fd 71 7 0 0 "FixpointEngine$Part" "place" "I" false := ⟨_, 1, List.mem_of_getElem? (i := 7) rfl, rfl, rfl, by decide, rfl, rfl⟩
theorem fd_Pa_2 : g_Fd 135 7 0 0 "FixpointEngine$Part" "width" "I" false := ⟨_, 2, List.mem_of_getElem? (i := 7) rfl, rfl, rfl, by decide, rfl, rfl⟩
theorem fd_Pa_3 : g_Fd 199 7 2 21 "FixpointEngine$Part" "words" "[J" true := ⟨_, 3, List.mem_of_getElem? (i := 7) rfl, rfl, rfl, by decide, rfl, rfl⟩
theorem fd_Pa_4 : g_Fd 263 7 2 20 "FixpointEngine$Part" "places" "[I" true := ⟨_, 4, List.mem_of_getElem? (i := 7) rfl, rfl, rfl, by decide, rfl, rfl⟩
theorem fd_Pa_5 : g_Fd 327 7 0 0 "FixpointEngine$Part" "breadth" "Z" false := ⟨_, 5, List.mem_of_getElem? (i := 7) rfl, rfl, rfl, by decide, rfl, rfl⟩
theorem fd_Pa_6 : g_Fd 391 7 0 0 "FixpointEngine$Part" "searched" "Z" false := ⟨_, 6, List.mem_of_getElem? (i := 7) rfl, rfl, rfl, by decide, rfl, rfl⟩
theorem fd_Pa_7 : g_Fd 455 7 0 0 "FixpointEngine$Part" "cycled" "Z" false := ⟨_, 7, List.mem_of_getElem? (i := 7) rfl, rfl, rfl, by decide, rfl, rfl⟩
theorem fd_Pa_8 : g_Fd 519 7 0 0 "FixpointEngine$Part" "union" "Z" false := ⟨_, 8, List.mem_of_getElem? (i := 7) rfl, rfl, rfl, by decide, rfl, rfl⟩
theorem fd_Pa_9 : g_Fd 583 7 0 0 "FixpointEngine$Part" "unionAll" "Z" false := ⟨_, 9, List.mem_of_getElem? (i := 7) rfl, rfl, rfl, by decide, rfl, rfl⟩
theorem fd_Pa_10 : g_Fd 647 7 2 25 "FixpointEngine$Part" "selections" "[LFixpointEngine$Selection;" true := ⟨_, 10, List.mem_of_getElem? (i := 7) rfl, rfl, rfl, by decide, rfl, rfl⟩
theorem fd_Pa_11 : g_Fd 711 7 0 0 "FixpointEngine$Part" "selectionCount" "I" false := ⟨_, 11, List.mem_of_getElem? (i := 7) rfl, rfl, rfl, by decide, rfl, rfl⟩
theorem fd_Pa_12 : g_Fd 775 7 0 0 "FixpointEngine$Part" "needed" "I" false := ⟨_, 12, List.mem_of_getElem? (i := 7) rfl, rfl, rfl, by decide, rfl, rfl⟩
theorem fd_Pa_13 : g_Fd 839 7 0 0 "FixpointEngine$Part" "members" "I" false := ⟨_, 13, List.mem_of_getElem? (i := 7) rfl, rfl, rfl, by decide, rfl, rfl⟩
theorem fd_Pa_14 : g_Fd 903 7 0 0 "FixpointEngine$Part" "component" "I" false := ⟨_, 14, List.mem_of_getElem? (i := 7) rfl, rfl, rfl, by decide, rfl, rfl⟩
theorem fd_Pa_15 : g_Fd 967 7 0 0 "FixpointEngine$Part" "recursive" "Z" false := ⟨_, 15, List.mem_of_getElem? (i := 7) rfl, rfl, rfl, by decide, rfl, rfl⟩
theorem fd_Pa_16 : g_Fd 1031 7 0 0 "FixpointEngine$Part" "searchColumn" "I" false := ⟨_, 16, List.mem_of_getElem? (i := 7) rfl, rfl, rfl, by decide, rfl, rfl⟩
theorem fd_Pa_17 : g_Fd 1095 7 0 0 "FixpointEngine$Part" "cycleColumn" "I" false := ⟨_, 17, List.mem_of_getElem? (i := 7) rfl, rfl, rfl, by decide, rfl, rfl⟩
theorem fd_Se_0 : g_Fd 8 8 0 0 "FixpointEngine$Selection" "owner" "I" true := ⟨_, 0, List.mem_of_getElem? (i := 8) rfl, rfl, rfl, by decide, rfl, rfl⟩
theorem fd_Se_1 : g_Fd 72 8 0 0 "FixpointEngine$Selection" "place" "I" true := ⟨_, 1, List.mem_of_getElem? (i := 8) rfl, rfl, rfl, by decide, rfl, rfl⟩
theorem fd_Se_2 : g_Fd 136 8 2 26 "FixpointEngine$Selection" "items" "[LFixpointEngine$Term;" true := ⟨_, 2, List.mem_of_getElem? (i := 8) rfl, rfl, rfl, by decide, rfl, rfl⟩
theorem fd_Se_3 : g_Fd 200 8 2 23 "FixpointEngine$Selection" "gathers" "[LFixpointEngine$Kind;" true := ⟨_, 3, List.mem_of_getElem? (i := 8) rfl, rfl, rfl, by decide, rfl, rfl⟩
theorem fd_Se_4 : g_Fd 264 8 0 0 "FixpointEngine$Selection" "itemCount" "I" false := ⟨_, 4, List.mem_of_getElem? (i := 8) rfl, rfl, rfl, by decide, rfl, rfl⟩
theorem fd_Se_5 : g_Fd 328 8 0 0 "FixpointEngine$Selection" "gatherCount" "I" false := ⟨_, 5, List.mem_of_getElem? (i := 8) rfl, rfl, rfl, by decide, rfl, rfl⟩
theorem fd_Se_6 : g_Fd 392 8 2 27 "FixpointEngine$Selection" "sources" "[LFixpointEngine$Source;" true := ⟨_, 6, List.mem_of_getElem? (i := 8) rfl, rfl, rfl, by decide, rfl, rfl⟩
theorem fd_Se_7 : g_Fd 456 8 0 0 "FixpointEngine$Selection" "sourceCount" "I" false := ⟨_, 7, List.mem_of_getElem? (i := 8) rfl, rfl, rfl, by decide, rfl, rfl⟩
theorem fd_Se_8 : g_Fd 520 8 2 28 "FixpointEngine$Selection" "conditions" "[LFixpointEngine$Condition;" true := ⟨_, 8, List.mem_of_getElem? (i := 8) rfl, rfl, rfl, by decide, rfl, rfl⟩
theorem fd_Se_9 : g_Fd 584 8 0 0 "FixpointEngine$Selection" "conditionCount" "I" false := ⟨_, 9, List.mem_of_getElem? (i := 8) rfl, rfl, rfl, by decide, rfl, rfl⟩
theorem fd_Se_10 : g_Fd 648 8 0 0 "FixpointEngine$Selection" "namings" "I" false := ⟨_, 10, List.mem_of_getElem? (i := 8) rfl, rfl, rfl, by decide, rfl, rfl⟩
theorem fd_Se_11 : g_Fd 712 8 0 0 "FixpointEngine$Selection" "risky" "Z" false := ⟨_, 11, List.mem_of_getElem? (i := 8) rfl, rfl, rfl, by decide, rfl, rfl⟩
theorem fd_So_0 : g_Fd 9 9 2 8 "FixpointEngine$Source" "selection" "LFixpointEngine$Selection;" true := ⟨_, 0, List.mem_of_getElem? (i := 9) rfl, rfl, rfl, by decide, rfl, rfl⟩
theorem fd_So_1 : g_Fd 73 9 0 0 "FixpointEngine$Source" "slot" "I" true := ⟨_, 1, List.mem_of_getElem? (i := 9) rfl, rfl, rfl, by decide, rfl, rfl⟩
theorem fd_So_2 : g_Fd 137 9 0 0 "FixpointEngine$Source" "place" "I" true := ⟨_, 2, List.mem_of_getElem? (i := 9) rfl, rfl, rfl, by decide, rfl, rfl⟩
theorem fd_So_3 : g_Fd 201 9 1 0 "FixpointEngine$Source" "name" "J" false := ⟨_, 3, List.mem_of_getElem? (i := 9) rfl, rfl, rfl, by decide, rfl, rfl⟩
theorem fd_So_4 : g_Fd 265 9 0 0 "FixpointEngine$Source" "aliasPlace" "I" false := ⟨_, 4, List.mem_of_getElem? (i := 9) rfl, rfl, rfl, by decide, rfl, rfl⟩
theorem fd_So_5 : g_Fd 329 9 1 0 "FixpointEngine$Source" "alias" "J" false := ⟨_, 5, List.mem_of_getElem? (i := 9) rfl, rfl, rfl, by decide, rfl, rfl⟩
theorem fd_So_6 : g_Fd 393 9 0 0 "FixpointEngine$Source" "part" "I" false := ⟨_, 6, List.mem_of_getElem? (i := 9) rfl, rfl, rfl, by decide, rfl, rfl⟩
theorem fd_So_7 : g_Fd 457 9 0 0 "FixpointEngine$Source" "table" "I" false := ⟨_, 7, List.mem_of_getElem? (i := 9) rfl, rfl, rfl, by decide, rfl, rfl⟩
theorem fd_So_8 : g_Fd 521 9 2 5 "FixpointEngine$Source" "relation" "LFixpointEngine$Relation;" false := ⟨_, 8, List.mem_of_getElem? (i := 9) rfl, rfl, rfl, by decide, rfl, rfl⟩
theorem fd_So_9 : g_Fd 585 9 0 0 "FixpointEngine$Source" "from" "I" false := ⟨_, 9, List.mem_of_getElem? (i := 9) rfl, rfl, rfl, by decide, rfl, rfl⟩
theorem fd_So_10 : g_Fd 649 9 0 0 "FixpointEngine$Source" "to" "I" false := ⟨_, 10, List.mem_of_getElem? (i := 9) rfl, rfl, rfl, by decide, rfl, rfl⟩
theorem fd_So_11 : g_Fd 713 9 0 0 "FixpointEngine$Source" "at" "I" false := ⟨_, 11, List.mem_of_getElem? (i := 9) rfl, rfl, rfl, by decide, rfl, rfl⟩
theorem fd_So_12 : g_Fd 777 9 0 0 "FixpointEngine$Source" "unmarked" "Z" false := ⟨_, 12, List.mem_of_getElem? (i := 9) rfl, rfl, rfl, by decide, rfl, rfl⟩
theorem fd_Co_0 : g_Fd 10 10 2 13 "FixpointEngine$Condition" "test" "LFixpointEngine$Kind;" false := ⟨_, 0, List.mem_of_getElem? (i := 10) rfl, rfl, rfl, by decide, rfl, rfl⟩
theorem fd_Co_1 : g_Fd 74 10 2 11 "FixpointEngine$Condition" "left" "LFixpointEngine$Term;" false := ⟨_, 1, List.mem_of_getElem? (i := 10) rfl, rfl, rfl, by decide, rfl, rfl⟩
theorem fd_Co_2 : g_Fd 138 10 2 11 "FixpointEngine$Condition" "right" "LFixpointEngine$Term;" false := ⟨_, 2, List.mem_of_getElem? (i := 10) rfl, rfl, rfl, by decide, rfl, rfl⟩
theorem fd_Co_3 : g_Fd 202 10 2 9 "FixpointEngine$Condition" "source" "LFixpointEngine$Source;" false := ⟨_, 3, List.mem_of_getElem? (i := 10) rfl, rfl, rfl, by decide, rfl, rfl⟩
theorem fd_Co_4 : g_Fd 266 10 2 28 "FixpointEngine$Condition" "inner" "[LFixpointEngine$Condition;" true := ⟨_, 4, List.mem_of_getElem? (i := 10) rfl, rfl, rfl, by decide, rfl, rfl⟩
theorem fd_Co_5 : g_Fd 330 10 0 0 "FixpointEngine$Condition" "innerCount" "I" false := ⟨_, 5, List.mem_of_getElem? (i := 10) rfl, rfl, rfl, by decide, rfl, rfl⟩
theorem fd_Co_6 : g_Fd 394 10 0 0 "FixpointEngine$Condition" "level" "I" false := ⟨_, 6, List.mem_of_getElem? (i := 10) rfl, rfl, rfl, by decide, rfl, rfl⟩
theorem fd_Te_0 : g_Fd 11 11 0 0 "FixpointEngine$Term" "minus" "Z" true := ⟨_, 0, List.mem_of_getElem? (i := 11) rfl, rfl, rfl, by decide, rfl, rfl⟩
theorem fd_Te_1 : g_Fd 75 11 0 0 "FixpointEngine$Term" "place" "I" true := ⟨_, 1, List.mem_of_getElem? (i := 11) rfl, rfl, rfl, by decide, rfl, rfl⟩
theorem fd_Te_2 : g_Fd 139 11 2 8 "FixpointEngine$Term" "selection" "LFixpointEngine$Selection;" true := ⟨_, 2, List.mem_of_getElem? (i := 11) rfl, rfl, rfl, by decide, rfl, rfl⟩
theorem fd_Te_3 : g_Fd 203 11 2 10 "FixpointEngine$Term" "top" "LFixpointEngine$Condition;" true := ⟨_, 3, List.mem_of_getElem? (i := 11) rfl, rfl, rfl, by decide, rfl, rfl⟩
theorem fd_Te_4 : g_Fd 267 11 1 0 "FixpointEngine$Term" "value" "J" false := ⟨_, 4, List.mem_of_getElem? (i := 11) rfl, rfl, rfl, by decide, rfl, rfl⟩
theorem fd_Te_5 : g_Fd 331 11 1 0 "FixpointEngine$Term" "alias" "J" false := ⟨_, 5, List.mem_of_getElem? (i := 11) rfl, rfl, rfl, by decide, rfl, rfl⟩
theorem fd_Te_6 : g_Fd 395 11 1 0 "FixpointEngine$Term" "name" "J" false := ⟨_, 6, List.mem_of_getElem? (i := 11) rfl, rfl, rfl, by decide, rfl, rfl⟩
theorem fd_Te_7 : g_Fd 459 11 0 0 "FixpointEngine$Term" "ordering" "Z" false := ⟨_, 7, List.mem_of_getElem? (i := 11) rfl, rfl, rfl, by decide, rfl, rfl⟩
theorem fd_Te_8 : g_Fd 523 11 2 9 "FixpointEngine$Term" "source" "LFixpointEngine$Source;" false := ⟨_, 8, List.mem_of_getElem? (i := 11) rfl, rfl, rfl, by decide, rfl, rfl⟩
theorem fd_Te_9 : g_Fd 587 11 0 0 "FixpointEngine$Term" "index" "I" false := ⟨_, 9, List.mem_of_getElem? (i := 11) rfl, rfl, rfl, by decide, rfl, rfl⟩
theorem fd_Te_10 : g_Fd 651 11 2 11 "FixpointEngine$Term" "next" "LFixpointEngine$Term;" false := ⟨_, 10, List.mem_of_getElem? (i := 11) rfl, rfl, rfl, by decide, rfl, rfl⟩
theorem fd_Al_0 : g_Fd 12 12 0 0 "java/util/AbstractList" "modCount" "I" false := ⟨_, 0, List.mem_of_getElem? (i := 12) rfl, rfl, rfl, by decide, rfl, rfl⟩
theorem fd_Al_1 : g_Fd 76 12 2 30 "java/util/ArrayList" "elementData" "[Ljava/lang/Object;" false := ⟨_, 1, List.mem_of_getElem? (i := 12) rfl, rfl, rfl, by decide, rfl, rfl⟩
theorem fd_Al_2 : g_Fd 140 12 0 0 "java/util/ArrayList" "size" "I" false := ⟨_, 2, List.mem_of_getElem? (i := 12) rfl, rfl, rfl, by decide, rfl, rfl⟩
theorem ar_20 : ((20, .int, 0, 0) : g_Ar) ∈ g_arrs := List.mem_of_getElem? (i := 0) rfl
theorem ar_21 : ((21, .long, 1, 0) : g_Ar) ∈ g_arrs := List.mem_of_getElem? (i := 1) rfl
theorem ar_22 : ((22, .char, 0, 0) : g_Ar) ∈ g_arrs := List.mem_of_getElem? (i := 2) rfl
theorem ar_23 : ((23, (.object "FixpointEngine$Kind"), 2, 13) : g_Ar) ∈ g_arrs := List.mem_of_getElem? (i := 3) rfl
theorem ar_24 : ((24, (.object "FixpointEngine$Part"), 2, 7) : g_Ar) ∈ g_arrs := List.mem_of_getElem? (i := 4) rfl
theorem ar_25 : ((25, (.object "FixpointEngine$Selection"), 2, 8) : g_Ar) ∈ g_arrs := List.mem_of_getElem? (i := 5) rfl
theorem ar_26 : ((26, (.object "FixpointEngine$Term"), 2, 11) : g_Ar) ∈ g_arrs := List.mem_of_getElem? (i := 6) rfl
theorem ar_27 : ((27, (.object "FixpointEngine$Source"), 2, 9) : g_Ar) ∈ g_arrs := List.mem_of_getElem? (i := 7) rfl
theorem ar_28 : ((28, (.object "FixpointEngine$Condition"), 2, 10) : g_Ar) ∈ g_arrs := List.mem_of_getElem? (i := 8) rfl
theorem ar_29 : ((29, (.object "FixpointEngine$Relation"), 2, 5) : g_Ar) ∈ g_arrs := List.mem_of_getElem? (i := 9) rfl
theorem ar_30 : ((30, (.object "java/lang/Object"), 2, 63) : g_Ar) ∈ g_arrs := List.mem_of_getElem? (i := 10) rfl
theorem ar_31 : ((31, .boolean, 0, 0) : g_Ar) ∈ g_arrs := List.mem_of_getElem? (i := 11) rfl
theorem ob_E : ((0, ("FixpointEngine", F_E, 8), K_E) : g_O) ∈ g_objs := List.mem_of_getElem? (i := 0) rfl
theorem ob_M : ((1, ("FixpointEngineModel", F_M, 102), K_M) : g_O) ∈ g_objs := List.mem_of_getElem? (i := 1) rfl
theorem ob_Re : ((2, ("FixpointEngine$Reader", F_Re, 10), K_Re) : g_O) ∈ g_objs := List.mem_of_getElem? (i := 2) rfl
theorem ob_Ch : ((3, ("FixpointEngine$Checker", F_Ch, 4), K_Ch) : g_O) ∈ g_objs := List.mem_of_getElem? (i := 3) rfl
theorem ob_Ru : ((4, ("FixpointEngine$Runner", F_Ru, 18), K_Ru) : g_O) ∈ g_objs := List.mem_of_getElem? (i := 4) rfl
theorem ob_Rl : ((5, ("FixpointEngine$Relation", F_Rl, 7), K_Rl) : g_O) ∈ g_objs := List.mem_of_getElem? (i := 5) rfl
theorem ob_Qu : ((6, ("FixpointEngine$Query", F_Qu, 10), K_Qu) : g_O) ∈ g_objs := List.mem_of_getElem? (i := 6) rfl
theorem ob_Pa : ((7, ("FixpointEngine$Part", F_Pa, 18), K_Pa) : g_O) ∈ g_objs := List.mem_of_getElem? (i := 7) rfl
theorem ob_Se : ((8, ("FixpointEngine$Selection", F_Se, 12), K_Se) : g_O) ∈ g_objs := List.mem_of_getElem? (i := 8) rfl
theorem ob_So : ((9, ("FixpointEngine$Source", F_So, 13), K_So) : g_O) ∈ g_objs := List.mem_of_getElem? (i := 9) rfl
theorem ob_Co : ((10, ("FixpointEngine$Condition", F_Co, 7), K_Co) : g_O) ∈ g_objs := List.mem_of_getElem? (i := 10) rfl
theorem ob_Te : ((11, ("FixpointEngine$Term", F_Te, 11), K_Te) : g_O) ∈ g_objs := List.mem_of_getElem? (i := 11) rfl
theorem ob_Al : ((12, ("java/util/ArrayList", F_Al, 3), K_Al) : g_O) ∈ g_objs := List.mem_of_getElem? (i := 12) rfl
theorem pd_0 : parseFieldDescriptor "LFixpointEngine;" = some (.object "FixpointEngine") := by decide +kernel
theorem pd_1 : parseFieldDescriptor "LFixpointEngineModel;" = some (.object "FixpointEngineModel") := by decide +kernel
theorem pd_2 : parseFieldDescriptor "LFixpointEngine$Reader;" = some (.object "FixpointEngine$Reader") := by decide +kernel
theorem pd_3 : parseFieldDescriptor "LFixpointEngine$Checker;" = some (.object "FixpointEngine$Checker") := by decide +kernel
theorem pd_4 : parseFieldDescriptor "LFixpointEngine$Runner;" = some (.object "FixpointEngine$Runner") := by decide +kernel
theorem pd_5 : parseFieldDescriptor "LFixpointEngine$Relation;" = some (.object "FixpointEngine$Relation") := by decide +kernel
theorem pd_6 : parseFieldDescriptor "LFixpointEngine$Query;" = some (.object "FixpointEngine$Query") := by decide +kernel
theorem pd_7 : parseFieldDescriptor "LFixpointEngine$Part;" = some (.object "FixpointEngine$Part") := by decide +kernel
theorem pd_8 : parseFieldDescriptor "LFixpointEngine$Selection;" = some (.object "FixpointEngine$Selection") := by decide +kernel
theorem pd_9 : parseFieldDescriptor "LFixpointEngine$Source;" = some (.object "FixpointEngine$Source") := by decide +kernel
theorem pd_10 : parseFieldDescriptor "LFixpointEngine$Condition;" = some (.object "FixpointEngine$Condition") := by decide +kernel
theorem pd_11 : parseFieldDescriptor "LFixpointEngine$Term;" = some (.object "FixpointEngine$Term") := by decide +kernel
theorem pd_12 : parseFieldDescriptor "Ljava/util/ArrayList;" = some (.object "java/util/ArrayList") := by decide +kernel
theorem pd_13 : parseFieldDescriptor "LFixpointEngine$Kind;" = some (.object "FixpointEngine$Kind") := by decide +kernel
theorem pd_20 : parseFieldDescriptor "[I" = some (.array (.int)) := by decide +kernel
theorem pd_21 : parseFieldDescriptor "[J" = some (.array (.long)) := by decide +kernel
theorem pd_22 : parseFieldDescriptor "[C" = some (.array (.char)) := by decide +kernel
theorem pd_23 : parseFieldDescriptor "[LFixpointEngine$Kind;" = some (.array (.object "FixpointEngine$Kind")) := by decide +kernel
theorem pd_24 : parseFieldDescriptor "[LFixpointEngine$Part;" = some (.array (.object "FixpointEngine$Part")) := by decide +kernel
theorem pd_25 : parseFieldDescriptor "[LFixpointEngine$Selection;" = some (.array (.object "FixpointEngine$Selection")) := by decide +kernel
theorem pd_26 : parseFieldDescriptor "[LFixpointEngine$Term;" = some (.array (.object "FixpointEngine$Term")) := by decide +kernel
theorem pd_27 : parseFieldDescriptor "[LFixpointEngine$Source;" = some (.array (.object "FixpointEngine$Source")) := by decide +kernel
theorem pd_28 : parseFieldDescriptor "[LFixpointEngine$Condition;" = some (.array (.object "FixpointEngine$Condition")) := by decide +kernel
theorem pd_29 : parseFieldDescriptor "[LFixpointEngine$Relation;" = some (.array (.object "FixpointEngine$Relation")) := by decide +kernel
theorem pd_30 : parseFieldDescriptor "[Ljava/lang/Object;" = some (.array (.object "java/lang/Object")) := by decide +kernel
theorem pd_31 : parseFieldDescriptor "[Z" = some (.array (.boolean)) := by decide +kernel
theorem el_23 : g_elem 13 13 "FixpointEngine$Kind" := ⟨rfl, Or.inr ⟨rfl, rfl⟩⟩
theorem el_24 : g_elem 7 7 "FixpointEngine$Part" := ⟨rfl, Or.inl ⟨_, ob_Pa, rfl, rfl⟩⟩
theorem el_25 : g_elem 8 8 "FixpointEngine$Selection" := ⟨rfl, Or.inl ⟨_, ob_Se, rfl, rfl⟩⟩
theorem el_26 : g_elem 11 11 "FixpointEngine$Term" := ⟨rfl, Or.inl ⟨_, ob_Te, rfl, rfl⟩⟩
theorem el_27 : g_elem 9 9 "FixpointEngine$Source" := ⟨rfl, Or.inl ⟨_, ob_So, rfl, rfl⟩⟩
theorem el_28 : g_elem 10 10 "FixpointEngine$Condition" := ⟨rfl, Or.inl ⟨_, ob_Co, rfl, rfl⟩⟩
theorem el_29 : g_elem 5 5 "FixpointEngine$Relation" := ⟨rfl, Or.inl ⟨_, ob_Rl, rfl, rfl⟩⟩
abbrev b_E_init : ByteArray := prog_1_method_1_code
def y_E_init : MethodName := ⟨"FixpointEngine", "<init>", "()V"⟩
theorem pl_E_init : (parseMethodDescriptor y_E_init.desc).map (fun z => z.parameters.length) = some 0 := by decide +kernel
abbrev b_E_table : ByteArray := prog_1_method_2_code
def y_E_table : MethodName := ⟨"FixpointEngine", "table", "(I)I"⟩
theorem pl_E_table : (parseMethodDescriptor y_E_table.desc).map (fun z => z.parameters.length) = some 1 := by decide +kernel
abbrev b_E_row : ByteArray := prog_1_method_3_code
def y_E_row : MethodName := ⟨"FixpointEngine", "row", "(IIIII)I"⟩
theorem pl_E_row : (parseMethodDescriptor y_E_row.desc).map (fun z => z.parameters.length) = some 5 := by decide +kernel
abbrev b_E_clear : ByteArray := prog_1_method_4_code
def y_E_clear : MethodName := ⟨"FixpointEngine", "clear", "(I)I"⟩
theorem pl_E_clear : (parseMethodDescriptor y_E_clear.desc).map (fun z => z.parameters.length) = some 1 := by decide +kernel
abbrev b_E_text : ByteArray := prog_1_method_5_code
def y_E_text : MethodName := ⟨"FixpointEngine", "text", "(IIIII)Z"⟩
theorem pl_E_text : (parseMethodDescriptor y_E_text.desc).map (fun z => z.parameters.length) = some 5 := by decide +kernel
abbrev b_E_prepare : ByteArray := prog_1_method_6_code
def y_E_prepare : MethodName := ⟨"FixpointEngine", "prepare", "()I"⟩
theorem pl_E_prepare : (parseMethodDescriptor y_E_prepare.desc).map (fun z => z.parameters.length) = some 0 := by decide +kernel
abbrev b_E_fault : ByteArray := prog_1_method_7_code
def y_E_fault : MethodName := ⟨"FixpointEngine", "fault", "()I"⟩
theorem pl_E_fault : (parseMethodDescriptor y_E_fault.desc).map (fun z => z.parameters.length) = some 0 := by decide +kernel
abbrev b_E_part : ByteArray := prog_1_method_8_code
def y_E_part : MethodName := ⟨"FixpointEngine", "part", "(II)I"⟩
theorem pl_E_part : (parseMethodDescriptor y_E_part.desc).map (fun z => z.parameters.length) = some 2 := by decide +kernel
abbrev b_E_run : ByteArray := prog_1_method_9_code
def y_E_run : MethodName := ⟨"FixpointEngine", "run", "(II)I"⟩
theorem pl_E_run : (parseMethodDescriptor y_E_run.desc).map (fun z => z.parameters.length) = some 2 := by decide +kernel
abbrev b_E_cell : ByteArray := prog_1_method_10_code
def y_E_cell : MethodName := ⟨"FixpointEngine", "cell", "(II)J"⟩
theorem pl_E_cell : (parseMethodDescriptor y_E_cell.desc).map (fun z => z.parameters.length) = some 2 := by decide +kernel
abbrev b_E_size : ByteArray := prog_1_method_11_code
def y_E_size : MethodName := ⟨"FixpointEngine", "size", "(I)I"⟩
theorem pl_E_size : (parseMethodDescriptor y_E_size.desc).map (fun z => z.parameters.length) = some 1 := by decide +kernel
abbrev b_E_rounds : ByteArray := prog_1_method_12_code
def y_E_rounds : MethodName := ⟨"FixpointEngine", "rounds", "(II)I"⟩
theorem pl_E_rounds : (parseMethodDescriptor y_E_rounds.desc).map (fun z => z.parameters.length) = some 2 := by decide +kernel
abbrev b_M_init : ByteArray := prog_15_method_1_code
def y_M_init : MethodName := ⟨"FixpointEngineModel", "<init>", "()V"⟩
theorem pl_M_init : (parseMethodDescriptor y_M_init.desc).map (fun z => z.parameters.length) = some 0 := by decide +kernel
abbrev b_M_thrown : ByteArray := prog_15_method_2_code
def y_M_thrown : MethodName := ⟨"FixpointEngineModel", "thrown", "()I"⟩
theorem pl_M_thrown : (parseMethodDescriptor y_M_thrown.desc).map (fun z => z.parameters.length) = some 0 := by decide +kernel
abbrev b_M_word : ByteArray := prog_15_method_3_code
def y_M_word : MethodName := ⟨"FixpointEngineModel", "word", "(IIIIIIIIII)V"⟩
theorem pl_M_word : (parseMethodDescriptor y_M_word.desc).map (fun z => z.parameters.length) = some 10 := by decide +kernel
abbrev b_M_longer : ByteArray := prog_15_method_4_code
def y_M_longer : MethodName := ⟨"FixpointEngineModel", "longer", "(JI)J"⟩
theorem pl_M_longer : (parseMethodDescriptor y_M_longer.desc).map (fun z => z.parameters.length) = some 2 := by decide +kernel
abbrev b_M_table : ByteArray := prog_15_method_5_code
def y_M_table : MethodName := ⟨"FixpointEngineModel", "table", "(I)I"⟩
theorem pl_M_table : (parseMethodDescriptor y_M_table.desc).map (fun z => z.parameters.length) = some 1 := by decide +kernel
abbrev b_M_row : ByteArray := prog_15_method_6_code
def y_M_row : MethodName := ⟨"FixpointEngineModel", "row", "(IIIII)I"⟩
theorem pl_M_row : (parseMethodDescriptor y_M_row.desc).map (fun z => z.parameters.length) = some 5 := by decide +kernel
abbrev b_M_clear : ByteArray := prog_15_method_7_code
def y_M_clear : MethodName := ⟨"FixpointEngineModel", "clear", "(I)I"⟩
theorem pl_M_clear : (parseMethodDescriptor y_M_clear.desc).map (fun z => z.parameters.length) = some 1 := by decide +kernel
abbrev b_M_text : ByteArray := prog_15_method_8_code
def y_M_text : MethodName := ⟨"FixpointEngineModel", "text", "(IIIII)Z"⟩
theorem pl_M_text : (parseMethodDescriptor y_M_text.desc).map (fun z => z.parameters.length) = some 5 := by decide +kernel
abbrev b_M_byteOf : ByteArray := prog_15_method_9_code
def y_M_byteOf : MethodName := ⟨"FixpointEngineModel", "byteOf", "(IIIIII)I"⟩
theorem pl_M_byteOf : (parseMethodDescriptor y_M_byteOf.desc).map (fun z => z.parameters.length) = some 6 := by decide +kernel
abbrev b_M_isCapital : ByteArray := prog_15_method_10_code
def y_M_isCapital : MethodName := ⟨"FixpointEngineModel", "isCapital", "(I)Z"⟩
theorem pl_M_isCapital : (parseMethodDescriptor y_M_isCapital.desc).map (fun z => z.parameters.length) = some 1 := by decide +kernel
abbrev b_M_isSmall : ByteArray := prog_15_method_11_code
def y_M_isSmall : MethodName := ⟨"FixpointEngineModel", "isSmall", "(I)Z"⟩
theorem pl_M_isSmall : (parseMethodDescriptor y_M_isSmall.desc).map (fun z => z.parameters.length) = some 1 := by decide +kernel
abbrev b_M_isDigit : ByteArray := prog_15_method_12_code
def y_M_isDigit : MethodName := ⟨"FixpointEngineModel", "isDigit", "(I)Z"⟩
theorem pl_M_isDigit : (parseMethodDescriptor y_M_isDigit.desc).map (fun z => z.parameters.length) = some 1 := by decide +kernel
abbrev b_M_letter : ByteArray := prog_15_method_13_code
def y_M_letter : MethodName := ⟨"FixpointEngineModel", "letter", "(I)I"⟩
theorem pl_M_letter : (parseMethodDescriptor y_M_letter.desc).map (fun z => z.parameters.length) = some 1 := by decide +kernel
abbrev b_M_scan : ByteArray := prog_15_method_14_code
def y_M_scan : MethodName := ⟨"FixpointEngineModel", "scan", "()V"⟩
theorem pl_M_scan : (parseMethodDescriptor y_M_scan.desc).map (fun z => z.parameters.length) = some 0 := by decide +kernel
abbrev b_M_scanKeyword : ByteArray := prog_15_method_15_code
def y_M_scanKeyword : MethodName := ⟨"FixpointEngineModel", "scanKeyword", "(I)I"⟩
theorem pl_M_scanKeyword : (parseMethodDescriptor y_M_scanKeyword.desc).map (fun z => z.parameters.length) = some 1 := by decide +kernel
abbrev b_M_scanName : ByteArray := prog_15_method_16_code
def y_M_scanName : MethodName := ⟨"FixpointEngineModel", "scanName", "(I)I"⟩
theorem pl_M_scanName : (parseMethodDescriptor y_M_scanName.desc).map (fun z => z.parameters.length) = some 1 := by decide +kernel
abbrev b_M_scanNumber : ByteArray := prog_15_method_17_code
def y_M_scanNumber : MethodName := ⟨"FixpointEngineModel", "scanNumber", "(I)I"⟩
theorem pl_M_scanNumber : (parseMethodDescriptor y_M_scanNumber.desc).map (fun z => z.parameters.length) = some 1 := by decide +kernel
abbrev b_M_scanSign : ByteArray := prog_15_method_18_code
def y_M_scanSign : MethodName := ⟨"FixpointEngineModel", "scanSign", "(I)I"⟩
theorem pl_M_scanSign : (parseMethodDescriptor y_M_scanSign.desc).map (fun z => z.parameters.length) = some 1 := by decide +kernel
abbrev b_M_note : ByteArray := prog_15_method_19_code
def y_M_note : MethodName := ⟨"FixpointEngineModel", "note", "(II)V"⟩
theorem pl_M_note : (parseMethodDescriptor y_M_note.desc).map (fun z => z.parameters.length) = some 2 := by decide +kernel
abbrev b_M_bad : ByteArray := prog_15_method_20_code
def y_M_bad : MethodName := ⟨"FixpointEngineModel", "bad", "()Z"⟩
theorem pl_M_bad : (parseMethodDescriptor y_M_bad.desc).map (fun z => z.parameters.length) = some 0 := by decide +kernel
abbrev b_M_is : ByteArray := prog_15_method_21_code
def y_M_is : MethodName := ⟨"FixpointEngineModel", "is", "(I)Z"⟩
theorem pl_M_is : (parseMethodDescriptor y_M_is.desc).map (fun z => z.parameters.length) = some 1 := by decide +kernel
abbrev b_M_isSign : ByteArray := prog_15_method_22_code
def y_M_isSign : MethodName := ⟨"FixpointEngineModel", "isSign", "(I)Z"⟩
theorem pl_M_isSign : (parseMethodDescriptor y_M_isSign.desc).map (fun z => z.parameters.length) = some 1 := by decide +kernel
abbrev b_M_need : ByteArray := prog_15_method_23_code
def y_M_need : MethodName := ⟨"FixpointEngineModel", "need", "(I)I"⟩
theorem pl_M_need : (parseMethodDescriptor y_M_need.desc).map (fun z => z.parameters.length) = some 1 := by decide +kernel
abbrev b_M_needSign : ByteArray := prog_15_method_24_code
def y_M_needSign : MethodName := ⟨"FixpointEngineModel", "needSign", "(I)V"⟩
theorem pl_M_needSign : (parseMethodDescriptor y_M_needSign.desc).map (fun z => z.parameters.length) = some 1 := by decide +kernel
abbrev b_M_skip : ByteArray := prog_15_method_25_code
def y_M_skip : MethodName := ⟨"FixpointEngineModel", "skip", "(I)Z"⟩
theorem pl_M_skip : (parseMethodDescriptor y_M_skip.desc).map (fun z => z.parameters.length) = some 1 := by decide +kernel
abbrev b_M_skipSign : ByteArray := prog_15_method_26_code
def y_M_skipSign : MethodName := ⟨"FixpointEngineModel", "skipSign", "(I)Z"⟩
theorem pl_M_skipSign : (parseMethodDescriptor y_M_skipSign.desc).map (fun z => z.parameters.length) = some 1 := by decide +kernel
abbrev b_M_readQuery : ByteArray := prog_15_method_27_code
def y_M_readQuery : MethodName := ⟨"FixpointEngineModel", "readQuery", "()V"⟩
theorem pl_M_readQuery : (parseMethodDescriptor y_M_readQuery.desc).map (fun z => z.parameters.length) = some 0 := by decide +kernel
abbrev b_M_readPart : ByteArray := prog_15_method_28_code
def y_M_readPart : MethodName := ⟨"FixpointEngineModel", "readPart", "()V"⟩
theorem pl_M_readPart : (parseMethodDescriptor y_M_readPart.desc).map (fun z => z.parameters.length) = some 0 := by decide +kernel
abbrev b_M_readTrails : ByteArray := prog_15_method_29_code
def y_M_readTrails : MethodName := ⟨"FixpointEngineModel", "readTrails", "(I)V"⟩
theorem pl_M_readTrails : (parseMethodDescriptor y_M_readTrails.desc).map (fun z => z.parameters.length) = some 1 := by decide +kernel
abbrev b_M_readSelection : ByteArray := prog_15_method_30_code
def y_M_readSelection : MethodName := ⟨"FixpointEngineModel", "readSelection", "(I)V"⟩
theorem pl_M_readSelection : (parseMethodDescriptor y_M_readSelection.desc).map (fun z => z.parameters.length) = some 1 := by decide +kernel
abbrev b_M_readItem : ByteArray := prog_15_method_31_code
def y_M_readItem : MethodName := ⟨"FixpointEngineModel", "readItem", "(I)V"⟩
theorem pl_M_readItem : (parseMethodDescriptor y_M_readItem.desc).map (fun z => z.parameters.length) = some 1 := by decide +kernel
abbrev b_M_readSource : ByteArray := prog_15_method_32_code
def y_M_readSource : MethodName := ⟨"FixpointEngineModel", "readSource", "()V"⟩
theorem pl_M_readSource : (parseMethodDescriptor y_M_readSource.desc).map (fun z => z.parameters.length) = some 0 := by decide +kernel
abbrev b_M_readCondition : ByteArray := prog_15_method_33_code
def y_M_readCondition : MethodName := ⟨"FixpointEngineModel", "readCondition", "()I"⟩
theorem pl_M_readCondition : (parseMethodDescriptor y_M_readCondition.desc).map (fun z => z.parameters.length) = some 0 := by decide +kernel
abbrev b_M_readNotExists : ByteArray := prog_15_method_34_code
def y_M_readNotExists : MethodName := ⟨"FixpointEngineModel", "readNotExists", "()I"⟩
theorem pl_M_readNotExists : (parseMethodDescriptor y_M_readNotExists.desc).map (fun z => z.parameters.length) = some 0 := by decide +kernel
abbrev b_M_readExpression : ByteArray := prog_15_method_35_code
def y_M_readExpression : MethodName := ⟨"FixpointEngineModel", "readExpression", "()I"⟩
theorem pl_M_readExpression : (parseMethodDescriptor y_M_readExpression.desc).map (fun z => z.parameters.length) = some 0 := by decide +kernel
abbrev b_M_readOperand : ByteArray := prog_15_method_36_code
def y_M_readOperand : MethodName := ⟨"FixpointEngineModel", "readOperand", "(I)V"⟩
theorem pl_M_readOperand : (parseMethodDescriptor y_M_readOperand.desc).map (fun z => z.parameters.length) = some 1 := by decide +kernel
abbrev b_M_readOrder : ByteArray := prog_15_method_37_code
def y_M_readOrder : MethodName := ⟨"FixpointEngineModel", "readOrder", "()V"⟩
theorem pl_M_readOrder : (parseMethodDescriptor y_M_readOrder.desc).map (fun z => z.parameters.length) = some 0 := by decide +kernel
abbrev b_M_meaning : ByteArray := prog_15_method_38_code
def y_M_meaning : MethodName := ⟨"FixpointEngineModel", "meaning", "(I)I"⟩
theorem pl_M_meaning : (parseMethodDescriptor y_M_meaning.desc).map (fun z => z.parameters.length) = some 1 := by decide +kernel
abbrev b_M_columnOf : ByteArray := prog_15_method_39_code
def y_M_columnOf : MethodName := ⟨"FixpointEngineModel", "columnOf", "(IJZ)I"⟩
theorem pl_M_columnOf : (parseMethodDescriptor y_M_columnOf.desc).map (fun z => z.parameters.length) = some 3 := by decide +kernel
abbrev b_M_slotOf : ByteArray := prog_15_method_40_code
def y_M_slotOf : MethodName := ⟨"FixpointEngineModel", "slotOf", "(IJI)I"⟩
theorem pl_M_slotOf : (parseMethodDescriptor y_M_slotOf.desc).map (fun z => z.parameters.length) = some 3 := by decide +kernel
abbrev b_M_resolveSource : ByteArray := prog_15_method_41_code
def y_M_resolveSource : MethodName := ⟨"FixpointEngineModel", "resolveSource", "(II)V"⟩
theorem pl_M_resolveSource : (parseMethodDescriptor y_M_resolveSource.desc).map (fun z => z.parameters.length) = some 2 := by decide +kernel
abbrev b_M_resolveExpression : ByteArray := prog_15_method_42_code
def y_M_resolveExpression : MethodName := ⟨"FixpointEngineModel", "resolveExpression", "(III)V"⟩
theorem pl_M_resolveExpression : (parseMethodDescriptor y_M_resolveExpression.desc).map (fun z => z.parameters.length) = some 3 := by decide +kernel
abbrev b_M_resolveCondition : ByteArray := prog_15_method_43_code
def y_M_resolveCondition : MethodName := ⟨"FixpointEngineModel", "resolveCondition", "(III)V"⟩
theorem pl_M_resolveCondition : (parseMethodDescriptor y_M_resolveCondition.desc).map (fun z => z.parameters.length) = some 3 := by decide +kernel
abbrev b_M_resolveNotExists : ByteArray := prog_15_method_44_code
def y_M_resolveNotExists : MethodName := ⟨"FixpointEngineModel", "resolveNotExists", "(II)V"⟩
theorem pl_M_resolveNotExists : (parseMethodDescriptor y_M_resolveNotExists.desc).map (fun z => z.parameters.length) = some 2 := by decide +kernel
abbrev b_M_resolveSelection : ByteArray := prog_15_method_45_code
def y_M_resolveSelection : MethodName := ⟨"FixpointEngineModel", "resolveSelection", "(I)V"⟩
theorem pl_M_resolveSelection : (parseMethodDescriptor y_M_resolveSelection.desc).map (fun z => z.parameters.length) = some 1 := by decide +kernel
abbrev b_M_ownColumn : ByteArray := prog_15_method_46_code
def y_M_ownColumn : MethodName := ⟨"FixpointEngineModel", "ownColumn", "(II)I"⟩
theorem pl_M_ownColumn : (parseMethodDescriptor y_M_ownColumn.desc).map (fun z => z.parameters.length) = some 2 := by decide +kernel
abbrev b_M_fresh : ByteArray := prog_15_method_47_code
def y_M_fresh : MethodName := ⟨"FixpointEngineModel", "fresh", "(IIIZ)V"⟩
theorem pl_M_fresh : (parseMethodDescriptor y_M_fresh.desc).map (fun z => z.parameters.length) = some 4 := by decide +kernel
abbrev b_M_resolvePart : ByteArray := prog_15_method_48_code
def y_M_resolvePart : MethodName := ⟨"FixpointEngineModel", "resolvePart", "(I)V"⟩
theorem pl_M_resolvePart : (parseMethodDescriptor y_M_resolvePart.desc).map (fun z => z.parameters.length) = some 1 := by decide +kernel
abbrev b_M_resolveOrder : ByteArray := prog_15_method_49_code
def y_M_resolveOrder : MethodName := ⟨"FixpointEngineModel", "resolveOrder", "(I)V"⟩
theorem pl_M_resolveOrder : (parseMethodDescriptor y_M_resolveOrder.desc).map (fun z => z.parameters.length) = some 1 := by decide +kernel
abbrev b_M_partNamed : ByteArray := prog_15_method_50_code
def y_M_partNamed : MethodName := ⟨"FixpointEngineModel", "partNamed", "(I)I"⟩
theorem pl_M_partNamed : (parseMethodDescriptor y_M_partNamed.desc).map (fun z => z.parameters.length) = some 1 := by decide +kernel
abbrev b_M_named : ByteArray := prog_15_method_51_code
def y_M_named : MethodName := ⟨"FixpointEngineModel", "named", "(IZ)I"⟩
theorem pl_M_named : (parseMethodDescriptor y_M_named.desc).map (fun z => z.parameters.length) = some 2 := by decide +kernel
abbrev b_M_findComponents : ByteArray := prog_15_method_52_code
def y_M_findComponents : MethodName := ⟨"FixpointEngineModel", "findComponents", "()V"⟩
theorem pl_M_findComponents : (parseMethodDescriptor y_M_findComponents.desc).map (fun z => z.parameters.length) = some 0 := by decide +kernel
abbrev b_M_together : ByteArray := prog_15_method_53_code
def y_M_together : MethodName := ⟨"FixpointEngineModel", "together", "(I)I"⟩
theorem pl_M_together : (parseMethodDescriptor y_M_together.desc).map (fun z => z.parameters.length) = some 1 := by decide +kernel
abbrev b_M_isRecursive : ByteArray := prog_15_method_54_code
def y_M_isRecursive : MethodName := ⟨"FixpointEngineModel", "isRecursive", "(I)Z"⟩
theorem pl_M_isRecursive : (parseMethodDescriptor y_M_isRecursive.desc).map (fun z => z.parameters.length) = some 1 := by decide +kernel
abbrev b_M_checkShapes : ByteArray := prog_15_method_55_code
def y_M_checkShapes : MethodName := ⟨"FixpointEngineModel", "checkShapes", "()V"⟩
theorem pl_M_checkShapes : (parseMethodDescriptor y_M_checkShapes.desc).map (fun z => z.parameters.length) = some 0 := by decide +kernel
abbrev b_M_timesNamed : ByteArray := prog_15_method_56_code
def y_M_timesNamed : MethodName := ⟨"FixpointEngineModel", "timesNamed", "(II)I"⟩
theorem pl_M_timesNamed : (parseMethodDescriptor y_M_timesNamed.desc).map (fun z => z.parameters.length) = some 2 := by decide +kernel
abbrev b_M_checkBarred : ByteArray := prog_15_method_57_code
def y_M_checkBarred : MethodName := ⟨"FixpointEngineModel", "checkBarred", "(II)V"⟩
theorem pl_M_checkBarred : (parseMethodDescriptor y_M_checkBarred.desc).map (fun z => z.parameters.length) = some 2 := by decide +kernel
abbrev b_M_prepare : ByteArray := prog_15_method_58_code
def y_M_prepare : MethodName := ⟨"FixpointEngineModel", "prepare", "()I"⟩
theorem pl_M_prepare : (parseMethodDescriptor y_M_prepare.desc).map (fun z => z.parameters.length) = some 0 := by decide +kernel
abbrev b_M_fault : ByteArray := prog_15_method_59_code
def y_M_fault : MethodName := ⟨"FixpointEngineModel", "fault", "()I"⟩
theorem pl_M_fault : (parseMethodDescriptor y_M_fault.desc).map (fun z => z.parameters.length) = some 0 := by decide +kernel
abbrev b_M_part : ByteArray := prog_15_method_60_code
def y_M_part : MethodName := ⟨"FixpointEngineModel", "part", "(II)I"⟩
theorem pl_M_part : (parseMethodDescriptor y_M_part.desc).map (fun z => z.parameters.length) = some 2 := by decide +kernel
abbrev b_M_cellOf : ByteArray := prog_15_method_61_code
def y_M_cellOf : MethodName := ⟨"FixpointEngineModel", "cellOf", "(II)J"⟩
theorem pl_M_cellOf : (parseMethodDescriptor y_M_cellOf.desc).map (fun z => z.parameters.length) = some 2 := by decide +kernel
abbrev b_M_valueOf : ByteArray := prog_15_method_62_code
def y_M_valueOf : MethodName := ⟨"FixpointEngineModel", "valueOf", "(I)J"⟩
theorem pl_M_valueOf : (parseMethodDescriptor y_M_valueOf.desc).map (fun z => z.parameters.length) = some 1 := by decide +kernel
abbrev b_M_compares : ByteArray := prog_15_method_63_code
def y_M_compares : MethodName := ⟨"FixpointEngineModel", "compares", "(I)Z"⟩
theorem pl_M_compares : (parseMethodDescriptor y_M_compares.desc).map (fun z => z.parameters.length) = some 1 := by decide +kernel
abbrev b_M_hasNone : ByteArray := prog_15_method_64_code
def y_M_hasNone : MethodName := ⟨"FixpointEngineModel", "hasNone", "(I)Z"⟩
theorem pl_M_hasNone : (parseMethodDescriptor y_M_hasNone.desc).map (fun z => z.parameters.length) = some 1 := by decide +kernel
abbrev b_M_passes : ByteArray := prog_15_method_65_code
def y_M_passes : MethodName := ⟨"FixpointEngineModel", "passes", "(I)Z"⟩
theorem pl_M_passes : (parseMethodDescriptor y_M_passes.desc).map (fun z => z.parameters.length) = some 1 := by decide +kernel
abbrev b_M_gather : ByteArray := prog_15_method_66_code
def y_M_gather : MethodName := ⟨"FixpointEngineModel", "gather", "(IIII)V"⟩
theorem pl_M_gather : (parseMethodDescriptor y_M_gather.desc).map (fun z => z.parameters.length) = some 4 := by decide +kernel
abbrev b_M_isSeen : ByteArray := prog_15_method_67_code
def y_M_isSeen : MethodName := ⟨"FixpointEngineModel", "isSeen", "(IIIIII)Z"⟩
theorem pl_M_isSeen : (parseMethodDescriptor y_M_isSeen.desc).map (fun z => z.parameters.length) = some 6 := by decide +kernel
abbrev b_M_first : ByteArray := prog_15_method_68_code
def y_M_first : MethodName := ⟨"FixpointEngineModel", "first", "(I)Z"⟩
theorem pl_M_first : (parseMethodDescriptor y_M_first.desc).map (fun z => z.parameters.length) = some 1 := by decide +kernel
abbrev b_M_next : ByteArray := prog_15_method_69_code
def y_M_next : MethodName := ⟨"FixpointEngineModel", "next", "(I)Z"⟩
theorem pl_M_next : (parseMethodDescriptor y_M_next.desc).map (fun z => z.parameters.length) = some 1 := by decide +kernel
abbrev b_M_matches : ByteArray := prog_15_method_70_code
def y_M_matches : MethodName := ⟨"FixpointEngineModel", "matches", "(I)Z"⟩
theorem pl_M_matches : (parseMethodDescriptor y_M_matches.desc).map (fun z => z.parameters.length) = some 1 := by decide +kernel
abbrev b_M_isInt : ByteArray := prog_15_method_71_code
def y_M_isInt : MethodName := ⟨"FixpointEngineModel", "isInt", "(J)Z"⟩
theorem pl_M_isInt : (parseMethodDescriptor y_M_isInt.desc).map (fun z => z.parameters.length) = some 1 := by decide +kernel
abbrev b_M_fits : ByteArray := prog_15_method_72_code
def y_M_fits : MethodName := ⟨"FixpointEngineModel", "fits", "(J)Z"⟩
theorem pl_M_fits : (parseMethodDescriptor y_M_fits.desc).map (fun z => z.parameters.length) = some 1 := by decide +kernel
abbrev b_M_itemOf : ByteArray := prog_15_method_73_code
def y_M_itemOf : MethodName := ⟨"FixpointEngineModel", "itemOf", "(II)J"⟩
theorem pl_M_itemOf : (parseMethodDescriptor y_M_itemOf.desc).map (fun z => z.parameters.length) = some 2 := by decide +kernel
abbrev b_M_kindOf : ByteArray := prog_15_method_74_code
def y_M_kindOf : MethodName := ⟨"FixpointEngineModel", "kindOf", "(II)I"⟩
theorem pl_M_kindOf : (parseMethodDescriptor y_M_kindOf.desc).map (fun z => z.parameters.length) = some 2 := by decide +kernel
abbrev b_M_workOut : ByteArray := prog_15_method_75_code
def y_M_workOut : MethodName := ⟨"FixpointEngineModel", "workOut", "(IIII)V"⟩
theorem pl_M_workOut : (parseMethodDescriptor y_M_workOut.desc).map (fun z => z.parameters.length) = some 4 := by decide +kernel
abbrev b_M_makeGroups : ByteArray := prog_15_method_76_code
def y_M_makeGroups : MethodName := ⟨"FixpointEngineModel", "makeGroups", "(I)V"⟩
theorem pl_M_makeGroups : (parseMethodDescriptor y_M_makeGroups.desc).map (fun z => z.parameters.length) = some 1 := by decide +kernel
abbrev b_M_openGroup : ByteArray := prog_15_method_77_code
def y_M_openGroup : MethodName := ⟨"FixpointEngineModel", "openGroup", "(I)V"⟩
theorem pl_M_openGroup : (parseMethodDescriptor y_M_openGroup.desc).map (fun z => z.parameters.length) = some 1 := by decide +kernel
abbrev b_M_groupOf : ByteArray := prog_15_method_78_code
def y_M_groupOf : MethodName := ⟨"FixpointEngineModel", "groupOf", "(I)I"⟩
theorem pl_M_groupOf : (parseMethodDescriptor y_M_groupOf.desc).map (fun z => z.parameters.length) = some 1 := by decide +kernel
abbrev b_M_fold : ByteArray := prog_15_method_79_code
def y_M_fold : MethodName := ⟨"FixpointEngineModel", "fold", "(IIJ)V"⟩
theorem pl_M_fold : (parseMethodDescriptor y_M_fold.desc).map (fun z => z.parameters.length) = some 3 := by decide +kernel
abbrev b_M_checkGroups : ByteArray := prog_15_method_80_code
def y_M_checkGroups : MethodName := ⟨"FixpointEngineModel", "checkGroups", "(I)V"⟩
theorem pl_M_checkGroups : (parseMethodDescriptor y_M_checkGroups.desc).map (fun z => z.parameters.length) = some 1 := by decide +kernel
abbrev b_M_bring : ByteArray := prog_15_method_81_code
def y_M_bring : MethodName := ⟨"FixpointEngineModel", "bring", "(II)V"⟩
theorem pl_M_bring : (parseMethodDescriptor y_M_bring.desc).map (fun z => z.parameters.length) = some 2 := by decide +kernel
abbrev b_M_parent : ByteArray := prog_15_method_82_code
def y_M_parent : MethodName := ⟨"FixpointEngineModel", "parent", "(II)I"⟩
theorem pl_M_parent : (parseMethodDescriptor y_M_parent.desc).map (fun z => z.parameters.length) = some 2 := by decide +kernel
abbrev b_M_lengthen : ByteArray := prog_15_method_83_code
def y_M_lengthen : MethodName := ⟨"FixpointEngineModel", "lengthen", "(II)V"⟩
theorem pl_M_lengthen : (parseMethodDescriptor y_M_lengthen.desc).map (fun z => z.parameters.length) = some 2 := by decide +kernel
abbrev b_M_isThere : ByteArray := prog_15_method_84_code
def y_M_isThere : MethodName := ⟨"FixpointEngineModel", "isThere", "(I)Z"⟩
theorem pl_M_isThere : (parseMethodDescriptor y_M_isThere.desc).map (fun z => z.parameters.length) = some 1 := by decide +kernel
abbrev b_M_isAlike : ByteArray := prog_15_method_85_code
def y_M_isAlike : MethodName := ⟨"FixpointEngineModel", "isAlike", "(II)Z"⟩
theorem pl_M_isAlike : (parseMethodDescriptor y_M_isAlike.desc).map (fun z => z.parameters.length) = some 2 := by decide +kernel
abbrev b_M_bringAnswer : ByteArray := prog_15_method_86_code
def y_M_bringAnswer : MethodName := ⟨"FixpointEngineModel", "bringAnswer", "(II)V"⟩
theorem pl_M_bringAnswer : (parseMethodDescriptor y_M_bringAnswer.desc).map (fun z => z.parameters.length) = some 2 := by decide +kernel
abbrev b_M_compare : ByteArray := prog_15_method_87_code
def y_M_compare : MethodName := ⟨"FixpointEngineModel", "compare", "(JJ)I"⟩
theorem pl_M_compare : (parseMethodDescriptor y_M_compare.desc).map (fun z => z.parameters.length) = some 2 := by decide +kernel
abbrev b_M_compareTrails : ByteArray := prog_15_method_88_code
def y_M_compareTrails : MethodName := ⟨"FixpointEngineModel", "compareTrails", "(II)I"⟩
theorem pl_M_compareTrails : (parseMethodDescriptor y_M_compareTrails.desc).map (fun z => z.parameters.length) = some 2 := by decide +kernel
abbrev b_M_compareAnswers : ByteArray := prog_15_method_89_code
def y_M_compareAnswers : MethodName := ⟨"FixpointEngineModel", "compareAnswers", "(II)I"⟩
theorem pl_M_compareAnswers : (parseMethodDescriptor y_M_compareAnswers.desc).map (fun z => z.parameters.length) = some 2 := by decide +kernel
abbrev b_M_sort : ByteArray := prog_15_method_90_code
def y_M_sort : MethodName := ⟨"FixpointEngineModel", "sort", "()V"⟩
theorem pl_M_sort : (parseMethodDescriptor y_M_sort.desc).map (fun z => z.parameters.length) = some 0 := by decide +kernel
abbrev b_M_round : ByteArray := prog_15_method_91_code
def y_M_round : MethodName := ⟨"FixpointEngineModel", "round", "(IIIZ)V"⟩
theorem pl_M_round : (parseMethodDescriptor y_M_round.desc).map (fun z => z.parameters.length) = some 4 := by decide +kernel
abbrev b_M_workComponent : ByteArray := prog_15_method_92_code
def y_M_workComponent : MethodName := ⟨"FixpointEngineModel", "workComponent", "(II)V"⟩
theorem pl_M_workComponent : (parseMethodDescriptor y_M_workComponent.desc).map (fun z => z.parameters.length) = some 2 := by decide +kernel
abbrev b_M_run : ByteArray := prog_15_method_93_code
def y_M_run : MethodName := ⟨"FixpointEngineModel", "run", "(II)I"⟩
theorem pl_M_run : (parseMethodDescriptor y_M_run.desc).map (fun z => z.parameters.length) = some 2 := by decide +kernel
abbrev b_M_cell : ByteArray := prog_15_method_94_code
def y_M_cell : MethodName := ⟨"FixpointEngineModel", "cell", "(II)J"⟩
theorem pl_M_cell : (parseMethodDescriptor y_M_cell.desc).map (fun z => z.parameters.length) = some 2 := by decide +kernel
abbrev b_M_size : ByteArray := prog_15_method_95_code
def y_M_size : MethodName := ⟨"FixpointEngineModel", "size", "(I)I"⟩
theorem pl_M_size : (parseMethodDescriptor y_M_size.desc).map (fun z => z.parameters.length) = some 1 := by decide +kernel
abbrev b_M_rounds : ByteArray := prog_15_method_96_code
def y_M_rounds : MethodName := ⟨"FixpointEngineModel", "rounds", "(II)I"⟩
theorem pl_M_rounds : (parseMethodDescriptor y_M_rounds.desc).map (fun z => z.parameters.length) = some 2 := by decide +kernel
abbrev b_Ch_init : ByteArray := prog_3_method_1_code
def y_Ch_init : MethodName := ⟨"FixpointEngine$Checker", "<init>", "()V"⟩
theorem pl_Ch_init : (parseMethodDescriptor y_Ch_init.desc).map (fun z => z.parameters.length) = some 0 := by decide +kernel
abbrev b_Ch_find : ByteArray := prog_3_method_2_code
def y_Ch_find : MethodName := ⟨"FixpointEngine$Checker", "find", "(LFixpointEngine$Query;[LFixpointEngine$Relation;I)I"⟩
theorem pl_Ch_find : (parseMethodDescriptor y_Ch_find.desc).map (fun z => z.parameters.length) = some 3 := by decide +kernel
abbrev b_Ch_look : ByteArray := prog_3_method_3_code
def y_Ch_look : MethodName := ⟨"FixpointEngine$Checker", "look", "(I)V"⟩
theorem pl_Ch_look : (parseMethodDescriptor y_Ch_look.desc).map (fun z => z.parameters.length) = some 1 := by decide +kernel
abbrev b_Ch_note : ByteArray := prog_3_method_4_code
def y_Ch_note : MethodName := ⟨"FixpointEngine$Checker", "note", "(ZI)V"⟩
theorem pl_Ch_note : (parseMethodDescriptor y_Ch_note.desc).map (fun z => z.parameters.length) = some 2 := by decide +kernel
abbrev b_Ch_nameSources : ByteArray := prog_3_method_5_code
def y_Ch_nameSources : MethodName := ⟨"FixpointEngine$Checker", "nameSources", "()V"⟩
theorem pl_Ch_nameSources : (parseMethodDescriptor y_Ch_nameSources.desc).map (fun z => z.parameters.length) = some 0 := by decide +kernel
abbrev b_Ch_nameColumns : ByteArray := prog_3_method_6_code
def y_Ch_nameColumns : MethodName := ⟨"FixpointEngine$Checker", "nameColumns", "()V"⟩
theorem pl_Ch_nameColumns : (parseMethodDescriptor y_Ch_nameColumns.desc).map (fun z => z.parameters.length) = some 0 := by decide +kernel
abbrev b_Ch_knownSource : ByteArray := prog_3_method_7_code
def y_Ch_knownSource : MethodName := ⟨"FixpointEngine$Checker", "knownSource", "(LFixpointEngine$Term;)LFixpointEngine$Source;"⟩
theorem pl_Ch_knownSource : (parseMethodDescriptor y_Ch_knownSource.desc).map (fun z => z.parameters.length) = some 1 := by decide +kernel
abbrev b_Ch_indexIn : ByteArray := prog_3_method_8_code
def y_Ch_indexIn : MethodName := ⟨"FixpointEngine$Checker", "indexIn", "(LFixpointEngine$Source;J)I"⟩
theorem pl_Ch_indexIn : (parseMethodDescriptor y_Ch_indexIn.desc).map (fun z => z.parameters.length) = some 2 := by decide +kernel
abbrev b_Ch_needParts : ByteArray := prog_3_method_9_code
def y_Ch_needParts : MethodName := ⟨"FixpointEngine$Checker", "needParts", "()V"⟩
theorem pl_Ch_needParts : (parseMethodDescriptor y_Ch_needParts.desc).map (fun z => z.parameters.length) = some 0 := by decide +kernel
abbrev b_Ch_orderComponents : ByteArray := prog_3_method_10_code
def y_Ch_orderComponents : MethodName := ⟨"FixpointEngine$Checker", "orderComponents", "()V"⟩
theorem pl_Ch_orderComponents : (parseMethodDescriptor y_Ch_orderComponents.desc).map (fun z => z.parameters.length) = some 0 := by decide +kernel
abbrev b_Ch_nextReady : ByteArray := prog_3_method_11_code
def y_Ch_nextReady : MethodName := ⟨"FixpointEngine$Checker", "nextReady", "(I)I"⟩
theorem pl_Ch_nextReady : (parseMethodDescriptor y_Ch_nextReady.desc).map (fun z => z.parameters.length) = some 1 := by decide +kernel
abbrev b_Ch_namesOwnComponent : ByteArray := prog_3_method_12_code
def y_Ch_namesOwnComponent : MethodName := ⟨"FixpointEngine$Checker", "namesOwnComponent", "(LFixpointEngine$Source;)Z"⟩
theorem pl_Ch_namesOwnComponent : (parseMethodDescriptor y_Ch_namesOwnComponent.desc).map (fun z => z.parameters.length) = some 1 := by decide +kernel
abbrev b_Ch_countNamings : ByteArray := prog_3_method_13_code
def y_Ch_countNamings : MethodName := ⟨"FixpointEngine$Checker", "countNamings", "()V"⟩
theorem pl_Ch_countNamings : (parseMethodDescriptor y_Ch_countNamings.desc).map (fun z => z.parameters.length) = some 0 := by decide +kernel
abbrev b_Ch_lookAtParts : ByteArray := prog_3_method_14_code
def y_Ch_lookAtParts : MethodName := ⟨"FixpointEngine$Checker", "lookAtParts", "()V"⟩
theorem pl_Ch_lookAtParts : (parseMethodDescriptor y_Ch_lookAtParts.desc).map (fun z => z.parameters.length) = some 0 := by decide +kernel
abbrev b_Ch_lookAtSources : ByteArray := prog_3_method_15_code
def y_Ch_lookAtSources : MethodName := ⟨"FixpointEngine$Checker", "lookAtSources", "()V"⟩
theorem pl_Ch_lookAtSources : (parseMethodDescriptor y_Ch_lookAtSources.desc).map (fun z => z.parameters.length) = some 0 := by decide +kernel
abbrev b_Ch_lookAtColumns : ByteArray := prog_3_method_16_code
def y_Ch_lookAtColumns : MethodName := ⟨"FixpointEngine$Checker", "lookAtColumns", "()V"⟩
theorem pl_Ch_lookAtColumns : (parseMethodDescriptor y_Ch_lookAtColumns.desc).map (fun z => z.parameters.length) = some 0 := by decide +kernel
abbrev b_Ch_lookAtWidths : ByteArray := prog_3_method_17_code
def y_Ch_lookAtWidths : MethodName := ⟨"FixpointEngine$Checker", "lookAtWidths", "(LFixpointEngine$Part;)V"⟩
theorem pl_Ch_lookAtWidths : (parseMethodDescriptor y_Ch_lookAtWidths.desc).map (fun z => z.parameters.length) = some 1 := by decide +kernel
abbrev b_Ch_lookForBarred : ByteArray := prog_3_method_18_code
def y_Ch_lookForBarred : MethodName := ⟨"FixpointEngine$Checker", "lookForBarred", "()V"⟩
theorem pl_Ch_lookForBarred : (parseMethodDescriptor y_Ch_lookForBarred.desc).map (fun z => z.parameters.length) = some 0 := by decide +kernel
abbrev b_Ch_isWrong : ByteArray := prog_3_method_19_code
def y_Ch_isWrong : MethodName := ⟨"FixpointEngine$Checker", "isWrong", "(LFixpointEngine$Part;I)Z"⟩
theorem pl_Ch_isWrong : (parseMethodDescriptor y_Ch_isWrong.desc).map (fun z => z.parameters.length) = some 2 := by decide +kernel
abbrev b_Ch_namesItselfTwice : ByteArray := prog_3_method_20_code
def y_Ch_namesItselfTwice : MethodName := ⟨"FixpointEngine$Checker", "namesItselfTwice", "(LFixpointEngine$Part;)Z"⟩
theorem pl_Ch_namesItselfTwice : (parseMethodDescriptor y_Ch_namesItselfTwice.desc).map (fun z => z.parameters.length) = some 1 := by decide +kernel
abbrev b_Ch_levelConditions : ByteArray := prog_3_method_21_code
def y_Ch_levelConditions : MethodName := ⟨"FixpointEngine$Checker", "levelConditions", "()V"⟩
theorem pl_Ch_levelConditions : (parseMethodDescriptor y_Ch_levelConditions.desc).map (fun z => z.parameters.length) = some 0 := by decide +kernel
abbrev b_Co_init : ByteArray := prog_4_method_1_code
def y_Co_init : MethodName := ⟨"FixpointEngine$Condition", "<init>", "()V"⟩
theorem pl_Co_init : (parseMethodDescriptor y_Co_init.desc).map (fun z => z.parameters.length) = some 0 := by decide +kernel
abbrev b_Pa_init : ByteArray := prog_6_method_1_code
def y_Pa_init : MethodName := ⟨"FixpointEngine$Part", "<init>", "()V"⟩
theorem pl_Pa_init : (parseMethodDescriptor y_Pa_init.desc).map (fun z => z.parameters.length) = some 0 := by decide +kernel
abbrev b_Pa_columnNamedAt : ByteArray := prog_6_method_2_code
def y_Pa_columnNamedAt : MethodName := ⟨"FixpointEngine$Part", "columnNamedAt", "(I)I"⟩
theorem pl_Pa_columnNamedAt : (parseMethodDescriptor y_Pa_columnNamedAt.desc).map (fun z => z.parameters.length) = some 1 := by decide +kernel
abbrev b_Qu_init : ByteArray := prog_7_method_1_code
def y_Qu_init : MethodName := ⟨"FixpointEngine$Query", "<init>", "()V"⟩
theorem pl_Qu_init : (parseMethodDescriptor y_Qu_init.desc).map (fun z => z.parameters.length) = some 0 := by decide +kernel
abbrev b_Re_init : ByteArray := prog_8_method_1_code
def y_Re_init : MethodName := ⟨"FixpointEngine$Reader", "<init>", "()V"⟩
theorem pl_Re_init : (parseMethodDescriptor y_Re_init.desc).map (fun z => z.parameters.length) = some 0 := by decide +kernel
abbrev b_Re_take : ByteArray := prog_8_method_2_code
def y_Re_take : MethodName := ⟨"FixpointEngine$Reader", "take", "(I)Z"⟩
theorem pl_Re_take : (parseMethodDescriptor y_Re_take.desc).map (fun z => z.parameters.length) = some 1 := by decide +kernel
abbrev b_Re_stuckAt : ByteArray := prog_8_method_3_code
def y_Re_stuckAt : MethodName := ⟨"FixpointEngine$Reader", "stuckAt", "()I"⟩
theorem pl_Re_stuckAt : (parseMethodDescriptor y_Re_stuckAt.desc).map (fun z => z.parameters.length) = some 0 := by decide +kernel
abbrev b_Re_cut : ByteArray := prog_8_method_4_code
def y_Re_cut : MethodName := ⟨"FixpointEngine$Reader", "cut", "()V"⟩
theorem pl_Re_cut : (parseMethodDescriptor y_Re_cut.desc).map (fun z => z.parameters.length) = some 0 := by decide +kernel
abbrev b_Re_endOf : ByteArray := prog_8_method_5_code
def y_Re_endOf : MethodName := ⟨"FixpointEngine$Reader", "endOf", "(I)I"⟩
theorem pl_Re_endOf : (parseMethodDescriptor y_Re_endOf.desc).map (fun z => z.parameters.length) = some 1 := by decide +kernel
abbrev b_Re_belongs : ByteArray := prog_8_method_6_code
def y_Re_belongs : MethodName := ⟨"FixpointEngine$Reader", "belongs", "(CC)Z"⟩
theorem pl_Re_belongs : (parseMethodDescriptor y_Re_belongs.desc).map (fun z => z.parameters.length) = some 2 := by decide +kernel
abbrev b_Re_isSmall : ByteArray := prog_8_method_7_code
def y_Re_isSmall : MethodName := ⟨"FixpointEngine$Reader", "isSmall", "(C)Z"⟩
theorem pl_Re_isSmall : (parseMethodDescriptor y_Re_isSmall.desc).map (fun z => z.parameters.length) = some 1 := by decide +kernel
abbrev b_Re_isDigit : ByteArray := prog_8_method_8_code
def y_Re_isDigit : MethodName := ⟨"FixpointEngine$Reader", "isDigit", "(C)Z"⟩
theorem pl_Re_isDigit : (parseMethodDescriptor y_Re_isDigit.desc).map (fun z => z.parameters.length) = some 1 := by decide +kernel
abbrev b_Re_isCapital : ByteArray := prog_8_method_9_code
def y_Re_isCapital : MethodName := ⟨"FixpointEngine$Reader", "isCapital", "(C)Z"⟩
theorem pl_Re_isCapital : (parseMethodDescriptor y_Re_isCapital.desc).map (fun z => z.parameters.length) = some 1 := by decide +kernel
abbrev b_Re_kindOf : ByteArray := prog_8_method_10_code
def y_Re_kindOf : MethodName := ⟨"FixpointEngine$Reader", "kindOf", "(II)LFixpointEngine$Kind;"⟩
theorem pl_Re_kindOf : (parseMethodDescriptor y_Re_kindOf.desc).map (fun z => z.parameters.length) = some 2 := by decide +kernel
abbrev b_Re_isWritten : ByteArray := prog_8_method_11_code
def y_Re_isWritten : MethodName := ⟨"FixpointEngine$Reader", "isWritten", "(Ljava/lang/String;II)Z"⟩
theorem pl_Re_isWritten : (parseMethodDescriptor y_Re_isWritten.desc).map (fun z => z.parameters.length) = some 3 := by decide +kernel
abbrev b_Re_wordOf : ByteArray := prog_8_method_12_code
def y_Re_wordOf : MethodName := ⟨"FixpointEngine$Reader", "wordOf", "(LFixpointEngine$Kind;II)J"⟩
theorem pl_Re_wordOf : (parseMethodDescriptor y_Re_wordOf.desc).map (fun z => z.parameters.length) = some 3 := by decide +kernel
abbrev b_Re_accept : ByteArray := prog_8_method_13_code
def y_Re_accept : MethodName := ⟨"FixpointEngine$Reader", "accept", "(LFixpointEngine$Kind;)Z"⟩
theorem pl_Re_accept : (parseMethodDescriptor y_Re_accept.desc).map (fun z => z.parameters.length) = some 1 := by decide +kernel
abbrev b_Re_expect : ByteArray := prog_8_method_14_code
def y_Re_expect : MethodName := ⟨"FixpointEngine$Reader", "expect", "(LFixpointEngine$Kind;)V"⟩
theorem pl_Re_expect : (parseMethodDescriptor y_Re_expect.desc).map (fun z => z.parameters.length) = some 1 := by decide +kernel
abbrev b_Re_name : ByteArray := prog_8_method_15_code
def y_Re_name : MethodName := ⟨"FixpointEngine$Reader", "name", "()J"⟩
theorem pl_Re_name : (parseMethodDescriptor y_Re_name.desc).map (fun z => z.parameters.length) = some 0 := by decide +kernel
abbrev b_Re_read : ByteArray := prog_8_method_16_code
def y_Re_read : MethodName := ⟨"FixpointEngine$Reader", "read", "()LFixpointEngine$Query;"⟩
theorem pl_Re_read : (parseMethodDescriptor y_Re_read.desc).map (fun z => z.parameters.length) = some 0 := by decide +kernel
abbrev b_Re_head : ByteArray := prog_8_method_17_code
def y_Re_head : MethodName := ⟨"FixpointEngine$Reader", "head", "()LFixpointEngine$Part;"⟩
theorem pl_Re_head : (parseMethodDescriptor y_Re_head.desc).map (fun z => z.parameters.length) = some 0 := by decide +kernel
abbrev b_Re_nameInto : ByteArray := prog_8_method_18_code
def y_Re_nameInto : MethodName := ⟨"FixpointEngine$Reader", "nameInto", "(LFixpointEngine$Part;I)V"⟩
theorem pl_Re_nameInto : (parseMethodDescriptor y_Re_nameInto.desc).map (fun z => z.parameters.length) = some 2 := by decide +kernel
abbrev b_Re_joins : ByteArray := prog_8_method_19_code
def y_Re_joins : MethodName := ⟨"FixpointEngine$Reader", "joins", "(LFixpointEngine$Part;)Z"⟩
theorem pl_Re_joins : (parseMethodDescriptor y_Re_joins.desc).map (fun z => z.parameters.length) = some 1 := by decide +kernel
abbrev b_Re_tail : ByteArray := prog_8_method_20_code
def y_Re_tail : MethodName := ⟨"FixpointEngine$Reader", "tail", "(LFixpointEngine$Part;)V"⟩
theorem pl_Re_tail : (parseMethodDescriptor y_Re_tail.desc).map (fun z => z.parameters.length) = some 1 := by decide +kernel
abbrev b_Re_order : ByteArray := prog_8_method_21_code
def y_Re_order : MethodName := ⟨"FixpointEngine$Reader", "order", "()V"⟩
theorem pl_Re_order : (parseMethodDescriptor y_Re_order.desc).map (fun z => z.parameters.length) = some 0 := by decide +kernel
abbrev b_Re_selection : ByteArray := prog_8_method_22_code
def y_Re_selection : MethodName := ⟨"FixpointEngine$Reader", "selection", "(I)LFixpointEngine$Selection;"⟩
theorem pl_Re_selection : (parseMethodDescriptor y_Re_selection.desc).map (fun z => z.parameters.length) = some 1 := by decide +kernel
abbrev b_Re_item : ByteArray := prog_8_method_23_code
def y_Re_item : MethodName := ⟨"FixpointEngine$Reader", "item", "()V"⟩
theorem pl_Re_item : (parseMethodDescriptor y_Re_item.desc).map (fun z => z.parameters.length) = some 0 := by decide +kernel
abbrev b_Re_source : ByteArray := prog_8_method_24_code
def y_Re_source : MethodName := ⟨"FixpointEngine$Reader", "source", "(I)LFixpointEngine$Source;"⟩
theorem pl_Re_source : (parseMethodDescriptor y_Re_source.desc).map (fun z => z.parameters.length) = some 1 := by decide +kernel
abbrev b_Re_condition : ByteArray := prog_8_method_25_code
def y_Re_condition : MethodName := ⟨"FixpointEngine$Reader", "condition", "()LFixpointEngine$Condition;"⟩
theorem pl_Re_condition : (parseMethodDescriptor y_Re_condition.desc).map (fun z => z.parameters.length) = some 0 := by decide +kernel
abbrev b_Re_comparison : ByteArray := prog_8_method_26_code
def y_Re_comparison : MethodName := ⟨"FixpointEngine$Reader", "comparison", "(LFixpointEngine$Condition;)V"⟩
theorem pl_Re_comparison : (parseMethodDescriptor y_Re_comparison.desc).map (fun z => z.parameters.length) = some 1 := by decide +kernel
abbrev b_Re_expression : ByteArray := prog_8_method_27_code
def y_Re_expression : MethodName := ⟨"FixpointEngine$Reader", "expression", "()LFixpointEngine$Term;"⟩
theorem pl_Re_expression : (parseMethodDescriptor y_Re_expression.desc).map (fun z => z.parameters.length) = some 0 := by decide +kernel
abbrev b_Re_operand : ByteArray := prog_8_method_28_code
def y_Re_operand : MethodName := ⟨"FixpointEngine$Reader", "operand", "(Z)LFixpointEngine$Term;"⟩
theorem pl_Re_operand : (parseMethodDescriptor y_Re_operand.desc).map (fun z => z.parameters.length) = some 1 := by decide +kernel
abbrev b_Rl_init : ByteArray := prog_9_method_1_code
def y_Rl_init : MethodName := ⟨"FixpointEngine$Relation", "<init>", "(II)V"⟩
theorem pl_Rl_init : (parseMethodDescriptor y_Rl_init.desc).map (fun z => z.parameters.length) = some 2 := by decide +kernel
abbrev b_Rl_empty : ByteArray := prog_9_method_2_code
def y_Rl_empty : MethodName := ⟨"FixpointEngine$Relation", "empty", "()V"⟩
theorem pl_Rl_empty : (parseMethodDescriptor y_Rl_empty.desc).map (fun z => z.parameters.length) = some 0 := by decide +kernel
abbrev b_Rl_beginRound : ByteArray := prog_9_method_3_code
def y_Rl_beginRound : MethodName := ⟨"FixpointEngine$Relation", "beginRound", "()V"⟩
theorem pl_Rl_beginRound : (parseMethodDescriptor y_Rl_beginRound.desc).map (fun z => z.parameters.length) = some 0 := by decide +kernel
abbrev b_Rl_grow : ByteArray := prog_9_method_4_code
def y_Rl_grow : MethodName := ⟨"FixpointEngine$Relation", "grow", "(II)V"⟩
theorem pl_Rl_grow : (parseMethodDescriptor y_Rl_grow.desc).map (fun z => z.parameters.length) = some 2 := by decide +kernel
abbrev b_Rl_hasEqual : ByteArray := prog_9_method_5_code
def y_Rl_hasEqual : MethodName := ⟨"FixpointEngine$Relation", "hasEqual", "(LFixpointEngine$Part;)Z"⟩
theorem pl_Rl_hasEqual : (parseMethodDescriptor y_Rl_hasEqual.desc).map (fun z => z.parameters.length) = some 1 := by decide +kernel
abbrev b_Rl_isSame : ByteArray := prog_9_method_6_code
def y_Rl_isSame : MethodName := ⟨"FixpointEngine$Relation", "isSame", "(LFixpointEngine$Part;I)Z"⟩
theorem pl_Rl_isSame : (parseMethodDescriptor y_Rl_isSame.desc).map (fun z => z.parameters.length) = some 2 := by decide +kernel
abbrev b_Rl_compareTrails : ByteArray := prog_9_method_7_code
def y_Rl_compareTrails : MethodName := ⟨"FixpointEngine$Relation", "compareTrails", "(LFixpointEngine$Part;II)I"⟩
theorem pl_Rl_compareTrails : (parseMethodDescriptor y_Rl_compareTrails.desc).map (fun z => z.parameters.length) = some 3 := by decide +kernel
abbrev b_Rl_compareCells : ByteArray := prog_9_method_8_code
def y_Rl_compareCells : MethodName := ⟨"FixpointEngine$Relation", "compareCells", "(JJ)I"⟩
theorem pl_Rl_compareCells : (parseMethodDescriptor y_Rl_compareCells.desc).map (fun z => z.parameters.length) = some 2 := by decide +kernel
abbrev b_Ru_init : ByteArray := prog_10_method_1_code
def y_Ru_init : MethodName := ⟨"FixpointEngine$Runner", "<init>", "()V"⟩
theorem pl_Ru_init : (parseMethodDescriptor y_Ru_init.desc).map (fun z => z.parameters.length) = some 0 := by decide +kernel
abbrev b_Ru_begin : ByteArray := prog_10_method_2_code
def y_Ru_begin : MethodName := ⟨"FixpointEngine$Runner", "begin", "(LFixpointEngine$Query;[LFixpointEngine$Relation;II)V"⟩
theorem pl_Ru_begin : (parseMethodDescriptor y_Ru_begin.desc).map (fun z => z.parameters.length) = some 4 := by decide +kernel
abbrev b_Ru_component : ByteArray := prog_10_method_3_code
def y_Ru_component : MethodName := ⟨"FixpointEngine$Runner", "component", "(I)V"⟩
theorem pl_Ru_component : (parseMethodDescriptor y_Ru_component.desc).map (fun z => z.parameters.length) = some 1 := by decide +kernel
abbrev b_Ru_beginRound : ByteArray := prog_10_method_4_code
def y_Ru_beginRound : MethodName := ⟨"FixpointEngine$Runner", "beginRound", "(I)Z"⟩
theorem pl_Ru_beginRound : (parseMethodDescriptor y_Ru_beginRound.desc).map (fun z => z.parameters.length) = some 1 := by decide +kernel
abbrev b_Ru_work : ByteArray := prog_10_method_5_code
def y_Ru_work : MethodName := ⟨"FixpointEngine$Runner", "work", "(LFixpointEngine$Selection;I)V"⟩
theorem pl_Ru_work : (parseMethodDescriptor y_Ru_work.desc).map (fun z => z.parameters.length) = some 2 := by decide +kernel
abbrev b_Ru_bind : ByteArray := prog_10_method_6_code
def y_Ru_bind : MethodName := ⟨"FixpointEngine$Runner", "bind", "(LFixpointEngine$Source;)V"⟩
theorem pl_Ru_bind : (parseMethodDescriptor y_Ru_bind.desc).map (fun z => z.parameters.length) = some 1 := by decide +kernel
abbrev b_Ru_combine : ByteArray := prog_10_method_7_code
def y_Ru_combine : MethodName := ⟨"FixpointEngine$Runner", "combine", "(I)V"⟩
theorem pl_Ru_combine : (parseMethodDescriptor y_Ru_combine.desc).map (fun z => z.parameters.length) = some 1 := by decide +kernel
abbrev b_Ru_holds : ByteArray := prog_10_method_8_code
def y_Ru_holds : MethodName := ⟨"FixpointEngine$Runner", "holds", "(LFixpointEngine$Condition;)Z"⟩
theorem pl_Ru_holds : (parseMethodDescriptor y_Ru_holds.desc).map (fun z => z.parameters.length) = some 1 := by decide +kernel
abbrev b_Ru_exists : ByteArray := prog_10_method_9_code
def y_Ru_exists : MethodName := ⟨"FixpointEngine$Runner", "exists", "(LFixpointEngine$Condition;)Z"⟩
theorem pl_Ru_exists : (parseMethodDescriptor y_Ru_exists.desc).map (fun z => z.parameters.length) = some 1 := by decide +kernel
abbrev b_Ru_compares : ByteArray := prog_10_method_10_code
def y_Ru_compares : MethodName := ⟨"FixpointEngine$Runner", "compares", "(LFixpointEngine$Condition;)Z"⟩
theorem pl_Ru_compares : (parseMethodDescriptor y_Ru_compares.desc).map (fun z => z.parameters.length) = some 1 := by decide +kernel
abbrev b_Ru_isOutOfRange : ByteArray := prog_10_method_11_code
def y_Ru_isOutOfRange : MethodName := ⟨"FixpointEngine$Runner", "isOutOfRange", "(J)Z"⟩
theorem pl_Ru_isOutOfRange : (parseMethodDescriptor y_Ru_isOutOfRange.desc).map (fun z => z.parameters.length) = some 1 := by decide +kernel
abbrev b_Ru_takeCombination : ByteArray := prog_10_method_12_code
def y_Ru_takeCombination : MethodName := ⟨"FixpointEngine$Runner", "takeCombination", "()V"⟩
theorem pl_Ru_takeCombination : (parseMethodDescriptor y_Ru_takeCombination.desc).map (fun z => z.parameters.length) = some 0 := by decide +kernel
abbrev b_Ru_gather : ByteArray := prog_10_method_13_code
def y_Ru_gather : MethodName := ⟨"FixpointEngine$Runner", "gather", "()V"⟩
theorem pl_Ru_gather : (parseMethodDescriptor y_Ru_gather.desc).map (fun z => z.parameters.length) = some 0 := by decide +kernel
abbrev b_Ru_addTo : ByteArray := prog_10_method_14_code
def y_Ru_addTo : MethodName := ⟨"FixpointEngine$Runner", "addTo", "(ILFixpointEngine$Kind;J)V"⟩
theorem pl_Ru_addTo : (parseMethodDescriptor y_Ru_addTo.desc).map (fun z => z.parameters.length) = some 3 := by decide +kernel
abbrev b_Ru_findGroup : ByteArray := prog_10_method_15_code
def y_Ru_findGroup : MethodName := ⟨"FixpointEngine$Runner", "findGroup", "()I"⟩
theorem pl_Ru_findGroup : (parseMethodDescriptor y_Ru_findGroup.desc).map (fun z => z.parameters.length) = some 0 := by decide +kernel
abbrev b_Ru_addGroup : ByteArray := prog_10_method_16_code
def y_Ru_addGroup : MethodName := ⟨"FixpointEngine$Runner", "addGroup", "()V"⟩
theorem pl_Ru_addGroup : (parseMethodDescriptor y_Ru_addGroup.desc).map (fun z => z.parameters.length) = some 0 := by decide +kernel
abbrev b_Ru_giveGroups : ByteArray := prog_10_method_17_code
def y_Ru_giveGroups : MethodName := ⟨"FixpointEngine$Runner", "giveGroups", "()V"⟩
theorem pl_Ru_giveGroups : (parseMethodDescriptor y_Ru_giveGroups.desc).map (fun z => z.parameters.length) = some 0 := by decide +kernel
abbrev b_Ru_come : ByteArray := prog_10_method_18_code
def y_Ru_come : MethodName := ⟨"FixpointEngine$Runner", "come", "()V"⟩
theorem pl_Ru_come : (parseMethodDescriptor y_Ru_come.desc).map (fun z => z.parameters.length) = some 0 := by decide +kernel
abbrev b_Ru_parentRow : ByteArray := prog_10_method_19_code
def y_Ru_parentRow : MethodName := ⟨"FixpointEngine$Runner", "parentRow", "()I"⟩
theorem pl_Ru_parentRow : (parseMethodDescriptor y_Ru_parentRow.desc).map (fun z => z.parameters.length) = some 0 := by decide +kernel
abbrev b_Ru_keepKeys : ByteArray := prog_10_method_20_code
def y_Ru_keepKeys : MethodName := ⟨"FixpointEngine$Runner", "keepKeys", "()V"⟩
theorem pl_Ru_keepKeys : (parseMethodDescriptor y_Ru_keepKeys.desc).map (fun z => z.parameters.length) = some 0 := by decide +kernel
abbrev b_Ru_sort : ByteArray := prog_10_method_21_code
def y_Ru_sort : MethodName := ⟨"FixpointEngine$Runner", "sort", "()V"⟩
theorem pl_Ru_sort : (parseMethodDescriptor y_Ru_sort.desc).map (fun z => z.parameters.length) = some 0 := by decide +kernel
abbrev b_Ru_compareRows : ByteArray := prog_10_method_22_code
def y_Ru_compareRows : MethodName := ⟨"FixpointEngine$Runner", "compareRows", "(II)I"⟩
theorem pl_Ru_compareRows : (parseMethodDescriptor y_Ru_compareRows.desc).map (fun z => z.parameters.length) = some 2 := by decide +kernel
abbrev b_Ru_compareKeys : ByteArray := prog_10_method_23_code
def y_Ru_compareKeys : MethodName := ⟨"FixpointEngine$Runner", "compareKeys", "(LFixpointEngine$Term;JJ)I"⟩
theorem pl_Ru_compareKeys : (parseMethodDescriptor y_Ru_compareKeys.desc).map (fun z => z.parameters.length) = some 3 := by decide +kernel
abbrev b_Se_init : ByteArray := prog_11_method_1_code
def y_Se_init : MethodName := ⟨"FixpointEngine$Selection", "<init>", "(II)V"⟩
theorem pl_Se_init : (parseMethodDescriptor y_Se_init.desc).map (fun z => z.parameters.length) = some 2 := by decide +kernel
abbrev b_So_init : ByteArray := prog_12_method_1_code
def y_So_init : MethodName := ⟨"FixpointEngine$Source", "<init>", "(LFixpointEngine$Selection;II)V"⟩
theorem pl_So_init : (parseMethodDescriptor y_So_init.desc).map (fun z => z.parameters.length) = some 3 := by decide +kernel
abbrev b_So_isInner : ByteArray := prog_12_method_2_code
def y_So_isInner : MethodName := ⟨"FixpointEngine$Source", "isInner", "()Z"⟩
theorem pl_So_isInner : (parseMethodDescriptor y_So_isInner.desc).map (fun z => z.parameters.length) = some 0 := by decide +kernel
abbrev b_So_passesOver : ByteArray := prog_12_method_3_code
def y_So_passesOver : MethodName := ⟨"FixpointEngine$Source", "passesOver", "(I)Z"⟩
theorem pl_So_passesOver : (parseMethodDescriptor y_So_passesOver.desc).map (fun z => z.parameters.length) = some 1 := by decide +kernel
abbrev b_Te_init : ByteArray := prog_13_method_1_code
def y_Te_init : MethodName := ⟨"FixpointEngine$Term", "<init>", "(ZILFixpointEngine$Selection;LFixpointEngine$Condition;)V"⟩
theorem pl_Te_init : (parseMethodDescriptor y_Te_init.desc).map (fun z => z.parameters.length) = some 4 := by decide +kernel
abbrev b_Te_value : ByteArray := prog_13_method_2_code
def y_Te_value : MethodName := ⟨"FixpointEngine$Term", "value", "()J"⟩
theorem pl_Te_value : (parseMethodDescriptor y_Te_value.desc).map (fun z => z.parameters.length) = some 0 := by decide +kernel
abbrev b_Lw_table : ByteArray := method_3_code
def y_Lw_table : MethodName := ⟨"FixpointEngineLaw", "table", "(LFixpointEngine;I[J)I"⟩
theorem pl_Lw_table : (parseMethodDescriptor y_Lw_table.desc).map (fun z => z.parameters.length) = some 3 := by decide +kernel
abbrev b_Lw_row : ByteArray := method_4_code
def y_Lw_row : MethodName := ⟨"FixpointEngineLaw", "row", "(LFixpointEngine;IIIII[J)I"⟩
theorem pl_Lw_row : (parseMethodDescriptor y_Lw_row.desc).map (fun z => z.parameters.length) = some 7 := by decide +kernel
abbrev b_Lw_clear : ByteArray := method_5_code
def y_Lw_clear : MethodName := ⟨"FixpointEngineLaw", "clear", "(LFixpointEngine;I[J)I"⟩
theorem pl_Lw_clear : (parseMethodDescriptor y_Lw_clear.desc).map (fun z => z.parameters.length) = some 3 := by decide +kernel
abbrev b_Lw_prepare : ByteArray := method_6_code
def y_Lw_prepare : MethodName := ⟨"FixpointEngineLaw", "prepare", "(LFixpointEngine;[J)I"⟩
theorem pl_Lw_prepare : (parseMethodDescriptor y_Lw_prepare.desc).map (fun z => z.parameters.length) = some 2 := by decide +kernel
abbrev b_Lw_part : ByteArray := method_7_code
def y_Lw_part : MethodName := ⟨"FixpointEngineLaw", "part", "(LFixpointEngine;II[J)I"⟩
theorem pl_Lw_part : (parseMethodDescriptor y_Lw_part.desc).map (fun z => z.parameters.length) = some 4 := by decide +kernel
abbrev b_Lw_run : ByteArray := method_8_code
def y_Lw_run : MethodName := ⟨"FixpointEngineLaw", "run", "(LFixpointEngine;II[J)I"⟩
theorem pl_Lw_run : (parseMethodDescriptor y_Lw_run.desc).map (fun z => z.parameters.length) = some 4 := by decide +kernel
abbrev b_Lw_cell2 : ByteArray := method_9_code
def y_Lw_cell2 : MethodName := ⟨"FixpointEngineLaw", "cell", "(LFixpointEngine;II[J)I"⟩
theorem pl_Lw_cell2 : (parseMethodDescriptor y_Lw_cell2.desc).map (fun z => z.parameters.length) = some 4 := by decide +kernel
abbrev b_Lw_size : ByteArray := method_10_code
def y_Lw_size : MethodName := ⟨"FixpointEngineLaw", "size", "(LFixpointEngine;I[J)I"⟩
theorem pl_Lw_size : (parseMethodDescriptor y_Lw_size.desc).map (fun z => z.parameters.length) = some 3 := by decide +kernel
abbrev b_Lw_rounds : ByteArray := method_11_code
def y_Lw_rounds : MethodName := ⟨"FixpointEngineLaw", "rounds", "(LFixpointEngine;II[J)I"⟩
theorem pl_Lw_rounds : (parseMethodDescriptor y_Lw_rounds.desc).map (fun z => z.parameters.length) = some 4 := by decide +kernel
abbrev b_Lw_law : ByteArray := code
def y_Lw_law : MethodName := ⟨"FixpointEngineLaw", "law", "([I)Z"⟩
theorem pl_Lw_law : (parseMethodDescriptor y_Lw_law.desc).map (fun z => z.parameters.length) = some 1 := by decide +kernel
abbrev b_Str_length : ByteArray := prog_29_method_54_code
def y_Str_length : MethodName := ⟨"java/lang/String", "length", "()I"⟩
theorem pl_Str_length : (parseMethodDescriptor y_Str_length.desc).map (fun z => z.parameters.length) = some 0 := by decide +kernel
abbrev b_Str_coder : ByteArray := prog_29_method_152_code
def y_Str_coder : MethodName := ⟨"java/lang/String", "coder", "()B"⟩
theorem pl_Str_coder : (parseMethodDescriptor y_Str_coder.desc).map (fun z => z.parameters.length) = some 0 := by decide +kernel
abbrev b_Str_charAt : ByteArray := prog_29_method_56_code
def y_Str_charAt : MethodName := ⟨"java/lang/String", "charAt", "(I)C"⟩
theorem pl_Str_charAt : (parseMethodDescriptor y_Str_charAt.desc).map (fun z => z.parameters.length) = some 1 := by decide +kernel
abbrev b_Str_isLatin1 : ByteArray := prog_29_method_154_code
def y_Str_isLatin1 : MethodName := ⟨"java/lang/String", "isLatin1", "()Z"⟩
theorem pl_Str_isLatin1 : (parseMethodDescriptor y_Str_isLatin1.desc).map (fun z => z.parameters.length) = some 0 := by decide +kernel
abbrev b_Sl_charAt : ByteArray := prog_30_method_2_code
def y_Sl_charAt : MethodName := ⟨"java/lang/StringLatin1", "charAt", "([BI)C"⟩
theorem pl_Sl_charAt : (parseMethodDescriptor y_Sl_charAt.desc).map (fun z => z.parameters.length) = some 2 := by decide +kernel
abbrev b_Str_checkIndex : ByteArray := prog_29_method_155_code
def y_Str_checkIndex : MethodName := ⟨"java/lang/String", "checkIndex", "(II)V"⟩
theorem pl_Str_checkIndex : (parseMethodDescriptor y_Str_checkIndex.desc).map (fun z => z.parameters.length) = some 2 := by decide +kernel
abbrev b_Pre_checkIndex : ByteArray := prog_46_method_11_code
def y_Pre_checkIndex : MethodName := ⟨"jdk/internal/util/Preconditions", "checkIndex", "(IILjava/util/function/BiFunction;)I"⟩
theorem pl_Pre_checkIndex : (parseMethodDescriptor y_Pre_checkIndex.desc).map (fun z => z.parameters.length) = some 3 := by decide +kernel
abbrev b_Al_init : ByteArray := prog_37_method_2_code
def y_Al_init : MethodName := ⟨"java/util/ArrayList", "<init>", "()V"⟩
theorem pl_Al_init : (parseMethodDescriptor y_Al_init.desc).map (fun z => z.parameters.length) = some 0 := by decide +kernel
abbrev b_Abl_init : ByteArray := prog_36_method_1_code
def y_Abl_init : MethodName := ⟨"java/util/AbstractList", "<init>", "()V"⟩
theorem pl_Abl_init : (parseMethodDescriptor y_Abl_init.desc).map (fun z => z.parameters.length) = some 0 := by decide +kernel
abbrev b_Abc_init : ByteArray := prog_35_method_1_code
def y_Abc_init : MethodName := ⟨"java/util/AbstractCollection", "<init>", "()V"⟩
theorem pl_Abc_init : (parseMethodDescriptor y_Abc_init.desc).map (fun z => z.parameters.length) = some 0 := by decide +kernel
abbrev b_Al_add : ByteArray := prog_37_method_25_code
def y_Al_add : MethodName := ⟨"java/util/ArrayList", "add", "(Ljava/lang/Object;)Z"⟩
theorem pl_Al_add : (parseMethodDescriptor y_Al_add.desc).map (fun z => z.parameters.length) = some 1 := by decide +kernel
abbrev b_Al_add2 : ByteArray := prog_37_method_24_code
def y_Al_add2 : MethodName := ⟨"java/util/ArrayList", "add", "(Ljava/lang/Object;[Ljava/lang/Object;I)V"⟩
theorem pl_Al_add2 : (parseMethodDescriptor y_Al_add2.desc).map (fun z => z.parameters.length) = some 3 := by decide +kernel
abbrev b_Al_grow : ByteArray := prog_37_method_7_code
def y_Al_grow : MethodName := ⟨"java/util/ArrayList", "grow", "()[Ljava/lang/Object;"⟩
theorem pl_Al_grow : (parseMethodDescriptor y_Al_grow.desc).map (fun z => z.parameters.length) = some 0 := by decide +kernel
abbrev b_Al_grow2 : ByteArray := prog_37_method_6_code
def y_Al_grow2 : MethodName := ⟨"java/util/ArrayList", "grow", "(I)[Ljava/lang/Object;"⟩
theorem pl_Al_grow2 : (parseMethodDescriptor y_Al_grow2.desc).map (fun z => z.parameters.length) = some 1 := by decide +kernel
abbrev b_As_newLength : ByteArray := prog_45_method_27_code
def y_As_newLength : MethodName := ⟨"jdk/internal/util/ArraysSupport", "newLength", "(III)I"⟩
theorem pl_As_newLength : (parseMethodDescriptor y_As_newLength.desc).map (fun z => z.parameters.length) = some 3 := by decide +kernel
abbrev b_As_hugeLength : ByteArray := prog_45_method_28_code
def y_As_hugeLength : MethodName := ⟨"jdk/internal/util/ArraysSupport", "hugeLength", "(II)I"⟩
theorem pl_As_hugeLength : (parseMethodDescriptor y_As_hugeLength.desc).map (fun z => z.parameters.length) = some 2 := by decide +kernel
abbrev b_Ars_copyOf : ByteArray := prog_38_method_119_code
def y_Ars_copyOf : MethodName := ⟨"java/util/Arrays", "copyOf", "([Ljava/lang/Object;I)[Ljava/lang/Object;"⟩
theorem pl_Ars_copyOf : (parseMethodDescriptor y_Ars_copyOf.desc).map (fun z => z.parameters.length) = some 2 := by decide +kernel
abbrev b_Ars_copyOf2 : ByteArray := prog_38_method_120_code
def y_Ars_copyOf2 : MethodName := ⟨"java/util/Arrays", "copyOf", "([Ljava/lang/Object;ILjava/lang/Class;)[Ljava/lang/Object;"⟩
theorem pl_Ars_copyOf2 : (parseMethodDescriptor y_Ars_copyOf2.desc).map (fun z => z.parameters.length) = some 3 := by decide +kernel
abbrev b_Al_size : ByteArray := prog_37_method_8_code
def y_Al_size : MethodName := ⟨"java/util/ArrayList", "size", "()I"⟩
theorem pl_Al_size : (parseMethodDescriptor y_Al_size.desc).map (fun z => z.parameters.length) = some 0 := by decide +kernel
abbrev b_Al_get : ByteArray := prog_37_method_20_code
def y_Al_get : MethodName := ⟨"java/util/ArrayList", "get", "(I)Ljava/lang/Object;"⟩
theorem pl_Al_get : (parseMethodDescriptor y_Al_get.desc).map (fun z => z.parameters.length) = some 1 := by decide +kernel
abbrev b_Ob_checkIndex : ByteArray := prog_42_method_17_code
def y_Ob_checkIndex : MethodName := ⟨"java/util/Objects", "checkIndex", "(II)I"⟩
theorem pl_Ob_checkIndex : (parseMethodDescriptor y_Ob_checkIndex.desc).map (fun z => z.parameters.length) = some 2 := by decide +kernel
abbrev b_Al_elementData : ByteArray := prog_37_method_18_code
def y_Al_elementData : MethodName := ⟨"java/util/ArrayList", "elementData", "(I)Ljava/lang/Object;"⟩
theorem pl_Al_elementData : (parseMethodDescriptor y_Al_elementData.desc).map (fun z => z.parameters.length) = some 1 := by decide +kernel
abbrev b_In_bitCount : ByteArray := prog_24_method_49_code
def y_In_bitCount : MethodName := ⟨"java/lang/Integer", "bitCount", "(I)I"⟩
theorem pl_In_bitCount : (parseMethodDescriptor y_In_bitCount.desc).map (fun z => z.parameters.length) = some 1 := by decide +kernel
abbrev b_En_ordinal : ByteArray := prog_19_method_2_code
def y_En_ordinal : MethodName := ⟨"java/lang/Enum", "ordinal", "()I"⟩
theorem pl_En_ordinal : (parseMethodDescriptor y_En_ordinal.desc).map (fun z => z.parameters.length) = some 0 := by decide +kernel
abbrev b_Lo_compare : ByteArray := prog_26_method_42_code
def y_Lo_compare : MethodName := ⟨"java/lang/Long", "compare", "(JJ)I"⟩
theorem pl_Lo_compare : (parseMethodDescriptor y_Lo_compare.desc).map (fun z => z.parameters.length) = some 2 := by decide +kernel
abbrev b_In_compare : ByteArray := prog_24_method_40_code
def y_In_compare : MethodName := ⟨"java/lang/Integer", "compare", "(II)I"⟩
theorem pl_In_compare : (parseMethodDescriptor y_In_compare.desc).map (fun z => z.parameters.length) = some 2 := by decide +kernel
