/-! WHAT THE TABLES SAY, as the pure machine needs it (written by program) -/
abbrev qG : Type := Nat × va_G × (ClassId × ClassId × ClassId) × (Nat × Nat × (Nat → Int32)) × Nat
abbrev qT (g : qG) : List (ClassId × FieldType) := [(g.2.2.1.1, .int), (g.2.2.1.2.1, .boolean), (g.2.2.1.2.2, .long)]
abbrev qA (g : qG) : Nat → Prop := fun q => g.1 ≤ q
abbrev qY : Type := MethodName × ByteArray × Nat × Option FieldType
def qU0 : u_T := fun k => match k with
  | 0 => ("FlushProofsModel", "thrown", "I", false)
  | 1 => ("FlushProofsModel", "nodes", "I", false)
  | 2 => ("FlushProofsModel", "all", "I", false)
  | 3 => ("FlushProofsModel", "kind", "[I", true)
  | 4 => ("FlushProofsModel", "one", "[I", true)
  | 5 => ("FlushProofsModel", "two", "[I", true)
  | 6 => ("FlushProofsModel", "three", "[I", true)
  | 7 => ("FlushProofsModel", "chain", "[I", true)
  | 8 => ("FlushProofsModel", "behind", "[I", true)
  | 9 => ("FlushProofsModel", "elements", "I", false)
  | 10 => ("FlushProofsModel", "invariants", "I", false)
  | 11 => ("FlushProofsModel", "element", "[I", true)
  | 12 => ("FlushProofsModel", "next", "[I", true)
  | 13 => ("FlushProofsModel", "hasNext", "[Z", true)
  | 14 => ("FlushProofsModel", "plain", "[I", true)
  | 15 => ("FlushProofsModel", "seen", "[Z", true)
  | 16 => ("FlushProofsModel", "invariant", "[I", true)
  | 17 => ("FlushProofsModel", "made", "[I", true)
  | 18 => ("FlushProofsModel", "state", "[I", true)
  | 19 => ("FlushProofsModel", "oneWay", "[I", true)
  | 20 => ("FlushProofsModel", "otherWay", "[I", true)
  | 21 => ("FlushProofsModel", "deep", "[Z", true)
  | 22 => ("FlushProofsModel", "value", "[I", true)
  | 23 => ("FlushProofsModel", "words", "I", false)
  | 24 => ("FlushProofsModel", "applications", "I", false)
  | 25 => ("FlushProofsModel", "truths", "I", false)
  | 26 => ("FlushProofsModel", "wordNode", "[I", true)
  | 27 => ("FlushProofsModel", "fall", "[I", true)
  | 28 => ("FlushProofsModel", "truthNode", "[I", true)
  | 29 => ("FlushProofsModel", "deepWords", "I", false)
  | 30 => ("FlushProofsModel", "deepTruths", "I", false)
  | 31 => ("FlushProofsModel", "isAnswered", "Z", false)
  | 32 => ("FlushProofsModel", "witness", "[I", true)
  | 33 => ("FlushProofsModel", "fetchThere", "I", false)
  | 34 => ("FlushProofsModel", "differs", "I", false)
  | _ => ("FlushProofsModel", "answeredElements", "I", false)
def qV0 : Nat → FieldType := fun k => match k with
  | 0 => .int
  | 1 => .int
  | 2 => .int
  | 3 => .array .int
  | 4 => .array .int
  | 5 => .array .int
  | 6 => .array .int
  | 7 => .array .int
  | 8 => .array .int
  | 9 => .int
  | 10 => .int
  | 11 => .array .int
  | 12 => .array .int
  | 13 => .array .boolean
  | 14 => .array .int
  | 15 => .array .boolean
  | 16 => .array .int
  | 17 => .array .int
  | 18 => .array .int
  | 19 => .array .int
  | 20 => .array .int
  | 21 => .array .boolean
  | 22 => .array .int
  | 23 => .int
  | 24 => .int
  | 25 => .int
  | 26 => .array .int
  | 27 => .array .int
  | 28 => .array .int
  | 29 => .int
  | 30 => .int
  | 31 => .boolean
  | 32 => .array .int
  | 33 => .int
  | 34 => .int
  | _ => .int
def qU1 : u_T := fun k => match k with
  | 0 => ("FlushProofs", "core", "LFlushProofs$Core;", true)
  | 1 => ("FlushProofs", "outcome", "LFlushProofs$Outcome;", true)
  | _ => ("FlushProofs", "prover", "LFlushProofs$Prover;", true)
def qV1 : Nat → FieldType := fun k => match k with
  | 0 => .object "FlushProofs$Core"
  | 1 => .object "FlushProofs$Outcome"
  | _ => .object "FlushProofs$Prover"
def qU2 : u_T := fun k => match k with
  | 0 => ("FlushProofs$Core", "nodes", "LFlushProofs$Nodes;", true)
  | 1 => ("FlushProofs$Core", "elementNodes", "[I", true)
  | 2 => ("FlushProofs$Core", "nextNodes", "[I", true)
  | 3 => ("FlushProofs$Core", "plainNodes", "[I", true)
  | 4 => ("FlushProofs$Core", "invariants", "[I", true)
  | 5 => ("FlushProofs$Core", "marks", "[Z", true)
  | 6 => ("FlushProofs$Core", "elementCount", "I", false)
  | 7 => ("FlushProofs$Core", "seenCount", "I", false)
  | _ => ("FlushProofs$Core", "invariantCount", "I", false)
def qV2 : Nat → FieldType := fun k => match k with
  | 0 => .object "FlushProofs$Nodes"
  | 1 => .array .int
  | 2 => .array .int
  | 3 => .array .int
  | 4 => .array .int
  | 5 => .array .boolean
  | 6 => .int
  | 7 => .int
  | _ => .int
def qU3 : u_T := fun k => match k with
  | 0 => ("FlushProofs$Nodes", "kinds", "[I", true)
  | 1 => ("FlushProofs$Nodes", "firsts", "[I", true)
  | 2 => ("FlushProofs$Nodes", "seconds", "[I", true)
  | 3 => ("FlushProofs$Nodes", "thirds", "[I", true)
  | 4 => ("FlushProofs$Nodes", "words", "[Z", true)
  | 5 => ("FlushProofs$Nodes", "heads", "[I", true)
  | 6 => ("FlushProofs$Nodes", "links", "[I", true)
  | _ => ("FlushProofs$Nodes", "used", "I", false)
def qV3 : Nat → FieldType := fun k => match k with
  | 0 => .array .int
  | 1 => .array .int
  | 2 => .array .int
  | 3 => .array .int
  | 4 => .array .boolean
  | 5 => .array .int
  | 6 => .array .int
  | _ => .int
def qU4 : u_T := fun k => match k with
  | 0 => ("FlushProofs$Outcome", "values", "[I", true)
  | 1 => ("FlushProofs$Outcome", "answer", "I", false)
  | 2 => ("FlushProofs$Outcome", "elementCount", "I", false)
  | 3 => ("FlushProofs$Outcome", "fetch", "I", false)
  | 4 => ("FlushProofs$Outcome", "differing", "I", false)
  | 5 => ("FlushProofs$Outcome", "deepWords", "I", false)
  | _ => ("FlushProofs$Outcome", "deepTruths", "I", false)
def qV4 : Nat → FieldType := fun k => match k with
  | 0 => .array .int
  | 1 => .int
  | 2 => .int
  | 3 => .int
  | 4 => .int
  | 5 => .int
  | _ => .int
def qU5 : u_T := fun k => match k with
  | 0 => ("FlushProofs$Planes", "work", "LFlushProofs$Nodes;", true)
  | 1 => ("FlushProofs$Planes", "lows", "[J", true)
  | 2 => ("FlushProofs$Planes", "mids", "[J", true)
  | _ => ("FlushProofs$Planes", "highs", "[J", true)
def qV5 : Nat → FieldType := fun k => match k with
  | 0 => .object "FlushProofs$Nodes"
  | 1 => .array .long
  | 2 => .array .long
  | _ => .array .long
def qU6 : u_T := fun k => match k with
  | 0 => ("FlushProofs$Prover", "work", "LFlushProofs$Nodes;", true)
  | 1 => ("FlushProofs$Prover", "question", "LFlushProofs$Question;", true)
  | 2 => ("FlushProofs$Prover", "search", "LFlushProofs$Search;", true)
  | 3 => ("FlushProofs$Prover", "marks", "[Z", true)
  | 4 => ("FlushProofs$Prover", "images", "[I", true)
  | 5 => ("FlushProofs$Prover", "oneWay", "[I", true)
  | _ => ("FlushProofs$Prover", "otherWay", "[I", true)
def qV6 : Nat → FieldType := fun k => match k with
  | 0 => .object "FlushProofs$Nodes"
  | 1 => .object "FlushProofs$Question"
  | 2 => .object "FlushProofs$Search"
  | 3 => .array .boolean
  | 4 => .array .int
  | 5 => .array .int
  | _ => .array .int
def qU7 : u_T := fun k => match k with
  | 0 => ("FlushProofs$Question", "invariants", "[I", true)
  | 1 => ("FlushProofs$Question", "claims", "[I", true)
  | 2 => ("FlushProofs$Question", "claimElements", "[I", true)
  | 3 => ("FlushProofs$Question", "invariantCount", "I", false)
  | _ => ("FlushProofs$Question", "claimCount", "I", false)
def qV7 : Nat → FieldType := fun k => match k with
  | 0 => .array .int
  | 1 => .array .int
  | 2 => .array .int
  | 3 => .int
  | _ => .int
def qU8 : u_T := fun k => match k with
  | 0 => ("FlushProofs$Search", "work", "LFlushProofs$Nodes;", true)
  | 1 => ("FlushProofs$Search", "question", "LFlushProofs$Question;", true)
  | 2 => ("FlushProofs$Search", "planes", "LFlushProofs$Planes;", true)
  | 3 => ("FlushProofs$Search", "truths", "[I", true)
  | 4 => ("FlushProofs$Search", "words", "[I", true)
  | 5 => ("FlushProofs$Search", "values", "[I", true)
  | 6 => ("FlushProofs$Search", "levels", "[I", true)
  | 7 => ("FlushProofs$Search", "order", "[I", true)
  | 8 => ("FlushProofs$Search", "starts", "[I", true)
  | 9 => ("FlushProofs$Search", "leastValues", "[I", true)
  | 10 => ("FlushProofs$Search", "truthCount", "I", false)
  | 11 => ("FlushProofs$Search", "wordCount", "I", false)
  | 12 => ("FlushProofs$Search", "wordElementCount", "I", false)
  | 13 => ("FlushProofs$Search", "leastIndex", "I", false)
  | _ => ("FlushProofs$Search", "leastClaim", "I", false)
def qV8 : Nat → FieldType := fun k => match k with
  | 0 => .object "FlushProofs$Nodes"
  | 1 => .object "FlushProofs$Question"
  | 2 => .object "FlushProofs$Planes"
  | 3 => .array .int
  | 4 => .array .int
  | 5 => .array .int
  | 6 => .array .int
  | 7 => .array .int
  | 8 => .array .int
  | 9 => .array .int
  | 10 => .int
  | 11 => .int
  | 12 => .int
  | 13 => .int
  | _ => .int
def qCl : List vw_C := [("FlushProofsModel", qU0, 36), ("FlushProofs", qU1, 3), ("FlushProofs$Core", qU2, 9), ("FlushProofs$Nodes", qU3, 8), ("FlushProofs$Outcome", qU4, 7), ("FlushProofs$Planes", qU5, 4), ("FlushProofs$Prover", qU6, 7), ("FlushProofs$Question", qU7, 5), ("FlushProofs$Search", qU8, 15)]
def qTy (ci : Nat) : Nat → FieldType := match ci with
  | 0 => qV0
  | 1 => qV1
  | 2 => qV2
  | 3 => qV3
  | 4 => qV4
  | 5 => qV5
  | 6 => qV6
  | 7 => qV7
  | _ => qV8
def qDf (ci j : Nat) : Value := defaultValue (qTy ci j)
abbrev Y_XNodes_init : qY := (⟨"FlushProofs$Nodes", "<init>", "(II)V"⟩, prog_3_method_1_code, 3, none)
abbrev Y_JArrays_fill : qY := (⟨"java/util/Arrays", "fill", "([II)V"⟩, prog_22_method_103_code, 4, none)
abbrev Y_XNodes_isWord : qY := (⟨"FlushProofs$Nodes", "isWord", "(I)Z"⟩, prog_3_method_4_code, 2, (some .boolean))
abbrev Y_XNodes_put : qY := (⟨"FlushProofs$Nodes", "put", "(IIII)I"⟩, prog_3_method_17_code, 9, (some .int))
abbrev Y_XNodes_reset : qY := (⟨"FlushProofs$Nodes", "reset", "()V"⟩, prog_3_method_2_code, 1, none)
abbrev Y_XCore_init : qY := (⟨"FlushProofs$Core", "<init>", "()V"⟩, prog_2_method_1_code, 1, none)
abbrev Y_XNodes_unmark : qY := (⟨"FlushProofs$Nodes", "unmark", "([Z)V"⟩, prog_3_method_13_code, 3, none)
abbrev Y_XNodes_has : qY := (⟨"FlushProofs$Nodes", "has", "(I)Z"⟩, prog_3_method_3_code, 2, (some .boolean))
abbrev Y_XNodes_mark : qY := (⟨"FlushProofs$Nodes", "mark", "([ZI)V"⟩, prog_3_method_15_code, 3, none)
abbrev Y_XNodes_spread : qY := (⟨"FlushProofs$Nodes", "spread", "([Z)V"⟩, prog_3_method_14_code, 3, none)
abbrev Y_XCore_hasFetch : qY := (⟨"FlushProofs$Core", "hasFetch", "(I)Z"⟩, prog_2_method_2_code, 2, (some .boolean))
abbrev Y_XNodes_makeElement : qY := (⟨"FlushProofs$Nodes", "makeElement", "(II)I"⟩, prog_3_method_5_code, 3, (some .int))
abbrev Y_XCore_addElement : qY := (⟨"FlushProofs$Core", "addElement", "(I)I"⟩, prog_2_method_3_code, 3, (some .int))
abbrev Y_XCore_tellNext : qY := (⟨"FlushProofs$Core", "tellNext", "(II)Z"⟩, prog_2_method_4_code, 4, (some .boolean))
abbrev Y_XCore_tellPlain : qY := (⟨"FlushProofs$Core", "tellPlain", "(II)Z"⟩, prog_2_method_5_code, 4, (some .boolean))
abbrev Y_XCore_addInvariant : qY := (⟨"FlushProofs$Core", "addInvariant", "(I)I"⟩, prog_2_method_6_code, 2, (some .int))
abbrev Y_XNodes_makeApplication : qY := (⟨"FlushProofs$Nodes", "makeApplication", "(III)I"⟩, prog_3_method_6_code, 4, (some .int))
abbrev Y_XNodes_makeEquality : qY := (⟨"FlushProofs$Nodes", "makeEquality", "(II)I"⟩, prog_3_method_7_code, 3, (some .int))
abbrev Y_XNodes_makeNot : qY := (⟨"FlushProofs$Nodes", "makeNot", "(I)I"⟩, prog_3_method_8_code, 2, (some .int))
abbrev Y_XNodes_makeBoth : qY := (⟨"FlushProofs$Nodes", "makeBoth", "(II)I"⟩, prog_3_method_9_code, 3, (some .int))
abbrev Y_XNodes_makeChoice : qY := (⟨"FlushProofs$Nodes", "makeChoice", "(III)I"⟩, prog_3_method_10_code, 4, (some .int))
abbrev Y_XNodes_makeDifference : qY := (⟨"FlushProofs$Nodes", "makeDifference", "(II)I"⟩, prog_3_method_11_code, 3, (some .int))
abbrev Y_XNodes_imageOf : qY := (⟨"FlushProofs$Nodes", "imageOf", "([II)I"⟩, prog_3_method_16_code, 2, (some .int))
abbrev Y_XNodes_remakeAll : qY := (⟨"FlushProofs$Nodes", "remakeAll", "(LFlushProofs$Nodes;[I)V"⟩, prog_3_method_12_code, 6, none)
abbrev Y_XOutcome_init : qY := (⟨"FlushProofs$Outcome", "<init>", "()V"⟩, prog_4_method_1_code, 1, none)
abbrev Y_XOutcome_begin : qY := (⟨"FlushProofs$Outcome", "begin", "(II)V"⟩, prog_4_method_2_code, 3, none)
abbrev Y_XOutcome_isTooLarge : qY := (⟨"FlushProofs$Outcome", "isTooLarge", "()Z"⟩, prog_4_method_3_code, 1, (some .boolean))
abbrev Y_XPlanes_init : qY := (⟨"FlushProofs$Planes", "<init>", "(LFlushProofs$Nodes;)V"⟩, prog_5_method_1_code, 2, none)
abbrev Y_XPlanes_truthOf : qY := (⟨"FlushProofs$Planes", "truthOf", "(I)J"⟩, prog_5_method_2_code, 2, (some .long))
abbrev Y_XPlanes_setTruth : qY := (⟨"FlushProofs$Planes", "setTruth", "(IJ)V"⟩, prog_5_method_3_code, 4, none)
abbrev Y_XPlanes_setWord : qY := (⟨"FlushProofs$Planes", "setWord", "(II)V"⟩, prog_5_method_4_code, 3, none)
abbrev Y_XPlanes_same : qY := (⟨"FlushProofs$Planes", "same", "(II)J"⟩, prog_5_method_5_code, 3, (some .long))
abbrev Y_XPlanes_choose : qY := (⟨"FlushProofs$Planes", "choose", "(IJII)V"⟩, prog_5_method_7_code, 6, none)
abbrev Y_XPlanes_reckon : qY := (⟨"FlushProofs$Planes", "reckon", "(I)V"⟩, prog_5_method_6_code, 4, none)
abbrev Y_XQuestion_init : qY := (⟨"FlushProofs$Question", "<init>", "()V"⟩, prog_7_method_1_code, 1, none)
abbrev Y_XSearch_init : qY := (⟨"FlushProofs$Search", "<init>", "(LFlushProofs$Nodes;LFlushProofs$Question;)V"⟩, prog_8_method_1_code, 3, none)
abbrev Y_XProver_init : qY := (⟨"FlushProofs$Prover", "<init>", "()V"⟩, prog_6_method_1_code, 1, none)
abbrev Y_XQuestion_begin : qY := (⟨"FlushProofs$Question", "begin", "()V"⟩, prog_7_method_2_code, 1, none)
abbrev Y_XProver_putIn : qY := (⟨"FlushProofs$Prover", "putIn", "(LFlushProofs$Core;[II)V"⟩, prog_6_method_7_code, 5, none)
abbrev Y_XQuestion_addInvariant : qY := (⟨"FlushProofs$Question", "addInvariant", "(I)V"⟩, prog_7_method_3_code, 2, none)
abbrev Y_XProver_begin : qY := (⟨"FlushProofs$Prover", "begin", "(LFlushProofs$Core;)V"⟩, prog_6_method_4_code, 4, none)
abbrev Y_XProver_takeImages : qY := (⟨"FlushProofs$Prover", "takeImages", "(LFlushProofs$Core;[I[I)V"⟩, prog_6_method_8_code, 5, none)
abbrev Y_XProver_step : qY := (⟨"FlushProofs$Prover", "step", "(LFlushProofs$Core;[II)V"⟩, prog_6_method_5_code, 4, none)
abbrev Y_XProver_plainStep : qY := (⟨"FlushProofs$Prover", "plainStep", "(LFlushProofs$Core;[I)V"⟩, prog_6_method_6_code, 3, none)
abbrev Y_XProver_markInvariants : qY := (⟨"FlushProofs$Prover", "markInvariants", "()V"⟩, prog_6_method_9_code, 2, none)
abbrev Y_XProver_countDeep : qY := (⟨"FlushProofs$Prover", "countDeep", "(LFlushProofs$Outcome;)V"⟩, prog_6_method_10_code, 4, none)
abbrev Y_XQuestion_addClaim : qY := (⟨"FlushProofs$Question", "addClaim", "(II)V"⟩, prog_7_method_4_code, 3, none)
abbrev Y_XProver_askEquation : qY := (⟨"FlushProofs$Prover", "askEquation", "(LFlushProofs$Core;ILFlushProofs$Outcome;)V"⟩, prog_6_method_2_code, 5, none)
abbrev Y_XProver_askKept : qY := (⟨"FlushProofs$Prover", "askKept", "(LFlushProofs$Core;ILFlushProofs$Outcome;)V"⟩, prog_6_method_3_code, 5, none)
abbrev Y_XProver_markNeeded : qY := (⟨"FlushProofs$Prover", "markNeeded", "()V"⟩, prog_6_method_12_code, 2, none)
abbrev Y_XSearch_addTruth : qY := (⟨"FlushProofs$Search", "addTruth", "(I)V"⟩, prog_8_method_6_code, 2, none)
abbrev Y_XSearch_addWord : qY := (⟨"FlushProofs$Search", "addWord", "(I)V"⟩, prog_8_method_7_code, 2, none)
abbrev Y_XSearch_collectNode : qY := (⟨"FlushProofs$Search", "collectNode", "(II)V"⟩, prog_8_method_5_code, 3, none)
abbrev Y_XSearch_collect : qY := (⟨"FlushProofs$Search", "collect", "([Z)V"⟩, prog_8_method_4_code, 3, none)
abbrev Y_XSearch_levelOf : qY := (⟨"FlushProofs$Search", "levelOf", "(I)I"⟩, prog_8_method_10_code, 2, (some .int))
abbrev Y_XSearch_levelOfParts : qY := (⟨"FlushProofs$Search", "levelOfParts", "(I)I"⟩, prog_8_method_9_code, 3, (some .int))
abbrev Y_XSearch_setLevels : qY := (⟨"FlushProofs$Search", "setLevels", "([Z)V"⟩, prog_8_method_8_code, 5, none)
abbrev Y_XSearch_arrange : qY := (⟨"FlushProofs$Search", "arrange", "([Z)V"⟩, prog_8_method_11_code, 3, none)
abbrev Y_XSearch_setTruths : qY := (⟨"FlushProofs$Search", "setTruths", "()V"⟩, prog_8_method_12_code, 2, none)
abbrev Y_XSearch_reckonLevel : qY := (⟨"FlushProofs$Search", "reckonLevel", "(I)V"⟩, prog_8_method_13_code, 3, none)
abbrev Y_XSearch_statesBelow : qY := (⟨"FlushProofs$Search", "statesBelow", "(I)J"⟩, prog_8_method_21_code, 1, (some .long))
abbrev Y_XSearch_withInvariants : qY := (⟨"FlushProofs$Search", "withInvariants", "(IJ)J"⟩, prog_8_method_14_code, 7, (some .long))
abbrev Y_JLong_bitCount : qY := (⟨"java/lang/Long", "bitCount", "(J)I"⟩, prog_15_method_50_code, 2, (some .int))
abbrev Y_XSearch_lowestClaim : qY := (⟨"FlushProofs$Search", "lowestClaim", "(I)I"⟩, prog_8_method_20_code, 3, (some .int))
abbrev Y_XSearch_look : qY := (⟨"FlushProofs$Search", "look", "(J)V"⟩, prog_8_method_19_code, 7, none)
abbrev Y_XSearch_statesOfUse : qY := (⟨"FlushProofs$Search", "statesOfUse", "(I)J"⟩, prog_8_method_16_code, 3, (some .long))
abbrev Y_XSearch_sameArguments : qY := (⟨"FlushProofs$Search", "sameArguments", "(II)J"⟩, prog_8_method_18_code, 7, (some .long))
abbrev Y_XSearch_withFunctions : qY := (⟨"FlushProofs$Search", "withFunctions", "(IIJ)J"⟩, prog_8_method_17_code, 10, (some .long))
abbrev Y_XSearch_giveNumbers : qY := (⟨"FlushProofs$Search", "giveNumbers", "(IIJ)V"⟩, prog_8_method_15_code, 8, none)
abbrev Y_XSearch_findLeast : qY := (⟨"FlushProofs$Search", "findLeast", "([Z)Z"⟩, prog_8_method_2_code, 4, (some .boolean))
abbrev Y_XSearch_tell : qY := (⟨"FlushProofs$Search", "tell", "(LFlushProofs$Outcome;)V"⟩, prog_8_method_3_code, 4, none)
abbrev Y_XProver_decide : qY := (⟨"FlushProofs$Prover", "decide", "(LFlushProofs$Outcome;)V"⟩, prog_6_method_11_code, 2, none)
abbrev Y_X_init : qY := (⟨"FlushProofs", "<init>", "()V"⟩, prog_1_method_1_code, 1, none)
abbrev Y_X_requireRoomForElement : qY := (⟨"FlushProofs", "requireRoomForElement", "()V"⟩, prog_1_method_18_code, 1, none)
abbrev Y_X_word : qY := (⟨"FlushProofs", "word", "()I"⟩, prog_1_method_2_code, 1, (some .int))
abbrev Y_X_truth : qY := (⟨"FlushProofs", "truth", "()I"⟩, prog_1_method_3_code, 1, (some .int))
abbrev Y_X_requireNode : qY := (⟨"FlushProofs", "requireNode", "(I)V"⟩, prog_1_method_19_code, 2, none)
abbrev Y_X_requireWord : qY := (⟨"FlushProofs", "requireWord", "(I)V"⟩, prog_1_method_21_code, 2, none)
abbrev Y_X_landed : qY := (⟨"FlushProofs", "landed", "(I)I"⟩, prog_1_method_26_code, 1, (some .int))
abbrev Y_X_apply : qY := (⟨"FlushProofs", "apply", "(III)I"⟩, prog_1_method_4_code, 4, (some .int))
abbrev Y_X_equal : qY := (⟨"FlushProofs", "equal", "(II)I"⟩, prog_1_method_5_code, 3, (some .int))
abbrev Y_X_requireTruth : qY := (⟨"FlushProofs", "requireTruth", "(I)V"⟩, prog_1_method_22_code, 2, none)
abbrev Y_X_not : qY := (⟨"FlushProofs", "not", "(I)I"⟩, prog_1_method_6_code, 2, (some .int))
abbrev Y_X_both : qY := (⟨"FlushProofs", "both", "(II)I"⟩, prog_1_method_7_code, 3, (some .int))
abbrev Y_X_requireSameSort : qY := (⟨"FlushProofs", "requireSameSort", "(II)V"⟩, prog_1_method_23_code, 3, none)
abbrev Y_X_choice : qY := (⟨"FlushProofs", "choice", "(III)I"⟩, prog_1_method_8_code, 4, (some .int))
abbrev Y_X_requireElement : qY := (⟨"FlushProofs", "requireElement", "(I)V"⟩, prog_1_method_20_code, 2, none)
abbrev Y_X_next : qY := (⟨"FlushProofs", "next", "(II)Z"⟩, prog_1_method_9_code, 3, (some .boolean))
abbrev Y_X_requireNoFetch : qY := (⟨"FlushProofs", "requireNoFetch", "(I)V"⟩, prog_1_method_24_code, 2, none)
abbrev Y_X_plain : qY := (⟨"FlushProofs", "plain", "(II)Z"⟩, prog_1_method_10_code, 3, (some .boolean))
abbrev Y_X_invariant : qY := (⟨"FlushProofs", "invariant", "(I)I"⟩, prog_1_method_11_code, 2, (some .int))
abbrev Y_X_run : qY := (⟨"FlushProofs", "run", "(I)I"⟩, prog_1_method_12_code, 2, (some .int))
abbrev Y_X_kept : qY := (⟨"FlushProofs", "kept", "(I)I"⟩, prog_1_method_13_code, 2, (some .int))
abbrev Y_X_requireFailure : qY := (⟨"FlushProofs", "requireFailure", "()V"⟩, prog_1_method_25_code, 1, none)
abbrev Y_X_witness : qY := (⟨"FlushProofs", "witness", "(I)I"⟩, prog_1_method_14_code, 2, (some .int))
abbrev Y_X_differs : qY := (⟨"FlushProofs", "differs", "()I"⟩, prog_1_method_15_code, 1, (some .int))
abbrev Y_X_node : qY := (⟨"FlushProofs", "node", "(II)I"⟩, prog_1_method_16_code, 3, (some .int))
abbrev Y_X_count : qY := (⟨"FlushProofs", "count", "(I)I"⟩, prog_1_method_17_code, 2, (some .int))
abbrev Y_XModel_chainOf : qY := (⟨"FlushProofsModel", "chainOf", "(IIII)I"⟩, prog_10_method_5_code, 4, (some .int))
abbrev Y_XModel_link : qY := (⟨"FlushProofsModel", "link", "(I)V"⟩, prog_10_method_6_code, 3, none)
abbrev Y_XModel_begin : qY := (⟨"FlushProofsModel", "begin", "()V"⟩, prog_10_method_7_code, 2, none)
abbrev Y_XModel_init : qY := (⟨"FlushProofsModel", "<init>", "()V"⟩, prog_10_method_1_code, 2, none)
abbrev Y_XModel_fail : qY := (⟨"FlushProofsModel", "fail", "(I)I"⟩, prog_10_method_3_code, 2, (some .int))
abbrev Y_XModel_add : qY := (⟨"FlushProofsModel", "add", "(IIII)I"⟩, prog_10_method_9_code, 5, (some .int))
abbrev Y_XModel_addElement : qY := (⟨"FlushProofsModel", "addElement", "(I)I"⟩, prog_10_method_16_code, 3, (some .int))
abbrev Y_XModel_word : qY := (⟨"FlushProofsModel", "word", "()I"⟩, prog_10_method_17_code, 1, (some .int))
abbrev Y_XModel_thrown : qY := (⟨"FlushProofsModel", "thrown", "()I"⟩, prog_10_method_2_code, 1, (some .int))
abbrev Y_XModel_truth : qY := (⟨"FlushProofsModel", "truth", "()I"⟩, prog_10_method_18_code, 1, (some .int))
abbrev Y_XModel_within : qY := (⟨"FlushProofsModel", "within", "(III)Z"⟩, prog_10_method_4_code, 3, (some .boolean))
abbrev Y_XModel_isNode : qY := (⟨"FlushProofsModel", "isNode", "(I)Z"⟩, prog_10_method_14_code, 2, (some .boolean))
abbrev Y_XModel_isWord : qY := (⟨"FlushProofsModel", "isWord", "(I)Z"⟩, prog_10_method_15_code, 3, (some .boolean))
abbrev Y_XModel_plainest : qY := (⟨"FlushProofsModel", "plainest", "(IIII)I"⟩, prog_10_method_11_code, 5, (some .int))
abbrev Y_XModel_find : qY := (⟨"FlushProofsModel", "find", "(IIII)I"⟩, prog_10_method_8_code, 6, (some .int))
abbrev Y_XModel_told : qY := (⟨"FlushProofsModel", "told", "(IIIII)I"⟩, prog_10_method_13_code, 8, (some .int))
abbrev Y_XModel_apply : qY := (⟨"FlushProofsModel", "apply", "(III)I"⟩, prog_10_method_19_code, 4, (some .int))
abbrev Y_XModel_equal : qY := (⟨"FlushProofsModel", "equal", "(II)I"⟩, prog_10_method_20_code, 3, (some .int))
abbrev Y_XModel_not : qY := (⟨"FlushProofsModel", "not", "(I)I"⟩, prog_10_method_21_code, 2, (some .int))
abbrev Y_XModel_both : qY := (⟨"FlushProofsModel", "both", "(II)I"⟩, prog_10_method_22_code, 3, (some .int))
abbrev Y_XModel_choice : qY := (⟨"FlushProofsModel", "choice", "(III)I"⟩, prog_10_method_23_code, 4, (some .int))
abbrev Y_XModel_isElement : qY := (⟨"FlushProofsModel", "isElement", "(I)Z"⟩, prog_10_method_24_code, 2, (some .boolean))
abbrev Y_XModel_isOfSort : qY := (⟨"FlushProofsModel", "isOfSort", "(II)Z"⟩, prog_10_method_25_code, 3, (some .boolean))
abbrev Y_XModel_next : qY := (⟨"FlushProofsModel", "next", "(II)Z"⟩, prog_10_method_26_code, 4, (some .boolean))
abbrev Y_XModel_unmark : qY := (⟨"FlushProofsModel", "unmark", "()V"⟩, prog_10_method_29_code, 2, none)
abbrev Y_XModel_mark : qY := (⟨"FlushProofsModel", "mark", "(I)V"⟩, prog_10_method_27_code, 2, none)
abbrev Y_XModel_markParts : qY := (⟨"FlushProofsModel", "markParts", "()V"⟩, prog_10_method_28_code, 2, none)
abbrev Y_XModel_hasFetch : qY := (⟨"FlushProofsModel", "hasFetch", "(I)Z"⟩, prog_10_method_30_code, 2, (some .boolean))
abbrev Y_XModel_plain : qY := (⟨"FlushProofsModel", "plain", "(II)Z"⟩, prog_10_method_31_code, 4, (some .boolean))
abbrev Y_XModel_invariant : qY := (⟨"FlushProofsModel", "invariant", "(I)I"⟩, prog_10_method_32_code, 2, (some .int))
abbrev Y_XModel_beginState : qY := (⟨"FlushProofsModel", "beginState", "()V"⟩, prog_10_method_35_code, 2, none)
abbrev Y_XModel_get : qY := (⟨"FlushProofsModel", "get", "(IIII)I"⟩, prog_10_method_10_code, 6, (some .int))
abbrev Y_XModel_make : qY := (⟨"FlushProofsModel", "make", "(IIII)I"⟩, prog_10_method_12_code, 7, (some .int))
abbrev Y_XModel_putIn : qY := (⟨"FlushProofsModel", "putIn", "(I)V"⟩, prog_10_method_33_code, 4, none)
abbrev Y_XModel_step : qY := (⟨"FlushProofsModel", "step", "(I)V"⟩, prog_10_method_34_code, 3, none)
abbrev Y_XModel_gather : qY := (⟨"FlushProofsModel", "gather", "()V"⟩, prog_10_method_36_code, 4, none)
abbrev Y_XModel_work : qY := (⟨"FlushProofsModel", "work", "()V"⟩, prog_10_method_38_code, 2, none)
abbrev Y_XModel_areFunctions : qY := (⟨"FlushProofsModel", "areFunctions", "()Z"⟩, prog_10_method_39_code, 7, (some .boolean))
abbrev Y_XModel_failing : qY := (⟨"FlushProofsModel", "failing", "(I)I"⟩, prog_10_method_40_code, 3, (some .int))
abbrev Y_XModel_goesOn : qY := (⟨"FlushProofsModel", "goesOn", "(II)Z"⟩, prog_10_method_37_code, 6, (some .boolean))
abbrev Y_XModel_failsWith : qY := (⟨"FlushProofsModel", "failsWith", "(I)I"⟩, prog_10_method_41_code, 5, (some .int))
abbrev Y_XModel_keepState : qY := (⟨"FlushProofsModel", "keepState", "(I)V"⟩, prog_10_method_42_code, 4, none)
abbrev Y_XModel_ask : qY := (⟨"FlushProofsModel", "ask", "(I)I"⟩, prog_10_method_43_code, 5, (some .int))
abbrev Y_XModel_run : qY := (⟨"FlushProofsModel", "run", "(I)I"⟩, prog_10_method_44_code, 3, (some .int))
abbrev Y_XModel_kept : qY := (⟨"FlushProofsModel", "kept", "(I)I"⟩, prog_10_method_45_code, 4, (some .int))
abbrev Y_XModel_witness : qY := (⟨"FlushProofsModel", "witness", "(I)I"⟩, prog_10_method_46_code, 2, (some .int))
abbrev Y_XModel_differs : qY := (⟨"FlushProofsModel", "differs", "()I"⟩, prog_10_method_47_code, 1, (some .int))
abbrev Y_XModel_node : qY := (⟨"FlushProofsModel", "node", "(II)I"⟩, prog_10_method_48_code, 3, (some .int))
abbrev Y_XModel_count : qY := (⟨"FlushProofsModel", "count", "(I)I"⟩, prog_10_method_49_code, 4, (some .int))
abbrev Y_XLaw_word : qY := (⟨"FlushProofsLaw", "word", "(LFlushProofs;[J)I"⟩, method_3_code, 3, (some .int))
abbrev Y_XLaw_truth : qY := (⟨"FlushProofsLaw", "truth", "(LFlushProofs;[J)I"⟩, method_4_code, 3, (some .int))
abbrev Y_XLaw_apply : qY := (⟨"FlushProofsLaw", "apply", "(LFlushProofs;III[J)I"⟩, method_5_code, 6, (some .int))
abbrev Y_XLaw_equal : qY := (⟨"FlushProofsLaw", "equal", "(LFlushProofs;II[J)I"⟩, method_6_code, 5, (some .int))
abbrev Y_XLaw_not : qY := (⟨"FlushProofsLaw", "not", "(LFlushProofs;I[J)I"⟩, method_7_code, 4, (some .int))
abbrev Y_XLaw_both : qY := (⟨"FlushProofsLaw", "both", "(LFlushProofs;II[J)I"⟩, method_8_code, 5, (some .int))
abbrev Y_XLaw_choice : qY := (⟨"FlushProofsLaw", "choice", "(LFlushProofs;III[J)I"⟩, method_9_code, 6, (some .int))
abbrev Y_XLaw_next : qY := (⟨"FlushProofsLaw", "next", "(LFlushProofs;II[J)I"⟩, method_10_code, 5, (some .int))
abbrev Y_XLaw_plain : qY := (⟨"FlushProofsLaw", "plain", "(LFlushProofs;II[J)I"⟩, method_11_code, 5, (some .int))
abbrev Y_XLaw_invariant : qY := (⟨"FlushProofsLaw", "invariant", "(LFlushProofs;I[J)I"⟩, method_12_code, 4, (some .int))
abbrev Y_XLaw_run : qY := (⟨"FlushProofsLaw", "run", "(LFlushProofs;I[J)I"⟩, method_13_code, 4, (some .int))
abbrev Y_XLaw_kept : qY := (⟨"FlushProofsLaw", "kept", "(LFlushProofs;I[J)I"⟩, method_14_code, 4, (some .int))
abbrev Y_XLaw_witness : qY := (⟨"FlushProofsLaw", "witness", "(LFlushProofs;I[J)I"⟩, method_15_code, 4, (some .int))
abbrev Y_XLaw_differs : qY := (⟨"FlushProofsLaw", "differs", "(LFlushProofs;[J)I"⟩, method_16_code, 3, (some .int))
abbrev Y_XLaw_node : qY := (⟨"FlushProofsLaw", "node", "(LFlushProofs;II[J)I"⟩, method_17_code, 5, (some .int))
abbrev Y_XLaw_law : qY := (⟨"FlushProofsLaw", "law", "([I)Z"⟩, code, 7, some .boolean)
def qHl : List (String × List (Nat × Nat × Nat × Nat)) := [("word", [(0, 8, 11, 13)]), ("truth", [(0, 8, 11, 13)]), ("apply", [(0, 12, 15, 22), (0, 12, 19, 24), (0, 12, 23, 13)]), ("equal", [(0, 10, 13, 22), (0, 10, 17, 24), (0, 10, 21, 13)]), ("not", [(0, 9, 12, 22), (0, 9, 15, 24), (0, 9, 18, 13)]), ("both", [(0, 10, 13, 22), (0, 10, 17, 24), (0, 10, 21, 13)]), ("choice", [(0, 12, 15, 22), (0, 12, 19, 24), (0, 12, 23, 13)]), ("next", [(0, 17, 20, 22), (0, 17, 24, 24)]), ("plain", [(0, 17, 20, 22), (0, 17, 24, 24)]), ("invariant", [(0, 9, 12, 22), (0, 9, 15, 24), (0, 9, 18, 50)]), ("run", [(0, 9, 12, 24)]), ("kept", [(0, 9, 12, 22)]), ("witness", [(0, 9, 12, 50), (0, 9, 15, 22)]), ("differs", [(0, 8, 11, 50)]), ("node", [(0, 10, 13, 22)])]
def qHd (Y : qY) : List (Nat × Nat × Nat × Nat) := if Y.1.cls == "FlushProofsLaw" then ((qHl.find? (fun q => q.1 == Y.1.name)).map (·.2)).getD [] else []
theorem qHd_ne {Y : qY} (h : (Y.1.cls == "FlushProofsLaw") = false) : qHd Y = [] := by unfold qHd; rw [h]; rfl
def qNc : List (String × String) := [("java/lang/IndexOutOfBoundsException", "java/lang/IllegalArgumentException"), ("java/lang/IndexOutOfBoundsException", "java/lang/UnsupportedOperationException"), ("java/lang/IndexOutOfBoundsException", "java/lang/IllegalStateException"), ("java/lang/IllegalArgumentException", "java/lang/IndexOutOfBoundsException"), ("java/lang/IllegalArgumentException", "java/lang/UnsupportedOperationException"), ("java/lang/IllegalArgumentException", "java/lang/IllegalStateException"), ("java/lang/UnsupportedOperationException", "java/lang/IndexOutOfBoundsException"), ("java/lang/UnsupportedOperationException", "java/lang/IllegalArgumentException"), ("java/lang/UnsupportedOperationException", "java/lang/IllegalStateException"), ("java/lang/IllegalStateException", "java/lang/IndexOutOfBoundsException"), ("java/lang/IllegalStateException", "java/lang/IllegalArgumentException"), ("java/lang/IllegalStateException", "java/lang/UnsupportedOperationException")]
def qMs : List qY := [Y_XNodes_init, Y_JArrays_fill, Y_XNodes_isWord, Y_XNodes_put, Y_XNodes_reset, Y_XCore_init, Y_XNodes_unmark, Y_XNodes_has, Y_XNodes_mark, Y_XNodes_spread, Y_XCore_hasFetch, Y_XNodes_makeElement, Y_XCore_addElement, Y_XCore_tellNext, Y_XCore_tellPlain, Y_XCore_addInvariant, Y_XNodes_makeApplication, Y_XNodes_makeEquality, Y_XNodes_makeNot, Y_XNodes_makeBoth, Y_XNodes_makeChoice, Y_XNodes_makeDifference, Y_XNodes_imageOf, Y_XNodes_remakeAll, Y_XOutcome_init, Y_XOutcome_begin, Y_XOutcome_isTooLarge, Y_XPlanes_init, Y_XPlanes_truthOf, Y_XPlanes_setTruth, Y_XPlanes_setWord, Y_XPlanes_same, Y_XPlanes_choose, Y_XPlanes_reckon, Y_XQuestion_init, Y_XSearch_init, Y_XProver_init, Y_XQuestion_begin, Y_XProver_putIn, Y_XQuestion_addInvariant, Y_XProver_begin, Y_XProver_takeImages, Y_XProver_step, Y_XProver_plainStep, Y_XProver_markInvariants, Y_XProver_countDeep, Y_XQuestion_addClaim, Y_XProver_askEquation, Y_XProver_askKept, Y_XProver_markNeeded, Y_XSearch_addTruth, Y_XSearch_addWord, Y_XSearch_collectNode, Y_XSearch_collect, Y_XSearch_levelOf, Y_XSearch_levelOfParts, Y_XSearch_setLevels, Y_XSearch_arrange, Y_XSearch_setTruths, Y_XSearch_reckonLevel, Y_XSearch_statesBelow, Y_XSearch_withInvariants, Y_JLong_bitCount, Y_XSearch_lowestClaim, Y_XSearch_look, Y_XSearch_statesOfUse, Y_XSearch_sameArguments, Y_XSearch_withFunctions, Y_XSearch_giveNumbers, Y_XSearch_findLeast, Y_XSearch_tell, Y_XProver_decide, Y_X_init, Y_X_requireRoomForElement, Y_X_word, Y_X_truth, Y_X_requireNode, Y_X_requireWord, Y_X_landed, Y_X_apply, Y_X_equal, Y_X_requireTruth, Y_X_not, Y_X_both, Y_X_requireSameSort, Y_X_choice, Y_X_requireElement, Y_X_next, Y_X_requireNoFetch, Y_X_plain, Y_X_invariant, Y_X_run, Y_X_kept, Y_X_requireFailure, Y_X_witness, Y_X_differs, Y_X_node, Y_X_count, Y_XModel_chainOf, Y_XModel_link, Y_XModel_begin, Y_XModel_init, Y_XModel_fail, Y_XModel_add, Y_XModel_addElement, Y_XModel_word, Y_XModel_thrown, Y_XModel_truth, Y_XModel_within, Y_XModel_isNode, Y_XModel_isWord, Y_XModel_plainest, Y_XModel_find, Y_XModel_told, Y_XModel_apply, Y_XModel_equal, Y_XModel_not, Y_XModel_both, Y_XModel_choice, Y_XModel_isElement, Y_XModel_isOfSort, Y_XModel_next, Y_XModel_unmark, Y_XModel_mark, Y_XModel_markParts, Y_XModel_hasFetch, Y_XModel_plain, Y_XModel_invariant, Y_XModel_beginState, Y_XModel_get, Y_XModel_make, Y_XModel_putIn, Y_XModel_step, Y_XModel_gather, Y_XModel_work, Y_XModel_areFunctions, Y_XModel_failing, Y_XModel_goesOn, Y_XModel_failsWith, Y_XModel_keepState, Y_XModel_ask, Y_XModel_run, Y_XModel_kept, Y_XModel_witness, Y_XModel_differs, Y_XModel_node, Y_XModel_count, (objectInit, (⟨#[0xb1]⟩ : ByteArray), 1, none), (Lib.Math.max.name, Lib.Math.max.code, 2, (some .int)), (Lib.Math.min.name, Lib.Math.min.code, 2, (some .int))]
def qMi : List Nat := [104, 156, 164, 160, 153, 98, 646, 504, 650, 654, 642, 480, 476, 627, 660, 688, 546, 561, 583, 595, 611, 763, 727, 724, 209, 704, 775, 294, 856, 825, 894, 840, 845, 836, 257, 288, 249, 714, 720, 736, 709, 744, 740, 748, 752, 758, 767, 700, 910, 779, 795, 799, 791, 787, 811, 807, 803, 816, 821, 832, 848, 852, 867, 874, 864, 881, 889, 885, 860, 783, 898, 771, 90, 403, 399, 487, 500, 540, 549, 496, 557, 578, 574, 591, 606, 602, 622, 618, 638, 634, 668, 695, 905, 922, 918, 931, 938, 391, 956, 953, 949, 944, 1082, 1086, 1078, 1074, 1070, 1090, 1101, 1098, 1105, 1113, 1117, 1109, 1094, 1121, 1125, 1129, 1133, 1141, 1145, 1137, 1157, 1161, 1165, 1153, 1149, 1169, 1177, 1193, 1189, 1185, 1181, 1201, 1209, 1213, 1217, 1221, 1205, 1225, 1197, 1173, 1229, 1233, 1237, 1241, 1245, 93, 567, 564]
def qTT : List Cond := [
  Cond.lays "FlushProofsModel" "FlushProofsModel" "thrown" "I",
  Cond.lays "FlushProofsModel" "FlushProofsModel" "nodes" "I",
  Cond.lays "FlushProofsModel" "FlushProofsModel" "all" "I",
  Cond.laysFinal "FlushProofsModel" "FlushProofsModel" "kind" "[I",
  Cond.laysFinal "FlushProofsModel" "FlushProofsModel" "one" "[I",
  Cond.laysFinal "FlushProofsModel" "FlushProofsModel" "two" "[I",
  Cond.laysFinal "FlushProofsModel" "FlushProofsModel" "three" "[I",
  Cond.laysFinal "FlushProofsModel" "FlushProofsModel" "chain" "[I",
  Cond.laysFinal "FlushProofsModel" "FlushProofsModel" "behind" "[I",
  Cond.lays "FlushProofsModel" "FlushProofsModel" "elements" "I",
  Cond.lays "FlushProofsModel" "FlushProofsModel" "invariants" "I",
  Cond.laysFinal "FlushProofsModel" "FlushProofsModel" "element" "[I",
  Cond.laysFinal "FlushProofsModel" "FlushProofsModel" "next" "[I",
  Cond.laysFinal "FlushProofsModel" "FlushProofsModel" "hasNext" "[Z",
  Cond.laysFinal "FlushProofsModel" "FlushProofsModel" "plain" "[I",
  Cond.laysFinal "FlushProofsModel" "FlushProofsModel" "seen" "[Z",
  Cond.laysFinal "FlushProofsModel" "FlushProofsModel" "invariant" "[I",
  Cond.laysFinal "FlushProofsModel" "FlushProofsModel" "made" "[I",
  Cond.laysFinal "FlushProofsModel" "FlushProofsModel" "state" "[I",
  Cond.laysFinal "FlushProofsModel" "FlushProofsModel" "oneWay" "[I",
  Cond.laysFinal "FlushProofsModel" "FlushProofsModel" "otherWay" "[I",
  Cond.laysFinal "FlushProofsModel" "FlushProofsModel" "deep" "[Z",
  Cond.laysFinal "FlushProofsModel" "FlushProofsModel" "value" "[I",
  Cond.lays "FlushProofsModel" "FlushProofsModel" "words" "I",
  Cond.lays "FlushProofsModel" "FlushProofsModel" "applications" "I",
  Cond.lays "FlushProofsModel" "FlushProofsModel" "truths" "I",
  Cond.laysFinal "FlushProofsModel" "FlushProofsModel" "wordNode" "[I",
  Cond.laysFinal "FlushProofsModel" "FlushProofsModel" "fall" "[I",
  Cond.laysFinal "FlushProofsModel" "FlushProofsModel" "truthNode" "[I",
  Cond.lays "FlushProofsModel" "FlushProofsModel" "deepWords" "I",
  Cond.lays "FlushProofsModel" "FlushProofsModel" "deepTruths" "I",
  Cond.lays "FlushProofsModel" "FlushProofsModel" "isAnswered" "Z",
  Cond.laysFinal "FlushProofsModel" "FlushProofsModel" "witness" "[I",
  Cond.lays "FlushProofsModel" "FlushProofsModel" "fetchThere" "I",
  Cond.lays "FlushProofsModel" "FlushProofsModel" "differs" "I",
  Cond.lays "FlushProofsModel" "FlushProofsModel" "answeredElements" "I",
  Cond.laysFinal "FlushProofs" "FlushProofs" "core" "LFlushProofs$Core;",
  Cond.laysFinal "FlushProofs" "FlushProofs" "outcome" "LFlushProofs$Outcome;",
  Cond.laysFinal "FlushProofs" "FlushProofs" "prover" "LFlushProofs$Prover;",
  Cond.laysFinal "FlushProofs$Core" "FlushProofs$Core" "nodes" "LFlushProofs$Nodes;",
  Cond.laysFinal "FlushProofs$Core" "FlushProofs$Core" "elementNodes" "[I",
  Cond.laysFinal "FlushProofs$Core" "FlushProofs$Core" "nextNodes" "[I",
  Cond.laysFinal "FlushProofs$Core" "FlushProofs$Core" "plainNodes" "[I",
  Cond.laysFinal "FlushProofs$Core" "FlushProofs$Core" "invariants" "[I",
  Cond.laysFinal "FlushProofs$Core" "FlushProofs$Core" "marks" "[Z",
  Cond.lays "FlushProofs$Core" "FlushProofs$Core" "elementCount" "I",
  Cond.lays "FlushProofs$Core" "FlushProofs$Core" "seenCount" "I",
  Cond.lays "FlushProofs$Core" "FlushProofs$Core" "invariantCount" "I",
  Cond.laysFinal "FlushProofs$Nodes" "FlushProofs$Nodes" "kinds" "[I",
  Cond.laysFinal "FlushProofs$Nodes" "FlushProofs$Nodes" "firsts" "[I",
  Cond.laysFinal "FlushProofs$Nodes" "FlushProofs$Nodes" "seconds" "[I",
  Cond.laysFinal "FlushProofs$Nodes" "FlushProofs$Nodes" "thirds" "[I",
  Cond.laysFinal "FlushProofs$Nodes" "FlushProofs$Nodes" "words" "[Z",
  Cond.laysFinal "FlushProofs$Nodes" "FlushProofs$Nodes" "heads" "[I",
  Cond.laysFinal "FlushProofs$Nodes" "FlushProofs$Nodes" "links" "[I",
  Cond.lays "FlushProofs$Nodes" "FlushProofs$Nodes" "used" "I",
  Cond.laysFinal "FlushProofs$Outcome" "FlushProofs$Outcome" "values" "[I",
  Cond.lays "FlushProofs$Outcome" "FlushProofs$Outcome" "answer" "I",
  Cond.lays "FlushProofs$Outcome" "FlushProofs$Outcome" "elementCount" "I",
  Cond.lays "FlushProofs$Outcome" "FlushProofs$Outcome" "fetch" "I",
  Cond.lays "FlushProofs$Outcome" "FlushProofs$Outcome" "differing" "I",
  Cond.lays "FlushProofs$Outcome" "FlushProofs$Outcome" "deepWords" "I",
  Cond.lays "FlushProofs$Outcome" "FlushProofs$Outcome" "deepTruths" "I",
  Cond.laysFinal "FlushProofs$Planes" "FlushProofs$Planes" "work" "LFlushProofs$Nodes;",
  Cond.laysFinal "FlushProofs$Planes" "FlushProofs$Planes" "lows" "[J",
  Cond.laysFinal "FlushProofs$Planes" "FlushProofs$Planes" "mids" "[J",
  Cond.laysFinal "FlushProofs$Planes" "FlushProofs$Planes" "highs" "[J",
  Cond.laysFinal "FlushProofs$Prover" "FlushProofs$Prover" "work" "LFlushProofs$Nodes;",
  Cond.laysFinal "FlushProofs$Prover" "FlushProofs$Prover" "question" "LFlushProofs$Question;",
  Cond.laysFinal "FlushProofs$Prover" "FlushProofs$Prover" "search" "LFlushProofs$Search;",
  Cond.laysFinal "FlushProofs$Prover" "FlushProofs$Prover" "marks" "[Z",
  Cond.laysFinal "FlushProofs$Prover" "FlushProofs$Prover" "images" "[I",
  Cond.laysFinal "FlushProofs$Prover" "FlushProofs$Prover" "oneWay" "[I",
  Cond.laysFinal "FlushProofs$Prover" "FlushProofs$Prover" "otherWay" "[I",
  Cond.laysFinal "FlushProofs$Question" "FlushProofs$Question" "invariants" "[I",
  Cond.laysFinal "FlushProofs$Question" "FlushProofs$Question" "claims" "[I",
  Cond.laysFinal "FlushProofs$Question" "FlushProofs$Question" "claimElements" "[I",
  Cond.lays "FlushProofs$Question" "FlushProofs$Question" "invariantCount" "I",
  Cond.lays "FlushProofs$Question" "FlushProofs$Question" "claimCount" "I",
  Cond.laysFinal "FlushProofs$Search" "FlushProofs$Search" "work" "LFlushProofs$Nodes;",
  Cond.laysFinal "FlushProofs$Search" "FlushProofs$Search" "question" "LFlushProofs$Question;",
  Cond.laysFinal "FlushProofs$Search" "FlushProofs$Search" "planes" "LFlushProofs$Planes;",
  Cond.laysFinal "FlushProofs$Search" "FlushProofs$Search" "truths" "[I",
  Cond.laysFinal "FlushProofs$Search" "FlushProofs$Search" "words" "[I",
  Cond.laysFinal "FlushProofs$Search" "FlushProofs$Search" "values" "[I",
  Cond.laysFinal "FlushProofs$Search" "FlushProofs$Search" "levels" "[I",
  Cond.laysFinal "FlushProofs$Search" "FlushProofs$Search" "order" "[I",
  Cond.laysFinal "FlushProofs$Search" "FlushProofs$Search" "starts" "[I",
  Cond.laysFinal "FlushProofs$Search" "FlushProofs$Search" "leastValues" "[I",
  Cond.lays "FlushProofs$Search" "FlushProofs$Search" "truthCount" "I",
  Cond.lays "FlushProofs$Search" "FlushProofs$Search" "wordCount" "I",
  Cond.lays "FlushProofs$Search" "FlushProofs$Search" "wordElementCount" "I",
  Cond.lays "FlushProofs$Search" "FlushProofs$Search" "leastIndex" "I",
  Cond.lays "FlushProofs$Search" "FlushProofs$Search" "leastClaim" "I",
  Cond.fieldLink "FlushProofs$Core" 14 "FlushProofs$Core" "nodes" "LFlushProofs$Nodes;",
  Cond.fieldLink "FlushProofs$Core" 23 "FlushProofs$Core" "elementNodes" "[I",
  Cond.fieldLink "FlushProofs$Core" 27 "FlushProofs$Core" "nextNodes" "[I",
  Cond.fieldLink "FlushProofs$Core" 30 "FlushProofs$Core" "plainNodes" "[I",
  Cond.fieldLink "FlushProofs$Core" 33 "FlushProofs$Core" "invariants" "[I",
  Cond.fieldLink "FlushProofs$Core" 36 "FlushProofs$Core" "marks" "[Z",
  Cond.fieldLink "FlushProofs$Core" 51 "FlushProofs$Core" "elementCount" "I",
  Cond.fieldLink "FlushProofs$Core" 59 "FlushProofs$Core" "seenCount" "I",
  Cond.fieldLink "FlushProofs$Core" 62 "FlushProofs$Core" "invariantCount" "I",
  Cond.fieldLink "FlushProofsModel" 119 "FlushProofsModel" "elements" "I",
  Cond.fieldLink "FlushProofsModel" 13 "FlushProofsModel" "kind" "[I",
  Cond.fieldLink "FlushProofsModel" 155 "FlushProofsModel" "invariants" "I",
  Cond.fieldLink "FlushProofsModel" 164 "FlushProofsModel" "words" "I",
  Cond.fieldLink "FlushProofsModel" 167 "FlushProofsModel" "truths" "I",
  Cond.fieldLink "FlushProofsModel" 17 "FlushProofsModel" "one" "[I",
  Cond.fieldLink "FlushProofsModel" 170 "FlushProofsModel" "deepWords" "I",
  Cond.fieldLink "FlushProofsModel" 173 "FlushProofsModel" "deepTruths" "I",
  Cond.fieldLink "FlushProofsModel" 176 "FlushProofsModel" "applications" "I",
  Cond.fieldLink "FlushProofsModel" 192 "FlushProofsModel" "fetchThere" "I",
  Cond.fieldLink "FlushProofsModel" 195 "FlushProofsModel" "differs" "I",
  Cond.fieldLink "FlushProofsModel" 198 "FlushProofsModel" "answeredElements" "I",
  Cond.fieldLink "FlushProofsModel" 20 "FlushProofsModel" "two" "[I",
  Cond.fieldLink "FlushProofsModel" 201 "FlushProofsModel" "isAnswered" "Z",
  Cond.fieldLink "FlushProofsModel" 23 "FlushProofsModel" "three" "[I",
  Cond.fieldLink "FlushProofsModel" 26 "FlushProofsModel" "chain" "[I",
  Cond.fieldLink "FlushProofsModel" 29 "FlushProofsModel" "behind" "[I",
  Cond.fieldLink "FlushProofsModel" 32 "FlushProofsModel" "element" "[I",
  Cond.fieldLink "FlushProofsModel" 35 "FlushProofsModel" "next" "[I",
  Cond.fieldLink "FlushProofsModel" 38 "FlushProofsModel" "hasNext" "[Z",
  Cond.fieldLink "FlushProofsModel" 42 "FlushProofsModel" "plain" "[I",
  Cond.fieldLink "FlushProofsModel" 45 "FlushProofsModel" "seen" "[Z",
  Cond.fieldLink "FlushProofsModel" 48 "FlushProofsModel" "invariant" "[I",
  Cond.fieldLink "FlushProofsModel" 51 "FlushProofsModel" "made" "[I",
  Cond.fieldLink "FlushProofsModel" 54 "FlushProofsModel" "state" "[I",
  Cond.fieldLink "FlushProofsModel" 57 "FlushProofsModel" "oneWay" "[I",
  Cond.fieldLink "FlushProofsModel" 60 "FlushProofsModel" "otherWay" "[I",
  Cond.fieldLink "FlushProofsModel" 63 "FlushProofsModel" "deep" "[Z",
  Cond.fieldLink "FlushProofsModel" 66 "FlushProofsModel" "value" "[I",
  Cond.fieldLink "FlushProofsModel" 69 "FlushProofsModel" "wordNode" "[I",
  Cond.fieldLink "FlushProofsModel" 7 "FlushProofsModel" "nodes" "I",
  Cond.fieldLink "FlushProofsModel" 72 "FlushProofsModel" "fall" "[I",
  Cond.fieldLink "FlushProofsModel" 75 "FlushProofsModel" "truthNode" "[I",
  Cond.fieldLink "FlushProofsModel" 78 "FlushProofsModel" "witness" "[I",
  Cond.fieldLink "FlushProofsModel" 81 "FlushProofsModel" "all" "I",
  Cond.fieldLink "FlushProofsModel" 87 "FlushProofsModel" "thrown" "I",
  Cond.fieldLink "FlushProofs$Nodes" 15 "FlushProofs$Nodes" "firsts" "[I",
  Cond.fieldLink "FlushProofs$Nodes" 18 "FlushProofs$Nodes" "seconds" "[I",
  Cond.fieldLink "FlushProofs$Nodes" 21 "FlushProofs$Nodes" "thirds" "[I",
  Cond.fieldLink "FlushProofs$Nodes" 24 "FlushProofs$Nodes" "words" "[Z",
  Cond.fieldLink "FlushProofs$Nodes" 28 "FlushProofs$Nodes" "links" "[I",
  Cond.fieldLink "FlushProofs$Nodes" 31 "FlushProofs$Nodes" "heads" "[I",
  Cond.fieldLink "FlushProofs$Nodes" 40 "FlushProofs$Nodes" "used" "I",
  Cond.fieldLink "FlushProofs$Nodes" 9 "FlushProofs$Nodes" "kinds" "[I",
  Cond.fieldLink "FlushProofs$Outcome" 15 "FlushProofs$Outcome" "answer" "I",
  Cond.fieldLink "FlushProofs$Outcome" 25 "FlushProofs$Outcome" "elementCount" "I",
  Cond.fieldLink "FlushProofs$Outcome" 28 "FlushProofs$Outcome" "fetch" "I",
  Cond.fieldLink "FlushProofs$Outcome" 31 "FlushProofs$Outcome" "deepWords" "I",
  Cond.fieldLink "FlushProofs$Outcome" 34 "FlushProofs$Outcome" "deepTruths" "I",
  Cond.fieldLink "FlushProofs$Outcome" 9 "FlushProofs$Outcome" "values" "[I",
  Cond.fieldLink "FlushProofs$Planes" 15 "FlushProofs$Planes" "lows" "[J",
  Cond.fieldLink "FlushProofs$Planes" 19 "FlushProofs$Planes" "mids" "[J",
  Cond.fieldLink "FlushProofs$Planes" 22 "FlushProofs$Planes" "highs" "[J",
  Cond.fieldLink "FlushProofs$Planes" 9 "FlushProofs$Planes" "work" "LFlushProofs$Nodes;",
  Cond.fieldLink "FlushProofs$Prover" 14 "FlushProofs$Prover" "work" "LFlushProofs$Nodes;",
  Cond.fieldLink "FlushProofs$Prover" 23 "FlushProofs$Prover" "question" "LFlushProofs$Question;",
  Cond.fieldLink "FlushProofs$Prover" 32 "FlushProofs$Prover" "search" "LFlushProofs$Search;",
  Cond.fieldLink "FlushProofs$Prover" 36 "FlushProofs$Prover" "marks" "[Z",
  Cond.fieldLink "FlushProofs$Prover" 40 "FlushProofs$Prover" "images" "[I",
  Cond.fieldLink "FlushProofs$Prover" 44 "FlushProofs$Prover" "oneWay" "[I",
  Cond.fieldLink "FlushProofs$Prover" 47 "FlushProofs$Prover" "otherWay" "[I",
  Cond.fieldLink "FlushProofs$Question" 15 "FlushProofs$Question" "claims" "[I",
  Cond.fieldLink "FlushProofs$Question" 18 "FlushProofs$Question" "claimElements" "[I",
  Cond.fieldLink "FlushProofs$Question" 21 "FlushProofs$Question" "invariantCount" "I",
  Cond.fieldLink "FlushProofs$Question" 25 "FlushProofs$Question" "claimCount" "I",
  Cond.fieldLink "FlushProofs$Question" 9 "FlushProofs$Question" "invariants" "[I",
  Cond.fieldLink "FlushProofs$Search" 108 "FlushProofs$Search" "wordElementCount" "I",
  Cond.fieldLink "FlushProofs$Search" 111 "FlushProofs$Search" "wordCount" "I",
  Cond.fieldLink "FlushProofs$Search" 15 "FlushProofs$Search" "question" "LFlushProofs$Question;",
  Cond.fieldLink "FlushProofs$Search" 24 "FlushProofs$Search" "planes" "LFlushProofs$Planes;",
  Cond.fieldLink "FlushProofs$Search" 28 "FlushProofs$Search" "truths" "[I",
  Cond.fieldLink "FlushProofs$Search" 32 "FlushProofs$Search" "words" "[I",
  Cond.fieldLink "FlushProofs$Search" 35 "FlushProofs$Search" "values" "[I",
  Cond.fieldLink "FlushProofs$Search" 38 "FlushProofs$Search" "levels" "[I",
  Cond.fieldLink "FlushProofs$Search" 41 "FlushProofs$Search" "order" "[I",
  Cond.fieldLink "FlushProofs$Search" 44 "FlushProofs$Search" "starts" "[I",
  Cond.fieldLink "FlushProofs$Search" 47 "FlushProofs$Search" "leastValues" "[I",
  Cond.fieldLink "FlushProofs$Search" 50 "FlushProofs$Search" "leastIndex" "I",
  Cond.fieldLink "FlushProofs$Search" 54 "FlushProofs$Search" "leastClaim" "I",
  Cond.fieldLink "FlushProofs$Search" 74 "FlushProofs$Search" "truthCount" "I",
  Cond.fieldLink "FlushProofs$Search" 9 "FlushProofs$Search" "work" "LFlushProofs$Nodes;",
  Cond.fieldLink "FlushProofs" 12 "FlushProofs" "core" "LFlushProofs$Core;",
  Cond.fieldLink "FlushProofs" 19 "FlushProofs" "outcome" "LFlushProofs$Outcome;",
  Cond.fieldLink "FlushProofs" 26 "FlushProofs" "prover" "LFlushProofs$Prover;",
  Cond.initialized "FlushProofs$Nodes",
  Cond.instanceMethod ⟨"FlushProofs$Nodes", "reset", "()V"⟩,
  Cond.selects "FlushProofs$Nodes" ⟨"FlushProofs$Nodes", "reset", "()V"⟩ ⟨"FlushProofs$Nodes", "reset", "()V"⟩,
  Cond.methodLink "FlushProofs$Core" 20 ⟨"FlushProofs$Nodes", "reset", "()V"⟩,
  Cond.instanceMethod ⟨"FlushProofs$Nodes", "unmark", "([Z)V"⟩,
  Cond.selects "FlushProofs$Nodes" ⟨"FlushProofs$Nodes", "unmark", "([Z)V"⟩ ⟨"FlushProofs$Nodes", "unmark", "([Z)V"⟩,
  Cond.methodLink "FlushProofs$Core" 40 ⟨"FlushProofs$Nodes", "unmark", "([Z)V"⟩,
  Cond.instanceMethod ⟨"FlushProofs$Nodes", "mark", "([ZI)V"⟩,
  Cond.selects "FlushProofs$Nodes" ⟨"FlushProofs$Nodes", "mark", "([ZI)V"⟩ ⟨"FlushProofs$Nodes", "mark", "([ZI)V"⟩,
  Cond.methodLink "FlushProofs$Core" 44 ⟨"FlushProofs$Nodes", "mark", "([ZI)V"⟩,
  Cond.instanceMethod ⟨"FlushProofs$Nodes", "spread", "([Z)V"⟩,
  Cond.selects "FlushProofs$Nodes" ⟨"FlushProofs$Nodes", "spread", "([Z)V"⟩ ⟨"FlushProofs$Nodes", "spread", "([Z)V"⟩,
  Cond.methodLink "FlushProofs$Core" 48 ⟨"FlushProofs$Nodes", "spread", "([Z)V"⟩,
  Cond.instanceMethod ⟨"FlushProofs$Nodes", "makeElement", "(II)I"⟩,
  Cond.selects "FlushProofs$Nodes" ⟨"FlushProofs$Nodes", "makeElement", "(II)I"⟩ ⟨"FlushProofs$Nodes", "makeElement", "(II)I"⟩,
  Cond.methodLink "FlushProofs$Core" 55 ⟨"FlushProofs$Nodes", "makeElement", "(II)I"⟩,
  Cond.initialized "FlushProofsModel",
  Cond.instanceMethod ⟨"FlushProofsModel", "choice", "(III)I"⟩,
  Cond.selects "FlushProofsModel" ⟨"FlushProofsModel", "choice", "(III)I"⟩ ⟨"FlushProofsModel", "choice", "(III)I"⟩,
  Cond.methodLink "FlushProofsLaw" 100 ⟨"FlushProofsModel", "choice", "(III)I"⟩,
  Cond.instanceMethod ⟨"FlushProofsModel", "next", "(II)Z"⟩,
  Cond.selects "FlushProofsModel" ⟨"FlushProofsModel", "next", "(II)Z"⟩ ⟨"FlushProofsModel", "next", "(II)Z"⟩,
  Cond.methodLink "FlushProofsLaw" 103 ⟨"FlushProofsModel", "next", "(II)Z"⟩,
  Cond.instanceMethod ⟨"FlushProofsModel", "plain", "(II)Z"⟩,
  Cond.selects "FlushProofsModel" ⟨"FlushProofsModel", "plain", "(II)Z"⟩ ⟨"FlushProofsModel", "plain", "(II)Z"⟩,
  Cond.methodLink "FlushProofsLaw" 106 ⟨"FlushProofsModel", "plain", "(II)Z"⟩,
  Cond.instanceMethod ⟨"FlushProofsModel", "invariant", "(I)I"⟩,
  Cond.selects "FlushProofsModel" ⟨"FlushProofsModel", "invariant", "(I)I"⟩ ⟨"FlushProofsModel", "invariant", "(I)I"⟩,
  Cond.methodLink "FlushProofsLaw" 109 ⟨"FlushProofsModel", "invariant", "(I)I"⟩,
  Cond.instanceMethod ⟨"FlushProofsModel", "run", "(I)I"⟩,
  Cond.selects "FlushProofsModel" ⟨"FlushProofsModel", "run", "(I)I"⟩ ⟨"FlushProofsModel", "run", "(I)I"⟩,
  Cond.methodLink "FlushProofsLaw" 112 ⟨"FlushProofsModel", "run", "(I)I"⟩,
  Cond.instanceMethod ⟨"FlushProofsModel", "kept", "(I)I"⟩,
  Cond.selects "FlushProofsModel" ⟨"FlushProofsModel", "kept", "(I)I"⟩ ⟨"FlushProofsModel", "kept", "(I)I"⟩,
  Cond.methodLink "FlushProofsLaw" 115 ⟨"FlushProofsModel", "kept", "(I)I"⟩,
  Cond.instanceMethod ⟨"FlushProofsModel", "witness", "(I)I"⟩,
  Cond.selects "FlushProofsModel" ⟨"FlushProofsModel", "witness", "(I)I"⟩ ⟨"FlushProofsModel", "witness", "(I)I"⟩,
  Cond.methodLink "FlushProofsLaw" 118 ⟨"FlushProofsModel", "witness", "(I)I"⟩,
  Cond.instanceMethod ⟨"FlushProofsModel", "differs", "()I"⟩,
  Cond.selects "FlushProofsModel" ⟨"FlushProofsModel", "differs", "()I"⟩ ⟨"FlushProofsModel", "differs", "()I"⟩,
  Cond.methodLink "FlushProofsLaw" 121 ⟨"FlushProofsModel", "differs", "()I"⟩,
  Cond.instanceMethod ⟨"FlushProofsModel", "node", "(II)I"⟩,
  Cond.selects "FlushProofsModel" ⟨"FlushProofsModel", "node", "(II)I"⟩ ⟨"FlushProofsModel", "node", "(II)I"⟩,
  Cond.methodLink "FlushProofsLaw" 124 ⟨"FlushProofsModel", "node", "(II)I"⟩,
  Cond.initialized "FlushProofs",
  Cond.instanceMethod ⟨"FlushProofs", "count", "(I)I"⟩,
  Cond.selects "FlushProofs" ⟨"FlushProofs", "count", "(I)I"⟩ ⟨"FlushProofs", "count", "(I)I"⟩,
  Cond.methodLink "FlushProofsLaw" 125 ⟨"FlushProofs", "count", "(I)I"⟩,
  Cond.instanceMethod ⟨"FlushProofsModel", "count", "(I)I"⟩,
  Cond.selects "FlushProofsModel" ⟨"FlushProofsModel", "count", "(I)I"⟩ ⟨"FlushProofsModel", "count", "(I)I"⟩,
  Cond.methodLink "FlushProofsLaw" 128 ⟨"FlushProofsModel", "count", "(I)I"⟩,
  Cond.instanceMethod ⟨"FlushProofs", "truth", "()I"⟩,
  Cond.selects "FlushProofs" ⟨"FlushProofs", "truth", "()I"⟩ ⟨"FlushProofs", "truth", "()I"⟩,
  Cond.methodLink "FlushProofsLaw" 15 ⟨"FlushProofs", "truth", "()I"⟩,
  Cond.instanceMethod ⟨"FlushProofs", "apply", "(III)I"⟩,
  Cond.selects "FlushProofs" ⟨"FlushProofs", "apply", "(III)I"⟩ ⟨"FlushProofs", "apply", "(III)I"⟩,
  Cond.methodLink "FlushProofsLaw" 18 ⟨"FlushProofs", "apply", "(III)I"⟩,
  Cond.instanceMethod ⟨"FlushProofs", "equal", "(II)I"⟩,
  Cond.selects "FlushProofs" ⟨"FlushProofs", "equal", "(II)I"⟩ ⟨"FlushProofs", "equal", "(II)I"⟩,
  Cond.methodLink "FlushProofsLaw" 26 ⟨"FlushProofs", "equal", "(II)I"⟩,
  Cond.instanceMethod ⟨"FlushProofs", "not", "(I)I"⟩,
  Cond.selects "FlushProofs" ⟨"FlushProofs", "not", "(I)I"⟩ ⟨"FlushProofs", "not", "(I)I"⟩,
  Cond.methodLink "FlushProofsLaw" 30 ⟨"FlushProofs", "not", "(I)I"⟩,
  Cond.instanceMethod ⟨"FlushProofs", "both", "(II)I"⟩,
  Cond.selects "FlushProofs" ⟨"FlushProofs", "both", "(II)I"⟩ ⟨"FlushProofs", "both", "(II)I"⟩,
  Cond.methodLink "FlushProofsLaw" 34 ⟨"FlushProofs", "both", "(II)I"⟩,
  Cond.instanceMethod ⟨"FlushProofs", "choice", "(III)I"⟩,
  Cond.selects "FlushProofs" ⟨"FlushProofs", "choice", "(III)I"⟩ ⟨"FlushProofs", "choice", "(III)I"⟩,
  Cond.methodLink "FlushProofsLaw" 37 ⟨"FlushProofs", "choice", "(III)I"⟩,
  Cond.instanceMethod ⟨"FlushProofs", "next", "(II)Z"⟩,
  Cond.selects "FlushProofs" ⟨"FlushProofs", "next", "(II)Z"⟩ ⟨"FlushProofs", "next", "(II)Z"⟩,
  Cond.methodLink "FlushProofsLaw" 40 ⟨"FlushProofs", "next", "(II)Z"⟩,
  Cond.instanceMethod ⟨"FlushProofs", "plain", "(II)Z"⟩,
  Cond.selects "FlushProofs" ⟨"FlushProofs", "plain", "(II)Z"⟩ ⟨"FlushProofs", "plain", "(II)Z"⟩,
  Cond.methodLink "FlushProofsLaw" 44 ⟨"FlushProofs", "plain", "(II)Z"⟩,
  Cond.instanceMethod ⟨"FlushProofs", "invariant", "(I)I"⟩,
  Cond.selects "FlushProofs" ⟨"FlushProofs", "invariant", "(I)I"⟩ ⟨"FlushProofs", "invariant", "(I)I"⟩,
  Cond.methodLink "FlushProofsLaw" 47 ⟨"FlushProofs", "invariant", "(I)I"⟩,
  Cond.instanceMethod ⟨"FlushProofs", "run", "(I)I"⟩,
  Cond.selects "FlushProofs" ⟨"FlushProofs", "run", "(I)I"⟩ ⟨"FlushProofs", "run", "(I)I"⟩,
  Cond.methodLink "FlushProofsLaw" 52 ⟨"FlushProofs", "run", "(I)I"⟩,
  Cond.instanceMethod ⟨"FlushProofs", "kept", "(I)I"⟩,
  Cond.selects "FlushProofs" ⟨"FlushProofs", "kept", "(I)I"⟩ ⟨"FlushProofs", "kept", "(I)I"⟩,
  Cond.methodLink "FlushProofsLaw" 55 ⟨"FlushProofs", "kept", "(I)I"⟩,
  Cond.instanceMethod ⟨"FlushProofs", "witness", "(I)I"⟩,
  Cond.selects "FlushProofs" ⟨"FlushProofs", "witness", "(I)I"⟩ ⟨"FlushProofs", "witness", "(I)I"⟩,
  Cond.methodLink "FlushProofsLaw" 58 ⟨"FlushProofs", "witness", "(I)I"⟩,
  Cond.instanceMethod ⟨"FlushProofs", "differs", "()I"⟩,
  Cond.selects "FlushProofs" ⟨"FlushProofs", "differs", "()I"⟩ ⟨"FlushProofs", "differs", "()I"⟩,
  Cond.methodLink "FlushProofsLaw" 61 ⟨"FlushProofs", "differs", "()I"⟩,
  Cond.instanceMethod ⟨"FlushProofs", "node", "(II)I"⟩,
  Cond.selects "FlushProofs" ⟨"FlushProofs", "node", "(II)I"⟩ ⟨"FlushProofs", "node", "(II)I"⟩,
  Cond.methodLink "FlushProofsLaw" 64 ⟨"FlushProofs", "node", "(II)I"⟩,
  Cond.instanceMethod ⟨"FlushProofs", "word", "()I"⟩,
  Cond.selects "FlushProofs" ⟨"FlushProofs", "word", "()I"⟩ ⟨"FlushProofs", "word", "()I"⟩,
  Cond.methodLink "FlushProofsLaw" 7 ⟨"FlushProofs", "word", "()I"⟩,
  Cond.instanceMethod ⟨"FlushProofsModel", "word", "()I"⟩,
  Cond.selects "FlushProofsModel" ⟨"FlushProofsModel", "word", "()I"⟩ ⟨"FlushProofsModel", "word", "()I"⟩,
  Cond.methodLink "FlushProofsLaw" 76 ⟨"FlushProofsModel", "word", "()I"⟩,
  Cond.instanceMethod ⟨"FlushProofsModel", "thrown", "()I"⟩,
  Cond.selects "FlushProofsModel" ⟨"FlushProofsModel", "thrown", "()I"⟩ ⟨"FlushProofsModel", "thrown", "()I"⟩,
  Cond.methodLink "FlushProofsLaw" 77 ⟨"FlushProofsModel", "thrown", "()I"⟩,
  Cond.instanceMethod ⟨"FlushProofsModel", "truth", "()I"⟩,
  Cond.selects "FlushProofsModel" ⟨"FlushProofsModel", "truth", "()I"⟩ ⟨"FlushProofsModel", "truth", "()I"⟩,
  Cond.methodLink "FlushProofsLaw" 82 ⟨"FlushProofsModel", "truth", "()I"⟩,
  Cond.instanceMethod ⟨"FlushProofsModel", "apply", "(III)I"⟩,
  Cond.selects "FlushProofsModel" ⟨"FlushProofsModel", "apply", "(III)I"⟩ ⟨"FlushProofsModel", "apply", "(III)I"⟩,
  Cond.methodLink "FlushProofsLaw" 86 ⟨"FlushProofsModel", "apply", "(III)I"⟩,
  Cond.instanceMethod ⟨"FlushProofsModel", "equal", "(II)I"⟩,
  Cond.selects "FlushProofsModel" ⟨"FlushProofsModel", "equal", "(II)I"⟩ ⟨"FlushProofsModel", "equal", "(II)I"⟩,
  Cond.methodLink "FlushProofsLaw" 90 ⟨"FlushProofsModel", "equal", "(II)I"⟩,
  Cond.instanceMethod ⟨"FlushProofsModel", "not", "(I)I"⟩,
  Cond.selects "FlushProofsModel" ⟨"FlushProofsModel", "not", "(I)I"⟩ ⟨"FlushProofsModel", "not", "(I)I"⟩,
  Cond.methodLink "FlushProofsLaw" 94 ⟨"FlushProofsModel", "not", "(I)I"⟩,
  Cond.instanceMethod ⟨"FlushProofsModel", "both", "(II)I"⟩,
  Cond.selects "FlushProofsModel" ⟨"FlushProofsModel", "both", "(II)I"⟩ ⟨"FlushProofsModel", "both", "(II)I"⟩,
  Cond.methodLink "FlushProofsLaw" 97 ⟨"FlushProofsModel", "both", "(II)I"⟩,
  Cond.instanceMethod ⟨"FlushProofsModel", "add", "(IIII)I"⟩,
  Cond.selects "FlushProofsModel" ⟨"FlushProofsModel", "add", "(IIII)I"⟩ ⟨"FlushProofsModel", "add", "(IIII)I"⟩,
  Cond.methodLink "FlushProofsModel" 102 ⟨"FlushProofsModel", "add", "(IIII)I"⟩,
  Cond.instanceMethod ⟨"FlushProofsModel", "plainest", "(IIII)I"⟩,
  Cond.selects "FlushProofsModel" ⟨"FlushProofsModel", "plainest", "(IIII)I"⟩ ⟨"FlushProofsModel", "plainest", "(IIII)I"⟩,
  Cond.methodLink "FlushProofsModel" 105 ⟨"FlushProofsModel", "plainest", "(IIII)I"⟩,
  Cond.instanceMethod ⟨"FlushProofsModel", "get", "(IIII)I"⟩,
  Cond.selects "FlushProofsModel" ⟨"FlushProofsModel", "get", "(IIII)I"⟩ ⟨"FlushProofsModel", "get", "(IIII)I"⟩,
  Cond.methodLink "FlushProofsModel" 108 ⟨"FlushProofsModel", "get", "(IIII)I"⟩,
  Cond.instanceMethod ⟨"FlushProofsModel", "fail", "(I)I"⟩,
  Cond.selects "FlushProofsModel" ⟨"FlushProofsModel", "fail", "(I)I"⟩ ⟨"FlushProofsModel", "fail", "(I)I"⟩,
  Cond.methodLink "FlushProofsModel" 111 ⟨"FlushProofsModel", "fail", "(I)I"⟩,
  Cond.instanceMethod ⟨"FlushProofsModel", "addElement", "(I)I"⟩,
  Cond.selects "FlushProofsModel" ⟨"FlushProofsModel", "addElement", "(I)I"⟩ ⟨"FlushProofsModel", "addElement", "(I)I"⟩,
  Cond.methodLink "FlushProofsModel" 122 ⟨"FlushProofsModel", "addElement", "(I)I"⟩,
  Cond.instanceMethod ⟨"FlushProofsModel", "isNode", "(I)Z"⟩,
  Cond.selects "FlushProofsModel" ⟨"FlushProofsModel", "isNode", "(I)Z"⟩ ⟨"FlushProofsModel", "isNode", "(I)Z"⟩,
  Cond.methodLink "FlushProofsModel" 125 ⟨"FlushProofsModel", "isNode", "(I)Z"⟩,
  Cond.instanceMethod ⟨"FlushProofsModel", "isWord", "(I)Z"⟩,
  Cond.selects "FlushProofsModel" ⟨"FlushProofsModel", "isWord", "(I)Z"⟩ ⟨"FlushProofsModel", "isWord", "(I)Z"⟩,
  Cond.methodLink "FlushProofsModel" 129 ⟨"FlushProofsModel", "isWord", "(I)Z"⟩,
  Cond.instanceMethod ⟨"FlushProofsModel", "told", "(IIIII)I"⟩,
  Cond.selects "FlushProofsModel" ⟨"FlushProofsModel", "told", "(IIIII)I"⟩ ⟨"FlushProofsModel", "told", "(IIIII)I"⟩,
  Cond.methodLink "FlushProofsModel" 132 ⟨"FlushProofsModel", "told", "(IIIII)I"⟩,
  Cond.instanceMethod ⟨"FlushProofsModel", "isElement", "(I)Z"⟩,
  Cond.selects "FlushProofsModel" ⟨"FlushProofsModel", "isElement", "(I)Z"⟩ ⟨"FlushProofsModel", "isElement", "(I)Z"⟩,
  Cond.methodLink "FlushProofsModel" 136 ⟨"FlushProofsModel", "isElement", "(I)Z"⟩,
  Cond.instanceMethod ⟨"FlushProofsModel", "isOfSort", "(II)Z"⟩,
  Cond.selects "FlushProofsModel" ⟨"FlushProofsModel", "isOfSort", "(II)Z"⟩ ⟨"FlushProofsModel", "isOfSort", "(II)Z"⟩,
  Cond.methodLink "FlushProofsModel" 139 ⟨"FlushProofsModel", "isOfSort", "(II)Z"⟩,
  Cond.instanceMethod ⟨"FlushProofsModel", "mark", "(I)V"⟩,
  Cond.selects "FlushProofsModel" ⟨"FlushProofsModel", "mark", "(I)V"⟩ ⟨"FlushProofsModel", "mark", "(I)V"⟩,
  Cond.methodLink "FlushProofsModel" 143 ⟨"FlushProofsModel", "mark", "(I)V"⟩,
  Cond.instanceMethod ⟨"FlushProofsModel", "unmark", "()V"⟩,
  Cond.selects "FlushProofsModel" ⟨"FlushProofsModel", "unmark", "()V"⟩ ⟨"FlushProofsModel", "unmark", "()V"⟩,
  Cond.methodLink "FlushProofsModel" 146 ⟨"FlushProofsModel", "unmark", "()V"⟩,
  Cond.instanceMethod ⟨"FlushProofsModel", "markParts", "()V"⟩,
  Cond.selects "FlushProofsModel" ⟨"FlushProofsModel", "markParts", "()V"⟩ ⟨"FlushProofsModel", "markParts", "()V"⟩,
  Cond.methodLink "FlushProofsModel" 149 ⟨"FlushProofsModel", "markParts", "()V"⟩,
  Cond.instanceMethod ⟨"FlushProofsModel", "hasFetch", "(I)Z"⟩,
  Cond.selects "FlushProofsModel" ⟨"FlushProofsModel", "hasFetch", "(I)Z"⟩ ⟨"FlushProofsModel", "hasFetch", "(I)Z"⟩,
  Cond.methodLink "FlushProofsModel" 152 ⟨"FlushProofsModel", "hasFetch", "(I)Z"⟩,
  Cond.instanceMethod ⟨"FlushProofsModel", "make", "(IIII)I"⟩,
  Cond.selects "FlushProofsModel" ⟨"FlushProofsModel", "make", "(IIII)I"⟩ ⟨"FlushProofsModel", "make", "(IIII)I"⟩,
  Cond.methodLink "FlushProofsModel" 158 ⟨"FlushProofsModel", "make", "(IIII)I"⟩,
  Cond.instanceMethod ⟨"FlushProofsModel", "putIn", "(I)V"⟩,
  Cond.selects "FlushProofsModel" ⟨"FlushProofsModel", "putIn", "(I)V"⟩ ⟨"FlushProofsModel", "putIn", "(I)V"⟩,
  Cond.methodLink "FlushProofsModel" 161 ⟨"FlushProofsModel", "putIn", "(I)V"⟩,
  Cond.instanceMethod ⟨"FlushProofsModel", "work", "()V"⟩,
  Cond.selects "FlushProofsModel" ⟨"FlushProofsModel", "work", "()V"⟩ ⟨"FlushProofsModel", "work", "()V"⟩,
  Cond.methodLink "FlushProofsModel" 179 ⟨"FlushProofsModel", "work", "()V"⟩,
  Cond.instanceMethod ⟨"FlushProofsModel", "areFunctions", "()Z"⟩,
  Cond.selects "FlushProofsModel" ⟨"FlushProofsModel", "areFunctions", "()Z"⟩ ⟨"FlushProofsModel", "areFunctions", "()Z"⟩,
  Cond.methodLink "FlushProofsModel" 182 ⟨"FlushProofsModel", "areFunctions", "()Z"⟩,
  Cond.instanceMethod ⟨"FlushProofsModel", "failing", "(I)I"⟩,
  Cond.selects "FlushProofsModel" ⟨"FlushProofsModel", "failing", "(I)I"⟩ ⟨"FlushProofsModel", "failing", "(I)I"⟩,
  Cond.methodLink "FlushProofsModel" 186 ⟨"FlushProofsModel", "failing", "(I)I"⟩,
  Cond.instanceMethod ⟨"FlushProofsModel", "goesOn", "(II)Z"⟩,
  Cond.selects "FlushProofsModel" ⟨"FlushProofsModel", "goesOn", "(II)Z"⟩ ⟨"FlushProofsModel", "goesOn", "(II)Z"⟩,
  Cond.methodLink "FlushProofsModel" 189 ⟨"FlushProofsModel", "goesOn", "(II)Z"⟩,
  Cond.instanceMethod ⟨"FlushProofsModel", "gather", "()V"⟩,
  Cond.selects "FlushProofsModel" ⟨"FlushProofsModel", "gather", "()V"⟩ ⟨"FlushProofsModel", "gather", "()V"⟩,
  Cond.methodLink "FlushProofsModel" 205 ⟨"FlushProofsModel", "gather", "()V"⟩,
  Cond.instanceMethod ⟨"FlushProofsModel", "failsWith", "(I)I"⟩,
  Cond.selects "FlushProofsModel" ⟨"FlushProofsModel", "failsWith", "(I)I"⟩ ⟨"FlushProofsModel", "failsWith", "(I)I"⟩,
  Cond.methodLink "FlushProofsModel" 208 ⟨"FlushProofsModel", "failsWith", "(I)I"⟩,
  Cond.instanceMethod ⟨"FlushProofsModel", "keepState", "(I)V"⟩,
  Cond.selects "FlushProofsModel" ⟨"FlushProofsModel", "keepState", "(I)V"⟩ ⟨"FlushProofsModel", "keepState", "(I)V"⟩,
  Cond.methodLink "FlushProofsModel" 211 ⟨"FlushProofsModel", "keepState", "(I)V"⟩,
  Cond.instanceMethod ⟨"FlushProofsModel", "beginState", "()V"⟩,
  Cond.selects "FlushProofsModel" ⟨"FlushProofsModel", "beginState", "()V"⟩ ⟨"FlushProofsModel", "beginState", "()V"⟩,
  Cond.methodLink "FlushProofsModel" 214 ⟨"FlushProofsModel", "beginState", "()V"⟩,
  Cond.instanceMethod ⟨"FlushProofsModel", "step", "(I)V"⟩,
  Cond.selects "FlushProofsModel" ⟨"FlushProofsModel", "step", "(I)V"⟩ ⟨"FlushProofsModel", "step", "(I)V"⟩,
  Cond.methodLink "FlushProofsModel" 217 ⟨"FlushProofsModel", "step", "(I)V"⟩,
  Cond.instanceMethod ⟨"FlushProofsModel", "ask", "(I)I"⟩,
  Cond.selects "FlushProofsModel" ⟨"FlushProofsModel", "ask", "(I)I"⟩ ⟨"FlushProofsModel", "ask", "(I)I"⟩,
  Cond.methodLink "FlushProofsModel" 220 ⟨"FlushProofsModel", "ask", "(I)I"⟩,
  Cond.instanceMethod ⟨"FlushProofsModel", "begin", "()V"⟩,
  Cond.selects "FlushProofsModel" ⟨"FlushProofsModel", "begin", "()V"⟩ ⟨"FlushProofsModel", "begin", "()V"⟩,
  Cond.methodLink "FlushProofsModel" 84 ⟨"FlushProofsModel", "begin", "()V"⟩,
  Cond.instanceMethod ⟨"FlushProofsModel", "link", "(I)V"⟩,
  Cond.selects "FlushProofsModel" ⟨"FlushProofsModel", "link", "(I)V"⟩ ⟨"FlushProofsModel", "link", "(I)V"⟩,
  Cond.methodLink "FlushProofsModel" 95 ⟨"FlushProofsModel", "link", "(I)V"⟩,
  Cond.instanceMethod ⟨"FlushProofsModel", "find", "(IIII)I"⟩,
  Cond.selects "FlushProofsModel" ⟨"FlushProofsModel", "find", "(IIII)I"⟩ ⟨"FlushProofsModel", "find", "(IIII)I"⟩,
  Cond.methodLink "FlushProofsModel" 99 ⟨"FlushProofsModel", "find", "(IIII)I"⟩,
  Cond.instanceMethod ⟨"FlushProofs$Nodes", "put", "(IIII)I"⟩,
  Cond.selects "FlushProofs$Nodes" ⟨"FlushProofs$Nodes", "put", "(IIII)I"⟩ ⟨"FlushProofs$Nodes", "put", "(IIII)I"⟩,
  Cond.methodLink "FlushProofs$Nodes" 44 ⟨"FlushProofs$Nodes", "put", "(IIII)I"⟩,
  Cond.instanceMethod ⟨"FlushProofs$Nodes", "has", "(I)Z"⟩,
  Cond.selects "FlushProofs$Nodes" ⟨"FlushProofs$Nodes", "has", "(I)Z"⟩ ⟨"FlushProofs$Nodes", "has", "(I)Z"⟩,
  Cond.methodLink "FlushProofs$Nodes" 57 ⟨"FlushProofs$Nodes", "has", "(I)Z"⟩,
  Cond.instanceMethod ⟨"FlushProofs$Nodes", "isWord", "(I)Z"⟩,
  Cond.selects "FlushProofs$Nodes" ⟨"FlushProofs$Nodes", "isWord", "(I)Z"⟩ ⟨"FlushProofs$Nodes", "isWord", "(I)Z"⟩,
  Cond.methodLink "FlushProofs$Nodes" 61 ⟨"FlushProofs$Nodes", "isWord", "(I)Z"⟩,
  Cond.instanceMethod ⟨"FlushProofs$Nodes", "makeEquality", "(II)I"⟩,
  Cond.selects "FlushProofs$Nodes" ⟨"FlushProofs$Nodes", "makeEquality", "(II)I"⟩ ⟨"FlushProofs$Nodes", "makeEquality", "(II)I"⟩,
  Cond.methodLink "FlushProofs$Nodes" 64 ⟨"FlushProofs$Nodes", "makeEquality", "(II)I"⟩,
  Cond.instanceMethod ⟨"FlushProofs$Nodes", "makeNot", "(I)I"⟩,
  Cond.selects "FlushProofs$Nodes" ⟨"FlushProofs$Nodes", "makeNot", "(I)I"⟩ ⟨"FlushProofs$Nodes", "makeNot", "(I)I"⟩,
  Cond.methodLink "FlushProofs$Nodes" 67 ⟨"FlushProofs$Nodes", "makeNot", "(I)I"⟩,
  Cond.instanceMethod ⟨"FlushProofs$Nodes", "makeChoice", "(III)I"⟩,
  Cond.selects "FlushProofs$Nodes" ⟨"FlushProofs$Nodes", "makeChoice", "(III)I"⟩ ⟨"FlushProofs$Nodes", "makeChoice", "(III)I"⟩,
  Cond.methodLink "FlushProofs$Nodes" 71 ⟨"FlushProofs$Nodes", "makeChoice", "(III)I"⟩,
  Cond.instanceMethod ⟨"FlushProofs$Nodes", "makeApplication", "(III)I"⟩,
  Cond.selects "FlushProofs$Nodes" ⟨"FlushProofs$Nodes", "makeApplication", "(III)I"⟩ ⟨"FlushProofs$Nodes", "makeApplication", "(III)I"⟩,
  Cond.methodLink "FlushProofs$Nodes" 79 ⟨"FlushProofs$Nodes", "makeApplication", "(III)I"⟩,
  Cond.instanceMethod ⟨"FlushProofs$Nodes", "makeBoth", "(II)I"⟩,
  Cond.selects "FlushProofs$Nodes" ⟨"FlushProofs$Nodes", "makeBoth", "(II)I"⟩ ⟨"FlushProofs$Nodes", "makeBoth", "(II)I"⟩,
  Cond.methodLink "FlushProofs$Nodes" 82 ⟨"FlushProofs$Nodes", "makeBoth", "(II)I"⟩,
  Cond.methodLink "FlushProofs$Nodes" 85 ⟨"FlushProofs$Nodes", "mark", "([ZI)V"⟩,
  Cond.initialized "FlushProofs$Planes",
  Cond.instanceMethod ⟨"FlushProofs$Planes", "same", "(II)J"⟩,
  Cond.selects "FlushProofs$Planes" ⟨"FlushProofs$Planes", "same", "(II)J"⟩ ⟨"FlushProofs$Planes", "same", "(II)J"⟩,
  Cond.methodLink "FlushProofs$Planes" 39 ⟨"FlushProofs$Planes", "same", "(II)J"⟩,
  Cond.instanceMethod ⟨"FlushProofs$Planes", "choose", "(IJII)V"⟩,
  Cond.selects "FlushProofs$Planes" ⟨"FlushProofs$Planes", "choose", "(IJII)V"⟩ ⟨"FlushProofs$Planes", "choose", "(IJII)V"⟩,
  Cond.methodLink "FlushProofs$Planes" 46 ⟨"FlushProofs$Planes", "choose", "(IJII)V"⟩,
  Cond.methodLink "FlushProofs$Prover" 106 ⟨"FlushProofs$Nodes", "makeNot", "(I)I"⟩,
  Cond.methodLink "FlushProofs$Prover" 110 ⟨"FlushProofs$Nodes", "reset", "()V"⟩,
  Cond.initialized "FlushProofs$Question",
  Cond.instanceMethod ⟨"FlushProofs$Question", "begin", "()V"⟩,
  Cond.selects "FlushProofs$Question" ⟨"FlushProofs$Question", "begin", "()V"⟩ ⟨"FlushProofs$Question", "begin", "()V"⟩,
  Cond.methodLink "FlushProofs$Prover" 113 ⟨"FlushProofs$Question", "begin", "()V"⟩,
  Cond.methodLink "FlushProofs$Prover" 118 ⟨"FlushProofs$Nodes", "isWord", "(I)Z"⟩,
  Cond.methodLink "FlushProofs$Prover" 122 ⟨"FlushProofs$Nodes", "makeElement", "(II)I"⟩,
  Cond.instanceMethod ⟨"FlushProofs$Question", "addInvariant", "(I)V"⟩,
  Cond.selects "FlushProofs$Question" ⟨"FlushProofs$Question", "addInvariant", "(I)V"⟩ ⟨"FlushProofs$Question", "addInvariant", "(I)V"⟩,
  Cond.methodLink "FlushProofs$Prover" 128 ⟨"FlushProofs$Question", "addInvariant", "(I)V"⟩,
  Cond.initialized "FlushProofs$Prover",
  Cond.instanceMethod ⟨"FlushProofs$Prover", "takeImages", "(LFlushProofs$Core;[I[I)V"⟩,
  Cond.selects "FlushProofs$Prover" ⟨"FlushProofs$Prover", "takeImages", "(LFlushProofs$Core;[I[I)V"⟩ ⟨"FlushProofs$Prover", "takeImages", "(LFlushProofs$Core;[I[I)V"⟩,
  Cond.methodLink "FlushProofs$Prover" 135 ⟨"FlushProofs$Prover", "takeImages", "(LFlushProofs$Core;[I[I)V"⟩,
  Cond.methodLink "FlushProofs$Prover" 139 ⟨"FlushProofs$Nodes", "unmark", "([Z)V"⟩,
  Cond.methodLink "FlushProofs$Prover" 145 ⟨"FlushProofs$Nodes", "spread", "([Z)V"⟩,
  Cond.initialized "FlushProofs$Outcome",
  Cond.instanceMethod ⟨"FlushProofs$Outcome", "isTooLarge", "()Z"⟩,
  Cond.selects "FlushProofs$Outcome" ⟨"FlushProofs$Outcome", "isTooLarge", "()Z"⟩ ⟨"FlushProofs$Outcome", "isTooLarge", "()Z"⟩,
  Cond.methodLink "FlushProofs$Prover" 160 ⟨"FlushProofs$Outcome", "isTooLarge", "()Z"⟩,
  Cond.instanceMethod ⟨"FlushProofs$Prover", "markNeeded", "()V"⟩,
  Cond.selects "FlushProofs$Prover" ⟨"FlushProofs$Prover", "markNeeded", "()V"⟩ ⟨"FlushProofs$Prover", "markNeeded", "()V"⟩,
  Cond.methodLink "FlushProofs$Prover" 170 ⟨"FlushProofs$Prover", "markNeeded", "()V"⟩,
  Cond.initialized "FlushProofs$Search",
  Cond.instanceMethod ⟨"FlushProofs$Search", "findLeast", "([Z)Z"⟩,
  Cond.selects "FlushProofs$Search" ⟨"FlushProofs$Search", "findLeast", "([Z)Z"⟩ ⟨"FlushProofs$Search", "findLeast", "([Z)Z"⟩,
  Cond.methodLink "FlushProofs$Prover" 173 ⟨"FlushProofs$Search", "findLeast", "([Z)Z"⟩,
  Cond.instanceMethod ⟨"FlushProofs$Search", "tell", "(LFlushProofs$Outcome;)V"⟩,
  Cond.selects "FlushProofs$Search" ⟨"FlushProofs$Search", "tell", "(LFlushProofs$Outcome;)V"⟩ ⟨"FlushProofs$Search", "tell", "(LFlushProofs$Outcome;)V"⟩,
  Cond.methodLink "FlushProofs$Prover" 177 ⟨"FlushProofs$Search", "tell", "(LFlushProofs$Outcome;)V"⟩,
  Cond.instanceMethod ⟨"FlushProofs$Outcome", "begin", "(II)V"⟩,
  Cond.selects "FlushProofs$Outcome" ⟨"FlushProofs$Outcome", "begin", "(II)V"⟩ ⟨"FlushProofs$Outcome", "begin", "(II)V"⟩,
  Cond.methodLink "FlushProofs$Prover" 56 ⟨"FlushProofs$Outcome", "begin", "(II)V"⟩,
  Cond.instanceMethod ⟨"FlushProofs$Prover", "begin", "(LFlushProofs$Core;)V"⟩,
  Cond.selects "FlushProofs$Prover" ⟨"FlushProofs$Prover", "begin", "(LFlushProofs$Core;)V"⟩ ⟨"FlushProofs$Prover", "begin", "(LFlushProofs$Core;)V"⟩,
  Cond.methodLink "FlushProofs$Prover" 61 ⟨"FlushProofs$Prover", "begin", "(LFlushProofs$Core;)V"⟩,
  Cond.instanceMethod ⟨"FlushProofs$Prover", "step", "(LFlushProofs$Core;[II)V"⟩,
  Cond.selects "FlushProofs$Prover" ⟨"FlushProofs$Prover", "step", "(LFlushProofs$Core;[II)V"⟩ ⟨"FlushProofs$Prover", "step", "(LFlushProofs$Core;[II)V"⟩,
  Cond.methodLink "FlushProofs$Prover" 64 ⟨"FlushProofs$Prover", "step", "(LFlushProofs$Core;[II)V"⟩,
  Cond.instanceMethod ⟨"FlushProofs$Prover", "plainStep", "(LFlushProofs$Core;[I)V"⟩,
  Cond.selects "FlushProofs$Prover" ⟨"FlushProofs$Prover", "plainStep", "(LFlushProofs$Core;[I)V"⟩ ⟨"FlushProofs$Prover", "plainStep", "(LFlushProofs$Core;[I)V"⟩,
  Cond.methodLink "FlushProofs$Prover" 68 ⟨"FlushProofs$Prover", "plainStep", "(LFlushProofs$Core;[I)V"⟩,
  Cond.instanceMethod ⟨"FlushProofs$Prover", "markInvariants", "()V"⟩,
  Cond.selects "FlushProofs$Prover" ⟨"FlushProofs$Prover", "markInvariants", "()V"⟩ ⟨"FlushProofs$Prover", "markInvariants", "()V"⟩,
  Cond.methodLink "FlushProofs$Prover" 72 ⟨"FlushProofs$Prover", "markInvariants", "()V"⟩,
  Cond.methodLink "FlushProofs$Prover" 78 ⟨"FlushProofs$Nodes", "mark", "([ZI)V"⟩,
  Cond.instanceMethod ⟨"FlushProofs$Prover", "countDeep", "(LFlushProofs$Outcome;)V"⟩,
  Cond.selects "FlushProofs$Prover" ⟨"FlushProofs$Prover", "countDeep", "(LFlushProofs$Outcome;)V"⟩ ⟨"FlushProofs$Prover", "countDeep", "(LFlushProofs$Outcome;)V"⟩,
  Cond.methodLink "FlushProofs$Prover" 82 ⟨"FlushProofs$Prover", "countDeep", "(LFlushProofs$Outcome;)V"⟩,
  Cond.instanceMethod ⟨"FlushProofs$Nodes", "makeDifference", "(II)I"⟩,
  Cond.selects "FlushProofs$Nodes" ⟨"FlushProofs$Nodes", "makeDifference", "(II)I"⟩ ⟨"FlushProofs$Nodes", "makeDifference", "(II)I"⟩,
  Cond.methodLink "FlushProofs$Prover" 86 ⟨"FlushProofs$Nodes", "makeDifference", "(II)I"⟩,
  Cond.instanceMethod ⟨"FlushProofs$Question", "addClaim", "(II)V"⟩,
  Cond.selects "FlushProofs$Question" ⟨"FlushProofs$Question", "addClaim", "(II)V"⟩ ⟨"FlushProofs$Question", "addClaim", "(II)V"⟩,
  Cond.methodLink "FlushProofs$Prover" 90 ⟨"FlushProofs$Question", "addClaim", "(II)V"⟩,
  Cond.instanceMethod ⟨"FlushProofs$Prover", "putIn", "(LFlushProofs$Core;[II)V"⟩,
  Cond.selects "FlushProofs$Prover" ⟨"FlushProofs$Prover", "putIn", "(LFlushProofs$Core;[II)V"⟩ ⟨"FlushProofs$Prover", "putIn", "(LFlushProofs$Core;[II)V"⟩,
  Cond.methodLink "FlushProofs$Prover" 93 ⟨"FlushProofs$Prover", "putIn", "(LFlushProofs$Core;[II)V"⟩,
  Cond.instanceMethod ⟨"FlushProofs$Nodes", "remakeAll", "(LFlushProofs$Nodes;[I)V"⟩,
  Cond.selects "FlushProofs$Nodes" ⟨"FlushProofs$Nodes", "remakeAll", "(LFlushProofs$Nodes;[I)V"⟩ ⟨"FlushProofs$Nodes", "remakeAll", "(LFlushProofs$Nodes;[I)V"⟩,
  Cond.methodLink "FlushProofs$Prover" 99 ⟨"FlushProofs$Nodes", "remakeAll", "(LFlushProofs$Nodes;[I)V"⟩,
  Cond.instanceMethod ⟨"FlushProofs$Search", "collectNode", "(II)V"⟩,
  Cond.selects "FlushProofs$Search" ⟨"FlushProofs$Search", "collectNode", "(II)V"⟩ ⟨"FlushProofs$Search", "collectNode", "(II)V"⟩,
  Cond.methodLink "FlushProofs$Search" 120 ⟨"FlushProofs$Search", "collectNode", "(II)V"⟩,
  Cond.instanceMethod ⟨"FlushProofs$Search", "addTruth", "(I)V"⟩,
  Cond.selects "FlushProofs$Search" ⟨"FlushProofs$Search", "addTruth", "(I)V"⟩ ⟨"FlushProofs$Search", "addTruth", "(I)V"⟩,
  Cond.methodLink "FlushProofs$Search" 124 ⟨"FlushProofs$Search", "addTruth", "(I)V"⟩,
  Cond.instanceMethod ⟨"FlushProofs$Search", "addWord", "(I)V"⟩,
  Cond.selects "FlushProofs$Search" ⟨"FlushProofs$Search", "addWord", "(I)V"⟩ ⟨"FlushProofs$Search", "addWord", "(I)V"⟩,
  Cond.methodLink "FlushProofs$Search" 127 ⟨"FlushProofs$Search", "addWord", "(I)V"⟩,
  Cond.instanceMethod ⟨"FlushProofs$Search", "levelOfParts", "(I)I"⟩,
  Cond.selects "FlushProofs$Search" ⟨"FlushProofs$Search", "levelOfParts", "(I)I"⟩ ⟨"FlushProofs$Search", "levelOfParts", "(I)I"⟩,
  Cond.methodLink "FlushProofs$Search" 130 ⟨"FlushProofs$Search", "levelOfParts", "(I)I"⟩,
  Cond.instanceMethod ⟨"FlushProofs$Search", "levelOf", "(I)I"⟩,
  Cond.selects "FlushProofs$Search" ⟨"FlushProofs$Search", "levelOf", "(I)I"⟩ ⟨"FlushProofs$Search", "levelOf", "(I)I"⟩,
  Cond.methodLink "FlushProofs$Search" 134 ⟨"FlushProofs$Search", "levelOf", "(I)I"⟩,
  Cond.instanceMethod ⟨"FlushProofs$Planes", "setTruth", "(IJ)V"⟩,
  Cond.selects "FlushProofs$Planes" ⟨"FlushProofs$Planes", "setTruth", "(IJ)V"⟩ ⟨"FlushProofs$Planes", "setTruth", "(IJ)V"⟩,
  Cond.methodLink "FlushProofs$Search" 155 ⟨"FlushProofs$Planes", "setTruth", "(IJ)V"⟩,
  Cond.instanceMethod ⟨"FlushProofs$Planes", "reckon", "(I)V"⟩,
  Cond.selects "FlushProofs$Planes" ⟨"FlushProofs$Planes", "reckon", "(I)V"⟩ ⟨"FlushProofs$Planes", "reckon", "(I)V"⟩,
  Cond.methodLink "FlushProofs$Search" 165 ⟨"FlushProofs$Planes", "reckon", "(I)V"⟩,
  Cond.instanceMethod ⟨"FlushProofs$Planes", "truthOf", "(I)J"⟩,
  Cond.selects "FlushProofs$Planes" ⟨"FlushProofs$Planes", "truthOf", "(I)J"⟩ ⟨"FlushProofs$Planes", "truthOf", "(I)J"⟩,
  Cond.methodLink "FlushProofs$Search" 174 ⟨"FlushProofs$Planes", "truthOf", "(I)J"⟩,
  Cond.instanceMethod ⟨"FlushProofs$Search", "look", "(J)V"⟩,
  Cond.selects "FlushProofs$Search" ⟨"FlushProofs$Search", "look", "(J)V"⟩ ⟨"FlushProofs$Search", "look", "(J)V"⟩,
  Cond.methodLink "FlushProofs$Search" 177 ⟨"FlushProofs$Search", "look", "(J)V"⟩,
  Cond.instanceMethod ⟨"FlushProofs$Search", "statesOfUse", "(I)J"⟩,
  Cond.selects "FlushProofs$Search" ⟨"FlushProofs$Search", "statesOfUse", "(I)J"⟩ ⟨"FlushProofs$Search", "statesOfUse", "(I)J"⟩,
  Cond.methodLink "FlushProofs$Search" 181 ⟨"FlushProofs$Search", "statesOfUse", "(I)J"⟩,
  Cond.instanceMethod ⟨"FlushProofs$Search", "withFunctions", "(IIJ)J"⟩,
  Cond.selects "FlushProofs$Search" ⟨"FlushProofs$Search", "withFunctions", "(IIJ)J"⟩ ⟨"FlushProofs$Search", "withFunctions", "(IIJ)J"⟩,
  Cond.methodLink "FlushProofs$Search" 184 ⟨"FlushProofs$Search", "withFunctions", "(IIJ)J"⟩,
  Cond.instanceMethod ⟨"FlushProofs$Planes", "setWord", "(II)V"⟩,
  Cond.selects "FlushProofs$Planes" ⟨"FlushProofs$Planes", "setWord", "(II)V"⟩ ⟨"FlushProofs$Planes", "setWord", "(II)V"⟩,
  Cond.methodLink "FlushProofs$Search" 188 ⟨"FlushProofs$Planes", "setWord", "(II)V"⟩,
  Cond.instanceMethod ⟨"FlushProofs$Search", "sameArguments", "(II)J"⟩,
  Cond.selects "FlushProofs$Search" ⟨"FlushProofs$Search", "sameArguments", "(II)J"⟩ ⟨"FlushProofs$Search", "sameArguments", "(II)J"⟩,
  Cond.methodLink "FlushProofs$Search" 191 ⟨"FlushProofs$Search", "sameArguments", "(II)J"⟩,
  Cond.methodLink "FlushProofs$Search" 195 ⟨"FlushProofs$Planes", "same", "(II)J"⟩,
  Cond.instanceMethod ⟨"FlushProofs$Search", "lowestClaim", "(I)I"⟩,
  Cond.selects "FlushProofs$Search" ⟨"FlushProofs$Search", "lowestClaim", "(I)I"⟩ ⟨"FlushProofs$Search", "lowestClaim", "(I)I"⟩,
  Cond.methodLink "FlushProofs$Search" 210 ⟨"FlushProofs$Search", "lowestClaim", "(I)I"⟩,
  Cond.instanceMethod ⟨"FlushProofs$Search", "collect", "([Z)V"⟩,
  Cond.selects "FlushProofs$Search" ⟨"FlushProofs$Search", "collect", "([Z)V"⟩ ⟨"FlushProofs$Search", "collect", "([Z)V"⟩,
  Cond.methodLink "FlushProofs$Search" 57 ⟨"FlushProofs$Search", "collect", "([Z)V"⟩,
  Cond.instanceMethod ⟨"FlushProofs$Search", "setLevels", "([Z)V"⟩,
  Cond.selects "FlushProofs$Search" ⟨"FlushProofs$Search", "setLevels", "([Z)V"⟩ ⟨"FlushProofs$Search", "setLevels", "([Z)V"⟩,
  Cond.methodLink "FlushProofs$Search" 61 ⟨"FlushProofs$Search", "setLevels", "([Z)V"⟩,
  Cond.instanceMethod ⟨"FlushProofs$Search", "arrange", "([Z)V"⟩,
  Cond.selects "FlushProofs$Search" ⟨"FlushProofs$Search", "arrange", "([Z)V"⟩ ⟨"FlushProofs$Search", "arrange", "([Z)V"⟩,
  Cond.methodLink "FlushProofs$Search" 64 ⟨"FlushProofs$Search", "arrange", "([Z)V"⟩,
  Cond.instanceMethod ⟨"FlushProofs$Search", "setTruths", "()V"⟩,
  Cond.selects "FlushProofs$Search" ⟨"FlushProofs$Search", "setTruths", "()V"⟩ ⟨"FlushProofs$Search", "setTruths", "()V"⟩,
  Cond.methodLink "FlushProofs$Search" 67 ⟨"FlushProofs$Search", "setTruths", "()V"⟩,
  Cond.instanceMethod ⟨"FlushProofs$Search", "reckonLevel", "(I)V"⟩,
  Cond.selects "FlushProofs$Search" ⟨"FlushProofs$Search", "reckonLevel", "(I)V"⟩ ⟨"FlushProofs$Search", "reckonLevel", "(I)V"⟩,
  Cond.methodLink "FlushProofs$Search" 70 ⟨"FlushProofs$Search", "reckonLevel", "(I)V"⟩,
  Cond.instanceMethod ⟨"FlushProofs$Search", "withInvariants", "(IJ)J"⟩,
  Cond.selects "FlushProofs$Search" ⟨"FlushProofs$Search", "withInvariants", "(IJ)J"⟩ ⟨"FlushProofs$Search", "withInvariants", "(IJ)J"⟩,
  Cond.methodLink "FlushProofs$Search" 81 ⟨"FlushProofs$Search", "withInvariants", "(IJ)J"⟩,
  Cond.instanceMethod ⟨"FlushProofs$Search", "giveNumbers", "(IIJ)V"⟩,
  Cond.selects "FlushProofs$Search" ⟨"FlushProofs$Search", "giveNumbers", "(IIJ)V"⟩ ⟨"FlushProofs$Search", "giveNumbers", "(IIJ)V"⟩,
  Cond.methodLink "FlushProofs$Search" 85 ⟨"FlushProofs$Search", "giveNumbers", "(IIJ)V"⟩,
  Cond.initialized "FlushProofs$Core",
  Cond.instanceMethod ⟨"FlushProofs$Core", "addInvariant", "(I)I"⟩,
  Cond.selects "FlushProofs$Core" ⟨"FlushProofs$Core", "addInvariant", "(I)I"⟩ ⟨"FlushProofs$Core", "addInvariant", "(I)I"⟩,
  Cond.methodLink "FlushProofs" 110 ⟨"FlushProofs$Core", "addInvariant", "(I)I"⟩,
  Cond.instanceMethod ⟨"FlushProofs$Prover", "askEquation", "(LFlushProofs$Core;ILFlushProofs$Outcome;)V"⟩,
  Cond.selects "FlushProofs$Prover" ⟨"FlushProofs$Prover", "askEquation", "(LFlushProofs$Core;ILFlushProofs$Outcome;)V"⟩ ⟨"FlushProofs$Prover", "askEquation", "(LFlushProofs$Core;ILFlushProofs$Outcome;)V"⟩,
  Cond.methodLink "FlushProofs" 115 ⟨"FlushProofs$Prover", "askEquation", "(LFlushProofs$Core;ILFlushProofs$Outcome;)V"⟩,
  Cond.instanceMethod ⟨"FlushProofs$Prover", "decide", "(LFlushProofs$Outcome;)V"⟩,
  Cond.selects "FlushProofs$Prover" ⟨"FlushProofs$Prover", "decide", "(LFlushProofs$Outcome;)V"⟩ ⟨"FlushProofs$Prover", "decide", "(LFlushProofs$Outcome;)V"⟩,
  Cond.methodLink "FlushProofs" 119 ⟨"FlushProofs$Prover", "decide", "(LFlushProofs$Outcome;)V"⟩,
  Cond.instanceMethod ⟨"FlushProofs$Prover", "askKept", "(LFlushProofs$Core;ILFlushProofs$Outcome;)V"⟩,
  Cond.selects "FlushProofs$Prover" ⟨"FlushProofs$Prover", "askKept", "(LFlushProofs$Core;ILFlushProofs$Outcome;)V"⟩ ⟨"FlushProofs$Prover", "askKept", "(LFlushProofs$Core;ILFlushProofs$Outcome;)V"⟩,
  Cond.methodLink "FlushProofs" 131 ⟨"FlushProofs$Prover", "askKept", "(LFlushProofs$Core;ILFlushProofs$Outcome;)V"⟩,
  Cond.instanceMethod ⟨"FlushProofs", "requireFailure", "()V"⟩,
  Cond.selects "FlushProofs" ⟨"FlushProofs", "requireFailure", "()V"⟩ ⟨"FlushProofs", "requireFailure", "()V"⟩,
  Cond.methodLink "FlushProofs" 134 ⟨"FlushProofs", "requireFailure", "()V"⟩,
  Cond.methodLink "FlushProofs" 183 ⟨"FlushProofs$Nodes", "has", "(I)Z"⟩,
  Cond.methodLink "FlushProofs" 191 ⟨"FlushProofs$Nodes", "isWord", "(I)Z"⟩,
  Cond.instanceMethod ⟨"FlushProofs$Core", "hasFetch", "(I)Z"⟩,
  Cond.selects "FlushProofs$Core" ⟨"FlushProofs$Core", "hasFetch", "(I)Z"⟩ ⟨"FlushProofs$Core", "hasFetch", "(I)Z"⟩,
  Cond.methodLink "FlushProofs" 200 ⟨"FlushProofs$Core", "hasFetch", "(I)Z"⟩,
  Cond.instanceMethod ⟨"FlushProofs", "requireRoomForElement", "()V"⟩,
  Cond.selects "FlushProofs" ⟨"FlushProofs", "requireRoomForElement", "()V"⟩ ⟨"FlushProofs", "requireRoomForElement", "()V"⟩,
  Cond.methodLink "FlushProofs" 30 ⟨"FlushProofs", "requireRoomForElement", "()V"⟩,
  Cond.instanceMethod ⟨"FlushProofs$Core", "addElement", "(I)I"⟩,
  Cond.selects "FlushProofs$Core" ⟨"FlushProofs$Core", "addElement", "(I)I"⟩ ⟨"FlushProofs$Core", "addElement", "(I)I"⟩,
  Cond.methodLink "FlushProofs" 33 ⟨"FlushProofs$Core", "addElement", "(I)I"⟩,
  Cond.instanceMethod ⟨"FlushProofs", "requireNode", "(I)V"⟩,
  Cond.selects "FlushProofs" ⟨"FlushProofs", "requireNode", "(I)V"⟩ ⟨"FlushProofs", "requireNode", "(I)V"⟩,
  Cond.methodLink "FlushProofs" 37 ⟨"FlushProofs", "requireNode", "(I)V"⟩,
  Cond.instanceMethod ⟨"FlushProofs", "requireWord", "(I)V"⟩,
  Cond.selects "FlushProofs" ⟨"FlushProofs", "requireWord", "(I)V"⟩ ⟨"FlushProofs", "requireWord", "(I)V"⟩,
  Cond.methodLink "FlushProofs" 48 ⟨"FlushProofs", "requireWord", "(I)V"⟩,
  Cond.methodLink "FlushProofs" 55 ⟨"FlushProofs$Nodes", "makeApplication", "(III)I"⟩,
  Cond.methodLink "FlushProofs" 64 ⟨"FlushProofs$Nodes", "makeEquality", "(II)I"⟩,
  Cond.instanceMethod ⟨"FlushProofs", "requireTruth", "(I)V"⟩,
  Cond.selects "FlushProofs" ⟨"FlushProofs", "requireTruth", "(I)V"⟩ ⟨"FlushProofs", "requireTruth", "(I)V"⟩,
  Cond.methodLink "FlushProofs" 68 ⟨"FlushProofs", "requireTruth", "(I)V"⟩,
  Cond.methodLink "FlushProofs" 71 ⟨"FlushProofs$Nodes", "makeNot", "(I)I"⟩,
  Cond.methodLink "FlushProofs" 74 ⟨"FlushProofs$Nodes", "makeBoth", "(II)I"⟩,
  Cond.instanceMethod ⟨"FlushProofs", "requireSameSort", "(II)V"⟩,
  Cond.selects "FlushProofs" ⟨"FlushProofs", "requireSameSort", "(II)V"⟩ ⟨"FlushProofs", "requireSameSort", "(II)V"⟩,
  Cond.methodLink "FlushProofs" 77 ⟨"FlushProofs", "requireSameSort", "(II)V"⟩,
  Cond.methodLink "FlushProofs" 81 ⟨"FlushProofs$Nodes", "makeChoice", "(III)I"⟩,
  Cond.instanceMethod ⟨"FlushProofs", "requireElement", "(I)V"⟩,
  Cond.selects "FlushProofs" ⟨"FlushProofs", "requireElement", "(I)V"⟩ ⟨"FlushProofs", "requireElement", "(I)V"⟩,
  Cond.methodLink "FlushProofs" 84 ⟨"FlushProofs", "requireElement", "(I)V"⟩,
  Cond.instanceMethod ⟨"FlushProofs$Core", "tellNext", "(II)Z"⟩,
  Cond.selects "FlushProofs$Core" ⟨"FlushProofs$Core", "tellNext", "(II)Z"⟩ ⟨"FlushProofs$Core", "tellNext", "(II)Z"⟩,
  Cond.methodLink "FlushProofs" 91 ⟨"FlushProofs$Core", "tellNext", "(II)Z"⟩,
  Cond.instanceMethod ⟨"FlushProofs", "requireNoFetch", "(I)V"⟩,
  Cond.selects "FlushProofs" ⟨"FlushProofs", "requireNoFetch", "(I)V"⟩ ⟨"FlushProofs", "requireNoFetch", "(I)V"⟩,
  Cond.methodLink "FlushProofs" 95 ⟨"FlushProofs", "requireNoFetch", "(I)V"⟩,
  Cond.instanceMethod ⟨"FlushProofs$Core", "tellPlain", "(II)Z"⟩,
  Cond.selects "FlushProofs$Core" ⟨"FlushProofs$Core", "tellPlain", "(II)Z"⟩ ⟨"FlushProofs$Core", "tellPlain", "(II)Z"⟩,
  Cond.methodLink "FlushProofs" 98 ⟨"FlushProofs$Core", "tellPlain", "(II)Z"⟩,
  Cond.static ⟨"FlushProofsModel", "within", "(III)Z"⟩,
  Cond.methodLink "FlushProofsModel" 115 ⟨"FlushProofsModel", "within", "(III)Z"⟩,
  Cond.static ⟨"FlushProofsModel", "chainOf", "(IIII)I"⟩,
  Cond.methodLink "FlushProofsModel" 91 ⟨"FlushProofsModel", "chainOf", "(IIII)I"⟩,
  Cond.initialized "java/util/Arrays",
  Cond.static ⟨"java/util/Arrays", "fill", "([II)V"⟩,
  Cond.methodLink "FlushProofs$Nodes" 34 ⟨"java/util/Arrays", "fill", "([II)V"⟩,
  Cond.static ⟨"FlushProofs$Nodes", "imageOf", "([II)I"⟩,
  Cond.methodLink "FlushProofs$Nodes" 75 ⟨"FlushProofs$Nodes", "imageOf", "([II)I"⟩,
  Cond.methodLink "FlushProofs$Outcome" 19 ⟨"java/util/Arrays", "fill", "([II)V"⟩,
  Cond.methodLink "FlushProofs$Search" 149 ⟨"java/util/Arrays", "fill", "([II)V"⟩,
  Cond.initialized "java/lang/Long",
  Cond.static ⟨"java/lang/Long", "bitCount", "(J)I"⟩,
  Cond.methodLink "FlushProofs$Search" 204 ⟨"java/lang/Long", "bitCount", "(J)I"⟩,
  Cond.static ⟨"FlushProofs$Search", "statesBelow", "(I)J"⟩,
  Cond.methodLink "FlushProofs$Search" 77 ⟨"FlushProofs$Search", "statesBelow", "(I)J"⟩,
  Cond.static ⟨"FlushProofs", "landed", "(I)I"⟩,
  Cond.methodLink "FlushProofs" 61 ⟨"FlushProofs", "landed", "(I)I"⟩,
  Cond.initialized "FlushProofsLaw",
  Cond.static ⟨"FlushProofsLaw", "next", "(LFlushProofs;II[J)I"⟩,
  Cond.methodLink "FlushProofsLaw" 101 ⟨"FlushProofsLaw", "next", "(LFlushProofs;II[J)I"⟩,
  Cond.static ⟨"FlushProofsLaw", "plain", "(LFlushProofs;II[J)I"⟩,
  Cond.methodLink "FlushProofsLaw" 104 ⟨"FlushProofsLaw", "plain", "(LFlushProofs;II[J)I"⟩,
  Cond.static ⟨"FlushProofsLaw", "invariant", "(LFlushProofs;I[J)I"⟩,
  Cond.methodLink "FlushProofsLaw" 107 ⟨"FlushProofsLaw", "invariant", "(LFlushProofs;I[J)I"⟩,
  Cond.static ⟨"FlushProofsLaw", "run", "(LFlushProofs;I[J)I"⟩,
  Cond.methodLink "FlushProofsLaw" 110 ⟨"FlushProofsLaw", "run", "(LFlushProofs;I[J)I"⟩,
  Cond.static ⟨"FlushProofsLaw", "kept", "(LFlushProofs;I[J)I"⟩,
  Cond.methodLink "FlushProofsLaw" 113 ⟨"FlushProofsLaw", "kept", "(LFlushProofs;I[J)I"⟩,
  Cond.static ⟨"FlushProofsLaw", "witness", "(LFlushProofs;I[J)I"⟩,
  Cond.methodLink "FlushProofsLaw" 116 ⟨"FlushProofsLaw", "witness", "(LFlushProofs;I[J)I"⟩,
  Cond.static ⟨"FlushProofsLaw", "differs", "(LFlushProofs;[J)I"⟩,
  Cond.methodLink "FlushProofsLaw" 119 ⟨"FlushProofsLaw", "differs", "(LFlushProofs;[J)I"⟩,
  Cond.static ⟨"FlushProofsLaw", "node", "(LFlushProofs;II[J)I"⟩,
  Cond.methodLink "FlushProofsLaw" 122 ⟨"FlushProofsLaw", "node", "(LFlushProofs;II[J)I"⟩,
  Cond.static ⟨"FlushProofsLaw", "word", "(LFlushProofs;[J)I"⟩,
  Cond.methodLink "FlushProofsLaw" 71 ⟨"FlushProofsLaw", "word", "(LFlushProofs;[J)I"⟩,
  Cond.static ⟨"FlushProofsLaw", "truth", "(LFlushProofs;[J)I"⟩,
  Cond.methodLink "FlushProofsLaw" 80 ⟨"FlushProofsLaw", "truth", "(LFlushProofs;[J)I"⟩,
  Cond.static ⟨"FlushProofsLaw", "apply", "(LFlushProofs;III[J)I"⟩,
  Cond.methodLink "FlushProofsLaw" 83 ⟨"FlushProofsLaw", "apply", "(LFlushProofs;III[J)I"⟩,
  Cond.static ⟨"FlushProofsLaw", "equal", "(LFlushProofs;II[J)I"⟩,
  Cond.methodLink "FlushProofsLaw" 87 ⟨"FlushProofsLaw", "equal", "(LFlushProofs;II[J)I"⟩,
  Cond.static ⟨"FlushProofsLaw", "not", "(LFlushProofs;I[J)I"⟩,
  Cond.methodLink "FlushProofsLaw" 91 ⟨"FlushProofsLaw", "not", "(LFlushProofs;I[J)I"⟩,
  Cond.static ⟨"FlushProofsLaw", "both", "(LFlushProofs;II[J)I"⟩,
  Cond.methodLink "FlushProofsLaw" 95 ⟨"FlushProofsLaw", "both", "(LFlushProofs;II[J)I"⟩,
  Cond.static ⟨"FlushProofsLaw", "choice", "(LFlushProofs;III[J)I"⟩,
  Cond.methodLink "FlushProofsLaw" 98 ⟨"FlushProofsLaw", "choice", "(LFlushProofs;III[J)I"⟩,
  Cond.instanceMethod ⟨"FlushProofs$Nodes", "<init>", "(II)V"⟩,
  Cond.methodLink "FlushProofs$Core" 11 ⟨"FlushProofs$Nodes", "<init>", "(II)V"⟩,
  Cond.instanceMethod ⟨"FlushProofs", "<init>", "()V"⟩,
  Cond.methodLink "FlushProofsLaw" 67 ⟨"FlushProofs", "<init>", "()V"⟩,
  Cond.instanceMethod ⟨"FlushProofsModel", "<init>", "()V"⟩,
  Cond.methodLink "FlushProofsLaw" 70 ⟨"FlushProofsModel", "<init>", "()V"⟩,
  Cond.methodLink "FlushProofs$Prover" 11 ⟨"FlushProofs$Nodes", "<init>", "(II)V"⟩,
  Cond.instanceMethod ⟨"FlushProofs$Question", "<init>", "()V"⟩,
  Cond.methodLink "FlushProofs$Prover" 22 ⟨"FlushProofs$Question", "<init>", "()V"⟩,
  Cond.instanceMethod ⟨"FlushProofs$Search", "<init>", "(LFlushProofs$Nodes;LFlushProofs$Question;)V"⟩,
  Cond.methodLink "FlushProofs$Prover" 29 ⟨"FlushProofs$Search", "<init>", "(LFlushProofs$Nodes;LFlushProofs$Question;)V"⟩,
  Cond.instanceMethod ⟨"FlushProofs$Planes", "<init>", "(LFlushProofs$Nodes;)V"⟩,
  Cond.methodLink "FlushProofs$Search" 21 ⟨"FlushProofs$Planes", "<init>", "(LFlushProofs$Nodes;)V"⟩,
  Cond.instanceMethod ⟨"FlushProofs$Core", "<init>", "()V"⟩,
  Cond.methodLink "FlushProofs" 11 ⟨"FlushProofs$Core", "<init>", "()V"⟩,
  Cond.instanceMethod ⟨"FlushProofs$Outcome", "<init>", "()V"⟩,
  Cond.methodLink "FlushProofs" 18 ⟨"FlushProofs$Outcome", "<init>", "()V"⟩,
  Cond.instanceMethod ⟨"FlushProofs$Prover", "<init>", "()V"⟩,
  Cond.methodLink "FlushProofs" 25 ⟨"FlushProofs$Prover", "<init>", "()V"⟩,
  Cond.classLink "FlushProofs$Core" 9 "FlushProofs$Nodes",
  Cond.instantiable "FlushProofs$Nodes" 8,
  Cond.classLink "FlushProofsLaw" 68 "FlushProofsModel",
  Cond.instantiable "FlushProofsModel" 36,
  Cond.classLink "FlushProofsLaw" 8 "FlushProofs",
  Cond.instantiable "FlushProofs" 3,
  Cond.classLink "FlushProofs$Prover" 20 "FlushProofs$Question",
  Cond.instantiable "FlushProofs$Question" 5,
  Cond.classLink "FlushProofs$Prover" 27 "FlushProofs$Search",
  Cond.instantiable "FlushProofs$Search" 15,
  Cond.classLink "FlushProofs$Prover" 9 "FlushProofs$Nodes",
  Cond.classLink "FlushProofs$Search" 19 "FlushProofs$Planes",
  Cond.instantiable "FlushProofs$Planes" 4,
  Cond.classLink "FlushProofs" 16 "FlushProofs$Outcome",
  Cond.instantiable "FlushProofs$Outcome" 7,
  Cond.classLink "FlushProofs" 23 "FlushProofs$Prover",
  Cond.instantiable "FlushProofs$Prover" 7,
  Cond.classLink "FlushProofs" 9 "FlushProofs$Core",
  Cond.instantiable "FlushProofs$Core" 9,
  Cond.methodLink "FlushProofs$Core" 3 ⟨"java/lang/Object", "<init>", "()V"⟩,
  Cond.methodLink "FlushProofsModel" 1 ⟨"java/lang/Object", "<init>", "()V"⟩,
  Cond.methodLink "FlushProofs$Nodes" 3 ⟨"java/lang/Object", "<init>", "()V"⟩,
  Cond.methodLink "FlushProofs$Outcome" 3 ⟨"java/lang/Object", "<init>", "()V"⟩,
  Cond.methodLink "FlushProofs$Planes" 3 ⟨"java/lang/Object", "<init>", "()V"⟩,
  Cond.methodLink "FlushProofs$Prover" 3 ⟨"java/lang/Object", "<init>", "()V"⟩,
  Cond.methodLink "FlushProofs$Question" 3 ⟨"java/lang/Object", "<init>", "()V"⟩,
  Cond.methodLink "FlushProofs$Search" 3 ⟨"java/lang/Object", "<init>", "()V"⟩,
  Cond.methodLink "FlushProofs" 3 ⟨"java/lang/Object", "<init>", "()V"⟩,
  Cond.methodLink "FlushProofs$Nodes" 48 ⟨"java/lang/Math", "min", "(II)I"⟩,
  Cond.static ⟨"java/lang/Math", "min", "(II)I"⟩,
  Cond.initialized "java/lang/Math",
  Cond.methodLink "FlushProofs$Nodes" 54 ⟨"java/lang/Math", "max", "(II)I"⟩,
  Cond.static ⟨"java/lang/Math", "max", "(II)I"⟩,
  Cond.methodLink "FlushProofs$Search" 140 ⟨"java/lang/Math", "max", "(II)I"⟩,
  Cond.methodLink "FlushProofs$Search" 213 ⟨"java/lang/System", "arraycopy", "(Ljava/lang/Object;ILjava/lang/Object;II)V"⟩,
  Cond.native ⟨"java/lang/System", "arraycopy", "(Ljava/lang/Object;ILjava/lang/Object;II)V"⟩,
  Cond.static ⟨"java/lang/System", "arraycopy", "(Ljava/lang/Object;ILjava/lang/Object;II)V"⟩,
  Cond.initialized "java/lang/System",
  Cond.constantLong "java/lang/Long" 314 (6148914691236517205 : Int64),
  Cond.constantLong "java/lang/Long" 316 (3689348814741910323 : Int64),
  Cond.constantLong "java/lang/Long" 318 (1085102592571150095 : Int64),
  Cond.constant "FlushProofsModel" 90 (2147483647 : Int32),
  Cond.constantLong "FlushProofs$Planes" 25 (-1 : Int64),
  Cond.constantLong "FlushProofs$Search" 159 (-1 : Int64),
  Cond.instanceMethod ⟨"java/lang/Object", "<init>", "()V"⟩,
  Cond.arrayClass .int,
  Cond.arrayClass .boolean,
  Cond.arrayClass .long]
def qTi : List Nat := [994, 996, 998, 1000, 1002, 1004, 1006, 1008, 1010, 1012, 1014, 1016, 1018, 1020, 1022, 1024, 1026, 1028, 1030, 1032, 1034, 1036, 1038, 1040, 1042, 1044, 1046, 1048, 1050, 1052, 1054, 1056, 1058, 1060, 1062, 1064, 381, 383, 385, 186, 188, 190, 192, 194, 196, 198, 200, 202, 131, 133, 135, 137, 139, 141, 143, 145, 230, 232, 234, 236, 238, 240, 242, 300, 302, 304, 306, 363, 365, 367, 369, 371, 373, 375, 273, 275, 277, 279, 281, 325, 327, 329, 331, 333, 335, 337, 339, 341, 343, 345, 347, 349, 351, 353, 165, 168, 171, 173, 175, 177, 179, 181, 184, 967, 961, 968, 981, 983, 962, 987, 988, 982, 991, 992, 993, 963, 989, 964, 965, 966, 969, 970, 971, 972, 973, 974, 975, 976, 977, 978, 979, 980, 984, 959, 985, 986, 990, 960, 958, 111, 115, 119, 123, 126, 125, 127, 106, 214, 217, 219, 224, 227, 211, 297, 298, 299, 296, 356, 357, 358, 359, 360, 361, 362, 262, 265, 267, 270, 259, 322, 321, 311, 312, 313, 314, 315, 316, 317, 318, 319, 323, 324, 320, 310, 378, 379, 380, 68, 151, 152, 150, 644, 645, 643, 648, 649, 647, 652, 653, 651, 478, 479, 477, 75, 1131, 1132, 1130, 1135, 1136, 1134, 1147, 1148, 1146, 1167, 1168, 1166, 1171, 1172, 1170, 1227, 1228, 1226, 1231, 1232, 1230, 1235, 1236, 1234, 1239, 1240, 1238, 66, 389, 390, 388, 1243, 1244, 1242, 485, 486, 484, 494, 495, 493, 555, 556, 554, 572, 573, 571, 589, 590, 588, 600, 601, 599, 616, 617, 615, 632, 633, 631, 666, 667, 665, 693, 694, 692, 903, 904, 902, 916, 917, 915, 929, 930, 928, 936, 937, 935, 397, 398, 396, 1072, 1073, 1071, 1068, 1069, 1067, 1088, 1089, 1087, 1092, 1093, 1091, 1119, 1120, 1118, 1123, 1124, 1122, 1127, 1128, 1126, 1085, 40, 1083, 1112, 44, 1110, 1192, 56, 1190, 1081, 39, 1079, 1077, 38, 1075, 1097, 41, 1095, 1104, 42, 1102, 1108, 43, 1106, 1140, 46, 1138, 1144, 47, 1142, 1160, 50, 1158, 1156, 49, 1154, 1164, 51, 1162, 1152, 48, 1150, 1188, 55, 1186, 1184, 54, 1182, 1208, 60, 1206, 1212, 61, 1210, 1216, 62, 1214, 1220, 63, 1218, 1200, 58, 1198, 1204, 59, 1202, 1224, 64, 1222, 1176, 52, 1174, 1180, 53, 1178, 1196, 57, 1194, 948, 36, 946, 952, 37, 950, 1116, 45, 1114, 159, 0, 157, 502, 503, 584, 162, 163, 161, 559, 560, 729, 581, 582, 730, 609, 610, 732, 544, 545, 728, 593, 594, 731, 655, 74, 838, 839, 837, 844, 27, 842, 911, 710, 72, 712, 713, 711, 715, 716, 734, 735, 733, 71, 743, 12, 741, 753, 759, 70, 773, 774, 772, 778, 16, 776, 73, 781, 782, 780, 896, 897, 895, 702, 703, 701, 708, 9, 706, 739, 11, 737, 747, 13, 745, 751, 14, 749, 754, 757, 15, 755, 761, 762, 760, 765, 766, 764, 719, 10, 717, 722, 723, 721, 790, 18, 788, 794, 19, 792, 798, 20, 796, 806, 22, 804, 810, 23, 808, 823, 824, 822, 834, 835, 833, 854, 855, 853, 863, 30, 861, 880, 32, 878, 884, 33, 882, 892, 893, 891, 888, 34, 886, 890, 873, 31, 871, 786, 17, 784, 802, 21, 800, 815, 24, 813, 820, 25, 818, 831, 26, 829, 851, 28, 849, 859, 29, 857, 67, 686, 687, 685, 698, 699, 697, 769, 770, 768, 908, 909, 907, 921, 35, 919, 501, 541, 640, 641, 639, 402, 1, 400, 474, 475, 473, 499, 3, 497, 539, 4, 537, 543, 558, 577, 5, 575, 580, 592, 605, 6, 603, 608, 621, 7, 619, 625, 626, 624, 637, 8, 635, 658, 659, 657, 1100, 1099, 955, 954, 69, 155, 154, 726, 725, 705, 817, 84, 866, 865, 847, 846, 548, 547, 65, 613, 612, 629, 628, 662, 661, 690, 689, 900, 899, 913, 912, 926, 925, 933, 932, 393, 392, 482, 481, 489, 488, 552, 551, 569, 568, 586, 585, 597, 596, 103, 102, 89, 88, 943, 942, 252, 256, 255, 287, 286, 293, 292, 97, 96, 208, 207, 248, 247, 100, 101, 940, 941, 86, 87, 253, 254, 284, 285, 251, 290, 291, 205, 206, 245, 246, 94, 95, 99, 945, 105, 210, 295, 250, 258, 289, 91, 562, 563, 82, 565, 566, 812, 875, 877, 876, 85, 868, 869, 870, 957, 841, 826, 92, 148, 149, 309]
def qNN : List Cond := [
  Cond.fieldLinkNest "FlushProofs$Planes" 27 "FlushProofs$Nodes" "firsts" "[I" "FlushProofs",
  Cond.fieldLinkNest "FlushProofs$Planes" 33 "FlushProofs$Nodes" "seconds" "[I" "FlushProofs",
  Cond.fieldLinkNest "FlushProofs$Planes" 36 "FlushProofs$Nodes" "kinds" "[I" "FlushProofs",
  Cond.fieldLinkNest "FlushProofs$Planes" 43 "FlushProofs$Nodes" "thirds" "[I" "FlushProofs",
  Cond.fieldLinkNest "FlushProofs$Planes" 50 "FlushProofs$Nodes" "words" "[Z" "FlushProofs",
  Cond.fieldLinkNest "FlushProofs$Prover" 103 "FlushProofs$Core" "invariants" "[I" "FlushProofs",
  Cond.fieldLinkNest "FlushProofs$Prover" 115 "FlushProofs$Core" "elementNodes" "[I" "FlushProofs",
  Cond.fieldLinkNest "FlushProofs$Prover" 125 "FlushProofs$Core" "invariantCount" "I" "FlushProofs",
  Cond.fieldLinkNest "FlushProofs$Prover" 132 "FlushProofs$Core" "nextNodes" "[I" "FlushProofs",
  Cond.fieldLinkNest "FlushProofs$Prover" 143 "FlushProofs$Question" "invariantCount" "I" "FlushProofs",
  Cond.fieldLinkNest "FlushProofs$Prover" 144 "FlushProofs$Question" "invariants" "[I" "FlushProofs",
  Cond.fieldLinkNest "FlushProofs$Prover" 148 "FlushProofs$Nodes" "used" "I" "FlushProofs",
  Cond.fieldLinkNest "FlushProofs$Prover" 151 "FlushProofs$Nodes" "kinds" "[I" "FlushProofs",
  Cond.fieldLinkNest "FlushProofs$Prover" 154 "FlushProofs$Outcome" "deepWords" "I" "FlushProofs",
  Cond.fieldLinkNest "FlushProofs$Prover" 157 "FlushProofs$Outcome" "deepTruths" "I" "FlushProofs",
  Cond.fieldLinkNest "FlushProofs$Prover" 164 "FlushProofs$Outcome" "answer" "I" "FlushProofs",
  Cond.fieldLinkNest "FlushProofs$Prover" 167 "FlushProofs$Question" "claimCount" "I" "FlushProofs",
  Cond.fieldLinkNest "FlushProofs$Prover" 180 "FlushProofs$Question" "claims" "[I" "FlushProofs",
  Cond.fieldLinkNest "FlushProofs$Prover" 50 "FlushProofs$Core" "elementCount" "I" "FlushProofs",
  Cond.fieldLinkNest "FlushProofs$Prover" 75 "FlushProofs$Core" "plainNodes" "[I" "FlushProofs",
  Cond.fieldLinkNest "FlushProofs$Prover" 96 "FlushProofs$Core" "nodes" "LFlushProofs$Nodes;" "FlushProofs",
  Cond.fieldLinkNest "FlushProofs$Search" 102 "FlushProofs$Outcome" "values" "[I" "FlushProofs",
  Cond.fieldLinkNest "FlushProofs$Search" 103 "FlushProofs$Nodes" "firsts" "[I" "FlushProofs",
  Cond.fieldLinkNest "FlushProofs$Search" 114 "FlushProofs$Nodes" "used" "I" "FlushProofs",
  Cond.fieldLinkNest "FlushProofs$Search" 117 "FlushProofs$Nodes" "kinds" "[I" "FlushProofs",
  Cond.fieldLinkNest "FlushProofs$Search" 137 "FlushProofs$Nodes" "seconds" "[I" "FlushProofs",
  Cond.fieldLinkNest "FlushProofs$Search" 146 "FlushProofs$Nodes" "thirds" "[I" "FlushProofs",
  Cond.fieldLinkNest "FlushProofs$Search" 168 "FlushProofs$Question" "invariantCount" "I" "FlushProofs",
  Cond.fieldLinkNest "FlushProofs$Search" 171 "FlushProofs$Question" "invariants" "[I" "FlushProofs",
  Cond.fieldLinkNest "FlushProofs$Search" 198 "FlushProofs$Question" "claimCount" "I" "FlushProofs",
  Cond.fieldLinkNest "FlushProofs$Search" 201 "FlushProofs$Question" "claims" "[I" "FlushProofs",
  Cond.fieldLinkNest "FlushProofs$Search" 89 "FlushProofs$Question" "claimElements" "[I" "FlushProofs",
  Cond.fieldLinkNest "FlushProofs$Search" 94 "FlushProofs$Outcome" "differing" "I" "FlushProofs",
  Cond.fieldLinkNest "FlushProofs$Search" 99 "FlushProofs$Outcome" "fetch" "I" "FlushProofs",
  Cond.fieldLinkNest "FlushProofs" 101 "FlushProofs$Core" "invariantCount" "I" "FlushProofs",
  Cond.fieldLinkNest "FlushProofs" 123 "FlushProofs$Outcome" "answer" "I" "FlushProofs",
  Cond.fieldLinkNest "FlushProofs" 137 "FlushProofs$Outcome" "fetch" "I" "FlushProofs",
  Cond.fieldLinkNest "FlushProofs" 140 "FlushProofs$Outcome" "elementCount" "I" "FlushProofs",
  Cond.fieldLinkNest "FlushProofs" 145 "FlushProofs$Outcome" "values" "[I" "FlushProofs",
  Cond.fieldLinkNest "FlushProofs" 148 "FlushProofs$Outcome" "differing" "I" "FlushProofs",
  Cond.fieldLinkNest "FlushProofs" 151 "FlushProofs$Nodes" "kinds" "[I" "FlushProofs",
  Cond.fieldLinkNest "FlushProofs" 154 "FlushProofs$Nodes" "firsts" "[I" "FlushProofs",
  Cond.fieldLinkNest "FlushProofs" 157 "FlushProofs$Nodes" "seconds" "[I" "FlushProofs",
  Cond.fieldLinkNest "FlushProofs" 160 "FlushProofs$Nodes" "thirds" "[I" "FlushProofs",
  Cond.fieldLinkNest "FlushProofs" 165 "FlushProofs$Nodes" "used" "I" "FlushProofs",
  Cond.fieldLinkNest "FlushProofs" 168 "FlushProofs$Core" "elementCount" "I" "FlushProofs",
  Cond.fieldLinkNest "FlushProofs" 169 "FlushProofs$Core" "seenCount" "I" "FlushProofs",
  Cond.fieldLinkNest "FlushProofs" 172 "FlushProofs$Outcome" "deepWords" "I" "FlushProofs",
  Cond.fieldLinkNest "FlushProofs" 175 "FlushProofs$Outcome" "deepTruths" "I" "FlushProofs",
  Cond.fieldLinkNest "FlushProofs" 51 "FlushProofs$Core" "nodes" "LFlushProofs$Nodes;" "FlushProofs",
  Cond.fieldLinkNest "FlushProofs" 87 "FlushProofs$Core" "elementNodes" "[I" "FlushProofs",
  Cond.fieldLinkNest "FlushProofs$Search" 161 "FlushProofs" "COLUMNS" "[J" "FlushProofs"]
def qNi : List Nat := [113, 116, 108, 120, 124, 176, 169, 183, 172, 268, 260, 129, 109, 225, 228, 215, 271, 263, 178, 174, 166, 212, 112, 128, 107, 117, 121, 269, 261, 272, 264, 266, 222, 220, 185, 216, 221, 218, 213, 223, 110, 114, 118, 122, 130, 180, 182, 226, 229, 167, 170, 827]
def qSr : List (String × Nat × String) := [("FlushProofs", 180, "no room for an element"), ("FlushProofs", 187, "no such node"), ("FlushProofs", 43, "no such function"), ("FlushProofs", 194, "a word node is wanted"), ("FlushProofs", 207, "there are 300 nodes"), ("FlushProofs", 196, "a truth node is wanted"), ("FlushProofs", 198, "nodes of one sort are wanted"), ("FlushProofs", 189, "no such element"), ("FlushProofs", 203, "FETCH must not be in it"), ("FlushProofs", 107, "there are eight invariants"), ("FlushProofs", 113, "no such depth"), ("FlushProofs", 128, "no such invariant"), ("FlushProofs", 205, "the latest question did not fail"), ("FlushProofs", 143, "no such element then"), ("FlushProofs", 163, "a node has a kind and three parts")]
theorem qTT_in : qTT = qTi.filterMap (fun i => lw_tbl[i]?) := by decide +kernel
theorem qNN_in : qNN = qNi.filterMap (fun i => lw_tbl[i]?) := by decide +kernel
set_option maxRecDepth 100000 in
theorem qMs_0 : lw_tbl[104]? = some (Cond.code Y_XNodes_init.1 Y_XNodes_init.2.1 Y_XNodes_init.2.2.1 Y_XNodes_init.2.2.2) := rfl
set_option maxRecDepth 100000 in
theorem qMs_1 : lw_tbl[156]? = some (Cond.code Y_JArrays_fill.1 Y_JArrays_fill.2.1 Y_JArrays_fill.2.2.1 Y_JArrays_fill.2.2.2) := rfl
set_option maxRecDepth 100000 in
theorem qMs_2 : lw_tbl[164]? = some (Cond.code Y_XNodes_isWord.1 Y_XNodes_isWord.2.1 Y_XNodes_isWord.2.2.1 Y_XNodes_isWord.2.2.2) := rfl
set_option maxRecDepth 100000 in
theorem qMs_3 : lw_tbl[160]? = some (Cond.code Y_XNodes_put.1 Y_XNodes_put.2.1 Y_XNodes_put.2.2.1 Y_XNodes_put.2.2.2) := rfl
set_option maxRecDepth 100000 in
theorem qMs_4 : lw_tbl[153]? = some (Cond.code Y_XNodes_reset.1 Y_XNodes_reset.2.1 Y_XNodes_reset.2.2.1 Y_XNodes_reset.2.2.2) := rfl
set_option maxRecDepth 100000 in
theorem qMs_5 : lw_tbl[98]? = some (Cond.code Y_XCore_init.1 Y_XCore_init.2.1 Y_XCore_init.2.2.1 Y_XCore_init.2.2.2) := rfl
set_option maxRecDepth 100000 in
theorem qMs_6 : lw_tbl[646]? = some (Cond.code Y_XNodes_unmark.1 Y_XNodes_unmark.2.1 Y_XNodes_unmark.2.2.1 Y_XNodes_unmark.2.2.2) := rfl
set_option maxRecDepth 100000 in
theorem qMs_7 : lw_tbl[504]? = some (Cond.code Y_XNodes_has.1 Y_XNodes_has.2.1 Y_XNodes_has.2.2.1 Y_XNodes_has.2.2.2) := rfl
set_option maxRecDepth 100000 in
theorem qMs_8 : lw_tbl[650]? = some (Cond.code Y_XNodes_mark.1 Y_XNodes_mark.2.1 Y_XNodes_mark.2.2.1 Y_XNodes_mark.2.2.2) := rfl
set_option maxRecDepth 100000 in
theorem qMs_9 : lw_tbl[654]? = some (Cond.code Y_XNodes_spread.1 Y_XNodes_spread.2.1 Y_XNodes_spread.2.2.1 Y_XNodes_spread.2.2.2) := rfl
set_option maxRecDepth 100000 in
theorem qMs_10 : lw_tbl[642]? = some (Cond.code Y_XCore_hasFetch.1 Y_XCore_hasFetch.2.1 Y_XCore_hasFetch.2.2.1 Y_XCore_hasFetch.2.2.2) := rfl
set_option maxRecDepth 100000 in
theorem qMs_11 : lw_tbl[480]? = some (Cond.code Y_XNodes_makeElement.1 Y_XNodes_makeElement.2.1 Y_XNodes_makeElement.2.2.1 Y_XNodes_makeElement.2.2.2) := rfl
set_option maxRecDepth 100000 in
theorem qMs_12 : lw_tbl[476]? = some (Cond.code Y_XCore_addElement.1 Y_XCore_addElement.2.1 Y_XCore_addElement.2.2.1 Y_XCore_addElement.2.2.2) := rfl
set_option maxRecDepth 100000 in
theorem qMs_13 : lw_tbl[627]? = some (Cond.code Y_XCore_tellNext.1 Y_XCore_tellNext.2.1 Y_XCore_tellNext.2.2.1 Y_XCore_tellNext.2.2.2) := rfl
set_option maxRecDepth 100000 in
theorem qMs_14 : lw_tbl[660]? = some (Cond.code Y_XCore_tellPlain.1 Y_XCore_tellPlain.2.1 Y_XCore_tellPlain.2.2.1 Y_XCore_tellPlain.2.2.2) := rfl
set_option maxRecDepth 100000 in
theorem qMs_15 : lw_tbl[688]? = some (Cond.code Y_XCore_addInvariant.1 Y_XCore_addInvariant.2.1 Y_XCore_addInvariant.2.2.1 Y_XCore_addInvariant.2.2.2) := rfl
set_option maxRecDepth 100000 in
theorem qMs_16 : lw_tbl[546]? = some (Cond.code Y_XNodes_makeApplication.1 Y_XNodes_makeApplication.2.1 Y_XNodes_makeApplication.2.2.1 Y_XNodes_makeApplication.2.2.2) := rfl
set_option maxRecDepth 100000 in
theorem qMs_17 : lw_tbl[561]? = some (Cond.code Y_XNodes_makeEquality.1 Y_XNodes_makeEquality.2.1 Y_XNodes_makeEquality.2.2.1 Y_XNodes_makeEquality.2.2.2) := rfl
set_option maxRecDepth 100000 in
theorem qMs_18 : lw_tbl[583]? = some (Cond.code Y_XNodes_makeNot.1 Y_XNodes_makeNot.2.1 Y_XNodes_makeNot.2.2.1 Y_XNodes_makeNot.2.2.2) := rfl
set_option maxRecDepth 100000 in
theorem qMs_19 : lw_tbl[595]? = some (Cond.code Y_XNodes_makeBoth.1 Y_XNodes_makeBoth.2.1 Y_XNodes_makeBoth.2.2.1 Y_XNodes_makeBoth.2.2.2) := rfl
set_option maxRecDepth 100000 in
theorem qMs_20 : lw_tbl[611]? = some (Cond.code Y_XNodes_makeChoice.1 Y_XNodes_makeChoice.2.1 Y_XNodes_makeChoice.2.2.1 Y_XNodes_makeChoice.2.2.2) := rfl
set_option maxRecDepth 100000 in
theorem qMs_21 : lw_tbl[763]? = some (Cond.code Y_XNodes_makeDifference.1 Y_XNodes_makeDifference.2.1 Y_XNodes_makeDifference.2.2.1 Y_XNodes_makeDifference.2.2.2) := rfl
set_option maxRecDepth 100000 in
theorem qMs_22 : lw_tbl[727]? = some (Cond.code Y_XNodes_imageOf.1 Y_XNodes_imageOf.2.1 Y_XNodes_imageOf.2.2.1 Y_XNodes_imageOf.2.2.2) := rfl
set_option maxRecDepth 100000 in
theorem qMs_23 : lw_tbl[724]? = some (Cond.code Y_XNodes_remakeAll.1 Y_XNodes_remakeAll.2.1 Y_XNodes_remakeAll.2.2.1 Y_XNodes_remakeAll.2.2.2) := rfl
set_option maxRecDepth 100000 in
theorem qMs_24 : lw_tbl[209]? = some (Cond.code Y_XOutcome_init.1 Y_XOutcome_init.2.1 Y_XOutcome_init.2.2.1 Y_XOutcome_init.2.2.2) := rfl
set_option maxRecDepth 100000 in
theorem qMs_25 : lw_tbl[704]? = some (Cond.code Y_XOutcome_begin.1 Y_XOutcome_begin.2.1 Y_XOutcome_begin.2.2.1 Y_XOutcome_begin.2.2.2) := rfl
set_option maxRecDepth 100000 in
theorem qMs_26 : lw_tbl[775]? = some (Cond.code Y_XOutcome_isTooLarge.1 Y_XOutcome_isTooLarge.2.1 Y_XOutcome_isTooLarge.2.2.1 Y_XOutcome_isTooLarge.2.2.2) := rfl
set_option maxRecDepth 100000 in
theorem qMs_27 : lw_tbl[294]? = some (Cond.code Y_XPlanes_init.1 Y_XPlanes_init.2.1 Y_XPlanes_init.2.2.1 Y_XPlanes_init.2.2.2) := rfl
set_option maxRecDepth 100000 in
theorem qMs_28 : lw_tbl[856]? = some (Cond.code Y_XPlanes_truthOf.1 Y_XPlanes_truthOf.2.1 Y_XPlanes_truthOf.2.2.1 Y_XPlanes_truthOf.2.2.2) := rfl
set_option maxRecDepth 100000 in
theorem qMs_29 : lw_tbl[825]? = some (Cond.code Y_XPlanes_setTruth.1 Y_XPlanes_setTruth.2.1 Y_XPlanes_setTruth.2.2.1 Y_XPlanes_setTruth.2.2.2) := rfl
set_option maxRecDepth 100000 in
theorem qMs_30 : lw_tbl[894]? = some (Cond.code Y_XPlanes_setWord.1 Y_XPlanes_setWord.2.1 Y_XPlanes_setWord.2.2.1 Y_XPlanes_setWord.2.2.2) := rfl
set_option maxRecDepth 100000 in
theorem qMs_31 : lw_tbl[840]? = some (Cond.code Y_XPlanes_same.1 Y_XPlanes_same.2.1 Y_XPlanes_same.2.2.1 Y_XPlanes_same.2.2.2) := rfl
set_option maxRecDepth 100000 in
theorem qMs_32 : lw_tbl[845]? = some (Cond.code Y_XPlanes_choose.1 Y_XPlanes_choose.2.1 Y_XPlanes_choose.2.2.1 Y_XPlanes_choose.2.2.2) := rfl
set_option maxRecDepth 100000 in
theorem qMs_33 : lw_tbl[836]? = some (Cond.code Y_XPlanes_reckon.1 Y_XPlanes_reckon.2.1 Y_XPlanes_reckon.2.2.1 Y_XPlanes_reckon.2.2.2) := rfl
set_option maxRecDepth 100000 in
theorem qMs_34 : lw_tbl[257]? = some (Cond.code Y_XQuestion_init.1 Y_XQuestion_init.2.1 Y_XQuestion_init.2.2.1 Y_XQuestion_init.2.2.2) := rfl
set_option maxRecDepth 100000 in
theorem qMs_35 : lw_tbl[288]? = some (Cond.code Y_XSearch_init.1 Y_XSearch_init.2.1 Y_XSearch_init.2.2.1 Y_XSearch_init.2.2.2) := rfl
set_option maxRecDepth 100000 in
theorem qMs_36 : lw_tbl[249]? = some (Cond.code Y_XProver_init.1 Y_XProver_init.2.1 Y_XProver_init.2.2.1 Y_XProver_init.2.2.2) := rfl
set_option maxRecDepth 100000 in
theorem qMs_37 : lw_tbl[714]? = some (Cond.code Y_XQuestion_begin.1 Y_XQuestion_begin.2.1 Y_XQuestion_begin.2.2.1 Y_XQuestion_begin.2.2.2) := rfl
set_option maxRecDepth 100000 in
theorem qMs_38 : lw_tbl[720]? = some (Cond.code Y_XProver_putIn.1 Y_XProver_putIn.2.1 Y_XProver_putIn.2.2.1 Y_XProver_putIn.2.2.2) := rfl
set_option maxRecDepth 100000 in
theorem qMs_39 : lw_tbl[736]? = some (Cond.code Y_XQuestion_addInvariant.1 Y_XQuestion_addInvariant.2.1 Y_XQuestion_addInvariant.2.2.1 Y_XQuestion_addInvariant.2.2.2) := rfl
set_option maxRecDepth 100000 in
theorem qMs_40 : lw_tbl[709]? = some (Cond.code Y_XProver_begin.1 Y_XProver_begin.2.1 Y_XProver_begin.2.2.1 Y_XProver_begin.2.2.2) := rfl
set_option maxRecDepth 100000 in
theorem qMs_41 : lw_tbl[744]? = some (Cond.code Y_XProver_takeImages.1 Y_XProver_takeImages.2.1 Y_XProver_takeImages.2.2.1 Y_XProver_takeImages.2.2.2) := rfl
set_option maxRecDepth 100000 in
theorem qMs_42 : lw_tbl[740]? = some (Cond.code Y_XProver_step.1 Y_XProver_step.2.1 Y_XProver_step.2.2.1 Y_XProver_step.2.2.2) := rfl
set_option maxRecDepth 100000 in
theorem qMs_43 : lw_tbl[748]? = some (Cond.code Y_XProver_plainStep.1 Y_XProver_plainStep.2.1 Y_XProver_plainStep.2.2.1 Y_XProver_plainStep.2.2.2) := rfl
set_option maxRecDepth 100000 in
theorem qMs_44 : lw_tbl[752]? = some (Cond.code Y_XProver_markInvariants.1 Y_XProver_markInvariants.2.1 Y_XProver_markInvariants.2.2.1 Y_XProver_markInvariants.2.2.2) := rfl
set_option maxRecDepth 100000 in
theorem qMs_45 : lw_tbl[758]? = some (Cond.code Y_XProver_countDeep.1 Y_XProver_countDeep.2.1 Y_XProver_countDeep.2.2.1 Y_XProver_countDeep.2.2.2) := rfl
set_option maxRecDepth 100000 in
theorem qMs_46 : lw_tbl[767]? = some (Cond.code Y_XQuestion_addClaim.1 Y_XQuestion_addClaim.2.1 Y_XQuestion_addClaim.2.2.1 Y_XQuestion_addClaim.2.2.2) := rfl
set_option maxRecDepth 100000 in
theorem qMs_47 : lw_tbl[700]? = some (Cond.code Y_XProver_askEquation.1 Y_XProver_askEquation.2.1 Y_XProver_askEquation.2.2.1 Y_XProver_askEquation.2.2.2) := rfl
set_option maxRecDepth 100000 in
theorem qMs_48 : lw_tbl[910]? = some (Cond.code Y_XProver_askKept.1 Y_XProver_askKept.2.1 Y_XProver_askKept.2.2.1 Y_XProver_askKept.2.2.2) := rfl
set_option maxRecDepth 100000 in
theorem qMs_49 : lw_tbl[779]? = some (Cond.code Y_XProver_markNeeded.1 Y_XProver_markNeeded.2.1 Y_XProver_markNeeded.2.2.1 Y_XProver_markNeeded.2.2.2) := rfl
set_option maxRecDepth 100000 in
theorem qMs_50 : lw_tbl[795]? = some (Cond.code Y_XSearch_addTruth.1 Y_XSearch_addTruth.2.1 Y_XSearch_addTruth.2.2.1 Y_XSearch_addTruth.2.2.2) := rfl
set_option maxRecDepth 100000 in
theorem qMs_51 : lw_tbl[799]? = some (Cond.code Y_XSearch_addWord.1 Y_XSearch_addWord.2.1 Y_XSearch_addWord.2.2.1 Y_XSearch_addWord.2.2.2) := rfl
set_option maxRecDepth 100000 in
theorem qMs_52 : lw_tbl[791]? = some (Cond.code Y_XSearch_collectNode.1 Y_XSearch_collectNode.2.1 Y_XSearch_collectNode.2.2.1 Y_XSearch_collectNode.2.2.2) := rfl
set_option maxRecDepth 100000 in
theorem qMs_53 : lw_tbl[787]? = some (Cond.code Y_XSearch_collect.1 Y_XSearch_collect.2.1 Y_XSearch_collect.2.2.1 Y_XSearch_collect.2.2.2) := rfl
set_option maxRecDepth 100000 in
theorem qMs_54 : lw_tbl[811]? = some (Cond.code Y_XSearch_levelOf.1 Y_XSearch_levelOf.2.1 Y_XSearch_levelOf.2.2.1 Y_XSearch_levelOf.2.2.2) := rfl
set_option maxRecDepth 100000 in
theorem qMs_55 : lw_tbl[807]? = some (Cond.code Y_XSearch_levelOfParts.1 Y_XSearch_levelOfParts.2.1 Y_XSearch_levelOfParts.2.2.1 Y_XSearch_levelOfParts.2.2.2) := rfl
set_option maxRecDepth 100000 in
theorem qMs_56 : lw_tbl[803]? = some (Cond.code Y_XSearch_setLevels.1 Y_XSearch_setLevels.2.1 Y_XSearch_setLevels.2.2.1 Y_XSearch_setLevels.2.2.2) := rfl
set_option maxRecDepth 100000 in
theorem qMs_57 : lw_tbl[816]? = some (Cond.code Y_XSearch_arrange.1 Y_XSearch_arrange.2.1 Y_XSearch_arrange.2.2.1 Y_XSearch_arrange.2.2.2) := rfl
set_option maxRecDepth 100000 in
theorem qMs_58 : lw_tbl[821]? = some (Cond.code Y_XSearch_setTruths.1 Y_XSearch_setTruths.2.1 Y_XSearch_setTruths.2.2.1 Y_XSearch_setTruths.2.2.2) := rfl
set_option maxRecDepth 100000 in
theorem qMs_59 : lw_tbl[832]? = some (Cond.code Y_XSearch_reckonLevel.1 Y_XSearch_reckonLevel.2.1 Y_XSearch_reckonLevel.2.2.1 Y_XSearch_reckonLevel.2.2.2) := rfl
set_option maxRecDepth 100000 in
theorem qMs_60 : lw_tbl[848]? = some (Cond.code Y_XSearch_statesBelow.1 Y_XSearch_statesBelow.2.1 Y_XSearch_statesBelow.2.2.1 Y_XSearch_statesBelow.2.2.2) := rfl
set_option maxRecDepth 100000 in
theorem qMs_61 : lw_tbl[852]? = some (Cond.code Y_XSearch_withInvariants.1 Y_XSearch_withInvariants.2.1 Y_XSearch_withInvariants.2.2.1 Y_XSearch_withInvariants.2.2.2) := rfl
set_option maxRecDepth 100000 in
theorem qMs_62 : lw_tbl[867]? = some (Cond.code Y_JLong_bitCount.1 Y_JLong_bitCount.2.1 Y_JLong_bitCount.2.2.1 Y_JLong_bitCount.2.2.2) := rfl
set_option maxRecDepth 100000 in
theorem qMs_63 : lw_tbl[874]? = some (Cond.code Y_XSearch_lowestClaim.1 Y_XSearch_lowestClaim.2.1 Y_XSearch_lowestClaim.2.2.1 Y_XSearch_lowestClaim.2.2.2) := rfl
set_option maxRecDepth 100000 in
theorem qMs_64 : lw_tbl[864]? = some (Cond.code Y_XSearch_look.1 Y_XSearch_look.2.1 Y_XSearch_look.2.2.1 Y_XSearch_look.2.2.2) := rfl
set_option maxRecDepth 100000 in
theorem qMs_65 : lw_tbl[881]? = some (Cond.code Y_XSearch_statesOfUse.1 Y_XSearch_statesOfUse.2.1 Y_XSearch_statesOfUse.2.2.1 Y_XSearch_statesOfUse.2.2.2) := rfl
set_option maxRecDepth 100000 in
theorem qMs_66 : lw_tbl[889]? = some (Cond.code Y_XSearch_sameArguments.1 Y_XSearch_sameArguments.2.1 Y_XSearch_sameArguments.2.2.1 Y_XSearch_sameArguments.2.2.2) := rfl
set_option maxRecDepth 100000 in
theorem qMs_67 : lw_tbl[885]? = some (Cond.code Y_XSearch_withFunctions.1 Y_XSearch_withFunctions.2.1 Y_XSearch_withFunctions.2.2.1 Y_XSearch_withFunctions.2.2.2) := rfl
set_option maxRecDepth 100000 in
theorem qMs_68 : lw_tbl[860]? = some (Cond.code Y_XSearch_giveNumbers.1 Y_XSearch_giveNumbers.2.1 Y_XSearch_giveNumbers.2.2.1 Y_XSearch_giveNumbers.2.2.2) := rfl
set_option maxRecDepth 100000 in
theorem qMs_69 : lw_tbl[783]? = some (Cond.code Y_XSearch_findLeast.1 Y_XSearch_findLeast.2.1 Y_XSearch_findLeast.2.2.1 Y_XSearch_findLeast.2.2.2) := rfl
set_option maxRecDepth 100000 in
theorem qMs_70 : lw_tbl[898]? = some (Cond.code Y_XSearch_tell.1 Y_XSearch_tell.2.1 Y_XSearch_tell.2.2.1 Y_XSearch_tell.2.2.2) := rfl
set_option maxRecDepth 100000 in
theorem qMs_71 : lw_tbl[771]? = some (Cond.code Y_XProver_decide.1 Y_XProver_decide.2.1 Y_XProver_decide.2.2.1 Y_XProver_decide.2.2.2) := rfl
set_option maxRecDepth 100000 in
theorem qMs_72 : lw_tbl[90]? = some (Cond.code Y_X_init.1 Y_X_init.2.1 Y_X_init.2.2.1 Y_X_init.2.2.2) := rfl
set_option maxRecDepth 100000 in
theorem qMs_73 : lw_tbl[403]? = some (Cond.code Y_X_requireRoomForElement.1 Y_X_requireRoomForElement.2.1 Y_X_requireRoomForElement.2.2.1 Y_X_requireRoomForElement.2.2.2) := rfl
set_option maxRecDepth 100000 in
theorem qMs_74 : lw_tbl[399]? = some (Cond.code Y_X_word.1 Y_X_word.2.1 Y_X_word.2.2.1 Y_X_word.2.2.2) := rfl
set_option maxRecDepth 100000 in
theorem qMs_75 : lw_tbl[487]? = some (Cond.code Y_X_truth.1 Y_X_truth.2.1 Y_X_truth.2.2.1 Y_X_truth.2.2.2) := rfl
set_option maxRecDepth 100000 in
theorem qMs_76 : lw_tbl[500]? = some (Cond.code Y_X_requireNode.1 Y_X_requireNode.2.1 Y_X_requireNode.2.2.1 Y_X_requireNode.2.2.2) := rfl
set_option maxRecDepth 100000 in
theorem qMs_77 : lw_tbl[540]? = some (Cond.code Y_X_requireWord.1 Y_X_requireWord.2.1 Y_X_requireWord.2.2.1 Y_X_requireWord.2.2.2) := rfl
set_option maxRecDepth 100000 in
theorem qMs_78 : lw_tbl[549]? = some (Cond.code Y_X_landed.1 Y_X_landed.2.1 Y_X_landed.2.2.1 Y_X_landed.2.2.2) := rfl
set_option maxRecDepth 100000 in
theorem qMs_79 : lw_tbl[496]? = some (Cond.code Y_X_apply.1 Y_X_apply.2.1 Y_X_apply.2.2.1 Y_X_apply.2.2.2) := rfl
set_option maxRecDepth 100000 in
theorem qMs_80 : lw_tbl[557]? = some (Cond.code Y_X_equal.1 Y_X_equal.2.1 Y_X_equal.2.2.1 Y_X_equal.2.2.2) := rfl
set_option maxRecDepth 100000 in
theorem qMs_81 : lw_tbl[578]? = some (Cond.code Y_X_requireTruth.1 Y_X_requireTruth.2.1 Y_X_requireTruth.2.2.1 Y_X_requireTruth.2.2.2) := rfl
set_option maxRecDepth 100000 in
theorem qMs_82 : lw_tbl[574]? = some (Cond.code Y_X_not.1 Y_X_not.2.1 Y_X_not.2.2.1 Y_X_not.2.2.2) := rfl
set_option maxRecDepth 100000 in
theorem qMs_83 : lw_tbl[591]? = some (Cond.code Y_X_both.1 Y_X_both.2.1 Y_X_both.2.2.1 Y_X_both.2.2.2) := rfl
set_option maxRecDepth 100000 in
theorem qMs_84 : lw_tbl[606]? = some (Cond.code Y_X_requireSameSort.1 Y_X_requireSameSort.2.1 Y_X_requireSameSort.2.2.1 Y_X_requireSameSort.2.2.2) := rfl
set_option maxRecDepth 100000 in
theorem qMs_85 : lw_tbl[602]? = some (Cond.code Y_X_choice.1 Y_X_choice.2.1 Y_X_choice.2.2.1 Y_X_choice.2.2.2) := rfl
set_option maxRecDepth 100000 in
theorem qMs_86 : lw_tbl[622]? = some (Cond.code Y_X_requireElement.1 Y_X_requireElement.2.1 Y_X_requireElement.2.2.1 Y_X_requireElement.2.2.2) := rfl
set_option maxRecDepth 100000 in
theorem qMs_87 : lw_tbl[618]? = some (Cond.code Y_X_next.1 Y_X_next.2.1 Y_X_next.2.2.1 Y_X_next.2.2.2) := rfl
set_option maxRecDepth 100000 in
theorem qMs_88 : lw_tbl[638]? = some (Cond.code Y_X_requireNoFetch.1 Y_X_requireNoFetch.2.1 Y_X_requireNoFetch.2.2.1 Y_X_requireNoFetch.2.2.2) := rfl
set_option maxRecDepth 100000 in
theorem qMs_89 : lw_tbl[634]? = some (Cond.code Y_X_plain.1 Y_X_plain.2.1 Y_X_plain.2.2.1 Y_X_plain.2.2.2) := rfl
set_option maxRecDepth 100000 in
theorem qMs_90 : lw_tbl[668]? = some (Cond.code Y_X_invariant.1 Y_X_invariant.2.1 Y_X_invariant.2.2.1 Y_X_invariant.2.2.2) := rfl
set_option maxRecDepth 100000 in
theorem qMs_91 : lw_tbl[695]? = some (Cond.code Y_X_run.1 Y_X_run.2.1 Y_X_run.2.2.1 Y_X_run.2.2.2) := rfl
set_option maxRecDepth 100000 in
theorem qMs_92 : lw_tbl[905]? = some (Cond.code Y_X_kept.1 Y_X_kept.2.1 Y_X_kept.2.2.1 Y_X_kept.2.2.2) := rfl
set_option maxRecDepth 100000 in
theorem qMs_93 : lw_tbl[922]? = some (Cond.code Y_X_requireFailure.1 Y_X_requireFailure.2.1 Y_X_requireFailure.2.2.1 Y_X_requireFailure.2.2.2) := rfl
set_option maxRecDepth 100000 in
theorem qMs_94 : lw_tbl[918]? = some (Cond.code Y_X_witness.1 Y_X_witness.2.1 Y_X_witness.2.2.1 Y_X_witness.2.2.2) := rfl
set_option maxRecDepth 100000 in
theorem qMs_95 : lw_tbl[931]? = some (Cond.code Y_X_differs.1 Y_X_differs.2.1 Y_X_differs.2.2.1 Y_X_differs.2.2.2) := rfl
set_option maxRecDepth 100000 in
theorem qMs_96 : lw_tbl[938]? = some (Cond.code Y_X_node.1 Y_X_node.2.1 Y_X_node.2.2.1 Y_X_node.2.2.2) := rfl
set_option maxRecDepth 100000 in
theorem qMs_97 : lw_tbl[391]? = some (Cond.code Y_X_count.1 Y_X_count.2.1 Y_X_count.2.2.1 Y_X_count.2.2.2) := rfl
set_option maxRecDepth 100000 in
theorem qMs_98 : lw_tbl[956]? = some (Cond.code Y_XModel_chainOf.1 Y_XModel_chainOf.2.1 Y_XModel_chainOf.2.2.1 Y_XModel_chainOf.2.2.2) := rfl
set_option maxRecDepth 100000 in
theorem qMs_99 : lw_tbl[953]? = some (Cond.code Y_XModel_link.1 Y_XModel_link.2.1 Y_XModel_link.2.2.1 Y_XModel_link.2.2.2) := rfl
set_option maxRecDepth 100000 in
theorem qMs_100 : lw_tbl[949]? = some (Cond.code Y_XModel_begin.1 Y_XModel_begin.2.1 Y_XModel_begin.2.2.1 Y_XModel_begin.2.2.2) := rfl
set_option maxRecDepth 100000 in
theorem qMs_101 : lw_tbl[944]? = some (Cond.code Y_XModel_init.1 Y_XModel_init.2.1 Y_XModel_init.2.2.1 Y_XModel_init.2.2.2) := rfl
set_option maxRecDepth 100000 in
theorem qMs_102 : lw_tbl[1082]? = some (Cond.code Y_XModel_fail.1 Y_XModel_fail.2.1 Y_XModel_fail.2.2.1 Y_XModel_fail.2.2.2) := rfl
set_option maxRecDepth 100000 in
theorem qMs_103 : lw_tbl[1086]? = some (Cond.code Y_XModel_add.1 Y_XModel_add.2.1 Y_XModel_add.2.2.1 Y_XModel_add.2.2.2) := rfl
set_option maxRecDepth 100000 in
theorem qMs_104 : lw_tbl[1078]? = some (Cond.code Y_XModel_addElement.1 Y_XModel_addElement.2.1 Y_XModel_addElement.2.2.1 Y_XModel_addElement.2.2.2) := rfl
set_option maxRecDepth 100000 in
theorem qMs_105 : lw_tbl[1074]? = some (Cond.code Y_XModel_word.1 Y_XModel_word.2.1 Y_XModel_word.2.2.1 Y_XModel_word.2.2.2) := rfl
set_option maxRecDepth 100000 in
theorem qMs_106 : lw_tbl[1070]? = some (Cond.code Y_XModel_thrown.1 Y_XModel_thrown.2.1 Y_XModel_thrown.2.2.1 Y_XModel_thrown.2.2.2) := rfl
set_option maxRecDepth 100000 in
theorem qMs_107 : lw_tbl[1090]? = some (Cond.code Y_XModel_truth.1 Y_XModel_truth.2.1 Y_XModel_truth.2.2.1 Y_XModel_truth.2.2.2) := rfl
set_option maxRecDepth 100000 in
theorem qMs_108 : lw_tbl[1101]? = some (Cond.code Y_XModel_within.1 Y_XModel_within.2.1 Y_XModel_within.2.2.1 Y_XModel_within.2.2.2) := rfl
set_option maxRecDepth 100000 in
theorem qMs_109 : lw_tbl[1098]? = some (Cond.code Y_XModel_isNode.1 Y_XModel_isNode.2.1 Y_XModel_isNode.2.2.1 Y_XModel_isNode.2.2.2) := rfl
set_option maxRecDepth 100000 in
theorem qMs_110 : lw_tbl[1105]? = some (Cond.code Y_XModel_isWord.1 Y_XModel_isWord.2.1 Y_XModel_isWord.2.2.1 Y_XModel_isWord.2.2.2) := rfl
set_option maxRecDepth 100000 in
theorem qMs_111 : lw_tbl[1113]? = some (Cond.code Y_XModel_plainest.1 Y_XModel_plainest.2.1 Y_XModel_plainest.2.2.1 Y_XModel_plainest.2.2.2) := rfl
set_option maxRecDepth 100000 in
theorem qMs_112 : lw_tbl[1117]? = some (Cond.code Y_XModel_find.1 Y_XModel_find.2.1 Y_XModel_find.2.2.1 Y_XModel_find.2.2.2) := rfl
set_option maxRecDepth 100000 in
theorem qMs_113 : lw_tbl[1109]? = some (Cond.code Y_XModel_told.1 Y_XModel_told.2.1 Y_XModel_told.2.2.1 Y_XModel_told.2.2.2) := rfl
set_option maxRecDepth 100000 in
theorem qMs_114 : lw_tbl[1094]? = some (Cond.code Y_XModel_apply.1 Y_XModel_apply.2.1 Y_XModel_apply.2.2.1 Y_XModel_apply.2.2.2) := rfl
set_option maxRecDepth 100000 in
theorem qMs_115 : lw_tbl[1121]? = some (Cond.code Y_XModel_equal.1 Y_XModel_equal.2.1 Y_XModel_equal.2.2.1 Y_XModel_equal.2.2.2) := rfl
set_option maxRecDepth 100000 in
theorem qMs_116 : lw_tbl[1125]? = some (Cond.code Y_XModel_not.1 Y_XModel_not.2.1 Y_XModel_not.2.2.1 Y_XModel_not.2.2.2) := rfl
set_option maxRecDepth 100000 in
theorem qMs_117 : lw_tbl[1129]? = some (Cond.code Y_XModel_both.1 Y_XModel_both.2.1 Y_XModel_both.2.2.1 Y_XModel_both.2.2.2) := rfl
set_option maxRecDepth 100000 in
theorem qMs_118 : lw_tbl[1133]? = some (Cond.code Y_XModel_choice.1 Y_XModel_choice.2.1 Y_XModel_choice.2.2.1 Y_XModel_choice.2.2.2) := rfl
set_option maxRecDepth 100000 in
theorem qMs_119 : lw_tbl[1141]? = some (Cond.code Y_XModel_isElement.1 Y_XModel_isElement.2.1 Y_XModel_isElement.2.2.1 Y_XModel_isElement.2.2.2) := rfl
set_option maxRecDepth 100000 in
theorem qMs_120 : lw_tbl[1145]? = some (Cond.code Y_XModel_isOfSort.1 Y_XModel_isOfSort.2.1 Y_XModel_isOfSort.2.2.1 Y_XModel_isOfSort.2.2.2) := rfl
set_option maxRecDepth 100000 in
theorem qMs_121 : lw_tbl[1137]? = some (Cond.code Y_XModel_next.1 Y_XModel_next.2.1 Y_XModel_next.2.2.1 Y_XModel_next.2.2.2) := rfl
set_option maxRecDepth 100000 in
theorem qMs_122 : lw_tbl[1157]? = some (Cond.code Y_XModel_unmark.1 Y_XModel_unmark.2.1 Y_XModel_unmark.2.2.1 Y_XModel_unmark.2.2.2) := rfl
set_option maxRecDepth 100000 in
theorem qMs_123 : lw_tbl[1161]? = some (Cond.code Y_XModel_mark.1 Y_XModel_mark.2.1 Y_XModel_mark.2.2.1 Y_XModel_mark.2.2.2) := rfl
set_option maxRecDepth 100000 in
theorem qMs_124 : lw_tbl[1165]? = some (Cond.code Y_XModel_markParts.1 Y_XModel_markParts.2.1 Y_XModel_markParts.2.2.1 Y_XModel_markParts.2.2.2) := rfl
set_option maxRecDepth 100000 in
theorem qMs_125 : lw_tbl[1153]? = some (Cond.code Y_XModel_hasFetch.1 Y_XModel_hasFetch.2.1 Y_XModel_hasFetch.2.2.1 Y_XModel_hasFetch.2.2.2) := rfl
set_option maxRecDepth 100000 in
theorem qMs_126 : lw_tbl[1149]? = some (Cond.code Y_XModel_plain.1 Y_XModel_plain.2.1 Y_XModel_plain.2.2.1 Y_XModel_plain.2.2.2) := rfl
set_option maxRecDepth 100000 in
theorem qMs_127 : lw_tbl[1169]? = some (Cond.code Y_XModel_invariant.1 Y_XModel_invariant.2.1 Y_XModel_invariant.2.2.1 Y_XModel_invariant.2.2.2) := rfl
set_option maxRecDepth 100000 in
theorem qMs_128 : lw_tbl[1177]? = some (Cond.code Y_XModel_beginState.1 Y_XModel_beginState.2.1 Y_XModel_beginState.2.2.1 Y_XModel_beginState.2.2.2) := rfl
set_option maxRecDepth 100000 in
theorem qMs_129 : lw_tbl[1193]? = some (Cond.code Y_XModel_get.1 Y_XModel_get.2.1 Y_XModel_get.2.2.1 Y_XModel_get.2.2.2) := rfl
set_option maxRecDepth 100000 in
theorem qMs_130 : lw_tbl[1189]? = some (Cond.code Y_XModel_make.1 Y_XModel_make.2.1 Y_XModel_make.2.2.1 Y_XModel_make.2.2.2) := rfl
set_option maxRecDepth 100000 in
theorem qMs_131 : lw_tbl[1185]? = some (Cond.code Y_XModel_putIn.1 Y_XModel_putIn.2.1 Y_XModel_putIn.2.2.1 Y_XModel_putIn.2.2.2) := rfl
set_option maxRecDepth 100000 in
theorem qMs_132 : lw_tbl[1181]? = some (Cond.code Y_XModel_step.1 Y_XModel_step.2.1 Y_XModel_step.2.2.1 Y_XModel_step.2.2.2) := rfl
set_option maxRecDepth 100000 in
theorem qMs_133 : lw_tbl[1201]? = some (Cond.code Y_XModel_gather.1 Y_XModel_gather.2.1 Y_XModel_gather.2.2.1 Y_XModel_gather.2.2.2) := rfl
set_option maxRecDepth 100000 in
theorem qMs_134 : lw_tbl[1209]? = some (Cond.code Y_XModel_work.1 Y_XModel_work.2.1 Y_XModel_work.2.2.1 Y_XModel_work.2.2.2) := rfl
set_option maxRecDepth 100000 in
theorem qMs_135 : lw_tbl[1213]? = some (Cond.code Y_XModel_areFunctions.1 Y_XModel_areFunctions.2.1 Y_XModel_areFunctions.2.2.1 Y_XModel_areFunctions.2.2.2) := rfl
set_option maxRecDepth 100000 in
theorem qMs_136 : lw_tbl[1217]? = some (Cond.code Y_XModel_failing.1 Y_XModel_failing.2.1 Y_XModel_failing.2.2.1 Y_XModel_failing.2.2.2) := rfl
set_option maxRecDepth 100000 in
theorem qMs_137 : lw_tbl[1221]? = some (Cond.code Y_XModel_goesOn.1 Y_XModel_goesOn.2.1 Y_XModel_goesOn.2.2.1 Y_XModel_goesOn.2.2.2) := rfl
set_option maxRecDepth 100000 in
theorem qMs_138 : lw_tbl[1205]? = some (Cond.code Y_XModel_failsWith.1 Y_XModel_failsWith.2.1 Y_XModel_failsWith.2.2.1 Y_XModel_failsWith.2.2.2) := rfl
set_option maxRecDepth 100000 in
theorem qMs_139 : lw_tbl[1225]? = some (Cond.code Y_XModel_keepState.1 Y_XModel_keepState.2.1 Y_XModel_keepState.2.2.1 Y_XModel_keepState.2.2.2) := rfl
set_option maxRecDepth 100000 in
theorem qMs_140 : lw_tbl[1197]? = some (Cond.code Y_XModel_ask.1 Y_XModel_ask.2.1 Y_XModel_ask.2.2.1 Y_XModel_ask.2.2.2) := rfl
set_option maxRecDepth 100000 in
theorem qMs_141 : lw_tbl[1173]? = some (Cond.code Y_XModel_run.1 Y_XModel_run.2.1 Y_XModel_run.2.2.1 Y_XModel_run.2.2.2) := rfl
set_option maxRecDepth 100000 in
theorem qMs_142 : lw_tbl[1229]? = some (Cond.code Y_XModel_kept.1 Y_XModel_kept.2.1 Y_XModel_kept.2.2.1 Y_XModel_kept.2.2.2) := rfl
set_option maxRecDepth 100000 in
theorem qMs_143 : lw_tbl[1233]? = some (Cond.code Y_XModel_witness.1 Y_XModel_witness.2.1 Y_XModel_witness.2.2.1 Y_XModel_witness.2.2.2) := rfl
set_option maxRecDepth 100000 in
theorem qMs_144 : lw_tbl[1237]? = some (Cond.code Y_XModel_differs.1 Y_XModel_differs.2.1 Y_XModel_differs.2.2.1 Y_XModel_differs.2.2.2) := rfl
set_option maxRecDepth 100000 in
theorem qMs_145 : lw_tbl[1241]? = some (Cond.code Y_XModel_node.1 Y_XModel_node.2.1 Y_XModel_node.2.2.1 Y_XModel_node.2.2.2) := rfl
set_option maxRecDepth 100000 in
theorem qMs_146 : lw_tbl[1245]? = some (Cond.code Y_XModel_count.1 Y_XModel_count.2.1 Y_XModel_count.2.2.1 Y_XModel_count.2.2.2) := rfl
set_option maxRecDepth 100000 in
theorem qMs_147 : lw_tbl[93]? = some (Cond.code ((objectInit, (⟨#[0xb1]⟩ : ByteArray), 1, none) : qY).1 ((objectInit, (⟨#[0xb1]⟩ : ByteArray), 1, none) : qY).2.1 ((objectInit, (⟨#[0xb1]⟩ : ByteArray), 1, none) : qY).2.2.1 ((objectInit, (⟨#[0xb1]⟩ : ByteArray), 1, none) : qY).2.2.2) := rfl
set_option maxRecDepth 100000 in
theorem qMs_148 : lw_tbl[567]? = some (Cond.code ((Lib.Math.max.name, Lib.Math.max.code, 2, (some .int)) : qY).1 ((Lib.Math.max.name, Lib.Math.max.code, 2, (some .int)) : qY).2.1 ((Lib.Math.max.name, Lib.Math.max.code, 2, (some .int)) : qY).2.2.1 ((Lib.Math.max.name, Lib.Math.max.code, 2, (some .int)) : qY).2.2.2) := rfl
set_option maxRecDepth 100000 in
theorem qMs_149 : lw_tbl[564]? = some (Cond.code ((Lib.Math.min.name, Lib.Math.min.code, 2, (some .int)) : qY).1 ((Lib.Math.min.name, Lib.Math.min.code, 2, (some .int)) : qY).2.1 ((Lib.Math.min.name, Lib.Math.min.code, 2, (some .int)) : qY).2.2.1 ((Lib.Math.min.name, Lib.Math.min.code, 2, (some .int)) : qY).2.2.2) := rfl
theorem hd_XLaw_word : qHd Y_XLaw_word = [(0, 8, 11, 13)] := by decide +kernel
set_option maxRecDepth 100000 in
theorem mx_XLaw_word : lw_tbl[394]? = some (Cond.codeWith Y_XLaw_word.1 Y_XLaw_word.2.1 Y_XLaw_word.2.2.1 Y_XLaw_word.2.2.2 [(0, 8, 11, 13)]) := rfl
theorem mw_XLaw_word : Cond.codeWith Y_XLaw_word.1 Y_XLaw_word.2.1 Y_XLaw_word.2.2.1 Y_XLaw_word.2.2.2 (qHd Y_XLaw_word) ∈ lw_tbl := by rw [hd_XLaw_word]; exact List.mem_of_getElem? mx_XLaw_word
theorem hd_XLaw_truth : qHd Y_XLaw_truth = [(0, 8, 11, 13)] := by decide +kernel
set_option maxRecDepth 100000 in
theorem mx_XLaw_truth : lw_tbl[483]? = some (Cond.codeWith Y_XLaw_truth.1 Y_XLaw_truth.2.1 Y_XLaw_truth.2.2.1 Y_XLaw_truth.2.2.2 [(0, 8, 11, 13)]) := rfl
theorem mw_XLaw_truth : Cond.codeWith Y_XLaw_truth.1 Y_XLaw_truth.2.1 Y_XLaw_truth.2.2.1 Y_XLaw_truth.2.2.2 (qHd Y_XLaw_truth) ∈ lw_tbl := by rw [hd_XLaw_truth]; exact List.mem_of_getElem? mx_XLaw_truth
theorem hd_XLaw_apply : qHd Y_XLaw_apply = [(0, 12, 15, 22), (0, 12, 19, 24), (0, 12, 23, 13)] := by decide +kernel
set_option maxRecDepth 100000 in
theorem mx_XLaw_apply : lw_tbl[490]? = some (Cond.codeWith Y_XLaw_apply.1 Y_XLaw_apply.2.1 Y_XLaw_apply.2.2.1 Y_XLaw_apply.2.2.2 [(0, 12, 15, 22), (0, 12, 19, 24), (0, 12, 23, 13)]) := rfl
theorem mw_XLaw_apply : Cond.codeWith Y_XLaw_apply.1 Y_XLaw_apply.2.1 Y_XLaw_apply.2.2.1 Y_XLaw_apply.2.2.2 (qHd Y_XLaw_apply) ∈ lw_tbl := by rw [hd_XLaw_apply]; exact List.mem_of_getElem? mx_XLaw_apply
theorem hd_XLaw_equal : qHd Y_XLaw_equal = [(0, 10, 13, 22), (0, 10, 17, 24), (0, 10, 21, 13)] := by decide +kernel
set_option maxRecDepth 100000 in
theorem mx_XLaw_equal : lw_tbl[553]? = some (Cond.codeWith Y_XLaw_equal.1 Y_XLaw_equal.2.1 Y_XLaw_equal.2.2.1 Y_XLaw_equal.2.2.2 [(0, 10, 13, 22), (0, 10, 17, 24), (0, 10, 21, 13)]) := rfl
theorem mw_XLaw_equal : Cond.codeWith Y_XLaw_equal.1 Y_XLaw_equal.2.1 Y_XLaw_equal.2.2.1 Y_XLaw_equal.2.2.2 (qHd Y_XLaw_equal) ∈ lw_tbl := by rw [hd_XLaw_equal]; exact List.mem_of_getElem? mx_XLaw_equal
theorem hd_XLaw_not : qHd Y_XLaw_not = [(0, 9, 12, 22), (0, 9, 15, 24), (0, 9, 18, 13)] := by decide +kernel
set_option maxRecDepth 100000 in
theorem mx_XLaw_not : lw_tbl[570]? = some (Cond.codeWith Y_XLaw_not.1 Y_XLaw_not.2.1 Y_XLaw_not.2.2.1 Y_XLaw_not.2.2.2 [(0, 9, 12, 22), (0, 9, 15, 24), (0, 9, 18, 13)]) := rfl
theorem mw_XLaw_not : Cond.codeWith Y_XLaw_not.1 Y_XLaw_not.2.1 Y_XLaw_not.2.2.1 Y_XLaw_not.2.2.2 (qHd Y_XLaw_not) ∈ lw_tbl := by rw [hd_XLaw_not]; exact List.mem_of_getElem? mx_XLaw_not
theorem hd_XLaw_both : qHd Y_XLaw_both = [(0, 10, 13, 22), (0, 10, 17, 24), (0, 10, 21, 13)] := by decide +kernel
set_option maxRecDepth 100000 in
theorem mx_XLaw_both : lw_tbl[587]? = some (Cond.codeWith Y_XLaw_both.1 Y_XLaw_both.2.1 Y_XLaw_both.2.2.1 Y_XLaw_both.2.2.2 [(0, 10, 13, 22), (0, 10, 17, 24), (0, 10, 21, 13)]) := rfl
theorem mw_XLaw_both : Cond.codeWith Y_XLaw_both.1 Y_XLaw_both.2.1 Y_XLaw_both.2.2.1 Y_XLaw_both.2.2.2 (qHd Y_XLaw_both) ∈ lw_tbl := by rw [hd_XLaw_both]; exact List.mem_of_getElem? mx_XLaw_both
theorem hd_XLaw_choice : qHd Y_XLaw_choice = [(0, 12, 15, 22), (0, 12, 19, 24), (0, 12, 23, 13)] := by decide +kernel
set_option maxRecDepth 100000 in
theorem mx_XLaw_choice : lw_tbl[598]? = some (Cond.codeWith Y_XLaw_choice.1 Y_XLaw_choice.2.1 Y_XLaw_choice.2.2.1 Y_XLaw_choice.2.2.2 [(0, 12, 15, 22), (0, 12, 19, 24), (0, 12, 23, 13)]) := rfl
theorem mw_XLaw_choice : Cond.codeWith Y_XLaw_choice.1 Y_XLaw_choice.2.1 Y_XLaw_choice.2.2.1 Y_XLaw_choice.2.2.2 (qHd Y_XLaw_choice) ∈ lw_tbl := by rw [hd_XLaw_choice]; exact List.mem_of_getElem? mx_XLaw_choice
theorem hd_XLaw_next : qHd Y_XLaw_next = [(0, 17, 20, 22), (0, 17, 24, 24)] := by decide +kernel
set_option maxRecDepth 100000 in
theorem mx_XLaw_next : lw_tbl[614]? = some (Cond.codeWith Y_XLaw_next.1 Y_XLaw_next.2.1 Y_XLaw_next.2.2.1 Y_XLaw_next.2.2.2 [(0, 17, 20, 22), (0, 17, 24, 24)]) := rfl
theorem mw_XLaw_next : Cond.codeWith Y_XLaw_next.1 Y_XLaw_next.2.1 Y_XLaw_next.2.2.1 Y_XLaw_next.2.2.2 (qHd Y_XLaw_next) ∈ lw_tbl := by rw [hd_XLaw_next]; exact List.mem_of_getElem? mx_XLaw_next
theorem hd_XLaw_plain : qHd Y_XLaw_plain = [(0, 17, 20, 22), (0, 17, 24, 24)] := by decide +kernel
set_option maxRecDepth 100000 in
theorem mx_XLaw_plain : lw_tbl[630]? = some (Cond.codeWith Y_XLaw_plain.1 Y_XLaw_plain.2.1 Y_XLaw_plain.2.2.1 Y_XLaw_plain.2.2.2 [(0, 17, 20, 22), (0, 17, 24, 24)]) := rfl
theorem mw_XLaw_plain : Cond.codeWith Y_XLaw_plain.1 Y_XLaw_plain.2.1 Y_XLaw_plain.2.2.1 Y_XLaw_plain.2.2.2 (qHd Y_XLaw_plain) ∈ lw_tbl := by rw [hd_XLaw_plain]; exact List.mem_of_getElem? mx_XLaw_plain
theorem hd_XLaw_invariant : qHd Y_XLaw_invariant = [(0, 9, 12, 22), (0, 9, 15, 24), (0, 9, 18, 50)] := by decide +kernel
set_option maxRecDepth 100000 in
theorem mx_XLaw_invariant : lw_tbl[663]? = some (Cond.codeWith Y_XLaw_invariant.1 Y_XLaw_invariant.2.1 Y_XLaw_invariant.2.2.1 Y_XLaw_invariant.2.2.2 [(0, 9, 12, 22), (0, 9, 15, 24), (0, 9, 18, 50)]) := rfl
theorem mw_XLaw_invariant : Cond.codeWith Y_XLaw_invariant.1 Y_XLaw_invariant.2.1 Y_XLaw_invariant.2.2.1 Y_XLaw_invariant.2.2.2 (qHd Y_XLaw_invariant) ∈ lw_tbl := by rw [hd_XLaw_invariant]; exact List.mem_of_getElem? mx_XLaw_invariant
theorem hd_XLaw_run : qHd Y_XLaw_run = [(0, 9, 12, 24)] := by decide +kernel
set_option maxRecDepth 100000 in
theorem mx_XLaw_run : lw_tbl[691]? = some (Cond.codeWith Y_XLaw_run.1 Y_XLaw_run.2.1 Y_XLaw_run.2.2.1 Y_XLaw_run.2.2.2 [(0, 9, 12, 24)]) := rfl
theorem mw_XLaw_run : Cond.codeWith Y_XLaw_run.1 Y_XLaw_run.2.1 Y_XLaw_run.2.2.1 Y_XLaw_run.2.2.2 (qHd Y_XLaw_run) ∈ lw_tbl := by rw [hd_XLaw_run]; exact List.mem_of_getElem? mx_XLaw_run
theorem hd_XLaw_kept : qHd Y_XLaw_kept = [(0, 9, 12, 22)] := by decide +kernel
set_option maxRecDepth 100000 in
theorem mx_XLaw_kept : lw_tbl[901]? = some (Cond.codeWith Y_XLaw_kept.1 Y_XLaw_kept.2.1 Y_XLaw_kept.2.2.1 Y_XLaw_kept.2.2.2 [(0, 9, 12, 22)]) := rfl
theorem mw_XLaw_kept : Cond.codeWith Y_XLaw_kept.1 Y_XLaw_kept.2.1 Y_XLaw_kept.2.2.1 Y_XLaw_kept.2.2.2 (qHd Y_XLaw_kept) ∈ lw_tbl := by rw [hd_XLaw_kept]; exact List.mem_of_getElem? mx_XLaw_kept
theorem hd_XLaw_witness : qHd Y_XLaw_witness = [(0, 9, 12, 50), (0, 9, 15, 22)] := by decide +kernel
set_option maxRecDepth 100000 in
theorem mx_XLaw_witness : lw_tbl[914]? = some (Cond.codeWith Y_XLaw_witness.1 Y_XLaw_witness.2.1 Y_XLaw_witness.2.2.1 Y_XLaw_witness.2.2.2 [(0, 9, 12, 50), (0, 9, 15, 22)]) := rfl
theorem mw_XLaw_witness : Cond.codeWith Y_XLaw_witness.1 Y_XLaw_witness.2.1 Y_XLaw_witness.2.2.1 Y_XLaw_witness.2.2.2 (qHd Y_XLaw_witness) ∈ lw_tbl := by rw [hd_XLaw_witness]; exact List.mem_of_getElem? mx_XLaw_witness
theorem hd_XLaw_differs : qHd Y_XLaw_differs = [(0, 8, 11, 50)] := by decide +kernel
set_option maxRecDepth 100000 in
theorem mx_XLaw_differs : lw_tbl[927]? = some (Cond.codeWith Y_XLaw_differs.1 Y_XLaw_differs.2.1 Y_XLaw_differs.2.2.1 Y_XLaw_differs.2.2.2 [(0, 8, 11, 50)]) := rfl
theorem mw_XLaw_differs : Cond.codeWith Y_XLaw_differs.1 Y_XLaw_differs.2.1 Y_XLaw_differs.2.2.1 Y_XLaw_differs.2.2.2 (qHd Y_XLaw_differs) ∈ lw_tbl := by rw [hd_XLaw_differs]; exact List.mem_of_getElem? mx_XLaw_differs
theorem hd_XLaw_node : qHd Y_XLaw_node = [(0, 10, 13, 22)] := by decide +kernel
set_option maxRecDepth 100000 in
theorem mx_XLaw_node : lw_tbl[934]? = some (Cond.codeWith Y_XLaw_node.1 Y_XLaw_node.2.1 Y_XLaw_node.2.2.1 Y_XLaw_node.2.2.2 [(0, 10, 13, 22)]) := rfl
theorem mw_XLaw_node : Cond.codeWith Y_XLaw_node.1 Y_XLaw_node.2.1 Y_XLaw_node.2.2.1 Y_XLaw_node.2.2.2 (qHd Y_XLaw_node) ∈ lw_tbl := by rw [hd_XLaw_node]; exact List.mem_of_getElem? mx_XLaw_node
set_option maxRecDepth 100000 in
theorem qMs_in : ∀ Y ∈ qMs, Cond.code Y.1 Y.2.1 Y.2.2.1 Y.2.2.2 ∈ lw_tbl := List.forall_mem_cons.mpr ⟨List.mem_of_getElem? qMs_0, List.forall_mem_cons.mpr ⟨List.mem_of_getElem? qMs_1, List.forall_mem_cons.mpr ⟨List.mem_of_getElem? qMs_2, List.forall_mem_cons.mpr ⟨List.mem_of_getElem? qMs_3, List.forall_mem_cons.mpr ⟨List.mem_of_getElem? qMs_4, List.forall_mem_cons.mpr ⟨List.mem_of_getElem? qMs_5, List.forall_mem_cons.mpr ⟨List.mem_of_getElem? qMs_6, List.forall_mem_cons.mpr ⟨List.mem_of_getElem? qMs_7, List.forall_mem_cons.mpr ⟨List.mem_of_getElem? qMs_8, List.forall_mem_cons.mpr ⟨List.mem_of_getElem? qMs_9, List.forall_mem_cons.mpr ⟨List.mem_of_getElem? qMs_10, List.forall_mem_cons.mpr ⟨List.mem_of_getElem? qMs_11, List.forall_mem_cons.mpr ⟨List.mem_of_getElem? qMs_12, List.forall_mem_cons.mpr ⟨List.mem_of_getElem? qMs_13, List.forall_mem_cons.mpr ⟨List.mem_of_getElem? qMs_14, List.forall_mem_cons.mpr ⟨List.mem_of_getElem? qMs_15, List.forall_mem_cons.mpr ⟨List.mem_of_getElem? qMs_16, List.forall_mem_cons.mpr ⟨List.mem_of_getElem? qMs_17, List.forall_mem_cons.mpr ⟨List.mem_of_getElem? qMs_18, List.forall_mem_cons.mpr ⟨List.mem_of_getElem? qMs_19, List.forall_mem_cons.mpr ⟨List.mem_of_getElem? qMs_20, List.forall_mem_cons.mpr ⟨List.mem_of_getElem? qMs_21, List.forall_mem_cons.mpr ⟨List.mem_of_getElem? qMs_22, List.forall_mem_cons.mpr ⟨List.mem_of_getElem? qMs_23, List.forall_mem_cons.mpr ⟨List.mem_of_getElem? qMs_24, List.forall_mem_cons.mpr ⟨List.mem_of_getElem? qMs_25, List.forall_mem_cons.mpr ⟨List.mem_of_getElem? qMs_26, List.forall_mem_cons.mpr ⟨List.mem_of_getElem? qMs_27, List.forall_mem_cons.mpr ⟨List.mem_of_getElem? qMs_28, List.forall_mem_cons.mpr ⟨List.mem_of_getElem? qMs_29, List.forall_mem_cons.mpr ⟨List.mem_of_getElem? qMs_30, List.forall_mem_cons.mpr ⟨List.mem_of_getElem? qMs_31, List.forall_mem_cons.mpr ⟨List.mem_of_getElem? qMs_32, List.forall_mem_cons.mpr ⟨List.mem_of_getElem? qMs_33, List.forall_mem_cons.mpr ⟨List.mem_of_getElem? qMs_34, List.forall_mem_cons.mpr ⟨List.mem_of_getElem? qMs_35, List.forall_mem_cons.mpr ⟨List.mem_of_getElem? qMs_36, List.forall_mem_cons.mpr ⟨List.mem_of_getElem? qMs_37, List.forall_mem_cons.mpr ⟨List.mem_of_getElem? qMs_38, List.forall_mem_cons.mpr ⟨List.mem_of_getElem? qMs_39, List.forall_mem_cons.mpr ⟨List.mem_of_getElem? qMs_40, List.forall_mem_cons.mpr ⟨List.mem_of_getElem? qMs_41, List.forall_mem_cons.mpr ⟨List.mem_of_getElem? qMs_42, List.forall_mem_cons.mpr ⟨List.mem_of_getElem? qMs_43, List.forall_mem_cons.mpr ⟨List.mem_of_getElem? qMs_44, List.forall_mem_cons.mpr ⟨List.mem_of_getElem? qMs_45, List.forall_mem_cons.mpr ⟨List.mem_of_getElem? qMs_46, List.forall_mem_cons.mpr ⟨List.mem_of_getElem? qMs_47, List.forall_mem_cons.mpr ⟨List.mem_of_getElem? qMs_48, List.forall_mem_cons.mpr ⟨List.mem_of_getElem? qMs_49, List.forall_mem_cons.mpr ⟨List.mem_of_getElem? qMs_50, List.forall_mem_cons.mpr ⟨List.mem_of_getElem? qMs_51, List.forall_mem_cons.mpr ⟨List.mem_of_getElem? qMs_52, List.forall_mem_cons.mpr ⟨List.mem_of_getElem? qMs_53, List.forall_mem_cons.mpr ⟨List.mem_of_getElem? qMs_54, List.forall_mem_cons.mpr ⟨List.mem_of_getElem? qMs_55, List.forall_mem_cons.mpr ⟨List.mem_of_getElem? qMs_56, List.forall_mem_cons.mpr ⟨List.mem_of_getElem? qMs_57, List.forall_mem_cons.mpr ⟨List.mem_of_getElem? qMs_58, List.forall_mem_cons.mpr ⟨List.mem_of_getElem? qMs_59, List.forall_mem_cons.mpr ⟨List.mem_of_getElem? qMs_60, List.forall_mem_cons.mpr ⟨List.mem_of_getElem? qMs_61, List.forall_mem_cons.mpr ⟨List.mem_of_getElem? qMs_62, List.forall_mem_cons.mpr ⟨List.mem_of_getElem? qMs_63, List.forall_mem_cons.mpr ⟨List.mem_of_getElem? qMs_64, List.forall_mem_cons.mpr ⟨List.mem_of_getElem? qMs_65, List.forall_mem_cons.mpr ⟨List.mem_of_getElem? qMs_66, List.forall_mem_cons.mpr ⟨List.mem_of_getElem? qMs_67, List.forall_mem_cons.mpr ⟨List.mem_of_getElem? qMs_68, List.forall_mem_cons.mpr ⟨List.mem_of_getElem? qMs_69, List.forall_mem_cons.mpr ⟨List.mem_of_getElem? qMs_70, List.forall_mem_cons.mpr ⟨List.mem_of_getElem? qMs_71, List.forall_mem_cons.mpr ⟨List.mem_of_getElem? qMs_72, List.forall_mem_cons.mpr ⟨List.mem_of_getElem? qMs_73, List.forall_mem_cons.mpr ⟨List.mem_of_getElem? qMs_74, List.forall_mem_cons.mpr ⟨List.mem_of_getElem? qMs_75, List.forall_mem_cons.mpr ⟨List.mem_of_getElem? qMs_76, List.forall_mem_cons.mpr ⟨List.mem_of_getElem? qMs_77, List.forall_mem_cons.mpr ⟨List.mem_of_getElem? qMs_78, List.forall_mem_cons.mpr ⟨List.mem_of_getElem? qMs_79, List.forall_mem_cons.mpr ⟨List.mem_of_getElem? qMs_80, List.forall_mem_cons.mpr ⟨List.mem_of_getElem? qMs_81, List.forall_mem_cons.mpr ⟨List.mem_of_getElem? qMs_82, List.forall_mem_cons.mpr ⟨List.mem_of_getElem? qMs_83, List.forall_mem_cons.mpr ⟨List.mem_of_getElem? qMs_84, List.forall_mem_cons.mpr ⟨List.mem_of_getElem? qMs_85, List.forall_mem_cons.mpr ⟨List.mem_of_getElem? qMs_86, List.forall_mem_cons.mpr ⟨List.mem_of_getElem? qMs_87, List.forall_mem_cons.mpr ⟨List.mem_of_getElem? qMs_88, List.forall_mem_cons.mpr ⟨List.mem_of_getElem? qMs_89, List.forall_mem_cons.mpr ⟨List.mem_of_getElem? qMs_90, List.forall_mem_cons.mpr ⟨List.mem_of_getElem? qMs_91, List.forall_mem_cons.mpr ⟨List.mem_of_getElem? qMs_92, List.forall_mem_cons.mpr ⟨List.mem_of_getElem? qMs_93, List.forall_mem_cons.mpr ⟨List.mem_of_getElem? qMs_94, List.forall_mem_cons.mpr ⟨List.mem_of_getElem? qMs_95, List.forall_mem_cons.mpr ⟨List.mem_of_getElem? qMs_96, List.forall_mem_cons.mpr ⟨List.mem_of_getElem? qMs_97, List.forall_mem_cons.mpr ⟨List.mem_of_getElem? qMs_98, List.forall_mem_cons.mpr ⟨List.mem_of_getElem? qMs_99, List.forall_mem_cons.mpr ⟨List.mem_of_getElem? qMs_100, List.forall_mem_cons.mpr ⟨List.mem_of_getElem? qMs_101, List.forall_mem_cons.mpr ⟨List.mem_of_getElem? qMs_102, List.forall_mem_cons.mpr ⟨List.mem_of_getElem? qMs_103, List.forall_mem_cons.mpr ⟨List.mem_of_getElem? qMs_104, List.forall_mem_cons.mpr ⟨List.mem_of_getElem? qMs_105, List.forall_mem_cons.mpr ⟨List.mem_of_getElem? qMs_106, List.forall_mem_cons.mpr ⟨List.mem_of_getElem? qMs_107, List.forall_mem_cons.mpr ⟨List.mem_of_getElem? qMs_108, List.forall_mem_cons.mpr ⟨List.mem_of_getElem? qMs_109, List.forall_mem_cons.mpr ⟨List.mem_of_getElem? qMs_110, List.forall_mem_cons.mpr ⟨List.mem_of_getElem? qMs_111, List.forall_mem_cons.mpr ⟨List.mem_of_getElem? qMs_112, List.forall_mem_cons.mpr ⟨List.mem_of_getElem? qMs_113, List.forall_mem_cons.mpr ⟨List.mem_of_getElem? qMs_114, List.forall_mem_cons.mpr ⟨List.mem_of_getElem? qMs_115, List.forall_mem_cons.mpr ⟨List.mem_of_getElem? qMs_116, List.forall_mem_cons.mpr ⟨List.mem_of_getElem? qMs_117, List.forall_mem_cons.mpr ⟨List.mem_of_getElem? qMs_118, List.forall_mem_cons.mpr ⟨List.mem_of_getElem? qMs_119, List.forall_mem_cons.mpr ⟨List.mem_of_getElem? qMs_120, List.forall_mem_cons.mpr ⟨List.mem_of_getElem? qMs_121, List.forall_mem_cons.mpr ⟨List.mem_of_getElem? qMs_122, List.forall_mem_cons.mpr ⟨List.mem_of_getElem? qMs_123, List.forall_mem_cons.mpr ⟨List.mem_of_getElem? qMs_124, List.forall_mem_cons.mpr ⟨List.mem_of_getElem? qMs_125, List.forall_mem_cons.mpr ⟨List.mem_of_getElem? qMs_126, List.forall_mem_cons.mpr ⟨List.mem_of_getElem? qMs_127, List.forall_mem_cons.mpr ⟨List.mem_of_getElem? qMs_128, List.forall_mem_cons.mpr ⟨List.mem_of_getElem? qMs_129, List.forall_mem_cons.mpr ⟨List.mem_of_getElem? qMs_130, List.forall_mem_cons.mpr ⟨List.mem_of_getElem? qMs_131, List.forall_mem_cons.mpr ⟨List.mem_of_getElem? qMs_132, List.forall_mem_cons.mpr ⟨List.mem_of_getElem? qMs_133, List.forall_mem_cons.mpr ⟨List.mem_of_getElem? qMs_134, List.forall_mem_cons.mpr ⟨List.mem_of_getElem? qMs_135, List.forall_mem_cons.mpr ⟨List.mem_of_getElem? qMs_136, List.forall_mem_cons.mpr ⟨List.mem_of_getElem? qMs_137, List.forall_mem_cons.mpr ⟨List.mem_of_getElem? qMs_138, List.forall_mem_cons.mpr ⟨List.mem_of_getElem? qMs_139, List.forall_mem_cons.mpr ⟨List.mem_of_getElem? qMs_140, List.forall_mem_cons.mpr ⟨List.mem_of_getElem? qMs_141, List.forall_mem_cons.mpr ⟨List.mem_of_getElem? qMs_142, List.forall_mem_cons.mpr ⟨List.mem_of_getElem? qMs_143, List.forall_mem_cons.mpr ⟨List.mem_of_getElem? qMs_144, List.forall_mem_cons.mpr ⟨List.mem_of_getElem? qMs_145, List.forall_mem_cons.mpr ⟨List.mem_of_getElem? qMs_146, List.forall_mem_cons.mpr ⟨List.mem_of_getElem? qMs_147, List.forall_mem_cons.mpr ⟨List.mem_of_getElem? qMs_148, List.forall_mem_cons.mpr ⟨List.mem_of_getElem? qMs_149, fun _ h => absurd h List.not_mem_nil⟩⟩⟩⟩⟩⟩⟩⟩⟩⟩⟩⟩⟩⟩⟩⟩⟩⟩⟩⟩⟩⟩⟩⟩⟩⟩⟩⟩⟩⟩⟩⟩⟩⟩⟩⟩⟩⟩⟩⟩⟩⟩⟩⟩⟩⟩⟩⟩⟩⟩⟩⟩⟩⟩⟩⟩⟩⟩⟩⟩⟩⟩⟩⟩⟩⟩⟩⟩⟩⟩⟩⟩⟩⟩⟩⟩⟩⟩⟩⟩⟩⟩⟩⟩⟩⟩⟩⟩⟩⟩⟩⟩⟩⟩⟩⟩⟩⟩⟩⟩⟩⟩⟩⟩⟩⟩⟩⟩⟩⟩⟩⟩⟩⟩⟩⟩⟩⟩⟩⟩⟩⟩⟩⟩⟩⟩⟩⟩⟩⟩⟩⟩⟩⟩⟩⟩⟩⟩⟩⟩⟩⟩⟩⟩⟩⟩⟩⟩⟩⟩
theorem qTT_all : qTT.all goodWord = true := by decide +kernel
theorem qTT_good : ∀ w ∈ qTT, goodWord w = true := fun w h => List.all_eq_true.mp qTT_all w h
def qNl : Cond → Bool
  | .fieldLinkNest .. => true
  | .methodLinkNest .. => true
  | _ => false
theorem qNN_all : qNN.all qNl = true := by decide +kernel
theorem qNN_warm : ∀ w ∈ qNN, ∀ {s U : State}, s.WarmedH U.vm → va_Nw w s → va_Nw w U := by
  intro w hw s U hW h
  have h1 := List.all_eq_true.mp qNN_all w hw
  cases w with
  | fieldLinkNest a i b n d h9 => exact va_Nw.warmF hW h
  | methodLinkNest a i x h9 => exact va_Nw.warmM hW h
  | _ => cases h1
theorem qCl_all : (qCl.all fun q => (u_ws q.1 q.2.1 q.2.2).all (fun w => decide (w ∈ qTT))) = true := by decide +kernel
theorem qCl_ws : ∀ (ci : Nat) (C : String) (T : u_T) (N : Nat), qCl[ci]? = some (C, T, N) → ∀ w ∈ u_ws C T N, w ∈ qTT := by
  intro ci C T N h w hw
  have h1 := List.all_eq_true.mp qCl_all _ (List.mem_of_getElem? h)
  exact of_decide_eq_true (List.all_eq_true.mp h1 w hw)
theorem qTy_all : ∀ ci, ci < 9 → ∀ k, k < ((qCl[ci]?).map (fun q => q.2.2)).getD 0 → parseFieldDescriptor (((qCl.getD ci ("", fun _ => ("", "", "", false), 0)).2.1 k).2.2.1) = some (qTy ci k) := by decide +kernel
theorem qTy_ok : ∀ (ci : Nat) (C : String) (T : u_T) (N : Nat), qCl[ci]? = some (C, T, N) → ∀ k, k < N → parseFieldDescriptor (T k).2.2.1 = some (qTy ci k) := by
  intro ci C T N h k hk
  have hc : ci < 9 := by
    rcases Nat.lt_or_ge ci 9 with q | q
    · exact q
    · rw [List.getElem?_eq_none (by exact q)] at h; cases h
  have h1 := qTy_all ci hc k (by rw [h]; exact hk)
  have e9 : qCl.getD ci ("", fun _ => ("", "", "", false), 0) = (C, T, N) := by simp [List.getD, h]
  rw [e9] at h1
  exact h1
theorem qNm_all : ∀ ci, ci < 9 → ∀ a, a < ((qCl[ci]?).map (fun q => q.2.2)).getD 0 → ∀ b, b < ((qCl[ci]?).map (fun q => q.2.2)).getD 0 → a ≠ b → ((qCl.getD ci ("", fun _ => ("", "", "", false), 0)).2.1 a).2.1 ≠ ((qCl.getD ci ("", fun _ => ("", "", "", false), 0)).2.1 b).2.1 := by decide +kernel
theorem qNm_ok : ∀ (ci : Nat) (C : String) (T : u_T) (N : Nat), qCl[ci]? = some (C, T, N) → ∀ a, a < N → ∀ b, b < N → a ≠ b → (T a).2.1 ≠ (T b).2.1 := by
  intro ci C T N h a ha b hb hab
  have hc : ci < 9 := by
    rcases Nat.lt_or_ge ci 9 with q | q
    · exact q
    · rw [List.getElem?_eq_none (by exact q)] at h; cases h
  have h1 := qNm_all ci hc a (by rw [h]; exact ha) b (by rw [h]; exact hb) hab
  have e9 : qCl.getD ci ("", fun _ => ("", "", "", false), 0) = (C, T, N) := by simp [List.getD, h]
  rw [e9] at h1
  exact h1
theorem qAr_i : Cond.arrayClass .int ∈ qTT := (List.mem_of_getElem? (i := 718) (by decide +kernel))
theorem qAr_z : Cond.arrayClass .boolean ∈ qTT := (List.mem_of_getElem? (i := 719) (by decide +kernel))
theorem qAr_l : Cond.arrayClass .long ∈ qTT := (List.mem_of_getElem? (i := 720) (by decide +kernel))
theorem qOb : Cond.instanceMethod objectInit ∈ qTT := (List.mem_of_getElem? (i := 717) (by decide +kernel))
theorem qObC : ((objectInit, (⟨#[0xb1]⟩ : ByteArray), 1, none) : qY) ∈ qMs := (List.mem_of_getElem? (i := 147) rfl)
def qCol (j : Nat) : Int64 := [(-6148914691236517206 : Int64), (-3689348814741910324 : Int64), (-1085102592571150096 : Int64), (-71777214294589696 : Int64), (-281470681808896 : Int64), (-4294967296 : Int64)].getD j 0
/-- a static of references that nobody writes, and where it lies -/
def qZr (C n d : String) (A : Nat → Prop) (U : State) (H : Heap) : Prop := va_Zq C n d A U H ∧ ∃ (c : ClassId) (k : Class) (i : Nat) (f : Field) (a : Nat) (cell : Cell), U.vm.findClass C = some c ∧ U.fieldFound? C n d = some (c, k, i, f) ∧ f.isStatic = true ∧ k.statics = some a ∧ H[a]? = some cell ∧ cell.vm.isStatics = true ∧ cell.cls = c ∧ f.slot < cell.slots.size ∧ k.staticTypes[f.slot]? = some f.type ∧ ¬ A a
theorem qZr.moved {C n d : String} {A : Nat → Prop} {u U : State} {H : Heap} (hvm : u.vm.Alike U.vm) (h : qZr C n d A u H) : qZr C n d A U H := by
  obtain ⟨h0, c, k, i, f, a, cell, h1, h2, h3, h4, h5, h6, h7, h8, h9, h10⟩ := h
  obtain ⟨k', hi', he⟩ := State.fieldFound?_setVm hvm h2
  exact ⟨va_Zq.moved hvm h0, c, k', i, f, a, cell, by rw [hvm.findClass]; exact h1, hi', h3, by rw [he]; exact h4, h5, h6, h7, h8, by rw [he]; exact h9, h10⟩
theorem qZr.kept {C n d : String} {A : Nat → Prop} {U : State} {H H1 : Heap} (h : qZr C n d A U H) (hq : ∀ a : Nat, a < H.size → ¬ A a → H1[a]? = H[a]?) : qZr C n d A U H1 := by
  obtain ⟨h0, c, k, i, f, a, cell, h1, h2, h3, h4, h5, h6, h7, h8, h9, h10⟩ := h
  exact ⟨h0.kept hq, c, k, i, f, a, cell, h1, h2, h3, h4, by rw [hq a (Array.getElem?_eq_some_iff.mp h5).1 h10]; exact h5, h6, h7, h8, h9, h10⟩
/-- words of the tables that stay under warmer ones -/
def qGv : Cond → Bool
  | .declares _ => true
  | .castable _ _ => true
  | _ => false
def qGw (w : Cond) : Bool := goodWord w || qGv w
theorem qGw_good {w : Cond} (h : goodWord w = true) : qGw w = true := by unfold qGw; rw [h]; rfl
theorem qGw_at {a' : Array Value} {s U : State} (hW : s.WarmedH U.vm) {w : Cond} (hg : qGw w = true) (h : w.before #[] s = true) : w.before a' U = true := by
  by_cases hw : goodWord w = true
  · exact word_at hW (good_of_word hw) h
  · have h1 : qGv w = true := by
      unfold qGw at hg
      rw [Bool.or_eq_true] at hg
      exact hg.resolve_left hw
    cases w with
    | declares x => exact va_Nw.use rfl (va_Nw.warmD hW h)
    | castable C T => exact va_Nw.use rfl (va_Nw.warmC hW h)
    | _ => cases h1
/-- what the statics and the old cells hold all along -/
def qSt (g : qG) (U : State) (H : Heap) : Prop :=
  ((∀ w ∈ lw_tbl, qGw w = true → w.before #[] U = true) ∧ ∀ q ∈ qNc, va_Nc q.1 q.2 U) ∧
  qZr "java/lang/Throwable" "UNASSIGNED_STACK" "[Ljava/lang/StackTraceElement;" (qA g) U H ∧ qZr "java/lang/Throwable" "SUPPRESSED_SENTINEL" "Ljava/util/List;" (qA g) U H ∧
  (∀ q ∈ qSr, ∃ sa : Nat, vk_R q.1 q.2.1 q.2.2 sa U) ∧
  va_Z "FlushProofs" "COLUMNS" "[J" (.ref g.2.2.2.2) (qA g) U H ∧ va_T .long g.2.2.2.2 6 (fun j => .long (qCol j)) (qA g) U H ∧
  va_X g.2.2.2.1.1 g.2.2.2.1.2.1 g.2.2.2.1.2.2 U H ∧ ¬ qA g g.2.2.2.1.1
theorem qSt.moved {g : qG} {s U : State} {H : Heap} (hW : s.WarmedH U.vm) (h : qSt g s H) : qSt g U H :=
  ⟨⟨fun w hw hg => qGw_at hW hg (h.1.1 w hw hg), fun q hq => va_Nc.moved hW.alike (h.1.2 q hq)⟩, qZr.moved hW.alike h.2.1, qZr.moved hW.alike h.2.2.1, fun q hq => (h.2.2.2.1 q hq).elim fun sa hs => ⟨sa, vk_R.warm hW hs⟩, va_Z.moved hW.alike h.2.2.2.2.1, va_T.moved hW.alike h.2.2.2.2.2.1, va_X.moved hW.alike h.2.2.2.2.2.2.1, h.2.2.2.2.2.2.2⟩
theorem va_X.at {b L : Nat} {xs : Nat → Int32} {U : State} {H : Heap} (h : va_X b L xs U H) : b < H.size := by
  obtain ⟨scr, h1, -⟩ := h
  exact (Array.getElem?_eq_some_iff.mp h1).1
theorem qSt.kept {g : qG} {U : State} {H H1 : Heap} (h : qSt g U H) (hq : ∀ a : Nat, a < H.size → ¬ qA g a → H1[a]? = H[a]?) : qSt g U H1 :=
  ⟨h.1, h.2.1.kept hq, h.2.2.1.kept hq, h.2.2.2.1, h.2.2.2.2.1.kept hq, h.2.2.2.2.2.1.kept hq, h.2.2.2.2.2.2.1.kept (hq _ h.2.2.2.2.2.2.1.at h.2.2.2.2.2.2.2), h.2.2.2.2.2.2.2⟩
