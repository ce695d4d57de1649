/-! names, written by wip/gen/names.py out of the claim's own listing -/
def RC : String := "GoodsTree$Codes"
def FC : u_T := fun k => match k with
  | _ => ("", "", "", false)
def tC : Nat → FieldType := fun k => match k with
  | _ => .int
theorem nC : ∀ a, a < 0 → ∀ b, b < 0 → a ≠ b → (FC a).2.1 ≠ (FC b).2.1 := by decide +kernel
theorem tC_ok : ∀ k, k < 0 → parseFieldDescriptor (FC k).2.2.1 = some (tC k) := by decide +kernel
def RF : String := "GoodsTree$Findings"
def FF : u_T := fun k => match k with
  | 0 => ("GoodsTree$Findings", "codes", "[J", true)
  | 1 => ("GoodsTree$Findings", "points", "[I", true)
  | _ => ("GoodsTree$Findings", "size", "I", false)
def tF : Nat → FieldType := fun k => match k with
  | 0 => .array (.long)
  | 1 => .array (.int)
  | _ => .int
theorem nF : ∀ a, a < 3 → ∀ b, b < 3 → a ≠ b → (FF a).2.1 ≠ (FF b).2.1 := by decide +kernel
theorem tF_ok : ∀ k, k < 3 → parseFieldDescriptor (FF k).2.2.1 = some (tF k) := by decide +kernel
def RP : String := "GoodsTree$Pairs"
def FP : u_T := fun k => match k with
  | 0 => ("GoodsTree$Pairs", "editions", "[I", true)
  | 1 => ("GoodsTree$Pairs", "codes", "[J", true)
  | 2 => ("GoodsTree$Pairs", "marks", "[I", true)
  | 3 => ("GoodsTree$Pairs", "others", "[J", true)
  | _ => ("GoodsTree$Pairs", "size", "I", false)
def tP : Nat → FieldType := fun k => match k with
  | 0 => .array (.int)
  | 1 => .array (.long)
  | 2 => .array (.int)
  | 3 => .array (.long)
  | _ => .int
theorem nP : ∀ a, a < 5 → ∀ b, b < 5 → a ≠ b → (FP a).2.1 ≠ (FP b).2.1 := by decide +kernel
theorem tP_ok : ∀ k, k < 5 → parseFieldDescriptor (FP k).2.2.1 = some (tP k) := by decide +kernel
def RR : String := "GoodsTree$TextReader"
def FR : u_T := fun k => match k with
  | 0 => ("GoodsTree$TextReader", "signs", "[C", true)
  | 1 => ("GoodsTree$TextReader", "words", "[J", true)
  | 2 => ("GoodsTree$TextReader", "wordCount", "I", false)
  | 3 => ("GoodsTree$TextReader", "length", "I", false)
  | 4 => ("GoodsTree$TextReader", "place", "I", false)
  | 5 => ("GoodsTree$TextReader", "failureKind", "I", false)
  | _ => ("GoodsTree$TextReader", "failurePlace", "I", false)
def tR : Nat → FieldType := fun k => match k with
  | 0 => .array (.char)
  | 1 => .array (.long)
  | 2 => .int
  | 3 => .int
  | 4 => .int
  | 5 => .int
  | _ => .int
theorem nR : ∀ a, a < 7 → ∀ b, b < 7 → a ≠ b → (FR a).2.1 ≠ (FR b).2.1 := by decide +kernel
theorem tR_ok : ∀ k, k < 7 → parseFieldDescriptor (FR k).2.2.1 = some (tR k) := by decide +kernel
def RT : String := "GoodsTree$Tree"
def FT : u_T := fun k => match k with
  | 0 => ("GoodsTree$Tree", "codes", "[J", true)
  | 1 => ("GoodsTree$Tree", "dashes", "[I", true)
  | 2 => ("GoodsTree$Tree", "parents", "[I", true)
  | 3 => ("GoodsTree$Tree", "children", "[I", true)
  | 4 => ("GoodsTree$Tree", "wordCounts", "[I", true)
  | 5 => ("GoodsTree$Tree", "words", "[J", true)
  | 6 => ("GoodsTree$Tree", "size", "I", false)
  | _ => ("GoodsTree$Tree", "chapters", "I", false)
def tT : Nat → FieldType := fun k => match k with
  | 0 => .array (.long)
  | 1 => .array (.int)
  | 2 => .array (.int)
  | 3 => .array (.int)
  | 4 => .array (.int)
  | 5 => .array (.long)
  | 6 => .int
  | _ => .int
theorem nT : ∀ a, a < 8 → ∀ b, b < 8 → a ≠ b → (FT a).2.1 ≠ (FT b).2.1 := by decide +kernel
theorem tT_ok : ∀ k, k < 8 → parseFieldDescriptor (FT k).2.2.1 = some (tT k) := by decide +kernel
def RG : String := "GoodsTree"
def FG : u_T := fun k => match k with
  | 0 => ("GoodsTree", "reader", "LGoodsTree$TextReader;", true)
  | 1 => ("GoodsTree", "trees", "[LGoodsTree$Tree;", true)
  | 2 => ("GoodsTree", "notes", "LGoodsTree$Pairs;", true)
  | 3 => ("GoodsTree", "links", "LGoodsTree$Pairs;", true)
  | 4 => ("GoodsTree", "findings", "LGoodsTree$Findings;", true)
  | 5 => ("GoodsTree", "spare", "LGoodsTree$Tree;", false)
  | _ => ("GoodsTree", "present", "I", false)
def tG : Nat → FieldType := fun k => match k with
  | 0 => .object "GoodsTree$TextReader"
  | 1 => .array (.object "GoodsTree$Tree")
  | 2 => .object "GoodsTree$Pairs"
  | 3 => .object "GoodsTree$Pairs"
  | 4 => .object "GoodsTree$Findings"
  | 5 => .object "GoodsTree$Tree"
  | _ => .int
theorem nG : ∀ a, a < 7 → ∀ b, b < 7 → a ≠ b → (FG a).2.1 ≠ (FG b).2.1 := by decide +kernel
theorem tG_ok : ∀ k, k < 7 → parseFieldDescriptor (FG k).2.2.1 = some (tG k) := by decide +kernel
def RM : String := "GoodsTreeModel"
def FM : u_T := fun k => match k with
  | 0 => ("GoodsTreeModel", "thrown", "I", false)
  | 1 => ("GoodsTreeModel", "text", "[I", true)
  | 2 => ("GoodsTreeModel", "signs", "I", false)
  | 3 => ("GoodsTreeModel", "present", "I", false)
  | 4 => ("GoodsTreeModel", "failed", "I", false)
  | 5 => ("GoodsTreeModel", "failedAt", "I", false)
  | 6 => ("GoodsTreeModel", "rows", "[I", true)
  | 7 => ("GoodsTreeModel", "code", "[J", true)
  | 8 => ("GoodsTreeModel", "dashes", "[I", true)
  | 9 => ("GoodsTreeModel", "words", "[I", true)
  | 10 => ("GoodsTreeModel", "word", "[J", true)
  | 11 => ("GoodsTreeModel", "notes", "I", false)
  | 12 => ("GoodsTreeModel", "noteEdition", "[I", true)
  | 13 => ("GoodsTreeModel", "noteCode", "[J", true)
  | 14 => ("GoodsTreeModel", "noteKind", "[I", true)
  | 15 => ("GoodsTreeModel", "noteOther", "[J", true)
  | 16 => ("GoodsTreeModel", "links", "I", false)
  | 17 => ("GoodsTreeModel", "linkFrom", "[I", true)
  | 18 => ("GoodsTreeModel", "linkCode", "[J", true)
  | 19 => ("GoodsTreeModel", "linkTo", "[I", true)
  | 20 => ("GoodsTreeModel", "linkOther", "[J", true)
  | 21 => ("GoodsTreeModel", "found", "I", false)
  | 22 => ("GoodsTreeModel", "foundCode", "[J", true)
  | 23 => ("GoodsTreeModel", "foundPoints", "[I", true)
  | 24 => ("GoodsTreeModel", "asked", "[J", true)
  | 25 => ("GoodsTreeModel", "askedCount", "I", false)
  | _ => ("GoodsTreeModel", "points", "[I", true)
def tM : Nat → FieldType := fun k => match k with
  | 0 => .int
  | 1 => .array (.int)
  | 2 => .int
  | 3 => .int
  | 4 => .int
  | 5 => .int
  | 6 => .array (.int)
  | 7 => .array (.long)
  | 8 => .array (.int)
  | 9 => .array (.int)
  | 10 => .array (.long)
  | 11 => .int
  | 12 => .array (.int)
  | 13 => .array (.long)
  | 14 => .array (.int)
  | 15 => .array (.long)
  | 16 => .int
  | 17 => .array (.int)
  | 18 => .array (.long)
  | 19 => .array (.int)
  | 20 => .array (.long)
  | 21 => .int
  | 22 => .array (.long)
  | 23 => .array (.int)
  | 24 => .array (.long)
  | 25 => .int
  | _ => .array (.int)
theorem nM : ∀ a, a < 27 → ∀ b, b < 27 → a ≠ b → (FM a).2.1 ≠ (FM b).2.1 := by decide +kernel
theorem tM_ok : ∀ k, k < 27 → parseFieldDescriptor (FM k).2.2.1 = some (tM k) := by decide +kernel
abbrev xcl : List vw_C := [(RF, FF, 3), (RF, FF, 3), (RP, FP, 5), (RR, FR, 7), (RT, FT, 8), (RG, FG, 7), (RM, FM, 27)]
def yG_init : MethodName := ⟨"GoodsTree", "<init>", "()V"⟩
def yJO_init : MethodName := ⟨"java/lang/Object", "<init>", "()V"⟩
def yR_init : MethodName := ⟨"GoodsTree$TextReader", "<init>", "()V"⟩
def yP_init : MethodName := ⟨"GoodsTree$Pairs", "<init>", "(I)V"⟩
def yJM_max : MethodName := ⟨"java/lang/Math", "max", "(II)I"⟩
def yF_init : MethodName := ⟨"GoodsTree$Findings", "<init>", "()V"⟩
def yT_init : MethodName := ⟨"GoodsTree$Tree", "<init>", "()V"⟩
def yG_sign : MethodName := ⟨"GoodsTree", "sign", "(I)Z"⟩
def yR_take : MethodName := ⟨"GoodsTree$TextReader", "take", "(I)Z"⟩
def yR_isSign : MethodName := ⟨"GoodsTree$TextReader", "isSign", "(I)Z"⟩
def yR_isDigit : MethodName := ⟨"GoodsTree$TextReader", "isDigit", "(I)Z"⟩
def yR_isLetter : MethodName := ⟨"GoodsTree$TextReader", "isLetter", "(I)Z"⟩
def yG_failure : MethodName := ⟨"GoodsTree", "failure", "(I)I"⟩
def yR_failureKind : MethodName := ⟨"GoodsTree$TextReader", "failureKind", "()I"⟩
def yR_failurePlace : MethodName := ⟨"GoodsTree$TextReader", "failurePlace", "()I"⟩
def yG_edition : MethodName := ⟨"GoodsTree", "edition", "(I)Z"⟩
def yG_isEdition : MethodName := ⟨"GoodsTree", "isEdition", "(I)Z"⟩
def yG_find : MethodName := ⟨"GoodsTree", "find", "(J)I"⟩
def yT_rowOf : MethodName := ⟨"GoodsTree$Tree", "rowOf", "(J)I"⟩
def yG_link : MethodName := ⟨"GoodsTree", "link", "(IJIJ)Z"⟩
def yG_hasCode : MethodName := ⟨"GoodsTree", "hasCode", "(IJ)Z"⟩
def yP_isFull : MethodName := ⟨"GoodsTree$Pairs", "isFull", "()Z"⟩
def yP_holds : MethodName := ⟨"GoodsTree$Pairs", "holds", "(IJIJ)Z"⟩
def yP_matches : MethodName := ⟨"GoodsTree$Pairs", "matches", "(IIJI)Z"⟩
def yP_has : MethodName := ⟨"GoodsTree$Pairs", "has", "(I)Z"⟩
def yP_add : MethodName := ⟨"GoodsTree$Pairs", "add", "(IJIJ)V"⟩
def yG_count : MethodName := ⟨"GoodsTree", "count", "(I)I"⟩
def yR_length : MethodName := ⟨"GoodsTree$TextReader", "length", "()I"⟩
def yP_size : MethodName := ⟨"GoodsTree$Pairs", "size", "()I"⟩
def yF_size : MethodName := ⟨"GoodsTree$Findings", "size", "()I"⟩
def yG_countInEdition : MethodName := ⟨"GoodsTree", "countInEdition", "(I)I"⟩
def yT_size : MethodName := ⟨"GoodsTree$Tree", "size", "()I"⟩
def yT_chapters : MethodName := ⟨"GoodsTree$Tree", "chapters", "()I"⟩
def yL_read : MethodName := ⟨"GoodsTreeLaw", "read", "(LGoodsTree;[J)I"⟩
def yG_read : MethodName := ⟨"GoodsTree", "read", "()I"⟩
def yT_clear : MethodName := ⟨"GoodsTree$Tree", "clear", "()V"⟩
def yR_readRows : MethodName := ⟨"GoodsTree$TextReader", "readRows", "(LGoodsTree$Tree;)Z"⟩
def yR_start : MethodName := ⟨"GoodsTree$TextReader", "start", "()V"⟩
def yR_fail : MethodName := ⟨"GoodsTree$TextReader", "fail", "(II)Z"⟩
def yR_readRow : MethodName := ⟨"GoodsTree$TextReader", "readRow", "(LGoodsTree$Tree;)Z"⟩
def yR_here : MethodName := ⟨"GoodsTree$TextReader", "here", "()C"⟩
def yR_countDashes : MethodName := ⟨"GoodsTree$TextReader", "countDashes", "()I"⟩
def yT_mostDashes : MethodName := ⟨"GoodsTree$Tree", "mostDashes", "()I"⟩
def yT_dashesOf : MethodName := ⟨"GoodsTree$Tree", "dashesOf", "(I)I"⟩
def yT_has : MethodName := ⟨"GoodsTree$Tree", "has", "(I)Z"⟩
def yT_isFull : MethodName := ⟨"GoodsTree$Tree", "isFull", "()Z"⟩
def yR_readCodeAndWords : MethodName := ⟨"GoodsTree$TextReader", "readCodeAndWords", "(LGoodsTree$Tree;I)Z"⟩
def yR_readCode : MethodName := ⟨"GoodsTree$TextReader", "readCode", "()J"⟩
def yT_parentFor : MethodName := ⟨"GoodsTree$Tree", "parentFor", "(I)I"⟩
def yT_fitsBelow : MethodName := ⟨"GoodsTree$Tree", "fitsBelow", "(IJ)Z"⟩
def yC_isChapter : MethodName := ⟨"GoodsTree$Codes", "isChapter", "(J)Z"⟩
def yC_beginsWith : MethodName := ⟨"GoodsTree$Codes", "beginsWith", "(JJ)Z"⟩
def yT_comesBehindLast : MethodName := ⟨"GoodsTree$Tree", "comesBehindLast", "(J)Z"⟩
def yT_codeOf : MethodName := ⟨"GoodsTree$Tree", "codeOf", "(I)J"⟩
def yC_comesBehind : MethodName := ⟨"GoodsTree$Codes", "comesBehind", "(JJ)Z"⟩
def yC_fill : MethodName := ⟨"GoodsTree$Codes", "fill", "(J)J"⟩
def yR_readWords : MethodName := ⟨"GoodsTree$TextReader", "readWords", "(I)Z"⟩
def yR_readWord : MethodName := ⟨"GoodsTree$TextReader", "readWord", "()J"⟩
def yT_add : MethodName := ⟨"GoodsTree$Tree", "add", "(JILGoodsTree$TextReader;)V"⟩
def yR_wordCount : MethodName := ⟨"GoodsTree$TextReader", "wordCount", "()I"⟩
def yJM_min : MethodName := ⟨"java/lang/Math", "min", "(II)I"⟩
def yR_wordAt : MethodName := ⟨"GoodsTree$TextReader", "wordAt", "(I)J"⟩
def yR_clear : MethodName := ⟨"GoodsTree$TextReader", "clear", "()V"⟩
def yJT_init : MethodName := ⟨"java/lang/Throwable", "<init>", "()V"⟩
def yJS_init : MethodName := ⟨"java/lang/IllegalStateException", "<init>", "(Ljava/lang/String;)V"⟩
def yJR_init : MethodName := ⟨"java/lang/RuntimeException", "<init>", "(Ljava/lang/String;)V"⟩
def yJE_init : MethodName := ⟨"java/lang/Exception", "<init>", "(Ljava/lang/String;)V"⟩
def yJT_init2 : MethodName := ⟨"java/lang/Throwable", "<init>", "(Ljava/lang/String;)V"⟩
def yP_dropFrom : MethodName := ⟨"GoodsTree$Pairs", "dropFrom", "(I)V"⟩
def yP_drop : MethodName := ⟨"GoodsTree$Pairs", "drop", "(I)V"⟩
def yP_dropMarked : MethodName := ⟨"GoodsTree$Pairs", "dropMarked", "(I)V"⟩
def yL_row : MethodName := ⟨"GoodsTreeLaw", "row", "(LGoodsTree;II[J)I"⟩
def yG_row : MethodName := ⟨"GoodsTree", "row", "(II)J"⟩
def yJI_init : MethodName := ⟨"java/lang/IndexOutOfBoundsException", "<init>", "(Ljava/lang/String;)V"⟩
def yT_wordsOf : MethodName := ⟨"GoodsTree$Tree", "wordsOf", "(I)I"⟩
def yT_parentOf : MethodName := ⟨"GoodsTree$Tree", "parentOf", "(I)I"⟩
def yT_childrenOf : MethodName := ⟨"GoodsTree$Tree", "childrenOf", "(I)I"⟩
def yL_note : MethodName := ⟨"GoodsTreeLaw", "note", "(LGoodsTree;JIJ[J)I"⟩
def yG_note : MethodName := ⟨"GoodsTree", "note", "(JIJ)I"⟩
def yJA_init : MethodName := ⟨"java/lang/IllegalArgumentException", "<init>", "(Ljava/lang/String;)V"⟩
def yP_sizeFrom : MethodName := ⟨"GoodsTree$Pairs", "sizeFrom", "(I)I"⟩
def yL_noted : MethodName := ⟨"GoodsTreeLaw", "noted", "(LGoodsTree;JI[J)I"⟩
def yG_noted : MethodName := ⟨"GoodsTree", "noted", "(JI)I"⟩
def yP_nth : MethodName := ⟨"GoodsTree$Pairs", "nth", "(IJII)I"⟩
def yP_otherAt : MethodName := ⟨"GoodsTree$Pairs", "otherAt", "(I)J"⟩
def yP_markAt : MethodName := ⟨"GoodsTree$Pairs", "markAt", "(I)I"⟩
def yL_became : MethodName := ⟨"GoodsTreeLaw", "became", "(LGoodsTree;IJI[J)I"⟩
def yG_became : MethodName := ⟨"GoodsTree", "became", "(IJI)I"⟩
def yG_checkEditions : MethodName := ⟨"GoodsTree", "checkEditions", "(II)V"⟩
def yG_checkCode : MethodName := ⟨"GoodsTree", "checkCode", "(IJ)V"⟩
def yP_sizeTo : MethodName := ⟨"GoodsTree$Pairs", "sizeTo", "(IIJ)I"⟩
def yL_linked : MethodName := ⟨"GoodsTreeLaw", "linked", "(LGoodsTree;IJII[J)I"⟩
def yG_linked : MethodName := ⟨"GoodsTree", "linked", "(IJII)J"⟩
def yL_lost : MethodName := ⟨"GoodsTreeLaw", "lost", "(LGoodsTree;II[J)I"⟩
def yG_lost : MethodName := ⟨"GoodsTree", "lost", "(II)I"⟩
def yL_search : MethodName := ⟨"GoodsTreeLaw", "search", "(LGoodsTree;[J)I"⟩
def yG_search : MethodName := ⟨"GoodsTree", "search", "()I"⟩
def yR_readAsked : MethodName := ⟨"GoodsTree$TextReader", "readAsked", "()Z"⟩
def yF_clear : MethodName := ⟨"GoodsTree$Findings", "clear", "()V"⟩
def yG_pointsOf : MethodName := ⟨"GoodsTree", "pointsOf", "(LGoodsTree$Tree;I)I"⟩
def yT_pointsFor : MethodName := ⟨"GoodsTree$Tree", "pointsFor", "(IJ)I"⟩
def yT_hasWord : MethodName := ⟨"GoodsTree$Tree", "hasWord", "(IJ)Z"⟩
def yG_isLeftOut : MethodName := ⟨"GoodsTree", "isLeftOut", "(LGoodsTree$Tree;I)Z"⟩
def yF_add : MethodName := ⟨"GoodsTree$Findings", "add", "(JI)V"⟩
def yL_found : MethodName := ⟨"GoodsTreeLaw", "found", "(LGoodsTree;II[J)I"⟩
def yG_found : MethodName := ⟨"GoodsTree", "found", "(II)J"⟩
def yF_has : MethodName := ⟨"GoodsTree$Findings", "has", "(I)Z"⟩
def yF_codeOf : MethodName := ⟨"GoodsTree$Findings", "codeOf", "(I)J"⟩
def yF_pointsAt : MethodName := ⟨"GoodsTree$Findings", "pointsAt", "(I)I"⟩
def yM_init : MethodName := ⟨"GoodsTreeModel", "<init>", "()V"⟩
def yM_thrown : MethodName := ⟨"GoodsTreeModel", "thrown", "()I"⟩
def yM_sign : MethodName := ⟨"GoodsTreeModel", "sign", "(I)Z"⟩
def yM_in : MethodName := ⟨"GoodsTreeModel", "in", "(III)Z"⟩
def yM_isLetter : MethodName := ⟨"GoodsTreeModel", "isLetter", "(I)Z"⟩
def yM_isDigit : MethodName := ⟨"GoodsTreeModel", "isDigit", "(I)Z"⟩
def yM_read : MethodName := ⟨"GoodsTreeModel", "read", "()I"⟩
def yM_reads : MethodName := ⟨"GoodsTreeModel", "reads", "()Z"⟩
def yM_readsCode : MethodName := ⟨"GoodsTreeModel", "readsCode", "(I)Z"⟩
def yM_run : MethodName := ⟨"GoodsTreeModel", "run", "(II)I"⟩
def yM_fails : MethodName := ⟨"GoodsTreeModel", "fails", "(II)Z"⟩
def yM_codeAt : MethodName := ⟨"GoodsTreeModel", "codeAt", "(II)J"⟩
def yM_above : MethodName := ⟨"GoodsTreeModel", "above", "(II)I"⟩
def yM_begins : MethodName := ⟨"GoodsTreeModel", "begins", "(JJ)Z"⟩
def yM_digitsOf : MethodName := ⟨"GoodsTreeModel", "digitsOf", "(J)I"⟩
def yM_cut : MethodName := ⟨"GoodsTreeModel", "cut", "(JI)J"⟩
def yM_isBehind : MethodName := ⟨"GoodsTreeModel", "isBehind", "(JJ)Z"⟩
def yM_readsWords : MethodName := ⟨"GoodsTreeModel", "readsWords", "(III)I"⟩
def yM_wordAt : MethodName := ⟨"GoodsTreeModel", "wordAt", "(II)J"⟩
def yM_refuse : MethodName := ⟨"GoodsTreeModel", "refuse", "(I)I"⟩
def yM_forget : MethodName := ⟨"GoodsTreeModel", "forget", "(I)V"⟩
def yM_failure : MethodName := ⟨"GoodsTreeModel", "failure", "(I)I"⟩
def yM_edition : MethodName := ⟨"GoodsTreeModel", "edition", "(I)Z"⟩
def yM_isEdition : MethodName := ⟨"GoodsTreeModel", "isEdition", "(I)Z"⟩
def yM_row : MethodName := ⟨"GoodsTreeModel", "row", "(II)J"⟩
def yM_below : MethodName := ⟨"GoodsTreeModel", "below", "(II)I"⟩
def yM_find : MethodName := ⟨"GoodsTreeModel", "find", "(J)I"⟩
def yM_rowOf : MethodName := ⟨"GoodsTreeModel", "rowOf", "(IJ)I"⟩
def yM_note : MethodName := ⟨"GoodsTreeModel", "note", "(JIJ)I"⟩
def yM_hasNote : MethodName := ⟨"GoodsTreeModel", "hasNote", "(JIJ)Z"⟩
def yM_isNote : MethodName := ⟨"GoodsTreeModel", "isNote", "(IJIJ)Z"⟩
def yM_notesOf : MethodName := ⟨"GoodsTreeModel", "notesOf", "(I)I"⟩
def yM_noted : MethodName := ⟨"GoodsTreeModel", "noted", "(JI)I"⟩
def yM_link : MethodName := ⟨"GoodsTreeModel", "link", "(IJIJ)Z"⟩
def yM_isLink : MethodName := ⟨"GoodsTreeModel", "isLink", "(IIJI)Z"⟩
def yM_became : MethodName := ⟨"GoodsTreeModel", "became", "(IJI)I"⟩
def yM_isOf : MethodName := ⟨"GoodsTreeModel", "isOf", "(IJI)Z"⟩
def yM_linksOf : MethodName := ⟨"GoodsTreeModel", "linksOf", "(IJI)I"⟩
def yM_linksTo : MethodName := ⟨"GoodsTreeModel", "linksTo", "(IIJ)I"⟩
def yM_linked : MethodName := ⟨"GoodsTreeModel", "linked", "(IJII)J"⟩
def yM_lost : MethodName := ⟨"GoodsTreeModel", "lost", "(II)I"⟩
def yM_search : MethodName := ⟨"GoodsTreeModel", "search", "()I"⟩
def yM_pointsOf : MethodName := ⟨"GoodsTreeModel", "pointsOf", "(I)I"⟩
def yM_has : MethodName := ⟨"GoodsTreeModel", "has", "(IJ)Z"⟩
def yM_found : MethodName := ⟨"GoodsTreeModel", "found", "(II)J"⟩
def yM_count : MethodName := ⟨"GoodsTreeModel", "count", "(I)I"⟩
def yJT_fillInStackTrace : MethodName := ⟨"java/lang/Throwable", "fillInStackTrace", "()Ljava/lang/Throwable;"⟩
def yJT_fillInStackTrace2 : MethodName := ⟨"java/lang/Throwable", "fillInStackTrace", "(I)Ljava/lang/Throwable;"⟩
abbrev bG_init : ByteArray := prog_1_method_1_code
abbrev bJO_init : ByteArray := object_method_1_code
abbrev bR_init : ByteArray := prog_5_method_1_code
abbrev bP_init : ByteArray := prog_4_method_1_code
abbrev bJM_max : ByteArray := prog_13_method_65_code
abbrev bF_init : ByteArray := prog_3_method_1_code
abbrev bT_init : ByteArray := prog_6_method_1_code
abbrev bG_sign : ByteArray := prog_1_method_2_code
abbrev bR_take : ByteArray := prog_5_method_8_code
abbrev bR_isSign : ByteArray := prog_5_method_20_code
abbrev bR_isDigit : ByteArray := prog_5_method_21_code
abbrev bR_isLetter : ByteArray := prog_5_method_22_code
abbrev bG_failure : ByteArray := prog_1_method_4_code
abbrev bR_failureKind : ByteArray := prog_5_method_3_code
abbrev bR_failurePlace : ByteArray := prog_5_method_4_code
abbrev bG_edition : ByteArray := prog_1_method_5_code
abbrev bG_isEdition : ByteArray := prog_1_method_18_code
abbrev bG_find : ByteArray := prog_1_method_7_code
abbrev bT_rowOf : ByteArray := prog_6_method_12_code
abbrev bG_link : ByteArray := prog_1_method_10_code
abbrev bG_hasCode : ByteArray := prog_1_method_19_code
abbrev bP_isFull : ByteArray := prog_4_method_3_code
abbrev bP_holds : ByteArray := prog_4_method_4_code
abbrev bP_matches : ByteArray := prog_4_method_6_code
abbrev bP_has : ByteArray := prog_4_method_15_code
abbrev bP_add : ByteArray := prog_4_method_5_code
abbrev bG_count : ByteArray := prog_1_method_16_code
abbrev bR_length : ByteArray := prog_5_method_2_code
abbrev bP_size : ByteArray := prog_4_method_2_code
abbrev bF_size : ByteArray := prog_3_method_3_code
abbrev bG_countInEdition : ByteArray := prog_1_method_17_code
abbrev bT_size : ByteArray := prog_6_method_3_code
abbrev bT_chapters : ByteArray := prog_6_method_4_code
abbrev bL_read : ByteArray := method_3_code
abbrev bG_read : ByteArray := prog_1_method_3_code
abbrev bT_clear : ByteArray := prog_6_method_2_code
abbrev bR_readRows : ByteArray := prog_5_method_9_code
abbrev bR_start : ByteArray := prog_5_method_11_code
abbrev bR_fail : ByteArray := prog_5_method_12_code
abbrev bR_readRow : ByteArray := prog_5_method_13_code
abbrev bR_here : ByteArray := prog_5_method_19_code
abbrev bR_countDashes : ByteArray := prog_5_method_15_code
abbrev bT_mostDashes : ByteArray := prog_6_method_13_code
abbrev bT_dashesOf : ByteArray := prog_6_method_8_code
abbrev bT_has : ByteArray := prog_6_method_6_code
abbrev bT_isFull : ByteArray := prog_6_method_5_code
abbrev bR_readCodeAndWords : ByteArray := prog_5_method_14_code
abbrev bR_readCode : ByteArray := prog_5_method_16_code
abbrev bT_parentFor : ByteArray := prog_6_method_14_code
abbrev bT_fitsBelow : ByteArray := prog_6_method_15_code
abbrev bC_isChapter : ByteArray := prog_2_method_2_code
abbrev bC_beginsWith : ByteArray := prog_2_method_3_code
abbrev bT_comesBehindLast : ByteArray := prog_6_method_16_code
abbrev bT_codeOf : ByteArray := prog_6_method_7_code
abbrev bC_comesBehind : ByteArray := prog_2_method_4_code
abbrev bC_fill : ByteArray := prog_2_method_5_code
abbrev bR_readWords : ByteArray := prog_5_method_17_code
abbrev bR_readWord : ByteArray := prog_5_method_18_code
abbrev bT_add : ByteArray := prog_6_method_17_code
abbrev bR_wordCount : ByteArray := prog_5_method_5_code
abbrev bJM_min : ByteArray := prog_13_method_69_code
abbrev bR_wordAt : ByteArray := prog_5_method_6_code
abbrev bR_clear : ByteArray := prog_5_method_7_code
abbrev bJT_init : ByteArray := prog_16_method_1_code
abbrev bJS_init : ByteArray := prog_11_method_2_code
abbrev bJR_init : ByteArray := prog_14_method_2_code
abbrev bJE_init : ByteArray := prog_9_method_2_code
abbrev bJT_init2 : ByteArray := prog_16_method_2_code
abbrev bP_dropFrom : ByteArray := prog_4_method_12_code
abbrev bP_drop : ByteArray := prog_4_method_14_code
abbrev bP_dropMarked : ByteArray := prog_4_method_13_code
abbrev bL_row : ByteArray := method_4_code
abbrev bG_row : ByteArray := prog_1_method_6_code
abbrev bJI_init : ByteArray := prog_12_method_2_code
abbrev bT_wordsOf : ByteArray := prog_6_method_11_code
abbrev bT_parentOf : ByteArray := prog_6_method_9_code
abbrev bT_childrenOf : ByteArray := prog_6_method_10_code
abbrev bL_note : ByteArray := method_5_code
abbrev bG_note : ByteArray := prog_1_method_8_code
abbrev bJA_init : ByteArray := prog_10_method_2_code
abbrev bP_sizeFrom : ByteArray := prog_4_method_10_code
abbrev bL_noted : ByteArray := method_6_code
abbrev bG_noted : ByteArray := prog_1_method_9_code
abbrev bP_nth : ByteArray := prog_4_method_7_code
abbrev bP_otherAt : ByteArray := prog_4_method_9_code
abbrev bP_markAt : ByteArray := prog_4_method_8_code
abbrev bL_became : ByteArray := method_7_code
abbrev bG_became : ByteArray := prog_1_method_11_code
abbrev bG_checkEditions : ByteArray := prog_1_method_20_code
abbrev bG_checkCode : ByteArray := prog_1_method_21_code
abbrev bP_sizeTo : ByteArray := prog_4_method_11_code
abbrev bL_linked : ByteArray := method_8_code
abbrev bG_linked : ByteArray := prog_1_method_12_code
abbrev bL_lost : ByteArray := method_9_code
abbrev bG_lost : ByteArray := prog_1_method_13_code
abbrev bL_search : ByteArray := method_10_code
abbrev bG_search : ByteArray := prog_1_method_14_code
abbrev bR_readAsked : ByteArray := prog_5_method_10_code
abbrev bF_clear : ByteArray := prog_3_method_2_code
abbrev bG_pointsOf : ByteArray := prog_1_method_22_code
abbrev bT_pointsFor : ByteArray := prog_6_method_18_code
abbrev bT_hasWord : ByteArray := prog_6_method_19_code
abbrev bG_isLeftOut : ByteArray := prog_1_method_23_code
abbrev bF_add : ByteArray := prog_3_method_7_code
abbrev bL_found : ByteArray := method_11_code
abbrev bG_found : ByteArray := prog_1_method_15_code
abbrev bF_has : ByteArray := prog_3_method_4_code
abbrev bF_codeOf : ByteArray := prog_3_method_5_code
abbrev bF_pointsAt : ByteArray := prog_3_method_6_code
abbrev bM_init : ByteArray := prog_8_method_1_code
abbrev bM_thrown : ByteArray := prog_8_method_2_code
abbrev bM_sign : ByteArray := prog_8_method_8_code
abbrev bM_in : ByteArray := prog_8_method_4_code
abbrev bM_isLetter : ByteArray := prog_8_method_6_code
abbrev bM_isDigit : ByteArray := prog_8_method_7_code
abbrev bM_read : ByteArray := prog_8_method_22_code
abbrev bM_reads : ByteArray := prog_8_method_20_code
abbrev bM_readsCode : ByteArray := prog_8_method_18_code
abbrev bM_run : ByteArray := prog_8_method_10_code
abbrev bM_fails : ByteArray := prog_8_method_9_code
abbrev bM_codeAt : ByteArray := prog_8_method_12_code
abbrev bM_above : ByteArray := prog_8_method_17_code
abbrev bM_begins : ByteArray := prog_8_method_15_code
abbrev bM_digitsOf : ByteArray := prog_8_method_13_code
abbrev bM_cut : ByteArray := prog_8_method_14_code
abbrev bM_isBehind : ByteArray := prog_8_method_16_code
abbrev bM_readsWords : ByteArray := prog_8_method_19_code
abbrev bM_wordAt : ByteArray := prog_8_method_11_code
abbrev bM_refuse : ByteArray := prog_8_method_3_code
abbrev bM_forget : ByteArray := prog_8_method_21_code
abbrev bM_failure : ByteArray := prog_8_method_23_code
abbrev bM_edition : ByteArray := prog_8_method_24_code
abbrev bM_isEdition : ByteArray := prog_8_method_5_code
abbrev bM_row : ByteArray := prog_8_method_26_code
abbrev bM_below : ByteArray := prog_8_method_25_code
abbrev bM_find : ByteArray := prog_8_method_28_code
abbrev bM_rowOf : ByteArray := prog_8_method_27_code
abbrev bM_note : ByteArray := prog_8_method_32_code
abbrev bM_hasNote : ByteArray := prog_8_method_31_code
abbrev bM_isNote : ByteArray := prog_8_method_30_code
abbrev bM_notesOf : ByteArray := prog_8_method_29_code
abbrev bM_noted : ByteArray := prog_8_method_33_code
abbrev bM_link : ByteArray := prog_8_method_35_code
abbrev bM_isLink : ByteArray := prog_8_method_34_code
abbrev bM_became : ByteArray := prog_8_method_39_code
abbrev bM_isOf : ByteArray := prog_8_method_36_code
abbrev bM_linksOf : ByteArray := prog_8_method_37_code
abbrev bM_linksTo : ByteArray := prog_8_method_38_code
abbrev bM_linked : ByteArray := prog_8_method_40_code
abbrev bM_lost : ByteArray := prog_8_method_41_code
abbrev bM_search : ByteArray := prog_8_method_44_code
abbrev bM_pointsOf : ByteArray := prog_8_method_43_code
abbrev bM_has : ByteArray := prog_8_method_42_code
abbrev bM_found : ByteArray := prog_8_method_45_code
abbrev bM_count : ByteArray := prog_8_method_46_code
def xT : List Cond := lw_tbl.filter goodWord
theorem xT_of {w : Cond} (h : w ∈ lw_tbl) (g : goodWord w = true) : w ∈ xT := List.mem_filter.mpr ⟨h, g⟩
theorem xT_t {w : Cond} {i : Nat} (h : tables_1[i]? = some w) (g : goodWord w = true) : w ∈ xT := xT_of (List.mem_append_right _ (List.mem_of_getElem? h)) g
theorem xT_p {w : Cond} {i : Nat} (h : (k2_sels lw_privs)[i]? = some w) (g : goodWord w = true) : w ∈ xT := xT_of (List.mem_append_left _ (List.mem_of_getElem? h)) g
theorem xT_before {args : Array Value} {s : State} (h : ∀ w ∈ lw_tbl, w.before args s = true) : ∀ w ∈ xT, w.before args s = true := fun w hw => h w ((List.mem_filter.mp hw).1)
theorem knL : (Jvm.Cond.initialized "GoodsTreeLaw") ∈ xT := xT_t (i := 0) (by decide +kernel) (by decide +kernel)
theorem knG : (Jvm.Cond.initialized "GoodsTree") ∈ xT := xT_t (i := 1) (by decide +kernel) (by decide +kernel)
theorem knR : (Jvm.Cond.initialized "GoodsTree$TextReader") ∈ xT := xT_t (i := 2) (by decide +kernel) (by decide +kernel)
theorem knP : (Jvm.Cond.initialized "GoodsTree$Pairs") ∈ xT := xT_t (i := 3) (by decide +kernel) (by decide +kernel)
theorem knJM : (Jvm.Cond.initialized "java/lang/Math") ∈ xT := xT_t (i := 4) (by decide +kernel) (by decide +kernel)
theorem knF : (Jvm.Cond.initialized "GoodsTree$Findings") ∈ xT := xT_t (i := 5) (by decide +kernel) (by decide +kernel)
theorem knT : (Jvm.Cond.initialized "GoodsTree$Tree") ∈ xT := xT_t (i := 6) (by decide +kernel) (by decide +kernel)
theorem knM : (Jvm.Cond.initialized "GoodsTreeModel") ∈ xT := xT_t (i := 7) (by decide +kernel) (by decide +kernel)
theorem knC : (Jvm.Cond.initialized "GoodsTree$Codes") ∈ xT := xT_t (i := 8) (by decide +kernel) (by decide +kernel)
theorem knJT : (Jvm.Cond.initialized "java/lang/Throwable") ∈ xT := xT_t (i := 9) (by decide +kernel) (by decide +kernel)
theorem knJE : (Jvm.Cond.initialized "java/lang/Exception") ∈ xT := xT_t (i := 10) (by decide +kernel) (by decide +kernel)
theorem knJR : (Jvm.Cond.initialized "java/lang/RuntimeException") ∈ xT := xT_t (i := 11) (by decide +kernel) (by decide +kernel)
theorem knJS : (Jvm.Cond.initialized "java/lang/IllegalStateException") ∈ xT := xT_t (i := 12) (by decide +kernel) (by decide +kernel)
theorem knJI : (Jvm.Cond.initialized "java/lang/IndexOutOfBoundsException") ∈ xT := xT_t (i := 13) (by decide +kernel) (by decide +kernel)
theorem knJA : (Jvm.Cond.initialized "java/lang/IllegalArgumentException") ∈ xT := xT_t (i := 14) (by decide +kernel) (by decide +kernel)
theorem klL_8 : (Jvm.Cond.classLink "GoodsTreeLaw" (8 : Nat) "GoodsTree") ∈ xT := xT_t (i := 15) (by decide +kernel) (by decide +kernel)
theorem kqG : (Jvm.Cond.instantiable "GoodsTree" (7 : Nat)) ∈ xT := xT_t (i := 16) (by decide +kernel) (by decide +kernel)
theorem kmL_49 : (Jvm.Cond.methodLink "GoodsTreeLaw" (49 : Nat) ({ cls := "GoodsTree", name := "<init>", desc := "()V" } : Jvm.MethodName)) ∈ xT := xT_t (i := 17) (by decide +kernel) (by decide +kernel)
theorem kiG_init : (Jvm.Cond.instanceMethod ({ cls := "GoodsTree", name := "<init>", desc := "()V" } : Jvm.MethodName)) ∈ xT := xT_t (i := 18) (by decide +kernel) (by decide +kernel)
theorem kcG_init : (Jvm.Cond.code ({ cls := "GoodsTree", name := "<init>", desc := "()V" } : Jvm.MethodName) prog_1_method_1_code (2 : Nat) (Option.none : Option Jvm.ClassFile.FieldType)) ∈ xT := xT_t (i := 19) (by decide +kernel) (by decide +kernel)
theorem kmG_1 : (Jvm.Cond.methodLink "GoodsTree" (1 : Nat) ({ cls := "java/lang/Object", name := "<init>", desc := "()V" } : Jvm.MethodName)) ∈ xT := xT_t (i := 20) (by decide +kernel) (by decide +kernel)
theorem kiJO_init : (Jvm.Cond.instanceMethod ({ cls := "java/lang/Object", name := "<init>", desc := "()V" } : Jvm.MethodName)) ∈ xT := xT_t (i := 21) (by decide +kernel) (by decide +kernel)
theorem kcJO_init : (Jvm.Cond.code ({ cls := "java/lang/Object", name := "<init>", desc := "()V" } : Jvm.MethodName) object_method_1_code (1 : Nat) (Option.none : Option Jvm.ClassFile.FieldType)) ∈ xT := xT_t (i := 22) (by decide +kernel) (by decide +kernel)
theorem klG_7 : (Jvm.Cond.classLink "GoodsTree" (7 : Nat) "GoodsTree$TextReader") ∈ xT := xT_t (i := 23) (by decide +kernel) (by decide +kernel)
theorem kqR : (Jvm.Cond.instantiable "GoodsTree$TextReader" (7 : Nat)) ∈ xT := xT_t (i := 24) (by decide +kernel) (by decide +kernel)
theorem kiR_init : (Jvm.Cond.instanceMethod ({ cls := "GoodsTree$TextReader", name := "<init>", desc := "()V" } : Jvm.MethodName)) ∈ xT := xT_t (i := 26) (by decide +kernel) (by decide +kernel)
theorem kcR_init : (Jvm.Cond.code ({ cls := "GoodsTree$TextReader", name := "<init>", desc := "()V" } : Jvm.MethodName) prog_5_method_1_code (1 : Nat) (Option.none : Option Jvm.ClassFile.FieldType)) ∈ xT := xT_t (i := 27) (by decide +kernel) (by decide +kernel)
theorem kmR_3 : (Jvm.Cond.methodLink "GoodsTree$TextReader" (3 : Nat) ({ cls := "java/lang/Object", name := "<init>", desc := "()V" } : Jvm.MethodName)) ∈ xT := xT_t (i := 28) (by decide +kernel) (by decide +kernel)
theorem kfR_9 : (Jvm.Cond.fieldLink "GoodsTree$TextReader" (9 : Nat) "GoodsTree$TextReader" "signs" "[C") ∈ xT := xT_t (i := 29) (by decide +kernel) (by decide +kernel)
theorem kfR_15 : (Jvm.Cond.fieldLink "GoodsTree$TextReader" (15 : Nat) "GoodsTree$TextReader" "words" "[J") ∈ xT := xT_t (i := 30) (by decide +kernel) (by decide +kernel)
theorem kfR_19 : (Jvm.Cond.fieldLink "GoodsTree$TextReader" (19 : Nat) "GoodsTree$TextReader" "wordCount" "I") ∈ xT := xT_t (i := 31) (by decide +kernel) (by decide +kernel)
theorem kfR_23 : (Jvm.Cond.fieldLink "GoodsTree$TextReader" (23 : Nat) "GoodsTree$TextReader" "length" "I") ∈ xT := xT_t (i := 32) (by decide +kernel) (by decide +kernel)
theorem kfR_26 : (Jvm.Cond.fieldLink "GoodsTree$TextReader" (26 : Nat) "GoodsTree$TextReader" "place" "I") ∈ xT := xT_t (i := 33) (by decide +kernel) (by decide +kernel)
theorem kfR_29 : (Jvm.Cond.fieldLink "GoodsTree$TextReader" (29 : Nat) "GoodsTree$TextReader" "failureKind" "I") ∈ xT := xT_t (i := 34) (by decide +kernel) (by decide +kernel)
theorem kfR_32 : (Jvm.Cond.fieldLink "GoodsTree$TextReader" (32 : Nat) "GoodsTree$TextReader" "failurePlace" "I") ∈ xT := xT_t (i := 35) (by decide +kernel) (by decide +kernel)
theorem ka_char : (Jvm.Cond.arrayClass Jvm.ClassFile.FieldType.char) ∈ xT := xT_t (i := 51) (by decide +kernel) (by decide +kernel)
theorem ka_long : (Jvm.Cond.arrayClass Jvm.ClassFile.FieldType.long) ∈ xT := xT_t (i := 52) (by decide +kernel) (by decide +kernel)
theorem klG_16 : (Jvm.Cond.classLink "GoodsTree" (16 : Nat) "GoodsTree$Tree") ∈ xT := xT_t (i := 53) (by decide +kernel) (by decide +kernel)
theorem klG_22 : (Jvm.Cond.classLink "GoodsTree" (22 : Nat) "GoodsTree$Pairs") ∈ xT := xT_t (i := 55) (by decide +kernel) (by decide +kernel)
theorem kqP : (Jvm.Cond.instantiable "GoodsTree$Pairs" (5 : Nat)) ∈ xT := xT_t (i := 56) (by decide +kernel) (by decide +kernel)
theorem kmG_24 : (Jvm.Cond.methodLink "GoodsTree" (24 : Nat) ({ cls := "GoodsTree$Pairs", name := "<init>", desc := "(I)V" } : Jvm.MethodName)) ∈ xT := xT_t (i := 57) (by decide +kernel) (by decide +kernel)
theorem kiP_init : (Jvm.Cond.instanceMethod ({ cls := "GoodsTree$Pairs", name := "<init>", desc := "(I)V" } : Jvm.MethodName)) ∈ xT := xT_t (i := 58) (by decide +kernel) (by decide +kernel)
theorem kcP_init : (Jvm.Cond.code ({ cls := "GoodsTree$Pairs", name := "<init>", desc := "(I)V" } : Jvm.MethodName) prog_4_method_1_code (3 : Nat) (Option.none : Option Jvm.ClassFile.FieldType)) ∈ xT := xT_t (i := 59) (by decide +kernel) (by decide +kernel)
theorem kmP_3 : (Jvm.Cond.methodLink "GoodsTree$Pairs" (3 : Nat) ({ cls := "java/lang/Object", name := "<init>", desc := "()V" } : Jvm.MethodName)) ∈ xT := xT_t (i := 60) (by decide +kernel) (by decide +kernel)
theorem kmP_15 : (Jvm.Cond.methodLink "GoodsTree$Pairs" (15 : Nat) ({ cls := "java/lang/Math", name := "max", desc := "(II)I" } : Jvm.MethodName)) ∈ xT := xT_t (i := 61) (by decide +kernel) (by decide +kernel)
theorem ktJM_max : (Jvm.Cond.static ({ cls := "java/lang/Math", name := "max", desc := "(II)I" } : Jvm.MethodName)) ∈ xT := xT_t (i := 62) (by decide +kernel) (by decide +kernel)
theorem kcJM_max : (Jvm.Cond.code ({ cls := "java/lang/Math", name := "max", desc := "(II)I" } : Jvm.MethodName) prog_13_method_65_code (2 : Nat) (Option.some Jvm.ClassFile.FieldType.int)) ∈ xT := xT_t (i := 63) (by decide +kernel) (by decide +kernel)
theorem kfP_21 : (Jvm.Cond.fieldLink "GoodsTree$Pairs" (21 : Nat) "GoodsTree$Pairs" "editions" "[I") ∈ xT := xT_t (i := 64) (by decide +kernel) (by decide +kernel)
theorem kfP_25 : (Jvm.Cond.fieldLink "GoodsTree$Pairs" (25 : Nat) "GoodsTree$Pairs" "codes" "[J") ∈ xT := xT_t (i := 65) (by decide +kernel) (by decide +kernel)
theorem kfP_29 : (Jvm.Cond.fieldLink "GoodsTree$Pairs" (29 : Nat) "GoodsTree$Pairs" "marks" "[I") ∈ xT := xT_t (i := 66) (by decide +kernel) (by decide +kernel)
theorem kfP_32 : (Jvm.Cond.fieldLink "GoodsTree$Pairs" (32 : Nat) "GoodsTree$Pairs" "others" "[J") ∈ xT := xT_t (i := 67) (by decide +kernel) (by decide +kernel)
theorem kfP_9 : (Jvm.Cond.fieldLink "GoodsTree$Pairs" (9 : Nat) "GoodsTree$Pairs" "size" "I") ∈ xT := xT_t (i := 68) (by decide +kernel) (by decide +kernel)
theorem ka_int : (Jvm.Cond.arrayClass Jvm.ClassFile.FieldType.int) ∈ xT := xT_t (i := 80) (by decide +kernel) (by decide +kernel)
theorem klG_34 : (Jvm.Cond.classLink "GoodsTree" (34 : Nat) "GoodsTree$Findings") ∈ xT := xT_t (i := 81) (by decide +kernel) (by decide +kernel)
theorem kqF : (Jvm.Cond.instantiable "GoodsTree$Findings" (3 : Nat)) ∈ xT := xT_t (i := 82) (by decide +kernel) (by decide +kernel)
theorem kiF_init : (Jvm.Cond.instanceMethod ({ cls := "GoodsTree$Findings", name := "<init>", desc := "()V" } : Jvm.MethodName)) ∈ xT := xT_t (i := 84) (by decide +kernel) (by decide +kernel)
theorem kcF_init : (Jvm.Cond.code ({ cls := "GoodsTree$Findings", name := "<init>", desc := "()V" } : Jvm.MethodName) prog_3_method_1_code (1 : Nat) (Option.none : Option Jvm.ClassFile.FieldType)) ∈ xT := xT_t (i := 85) (by decide +kernel) (by decide +kernel)
theorem kmF_3 : (Jvm.Cond.methodLink "GoodsTree$Findings" (3 : Nat) ({ cls := "java/lang/Object", name := "<init>", desc := "()V" } : Jvm.MethodName)) ∈ xT := xT_t (i := 86) (by decide +kernel) (by decide +kernel)
theorem kfF_9 : (Jvm.Cond.fieldLink "GoodsTree$Findings" (9 : Nat) "GoodsTree$Findings" "codes" "[J") ∈ xT := xT_t (i := 87) (by decide +kernel) (by decide +kernel)
theorem kfF_15 : (Jvm.Cond.fieldLink "GoodsTree$Findings" (15 : Nat) "GoodsTree$Findings" "points" "[I") ∈ xT := xT_t (i := 88) (by decide +kernel) (by decide +kernel)
theorem kfF_19 : (Jvm.Cond.fieldLink "GoodsTree$Findings" (19 : Nat) "GoodsTree$Findings" "size" "I") ∈ xT := xT_t (i := 89) (by decide +kernel) (by decide +kernel)
theorem kqT : (Jvm.Cond.instantiable "GoodsTree$Tree" (8 : Nat)) ∈ xT := xT_t (i := 97) (by decide +kernel) (by decide +kernel)
theorem kiT_init : (Jvm.Cond.instanceMethod ({ cls := "GoodsTree$Tree", name := "<init>", desc := "()V" } : Jvm.MethodName)) ∈ xT := xT_t (i := 99) (by decide +kernel) (by decide +kernel)
theorem kcT_init : (Jvm.Cond.code ({ cls := "GoodsTree$Tree", name := "<init>", desc := "()V" } : Jvm.MethodName) prog_6_method_1_code (1 : Nat) (Option.none : Option Jvm.ClassFile.FieldType)) ∈ xT := xT_t (i := 100) (by decide +kernel) (by decide +kernel)
theorem kmT_3 : (Jvm.Cond.methodLink "GoodsTree$Tree" (3 : Nat) ({ cls := "java/lang/Object", name := "<init>", desc := "()V" } : Jvm.MethodName)) ∈ xT := xT_t (i := 101) (by decide +kernel) (by decide +kernel)
theorem kfT_9 : (Jvm.Cond.fieldLink "GoodsTree$Tree" (9 : Nat) "GoodsTree$Tree" "codes" "[J") ∈ xT := xT_t (i := 102) (by decide +kernel) (by decide +kernel)
theorem kfT_15 : (Jvm.Cond.fieldLink "GoodsTree$Tree" (15 : Nat) "GoodsTree$Tree" "dashes" "[I") ∈ xT := xT_t (i := 103) (by decide +kernel) (by decide +kernel)
theorem kfT_19 : (Jvm.Cond.fieldLink "GoodsTree$Tree" (19 : Nat) "GoodsTree$Tree" "parents" "[I") ∈ xT := xT_t (i := 104) (by decide +kernel) (by decide +kernel)
theorem kfT_22 : (Jvm.Cond.fieldLink "GoodsTree$Tree" (22 : Nat) "GoodsTree$Tree" "children" "[I") ∈ xT := xT_t (i := 105) (by decide +kernel) (by decide +kernel)
theorem kfT_25 : (Jvm.Cond.fieldLink "GoodsTree$Tree" (25 : Nat) "GoodsTree$Tree" "wordCounts" "[I") ∈ xT := xT_t (i := 106) (by decide +kernel) (by decide +kernel)
theorem kfT_28 : (Jvm.Cond.fieldLink "GoodsTree$Tree" (28 : Nat) "GoodsTree$Tree" "words" "[J") ∈ xT := xT_t (i := 107) (by decide +kernel) (by decide +kernel)
theorem kfT_31 : (Jvm.Cond.fieldLink "GoodsTree$Tree" (31 : Nat) "GoodsTree$Tree" "size" "I") ∈ xT := xT_t (i := 108) (by decide +kernel) (by decide +kernel)
theorem kfT_35 : (Jvm.Cond.fieldLink "GoodsTree$Tree" (35 : Nat) "GoodsTree$Tree" "chapters" "I") ∈ xT := xT_t (i := 109) (by decide +kernel) (by decide +kernel)
theorem kfG_10 : (Jvm.Cond.fieldLink "GoodsTree" (10 : Nat) "GoodsTree" "reader" "LGoodsTree$TextReader;") ∈ xT := xT_t (i := 127) (by decide +kernel) (by decide +kernel)
theorem kfG_18 : (Jvm.Cond.fieldLink "GoodsTree" (18 : Nat) "GoodsTree" "trees" "[LGoodsTree$Tree;") ∈ xT := xT_t (i := 128) (by decide +kernel) (by decide +kernel)
theorem kfG_27 : (Jvm.Cond.fieldLink "GoodsTree" (27 : Nat) "GoodsTree" "notes" "LGoodsTree$Pairs;") ∈ xT := xT_t (i := 129) (by decide +kernel) (by decide +kernel)
theorem kfG_31 : (Jvm.Cond.fieldLink "GoodsTree" (31 : Nat) "GoodsTree" "links" "LGoodsTree$Pairs;") ∈ xT := xT_t (i := 130) (by decide +kernel) (by decide +kernel)
theorem kfG_37 : (Jvm.Cond.fieldLink "GoodsTree" (37 : Nat) "GoodsTree" "findings" "LGoodsTree$Findings;") ∈ xT := xT_t (i := 131) (by decide +kernel) (by decide +kernel)
theorem kfG_42 : (Jvm.Cond.fieldLink "GoodsTree" (42 : Nat) "GoodsTree" "spare" "LGoodsTree$Tree;") ∈ xT := xT_t (i := 132) (by decide +kernel) (by decide +kernel)
theorem kfG_46 : (Jvm.Cond.fieldLink "GoodsTree" (46 : Nat) "GoodsTree" "present" "I") ∈ xT := xT_t (i := 133) (by decide +kernel) (by decide +kernel)
theorem kmL_53 : (Jvm.Cond.methodLink "GoodsTreeLaw" (53 : Nat) ({ cls := "GoodsTree", name := "sign", desc := "(I)Z" } : Jvm.MethodName)) ∈ xT := xT_t (i := 149) (by decide +kernel) (by decide +kernel)
theorem kiG_sign : (Jvm.Cond.instanceMethod ({ cls := "GoodsTree", name := "sign", desc := "(I)Z" } : Jvm.MethodName)) ∈ xT := xT_t (i := 150) (by decide +kernel) (by decide +kernel)
theorem ksG_sign : (Jvm.Cond.selects "GoodsTree" ({ cls := "GoodsTree", name := "sign", desc := "(I)Z" } : Jvm.MethodName) ({ cls := "GoodsTree", name := "sign", desc := "(I)Z" } : Jvm.MethodName)) ∈ xT := xT_t (i := 151) (by decide +kernel) (by decide +kernel)
theorem kcG_sign : (Jvm.Cond.code ({ cls := "GoodsTree", name := "sign", desc := "(I)Z" } : Jvm.MethodName) prog_1_method_2_code (2 : Nat) (Option.some Jvm.ClassFile.FieldType.boolean)) ∈ xT := xT_t (i := 152) (by decide +kernel) (by decide +kernel)
theorem kmG_50 : (Jvm.Cond.methodLink "GoodsTree" (50 : Nat) ({ cls := "GoodsTree$TextReader", name := "take", desc := "(I)Z" } : Jvm.MethodName)) ∈ xT := xT_t (i := 153) (by decide +kernel) (by decide +kernel)
theorem kiR_take : (Jvm.Cond.instanceMethod ({ cls := "GoodsTree$TextReader", name := "take", desc := "(I)Z" } : Jvm.MethodName)) ∈ xT := xT_t (i := 154) (by decide +kernel) (by decide +kernel)
theorem ksR_take : (Jvm.Cond.selects "GoodsTree$TextReader" ({ cls := "GoodsTree$TextReader", name := "take", desc := "(I)Z" } : Jvm.MethodName) ({ cls := "GoodsTree$TextReader", name := "take", desc := "(I)Z" } : Jvm.MethodName)) ∈ xT := xT_t (i := 155) (by decide +kernel) (by decide +kernel)
theorem kcR_take : (Jvm.Cond.code ({ cls := "GoodsTree$TextReader", name := "take", desc := "(I)Z" } : Jvm.MethodName) prog_5_method_8_code (3 : Nat) (Option.some Jvm.ClassFile.FieldType.boolean)) ∈ xT := xT_t (i := 156) (by decide +kernel) (by decide +kernel)
theorem kmR_35 : (Jvm.Cond.methodLink "GoodsTree$TextReader" (35 : Nat) ({ cls := "GoodsTree$TextReader", name := "isSign", desc := "(I)Z" } : Jvm.MethodName)) ∈ xT := xT_t (i := 157) (by decide +kernel) (by decide +kernel)
theorem ktR_isSign : (Jvm.Cond.static ({ cls := "GoodsTree$TextReader", name := "isSign", desc := "(I)Z" } : Jvm.MethodName)) ∈ xT := xT_t (i := 158) (by decide +kernel) (by decide +kernel)
theorem kcR_isSign : (Jvm.Cond.code ({ cls := "GoodsTree$TextReader", name := "isSign", desc := "(I)Z" } : Jvm.MethodName) prog_5_method_20_code (1 : Nat) (Option.some Jvm.ClassFile.FieldType.boolean)) ∈ xT := xT_t (i := 159) (by decide +kernel) (by decide +kernel)
theorem kmR_57 : (Jvm.Cond.methodLink "GoodsTree$TextReader" (57 : Nat) ({ cls := "GoodsTree$TextReader", name := "isDigit", desc := "(I)Z" } : Jvm.MethodName)) ∈ xT := xT_t (i := 160) (by decide +kernel) (by decide +kernel)
theorem ktR_isDigit : (Jvm.Cond.static ({ cls := "GoodsTree$TextReader", name := "isDigit", desc := "(I)Z" } : Jvm.MethodName)) ∈ xT := xT_t (i := 161) (by decide +kernel) (by decide +kernel)
theorem kcR_isDigit : (Jvm.Cond.code ({ cls := "GoodsTree$TextReader", name := "isDigit", desc := "(I)Z" } : Jvm.MethodName) prog_5_method_21_code (1 : Nat) (Option.some Jvm.ClassFile.FieldType.boolean)) ∈ xT := xT_t (i := 162) (by decide +kernel) (by decide +kernel)
theorem kmR_102 : (Jvm.Cond.methodLink "GoodsTree$TextReader" (102 : Nat) ({ cls := "GoodsTree$TextReader", name := "isLetter", desc := "(I)Z" } : Jvm.MethodName)) ∈ xT := xT_t (i := 163) (by decide +kernel) (by decide +kernel)
theorem ktR_isLetter : (Jvm.Cond.static ({ cls := "GoodsTree$TextReader", name := "isLetter", desc := "(I)Z" } : Jvm.MethodName)) ∈ xT := xT_t (i := 164) (by decide +kernel) (by decide +kernel)
theorem kcR_isLetter : (Jvm.Cond.code ({ cls := "GoodsTree$TextReader", name := "isLetter", desc := "(I)Z" } : Jvm.MethodName) prog_5_method_22_code (1 : Nat) (Option.some Jvm.ClassFile.FieldType.boolean)) ∈ xT := xT_t (i := 165) (by decide +kernel) (by decide +kernel)
theorem kmL_67 : (Jvm.Cond.methodLink "GoodsTreeLaw" (67 : Nat) ({ cls := "GoodsTree", name := "failure", desc := "(I)I" } : Jvm.MethodName)) ∈ xT := xT_t (i := 166) (by decide +kernel) (by decide +kernel)
theorem kiG_failure : (Jvm.Cond.instanceMethod ({ cls := "GoodsTree", name := "failure", desc := "(I)I" } : Jvm.MethodName)) ∈ xT := xT_t (i := 167) (by decide +kernel) (by decide +kernel)
theorem ksG_failure : (Jvm.Cond.selects "GoodsTree" ({ cls := "GoodsTree", name := "failure", desc := "(I)I" } : Jvm.MethodName) ({ cls := "GoodsTree", name := "failure", desc := "(I)I" } : Jvm.MethodName)) ∈ xT := xT_t (i := 168) (by decide +kernel) (by decide +kernel)
theorem kcG_failure : (Jvm.Cond.code ({ cls := "GoodsTree", name := "failure", desc := "(I)I" } : Jvm.MethodName) prog_1_method_4_code (2 : Nat) (Option.some Jvm.ClassFile.FieldType.int)) ∈ xT := xT_t (i := 169) (by decide +kernel) (by decide +kernel)
theorem kmG_79 : (Jvm.Cond.methodLink "GoodsTree" (79 : Nat) ({ cls := "GoodsTree$TextReader", name := "failureKind", desc := "()I" } : Jvm.MethodName)) ∈ xT := xT_t (i := 170) (by decide +kernel) (by decide +kernel)
theorem kiR_failureKind : (Jvm.Cond.instanceMethod ({ cls := "GoodsTree$TextReader", name := "failureKind", desc := "()I" } : Jvm.MethodName)) ∈ xT := xT_t (i := 171) (by decide +kernel) (by decide +kernel)
theorem ksR_failureKind : (Jvm.Cond.selects "GoodsTree$TextReader" ({ cls := "GoodsTree$TextReader", name := "failureKind", desc := "()I" } : Jvm.MethodName) ({ cls := "GoodsTree$TextReader", name := "failureKind", desc := "()I" } : Jvm.MethodName)) ∈ xT := xT_t (i := 172) (by decide +kernel) (by decide +kernel)
theorem kcR_failureKind : (Jvm.Cond.code ({ cls := "GoodsTree$TextReader", name := "failureKind", desc := "()I" } : Jvm.MethodName) prog_5_method_3_code (1 : Nat) (Option.some Jvm.ClassFile.FieldType.int)) ∈ xT := xT_t (i := 173) (by decide +kernel) (by decide +kernel)
theorem kmG_82 : (Jvm.Cond.methodLink "GoodsTree" (82 : Nat) ({ cls := "GoodsTree$TextReader", name := "failurePlace", desc := "()I" } : Jvm.MethodName)) ∈ xT := xT_t (i := 174) (by decide +kernel) (by decide +kernel)
theorem kiR_failurePlace : (Jvm.Cond.instanceMethod ({ cls := "GoodsTree$TextReader", name := "failurePlace", desc := "()I" } : Jvm.MethodName)) ∈ xT := xT_t (i := 175) (by decide +kernel) (by decide +kernel)
theorem ksR_failurePlace : (Jvm.Cond.selects "GoodsTree$TextReader" ({ cls := "GoodsTree$TextReader", name := "failurePlace", desc := "()I" } : Jvm.MethodName) ({ cls := "GoodsTree$TextReader", name := "failurePlace", desc := "()I" } : Jvm.MethodName)) ∈ xT := xT_t (i := 176) (by decide +kernel) (by decide +kernel)
theorem kcR_failurePlace : (Jvm.Cond.code ({ cls := "GoodsTree$TextReader", name := "failurePlace", desc := "()I" } : Jvm.MethodName) prog_5_method_4_code (1 : Nat) (Option.some Jvm.ClassFile.FieldType.int)) ∈ xT := xT_t (i := 177) (by decide +kernel) (by decide +kernel)
theorem kmL_72 : (Jvm.Cond.methodLink "GoodsTreeLaw" (72 : Nat) ({ cls := "GoodsTree", name := "edition", desc := "(I)Z" } : Jvm.MethodName)) ∈ xT := xT_t (i := 178) (by decide +kernel) (by decide +kernel)
theorem kiG_edition : (Jvm.Cond.instanceMethod ({ cls := "GoodsTree", name := "edition", desc := "(I)Z" } : Jvm.MethodName)) ∈ xT := xT_t (i := 179) (by decide +kernel) (by decide +kernel)
theorem ksG_edition : (Jvm.Cond.selects "GoodsTree" ({ cls := "GoodsTree", name := "edition", desc := "(I)Z" } : Jvm.MethodName) ({ cls := "GoodsTree", name := "edition", desc := "(I)Z" } : Jvm.MethodName)) ∈ xT := xT_t (i := 180) (by decide +kernel) (by decide +kernel)
theorem kcG_edition : (Jvm.Cond.code ({ cls := "GoodsTree", name := "edition", desc := "(I)Z" } : Jvm.MethodName) prog_1_method_5_code (2 : Nat) (Option.some Jvm.ClassFile.FieldType.boolean)) ∈ xT := xT_t (i := 181) (by decide +kernel) (by decide +kernel)
theorem kmG_85 : (Jvm.Cond.methodLink "GoodsTree" (85 : Nat) ({ cls := "GoodsTree", name := "isEdition", desc := "(I)Z" } : Jvm.MethodName)) ∈ xT := xT_t (i := 182) (by decide +kernel) (by decide +kernel)
theorem ktG_isEdition : (Jvm.Cond.static ({ cls := "GoodsTree", name := "isEdition", desc := "(I)Z" } : Jvm.MethodName)) ∈ xT := xT_t (i := 183) (by decide +kernel) (by decide +kernel)
theorem kcG_isEdition : (Jvm.Cond.code ({ cls := "GoodsTree", name := "isEdition", desc := "(I)Z" } : Jvm.MethodName) prog_1_method_18_code (1 : Nat) (Option.some Jvm.ClassFile.FieldType.boolean)) ∈ xT := xT_t (i := 184) (by decide +kernel) (by decide +kernel)
theorem kmL_82 : (Jvm.Cond.methodLink "GoodsTreeLaw" (82 : Nat) ({ cls := "GoodsTree", name := "find", desc := "(J)I" } : Jvm.MethodName)) ∈ xT := xT_t (i := 185) (by decide +kernel) (by decide +kernel)
theorem kiG_find : (Jvm.Cond.instanceMethod ({ cls := "GoodsTree", name := "find", desc := "(J)I" } : Jvm.MethodName)) ∈ xT := xT_t (i := 186) (by decide +kernel) (by decide +kernel)
theorem ksG_find : (Jvm.Cond.selects "GoodsTree" ({ cls := "GoodsTree", name := "find", desc := "(J)I" } : Jvm.MethodName) ({ cls := "GoodsTree", name := "find", desc := "(J)I" } : Jvm.MethodName)) ∈ xT := xT_t (i := 187) (by decide +kernel) (by decide +kernel)
theorem kcG_find : (Jvm.Cond.code ({ cls := "GoodsTree", name := "find", desc := "(J)I" } : Jvm.MethodName) prog_1_method_7_code (3 : Nat) (Option.some Jvm.ClassFile.FieldType.int)) ∈ xT := xT_t (i := 188) (by decide +kernel) (by decide +kernel)
theorem kmG_115 : (Jvm.Cond.methodLink "GoodsTree" (115 : Nat) ({ cls := "GoodsTree$Tree", name := "rowOf", desc := "(J)I" } : Jvm.MethodName)) ∈ xT := xT_t (i := 189) (by decide +kernel) (by decide +kernel)
theorem kiT_rowOf : (Jvm.Cond.instanceMethod ({ cls := "GoodsTree$Tree", name := "rowOf", desc := "(J)I" } : Jvm.MethodName)) ∈ xT := xT_t (i := 190) (by decide +kernel) (by decide +kernel)
theorem ksT_rowOf : (Jvm.Cond.selects "GoodsTree$Tree" ({ cls := "GoodsTree$Tree", name := "rowOf", desc := "(J)I" } : Jvm.MethodName) ({ cls := "GoodsTree$Tree", name := "rowOf", desc := "(J)I" } : Jvm.MethodName)) ∈ xT := xT_t (i := 191) (by decide +kernel) (by decide +kernel)
theorem kcT_rowOf : (Jvm.Cond.code ({ cls := "GoodsTree$Tree", name := "rowOf", desc := "(J)I" } : Jvm.MethodName) prog_6_method_12_code (4 : Nat) (Option.some Jvm.ClassFile.FieldType.int)) ∈ xT := xT_t (i := 192) (by decide +kernel) (by decide +kernel)
theorem kmL_95 : (Jvm.Cond.methodLink "GoodsTreeLaw" (95 : Nat) ({ cls := "GoodsTree", name := "link", desc := "(IJIJ)Z" } : Jvm.MethodName)) ∈ xT := xT_t (i := 193) (by decide +kernel) (by decide +kernel)
theorem kiG_link : (Jvm.Cond.instanceMethod ({ cls := "GoodsTree", name := "link", desc := "(IJIJ)Z" } : Jvm.MethodName)) ∈ xT := xT_t (i := 194) (by decide +kernel) (by decide +kernel)
theorem ksG_link : (Jvm.Cond.selects "GoodsTree" ({ cls := "GoodsTree", name := "link", desc := "(IJIJ)Z" } : Jvm.MethodName) ({ cls := "GoodsTree", name := "link", desc := "(IJIJ)Z" } : Jvm.MethodName)) ∈ xT := xT_t (i := 195) (by decide +kernel) (by decide +kernel)
theorem kcG_link : (Jvm.Cond.code ({ cls := "GoodsTree", name := "link", desc := "(IJIJ)Z" } : Jvm.MethodName) prog_1_method_10_code (7 : Nat) (Option.some Jvm.ClassFile.FieldType.boolean)) ∈ xT := xT_t (i := 196) (by decide +kernel) (by decide +kernel)
theorem kmG_119 : (Jvm.Cond.methodLink "GoodsTree" (119 : Nat) ({ cls := "GoodsTree", name := "hasCode", desc := "(IJ)Z" } : Jvm.MethodName)) ∈ xT := xT_t (i := 197) (by decide +kernel) (by decide +kernel)
theorem kiG_hasCode : (Jvm.Cond.instanceMethod ({ cls := "GoodsTree", name := "hasCode", desc := "(IJ)Z" } : Jvm.MethodName)) ∈ xT := xT_t (i := 199) (by decide +kernel) (by decide +kernel)
theorem kcG_hasCode : (Jvm.Cond.code ({ cls := "GoodsTree", name := "hasCode", desc := "(IJ)Z" } : Jvm.MethodName) prog_1_method_19_code (4 : Nat) (Option.some Jvm.ClassFile.FieldType.boolean)) ∈ xT := xT_t (i := 200) (by decide +kernel) (by decide +kernel)
theorem kmG_128 : (Jvm.Cond.methodLink "GoodsTree" (128 : Nat) ({ cls := "GoodsTree$Pairs", name := "isFull", desc := "()Z" } : Jvm.MethodName)) ∈ xT := xT_t (i := 201) (by decide +kernel) (by decide +kernel)
theorem kiP_isFull : (Jvm.Cond.instanceMethod ({ cls := "GoodsTree$Pairs", name := "isFull", desc := "()Z" } : Jvm.MethodName)) ∈ xT := xT_t (i := 202) (by decide +kernel) (by decide +kernel)
theorem ksP_isFull : (Jvm.Cond.selects "GoodsTree$Pairs" ({ cls := "GoodsTree$Pairs", name := "isFull", desc := "()Z" } : Jvm.MethodName) ({ cls := "GoodsTree$Pairs", name := "isFull", desc := "()Z" } : Jvm.MethodName)) ∈ xT := xT_t (i := 203) (by decide +kernel) (by decide +kernel)
theorem kcP_isFull : (Jvm.Cond.code ({ cls := "GoodsTree$Pairs", name := "isFull", desc := "()Z" } : Jvm.MethodName) prog_4_method_3_code (1 : Nat) (Option.some Jvm.ClassFile.FieldType.boolean)) ∈ xT := xT_t (i := 204) (by decide +kernel) (by decide +kernel)
theorem kmG_132 : (Jvm.Cond.methodLink "GoodsTree" (132 : Nat) ({ cls := "GoodsTree$Pairs", name := "holds", desc := "(IJIJ)Z" } : Jvm.MethodName)) ∈ xT := xT_t (i := 205) (by decide +kernel) (by decide +kernel)
theorem kiP_holds : (Jvm.Cond.instanceMethod ({ cls := "GoodsTree$Pairs", name := "holds", desc := "(IJIJ)Z" } : Jvm.MethodName)) ∈ xT := xT_t (i := 206) (by decide +kernel) (by decide +kernel)
theorem ksP_holds : (Jvm.Cond.selects "GoodsTree$Pairs" ({ cls := "GoodsTree$Pairs", name := "holds", desc := "(IJIJ)Z" } : Jvm.MethodName) ({ cls := "GoodsTree$Pairs", name := "holds", desc := "(IJIJ)Z" } : Jvm.MethodName)) ∈ xT := xT_t (i := 207) (by decide +kernel) (by decide +kernel)
theorem kcP_holds : (Jvm.Cond.code ({ cls := "GoodsTree$Pairs", name := "holds", desc := "(IJIJ)Z" } : Jvm.MethodName) prog_4_method_4_code (8 : Nat) (Option.some Jvm.ClassFile.FieldType.boolean)) ∈ xT := xT_t (i := 208) (by decide +kernel) (by decide +kernel)
theorem kmP_35 : (Jvm.Cond.methodLink "GoodsTree$Pairs" (35 : Nat) ({ cls := "GoodsTree$Pairs", name := "matches", desc := "(IIJI)Z" } : Jvm.MethodName)) ∈ xT := xT_t (i := 209) (by decide +kernel) (by decide +kernel)
theorem kiP_matches : (Jvm.Cond.instanceMethod ({ cls := "GoodsTree$Pairs", name := "matches", desc := "(IIJI)Z" } : Jvm.MethodName)) ∈ xT := xT_t (i := 210) (by decide +kernel) (by decide +kernel)
theorem ksP_matches : (Jvm.Cond.selects "GoodsTree$Pairs" ({ cls := "GoodsTree$Pairs", name := "matches", desc := "(IIJI)Z" } : Jvm.MethodName) ({ cls := "GoodsTree$Pairs", name := "matches", desc := "(IIJI)Z" } : Jvm.MethodName)) ∈ xT := xT_t (i := 211) (by decide +kernel) (by decide +kernel)
theorem kcP_matches : (Jvm.Cond.code ({ cls := "GoodsTree$Pairs", name := "matches", desc := "(IIJI)Z" } : Jvm.MethodName) prog_4_method_6_code (6 : Nat) (Option.some Jvm.ClassFile.FieldType.boolean)) ∈ xT := xT_t (i := 212) (by decide +kernel) (by decide +kernel)
theorem kmP_43 : (Jvm.Cond.methodLink "GoodsTree$Pairs" (43 : Nat) ({ cls := "GoodsTree$Pairs", name := "has", desc := "(I)Z" } : Jvm.MethodName)) ∈ xT := xT_t (i := 213) (by decide +kernel) (by decide +kernel)
theorem kiP_has : (Jvm.Cond.instanceMethod ({ cls := "GoodsTree$Pairs", name := "has", desc := "(I)Z" } : Jvm.MethodName)) ∈ xT := xT_t (i := 215) (by decide +kernel) (by decide +kernel)
theorem kcP_has : (Jvm.Cond.code ({ cls := "GoodsTree$Pairs", name := "has", desc := "(I)Z" } : Jvm.MethodName) prog_4_method_15_code (2 : Nat) (Option.some Jvm.ClassFile.FieldType.boolean)) ∈ xT := xT_t (i := 216) (by decide +kernel) (by decide +kernel)
theorem kmG_138 : (Jvm.Cond.methodLink "GoodsTree" (138 : Nat) ({ cls := "GoodsTree$Pairs", name := "add", desc := "(IJIJ)V" } : Jvm.MethodName)) ∈ xT := xT_t (i := 217) (by decide +kernel) (by decide +kernel)
theorem kiP_add : (Jvm.Cond.instanceMethod ({ cls := "GoodsTree$Pairs", name := "add", desc := "(IJIJ)V" } : Jvm.MethodName)) ∈ xT := xT_t (i := 218) (by decide +kernel) (by decide +kernel)
theorem ksP_add : (Jvm.Cond.selects "GoodsTree$Pairs" ({ cls := "GoodsTree$Pairs", name := "add", desc := "(IJIJ)V" } : Jvm.MethodName) ({ cls := "GoodsTree$Pairs", name := "add", desc := "(IJIJ)V" } : Jvm.MethodName)) ∈ xT := xT_t (i := 219) (by decide +kernel) (by decide +kernel)
theorem kcP_add : (Jvm.Cond.code ({ cls := "GoodsTree$Pairs", name := "add", desc := "(IJIJ)V" } : Jvm.MethodName) prog_4_method_5_code (7 : Nat) (Option.none : Option Jvm.ClassFile.FieldType)) ∈ xT := xT_t (i := 220) (by decide +kernel) (by decide +kernel)
theorem kmP_39 : (Jvm.Cond.methodLink "GoodsTree$Pairs" (39 : Nat) ({ cls := "GoodsTree$Pairs", name := "isFull", desc := "()Z" } : Jvm.MethodName)) ∈ xT := xT_t (i := 221) (by decide +kernel) (by decide +kernel)
theorem kmL_117 : (Jvm.Cond.methodLink "GoodsTreeLaw" (117 : Nat) ({ cls := "GoodsTree", name := "count", desc := "(I)I" } : Jvm.MethodName)) ∈ xT := xT_t (i := 222) (by decide +kernel) (by decide +kernel)
theorem kiG_count : (Jvm.Cond.instanceMethod ({ cls := "GoodsTree", name := "count", desc := "(I)I" } : Jvm.MethodName)) ∈ xT := xT_t (i := 223) (by decide +kernel) (by decide +kernel)
theorem ksG_count : (Jvm.Cond.selects "GoodsTree" ({ cls := "GoodsTree", name := "count", desc := "(I)I" } : Jvm.MethodName) ({ cls := "GoodsTree", name := "count", desc := "(I)I" } : Jvm.MethodName)) ∈ xT := xT_t (i := 224) (by decide +kernel) (by decide +kernel)
theorem kcG_count : (Jvm.Cond.code ({ cls := "GoodsTree", name := "count", desc := "(I)I" } : Jvm.MethodName) prog_1_method_16_code (2 : Nat) (Option.some Jvm.ClassFile.FieldType.int)) ∈ xT := xT_t (i := 225) (by decide +kernel) (by decide +kernel)
theorem kmG_195 : (Jvm.Cond.methodLink "GoodsTree" (195 : Nat) ({ cls := "GoodsTree$TextReader", name := "length", desc := "()I" } : Jvm.MethodName)) ∈ xT := xT_t (i := 226) (by decide +kernel) (by decide +kernel)
theorem kiR_length : (Jvm.Cond.instanceMethod ({ cls := "GoodsTree$TextReader", name := "length", desc := "()I" } : Jvm.MethodName)) ∈ xT := xT_t (i := 227) (by decide +kernel) (by decide +kernel)
theorem ksR_length : (Jvm.Cond.selects "GoodsTree$TextReader" ({ cls := "GoodsTree$TextReader", name := "length", desc := "()I" } : Jvm.MethodName) ({ cls := "GoodsTree$TextReader", name := "length", desc := "()I" } : Jvm.MethodName)) ∈ xT := xT_t (i := 228) (by decide +kernel) (by decide +kernel)
theorem kcR_length : (Jvm.Cond.code ({ cls := "GoodsTree$TextReader", name := "length", desc := "()I" } : Jvm.MethodName) prog_5_method_2_code (1 : Nat) (Option.some Jvm.ClassFile.FieldType.int)) ∈ xT := xT_t (i := 229) (by decide +kernel) (by decide +kernel)
theorem kmG_165 : (Jvm.Cond.methodLink "GoodsTree" (165 : Nat) ({ cls := "GoodsTree$Pairs", name := "size", desc := "()I" } : Jvm.MethodName)) ∈ xT := xT_t (i := 230) (by decide +kernel) (by decide +kernel)
theorem kiP_size : (Jvm.Cond.instanceMethod ({ cls := "GoodsTree$Pairs", name := "size", desc := "()I" } : Jvm.MethodName)) ∈ xT := xT_t (i := 231) (by decide +kernel) (by decide +kernel)
theorem ksP_size : (Jvm.Cond.selects "GoodsTree$Pairs" ({ cls := "GoodsTree$Pairs", name := "size", desc := "()I" } : Jvm.MethodName) ({ cls := "GoodsTree$Pairs", name := "size", desc := "()I" } : Jvm.MethodName)) ∈ xT := xT_t (i := 232) (by decide +kernel) (by decide +kernel)
theorem kcP_size : (Jvm.Cond.code ({ cls := "GoodsTree$Pairs", name := "size", desc := "()I" } : Jvm.MethodName) prog_4_method_2_code (1 : Nat) (Option.some Jvm.ClassFile.FieldType.int)) ∈ xT := xT_t (i := 233) (by decide +kernel) (by decide +kernel)
theorem kmG_187 : (Jvm.Cond.methodLink "GoodsTree" (187 : Nat) ({ cls := "GoodsTree$Findings", name := "size", desc := "()I" } : Jvm.MethodName)) ∈ xT := xT_t (i := 234) (by decide +kernel) (by decide +kernel)
theorem kiF_size : (Jvm.Cond.instanceMethod ({ cls := "GoodsTree$Findings", name := "size", desc := "()I" } : Jvm.MethodName)) ∈ xT := xT_t (i := 235) (by decide +kernel) (by decide +kernel)
theorem ksF_size : (Jvm.Cond.selects "GoodsTree$Findings" ({ cls := "GoodsTree$Findings", name := "size", desc := "()I" } : Jvm.MethodName) ({ cls := "GoodsTree$Findings", name := "size", desc := "()I" } : Jvm.MethodName)) ∈ xT := xT_t (i := 236) (by decide +kernel) (by decide +kernel)
theorem kcF_size : (Jvm.Cond.code ({ cls := "GoodsTree$Findings", name := "size", desc := "()I" } : Jvm.MethodName) prog_3_method_3_code (1 : Nat) (Option.some Jvm.ClassFile.FieldType.int)) ∈ xT := xT_t (i := 237) (by decide +kernel) (by decide +kernel)
theorem kmG_198 : (Jvm.Cond.methodLink "GoodsTree" (198 : Nat) ({ cls := "GoodsTree", name := "countInEdition", desc := "(I)I" } : Jvm.MethodName)) ∈ xT := xT_t (i := 238) (by decide +kernel) (by decide +kernel)
theorem kiG_countInEdition : (Jvm.Cond.instanceMethod ({ cls := "GoodsTree", name := "countInEdition", desc := "(I)I" } : Jvm.MethodName)) ∈ xT := xT_t (i := 240) (by decide +kernel) (by decide +kernel)
theorem kcG_countInEdition : (Jvm.Cond.code ({ cls := "GoodsTree", name := "countInEdition", desc := "(I)I" } : Jvm.MethodName) prog_1_method_17_code (2 : Nat) (Option.some Jvm.ClassFile.FieldType.int)) ∈ xT := xT_t (i := 241) (by decide +kernel) (by decide +kernel)
theorem kmG_75 : (Jvm.Cond.methodLink "GoodsTree" (75 : Nat) ({ cls := "GoodsTree$Tree", name := "size", desc := "()I" } : Jvm.MethodName)) ∈ xT := xT_t (i := 242) (by decide +kernel) (by decide +kernel)
theorem kiT_size : (Jvm.Cond.instanceMethod ({ cls := "GoodsTree$Tree", name := "size", desc := "()I" } : Jvm.MethodName)) ∈ xT := xT_t (i := 243) (by decide +kernel) (by decide +kernel)
theorem ksT_size : (Jvm.Cond.selects "GoodsTree$Tree" ({ cls := "GoodsTree$Tree", name := "size", desc := "()I" } : Jvm.MethodName) ({ cls := "GoodsTree$Tree", name := "size", desc := "()I" } : Jvm.MethodName)) ∈ xT := xT_t (i := 244) (by decide +kernel) (by decide +kernel)
theorem kcT_size : (Jvm.Cond.code ({ cls := "GoodsTree$Tree", name := "size", desc := "()I" } : Jvm.MethodName) prog_6_method_3_code (1 : Nat) (Option.some Jvm.ClassFile.FieldType.int)) ∈ xT := xT_t (i := 245) (by decide +kernel) (by decide +kernel)
theorem kmG_201 : (Jvm.Cond.methodLink "GoodsTree" (201 : Nat) ({ cls := "GoodsTree$Tree", name := "chapters", desc := "()I" } : Jvm.MethodName)) ∈ xT := xT_t (i := 246) (by decide +kernel) (by decide +kernel)
theorem kiT_chapters : (Jvm.Cond.instanceMethod ({ cls := "GoodsTree$Tree", name := "chapters", desc := "()I" } : Jvm.MethodName)) ∈ xT := xT_t (i := 247) (by decide +kernel) (by decide +kernel)
theorem ksT_chapters : (Jvm.Cond.selects "GoodsTree$Tree" ({ cls := "GoodsTree$Tree", name := "chapters", desc := "()I" } : Jvm.MethodName) ({ cls := "GoodsTree$Tree", name := "chapters", desc := "()I" } : Jvm.MethodName)) ∈ xT := xT_t (i := 248) (by decide +kernel) (by decide +kernel)
theorem kcT_chapters : (Jvm.Cond.code ({ cls := "GoodsTree$Tree", name := "chapters", desc := "()I" } : Jvm.MethodName) prog_6_method_4_code (1 : Nat) (Option.some Jvm.ClassFile.FieldType.int)) ∈ xT := xT_t (i := 249) (by decide +kernel) (by decide +kernel)
theorem kmL_58 : (Jvm.Cond.methodLink "GoodsTreeLaw" (58 : Nat) ({ cls := "GoodsTreeLaw", name := "read", desc := "(LGoodsTree;[J)I" } : Jvm.MethodName)) ∈ xT := xT_t (i := 250) (by decide +kernel) (by decide +kernel)
theorem ktL_read : (Jvm.Cond.static ({ cls := "GoodsTreeLaw", name := "read", desc := "(LGoodsTree;[J)I" } : Jvm.MethodName)) ∈ xT := xT_t (i := 251) (by decide +kernel) (by decide +kernel)
theorem kwL_read : (Jvm.Cond.codeWith ({ cls := "GoodsTreeLaw", name := "read", desc := "(LGoodsTree;[J)I" } : Jvm.MethodName) method_3_code (3 : Nat) (Option.some Jvm.ClassFile.FieldType.int) [((0 : Nat), (8 : Nat), (11 : Nat), (13 : Nat))]) ∈ xT := xT_t (i := 252) (by decide +kernel) (by decide +kernel)
theorem klL_13 : (Jvm.Cond.classLink "GoodsTreeLaw" (13 : Nat) "java/lang/IllegalStateException") ∈ xT := xT_t (i := 253) (by decide +kernel) (by decide +kernel)
theorem kmL_7 : (Jvm.Cond.methodLink "GoodsTreeLaw" (7 : Nat) ({ cls := "GoodsTree", name := "read", desc := "()I" } : Jvm.MethodName)) ∈ xT := xT_t (i := 254) (by decide +kernel) (by decide +kernel)
theorem kiG_read : (Jvm.Cond.instanceMethod ({ cls := "GoodsTree", name := "read", desc := "()I" } : Jvm.MethodName)) ∈ xT := xT_t (i := 255) (by decide +kernel) (by decide +kernel)
theorem ksG_read : (Jvm.Cond.selects "GoodsTree" ({ cls := "GoodsTree", name := "read", desc := "()I" } : Jvm.MethodName) ({ cls := "GoodsTree", name := "read", desc := "()I" } : Jvm.MethodName)) ∈ xT := xT_t (i := 256) (by decide +kernel) (by decide +kernel)
theorem kcG_read : (Jvm.Cond.code ({ cls := "GoodsTree", name := "read", desc := "()I" } : Jvm.MethodName) prog_1_method_3_code (3 : Nat) (Option.some Jvm.ClassFile.FieldType.int)) ∈ xT := xT_t (i := 257) (by decide +kernel) (by decide +kernel)
theorem kmG_54 : (Jvm.Cond.methodLink "GoodsTree" (54 : Nat) ({ cls := "GoodsTree$Tree", name := "clear", desc := "()V" } : Jvm.MethodName)) ∈ xT := xT_t (i := 258) (by decide +kernel) (by decide +kernel)
theorem kiT_clear : (Jvm.Cond.instanceMethod ({ cls := "GoodsTree$Tree", name := "clear", desc := "()V" } : Jvm.MethodName)) ∈ xT := xT_t (i := 259) (by decide +kernel) (by decide +kernel)
theorem ksT_clear : (Jvm.Cond.selects "GoodsTree$Tree" ({ cls := "GoodsTree$Tree", name := "clear", desc := "()V" } : Jvm.MethodName) ({ cls := "GoodsTree$Tree", name := "clear", desc := "()V" } : Jvm.MethodName)) ∈ xT := xT_t (i := 260) (by decide +kernel) (by decide +kernel)
theorem kcT_clear : (Jvm.Cond.code ({ cls := "GoodsTree$Tree", name := "clear", desc := "()V" } : Jvm.MethodName) prog_6_method_2_code (1 : Nat) (Option.none : Option Jvm.ClassFile.FieldType)) ∈ xT := xT_t (i := 261) (by decide +kernel) (by decide +kernel)
theorem kmG_57 : (Jvm.Cond.methodLink "GoodsTree" (57 : Nat) ({ cls := "GoodsTree$TextReader", name := "readRows", desc := "(LGoodsTree$Tree;)Z" } : Jvm.MethodName)) ∈ xT := xT_t (i := 262) (by decide +kernel) (by decide +kernel)
theorem kiR_readRows : (Jvm.Cond.instanceMethod ({ cls := "GoodsTree$TextReader", name := "readRows", desc := "(LGoodsTree$Tree;)Z" } : Jvm.MethodName)) ∈ xT := xT_t (i := 263) (by decide +kernel) (by decide +kernel)
theorem ksR_readRows : (Jvm.Cond.selects "GoodsTree$TextReader" ({ cls := "GoodsTree$TextReader", name := "readRows", desc := "(LGoodsTree$Tree;)Z" } : Jvm.MethodName) ({ cls := "GoodsTree$TextReader", name := "readRows", desc := "(LGoodsTree$Tree;)Z" } : Jvm.MethodName)) ∈ xT := xT_t (i := 264) (by decide +kernel) (by decide +kernel)
theorem kcR_readRows : (Jvm.Cond.code ({ cls := "GoodsTree$TextReader", name := "readRows", desc := "(LGoodsTree$Tree;)Z" } : Jvm.MethodName) prog_5_method_9_code (3 : Nat) (Option.some Jvm.ClassFile.FieldType.boolean)) ∈ xT := xT_t (i := 265) (by decide +kernel) (by decide +kernel)
theorem kmR_39 : (Jvm.Cond.methodLink "GoodsTree$TextReader" (39 : Nat) ({ cls := "GoodsTree$TextReader", name := "start", desc := "()V" } : Jvm.MethodName)) ∈ xT := xT_t (i := 266) (by decide +kernel) (by decide +kernel)
theorem kiR_start : (Jvm.Cond.instanceMethod ({ cls := "GoodsTree$TextReader", name := "start", desc := "()V" } : Jvm.MethodName)) ∈ xT := xT_t (i := 268) (by decide +kernel) (by decide +kernel)
theorem kcR_start : (Jvm.Cond.code ({ cls := "GoodsTree$TextReader", name := "start", desc := "()V" } : Jvm.MethodName) prog_5_method_11_code (1 : Nat) (Option.none : Option Jvm.ClassFile.FieldType)) ∈ xT := xT_t (i := 269) (by decide +kernel) (by decide +kernel)
theorem kmR_42 : (Jvm.Cond.methodLink "GoodsTree$TextReader" (42 : Nat) ({ cls := "GoodsTree$TextReader", name := "fail", desc := "(II)Z" } : Jvm.MethodName)) ∈ xT := xT_t (i := 270) (by decide +kernel) (by decide +kernel)
theorem kiR_fail : (Jvm.Cond.instanceMethod ({ cls := "GoodsTree$TextReader", name := "fail", desc := "(II)Z" } : Jvm.MethodName)) ∈ xT := xT_t (i := 272) (by decide +kernel) (by decide +kernel)
theorem kcR_fail : (Jvm.Cond.code ({ cls := "GoodsTree$TextReader", name := "fail", desc := "(II)Z" } : Jvm.MethodName) prog_5_method_12_code (3 : Nat) (Option.some Jvm.ClassFile.FieldType.boolean)) ∈ xT := xT_t (i := 273) (by decide +kernel) (by decide +kernel)
theorem kmR_46 : (Jvm.Cond.methodLink "GoodsTree$TextReader" (46 : Nat) ({ cls := "GoodsTree$TextReader", name := "readRow", desc := "(LGoodsTree$Tree;)Z" } : Jvm.MethodName)) ∈ xT := xT_t (i := 274) (by decide +kernel) (by decide +kernel)
theorem kiR_readRow : (Jvm.Cond.instanceMethod ({ cls := "GoodsTree$TextReader", name := "readRow", desc := "(LGoodsTree$Tree;)Z" } : Jvm.MethodName)) ∈ xT := xT_t (i := 276) (by decide +kernel) (by decide +kernel)
theorem kcR_readRow : (Jvm.Cond.code ({ cls := "GoodsTree$TextReader", name := "readRow", desc := "(LGoodsTree$Tree;)Z" } : Jvm.MethodName) prog_5_method_13_code (4 : Nat) (Option.some Jvm.ClassFile.FieldType.boolean)) ∈ xT := xT_t (i := 277) (by decide +kernel) (by decide +kernel)
theorem kmR_53 : (Jvm.Cond.methodLink "GoodsTree$TextReader" (53 : Nat) ({ cls := "GoodsTree$TextReader", name := "here", desc := "()C" } : Jvm.MethodName)) ∈ xT := xT_t (i := 278) (by decide +kernel) (by decide +kernel)
theorem kiR_here : (Jvm.Cond.instanceMethod ({ cls := "GoodsTree$TextReader", name := "here", desc := "()C" } : Jvm.MethodName)) ∈ xT := xT_t (i := 280) (by decide +kernel) (by decide +kernel)
theorem kcR_here : (Jvm.Cond.code ({ cls := "GoodsTree$TextReader", name := "here", desc := "()C" } : Jvm.MethodName) prog_5_method_19_code (1 : Nat) (Option.some Jvm.ClassFile.FieldType.char)) ∈ xT := xT_t (i := 281) (by decide +kernel) (by decide +kernel)
theorem kmR_60 : (Jvm.Cond.methodLink "GoodsTree$TextReader" (60 : Nat) ({ cls := "GoodsTree$TextReader", name := "countDashes", desc := "()I" } : Jvm.MethodName)) ∈ xT := xT_t (i := 282) (by decide +kernel) (by decide +kernel)
theorem kiR_countDashes : (Jvm.Cond.instanceMethod ({ cls := "GoodsTree$TextReader", name := "countDashes", desc := "()I" } : Jvm.MethodName)) ∈ xT := xT_t (i := 284) (by decide +kernel) (by decide +kernel)
theorem kcR_countDashes : (Jvm.Cond.code ({ cls := "GoodsTree$TextReader", name := "countDashes", desc := "()I" } : Jvm.MethodName) prog_5_method_15_code (3 : Nat) (Option.some Jvm.ClassFile.FieldType.int)) ∈ xT := xT_t (i := 285) (by decide +kernel) (by decide +kernel)
theorem kmR_64 : (Jvm.Cond.methodLink "GoodsTree$TextReader" (64 : Nat) ({ cls := "GoodsTree$Tree", name := "mostDashes", desc := "()I" } : Jvm.MethodName)) ∈ xT := xT_t (i := 286) (by decide +kernel) (by decide +kernel)
theorem kiT_mostDashes : (Jvm.Cond.instanceMethod ({ cls := "GoodsTree$Tree", name := "mostDashes", desc := "()I" } : Jvm.MethodName)) ∈ xT := xT_t (i := 287) (by decide +kernel) (by decide +kernel)
theorem ksT_mostDashes : (Jvm.Cond.selects "GoodsTree$Tree" ({ cls := "GoodsTree$Tree", name := "mostDashes", desc := "()I" } : Jvm.MethodName) ({ cls := "GoodsTree$Tree", name := "mostDashes", desc := "()I" } : Jvm.MethodName)) ∈ xT := xT_t (i := 288) (by decide +kernel) (by decide +kernel)
theorem kcT_mostDashes : (Jvm.Cond.code ({ cls := "GoodsTree$Tree", name := "mostDashes", desc := "()I" } : Jvm.MethodName) prog_6_method_13_code (1 : Nat) (Option.some Jvm.ClassFile.FieldType.int)) ∈ xT := xT_t (i := 289) (by decide +kernel) (by decide +kernel)
theorem kmT_42 : (Jvm.Cond.methodLink "GoodsTree$Tree" (42 : Nat) ({ cls := "GoodsTree$Tree", name := "dashesOf", desc := "(I)I" } : Jvm.MethodName)) ∈ xT := xT_t (i := 290) (by decide +kernel) (by decide +kernel)
theorem kiT_dashesOf : (Jvm.Cond.instanceMethod ({ cls := "GoodsTree$Tree", name := "dashesOf", desc := "(I)I" } : Jvm.MethodName)) ∈ xT := xT_t (i := 291) (by decide +kernel) (by decide +kernel)
theorem ksT_dashesOf : (Jvm.Cond.selects "GoodsTree$Tree" ({ cls := "GoodsTree$Tree", name := "dashesOf", desc := "(I)I" } : Jvm.MethodName) ({ cls := "GoodsTree$Tree", name := "dashesOf", desc := "(I)I" } : Jvm.MethodName)) ∈ xT := xT_t (i := 292) (by decide +kernel) (by decide +kernel)
theorem kcT_dashesOf : (Jvm.Cond.code ({ cls := "GoodsTree$Tree", name := "dashesOf", desc := "(I)I" } : Jvm.MethodName) prog_6_method_8_code (2 : Nat) (Option.some Jvm.ClassFile.FieldType.int)) ∈ xT := xT_t (i := 293) (by decide +kernel) (by decide +kernel)
theorem kmT_38 : (Jvm.Cond.methodLink "GoodsTree$Tree" (38 : Nat) ({ cls := "GoodsTree$Tree", name := "has", desc := "(I)Z" } : Jvm.MethodName)) ∈ xT := xT_t (i := 294) (by decide +kernel) (by decide +kernel)
theorem kiT_has : (Jvm.Cond.instanceMethod ({ cls := "GoodsTree$Tree", name := "has", desc := "(I)Z" } : Jvm.MethodName)) ∈ xT := xT_t (i := 295) (by decide +kernel) (by decide +kernel)
theorem ksT_has : (Jvm.Cond.selects "GoodsTree$Tree" ({ cls := "GoodsTree$Tree", name := "has", desc := "(I)Z" } : Jvm.MethodName) ({ cls := "GoodsTree$Tree", name := "has", desc := "(I)Z" } : Jvm.MethodName)) ∈ xT := xT_t (i := 296) (by decide +kernel) (by decide +kernel)
theorem kcT_has : (Jvm.Cond.code ({ cls := "GoodsTree$Tree", name := "has", desc := "(I)Z" } : Jvm.MethodName) prog_6_method_6_code (2 : Nat) (Option.some Jvm.ClassFile.FieldType.boolean)) ∈ xT := xT_t (i := 297) (by decide +kernel) (by decide +kernel)
theorem kmR_69 : (Jvm.Cond.methodLink "GoodsTree$TextReader" (69 : Nat) ({ cls := "GoodsTree$Tree", name := "isFull", desc := "()Z" } : Jvm.MethodName)) ∈ xT := xT_t (i := 298) (by decide +kernel) (by decide +kernel)
theorem kiT_isFull : (Jvm.Cond.instanceMethod ({ cls := "GoodsTree$Tree", name := "isFull", desc := "()Z" } : Jvm.MethodName)) ∈ xT := xT_t (i := 299) (by decide +kernel) (by decide +kernel)
theorem ksT_isFull : (Jvm.Cond.selects "GoodsTree$Tree" ({ cls := "GoodsTree$Tree", name := "isFull", desc := "()Z" } : Jvm.MethodName) ({ cls := "GoodsTree$Tree", name := "isFull", desc := "()Z" } : Jvm.MethodName)) ∈ xT := xT_t (i := 300) (by decide +kernel) (by decide +kernel)
theorem kcT_isFull : (Jvm.Cond.code ({ cls := "GoodsTree$Tree", name := "isFull", desc := "()Z" } : Jvm.MethodName) prog_6_method_5_code (1 : Nat) (Option.some Jvm.ClassFile.FieldType.boolean)) ∈ xT := xT_t (i := 301) (by decide +kernel) (by decide +kernel)
theorem kmR_73 : (Jvm.Cond.methodLink "GoodsTree$TextReader" (73 : Nat) ({ cls := "GoodsTree$TextReader", name := "readCodeAndWords", desc := "(LGoodsTree$Tree;I)Z" } : Jvm.MethodName)) ∈ xT := xT_t (i := 302) (by decide +kernel) (by decide +kernel)
theorem kiR_readCodeAndWords : (Jvm.Cond.instanceMethod ({ cls := "GoodsTree$TextReader", name := "readCodeAndWords", desc := "(LGoodsTree$Tree;I)Z" } : Jvm.MethodName)) ∈ xT := xT_t (i := 304) (by decide +kernel) (by decide +kernel)
theorem kcR_readCodeAndWords : (Jvm.Cond.code ({ cls := "GoodsTree$TextReader", name := "readCodeAndWords", desc := "(LGoodsTree$Tree;I)Z" } : Jvm.MethodName) prog_5_method_14_code (6 : Nat) (Option.some Jvm.ClassFile.FieldType.boolean)) ∈ xT := xT_t (i := 305) (by decide +kernel) (by decide +kernel)
theorem kmR_77 : (Jvm.Cond.methodLink "GoodsTree$TextReader" (77 : Nat) ({ cls := "GoodsTree$TextReader", name := "readCode", desc := "()J" } : Jvm.MethodName)) ∈ xT := xT_t (i := 306) (by decide +kernel) (by decide +kernel)
theorem kiR_readCode : (Jvm.Cond.instanceMethod ({ cls := "GoodsTree$TextReader", name := "readCode", desc := "()J" } : Jvm.MethodName)) ∈ xT := xT_t (i := 308) (by decide +kernel) (by decide +kernel)
theorem kcR_readCode : (Jvm.Cond.code ({ cls := "GoodsTree$TextReader", name := "readCode", desc := "()J" } : Jvm.MethodName) prog_5_method_16_code (5 : Nat) (Option.some Jvm.ClassFile.FieldType.long)) ∈ xT := xT_t (i := 309) (by decide +kernel) (by decide +kernel)
theorem kjR_97 : (Jvm.Cond.constantLong "GoodsTree$TextReader" (97 : Nat) (10 : Int64)) ∈ xT := xT_t (i := 310) (by decide +kernel) (by decide +kernel)
theorem kmR_81 : (Jvm.Cond.methodLink "GoodsTree$TextReader" (81 : Nat) ({ cls := "GoodsTree$Tree", name := "parentFor", desc := "(I)I" } : Jvm.MethodName)) ∈ xT := xT_t (i := 311) (by decide +kernel) (by decide +kernel)
theorem kiT_parentFor : (Jvm.Cond.instanceMethod ({ cls := "GoodsTree$Tree", name := "parentFor", desc := "(I)I" } : Jvm.MethodName)) ∈ xT := xT_t (i := 312) (by decide +kernel) (by decide +kernel)
theorem ksT_parentFor : (Jvm.Cond.selects "GoodsTree$Tree" ({ cls := "GoodsTree$Tree", name := "parentFor", desc := "(I)I" } : Jvm.MethodName) ({ cls := "GoodsTree$Tree", name := "parentFor", desc := "(I)I" } : Jvm.MethodName)) ∈ xT := xT_t (i := 313) (by decide +kernel) (by decide +kernel)
theorem kcT_parentFor : (Jvm.Cond.code ({ cls := "GoodsTree$Tree", name := "parentFor", desc := "(I)I" } : Jvm.MethodName) prog_6_method_14_code (3 : Nat) (Option.some Jvm.ClassFile.FieldType.int)) ∈ xT := xT_t (i := 314) (by decide +kernel) (by decide +kernel)
theorem kmR_85 : (Jvm.Cond.methodLink "GoodsTree$TextReader" (85 : Nat) ({ cls := "GoodsTree$Tree", name := "fitsBelow", desc := "(IJ)Z" } : Jvm.MethodName)) ∈ xT := xT_t (i := 315) (by decide +kernel) (by decide +kernel)
theorem kiT_fitsBelow : (Jvm.Cond.instanceMethod ({ cls := "GoodsTree$Tree", name := "fitsBelow", desc := "(IJ)Z" } : Jvm.MethodName)) ∈ xT := xT_t (i := 316) (by decide +kernel) (by decide +kernel)
theorem ksT_fitsBelow : (Jvm.Cond.selects "GoodsTree$Tree" ({ cls := "GoodsTree$Tree", name := "fitsBelow", desc := "(IJ)Z" } : Jvm.MethodName) ({ cls := "GoodsTree$Tree", name := "fitsBelow", desc := "(IJ)Z" } : Jvm.MethodName)) ∈ xT := xT_t (i := 317) (by decide +kernel) (by decide +kernel)
theorem kcT_fitsBelow : (Jvm.Cond.code ({ cls := "GoodsTree$Tree", name := "fitsBelow", desc := "(IJ)Z" } : Jvm.MethodName) prog_6_method_15_code (4 : Nat) (Option.some Jvm.ClassFile.FieldType.boolean)) ∈ xT := xT_t (i := 318) (by decide +kernel) (by decide +kernel)
theorem kmT_46 : (Jvm.Cond.methodLink "GoodsTree$Tree" (46 : Nat) ({ cls := "GoodsTree$Codes", name := "isChapter", desc := "(J)Z" } : Jvm.MethodName)) ∈ xT := xT_t (i := 319) (by decide +kernel) (by decide +kernel)
theorem ktC_isChapter : (Jvm.Cond.static ({ cls := "GoodsTree$Codes", name := "isChapter", desc := "(J)Z" } : Jvm.MethodName)) ∈ xT := xT_t (i := 320) (by decide +kernel) (by decide +kernel)
theorem kcC_isChapter : (Jvm.Cond.code ({ cls := "GoodsTree$Codes", name := "isChapter", desc := "(J)Z" } : Jvm.MethodName) prog_2_method_2_code (2 : Nat) (Option.some Jvm.ClassFile.FieldType.boolean)) ∈ xT := xT_t (i := 321) (by decide +kernel) (by decide +kernel)
theorem kjC_11 : (Jvm.Cond.constantLong "GoodsTree$Codes" (11 : Nat) (200 : Int64)) ∈ xT := xT_t (i := 322) (by decide +kernel) (by decide +kernel)
theorem kmT_52 : (Jvm.Cond.methodLink "GoodsTree$Tree" (52 : Nat) ({ cls := "GoodsTree$Codes", name := "beginsWith", desc := "(JJ)Z" } : Jvm.MethodName)) ∈ xT := xT_t (i := 323) (by decide +kernel) (by decide +kernel)
theorem ktC_beginsWith : (Jvm.Cond.static ({ cls := "GoodsTree$Codes", name := "beginsWith", desc := "(JJ)Z" } : Jvm.MethodName)) ∈ xT := xT_t (i := 324) (by decide +kernel) (by decide +kernel)
theorem kcC_beginsWith : (Jvm.Cond.code ({ cls := "GoodsTree$Codes", name := "beginsWith", desc := "(JJ)Z" } : Jvm.MethodName) prog_2_method_3_code (7 : Nat) (Option.some Jvm.ClassFile.FieldType.boolean)) ∈ xT := xT_t (i := 325) (by decide +kernel) (by decide +kernel)
theorem kjC_13 : (Jvm.Cond.constantLong "GoodsTree$Codes" (13 : Nat) (10 : Int64)) ∈ xT := xT_t (i := 326) (by decide +kernel) (by decide +kernel)
theorem kmR_89 : (Jvm.Cond.methodLink "GoodsTree$TextReader" (89 : Nat) ({ cls := "GoodsTree$Tree", name := "comesBehindLast", desc := "(J)Z" } : Jvm.MethodName)) ∈ xT := xT_t (i := 327) (by decide +kernel) (by decide +kernel)
theorem kiT_comesBehindLast : (Jvm.Cond.instanceMethod ({ cls := "GoodsTree$Tree", name := "comesBehindLast", desc := "(J)Z" } : Jvm.MethodName)) ∈ xT := xT_t (i := 328) (by decide +kernel) (by decide +kernel)
theorem ksT_comesBehindLast : (Jvm.Cond.selects "GoodsTree$Tree" ({ cls := "GoodsTree$Tree", name := "comesBehindLast", desc := "(J)Z" } : Jvm.MethodName) ({ cls := "GoodsTree$Tree", name := "comesBehindLast", desc := "(J)Z" } : Jvm.MethodName)) ∈ xT := xT_t (i := 329) (by decide +kernel) (by decide +kernel)
theorem kcT_comesBehindLast : (Jvm.Cond.code ({ cls := "GoodsTree$Tree", name := "comesBehindLast", desc := "(J)Z" } : Jvm.MethodName) prog_6_method_16_code (3 : Nat) (Option.some Jvm.ClassFile.FieldType.boolean)) ∈ xT := xT_t (i := 330) (by decide +kernel) (by decide +kernel)
theorem kmT_56 : (Jvm.Cond.methodLink "GoodsTree$Tree" (56 : Nat) ({ cls := "GoodsTree$Tree", name := "codeOf", desc := "(I)J" } : Jvm.MethodName)) ∈ xT := xT_t (i := 331) (by decide +kernel) (by decide +kernel)
theorem kiT_codeOf : (Jvm.Cond.instanceMethod ({ cls := "GoodsTree$Tree", name := "codeOf", desc := "(I)J" } : Jvm.MethodName)) ∈ xT := xT_t (i := 332) (by decide +kernel) (by decide +kernel)
theorem ksT_codeOf : (Jvm.Cond.selects "GoodsTree$Tree" ({ cls := "GoodsTree$Tree", name := "codeOf", desc := "(I)J" } : Jvm.MethodName) ({ cls := "GoodsTree$Tree", name := "codeOf", desc := "(I)J" } : Jvm.MethodName)) ∈ xT := xT_t (i := 333) (by decide +kernel) (by decide +kernel)
theorem kcT_codeOf : (Jvm.Cond.code ({ cls := "GoodsTree$Tree", name := "codeOf", desc := "(I)J" } : Jvm.MethodName) prog_6_method_7_code (2 : Nat) (Option.some Jvm.ClassFile.FieldType.long)) ∈ xT := xT_t (i := 334) (by decide +kernel) (by decide +kernel)
theorem kmT_60 : (Jvm.Cond.methodLink "GoodsTree$Tree" (60 : Nat) ({ cls := "GoodsTree$Codes", name := "comesBehind", desc := "(JJ)Z" } : Jvm.MethodName)) ∈ xT := xT_t (i := 335) (by decide +kernel) (by decide +kernel)
theorem ktC_comesBehind : (Jvm.Cond.static ({ cls := "GoodsTree$Codes", name := "comesBehind", desc := "(JJ)Z" } : Jvm.MethodName)) ∈ xT := xT_t (i := 336) (by decide +kernel) (by decide +kernel)
theorem kcC_comesBehind : (Jvm.Cond.code ({ cls := "GoodsTree$Codes", name := "comesBehind", desc := "(JJ)Z" } : Jvm.MethodName) prog_2_method_4_code (8 : Nat) (Option.some Jvm.ClassFile.FieldType.boolean)) ∈ xT := xT_t (i := 337) (by decide +kernel) (by decide +kernel)
theorem kmC_15 : (Jvm.Cond.methodLink "GoodsTree$Codes" (15 : Nat) ({ cls := "GoodsTree$Codes", name := "fill", desc := "(J)J" } : Jvm.MethodName)) ∈ xT := xT_t (i := 338) (by decide +kernel) (by decide +kernel)
theorem ktC_fill : (Jvm.Cond.static ({ cls := "GoodsTree$Codes", name := "fill", desc := "(J)J" } : Jvm.MethodName)) ∈ xT := xT_t (i := 339) (by decide +kernel) (by decide +kernel)
theorem kcC_fill : (Jvm.Cond.code ({ cls := "GoodsTree$Codes", name := "fill", desc := "(J)J" } : Jvm.MethodName) prog_2_method_5_code (5 : Nat) (Option.some Jvm.ClassFile.FieldType.long)) ∈ xT := xT_t (i := 340) (by decide +kernel) (by decide +kernel)
theorem kjC_19 : (Jvm.Cond.constantLong "GoodsTree$Codes" (19 : Nat) (10000000000 : Int64)) ∈ xT := xT_t (i := 341) (by decide +kernel) (by decide +kernel)
theorem kmR_50 : (Jvm.Cond.methodLink "GoodsTree$TextReader" (50 : Nat) ({ cls := "GoodsTree$TextReader", name := "readWords", desc := "(I)Z" } : Jvm.MethodName)) ∈ xT := xT_t (i := 342) (by decide +kernel) (by decide +kernel)
theorem kiR_readWords : (Jvm.Cond.instanceMethod ({ cls := "GoodsTree$TextReader", name := "readWords", desc := "(I)Z" } : Jvm.MethodName)) ∈ xT := xT_t (i := 344) (by decide +kernel) (by decide +kernel)
theorem kcR_readWords : (Jvm.Cond.code ({ cls := "GoodsTree$TextReader", name := "readWords", desc := "(I)Z" } : Jvm.MethodName) prog_5_method_17_code (5 : Nat) (Option.some Jvm.ClassFile.FieldType.boolean)) ∈ xT := xT_t (i := 345) (by decide +kernel) (by decide +kernel)
theorem kmR_99 : (Jvm.Cond.methodLink "GoodsTree$TextReader" (99 : Nat) ({ cls := "GoodsTree$TextReader", name := "readWord", desc := "()J" } : Jvm.MethodName)) ∈ xT := xT_t (i := 346) (by decide +kernel) (by decide +kernel)
theorem kiR_readWord : (Jvm.Cond.instanceMethod ({ cls := "GoodsTree$TextReader", name := "readWord", desc := "()J" } : Jvm.MethodName)) ∈ xT := xT_t (i := 348) (by decide +kernel) (by decide +kernel)
theorem kcR_readWord : (Jvm.Cond.code ({ cls := "GoodsTree$TextReader", name := "readWord", desc := "()J" } : Jvm.MethodName) prog_5_method_18_code (4 : Nat) (Option.some Jvm.ClassFile.FieldType.long)) ∈ xT := xT_t (i := 349) (by decide +kernel) (by decide +kernel)
theorem kjR_105 : (Jvm.Cond.constantLong "GoodsTree$TextReader" (105 : Nat) (32 : Int64)) ∈ xT := xT_t (i := 350) (by decide +kernel) (by decide +kernel)
theorem kmR_93 : (Jvm.Cond.methodLink "GoodsTree$TextReader" (93 : Nat) ({ cls := "GoodsTree$Tree", name := "add", desc := "(JILGoodsTree$TextReader;)V" } : Jvm.MethodName)) ∈ xT := xT_t (i := 351) (by decide +kernel) (by decide +kernel)
theorem kiT_add : (Jvm.Cond.instanceMethod ({ cls := "GoodsTree$Tree", name := "add", desc := "(JILGoodsTree$TextReader;)V" } : Jvm.MethodName)) ∈ xT := xT_t (i := 352) (by decide +kernel) (by decide +kernel)
theorem ksT_add : (Jvm.Cond.selects "GoodsTree$Tree" ({ cls := "GoodsTree$Tree", name := "add", desc := "(JILGoodsTree$TextReader;)V" } : Jvm.MethodName) ({ cls := "GoodsTree$Tree", name := "add", desc := "(JILGoodsTree$TextReader;)V" } : Jvm.MethodName)) ∈ xT := xT_t (i := 353) (by decide +kernel) (by decide +kernel)
theorem kcT_add : (Jvm.Cond.code ({ cls := "GoodsTree$Tree", name := "add", desc := "(JILGoodsTree$TextReader;)V" } : Jvm.MethodName) prog_6_method_17_code (7 : Nat) (Option.none : Option Jvm.ClassFile.FieldType)) ∈ xT := xT_t (i := 354) (by decide +kernel) (by decide +kernel)
theorem kmT_63 : (Jvm.Cond.methodLink "GoodsTree$Tree" (63 : Nat) ({ cls := "GoodsTree$Tree", name := "isFull", desc := "()Z" } : Jvm.MethodName)) ∈ xT := xT_t (i := 355) (by decide +kernel) (by decide +kernel)
theorem kmT_67 : (Jvm.Cond.methodLink "GoodsTree$Tree" (67 : Nat) ({ cls := "GoodsTree$Tree", name := "parentFor", desc := "(I)I" } : Jvm.MethodName)) ∈ xT := xT_t (i := 356) (by decide +kernel) (by decide +kernel)
theorem kmT_70 : (Jvm.Cond.methodLink "GoodsTree$Tree" (70 : Nat) ({ cls := "GoodsTree$TextReader", name := "wordCount", desc := "()I" } : Jvm.MethodName)) ∈ xT := xT_t (i := 357) (by decide +kernel) (by decide +kernel)
theorem kiR_wordCount : (Jvm.Cond.instanceMethod ({ cls := "GoodsTree$TextReader", name := "wordCount", desc := "()I" } : Jvm.MethodName)) ∈ xT := xT_t (i := 358) (by decide +kernel) (by decide +kernel)
theorem ksR_wordCount : (Jvm.Cond.selects "GoodsTree$TextReader" ({ cls := "GoodsTree$TextReader", name := "wordCount", desc := "()I" } : Jvm.MethodName) ({ cls := "GoodsTree$TextReader", name := "wordCount", desc := "()I" } : Jvm.MethodName)) ∈ xT := xT_t (i := 359) (by decide +kernel) (by decide +kernel)
theorem kcR_wordCount : (Jvm.Cond.code ({ cls := "GoodsTree$TextReader", name := "wordCount", desc := "()I" } : Jvm.MethodName) prog_5_method_5_code (1 : Nat) (Option.some Jvm.ClassFile.FieldType.int)) ∈ xT := xT_t (i := 360) (by decide +kernel) (by decide +kernel)
theorem kmT_76 : (Jvm.Cond.methodLink "GoodsTree$Tree" (76 : Nat) ({ cls := "java/lang/Math", name := "min", desc := "(II)I" } : Jvm.MethodName)) ∈ xT := xT_t (i := 361) (by decide +kernel) (by decide +kernel)
theorem ktJM_min : (Jvm.Cond.static ({ cls := "java/lang/Math", name := "min", desc := "(II)I" } : Jvm.MethodName)) ∈ xT := xT_t (i := 362) (by decide +kernel) (by decide +kernel)
theorem kcJM_min : (Jvm.Cond.code ({ cls := "java/lang/Math", name := "min", desc := "(II)I" } : Jvm.MethodName) prog_13_method_69_code (2 : Nat) (Option.some Jvm.ClassFile.FieldType.int)) ∈ xT := xT_t (i := 363) (by decide +kernel) (by decide +kernel)
theorem kmT_82 : (Jvm.Cond.methodLink "GoodsTree$Tree" (82 : Nat) ({ cls := "GoodsTree$TextReader", name := "wordAt", desc := "(I)J" } : Jvm.MethodName)) ∈ xT := xT_t (i := 364) (by decide +kernel) (by decide +kernel)
theorem kiR_wordAt : (Jvm.Cond.instanceMethod ({ cls := "GoodsTree$TextReader", name := "wordAt", desc := "(I)J" } : Jvm.MethodName)) ∈ xT := xT_t (i := 365) (by decide +kernel) (by decide +kernel)
theorem ksR_wordAt : (Jvm.Cond.selects "GoodsTree$TextReader" ({ cls := "GoodsTree$TextReader", name := "wordAt", desc := "(I)J" } : Jvm.MethodName) ({ cls := "GoodsTree$TextReader", name := "wordAt", desc := "(I)J" } : Jvm.MethodName)) ∈ xT := xT_t (i := 366) (by decide +kernel) (by decide +kernel)
theorem kcR_wordAt : (Jvm.Cond.code ({ cls := "GoodsTree$TextReader", name := "wordAt", desc := "(I)J" } : Jvm.MethodName) prog_5_method_6_code (2 : Nat) (Option.some Jvm.ClassFile.FieldType.long)) ∈ xT := xT_t (i := 367) (by decide +kernel) (by decide +kernel)
theorem kmG_61 : (Jvm.Cond.methodLink "GoodsTree" (61 : Nat) ({ cls := "GoodsTree$TextReader", name := "clear", desc := "()V" } : Jvm.MethodName)) ∈ xT := xT_t (i := 368) (by decide +kernel) (by decide +kernel)
theorem kiR_clear : (Jvm.Cond.instanceMethod ({ cls := "GoodsTree$TextReader", name := "clear", desc := "()V" } : Jvm.MethodName)) ∈ xT := xT_t (i := 369) (by decide +kernel) (by decide +kernel)
theorem ksR_clear : (Jvm.Cond.selects "GoodsTree$TextReader" ({ cls := "GoodsTree$TextReader", name := "clear", desc := "()V" } : Jvm.MethodName) ({ cls := "GoodsTree$TextReader", name := "clear", desc := "()V" } : Jvm.MethodName)) ∈ xT := xT_t (i := 370) (by decide +kernel) (by decide +kernel)
theorem kcR_clear : (Jvm.Cond.code ({ cls := "GoodsTree$TextReader", name := "clear", desc := "()V" } : Jvm.MethodName) prog_5_method_7_code (1 : Nat) (Option.none : Option Jvm.ClassFile.FieldType)) ∈ xT := xT_t (i := 371) (by decide +kernel) (by decide +kernel)
theorem klG_62 : (Jvm.Cond.classLink "GoodsTree" (62 : Nat) "java/lang/IllegalStateException") ∈ xT := xT_t (i := 372) (by decide +kernel) (by decide +kernel)
theorem kqJS : (Jvm.Cond.instantiable "java/lang/IllegalStateException" (6 : Nat)) ∈ xT := xT_t (i := 373) (by decide +kernel) (by decide +kernel)
theorem kfJT_198 : (Jvm.Cond.fieldLink "java/lang/Throwable" (198 : Nat) "java/lang/Throwable" "backtrace" "Ljava/lang/Object;") ∈ xT := xT_t (i := 393) (by decide +kernel) (by decide +kernel)
theorem kiJT_init : (Jvm.Cond.instanceMethod ({ cls := "java/lang/Throwable", name := "<init>", desc := "()V" } : Jvm.MethodName)) ∈ xT := xT_t (i := 395) (by decide +kernel) (by decide +kernel)
theorem kcJT_init : (Jvm.Cond.code ({ cls := "java/lang/Throwable", name := "<init>", desc := "()V" } : Jvm.MethodName) prog_16_method_1_code (1 : Nat) (Option.none : Option Jvm.ClassFile.FieldType)) ∈ xT := xT_t (i := 396) (by decide +kernel) (by decide +kernel)
theorem kmJT_1 : (Jvm.Cond.methodLink "java/lang/Throwable" (1 : Nat) ({ cls := "java/lang/Object", name := "<init>", desc := "()V" } : Jvm.MethodName)) ∈ xT := xT_t (i := 397) (by decide +kernel) (by decide +kernel)
theorem kfJT_13 : (Jvm.Cond.fieldLink "java/lang/Throwable" (13 : Nat) "java/lang/Throwable" "UNASSIGNED_STACK" "[Ljava/lang/StackTraceElement;") ∈ xT := xT_t (i := 398) (by decide +kernel) (by decide +kernel)
theorem kfJT_20 : (Jvm.Cond.fieldLink "java/lang/Throwable" (20 : Nat) "java/lang/Throwable" "SUPPRESSED_SENTINEL" "Ljava/util/List;") ∈ xT := xT_t (i := 400) (by decide +kernel) (by decide +kernel)
theorem kmJT_27 : (Jvm.Cond.methodLink "java/lang/Throwable" (27 : Nat) ({ cls := "java/lang/Throwable", name := "fillInStackTrace", desc := "()Ljava/lang/Throwable;" } : Jvm.MethodName)) ∈ xT := xT_t (i := 402) (by decide +kernel) (by decide +kernel)
theorem kiJT_fillInStackTrace : (Jvm.Cond.instanceMethod ({ cls := "java/lang/Throwable", name := "fillInStackTrace", desc := "()Ljava/lang/Throwable;" } : Jvm.MethodName)) ∈ xT := xT_t (i := 403) (by decide +kernel) (by decide +kernel)
theorem kmJT_202 : (Jvm.Cond.methodLink "java/lang/Throwable" (202 : Nat) ({ cls := "java/lang/Throwable", name := "fillInStackTrace", desc := "(I)Ljava/lang/Throwable;" } : Jvm.MethodName)) ∈ xT := xT_t (i := 408) (by decide +kernel) (by decide +kernel)
theorem kiJT_fillInStackTrace2 : (Jvm.Cond.instanceMethod ({ cls := "java/lang/Throwable", name := "fillInStackTrace", desc := "(I)Ljava/lang/Throwable;" } : Jvm.MethodName)) ∈ xT := xT_t (i := 410) (by decide +kernel) (by decide +kernel)
theorem kqJT : (Jvm.Cond.instantiable "java/lang/Throwable" (6 : Nat)) ∈ xT := xT_t (i := 411) (by decide +kernel) (by decide +kernel)
theorem kvJT_fillInStackTrace2 : (Jvm.Cond.native ({ cls := "java/lang/Throwable", name := "fillInStackTrace", desc := "(I)Ljava/lang/Throwable;" } : Jvm.MethodName)) ∈ xT := xT_t (i := 412) (by decide +kernel) (by decide +kernel)
theorem kmG_66 : (Jvm.Cond.methodLink "GoodsTree" (66 : Nat) ({ cls := "java/lang/IllegalStateException", name := "<init>", desc := "(Ljava/lang/String;)V" } : Jvm.MethodName)) ∈ xT := xT_t (i := 414) (by decide +kernel) (by decide +kernel)
theorem kiJS_init : (Jvm.Cond.instanceMethod ({ cls := "java/lang/IllegalStateException", name := "<init>", desc := "(Ljava/lang/String;)V" } : Jvm.MethodName)) ∈ xT := xT_t (i := 415) (by decide +kernel) (by decide +kernel)
theorem kcJS_init : (Jvm.Cond.code ({ cls := "java/lang/IllegalStateException", name := "<init>", desc := "(Ljava/lang/String;)V" } : Jvm.MethodName) prog_11_method_2_code (2 : Nat) (Option.none : Option Jvm.ClassFile.FieldType)) ∈ xT := xT_t (i := 416) (by decide +kernel) (by decide +kernel)
theorem kmJS_7 : (Jvm.Cond.methodLink "java/lang/IllegalStateException" (7 : Nat) ({ cls := "java/lang/RuntimeException", name := "<init>", desc := "(Ljava/lang/String;)V" } : Jvm.MethodName)) ∈ xT := xT_t (i := 417) (by decide +kernel) (by decide +kernel)
theorem kiJR_init : (Jvm.Cond.instanceMethod ({ cls := "java/lang/RuntimeException", name := "<init>", desc := "(Ljava/lang/String;)V" } : Jvm.MethodName)) ∈ xT := xT_t (i := 418) (by decide +kernel) (by decide +kernel)
theorem kcJR_init : (Jvm.Cond.code ({ cls := "java/lang/RuntimeException", name := "<init>", desc := "(Ljava/lang/String;)V" } : Jvm.MethodName) prog_14_method_2_code (2 : Nat) (Option.none : Option Jvm.ClassFile.FieldType)) ∈ xT := xT_t (i := 419) (by decide +kernel) (by decide +kernel)
theorem kmJR_7 : (Jvm.Cond.methodLink "java/lang/RuntimeException" (7 : Nat) ({ cls := "java/lang/Exception", name := "<init>", desc := "(Ljava/lang/String;)V" } : Jvm.MethodName)) ∈ xT := xT_t (i := 420) (by decide +kernel) (by decide +kernel)
theorem kiJE_init : (Jvm.Cond.instanceMethod ({ cls := "java/lang/Exception", name := "<init>", desc := "(Ljava/lang/String;)V" } : Jvm.MethodName)) ∈ xT := xT_t (i := 421) (by decide +kernel) (by decide +kernel)
theorem kcJE_init : (Jvm.Cond.code ({ cls := "java/lang/Exception", name := "<init>", desc := "(Ljava/lang/String;)V" } : Jvm.MethodName) prog_9_method_2_code (2 : Nat) (Option.none : Option Jvm.ClassFile.FieldType)) ∈ xT := xT_t (i := 422) (by decide +kernel) (by decide +kernel)
theorem kmJE_7 : (Jvm.Cond.methodLink "java/lang/Exception" (7 : Nat) ({ cls := "java/lang/Throwable", name := "<init>", desc := "(Ljava/lang/String;)V" } : Jvm.MethodName)) ∈ xT := xT_t (i := 423) (by decide +kernel) (by decide +kernel)
theorem kiJT_init2 : (Jvm.Cond.instanceMethod ({ cls := "java/lang/Throwable", name := "<init>", desc := "(Ljava/lang/String;)V" } : Jvm.MethodName)) ∈ xT := xT_t (i := 424) (by decide +kernel) (by decide +kernel)
theorem kcJT_init2 : (Jvm.Cond.code ({ cls := "java/lang/Throwable", name := "<init>", desc := "(Ljava/lang/String;)V" } : Jvm.MethodName) prog_16_method_2_code (2 : Nat) (Option.none : Option Jvm.ClassFile.FieldType)) ∈ xT := xT_t (i := 425) (by decide +kernel) (by decide +kernel)
theorem kfJT_31 : (Jvm.Cond.fieldLink "java/lang/Throwable" (31 : Nat) "java/lang/Throwable" "detailMessage" "Ljava/lang/String;") ∈ xT := xT_t (i := 427) (by decide +kernel) (by decide +kernel)
theorem kfJT_7 : (Jvm.Cond.fieldLink "java/lang/Throwable" (7 : Nat) "java/lang/Throwable" "cause" "Ljava/lang/Throwable;") ∈ xT := xT_t (i := 428) (by decide +kernel) (by decide +kernel)
theorem kfJT_17 : (Jvm.Cond.fieldLink "java/lang/Throwable" (17 : Nat) "java/lang/Throwable" "stackTrace" "[Ljava/lang/StackTraceElement;") ∈ xT := xT_t (i := 429) (by decide +kernel) (by decide +kernel)
theorem kfJT_24 : (Jvm.Cond.fieldLink "java/lang/Throwable" (24 : Nat) "java/lang/Throwable" "suppressedExceptions" "Ljava/util/List;") ∈ xT := xT_t (i := 430) (by decide +kernel) (by decide +kernel)
theorem ka_byte : (Jvm.Cond.arrayClass Jvm.ClassFile.FieldType.byte) ∈ xT := xT_t (i := 439) (by decide +kernel) (by decide +kernel)
theorem kmG_69 : (Jvm.Cond.methodLink "GoodsTree" (69 : Nat) ({ cls := "GoodsTree$Pairs", name := "dropFrom", desc := "(I)V" } : Jvm.MethodName)) ∈ xT := xT_t (i := 440) (by decide +kernel) (by decide +kernel)
theorem kiP_dropFrom : (Jvm.Cond.instanceMethod ({ cls := "GoodsTree$Pairs", name := "dropFrom", desc := "(I)V" } : Jvm.MethodName)) ∈ xT := xT_t (i := 441) (by decide +kernel) (by decide +kernel)
theorem ksP_dropFrom : (Jvm.Cond.selects "GoodsTree$Pairs" ({ cls := "GoodsTree$Pairs", name := "dropFrom", desc := "(I)V" } : Jvm.MethodName) ({ cls := "GoodsTree$Pairs", name := "dropFrom", desc := "(I)V" } : Jvm.MethodName)) ∈ xT := xT_t (i := 442) (by decide +kernel) (by decide +kernel)
theorem kcP_dropFrom : (Jvm.Cond.code ({ cls := "GoodsTree$Pairs", name := "dropFrom", desc := "(I)V" } : Jvm.MethodName) prog_4_method_12_code (3 : Nat) (Option.none : Option Jvm.ClassFile.FieldType)) ∈ xT := xT_t (i := 443) (by decide +kernel) (by decide +kernel)
theorem kmP_47 : (Jvm.Cond.methodLink "GoodsTree$Pairs" (47 : Nat) ({ cls := "GoodsTree$Pairs", name := "drop", desc := "(I)V" } : Jvm.MethodName)) ∈ xT := xT_t (i := 444) (by decide +kernel) (by decide +kernel)
theorem kiP_drop : (Jvm.Cond.instanceMethod ({ cls := "GoodsTree$Pairs", name := "drop", desc := "(I)V" } : Jvm.MethodName)) ∈ xT := xT_t (i := 446) (by decide +kernel) (by decide +kernel)
theorem kcP_drop : (Jvm.Cond.code ({ cls := "GoodsTree$Pairs", name := "drop", desc := "(I)V" } : Jvm.MethodName) prog_4_method_14_code (3 : Nat) (Option.none : Option Jvm.ClassFile.FieldType)) ∈ xT := xT_t (i := 447) (by decide +kernel) (by decide +kernel)
theorem kmG_72 : (Jvm.Cond.methodLink "GoodsTree" (72 : Nat) ({ cls := "GoodsTree$Pairs", name := "dropMarked", desc := "(I)V" } : Jvm.MethodName)) ∈ xT := xT_t (i := 448) (by decide +kernel) (by decide +kernel)
theorem kiP_dropMarked : (Jvm.Cond.instanceMethod ({ cls := "GoodsTree$Pairs", name := "dropMarked", desc := "(I)V" } : Jvm.MethodName)) ∈ xT := xT_t (i := 449) (by decide +kernel) (by decide +kernel)
theorem ksP_dropMarked : (Jvm.Cond.selects "GoodsTree$Pairs" ({ cls := "GoodsTree$Pairs", name := "dropMarked", desc := "(I)V" } : Jvm.MethodName) ({ cls := "GoodsTree$Pairs", name := "dropMarked", desc := "(I)V" } : Jvm.MethodName)) ∈ xT := xT_t (i := 450) (by decide +kernel) (by decide +kernel)
theorem kcP_dropMarked : (Jvm.Cond.code ({ cls := "GoodsTree$Pairs", name := "dropMarked", desc := "(I)V" } : Jvm.MethodName) prog_4_method_13_code (3 : Nat) (Option.none : Option Jvm.ClassFile.FieldType)) ∈ xT := xT_t (i := 451) (by decide +kernel) (by decide +kernel)
theorem kmL_76 : (Jvm.Cond.methodLink "GoodsTreeLaw" (76 : Nat) ({ cls := "GoodsTreeLaw", name := "row", desc := "(LGoodsTree;II[J)I" } : Jvm.MethodName)) ∈ xT := xT_t (i := 452) (by decide +kernel) (by decide +kernel)
theorem ktL_row : (Jvm.Cond.static ({ cls := "GoodsTreeLaw", name := "row", desc := "(LGoodsTree;II[J)I" } : Jvm.MethodName)) ∈ xT := xT_t (i := 453) (by decide +kernel) (by decide +kernel)
theorem kwL_row : (Jvm.Cond.codeWith ({ cls := "GoodsTreeLaw", name := "row", desc := "(LGoodsTree;II[J)I" } : Jvm.MethodName) method_4_code (5 : Nat) (Option.some Jvm.ClassFile.FieldType.int) [((0 : Nat), (9 : Nat), (12 : Nat), (19 : Nat))]) ∈ xT := xT_t (i := 454) (by decide +kernel) (by decide +kernel)
theorem klL_19 : (Jvm.Cond.classLink "GoodsTreeLaw" (19 : Nat) "java/lang/IndexOutOfBoundsException") ∈ xT := xT_t (i := 455) (by decide +kernel) (by decide +kernel)
theorem kmL_15 : (Jvm.Cond.methodLink "GoodsTreeLaw" (15 : Nat) ({ cls := "GoodsTree", name := "row", desc := "(II)J" } : Jvm.MethodName)) ∈ xT := xT_t (i := 456) (by decide +kernel) (by decide +kernel)
theorem kiG_row : (Jvm.Cond.instanceMethod ({ cls := "GoodsTree", name := "row", desc := "(II)J" } : Jvm.MethodName)) ∈ xT := xT_t (i := 457) (by decide +kernel) (by decide +kernel)
theorem ksG_row : (Jvm.Cond.selects "GoodsTree" ({ cls := "GoodsTree", name := "row", desc := "(II)J" } : Jvm.MethodName) ({ cls := "GoodsTree", name := "row", desc := "(II)J" } : Jvm.MethodName)) ∈ xT := xT_t (i := 458) (by decide +kernel) (by decide +kernel)
theorem kcG_row : (Jvm.Cond.code ({ cls := "GoodsTree", name := "row", desc := "(II)J" } : Jvm.MethodName) prog_1_method_6_code (4 : Nat) (Option.some Jvm.ClassFile.FieldType.long)) ∈ xT := xT_t (i := 459) (by decide +kernel) (by decide +kernel)
theorem kmG_88 : (Jvm.Cond.methodLink "GoodsTree" (88 : Nat) ({ cls := "GoodsTree$Tree", name := "has", desc := "(I)Z" } : Jvm.MethodName)) ∈ xT := xT_t (i := 460) (by decide +kernel) (by decide +kernel)
theorem klG_91 : (Jvm.Cond.classLink "GoodsTree" (91 : Nat) "java/lang/IndexOutOfBoundsException") ∈ xT := xT_t (i := 461) (by decide +kernel) (by decide +kernel)
theorem kqJI : (Jvm.Cond.instantiable "java/lang/IndexOutOfBoundsException" (6 : Nat)) ∈ xT := xT_t (i := 462) (by decide +kernel) (by decide +kernel)
theorem kmG_95 : (Jvm.Cond.methodLink "GoodsTree" (95 : Nat) ({ cls := "java/lang/IndexOutOfBoundsException", name := "<init>", desc := "(Ljava/lang/String;)V" } : Jvm.MethodName)) ∈ xT := xT_t (i := 471) (by decide +kernel) (by decide +kernel)
theorem kiJI_init : (Jvm.Cond.instanceMethod ({ cls := "java/lang/IndexOutOfBoundsException", name := "<init>", desc := "(Ljava/lang/String;)V" } : Jvm.MethodName)) ∈ xT := xT_t (i := 472) (by decide +kernel) (by decide +kernel)
theorem kcJI_init : (Jvm.Cond.code ({ cls := "java/lang/IndexOutOfBoundsException", name := "<init>", desc := "(Ljava/lang/String;)V" } : Jvm.MethodName) prog_12_method_2_code (2 : Nat) (Option.none : Option Jvm.ClassFile.FieldType)) ∈ xT := xT_t (i := 473) (by decide +kernel) (by decide +kernel)
theorem kmJI_7 : (Jvm.Cond.methodLink "java/lang/IndexOutOfBoundsException" (7 : Nat) ({ cls := "java/lang/RuntimeException", name := "<init>", desc := "(Ljava/lang/String;)V" } : Jvm.MethodName)) ∈ xT := xT_t (i := 474) (by decide +kernel) (by decide +kernel)
theorem kmG_96 : (Jvm.Cond.methodLink "GoodsTree" (96 : Nat) ({ cls := "GoodsTree$Tree", name := "codeOf", desc := "(I)J" } : Jvm.MethodName)) ∈ xT := xT_t (i := 477) (by decide +kernel) (by decide +kernel)
theorem kmG_100 : (Jvm.Cond.methodLink "GoodsTree" (100 : Nat) ({ cls := "GoodsTree$Tree", name := "dashesOf", desc := "(I)I" } : Jvm.MethodName)) ∈ xT := xT_t (i := 478) (by decide +kernel) (by decide +kernel)
theorem kmG_104 : (Jvm.Cond.methodLink "GoodsTree" (104 : Nat) ({ cls := "GoodsTree$Tree", name := "wordsOf", desc := "(I)I" } : Jvm.MethodName)) ∈ xT := xT_t (i := 479) (by decide +kernel) (by decide +kernel)
theorem kiT_wordsOf : (Jvm.Cond.instanceMethod ({ cls := "GoodsTree$Tree", name := "wordsOf", desc := "(I)I" } : Jvm.MethodName)) ∈ xT := xT_t (i := 480) (by decide +kernel) (by decide +kernel)
theorem ksT_wordsOf : (Jvm.Cond.selects "GoodsTree$Tree" ({ cls := "GoodsTree$Tree", name := "wordsOf", desc := "(I)I" } : Jvm.MethodName) ({ cls := "GoodsTree$Tree", name := "wordsOf", desc := "(I)I" } : Jvm.MethodName)) ∈ xT := xT_t (i := 481) (by decide +kernel) (by decide +kernel)
theorem kcT_wordsOf : (Jvm.Cond.code ({ cls := "GoodsTree$Tree", name := "wordsOf", desc := "(I)I" } : Jvm.MethodName) prog_6_method_11_code (2 : Nat) (Option.some Jvm.ClassFile.FieldType.int)) ∈ xT := xT_t (i := 482) (by decide +kernel) (by decide +kernel)
theorem kmG_107 : (Jvm.Cond.methodLink "GoodsTree" (107 : Nat) ({ cls := "GoodsTree$Tree", name := "parentOf", desc := "(I)I" } : Jvm.MethodName)) ∈ xT := xT_t (i := 483) (by decide +kernel) (by decide +kernel)
theorem kiT_parentOf : (Jvm.Cond.instanceMethod ({ cls := "GoodsTree$Tree", name := "parentOf", desc := "(I)I" } : Jvm.MethodName)) ∈ xT := xT_t (i := 484) (by decide +kernel) (by decide +kernel)
theorem ksT_parentOf : (Jvm.Cond.selects "GoodsTree$Tree" ({ cls := "GoodsTree$Tree", name := "parentOf", desc := "(I)I" } : Jvm.MethodName) ({ cls := "GoodsTree$Tree", name := "parentOf", desc := "(I)I" } : Jvm.MethodName)) ∈ xT := xT_t (i := 485) (by decide +kernel) (by decide +kernel)
theorem kcT_parentOf : (Jvm.Cond.code ({ cls := "GoodsTree$Tree", name := "parentOf", desc := "(I)I" } : Jvm.MethodName) prog_6_method_9_code (2 : Nat) (Option.some Jvm.ClassFile.FieldType.int)) ∈ xT := xT_t (i := 486) (by decide +kernel) (by decide +kernel)
theorem kmG_110 : (Jvm.Cond.methodLink "GoodsTree" (110 : Nat) ({ cls := "GoodsTree$Tree", name := "childrenOf", desc := "(I)I" } : Jvm.MethodName)) ∈ xT := xT_t (i := 487) (by decide +kernel) (by decide +kernel)
theorem kiT_childrenOf : (Jvm.Cond.instanceMethod ({ cls := "GoodsTree$Tree", name := "childrenOf", desc := "(I)I" } : Jvm.MethodName)) ∈ xT := xT_t (i := 488) (by decide +kernel) (by decide +kernel)
theorem ksT_childrenOf : (Jvm.Cond.selects "GoodsTree$Tree" ({ cls := "GoodsTree$Tree", name := "childrenOf", desc := "(I)I" } : Jvm.MethodName) ({ cls := "GoodsTree$Tree", name := "childrenOf", desc := "(I)I" } : Jvm.MethodName)) ∈ xT := xT_t (i := 489) (by decide +kernel) (by decide +kernel)
theorem kcT_childrenOf : (Jvm.Cond.code ({ cls := "GoodsTree$Tree", name := "childrenOf", desc := "(I)I" } : Jvm.MethodName) prog_6_method_10_code (2 : Nat) (Option.some Jvm.ClassFile.FieldType.int)) ∈ xT := xT_t (i := 490) (by decide +kernel) (by decide +kernel)
theorem kmL_87 : (Jvm.Cond.methodLink "GoodsTreeLaw" (87 : Nat) ({ cls := "GoodsTreeLaw", name := "note", desc := "(LGoodsTree;JIJ[J)I" } : Jvm.MethodName)) ∈ xT := xT_t (i := 492) (by decide +kernel) (by decide +kernel)
theorem ktL_note : (Jvm.Cond.static ({ cls := "GoodsTreeLaw", name := "note", desc := "(LGoodsTree;JIJ[J)I" } : Jvm.MethodName)) ∈ xT := xT_t (i := 493) (by decide +kernel) (by decide +kernel)
theorem kwL_note : (Jvm.Cond.codeWith ({ cls := "GoodsTreeLaw", name := "note", desc := "(LGoodsTree;JIJ[J)I" } : Jvm.MethodName) method_5_code (8 : Nat) (Option.some Jvm.ClassFile.FieldType.int) [((0 : Nat), (13 : Nat), (16 : Nat), (25 : Nat)), ((0 : Nat), (13 : Nat), (20 : Nat), (13 : Nat))]) ∈ xT := xT_t (i := 494) (by decide +kernel) (by decide +kernel)
theorem klL_25 : (Jvm.Cond.classLink "GoodsTreeLaw" (25 : Nat) "java/lang/IllegalArgumentException") ∈ xT := xT_t (i := 495) (by decide +kernel) (by decide +kernel)
theorem kmL_21 : (Jvm.Cond.methodLink "GoodsTreeLaw" (21 : Nat) ({ cls := "GoodsTree", name := "note", desc := "(JIJ)I" } : Jvm.MethodName)) ∈ xT := xT_t (i := 496) (by decide +kernel) (by decide +kernel)
theorem kiG_note : (Jvm.Cond.instanceMethod ({ cls := "GoodsTree", name := "note", desc := "(JIJ)I" } : Jvm.MethodName)) ∈ xT := xT_t (i := 497) (by decide +kernel) (by decide +kernel)
theorem ksG_note : (Jvm.Cond.selects "GoodsTree" ({ cls := "GoodsTree", name := "note", desc := "(JIJ)I" } : Jvm.MethodName) ({ cls := "GoodsTree", name := "note", desc := "(JIJ)I" } : Jvm.MethodName)) ∈ xT := xT_t (i := 498) (by decide +kernel) (by decide +kernel)
theorem kcG_note : (Jvm.Cond.code ({ cls := "GoodsTree", name := "note", desc := "(JIJ)I" } : Jvm.MethodName) prog_1_method_8_code (7 : Nat) (Option.some Jvm.ClassFile.FieldType.int)) ∈ xT := xT_t (i := 499) (by decide +kernel) (by decide +kernel)
theorem klG_123 : (Jvm.Cond.classLink "GoodsTree" (123 : Nat) "java/lang/IllegalArgumentException") ∈ xT := xT_t (i := 500) (by decide +kernel) (by decide +kernel)
theorem kqJA : (Jvm.Cond.instantiable "java/lang/IllegalArgumentException" (6 : Nat)) ∈ xT := xT_t (i := 501) (by decide +kernel) (by decide +kernel)
theorem kmG_127 : (Jvm.Cond.methodLink "GoodsTree" (127 : Nat) ({ cls := "java/lang/IllegalArgumentException", name := "<init>", desc := "(Ljava/lang/String;)V" } : Jvm.MethodName)) ∈ xT := xT_t (i := 510) (by decide +kernel) (by decide +kernel)
theorem kiJA_init : (Jvm.Cond.instanceMethod ({ cls := "java/lang/IllegalArgumentException", name := "<init>", desc := "(Ljava/lang/String;)V" } : Jvm.MethodName)) ∈ xT := xT_t (i := 511) (by decide +kernel) (by decide +kernel)
theorem kcJA_init : (Jvm.Cond.code ({ cls := "java/lang/IllegalArgumentException", name := "<init>", desc := "(Ljava/lang/String;)V" } : Jvm.MethodName) prog_10_method_2_code (2 : Nat) (Option.none : Option Jvm.ClassFile.FieldType)) ∈ xT := xT_t (i := 512) (by decide +kernel) (by decide +kernel)
theorem kmJA_7 : (Jvm.Cond.methodLink "java/lang/IllegalArgumentException" (7 : Nat) ({ cls := "java/lang/RuntimeException", name := "<init>", desc := "(Ljava/lang/String;)V" } : Jvm.MethodName)) ∈ xT := xT_t (i := 513) (by decide +kernel) (by decide +kernel)
theorem kmG_142 : (Jvm.Cond.methodLink "GoodsTree" (142 : Nat) ({ cls := "GoodsTree$Pairs", name := "sizeFrom", desc := "(I)I" } : Jvm.MethodName)) ∈ xT := xT_t (i := 517) (by decide +kernel) (by decide +kernel)
theorem kiP_sizeFrom : (Jvm.Cond.instanceMethod ({ cls := "GoodsTree$Pairs", name := "sizeFrom", desc := "(I)I" } : Jvm.MethodName)) ∈ xT := xT_t (i := 518) (by decide +kernel) (by decide +kernel)
theorem ksP_sizeFrom : (Jvm.Cond.selects "GoodsTree$Pairs" ({ cls := "GoodsTree$Pairs", name := "sizeFrom", desc := "(I)I" } : Jvm.MethodName) ({ cls := "GoodsTree$Pairs", name := "sizeFrom", desc := "(I)I" } : Jvm.MethodName)) ∈ xT := xT_t (i := 519) (by decide +kernel) (by decide +kernel)
theorem kcP_sizeFrom : (Jvm.Cond.code ({ cls := "GoodsTree$Pairs", name := "sizeFrom", desc := "(I)I" } : Jvm.MethodName) prog_4_method_10_code (4 : Nat) (Option.some Jvm.ClassFile.FieldType.int)) ∈ xT := xT_t (i := 520) (by decide +kernel) (by decide +kernel)
theorem kmL_91 : (Jvm.Cond.methodLink "GoodsTreeLaw" (91 : Nat) ({ cls := "GoodsTreeLaw", name := "noted", desc := "(LGoodsTree;JI[J)I" } : Jvm.MethodName)) ∈ xT := xT_t (i := 521) (by decide +kernel) (by decide +kernel)
theorem ktL_noted : (Jvm.Cond.static ({ cls := "GoodsTreeLaw", name := "noted", desc := "(LGoodsTree;JI[J)I" } : Jvm.MethodName)) ∈ xT := xT_t (i := 522) (by decide +kernel) (by decide +kernel)
theorem kwL_noted : (Jvm.Cond.codeWith ({ cls := "GoodsTreeLaw", name := "noted", desc := "(LGoodsTree;JI[J)I" } : Jvm.MethodName) method_6_code (6 : Nat) (Option.some Jvm.ClassFile.FieldType.int) [((0 : Nat), (11 : Nat), (14 : Nat), (25 : Nat))]) ∈ xT := xT_t (i := 523) (by decide +kernel) (by decide +kernel)
theorem kmL_27 : (Jvm.Cond.methodLink "GoodsTreeLaw" (27 : Nat) ({ cls := "GoodsTree", name := "noted", desc := "(JI)I" } : Jvm.MethodName)) ∈ xT := xT_t (i := 524) (by decide +kernel) (by decide +kernel)
theorem kiG_noted : (Jvm.Cond.instanceMethod ({ cls := "GoodsTree", name := "noted", desc := "(JI)I" } : Jvm.MethodName)) ∈ xT := xT_t (i := 525) (by decide +kernel) (by decide +kernel)
theorem ksG_noted : (Jvm.Cond.selects "GoodsTree" ({ cls := "GoodsTree", name := "noted", desc := "(JI)I" } : Jvm.MethodName) ({ cls := "GoodsTree", name := "noted", desc := "(JI)I" } : Jvm.MethodName)) ∈ xT := xT_t (i := 526) (by decide +kernel) (by decide +kernel)
theorem kcG_noted : (Jvm.Cond.code ({ cls := "GoodsTree", name := "noted", desc := "(JI)I" } : Jvm.MethodName) prog_1_method_9_code (5 : Nat) (Option.some Jvm.ClassFile.FieldType.int)) ∈ xT := xT_t (i := 527) (by decide +kernel) (by decide +kernel)
theorem kmG_147 : (Jvm.Cond.methodLink "GoodsTree" (147 : Nat) ({ cls := "GoodsTree$Pairs", name := "nth", desc := "(IJII)I" } : Jvm.MethodName)) ∈ xT := xT_t (i := 529) (by decide +kernel) (by decide +kernel)
theorem kiP_nth : (Jvm.Cond.instanceMethod ({ cls := "GoodsTree$Pairs", name := "nth", desc := "(IJII)I" } : Jvm.MethodName)) ∈ xT := xT_t (i := 530) (by decide +kernel) (by decide +kernel)
theorem ksP_nth : (Jvm.Cond.selects "GoodsTree$Pairs" ({ cls := "GoodsTree$Pairs", name := "nth", desc := "(IJII)I" } : Jvm.MethodName) ({ cls := "GoodsTree$Pairs", name := "nth", desc := "(IJII)I" } : Jvm.MethodName)) ∈ xT := xT_t (i := 531) (by decide +kernel) (by decide +kernel)
theorem kcP_nth : (Jvm.Cond.code ({ cls := "GoodsTree$Pairs", name := "nth", desc := "(IJII)I" } : Jvm.MethodName) prog_4_method_7_code (8 : Nat) (Option.some Jvm.ClassFile.FieldType.int)) ∈ xT := xT_t (i := 532) (by decide +kernel) (by decide +kernel)
theorem kmG_151 : (Jvm.Cond.methodLink "GoodsTree" (151 : Nat) ({ cls := "GoodsTree$Pairs", name := "otherAt", desc := "(I)J" } : Jvm.MethodName)) ∈ xT := xT_t (i := 533) (by decide +kernel) (by decide +kernel)
theorem kiP_otherAt : (Jvm.Cond.instanceMethod ({ cls := "GoodsTree$Pairs", name := "otherAt", desc := "(I)J" } : Jvm.MethodName)) ∈ xT := xT_t (i := 534) (by decide +kernel) (by decide +kernel)
theorem ksP_otherAt : (Jvm.Cond.selects "GoodsTree$Pairs" ({ cls := "GoodsTree$Pairs", name := "otherAt", desc := "(I)J" } : Jvm.MethodName) ({ cls := "GoodsTree$Pairs", name := "otherAt", desc := "(I)J" } : Jvm.MethodName)) ∈ xT := xT_t (i := 535) (by decide +kernel) (by decide +kernel)
theorem kcP_otherAt : (Jvm.Cond.code ({ cls := "GoodsTree$Pairs", name := "otherAt", desc := "(I)J" } : Jvm.MethodName) prog_4_method_9_code (2 : Nat) (Option.some Jvm.ClassFile.FieldType.long)) ∈ xT := xT_t (i := 536) (by decide +kernel) (by decide +kernel)
theorem kmG_154 : (Jvm.Cond.methodLink "GoodsTree" (154 : Nat) ({ cls := "GoodsTree$Pairs", name := "markAt", desc := "(I)I" } : Jvm.MethodName)) ∈ xT := xT_t (i := 537) (by decide +kernel) (by decide +kernel)
theorem kiP_markAt : (Jvm.Cond.instanceMethod ({ cls := "GoodsTree$Pairs", name := "markAt", desc := "(I)I" } : Jvm.MethodName)) ∈ xT := xT_t (i := 538) (by decide +kernel) (by decide +kernel)
theorem ksP_markAt : (Jvm.Cond.selects "GoodsTree$Pairs" ({ cls := "GoodsTree$Pairs", name := "markAt", desc := "(I)I" } : Jvm.MethodName) ({ cls := "GoodsTree$Pairs", name := "markAt", desc := "(I)I" } : Jvm.MethodName)) ∈ xT := xT_t (i := 539) (by decide +kernel) (by decide +kernel)
theorem kcP_markAt : (Jvm.Cond.code ({ cls := "GoodsTree$Pairs", name := "markAt", desc := "(I)I" } : Jvm.MethodName) prog_4_method_8_code (2 : Nat) (Option.some Jvm.ClassFile.FieldType.int)) ∈ xT := xT_t (i := 540) (by decide +kernel) (by decide +kernel)
theorem kmL_100 : (Jvm.Cond.methodLink "GoodsTreeLaw" (100 : Nat) ({ cls := "GoodsTreeLaw", name := "became", desc := "(LGoodsTree;IJI[J)I" } : Jvm.MethodName)) ∈ xT := xT_t (i := 541) (by decide +kernel) (by decide +kernel)
theorem ktL_became : (Jvm.Cond.static ({ cls := "GoodsTreeLaw", name := "became", desc := "(LGoodsTree;IJI[J)I" } : Jvm.MethodName)) ∈ xT := xT_t (i := 542) (by decide +kernel) (by decide +kernel)
theorem kwL_became : (Jvm.Cond.codeWith ({ cls := "GoodsTreeLaw", name := "became", desc := "(LGoodsTree;IJI[J)I" } : Jvm.MethodName) method_7_code (7 : Nat) (Option.some Jvm.ClassFile.FieldType.int) [((0 : Nat), (13 : Nat), (16 : Nat), (25 : Nat))]) ∈ xT := xT_t (i := 543) (by decide +kernel) (by decide +kernel)
theorem kmL_31 : (Jvm.Cond.methodLink "GoodsTreeLaw" (31 : Nat) ({ cls := "GoodsTree", name := "became", desc := "(IJI)I" } : Jvm.MethodName)) ∈ xT := xT_t (i := 544) (by decide +kernel) (by decide +kernel)
theorem kiG_became : (Jvm.Cond.instanceMethod ({ cls := "GoodsTree", name := "became", desc := "(IJI)I" } : Jvm.MethodName)) ∈ xT := xT_t (i := 545) (by decide +kernel) (by decide +kernel)
theorem ksG_became : (Jvm.Cond.selects "GoodsTree" ({ cls := "GoodsTree", name := "became", desc := "(IJI)I" } : Jvm.MethodName) ({ cls := "GoodsTree", name := "became", desc := "(IJI)I" } : Jvm.MethodName)) ∈ xT := xT_t (i := 546) (by decide +kernel) (by decide +kernel)
theorem kcG_became : (Jvm.Cond.code ({ cls := "GoodsTree", name := "became", desc := "(IJI)I" } : Jvm.MethodName) prog_1_method_11_code (8 : Nat) (Option.some Jvm.ClassFile.FieldType.int)) ∈ xT := xT_t (i := 547) (by decide +kernel) (by decide +kernel)
theorem kmG_157 : (Jvm.Cond.methodLink "GoodsTree" (157 : Nat) ({ cls := "GoodsTree", name := "checkEditions", desc := "(II)V" } : Jvm.MethodName)) ∈ xT := xT_t (i := 548) (by decide +kernel) (by decide +kernel)
theorem ktG_checkEditions : (Jvm.Cond.static ({ cls := "GoodsTree", name := "checkEditions", desc := "(II)V" } : Jvm.MethodName)) ∈ xT := xT_t (i := 549) (by decide +kernel) (by decide +kernel)
theorem kcG_checkEditions : (Jvm.Cond.code ({ cls := "GoodsTree", name := "checkEditions", desc := "(II)V" } : Jvm.MethodName) prog_1_method_20_code (2 : Nat) (Option.none : Option Jvm.ClassFile.FieldType)) ∈ xT := xT_t (i := 550) (by decide +kernel) (by decide +kernel)
theorem kmG_161 : (Jvm.Cond.methodLink "GoodsTree" (161 : Nat) ({ cls := "GoodsTree", name := "checkCode", desc := "(IJ)V" } : Jvm.MethodName)) ∈ xT := xT_t (i := 552) (by decide +kernel) (by decide +kernel)
theorem kiG_checkCode : (Jvm.Cond.instanceMethod ({ cls := "GoodsTree", name := "checkCode", desc := "(IJ)V" } : Jvm.MethodName)) ∈ xT := xT_t (i := 554) (by decide +kernel) (by decide +kernel)
theorem kcG_checkCode : (Jvm.Cond.code ({ cls := "GoodsTree", name := "checkCode", desc := "(IJ)V" } : Jvm.MethodName) prog_1_method_21_code (4 : Nat) (Option.none : Option Jvm.ClassFile.FieldType)) ∈ xT := xT_t (i := 555) (by decide +kernel) (by decide +kernel)
theorem kmG_166 : (Jvm.Cond.methodLink "GoodsTree" (166 : Nat) ({ cls := "GoodsTree$Pairs", name := "matches", desc := "(IIJI)Z" } : Jvm.MethodName)) ∈ xT := xT_t (i := 557) (by decide +kernel) (by decide +kernel)
theorem kmG_170 : (Jvm.Cond.methodLink "GoodsTree" (170 : Nat) ({ cls := "GoodsTree$Pairs", name := "sizeTo", desc := "(IIJ)I" } : Jvm.MethodName)) ∈ xT := xT_t (i := 558) (by decide +kernel) (by decide +kernel)
theorem kiP_sizeTo : (Jvm.Cond.instanceMethod ({ cls := "GoodsTree$Pairs", name := "sizeTo", desc := "(IIJ)I" } : Jvm.MethodName)) ∈ xT := xT_t (i := 559) (by decide +kernel) (by decide +kernel)
theorem ksP_sizeTo : (Jvm.Cond.selects "GoodsTree$Pairs" ({ cls := "GoodsTree$Pairs", name := "sizeTo", desc := "(IIJ)I" } : Jvm.MethodName) ({ cls := "GoodsTree$Pairs", name := "sizeTo", desc := "(IIJ)I" } : Jvm.MethodName)) ∈ xT := xT_t (i := 560) (by decide +kernel) (by decide +kernel)
theorem kcP_sizeTo : (Jvm.Cond.code ({ cls := "GoodsTree$Pairs", name := "sizeTo", desc := "(IIJ)I" } : Jvm.MethodName) prog_4_method_11_code (7 : Nat) (Option.some Jvm.ClassFile.FieldType.int)) ∈ xT := xT_t (i := 561) (by decide +kernel) (by decide +kernel)
theorem kmL_104 : (Jvm.Cond.methodLink "GoodsTreeLaw" (104 : Nat) ({ cls := "GoodsTreeLaw", name := "linked", desc := "(LGoodsTree;IJII[J)I" } : Jvm.MethodName)) ∈ xT := xT_t (i := 562) (by decide +kernel) (by decide +kernel)
theorem ktL_linked : (Jvm.Cond.static ({ cls := "GoodsTreeLaw", name := "linked", desc := "(LGoodsTree;IJII[J)I" } : Jvm.MethodName)) ∈ xT := xT_t (i := 563) (by decide +kernel) (by decide +kernel)
theorem kwL_linked : (Jvm.Cond.codeWith ({ cls := "GoodsTreeLaw", name := "linked", desc := "(LGoodsTree;IJII[J)I" } : Jvm.MethodName) method_8_code (8 : Nat) (Option.some Jvm.ClassFile.FieldType.int) [((0 : Nat), (14 : Nat), (17 : Nat), (25 : Nat))]) ∈ xT := xT_t (i := 564) (by decide +kernel) (by decide +kernel)
theorem kmL_35 : (Jvm.Cond.methodLink "GoodsTreeLaw" (35 : Nat) ({ cls := "GoodsTree", name := "linked", desc := "(IJII)J" } : Jvm.MethodName)) ∈ xT := xT_t (i := 565) (by decide +kernel) (by decide +kernel)
theorem kiG_linked : (Jvm.Cond.instanceMethod ({ cls := "GoodsTree", name := "linked", desc := "(IJII)J" } : Jvm.MethodName)) ∈ xT := xT_t (i := 566) (by decide +kernel) (by decide +kernel)
theorem ksG_linked : (Jvm.Cond.selects "GoodsTree" ({ cls := "GoodsTree", name := "linked", desc := "(IJII)J" } : Jvm.MethodName) ({ cls := "GoodsTree", name := "linked", desc := "(IJII)J" } : Jvm.MethodName)) ∈ xT := xT_t (i := 567) (by decide +kernel) (by decide +kernel)
theorem kcG_linked : (Jvm.Cond.code ({ cls := "GoodsTree", name := "linked", desc := "(IJII)J" } : Jvm.MethodName) prog_1_method_12_code (6 : Nat) (Option.some Jvm.ClassFile.FieldType.long)) ∈ xT := xT_t (i := 568) (by decide +kernel) (by decide +kernel)
theorem kmL_108 : (Jvm.Cond.methodLink "GoodsTreeLaw" (108 : Nat) ({ cls := "GoodsTreeLaw", name := "lost", desc := "(LGoodsTree;II[J)I" } : Jvm.MethodName)) ∈ xT := xT_t (i := 569) (by decide +kernel) (by decide +kernel)
theorem ktL_lost : (Jvm.Cond.static ({ cls := "GoodsTreeLaw", name := "lost", desc := "(LGoodsTree;II[J)I" } : Jvm.MethodName)) ∈ xT := xT_t (i := 570) (by decide +kernel) (by decide +kernel)
theorem kwL_lost : (Jvm.Cond.codeWith ({ cls := "GoodsTreeLaw", name := "lost", desc := "(LGoodsTree;II[J)I" } : Jvm.MethodName) method_9_code (5 : Nat) (Option.some Jvm.ClassFile.FieldType.int) [((0 : Nat), (10 : Nat), (13 : Nat), (25 : Nat))]) ∈ xT := xT_t (i := 571) (by decide +kernel) (by decide +kernel)
theorem kmL_39 : (Jvm.Cond.methodLink "GoodsTreeLaw" (39 : Nat) ({ cls := "GoodsTree", name := "lost", desc := "(II)I" } : Jvm.MethodName)) ∈ xT := xT_t (i := 572) (by decide +kernel) (by decide +kernel)
theorem kiG_lost : (Jvm.Cond.instanceMethod ({ cls := "GoodsTree", name := "lost", desc := "(II)I" } : Jvm.MethodName)) ∈ xT := xT_t (i := 573) (by decide +kernel) (by decide +kernel)
theorem ksG_lost : (Jvm.Cond.selects "GoodsTree" ({ cls := "GoodsTree", name := "lost", desc := "(II)I" } : Jvm.MethodName) ({ cls := "GoodsTree", name := "lost", desc := "(II)I" } : Jvm.MethodName)) ∈ xT := xT_t (i := 574) (by decide +kernel) (by decide +kernel)
theorem kcG_lost : (Jvm.Cond.code ({ cls := "GoodsTree", name := "lost", desc := "(II)I" } : Jvm.MethodName) prog_1_method_13_code (6 : Nat) (Option.some Jvm.ClassFile.FieldType.int)) ∈ xT := xT_t (i := 575) (by decide +kernel) (by decide +kernel)
theorem kmL_111 : (Jvm.Cond.methodLink "GoodsTreeLaw" (111 : Nat) ({ cls := "GoodsTreeLaw", name := "search", desc := "(LGoodsTree;[J)I" } : Jvm.MethodName)) ∈ xT := xT_t (i := 576) (by decide +kernel) (by decide +kernel)
theorem ktL_search : (Jvm.Cond.static ({ cls := "GoodsTreeLaw", name := "search", desc := "(LGoodsTree;[J)I" } : Jvm.MethodName)) ∈ xT := xT_t (i := 577) (by decide +kernel) (by decide +kernel)
theorem kwL_search : (Jvm.Cond.codeWith ({ cls := "GoodsTreeLaw", name := "search", desc := "(LGoodsTree;[J)I" } : Jvm.MethodName) method_10_code (3 : Nat) (Option.some Jvm.ClassFile.FieldType.int) [((0 : Nat), (8 : Nat), (11 : Nat), (13 : Nat))]) ∈ xT := xT_t (i := 578) (by decide +kernel) (by decide +kernel)
theorem kmL_43 : (Jvm.Cond.methodLink "GoodsTreeLaw" (43 : Nat) ({ cls := "GoodsTree", name := "search", desc := "()I" } : Jvm.MethodName)) ∈ xT := xT_t (i := 579) (by decide +kernel) (by decide +kernel)
theorem kiG_search : (Jvm.Cond.instanceMethod ({ cls := "GoodsTree", name := "search", desc := "()I" } : Jvm.MethodName)) ∈ xT := xT_t (i := 580) (by decide +kernel) (by decide +kernel)
theorem ksG_search : (Jvm.Cond.selects "GoodsTree" ({ cls := "GoodsTree", name := "search", desc := "()I" } : Jvm.MethodName) ({ cls := "GoodsTree", name := "search", desc := "()I" } : Jvm.MethodName)) ∈ xT := xT_t (i := 581) (by decide +kernel) (by decide +kernel)
theorem kcG_search : (Jvm.Cond.code ({ cls := "GoodsTree", name := "search", desc := "()I" } : Jvm.MethodName) prog_1_method_14_code (4 : Nat) (Option.some Jvm.ClassFile.FieldType.int)) ∈ xT := xT_t (i := 582) (by decide +kernel) (by decide +kernel)
theorem kmG_174 : (Jvm.Cond.methodLink "GoodsTree" (174 : Nat) ({ cls := "GoodsTree$TextReader", name := "readAsked", desc := "()Z" } : Jvm.MethodName)) ∈ xT := xT_t (i := 583) (by decide +kernel) (by decide +kernel)
theorem kiR_readAsked : (Jvm.Cond.instanceMethod ({ cls := "GoodsTree$TextReader", name := "readAsked", desc := "()Z" } : Jvm.MethodName)) ∈ xT := xT_t (i := 584) (by decide +kernel) (by decide +kernel)
theorem ksR_readAsked : (Jvm.Cond.selects "GoodsTree$TextReader" ({ cls := "GoodsTree$TextReader", name := "readAsked", desc := "()Z" } : Jvm.MethodName) ({ cls := "GoodsTree$TextReader", name := "readAsked", desc := "()Z" } : Jvm.MethodName)) ∈ xT := xT_t (i := 585) (by decide +kernel) (by decide +kernel)
theorem kcR_readAsked : (Jvm.Cond.code ({ cls := "GoodsTree$TextReader", name := "readAsked", desc := "()Z" } : Jvm.MethodName) prog_5_method_10_code (1 : Nat) (Option.some Jvm.ClassFile.FieldType.boolean)) ∈ xT := xT_t (i := 586) (by decide +kernel) (by decide +kernel)
theorem kmG_179 : (Jvm.Cond.methodLink "GoodsTree" (179 : Nat) ({ cls := "GoodsTree$Findings", name := "clear", desc := "()V" } : Jvm.MethodName)) ∈ xT := xT_t (i := 588) (by decide +kernel) (by decide +kernel)
theorem kiF_clear : (Jvm.Cond.instanceMethod ({ cls := "GoodsTree$Findings", name := "clear", desc := "()V" } : Jvm.MethodName)) ∈ xT := xT_t (i := 589) (by decide +kernel) (by decide +kernel)
theorem ksF_clear : (Jvm.Cond.selects "GoodsTree$Findings" ({ cls := "GoodsTree$Findings", name := "clear", desc := "()V" } : Jvm.MethodName) ({ cls := "GoodsTree$Findings", name := "clear", desc := "()V" } : Jvm.MethodName)) ∈ xT := xT_t (i := 590) (by decide +kernel) (by decide +kernel)
theorem kcF_clear : (Jvm.Cond.code ({ cls := "GoodsTree$Findings", name := "clear", desc := "()V" } : Jvm.MethodName) prog_3_method_2_code (1 : Nat) (Option.none : Option Jvm.ClassFile.FieldType)) ∈ xT := xT_t (i := 591) (by decide +kernel) (by decide +kernel)
theorem kmG_180 : (Jvm.Cond.methodLink "GoodsTree" (180 : Nat) ({ cls := "GoodsTree", name := "pointsOf", desc := "(LGoodsTree$Tree;I)I" } : Jvm.MethodName)) ∈ xT := xT_t (i := 592) (by decide +kernel) (by decide +kernel)
theorem kiG_pointsOf : (Jvm.Cond.instanceMethod ({ cls := "GoodsTree", name := "pointsOf", desc := "(LGoodsTree$Tree;I)I" } : Jvm.MethodName)) ∈ xT := xT_t (i := 594) (by decide +kernel) (by decide +kernel)
theorem kcG_pointsOf : (Jvm.Cond.code ({ cls := "GoodsTree", name := "pointsOf", desc := "(LGoodsTree$Tree;I)I" } : Jvm.MethodName) prog_1_method_22_code (5 : Nat) (Option.some Jvm.ClassFile.FieldType.int)) ∈ xT := xT_t (i := 595) (by decide +kernel) (by decide +kernel)
theorem kmG_208 : (Jvm.Cond.methodLink "GoodsTree" (208 : Nat) ({ cls := "GoodsTree$TextReader", name := "wordCount", desc := "()I" } : Jvm.MethodName)) ∈ xT := xT_t (i := 596) (by decide +kernel) (by decide +kernel)
theorem kmG_211 : (Jvm.Cond.methodLink "GoodsTree" (211 : Nat) ({ cls := "GoodsTree$TextReader", name := "wordAt", desc := "(I)J" } : Jvm.MethodName)) ∈ xT := xT_t (i := 597) (by decide +kernel) (by decide +kernel)
theorem kmG_214 : (Jvm.Cond.methodLink "GoodsTree" (214 : Nat) ({ cls := "GoodsTree$Tree", name := "pointsFor", desc := "(IJ)I" } : Jvm.MethodName)) ∈ xT := xT_t (i := 598) (by decide +kernel) (by decide +kernel)
theorem kiT_pointsFor : (Jvm.Cond.instanceMethod ({ cls := "GoodsTree$Tree", name := "pointsFor", desc := "(IJ)I" } : Jvm.MethodName)) ∈ xT := xT_t (i := 599) (by decide +kernel) (by decide +kernel)
theorem ksT_pointsFor : (Jvm.Cond.selects "GoodsTree$Tree" ({ cls := "GoodsTree$Tree", name := "pointsFor", desc := "(IJ)I" } : Jvm.MethodName) ({ cls := "GoodsTree$Tree", name := "pointsFor", desc := "(IJ)I" } : Jvm.MethodName)) ∈ xT := xT_t (i := 600) (by decide +kernel) (by decide +kernel)
theorem kcT_pointsFor : (Jvm.Cond.code ({ cls := "GoodsTree$Tree", name := "pointsFor", desc := "(IJ)I" } : Jvm.MethodName) prog_6_method_18_code (6 : Nat) (Option.some Jvm.ClassFile.FieldType.int)) ∈ xT := xT_t (i := 601) (by decide +kernel) (by decide +kernel)
theorem kmT_85 : (Jvm.Cond.methodLink "GoodsTree$Tree" (85 : Nat) ({ cls := "GoodsTree$Tree", name := "hasWord", desc := "(IJ)Z" } : Jvm.MethodName)) ∈ xT := xT_t (i := 602) (by decide +kernel) (by decide +kernel)
theorem kiT_hasWord : (Jvm.Cond.instanceMethod ({ cls := "GoodsTree$Tree", name := "hasWord", desc := "(IJ)Z" } : Jvm.MethodName)) ∈ xT := xT_t (i := 604) (by decide +kernel) (by decide +kernel)
theorem kcT_hasWord : (Jvm.Cond.code ({ cls := "GoodsTree$Tree", name := "hasWord", desc := "(IJ)Z" } : Jvm.MethodName) prog_6_method_19_code (5 : Nat) (Option.some Jvm.ClassFile.FieldType.boolean)) ∈ xT := xT_t (i := 605) (by decide +kernel) (by decide +kernel)
theorem kmT_92 : (Jvm.Cond.methodLink "GoodsTree$Tree" (92 : Nat) ({ cls := "GoodsTree$Tree", name := "wordsOf", desc := "(I)I" } : Jvm.MethodName)) ∈ xT := xT_t (i := 606) (by decide +kernel) (by decide +kernel)
theorem kmT_89 : (Jvm.Cond.methodLink "GoodsTree$Tree" (89 : Nat) ({ cls := "GoodsTree$Tree", name := "parentOf", desc := "(I)I" } : Jvm.MethodName)) ∈ xT := xT_t (i := 607) (by decide +kernel) (by decide +kernel)
theorem kmG_218 : (Jvm.Cond.methodLink "GoodsTree" (218 : Nat) ({ cls := "GoodsTree", name := "isLeftOut", desc := "(LGoodsTree$Tree;I)Z" } : Jvm.MethodName)) ∈ xT := xT_t (i := 608) (by decide +kernel) (by decide +kernel)
theorem kiG_isLeftOut : (Jvm.Cond.instanceMethod ({ cls := "GoodsTree", name := "isLeftOut", desc := "(LGoodsTree$Tree;I)Z" } : Jvm.MethodName)) ∈ xT := xT_t (i := 610) (by decide +kernel) (by decide +kernel)
theorem kcG_isLeftOut : (Jvm.Cond.code ({ cls := "GoodsTree", name := "isLeftOut", desc := "(LGoodsTree$Tree;I)Z" } : Jvm.MethodName) prog_1_method_23_code (5 : Nat) (Option.some Jvm.ClassFile.FieldType.boolean)) ∈ xT := xT_t (i := 611) (by decide +kernel) (by decide +kernel)
theorem kmG_184 : (Jvm.Cond.methodLink "GoodsTree" (184 : Nat) ({ cls := "GoodsTree$Findings", name := "add", desc := "(JI)V" } : Jvm.MethodName)) ∈ xT := xT_t (i := 612) (by decide +kernel) (by decide +kernel)
theorem kiF_add : (Jvm.Cond.instanceMethod ({ cls := "GoodsTree$Findings", name := "add", desc := "(JI)V" } : Jvm.MethodName)) ∈ xT := xT_t (i := 613) (by decide +kernel) (by decide +kernel)
theorem ksF_add : (Jvm.Cond.selects "GoodsTree$Findings" ({ cls := "GoodsTree$Findings", name := "add", desc := "(JI)V" } : Jvm.MethodName) ({ cls := "GoodsTree$Findings", name := "add", desc := "(JI)V" } : Jvm.MethodName)) ∈ xT := xT_t (i := 614) (by decide +kernel) (by decide +kernel)
theorem kcF_add : (Jvm.Cond.code ({ cls := "GoodsTree$Findings", name := "add", desc := "(JI)V" } : Jvm.MethodName) prog_3_method_7_code (5 : Nat) (Option.none : Option Jvm.ClassFile.FieldType)) ∈ xT := xT_t (i := 615) (by decide +kernel) (by decide +kernel)
theorem kmL_114 : (Jvm.Cond.methodLink "GoodsTreeLaw" (114 : Nat) ({ cls := "GoodsTreeLaw", name := "found", desc := "(LGoodsTree;II[J)I" } : Jvm.MethodName)) ∈ xT := xT_t (i := 616) (by decide +kernel) (by decide +kernel)
theorem ktL_found : (Jvm.Cond.static ({ cls := "GoodsTreeLaw", name := "found", desc := "(LGoodsTree;II[J)I" } : Jvm.MethodName)) ∈ xT := xT_t (i := 617) (by decide +kernel) (by decide +kernel)
theorem kwL_found : (Jvm.Cond.codeWith ({ cls := "GoodsTreeLaw", name := "found", desc := "(LGoodsTree;II[J)I" } : Jvm.MethodName) method_11_code (5 : Nat) (Option.some Jvm.ClassFile.FieldType.int) [((0 : Nat), (9 : Nat), (12 : Nat), (19 : Nat))]) ∈ xT := xT_t (i := 618) (by decide +kernel) (by decide +kernel)
theorem kmL_46 : (Jvm.Cond.methodLink "GoodsTreeLaw" (46 : Nat) ({ cls := "GoodsTree", name := "found", desc := "(II)J" } : Jvm.MethodName)) ∈ xT := xT_t (i := 619) (by decide +kernel) (by decide +kernel)
theorem kiG_found : (Jvm.Cond.instanceMethod ({ cls := "GoodsTree", name := "found", desc := "(II)J" } : Jvm.MethodName)) ∈ xT := xT_t (i := 620) (by decide +kernel) (by decide +kernel)
theorem ksG_found : (Jvm.Cond.selects "GoodsTree" ({ cls := "GoodsTree", name := "found", desc := "(II)J" } : Jvm.MethodName) ({ cls := "GoodsTree", name := "found", desc := "(II)J" } : Jvm.MethodName)) ∈ xT := xT_t (i := 621) (by decide +kernel) (by decide +kernel)
theorem kcG_found : (Jvm.Cond.code ({ cls := "GoodsTree", name := "found", desc := "(II)J" } : Jvm.MethodName) prog_1_method_15_code (3 : Nat) (Option.some Jvm.ClassFile.FieldType.long)) ∈ xT := xT_t (i := 622) (by decide +kernel) (by decide +kernel)
theorem kmG_188 : (Jvm.Cond.methodLink "GoodsTree" (188 : Nat) ({ cls := "GoodsTree$Findings", name := "has", desc := "(I)Z" } : Jvm.MethodName)) ∈ xT := xT_t (i := 623) (by decide +kernel) (by decide +kernel)
theorem kiF_has : (Jvm.Cond.instanceMethod ({ cls := "GoodsTree$Findings", name := "has", desc := "(I)Z" } : Jvm.MethodName)) ∈ xT := xT_t (i := 624) (by decide +kernel) (by decide +kernel)
theorem ksF_has : (Jvm.Cond.selects "GoodsTree$Findings" ({ cls := "GoodsTree$Findings", name := "has", desc := "(I)Z" } : Jvm.MethodName) ({ cls := "GoodsTree$Findings", name := "has", desc := "(I)Z" } : Jvm.MethodName)) ∈ xT := xT_t (i := 625) (by decide +kernel) (by decide +kernel)
theorem kcF_has : (Jvm.Cond.code ({ cls := "GoodsTree$Findings", name := "has", desc := "(I)Z" } : Jvm.MethodName) prog_3_method_4_code (2 : Nat) (Option.some Jvm.ClassFile.FieldType.boolean)) ∈ xT := xT_t (i := 626) (by decide +kernel) (by decide +kernel)
theorem kmG_191 : (Jvm.Cond.methodLink "GoodsTree" (191 : Nat) ({ cls := "GoodsTree$Findings", name := "codeOf", desc := "(I)J" } : Jvm.MethodName)) ∈ xT := xT_t (i := 628) (by decide +kernel) (by decide +kernel)
theorem kiF_codeOf : (Jvm.Cond.instanceMethod ({ cls := "GoodsTree$Findings", name := "codeOf", desc := "(I)J" } : Jvm.MethodName)) ∈ xT := xT_t (i := 629) (by decide +kernel) (by decide +kernel)
theorem ksF_codeOf : (Jvm.Cond.selects "GoodsTree$Findings" ({ cls := "GoodsTree$Findings", name := "codeOf", desc := "(I)J" } : Jvm.MethodName) ({ cls := "GoodsTree$Findings", name := "codeOf", desc := "(I)J" } : Jvm.MethodName)) ∈ xT := xT_t (i := 630) (by decide +kernel) (by decide +kernel)
theorem kcF_codeOf : (Jvm.Cond.code ({ cls := "GoodsTree$Findings", name := "codeOf", desc := "(I)J" } : Jvm.MethodName) prog_3_method_5_code (2 : Nat) (Option.some Jvm.ClassFile.FieldType.long)) ∈ xT := xT_t (i := 631) (by decide +kernel) (by decide +kernel)
theorem kmF_23 : (Jvm.Cond.methodLink "GoodsTree$Findings" (23 : Nat) ({ cls := "GoodsTree$Findings", name := "has", desc := "(I)Z" } : Jvm.MethodName)) ∈ xT := xT_t (i := 632) (by decide +kernel) (by decide +kernel)
theorem kmG_192 : (Jvm.Cond.methodLink "GoodsTree" (192 : Nat) ({ cls := "GoodsTree$Findings", name := "pointsAt", desc := "(I)I" } : Jvm.MethodName)) ∈ xT := xT_t (i := 633) (by decide +kernel) (by decide +kernel)
theorem kiF_pointsAt : (Jvm.Cond.instanceMethod ({ cls := "GoodsTree$Findings", name := "pointsAt", desc := "(I)I" } : Jvm.MethodName)) ∈ xT := xT_t (i := 634) (by decide +kernel) (by decide +kernel)
theorem ksF_pointsAt : (Jvm.Cond.selects "GoodsTree$Findings" ({ cls := "GoodsTree$Findings", name := "pointsAt", desc := "(I)I" } : Jvm.MethodName) ({ cls := "GoodsTree$Findings", name := "pointsAt", desc := "(I)I" } : Jvm.MethodName)) ∈ xT := xT_t (i := 635) (by decide +kernel) (by decide +kernel)
theorem kcF_pointsAt : (Jvm.Cond.code ({ cls := "GoodsTree$Findings", name := "pointsAt", desc := "(I)I" } : Jvm.MethodName) prog_3_method_6_code (2 : Nat) (Option.some Jvm.ClassFile.FieldType.int)) ∈ xT := xT_t (i := 636) (by decide +kernel) (by decide +kernel)
theorem klL_50 : (Jvm.Cond.classLink "GoodsTreeLaw" (50 : Nat) "GoodsTreeModel") ∈ xT := xT_t (i := 637) (by decide +kernel) (by decide +kernel)
theorem kqM : (Jvm.Cond.instantiable "GoodsTreeModel" (27 : Nat)) ∈ xT := xT_t (i := 638) (by decide +kernel) (by decide +kernel)
theorem kmL_52 : (Jvm.Cond.methodLink "GoodsTreeLaw" (52 : Nat) ({ cls := "GoodsTreeModel", name := "<init>", desc := "()V" } : Jvm.MethodName)) ∈ xT := xT_t (i := 639) (by decide +kernel) (by decide +kernel)
theorem kiM_init : (Jvm.Cond.instanceMethod ({ cls := "GoodsTreeModel", name := "<init>", desc := "()V" } : Jvm.MethodName)) ∈ xT := xT_t (i := 640) (by decide +kernel) (by decide +kernel)
theorem kcM_init : (Jvm.Cond.code ({ cls := "GoodsTreeModel", name := "<init>", desc := "()V" } : Jvm.MethodName) prog_8_method_1_code (1 : Nat) (Option.none : Option Jvm.ClassFile.FieldType)) ∈ xT := xT_t (i := 641) (by decide +kernel) (by decide +kernel)
theorem kmM_1 : (Jvm.Cond.methodLink "GoodsTreeModel" (1 : Nat) ({ cls := "java/lang/Object", name := "<init>", desc := "()V" } : Jvm.MethodName)) ∈ xT := xT_t (i := 642) (by decide +kernel) (by decide +kernel)
theorem kfM_69 : (Jvm.Cond.fieldLink "GoodsTreeModel" (69 : Nat) "GoodsTreeModel" "thrown" "I") ∈ xT := xT_t (i := 643) (by decide +kernel) (by decide +kernel)
theorem kfM_7 : (Jvm.Cond.fieldLink "GoodsTreeModel" (7 : Nat) "GoodsTreeModel" "text" "[I") ∈ xT := xT_t (i := 644) (by decide +kernel) (by decide +kernel)
theorem kfM_83 : (Jvm.Cond.fieldLink "GoodsTreeModel" (83 : Nat) "GoodsTreeModel" "signs" "I") ∈ xT := xT_t (i := 645) (by decide +kernel) (by decide +kernel)
theorem kfM_156 : (Jvm.Cond.fieldLink "GoodsTreeModel" (156 : Nat) "GoodsTreeModel" "present" "I") ∈ xT := xT_t (i := 646) (by decide +kernel) (by decide +kernel)
theorem kfM_86 : (Jvm.Cond.fieldLink "GoodsTreeModel" (86 : Nat) "GoodsTreeModel" "failed" "I") ∈ xT := xT_t (i := 647) (by decide +kernel) (by decide +kernel)
theorem kfM_13 : (Jvm.Cond.fieldLink "GoodsTreeModel" (13 : Nat) "GoodsTreeModel" "failedAt" "I") ∈ xT := xT_t (i := 648) (by decide +kernel) (by decide +kernel)
theorem kfM_17 : (Jvm.Cond.fieldLink "GoodsTreeModel" (17 : Nat) "GoodsTreeModel" "rows" "[I") ∈ xT := xT_t (i := 649) (by decide +kernel) (by decide +kernel)
theorem kfM_20 : (Jvm.Cond.fieldLink "GoodsTreeModel" (20 : Nat) "GoodsTreeModel" "code" "[J") ∈ xT := xT_t (i := 650) (by decide +kernel) (by decide +kernel)
theorem kfM_24 : (Jvm.Cond.fieldLink "GoodsTreeModel" (24 : Nat) "GoodsTreeModel" "dashes" "[I") ∈ xT := xT_t (i := 651) (by decide +kernel) (by decide +kernel)
theorem kfM_27 : (Jvm.Cond.fieldLink "GoodsTreeModel" (27 : Nat) "GoodsTreeModel" "words" "[I") ∈ xT := xT_t (i := 652) (by decide +kernel) (by decide +kernel)
theorem kfM_30 : (Jvm.Cond.fieldLink "GoodsTreeModel" (30 : Nat) "GoodsTreeModel" "word" "[J") ∈ xT := xT_t (i := 653) (by decide +kernel) (by decide +kernel)
theorem kfM_142 : (Jvm.Cond.fieldLink "GoodsTreeModel" (142 : Nat) "GoodsTreeModel" "notes" "I") ∈ xT := xT_t (i := 654) (by decide +kernel) (by decide +kernel)
theorem kfM_33 : (Jvm.Cond.fieldLink "GoodsTreeModel" (33 : Nat) "GoodsTreeModel" "noteEdition" "[I") ∈ xT := xT_t (i := 655) (by decide +kernel) (by decide +kernel)
theorem kfM_36 : (Jvm.Cond.fieldLink "GoodsTreeModel" (36 : Nat) "GoodsTreeModel" "noteCode" "[J") ∈ xT := xT_t (i := 656) (by decide +kernel) (by decide +kernel)
theorem kfM_39 : (Jvm.Cond.fieldLink "GoodsTreeModel" (39 : Nat) "GoodsTreeModel" "noteKind" "[I") ∈ xT := xT_t (i := 657) (by decide +kernel) (by decide +kernel)
theorem kfM_42 : (Jvm.Cond.fieldLink "GoodsTreeModel" (42 : Nat) "GoodsTreeModel" "noteOther" "[J") ∈ xT := xT_t (i := 658) (by decide +kernel) (by decide +kernel)
theorem kfM_145 : (Jvm.Cond.fieldLink "GoodsTreeModel" (145 : Nat) "GoodsTreeModel" "links" "I") ∈ xT := xT_t (i := 659) (by decide +kernel) (by decide +kernel)
theorem kfM_45 : (Jvm.Cond.fieldLink "GoodsTreeModel" (45 : Nat) "GoodsTreeModel" "linkFrom" "[I") ∈ xT := xT_t (i := 660) (by decide +kernel) (by decide +kernel)
theorem kfM_48 : (Jvm.Cond.fieldLink "GoodsTreeModel" (48 : Nat) "GoodsTreeModel" "linkCode" "[J") ∈ xT := xT_t (i := 661) (by decide +kernel) (by decide +kernel)
theorem kfM_51 : (Jvm.Cond.fieldLink "GoodsTreeModel" (51 : Nat) "GoodsTreeModel" "linkTo" "[I") ∈ xT := xT_t (i := 662) (by decide +kernel) (by decide +kernel)
theorem kfM_54 : (Jvm.Cond.fieldLink "GoodsTreeModel" (54 : Nat) "GoodsTreeModel" "linkOther" "[J") ∈ xT := xT_t (i := 663) (by decide +kernel) (by decide +kernel)
theorem kfM_204 : (Jvm.Cond.fieldLink "GoodsTreeModel" (204 : Nat) "GoodsTreeModel" "found" "I") ∈ xT := xT_t (i := 664) (by decide +kernel) (by decide +kernel)
theorem kfM_57 : (Jvm.Cond.fieldLink "GoodsTreeModel" (57 : Nat) "GoodsTreeModel" "foundCode" "[J") ∈ xT := xT_t (i := 665) (by decide +kernel) (by decide +kernel)
theorem kfM_60 : (Jvm.Cond.fieldLink "GoodsTreeModel" (60 : Nat) "GoodsTreeModel" "foundPoints" "[I") ∈ xT := xT_t (i := 666) (by decide +kernel) (by decide +kernel)
theorem kfM_63 : (Jvm.Cond.fieldLink "GoodsTreeModel" (63 : Nat) "GoodsTreeModel" "asked" "[J") ∈ xT := xT_t (i := 667) (by decide +kernel) (by decide +kernel)
theorem kfM_129 : (Jvm.Cond.fieldLink "GoodsTreeModel" (129 : Nat) "GoodsTreeModel" "askedCount" "I") ∈ xT := xT_t (i := 668) (by decide +kernel) (by decide +kernel)
theorem kfM_66 : (Jvm.Cond.fieldLink "GoodsTreeModel" (66 : Nat) "GoodsTreeModel" "points" "[I") ∈ xT := xT_t (i := 669) (by decide +kernel) (by decide +kernel)
theorem kmL_64 : (Jvm.Cond.methodLink "GoodsTreeLaw" (64 : Nat) ({ cls := "GoodsTreeModel", name := "thrown", desc := "()I" } : Jvm.MethodName)) ∈ xT := xT_t (i := 725) (by decide +kernel) (by decide +kernel)
theorem kiM_thrown : (Jvm.Cond.instanceMethod ({ cls := "GoodsTreeModel", name := "thrown", desc := "()I" } : Jvm.MethodName)) ∈ xT := xT_t (i := 726) (by decide +kernel) (by decide +kernel)
theorem ksM_thrown : (Jvm.Cond.selects "GoodsTreeModel" ({ cls := "GoodsTreeModel", name := "thrown", desc := "()I" } : Jvm.MethodName) ({ cls := "GoodsTreeModel", name := "thrown", desc := "()I" } : Jvm.MethodName)) ∈ xT := xT_t (i := 727) (by decide +kernel) (by decide +kernel)
theorem kcM_thrown : (Jvm.Cond.code ({ cls := "GoodsTreeModel", name := "thrown", desc := "()I" } : Jvm.MethodName) prog_8_method_2_code (1 : Nat) (Option.some Jvm.ClassFile.FieldType.int)) ∈ xT := xT_t (i := 728) (by decide +kernel) (by decide +kernel)
theorem kmL_57 : (Jvm.Cond.methodLink "GoodsTreeLaw" (57 : Nat) ({ cls := "GoodsTreeModel", name := "sign", desc := "(I)Z" } : Jvm.MethodName)) ∈ xT := xT_t (i := 729) (by decide +kernel) (by decide +kernel)
theorem kiM_sign : (Jvm.Cond.instanceMethod ({ cls := "GoodsTreeModel", name := "sign", desc := "(I)Z" } : Jvm.MethodName)) ∈ xT := xT_t (i := 730) (by decide +kernel) (by decide +kernel)
theorem ksM_sign : (Jvm.Cond.selects "GoodsTreeModel" ({ cls := "GoodsTreeModel", name := "sign", desc := "(I)Z" } : Jvm.MethodName) ({ cls := "GoodsTreeModel", name := "sign", desc := "(I)Z" } : Jvm.MethodName)) ∈ xT := xT_t (i := 731) (by decide +kernel) (by decide +kernel)
theorem kcM_sign : (Jvm.Cond.code ({ cls := "GoodsTreeModel", name := "sign", desc := "(I)Z" } : Jvm.MethodName) prog_8_method_8_code (3 : Nat) (Option.some Jvm.ClassFile.FieldType.boolean)) ∈ xT := xT_t (i := 732) (by decide +kernel) (by decide +kernel)
theorem kmM_72 : (Jvm.Cond.methodLink "GoodsTreeModel" (72 : Nat) ({ cls := "GoodsTreeModel", name := "in", desc := "(III)Z" } : Jvm.MethodName)) ∈ xT := xT_t (i := 733) (by decide +kernel) (by decide +kernel)
theorem ktM_in : (Jvm.Cond.static ({ cls := "GoodsTreeModel", name := "in", desc := "(III)Z" } : Jvm.MethodName)) ∈ xT := xT_t (i := 734) (by decide +kernel) (by decide +kernel)
theorem kcM_in : (Jvm.Cond.code ({ cls := "GoodsTreeModel", name := "in", desc := "(III)Z" } : Jvm.MethodName) prog_8_method_4_code (3 : Nat) (Option.some Jvm.ClassFile.FieldType.boolean)) ∈ xT := xT_t (i := 735) (by decide +kernel) (by decide +kernel)
theorem kmM_76 : (Jvm.Cond.methodLink "GoodsTreeModel" (76 : Nat) ({ cls := "GoodsTreeModel", name := "isLetter", desc := "(I)Z" } : Jvm.MethodName)) ∈ xT := xT_t (i := 736) (by decide +kernel) (by decide +kernel)
theorem ktM_isLetter : (Jvm.Cond.static ({ cls := "GoodsTreeModel", name := "isLetter", desc := "(I)Z" } : Jvm.MethodName)) ∈ xT := xT_t (i := 737) (by decide +kernel) (by decide +kernel)
theorem kcM_isLetter : (Jvm.Cond.code ({ cls := "GoodsTreeModel", name := "isLetter", desc := "(I)Z" } : Jvm.MethodName) prog_8_method_6_code (1 : Nat) (Option.some Jvm.ClassFile.FieldType.boolean)) ∈ xT := xT_t (i := 738) (by decide +kernel) (by decide +kernel)
theorem kmM_80 : (Jvm.Cond.methodLink "GoodsTreeModel" (80 : Nat) ({ cls := "GoodsTreeModel", name := "isDigit", desc := "(I)Z" } : Jvm.MethodName)) ∈ xT := xT_t (i := 739) (by decide +kernel) (by decide +kernel)
theorem ktM_isDigit : (Jvm.Cond.static ({ cls := "GoodsTreeModel", name := "isDigit", desc := "(I)Z" } : Jvm.MethodName)) ∈ xT := xT_t (i := 740) (by decide +kernel) (by decide +kernel)
theorem kcM_isDigit : (Jvm.Cond.code ({ cls := "GoodsTreeModel", name := "isDigit", desc := "(I)Z" } : Jvm.MethodName) prog_8_method_7_code (1 : Nat) (Option.some Jvm.ClassFile.FieldType.boolean)) ∈ xT := xT_t (i := 741) (by decide +kernel) (by decide +kernel)
theorem kmL_63 : (Jvm.Cond.methodLink "GoodsTreeLaw" (63 : Nat) ({ cls := "GoodsTreeModel", name := "read", desc := "()I" } : Jvm.MethodName)) ∈ xT := xT_t (i := 742) (by decide +kernel) (by decide +kernel)
theorem kiM_read : (Jvm.Cond.instanceMethod ({ cls := "GoodsTreeModel", name := "read", desc := "()I" } : Jvm.MethodName)) ∈ xT := xT_t (i := 743) (by decide +kernel) (by decide +kernel)
theorem ksM_read : (Jvm.Cond.selects "GoodsTreeModel" ({ cls := "GoodsTreeModel", name := "read", desc := "()I" } : Jvm.MethodName) ({ cls := "GoodsTreeModel", name := "read", desc := "()I" } : Jvm.MethodName)) ∈ xT := xT_t (i := 744) (by decide +kernel) (by decide +kernel)
theorem kcM_read : (Jvm.Cond.code ({ cls := "GoodsTreeModel", name := "read", desc := "()I" } : Jvm.MethodName) prog_8_method_22_code (5 : Nat) (Option.some Jvm.ClassFile.FieldType.int)) ∈ xT := xT_t (i := 745) (by decide +kernel) (by decide +kernel)
theorem kmM_148 : (Jvm.Cond.methodLink "GoodsTreeModel" (148 : Nat) ({ cls := "GoodsTreeModel", name := "reads", desc := "()Z" } : Jvm.MethodName)) ∈ xT := xT_t (i := 746) (by decide +kernel) (by decide +kernel)
theorem kiM_reads : (Jvm.Cond.instanceMethod ({ cls := "GoodsTreeModel", name := "reads", desc := "()Z" } : Jvm.MethodName)) ∈ xT := xT_t (i := 748) (by decide +kernel) (by decide +kernel)
theorem kcM_reads : (Jvm.Cond.code ({ cls := "GoodsTreeModel", name := "reads", desc := "()Z" } : Jvm.MethodName) prog_8_method_20_code (5 : Nat) (Option.some Jvm.ClassFile.FieldType.boolean)) ∈ xT := xT_t (i := 749) (by decide +kernel) (by decide +kernel)
theorem kmM_135 : (Jvm.Cond.methodLink "GoodsTreeModel" (135 : Nat) ({ cls := "GoodsTreeModel", name := "readsCode", desc := "(I)Z" } : Jvm.MethodName)) ∈ xT := xT_t (i := 750) (by decide +kernel) (by decide +kernel)
theorem kiM_readsCode : (Jvm.Cond.instanceMethod ({ cls := "GoodsTreeModel", name := "readsCode", desc := "(I)Z" } : Jvm.MethodName)) ∈ xT := xT_t (i := 752) (by decide +kernel) (by decide +kernel)
theorem kcM_readsCode : (Jvm.Cond.code ({ cls := "GoodsTreeModel", name := "readsCode", desc := "(I)Z" } : Jvm.MethodName) prog_8_method_18_code (8 : Nat) (Option.some Jvm.ClassFile.FieldType.boolean)) ∈ xT := xT_t (i := 753) (by decide +kernel) (by decide +kernel)
theorem kmM_111 : (Jvm.Cond.methodLink "GoodsTreeModel" (111 : Nat) ({ cls := "GoodsTreeModel", name := "run", desc := "(II)I" } : Jvm.MethodName)) ∈ xT := xT_t (i := 754) (by decide +kernel) (by decide +kernel)
theorem kiM_run : (Jvm.Cond.instanceMethod ({ cls := "GoodsTreeModel", name := "run", desc := "(II)I" } : Jvm.MethodName)) ∈ xT := xT_t (i := 756) (by decide +kernel) (by decide +kernel)
theorem kcM_run : (Jvm.Cond.code ({ cls := "GoodsTreeModel", name := "run", desc := "(II)I" } : Jvm.MethodName) prog_8_method_10_code (4 : Nat) (Option.some Jvm.ClassFile.FieldType.int)) ∈ xT := xT_t (i := 757) (by decide +kernel) (by decide +kernel)
theorem kmM_115 : (Jvm.Cond.methodLink "GoodsTreeModel" (115 : Nat) ({ cls := "GoodsTreeModel", name := "fails", desc := "(II)Z" } : Jvm.MethodName)) ∈ xT := xT_t (i := 758) (by decide +kernel) (by decide +kernel)
theorem kiM_fails : (Jvm.Cond.instanceMethod ({ cls := "GoodsTreeModel", name := "fails", desc := "(II)Z" } : Jvm.MethodName)) ∈ xT := xT_t (i := 760) (by decide +kernel) (by decide +kernel)
theorem kcM_fails : (Jvm.Cond.code ({ cls := "GoodsTreeModel", name := "fails", desc := "(II)Z" } : Jvm.MethodName) prog_8_method_9_code (3 : Nat) (Option.some Jvm.ClassFile.FieldType.boolean)) ∈ xT := xT_t (i := 761) (by decide +kernel) (by decide +kernel)
theorem kmM_119 : (Jvm.Cond.methodLink "GoodsTreeModel" (119 : Nat) ({ cls := "GoodsTreeModel", name := "codeAt", desc := "(II)J" } : Jvm.MethodName)) ∈ xT := xT_t (i := 762) (by decide +kernel) (by decide +kernel)
theorem kiM_codeAt : (Jvm.Cond.instanceMethod ({ cls := "GoodsTreeModel", name := "codeAt", desc := "(II)J" } : Jvm.MethodName)) ∈ xT := xT_t (i := 764) (by decide +kernel) (by decide +kernel)
theorem kcM_codeAt : (Jvm.Cond.code ({ cls := "GoodsTreeModel", name := "codeAt", desc := "(II)J" } : Jvm.MethodName) prog_8_method_12_code (6 : Nat) (Option.some Jvm.ClassFile.FieldType.long)) ∈ xT := xT_t (i := 765) (by decide +kernel) (by decide +kernel)
theorem kjM_93 : (Jvm.Cond.constantLong "GoodsTreeModel" (93 : Nat) (10 : Int64)) ∈ xT := xT_t (i := 766) (by decide +kernel) (by decide +kernel)
theorem kjM_95 : (Jvm.Cond.constantLong "GoodsTreeModel" (95 : Nat) (48 : Int64)) ∈ xT := xT_t (i := 767) (by decide +kernel) (by decide +kernel)
theorem kmM_123 : (Jvm.Cond.methodLink "GoodsTreeModel" (123 : Nat) ({ cls := "GoodsTreeModel", name := "above", desc := "(II)I" } : Jvm.MethodName)) ∈ xT := xT_t (i := 768) (by decide +kernel) (by decide +kernel)
theorem kiM_above : (Jvm.Cond.instanceMethod ({ cls := "GoodsTreeModel", name := "above", desc := "(II)I" } : Jvm.MethodName)) ∈ xT := xT_t (i := 770) (by decide +kernel) (by decide +kernel)
theorem kcM_above : (Jvm.Cond.code ({ cls := "GoodsTreeModel", name := "above", desc := "(II)I" } : Jvm.MethodName) prog_8_method_17_code (4 : Nat) (Option.some Jvm.ClassFile.FieldType.int)) ∈ xT := xT_t (i := 771) (by decide +kernel) (by decide +kernel)
theorem kmM_107 : (Jvm.Cond.methodLink "GoodsTreeModel" (107 : Nat) ({ cls := "GoodsTreeModel", name := "begins", desc := "(JJ)Z" } : Jvm.MethodName)) ∈ xT := xT_t (i := 772) (by decide +kernel) (by decide +kernel)
theorem ktM_begins : (Jvm.Cond.static ({ cls := "GoodsTreeModel", name := "begins", desc := "(JJ)Z" } : Jvm.MethodName)) ∈ xT := xT_t (i := 773) (by decide +kernel) (by decide +kernel)
theorem kcM_begins : (Jvm.Cond.code ({ cls := "GoodsTreeModel", name := "begins", desc := "(JJ)Z" } : Jvm.MethodName) prog_8_method_15_code (4 : Nat) (Option.some Jvm.ClassFile.FieldType.boolean)) ∈ xT := xT_t (i := 774) (by decide +kernel) (by decide +kernel)
theorem kmM_99 : (Jvm.Cond.methodLink "GoodsTreeModel" (99 : Nat) ({ cls := "GoodsTreeModel", name := "digitsOf", desc := "(J)I" } : Jvm.MethodName)) ∈ xT := xT_t (i := 775) (by decide +kernel) (by decide +kernel)
theorem ktM_digitsOf : (Jvm.Cond.static ({ cls := "GoodsTreeModel", name := "digitsOf", desc := "(J)I" } : Jvm.MethodName)) ∈ xT := xT_t (i := 776) (by decide +kernel) (by decide +kernel)
theorem kcM_digitsOf : (Jvm.Cond.code ({ cls := "GoodsTreeModel", name := "digitsOf", desc := "(J)I" } : Jvm.MethodName) prog_8_method_13_code (5 : Nat) (Option.some Jvm.ClassFile.FieldType.int)) ∈ xT := xT_t (i := 777) (by decide +kernel) (by decide +kernel)
theorem kjM_97 : (Jvm.Cond.constantLong "GoodsTreeModel" (97 : Nat) (9 : Int64)) ∈ xT := xT_t (i := 778) (by decide +kernel) (by decide +kernel)
theorem kmM_103 : (Jvm.Cond.methodLink "GoodsTreeModel" (103 : Nat) ({ cls := "GoodsTreeModel", name := "cut", desc := "(JI)J" } : Jvm.MethodName)) ∈ xT := xT_t (i := 779) (by decide +kernel) (by decide +kernel)
theorem ktM_cut : (Jvm.Cond.static ({ cls := "GoodsTreeModel", name := "cut", desc := "(JI)J" } : Jvm.MethodName)) ∈ xT := xT_t (i := 780) (by decide +kernel) (by decide +kernel)
theorem kcM_cut : (Jvm.Cond.code ({ cls := "GoodsTreeModel", name := "cut", desc := "(JI)J" } : Jvm.MethodName) prog_8_method_14_code (6 : Nat) (Option.some Jvm.ClassFile.FieldType.long)) ∈ xT := xT_t (i := 781) (by decide +kernel) (by decide +kernel)
theorem kmM_126 : (Jvm.Cond.methodLink "GoodsTreeModel" (126 : Nat) ({ cls := "GoodsTreeModel", name := "isBehind", desc := "(JJ)Z" } : Jvm.MethodName)) ∈ xT := xT_t (i := 782) (by decide +kernel) (by decide +kernel)
theorem ktM_isBehind : (Jvm.Cond.static ({ cls := "GoodsTreeModel", name := "isBehind", desc := "(JJ)Z" } : Jvm.MethodName)) ∈ xT := xT_t (i := 783) (by decide +kernel) (by decide +kernel)
theorem kcM_isBehind : (Jvm.Cond.code ({ cls := "GoodsTreeModel", name := "isBehind", desc := "(JJ)Z" } : Jvm.MethodName) prog_8_method_16_code (5 : Nat) (Option.some Jvm.ClassFile.FieldType.boolean)) ∈ xT := xT_t (i := 784) (by decide +kernel) (by decide +kernel)
theorem kmM_138 : (Jvm.Cond.methodLink "GoodsTreeModel" (138 : Nat) ({ cls := "GoodsTreeModel", name := "readsWords", desc := "(III)I" } : Jvm.MethodName)) ∈ xT := xT_t (i := 785) (by decide +kernel) (by decide +kernel)
theorem kiM_readsWords : (Jvm.Cond.instanceMethod ({ cls := "GoodsTreeModel", name := "readsWords", desc := "(III)I" } : Jvm.MethodName)) ∈ xT := xT_t (i := 787) (by decide +kernel) (by decide +kernel)
theorem kcM_readsWords : (Jvm.Cond.code ({ cls := "GoodsTreeModel", name := "readsWords", desc := "(III)I" } : Jvm.MethodName) prog_8_method_19_code (7 : Nat) (Option.some Jvm.ClassFile.FieldType.int)) ∈ xT := xT_t (i := 788) (by decide +kernel) (by decide +kernel)
theorem kmM_132 : (Jvm.Cond.methodLink "GoodsTreeModel" (132 : Nat) ({ cls := "GoodsTreeModel", name := "wordAt", desc := "(II)J" } : Jvm.MethodName)) ∈ xT := xT_t (i := 789) (by decide +kernel) (by decide +kernel)
theorem kiM_wordAt : (Jvm.Cond.instanceMethod ({ cls := "GoodsTreeModel", name := "wordAt", desc := "(II)J" } : Jvm.MethodName)) ∈ xT := xT_t (i := 791) (by decide +kernel) (by decide +kernel)
theorem kcM_wordAt : (Jvm.Cond.code ({ cls := "GoodsTreeModel", name := "wordAt", desc := "(II)J" } : Jvm.MethodName) prog_8_method_11_code (6 : Nat) (Option.some Jvm.ClassFile.FieldType.long)) ∈ xT := xT_t (i := 792) (by decide +kernel) (by decide +kernel)
theorem kjM_89 : (Jvm.Cond.constantLong "GoodsTreeModel" (89 : Nat) (32 : Int64)) ∈ xT := xT_t (i := 793) (by decide +kernel) (by decide +kernel)
theorem kjM_91 : (Jvm.Cond.constantLong "GoodsTreeModel" (91 : Nat) (96 : Int64)) ∈ xT := xT_t (i := 794) (by decide +kernel) (by decide +kernel)
theorem kmM_152 : (Jvm.Cond.methodLink "GoodsTreeModel" (152 : Nat) ({ cls := "GoodsTreeModel", name := "refuse", desc := "(I)I" } : Jvm.MethodName)) ∈ xT := xT_t (i := 795) (by decide +kernel) (by decide +kernel)
theorem kiM_refuse : (Jvm.Cond.instanceMethod ({ cls := "GoodsTreeModel", name := "refuse", desc := "(I)I" } : Jvm.MethodName)) ∈ xT := xT_t (i := 797) (by decide +kernel) (by decide +kernel)
theorem kcM_refuse : (Jvm.Cond.code ({ cls := "GoodsTreeModel", name := "refuse", desc := "(I)I" } : Jvm.MethodName) prog_8_method_3_code (2 : Nat) (Option.some Jvm.ClassFile.FieldType.int)) ∈ xT := xT_t (i := 798) (by decide +kernel) (by decide +kernel)
theorem kmM_159 : (Jvm.Cond.methodLink "GoodsTreeModel" (159 : Nat) ({ cls := "GoodsTreeModel", name := "forget", desc := "(I)V" } : Jvm.MethodName)) ∈ xT := xT_t (i := 799) (by decide +kernel) (by decide +kernel)
theorem kiM_forget : (Jvm.Cond.instanceMethod ({ cls := "GoodsTreeModel", name := "forget", desc := "(I)V" } : Jvm.MethodName)) ∈ xT := xT_t (i := 801) (by decide +kernel) (by decide +kernel)
theorem kcM_forget : (Jvm.Cond.code ({ cls := "GoodsTreeModel", name := "forget", desc := "(I)V" } : Jvm.MethodName) prog_8_method_21_code (4 : Nat) (Option.none : Option Jvm.ClassFile.FieldType)) ∈ xT := xT_t (i := 802) (by decide +kernel) (by decide +kernel)
theorem kmL_71 : (Jvm.Cond.methodLink "GoodsTreeLaw" (71 : Nat) ({ cls := "GoodsTreeModel", name := "failure", desc := "(I)I" } : Jvm.MethodName)) ∈ xT := xT_t (i := 803) (by decide +kernel) (by decide +kernel)
theorem kiM_failure : (Jvm.Cond.instanceMethod ({ cls := "GoodsTreeModel", name := "failure", desc := "(I)I" } : Jvm.MethodName)) ∈ xT := xT_t (i := 804) (by decide +kernel) (by decide +kernel)
theorem ksM_failure : (Jvm.Cond.selects "GoodsTreeModel" ({ cls := "GoodsTreeModel", name := "failure", desc := "(I)I" } : Jvm.MethodName) ({ cls := "GoodsTreeModel", name := "failure", desc := "(I)I" } : Jvm.MethodName)) ∈ xT := xT_t (i := 805) (by decide +kernel) (by decide +kernel)
theorem kcM_failure : (Jvm.Cond.code ({ cls := "GoodsTreeModel", name := "failure", desc := "(I)I" } : Jvm.MethodName) prog_8_method_23_code (2 : Nat) (Option.some Jvm.ClassFile.FieldType.int)) ∈ xT := xT_t (i := 806) (by decide +kernel) (by decide +kernel)
theorem kmL_75 : (Jvm.Cond.methodLink "GoodsTreeLaw" (75 : Nat) ({ cls := "GoodsTreeModel", name := "edition", desc := "(I)Z" } : Jvm.MethodName)) ∈ xT := xT_t (i := 807) (by decide +kernel) (by decide +kernel)
theorem kiM_edition : (Jvm.Cond.instanceMethod ({ cls := "GoodsTreeModel", name := "edition", desc := "(I)Z" } : Jvm.MethodName)) ∈ xT := xT_t (i := 808) (by decide +kernel) (by decide +kernel)
theorem ksM_edition : (Jvm.Cond.selects "GoodsTreeModel" ({ cls := "GoodsTreeModel", name := "edition", desc := "(I)Z" } : Jvm.MethodName) ({ cls := "GoodsTreeModel", name := "edition", desc := "(I)Z" } : Jvm.MethodName)) ∈ xT := xT_t (i := 809) (by decide +kernel) (by decide +kernel)
theorem kcM_edition : (Jvm.Cond.code ({ cls := "GoodsTreeModel", name := "edition", desc := "(I)Z" } : Jvm.MethodName) prog_8_method_24_code (2 : Nat) (Option.some Jvm.ClassFile.FieldType.boolean)) ∈ xT := xT_t (i := 810) (by decide +kernel) (by decide +kernel)
theorem kmM_163 : (Jvm.Cond.methodLink "GoodsTreeModel" (163 : Nat) ({ cls := "GoodsTreeModel", name := "isEdition", desc := "(I)Z" } : Jvm.MethodName)) ∈ xT := xT_t (i := 811) (by decide +kernel) (by decide +kernel)
theorem ktM_isEdition : (Jvm.Cond.static ({ cls := "GoodsTreeModel", name := "isEdition", desc := "(I)Z" } : Jvm.MethodName)) ∈ xT := xT_t (i := 812) (by decide +kernel) (by decide +kernel)
theorem kcM_isEdition : (Jvm.Cond.code ({ cls := "GoodsTreeModel", name := "isEdition", desc := "(I)Z" } : Jvm.MethodName) prog_8_method_5_code (1 : Nat) (Option.some Jvm.ClassFile.FieldType.boolean)) ∈ xT := xT_t (i := 813) (by decide +kernel) (by decide +kernel)
theorem kmL_79 : (Jvm.Cond.methodLink "GoodsTreeLaw" (79 : Nat) ({ cls := "GoodsTreeModel", name := "row", desc := "(II)J" } : Jvm.MethodName)) ∈ xT := xT_t (i := 814) (by decide +kernel) (by decide +kernel)
theorem kiM_row : (Jvm.Cond.instanceMethod ({ cls := "GoodsTreeModel", name := "row", desc := "(II)J" } : Jvm.MethodName)) ∈ xT := xT_t (i := 815) (by decide +kernel) (by decide +kernel)
theorem ksM_row : (Jvm.Cond.selects "GoodsTreeModel" ({ cls := "GoodsTreeModel", name := "row", desc := "(II)J" } : Jvm.MethodName) ({ cls := "GoodsTreeModel", name := "row", desc := "(II)J" } : Jvm.MethodName)) ∈ xT := xT_t (i := 816) (by decide +kernel) (by decide +kernel)
theorem kcM_row : (Jvm.Cond.code ({ cls := "GoodsTreeModel", name := "row", desc := "(II)J" } : Jvm.MethodName) prog_8_method_26_code (5 : Nat) (Option.some Jvm.ClassFile.FieldType.long)) ∈ xT := xT_t (i := 817) (by decide +kernel) (by decide +kernel)
theorem kmM_166 : (Jvm.Cond.methodLink "GoodsTreeModel" (166 : Nat) ({ cls := "GoodsTreeModel", name := "below", desc := "(II)I" } : Jvm.MethodName)) ∈ xT := xT_t (i := 818) (by decide +kernel) (by decide +kernel)
theorem kiM_below : (Jvm.Cond.instanceMethod ({ cls := "GoodsTreeModel", name := "below", desc := "(II)I" } : Jvm.MethodName)) ∈ xT := xT_t (i := 820) (by decide +kernel) (by decide +kernel)
theorem kcM_below : (Jvm.Cond.code ({ cls := "GoodsTreeModel", name := "below", desc := "(II)I" } : Jvm.MethodName) prog_8_method_25_code (5 : Nat) (Option.some Jvm.ClassFile.FieldType.int)) ∈ xT := xT_t (i := 821) (by decide +kernel) (by decide +kernel)
theorem kmL_86 : (Jvm.Cond.methodLink "GoodsTreeLaw" (86 : Nat) ({ cls := "GoodsTreeModel", name := "find", desc := "(J)I" } : Jvm.MethodName)) ∈ xT := xT_t (i := 822) (by decide +kernel) (by decide +kernel)
theorem kiM_find : (Jvm.Cond.instanceMethod ({ cls := "GoodsTreeModel", name := "find", desc := "(J)I" } : Jvm.MethodName)) ∈ xT := xT_t (i := 823) (by decide +kernel) (by decide +kernel)
theorem ksM_find : (Jvm.Cond.selects "GoodsTreeModel" ({ cls := "GoodsTreeModel", name := "find", desc := "(J)I" } : Jvm.MethodName) ({ cls := "GoodsTreeModel", name := "find", desc := "(J)I" } : Jvm.MethodName)) ∈ xT := xT_t (i := 824) (by decide +kernel) (by decide +kernel)
theorem kcM_find : (Jvm.Cond.code ({ cls := "GoodsTreeModel", name := "find", desc := "(J)I" } : Jvm.MethodName) prog_8_method_28_code (3 : Nat) (Option.some Jvm.ClassFile.FieldType.int)) ∈ xT := xT_t (i := 825) (by decide +kernel) (by decide +kernel)
theorem kmM_169 : (Jvm.Cond.methodLink "GoodsTreeModel" (169 : Nat) ({ cls := "GoodsTreeModel", name := "rowOf", desc := "(IJ)I" } : Jvm.MethodName)) ∈ xT := xT_t (i := 826) (by decide +kernel) (by decide +kernel)
theorem kiM_rowOf : (Jvm.Cond.instanceMethod ({ cls := "GoodsTreeModel", name := "rowOf", desc := "(IJ)I" } : Jvm.MethodName)) ∈ xT := xT_t (i := 828) (by decide +kernel) (by decide +kernel)
theorem kcM_rowOf : (Jvm.Cond.code ({ cls := "GoodsTreeModel", name := "rowOf", desc := "(IJ)I" } : Jvm.MethodName) prog_8_method_27_code (6 : Nat) (Option.some Jvm.ClassFile.FieldType.int)) ∈ xT := xT_t (i := 829) (by decide +kernel) (by decide +kernel)
theorem kmL_90 : (Jvm.Cond.methodLink "GoodsTreeLaw" (90 : Nat) ({ cls := "GoodsTreeModel", name := "note", desc := "(JIJ)I" } : Jvm.MethodName)) ∈ xT := xT_t (i := 830) (by decide +kernel) (by decide +kernel)
theorem kiM_note : (Jvm.Cond.instanceMethod ({ cls := "GoodsTreeModel", name := "note", desc := "(JIJ)I" } : Jvm.MethodName)) ∈ xT := xT_t (i := 831) (by decide +kernel) (by decide +kernel)
theorem ksM_note : (Jvm.Cond.selects "GoodsTreeModel" ({ cls := "GoodsTreeModel", name := "note", desc := "(JIJ)I" } : Jvm.MethodName) ({ cls := "GoodsTreeModel", name := "note", desc := "(JIJ)I" } : Jvm.MethodName)) ∈ xT := xT_t (i := 832) (by decide +kernel) (by decide +kernel)
theorem kcM_note : (Jvm.Cond.code ({ cls := "GoodsTreeModel", name := "note", desc := "(JIJ)I" } : Jvm.MethodName) prog_8_method_32_code (6 : Nat) (Option.some Jvm.ClassFile.FieldType.int)) ∈ xT := xT_t (i := 833) (by decide +kernel) (by decide +kernel)
theorem kmM_177 : (Jvm.Cond.methodLink "GoodsTreeModel" (177 : Nat) ({ cls := "GoodsTreeModel", name := "hasNote", desc := "(JIJ)Z" } : Jvm.MethodName)) ∈ xT := xT_t (i := 834) (by decide +kernel) (by decide +kernel)
theorem kiM_hasNote : (Jvm.Cond.instanceMethod ({ cls := "GoodsTreeModel", name := "hasNote", desc := "(JIJ)Z" } : Jvm.MethodName)) ∈ xT := xT_t (i := 836) (by decide +kernel) (by decide +kernel)
theorem kcM_hasNote : (Jvm.Cond.code ({ cls := "GoodsTreeModel", name := "hasNote", desc := "(JIJ)Z" } : Jvm.MethodName) prog_8_method_31_code (8 : Nat) (Option.some Jvm.ClassFile.FieldType.boolean)) ∈ xT := xT_t (i := 837) (by decide +kernel) (by decide +kernel)
theorem kmM_173 : (Jvm.Cond.methodLink "GoodsTreeModel" (173 : Nat) ({ cls := "GoodsTreeModel", name := "isNote", desc := "(IJIJ)Z" } : Jvm.MethodName)) ∈ xT := xT_t (i := 838) (by decide +kernel) (by decide +kernel)
theorem kiM_isNote : (Jvm.Cond.instanceMethod ({ cls := "GoodsTreeModel", name := "isNote", desc := "(IJIJ)Z" } : Jvm.MethodName)) ∈ xT := xT_t (i := 840) (by decide +kernel) (by decide +kernel)
theorem kcM_isNote : (Jvm.Cond.code ({ cls := "GoodsTreeModel", name := "isNote", desc := "(IJIJ)Z" } : Jvm.MethodName) prog_8_method_30_code (7 : Nat) (Option.some Jvm.ClassFile.FieldType.boolean)) ∈ xT := xT_t (i := 841) (by decide +kernel) (by decide +kernel)
theorem kmM_181 : (Jvm.Cond.methodLink "GoodsTreeModel" (181 : Nat) ({ cls := "GoodsTreeModel", name := "notesOf", desc := "(I)I" } : Jvm.MethodName)) ∈ xT := xT_t (i := 842) (by decide +kernel) (by decide +kernel)
theorem kiM_notesOf : (Jvm.Cond.instanceMethod ({ cls := "GoodsTreeModel", name := "notesOf", desc := "(I)I" } : Jvm.MethodName)) ∈ xT := xT_t (i := 844) (by decide +kernel) (by decide +kernel)
theorem kcM_notesOf : (Jvm.Cond.code ({ cls := "GoodsTreeModel", name := "notesOf", desc := "(I)I" } : Jvm.MethodName) prog_8_method_29_code (4 : Nat) (Option.some Jvm.ClassFile.FieldType.int)) ∈ xT := xT_t (i := 845) (by decide +kernel) (by decide +kernel)
theorem kmL_94 : (Jvm.Cond.methodLink "GoodsTreeLaw" (94 : Nat) ({ cls := "GoodsTreeModel", name := "noted", desc := "(JI)I" } : Jvm.MethodName)) ∈ xT := xT_t (i := 846) (by decide +kernel) (by decide +kernel)
theorem kiM_noted : (Jvm.Cond.instanceMethod ({ cls := "GoodsTreeModel", name := "noted", desc := "(JI)I" } : Jvm.MethodName)) ∈ xT := xT_t (i := 847) (by decide +kernel) (by decide +kernel)
theorem ksM_noted : (Jvm.Cond.selects "GoodsTreeModel" ({ cls := "GoodsTreeModel", name := "noted", desc := "(JI)I" } : Jvm.MethodName) ({ cls := "GoodsTreeModel", name := "noted", desc := "(JI)I" } : Jvm.MethodName)) ∈ xT := xT_t (i := 848) (by decide +kernel) (by decide +kernel)
theorem kcM_noted : (Jvm.Cond.code ({ cls := "GoodsTreeModel", name := "noted", desc := "(JI)I" } : Jvm.MethodName) prog_8_method_33_code (7 : Nat) (Option.some Jvm.ClassFile.FieldType.int)) ∈ xT := xT_t (i := 849) (by decide +kernel) (by decide +kernel)
theorem kmL_99 : (Jvm.Cond.methodLink "GoodsTreeLaw" (99 : Nat) ({ cls := "GoodsTreeModel", name := "link", desc := "(IJIJ)Z" } : Jvm.MethodName)) ∈ xT := xT_t (i := 850) (by decide +kernel) (by decide +kernel)
theorem kiM_link : (Jvm.Cond.instanceMethod ({ cls := "GoodsTreeModel", name := "link", desc := "(IJIJ)Z" } : Jvm.MethodName)) ∈ xT := xT_t (i := 851) (by decide +kernel) (by decide +kernel)
theorem ksM_link : (Jvm.Cond.selects "GoodsTreeModel" ({ cls := "GoodsTreeModel", name := "link", desc := "(IJIJ)Z" } : Jvm.MethodName) ({ cls := "GoodsTreeModel", name := "link", desc := "(IJIJ)Z" } : Jvm.MethodName)) ∈ xT := xT_t (i := 852) (by decide +kernel) (by decide +kernel)
theorem kcM_link : (Jvm.Cond.code ({ cls := "GoodsTreeModel", name := "link", desc := "(IJIJ)Z" } : Jvm.MethodName) prog_8_method_35_code (8 : Nat) (Option.some Jvm.ClassFile.FieldType.boolean)) ∈ xT := xT_t (i := 853) (by decide +kernel) (by decide +kernel)
theorem kmM_184 : (Jvm.Cond.methodLink "GoodsTreeModel" (184 : Nat) ({ cls := "GoodsTreeModel", name := "isLink", desc := "(IIJI)Z" } : Jvm.MethodName)) ∈ xT := xT_t (i := 854) (by decide +kernel) (by decide +kernel)
theorem kiM_isLink : (Jvm.Cond.instanceMethod ({ cls := "GoodsTreeModel", name := "isLink", desc := "(IIJI)Z" } : Jvm.MethodName)) ∈ xT := xT_t (i := 856) (by decide +kernel) (by decide +kernel)
theorem kcM_isLink : (Jvm.Cond.code ({ cls := "GoodsTreeModel", name := "isLink", desc := "(IIJI)Z" } : Jvm.MethodName) prog_8_method_34_code (6 : Nat) (Option.some Jvm.ClassFile.FieldType.boolean)) ∈ xT := xT_t (i := 857) (by decide +kernel) (by decide +kernel)
theorem kmL_103 : (Jvm.Cond.methodLink "GoodsTreeLaw" (103 : Nat) ({ cls := "GoodsTreeModel", name := "became", desc := "(IJI)I" } : Jvm.MethodName)) ∈ xT := xT_t (i := 858) (by decide +kernel) (by decide +kernel)
theorem kiM_became : (Jvm.Cond.instanceMethod ({ cls := "GoodsTreeModel", name := "became", desc := "(IJI)I" } : Jvm.MethodName)) ∈ xT := xT_t (i := 859) (by decide +kernel) (by decide +kernel)
theorem ksM_became : (Jvm.Cond.selects "GoodsTreeModel" ({ cls := "GoodsTreeModel", name := "became", desc := "(IJI)I" } : Jvm.MethodName) ({ cls := "GoodsTreeModel", name := "became", desc := "(IJI)I" } : Jvm.MethodName)) ∈ xT := xT_t (i := 860) (by decide +kernel) (by decide +kernel)
theorem kcM_became : (Jvm.Cond.code ({ cls := "GoodsTreeModel", name := "became", desc := "(IJI)I" } : Jvm.MethodName) prog_8_method_39_code (8 : Nat) (Option.some Jvm.ClassFile.FieldType.int)) ∈ xT := xT_t (i := 861) (by decide +kernel) (by decide +kernel)
theorem kmM_188 : (Jvm.Cond.methodLink "GoodsTreeModel" (188 : Nat) ({ cls := "GoodsTreeModel", name := "isOf", desc := "(IJI)Z" } : Jvm.MethodName)) ∈ xT := xT_t (i := 862) (by decide +kernel) (by decide +kernel)
theorem kiM_isOf : (Jvm.Cond.instanceMethod ({ cls := "GoodsTreeModel", name := "isOf", desc := "(IJI)Z" } : Jvm.MethodName)) ∈ xT := xT_t (i := 864) (by decide +kernel) (by decide +kernel)
theorem kcM_isOf : (Jvm.Cond.code ({ cls := "GoodsTreeModel", name := "isOf", desc := "(IJI)Z" } : Jvm.MethodName) prog_8_method_36_code (5 : Nat) (Option.some Jvm.ClassFile.FieldType.boolean)) ∈ xT := xT_t (i := 865) (by decide +kernel) (by decide +kernel)
theorem kmM_192 : (Jvm.Cond.methodLink "GoodsTreeModel" (192 : Nat) ({ cls := "GoodsTreeModel", name := "linksOf", desc := "(IJI)I" } : Jvm.MethodName)) ∈ xT := xT_t (i := 866) (by decide +kernel) (by decide +kernel)
theorem kiM_linksOf : (Jvm.Cond.instanceMethod ({ cls := "GoodsTreeModel", name := "linksOf", desc := "(IJI)I" } : Jvm.MethodName)) ∈ xT := xT_t (i := 868) (by decide +kernel) (by decide +kernel)
theorem kcM_linksOf : (Jvm.Cond.code ({ cls := "GoodsTreeModel", name := "linksOf", desc := "(IJI)I" } : Jvm.MethodName) prog_8_method_37_code (7 : Nat) (Option.some Jvm.ClassFile.FieldType.int)) ∈ xT := xT_t (i := 869) (by decide +kernel) (by decide +kernel)
theorem kmM_196 : (Jvm.Cond.methodLink "GoodsTreeModel" (196 : Nat) ({ cls := "GoodsTreeModel", name := "linksTo", desc := "(IIJ)I" } : Jvm.MethodName)) ∈ xT := xT_t (i := 870) (by decide +kernel) (by decide +kernel)
theorem kiM_linksTo : (Jvm.Cond.instanceMethod ({ cls := "GoodsTreeModel", name := "linksTo", desc := "(IIJ)I" } : Jvm.MethodName)) ∈ xT := xT_t (i := 872) (by decide +kernel) (by decide +kernel)
theorem kcM_linksTo : (Jvm.Cond.code ({ cls := "GoodsTreeModel", name := "linksTo", desc := "(IIJ)I" } : Jvm.MethodName) prog_8_method_38_code (7 : Nat) (Option.some Jvm.ClassFile.FieldType.int)) ∈ xT := xT_t (i := 873) (by decide +kernel) (by decide +kernel)
theorem kmL_107 : (Jvm.Cond.methodLink "GoodsTreeLaw" (107 : Nat) ({ cls := "GoodsTreeModel", name := "linked", desc := "(IJII)J" } : Jvm.MethodName)) ∈ xT := xT_t (i := 874) (by decide +kernel) (by decide +kernel)
theorem kiM_linked : (Jvm.Cond.instanceMethod ({ cls := "GoodsTreeModel", name := "linked", desc := "(IJII)J" } : Jvm.MethodName)) ∈ xT := xT_t (i := 875) (by decide +kernel) (by decide +kernel)
theorem ksM_linked : (Jvm.Cond.selects "GoodsTreeModel" ({ cls := "GoodsTreeModel", name := "linked", desc := "(IJII)J" } : Jvm.MethodName) ({ cls := "GoodsTreeModel", name := "linked", desc := "(IJII)J" } : Jvm.MethodName)) ∈ xT := xT_t (i := 876) (by decide +kernel) (by decide +kernel)
theorem kcM_linked : (Jvm.Cond.code ({ cls := "GoodsTreeModel", name := "linked", desc := "(IJII)J" } : Jvm.MethodName) prog_8_method_40_code (8 : Nat) (Option.some Jvm.ClassFile.FieldType.long)) ∈ xT := xT_t (i := 877) (by decide +kernel) (by decide +kernel)
theorem kmL_110 : (Jvm.Cond.methodLink "GoodsTreeLaw" (110 : Nat) ({ cls := "GoodsTreeModel", name := "lost", desc := "(II)I" } : Jvm.MethodName)) ∈ xT := xT_t (i := 878) (by decide +kernel) (by decide +kernel)
theorem kiM_lost : (Jvm.Cond.instanceMethod ({ cls := "GoodsTreeModel", name := "lost", desc := "(II)I" } : Jvm.MethodName)) ∈ xT := xT_t (i := 879) (by decide +kernel) (by decide +kernel)
theorem ksM_lost : (Jvm.Cond.selects "GoodsTreeModel" ({ cls := "GoodsTreeModel", name := "lost", desc := "(II)I" } : Jvm.MethodName) ({ cls := "GoodsTreeModel", name := "lost", desc := "(II)I" } : Jvm.MethodName)) ∈ xT := xT_t (i := 880) (by decide +kernel) (by decide +kernel)
theorem kcM_lost : (Jvm.Cond.code ({ cls := "GoodsTreeModel", name := "lost", desc := "(II)I" } : Jvm.MethodName) prog_8_method_41_code (5 : Nat) (Option.some Jvm.ClassFile.FieldType.int)) ∈ xT := xT_t (i := 881) (by decide +kernel) (by decide +kernel)
theorem kmL_113 : (Jvm.Cond.methodLink "GoodsTreeLaw" (113 : Nat) ({ cls := "GoodsTreeModel", name := "search", desc := "()I" } : Jvm.MethodName)) ∈ xT := xT_t (i := 882) (by decide +kernel) (by decide +kernel)
theorem kiM_search : (Jvm.Cond.instanceMethod ({ cls := "GoodsTreeModel", name := "search", desc := "()I" } : Jvm.MethodName)) ∈ xT := xT_t (i := 883) (by decide +kernel) (by decide +kernel)
theorem ksM_search : (Jvm.Cond.selects "GoodsTreeModel" ({ cls := "GoodsTreeModel", name := "search", desc := "()I" } : Jvm.MethodName) ({ cls := "GoodsTreeModel", name := "search", desc := "()I" } : Jvm.MethodName)) ∈ xT := xT_t (i := 884) (by decide +kernel) (by decide +kernel)
theorem kcM_search : (Jvm.Cond.code ({ cls := "GoodsTreeModel", name := "search", desc := "()I" } : Jvm.MethodName) prog_8_method_44_code (4 : Nat) (Option.some Jvm.ClassFile.FieldType.int)) ∈ xT := xT_t (i := 885) (by decide +kernel) (by decide +kernel)
theorem kmM_207 : (Jvm.Cond.methodLink "GoodsTreeModel" (207 : Nat) ({ cls := "GoodsTreeModel", name := "pointsOf", desc := "(I)I" } : Jvm.MethodName)) ∈ xT := xT_t (i := 886) (by decide +kernel) (by decide +kernel)
theorem kiM_pointsOf : (Jvm.Cond.instanceMethod ({ cls := "GoodsTreeModel", name := "pointsOf", desc := "(I)I" } : Jvm.MethodName)) ∈ xT := xT_t (i := 888) (by decide +kernel) (by decide +kernel)
theorem kcM_pointsOf : (Jvm.Cond.code ({ cls := "GoodsTreeModel", name := "pointsOf", desc := "(I)I" } : Jvm.MethodName) prog_8_method_43_code (7 : Nat) (Option.some Jvm.ClassFile.FieldType.int)) ∈ xT := xT_t (i := 889) (by decide +kernel) (by decide +kernel)
theorem kmM_200 : (Jvm.Cond.methodLink "GoodsTreeModel" (200 : Nat) ({ cls := "GoodsTreeModel", name := "has", desc := "(IJ)Z" } : Jvm.MethodName)) ∈ xT := xT_t (i := 890) (by decide +kernel) (by decide +kernel)
theorem kiM_has : (Jvm.Cond.instanceMethod ({ cls := "GoodsTreeModel", name := "has", desc := "(IJ)Z" } : Jvm.MethodName)) ∈ xT := xT_t (i := 892) (by decide +kernel) (by decide +kernel)
theorem kcM_has : (Jvm.Cond.code ({ cls := "GoodsTreeModel", name := "has", desc := "(IJ)Z" } : Jvm.MethodName) prog_8_method_42_code (6 : Nat) (Option.some Jvm.ClassFile.FieldType.boolean)) ∈ xT := xT_t (i := 893) (by decide +kernel) (by decide +kernel)
theorem kmL_116 : (Jvm.Cond.methodLink "GoodsTreeLaw" (116 : Nat) ({ cls := "GoodsTreeModel", name := "found", desc := "(II)J" } : Jvm.MethodName)) ∈ xT := xT_t (i := 894) (by decide +kernel) (by decide +kernel)
theorem kiM_found : (Jvm.Cond.instanceMethod ({ cls := "GoodsTreeModel", name := "found", desc := "(II)J" } : Jvm.MethodName)) ∈ xT := xT_t (i := 895) (by decide +kernel) (by decide +kernel)
theorem ksM_found : (Jvm.Cond.selects "GoodsTreeModel" ({ cls := "GoodsTreeModel", name := "found", desc := "(II)J" } : Jvm.MethodName) ({ cls := "GoodsTreeModel", name := "found", desc := "(II)J" } : Jvm.MethodName)) ∈ xT := xT_t (i := 896) (by decide +kernel) (by decide +kernel)
theorem kcM_found : (Jvm.Cond.code ({ cls := "GoodsTreeModel", name := "found", desc := "(II)J" } : Jvm.MethodName) prog_8_method_45_code (3 : Nat) (Option.some Jvm.ClassFile.FieldType.long)) ∈ xT := xT_t (i := 897) (by decide +kernel) (by decide +kernel)
theorem kmL_120 : (Jvm.Cond.methodLink "GoodsTreeLaw" (120 : Nat) ({ cls := "GoodsTreeModel", name := "count", desc := "(I)I" } : Jvm.MethodName)) ∈ xT := xT_t (i := 898) (by decide +kernel) (by decide +kernel)
theorem kiM_count : (Jvm.Cond.instanceMethod ({ cls := "GoodsTreeModel", name := "count", desc := "(I)I" } : Jvm.MethodName)) ∈ xT := xT_t (i := 899) (by decide +kernel) (by decide +kernel)
theorem ksM_count : (Jvm.Cond.selects "GoodsTreeModel" ({ cls := "GoodsTreeModel", name := "count", desc := "(I)I" } : Jvm.MethodName) ({ cls := "GoodsTreeModel", name := "count", desc := "(I)I" } : Jvm.MethodName)) ∈ xT := xT_t (i := 900) (by decide +kernel) (by decide +kernel)
theorem kcM_count : (Jvm.Cond.code ({ cls := "GoodsTreeModel", name := "count", desc := "(I)I" } : Jvm.MethodName) prog_8_method_46_code (4 : Nat) (Option.some Jvm.ClassFile.FieldType.int)) ∈ xT := xT_t (i := 901) (by decide +kernel) (by decide +kernel)
theorem kjL_80 : (Jvm.Cond.constantLong "GoodsTreeLaw" (80 : Nat) (4294967295 : Int64)) ∈ xT := xT_t (i := 902) (by decide +kernel) (by decide +kernel)
theorem ksG_hasCode : (Jvm.Cond.selects "GoodsTree" ⟨"GoodsTree", "hasCode", "(IJ)Z"⟩ ⟨"GoodsTree", "hasCode", "(IJ)Z"⟩) ∈ xT := xT_p (i := 0) (by decide +kernel) (by decide +kernel)
theorem ksP_has : (Jvm.Cond.selects "GoodsTree$Pairs" ⟨"GoodsTree$Pairs", "has", "(I)Z"⟩ ⟨"GoodsTree$Pairs", "has", "(I)Z"⟩) ∈ xT := xT_p (i := 1) (by decide +kernel) (by decide +kernel)
theorem ksG_countInEdition : (Jvm.Cond.selects "GoodsTree" ⟨"GoodsTree", "countInEdition", "(I)I"⟩ ⟨"GoodsTree", "countInEdition", "(I)I"⟩) ∈ xT := xT_p (i := 2) (by decide +kernel) (by decide +kernel)
theorem ksR_start : (Jvm.Cond.selects "GoodsTree$TextReader" ⟨"GoodsTree$TextReader", "start", "()V"⟩ ⟨"GoodsTree$TextReader", "start", "()V"⟩) ∈ xT := xT_p (i := 3) (by decide +kernel) (by decide +kernel)
theorem ksR_fail : (Jvm.Cond.selects "GoodsTree$TextReader" ⟨"GoodsTree$TextReader", "fail", "(II)Z"⟩ ⟨"GoodsTree$TextReader", "fail", "(II)Z"⟩) ∈ xT := xT_p (i := 4) (by decide +kernel) (by decide +kernel)
theorem ksR_readRow : (Jvm.Cond.selects "GoodsTree$TextReader" ⟨"GoodsTree$TextReader", "readRow", "(LGoodsTree$Tree;)Z"⟩ ⟨"GoodsTree$TextReader", "readRow", "(LGoodsTree$Tree;)Z"⟩) ∈ xT := xT_p (i := 5) (by decide +kernel) (by decide +kernel)
theorem ksR_here : (Jvm.Cond.selects "GoodsTree$TextReader" ⟨"GoodsTree$TextReader", "here", "()C"⟩ ⟨"GoodsTree$TextReader", "here", "()C"⟩) ∈ xT := xT_p (i := 6) (by decide +kernel) (by decide +kernel)
theorem ksR_countDashes : (Jvm.Cond.selects "GoodsTree$TextReader" ⟨"GoodsTree$TextReader", "countDashes", "()I"⟩ ⟨"GoodsTree$TextReader", "countDashes", "()I"⟩) ∈ xT := xT_p (i := 7) (by decide +kernel) (by decide +kernel)
theorem ksR_readCodeAndWords : (Jvm.Cond.selects "GoodsTree$TextReader" ⟨"GoodsTree$TextReader", "readCodeAndWords", "(LGoodsTree$Tree;I)Z"⟩ ⟨"GoodsTree$TextReader", "readCodeAndWords", "(LGoodsTree$Tree;I)Z"⟩) ∈ xT := xT_p (i := 8) (by decide +kernel) (by decide +kernel)
theorem ksR_readCode : (Jvm.Cond.selects "GoodsTree$TextReader" ⟨"GoodsTree$TextReader", "readCode", "()J"⟩ ⟨"GoodsTree$TextReader", "readCode", "()J"⟩) ∈ xT := xT_p (i := 9) (by decide +kernel) (by decide +kernel)
theorem ksR_readWords : (Jvm.Cond.selects "GoodsTree$TextReader" ⟨"GoodsTree$TextReader", "readWords", "(I)Z"⟩ ⟨"GoodsTree$TextReader", "readWords", "(I)Z"⟩) ∈ xT := xT_p (i := 10) (by decide +kernel) (by decide +kernel)
theorem ksR_readWord : (Jvm.Cond.selects "GoodsTree$TextReader" ⟨"GoodsTree$TextReader", "readWord", "()J"⟩ ⟨"GoodsTree$TextReader", "readWord", "()J"⟩) ∈ xT := xT_p (i := 11) (by decide +kernel) (by decide +kernel)
theorem ksJT_fillInStackTrace2 : (Jvm.Cond.selects "java/lang/Throwable" ⟨"java/lang/Throwable", "fillInStackTrace", "(I)Ljava/lang/Throwable;"⟩ ⟨"java/lang/Throwable", "fillInStackTrace", "(I)Ljava/lang/Throwable;"⟩) ∈ xT := xT_p (i := 12) (by decide +kernel) (by decide +kernel)
theorem ksP_drop : (Jvm.Cond.selects "GoodsTree$Pairs" ⟨"GoodsTree$Pairs", "drop", "(I)V"⟩ ⟨"GoodsTree$Pairs", "drop", "(I)V"⟩) ∈ xT := xT_p (i := 13) (by decide +kernel) (by decide +kernel)
theorem ksG_checkCode : (Jvm.Cond.selects "GoodsTree" ⟨"GoodsTree", "checkCode", "(IJ)V"⟩ ⟨"GoodsTree", "checkCode", "(IJ)V"⟩) ∈ xT := xT_p (i := 14) (by decide +kernel) (by decide +kernel)
theorem ksG_pointsOf : (Jvm.Cond.selects "GoodsTree" ⟨"GoodsTree", "pointsOf", "(LGoodsTree$Tree;I)I"⟩ ⟨"GoodsTree", "pointsOf", "(LGoodsTree$Tree;I)I"⟩) ∈ xT := xT_p (i := 15) (by decide +kernel) (by decide +kernel)
theorem ksT_hasWord : (Jvm.Cond.selects "GoodsTree$Tree" ⟨"GoodsTree$Tree", "hasWord", "(IJ)Z"⟩ ⟨"GoodsTree$Tree", "hasWord", "(IJ)Z"⟩) ∈ xT := xT_p (i := 16) (by decide +kernel) (by decide +kernel)
theorem ksG_isLeftOut : (Jvm.Cond.selects "GoodsTree" ⟨"GoodsTree", "isLeftOut", "(LGoodsTree$Tree;I)Z"⟩ ⟨"GoodsTree", "isLeftOut", "(LGoodsTree$Tree;I)Z"⟩) ∈ xT := xT_p (i := 17) (by decide +kernel) (by decide +kernel)
theorem ksM_reads : (Jvm.Cond.selects "GoodsTreeModel" ⟨"GoodsTreeModel", "reads", "()Z"⟩ ⟨"GoodsTreeModel", "reads", "()Z"⟩) ∈ xT := xT_p (i := 18) (by decide +kernel) (by decide +kernel)
theorem ksM_readsCode : (Jvm.Cond.selects "GoodsTreeModel" ⟨"GoodsTreeModel", "readsCode", "(I)Z"⟩ ⟨"GoodsTreeModel", "readsCode", "(I)Z"⟩) ∈ xT := xT_p (i := 19) (by decide +kernel) (by decide +kernel)
theorem ksM_run : (Jvm.Cond.selects "GoodsTreeModel" ⟨"GoodsTreeModel", "run", "(II)I"⟩ ⟨"GoodsTreeModel", "run", "(II)I"⟩) ∈ xT := xT_p (i := 20) (by decide +kernel) (by decide +kernel)
theorem ksM_fails : (Jvm.Cond.selects "GoodsTreeModel" ⟨"GoodsTreeModel", "fails", "(II)Z"⟩ ⟨"GoodsTreeModel", "fails", "(II)Z"⟩) ∈ xT := xT_p (i := 21) (by decide +kernel) (by decide +kernel)
theorem ksM_codeAt : (Jvm.Cond.selects "GoodsTreeModel" ⟨"GoodsTreeModel", "codeAt", "(II)J"⟩ ⟨"GoodsTreeModel", "codeAt", "(II)J"⟩) ∈ xT := xT_p (i := 22) (by decide +kernel) (by decide +kernel)
theorem ksM_above : (Jvm.Cond.selects "GoodsTreeModel" ⟨"GoodsTreeModel", "above", "(II)I"⟩ ⟨"GoodsTreeModel", "above", "(II)I"⟩) ∈ xT := xT_p (i := 23) (by decide +kernel) (by decide +kernel)
theorem ksM_readsWords : (Jvm.Cond.selects "GoodsTreeModel" ⟨"GoodsTreeModel", "readsWords", "(III)I"⟩ ⟨"GoodsTreeModel", "readsWords", "(III)I"⟩) ∈ xT := xT_p (i := 24) (by decide +kernel) (by decide +kernel)
theorem ksM_wordAt : (Jvm.Cond.selects "GoodsTreeModel" ⟨"GoodsTreeModel", "wordAt", "(II)J"⟩ ⟨"GoodsTreeModel", "wordAt", "(II)J"⟩) ∈ xT := xT_p (i := 25) (by decide +kernel) (by decide +kernel)
theorem ksM_refuse : (Jvm.Cond.selects "GoodsTreeModel" ⟨"GoodsTreeModel", "refuse", "(I)I"⟩ ⟨"GoodsTreeModel", "refuse", "(I)I"⟩) ∈ xT := xT_p (i := 26) (by decide +kernel) (by decide +kernel)
theorem ksM_forget : (Jvm.Cond.selects "GoodsTreeModel" ⟨"GoodsTreeModel", "forget", "(I)V"⟩ ⟨"GoodsTreeModel", "forget", "(I)V"⟩) ∈ xT := xT_p (i := 27) (by decide +kernel) (by decide +kernel)
theorem ksM_below : (Jvm.Cond.selects "GoodsTreeModel" ⟨"GoodsTreeModel", "below", "(II)I"⟩ ⟨"GoodsTreeModel", "below", "(II)I"⟩) ∈ xT := xT_p (i := 28) (by decide +kernel) (by decide +kernel)
theorem ksM_rowOf : (Jvm.Cond.selects "GoodsTreeModel" ⟨"GoodsTreeModel", "rowOf", "(IJ)I"⟩ ⟨"GoodsTreeModel", "rowOf", "(IJ)I"⟩) ∈ xT := xT_p (i := 29) (by decide +kernel) (by decide +kernel)
theorem ksM_hasNote : (Jvm.Cond.selects "GoodsTreeModel" ⟨"GoodsTreeModel", "hasNote", "(JIJ)Z"⟩ ⟨"GoodsTreeModel", "hasNote", "(JIJ)Z"⟩) ∈ xT := xT_p (i := 30) (by decide +kernel) (by decide +kernel)
theorem ksM_isNote : (Jvm.Cond.selects "GoodsTreeModel" ⟨"GoodsTreeModel", "isNote", "(IJIJ)Z"⟩ ⟨"GoodsTreeModel", "isNote", "(IJIJ)Z"⟩) ∈ xT := xT_p (i := 31) (by decide +kernel) (by decide +kernel)
theorem ksM_notesOf : (Jvm.Cond.selects "GoodsTreeModel" ⟨"GoodsTreeModel", "notesOf", "(I)I"⟩ ⟨"GoodsTreeModel", "notesOf", "(I)I"⟩) ∈ xT := xT_p (i := 32) (by decide +kernel) (by decide +kernel)
theorem ksM_isLink : (Jvm.Cond.selects "GoodsTreeModel" ⟨"GoodsTreeModel", "isLink", "(IIJI)Z"⟩ ⟨"GoodsTreeModel", "isLink", "(IIJI)Z"⟩) ∈ xT := xT_p (i := 33) (by decide +kernel) (by decide +kernel)
theorem ksM_isOf : (Jvm.Cond.selects "GoodsTreeModel" ⟨"GoodsTreeModel", "isOf", "(IJI)Z"⟩ ⟨"GoodsTreeModel", "isOf", "(IJI)Z"⟩) ∈ xT := xT_p (i := 34) (by decide +kernel) (by decide +kernel)
theorem ksM_linksOf : (Jvm.Cond.selects "GoodsTreeModel" ⟨"GoodsTreeModel", "linksOf", "(IJI)I"⟩ ⟨"GoodsTreeModel", "linksOf", "(IJI)I"⟩) ∈ xT := xT_p (i := 35) (by decide +kernel) (by decide +kernel)
theorem ksM_linksTo : (Jvm.Cond.selects "GoodsTreeModel" ⟨"GoodsTreeModel", "linksTo", "(IIJ)I"⟩ ⟨"GoodsTreeModel", "linksTo", "(IIJ)I"⟩) ∈ xT := xT_p (i := 36) (by decide +kernel) (by decide +kernel)
theorem ksM_pointsOf : (Jvm.Cond.selects "GoodsTreeModel" ⟨"GoodsTreeModel", "pointsOf", "(I)I"⟩ ⟨"GoodsTreeModel", "pointsOf", "(I)I"⟩) ∈ xT := xT_p (i := 37) (by decide +kernel) (by decide +kernel)
theorem ksM_has : (Jvm.Cond.selects "GoodsTreeModel" ⟨"GoodsTreeModel", "has", "(IJ)Z"⟩ ⟨"GoodsTreeModel", "has", "(IJ)Z"⟩) ∈ xT := xT_p (i := 38) (by decide +kernel) (by decide +kernel)
theorem inC : ∀ w ∈ u_ws RC FC 0, w ∈ xT := by decide +kernel
theorem inF : ∀ w ∈ u_ws RF FF 3, w ∈ xT := by decide +kernel
theorem inP : ∀ w ∈ u_ws RP FP 5, w ∈ xT := by decide +kernel
theorem inR : ∀ w ∈ u_ws RR FR 7, w ∈ xT := by decide +kernel
theorem inT : ∀ w ∈ u_ws RT FT 8, w ∈ xT := by decide +kernel
theorem inG : ∀ w ∈ u_ws RG FG 7, w ∈ xT := by decide +kernel
theorem inM : ∀ w ∈ u_ws RM FM 27, w ∈ xT := by decide +kernel
