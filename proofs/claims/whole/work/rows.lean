section
-- ===== PART A: goes FIRST, ahead of the names: the tables' words, and 'selects' of the private methods out of them =====
/-- a private method of a class that the tables say can be made, by its rows of tables_1 -/
def lw_okq (q : MethodName × Nat) : Prop := (q.1.cls ≠ "java/lang/invoke/MethodHandle" ∧ q.1.cls ≠ "java/lang/invoke/VarHandle") ∧ Cond.instantiable q.1.cls q.2 ∈ tables_1 ∧ Cond.privateMethod q.1 ∈ tables_1 ∧ Cond.instanceMethod q.1 ∈ tables_1
theorem lw_p0 : lw_okq (⟨"GoodsTree", "hasCode", "(IJ)Z"⟩, 7) := ⟨⟨by decide +kernel, by decide +kernel⟩, List.mem_of_getElem? (i := 16) (by decide +kernel), List.mem_of_getElem? (i := 198) (by decide +kernel), List.mem_of_getElem? (i := 199) (by decide +kernel)⟩
theorem lw_p1 : lw_okq (⟨"GoodsTree$Pairs", "has", "(I)Z"⟩, 5) := ⟨⟨by decide +kernel, by decide +kernel⟩, List.mem_of_getElem? (i := 56) (by decide +kernel), List.mem_of_getElem? (i := 214) (by decide +kernel), List.mem_of_getElem? (i := 215) (by decide +kernel)⟩
theorem lw_p2 : lw_okq (⟨"GoodsTree", "countInEdition", "(I)I"⟩, 7) := ⟨⟨by decide +kernel, by decide +kernel⟩, List.mem_of_getElem? (i := 16) (by decide +kernel), List.mem_of_getElem? (i := 239) (by decide +kernel), List.mem_of_getElem? (i := 240) (by decide +kernel)⟩
theorem lw_p3 : lw_okq (⟨"GoodsTree$TextReader", "start", "()V"⟩, 7) := ⟨⟨by decide +kernel, by decide +kernel⟩, List.mem_of_getElem? (i := 24) (by decide +kernel), List.mem_of_getElem? (i := 267) (by decide +kernel), List.mem_of_getElem? (i := 268) (by decide +kernel)⟩
theorem lw_p4 : lw_okq (⟨"GoodsTree$TextReader", "fail", "(II)Z"⟩, 7) := ⟨⟨by decide +kernel, by decide +kernel⟩, List.mem_of_getElem? (i := 24) (by decide +kernel), List.mem_of_getElem? (i := 271) (by decide +kernel), List.mem_of_getElem? (i := 272) (by decide +kernel)⟩
theorem lw_p5 : lw_okq (⟨"GoodsTree$TextReader", "readRow", "(LGoodsTree$Tree;)Z"⟩, 7) := ⟨⟨by decide +kernel, by decide +kernel⟩, List.mem_of_getElem? (i := 24) (by decide +kernel), List.mem_of_getElem? (i := 275) (by decide +kernel), List.mem_of_getElem? (i := 276) (by decide +kernel)⟩
theorem lw_p6 : lw_okq (⟨"GoodsTree$TextReader", "here", "()C"⟩, 7) := ⟨⟨by decide +kernel, by decide +kernel⟩, List.mem_of_getElem? (i := 24) (by decide +kernel), List.mem_of_getElem? (i := 279) (by decide +kernel), List.mem_of_getElem? (i := 280) (by decide +kernel)⟩
theorem lw_p7 : lw_okq (⟨"GoodsTree$TextReader", "countDashes", "()I"⟩, 7) := ⟨⟨by decide +kernel, by decide +kernel⟩, List.mem_of_getElem? (i := 24) (by decide +kernel), List.mem_of_getElem? (i := 283) (by decide +kernel), List.mem_of_getElem? (i := 284) (by decide +kernel)⟩
theorem lw_p8 : lw_okq (⟨"GoodsTree$TextReader", "readCodeAndWords", "(LGoodsTree$Tree;I)Z"⟩, 7) := ⟨⟨by decide +kernel, by decide +kernel⟩, List.mem_of_getElem? (i := 24) (by decide +kernel), List.mem_of_getElem? (i := 303) (by decide +kernel), List.mem_of_getElem? (i := 304) (by decide +kernel)⟩
theorem lw_p9 : lw_okq (⟨"GoodsTree$TextReader", "readCode", "()J"⟩, 7) := ⟨⟨by decide +kernel, by decide +kernel⟩, List.mem_of_getElem? (i := 24) (by decide +kernel), List.mem_of_getElem? (i := 307) (by decide +kernel), List.mem_of_getElem? (i := 308) (by decide +kernel)⟩
theorem lw_p10 : lw_okq (⟨"GoodsTree$TextReader", "readWords", "(I)Z"⟩, 7) := ⟨⟨by decide +kernel, by decide +kernel⟩, List.mem_of_getElem? (i := 24) (by decide +kernel), List.mem_of_getElem? (i := 343) (by decide +kernel), List.mem_of_getElem? (i := 344) (by decide +kernel)⟩
theorem lw_p11 : lw_okq (⟨"GoodsTree$TextReader", "readWord", "()J"⟩, 7) := ⟨⟨by decide +kernel, by decide +kernel⟩, List.mem_of_getElem? (i := 24) (by decide +kernel), List.mem_of_getElem? (i := 347) (by decide +kernel), List.mem_of_getElem? (i := 348) (by decide +kernel)⟩
theorem lw_p12 : lw_okq (⟨"java/lang/Throwable", "fillInStackTrace", "(I)Ljava/lang/Throwable;"⟩, 6) := ⟨⟨by decide +kernel, by decide +kernel⟩, List.mem_of_getElem? (i := 411) (by decide +kernel), List.mem_of_getElem? (i := 409) (by decide +kernel), List.mem_of_getElem? (i := 410) (by decide +kernel)⟩
theorem lw_p13 : lw_okq (⟨"GoodsTree$Pairs", "drop", "(I)V"⟩, 5) := ⟨⟨by decide +kernel, by decide +kernel⟩, List.mem_of_getElem? (i := 56) (by decide +kernel), List.mem_of_getElem? (i := 445) (by decide +kernel), List.mem_of_getElem? (i := 446) (by decide +kernel)⟩
theorem lw_p14 : lw_okq (⟨"GoodsTree", "checkCode", "(IJ)V"⟩, 7) := ⟨⟨by decide +kernel, by decide +kernel⟩, List.mem_of_getElem? (i := 16) (by decide +kernel), List.mem_of_getElem? (i := 553) (by decide +kernel), List.mem_of_getElem? (i := 554) (by decide +kernel)⟩
theorem lw_p15 : lw_okq (⟨"GoodsTree", "pointsOf", "(LGoodsTree$Tree;I)I"⟩, 7) := ⟨⟨by decide +kernel, by decide +kernel⟩, List.mem_of_getElem? (i := 16) (by decide +kernel), List.mem_of_getElem? (i := 593) (by decide +kernel), List.mem_of_getElem? (i := 594) (by decide +kernel)⟩
def lw_privs_1 : List (MethodName × Nat) := [(⟨"GoodsTree", "hasCode", "(IJ)Z"⟩, 7), (⟨"GoodsTree$Pairs", "has", "(I)Z"⟩, 5), (⟨"GoodsTree", "countInEdition", "(I)I"⟩, 7), (⟨"GoodsTree$TextReader", "start", "()V"⟩, 7), (⟨"GoodsTree$TextReader", "fail", "(II)Z"⟩, 7), (⟨"GoodsTree$TextReader", "readRow", "(LGoodsTree$Tree;)Z"⟩, 7), (⟨"GoodsTree$TextReader", "here", "()C"⟩, 7), (⟨"GoodsTree$TextReader", "countDashes", "()I"⟩, 7), (⟨"GoodsTree$TextReader", "readCodeAndWords", "(LGoodsTree$Tree;I)Z"⟩, 7), (⟨"GoodsTree$TextReader", "readCode", "()J"⟩, 7), (⟨"GoodsTree$TextReader", "readWords", "(I)Z"⟩, 7), (⟨"GoodsTree$TextReader", "readWord", "()J"⟩, 7), (⟨"java/lang/Throwable", "fillInStackTrace", "(I)Ljava/lang/Throwable;"⟩, 6), (⟨"GoodsTree$Pairs", "drop", "(I)V"⟩, 5), (⟨"GoodsTree", "checkCode", "(IJ)V"⟩, 7), (⟨"GoodsTree", "pointsOf", "(LGoodsTree$Tree;I)I"⟩, 7)]
theorem lw_r1 : ∀ q ∈ lw_privs_1, lw_okq q := List.forall_mem_cons.mpr ⟨lw_p0, List.forall_mem_cons.mpr ⟨lw_p1, List.forall_mem_cons.mpr ⟨lw_p2, List.forall_mem_cons.mpr ⟨lw_p3, List.forall_mem_cons.mpr ⟨lw_p4, List.forall_mem_cons.mpr ⟨lw_p5, List.forall_mem_cons.mpr ⟨lw_p6, List.forall_mem_cons.mpr ⟨lw_p7, List.forall_mem_cons.mpr ⟨lw_p8, List.forall_mem_cons.mpr ⟨lw_p9, List.forall_mem_cons.mpr ⟨lw_p10, List.forall_mem_cons.mpr ⟨lw_p11, List.forall_mem_cons.mpr ⟨lw_p12, List.forall_mem_cons.mpr ⟨lw_p13, List.forall_mem_cons.mpr ⟨lw_p14, List.forall_mem_cons.mpr ⟨lw_p15, fun _ h => absurd h List.not_mem_nil⟩⟩⟩⟩⟩⟩⟩⟩⟩⟩⟩⟩⟩⟩⟩⟩
theorem lw_p16 : lw_okq (⟨"GoodsTree$Tree", "hasWord", "(IJ)Z"⟩, 8) := ⟨⟨by decide +kernel, by decide +kernel⟩, List.mem_of_getElem? (i := 97) (by decide +kernel), List.mem_of_getElem? (i := 603) (by decide +kernel), List.mem_of_getElem? (i := 604) (by decide +kernel)⟩
theorem lw_p17 : lw_okq (⟨"GoodsTree", "isLeftOut", "(LGoodsTree$Tree;I)Z"⟩, 7) := ⟨⟨by decide +kernel, by decide +kernel⟩, List.mem_of_getElem? (i := 16) (by decide +kernel), List.mem_of_getElem? (i := 609) (by decide +kernel), List.mem_of_getElem? (i := 610) (by decide +kernel)⟩
theorem lw_p18 : lw_okq (⟨"GoodsTreeModel", "reads", "()Z"⟩, 27) := ⟨⟨by decide +kernel, by decide +kernel⟩, List.mem_of_getElem? (i := 638) (by decide +kernel), List.mem_of_getElem? (i := 747) (by decide +kernel), List.mem_of_getElem? (i := 748) (by decide +kernel)⟩
theorem lw_p19 : lw_okq (⟨"GoodsTreeModel", "readsCode", "(I)Z"⟩, 27) := ⟨⟨by decide +kernel, by decide +kernel⟩, List.mem_of_getElem? (i := 638) (by decide +kernel), List.mem_of_getElem? (i := 751) (by decide +kernel), List.mem_of_getElem? (i := 752) (by decide +kernel)⟩
theorem lw_p20 : lw_okq (⟨"GoodsTreeModel", "run", "(II)I"⟩, 27) := ⟨⟨by decide +kernel, by decide +kernel⟩, List.mem_of_getElem? (i := 638) (by decide +kernel), List.mem_of_getElem? (i := 755) (by decide +kernel), List.mem_of_getElem? (i := 756) (by decide +kernel)⟩
theorem lw_p21 : lw_okq (⟨"GoodsTreeModel", "fails", "(II)Z"⟩, 27) := ⟨⟨by decide +kernel, by decide +kernel⟩, List.mem_of_getElem? (i := 638) (by decide +kernel), List.mem_of_getElem? (i := 759) (by decide +kernel), List.mem_of_getElem? (i := 760) (by decide +kernel)⟩
theorem lw_p22 : lw_okq (⟨"GoodsTreeModel", "codeAt", "(II)J"⟩, 27) := ⟨⟨by decide +kernel, by decide +kernel⟩, List.mem_of_getElem? (i := 638) (by decide +kernel), List.mem_of_getElem? (i := 763) (by decide +kernel), List.mem_of_getElem? (i := 764) (by decide +kernel)⟩
theorem lw_p23 : lw_okq (⟨"GoodsTreeModel", "above", "(II)I"⟩, 27) := ⟨⟨by decide +kernel, by decide +kernel⟩, List.mem_of_getElem? (i := 638) (by decide +kernel), List.mem_of_getElem? (i := 769) (by decide +kernel), List.mem_of_getElem? (i := 770) (by decide +kernel)⟩
theorem lw_p24 : lw_okq (⟨"GoodsTreeModel", "readsWords", "(III)I"⟩, 27) := ⟨⟨by decide +kernel, by decide +kernel⟩, List.mem_of_getElem? (i := 638) (by decide +kernel), List.mem_of_getElem? (i := 786) (by decide +kernel), List.mem_of_getElem? (i := 787) (by decide +kernel)⟩
theorem lw_p25 : lw_okq (⟨"GoodsTreeModel", "wordAt", "(II)J"⟩, 27) := ⟨⟨by decide +kernel, by decide +kernel⟩, List.mem_of_getElem? (i := 638) (by decide +kernel), List.mem_of_getElem? (i := 790) (by decide +kernel), List.mem_of_getElem? (i := 791) (by decide +kernel)⟩
theorem lw_p26 : lw_okq (⟨"GoodsTreeModel", "refuse", "(I)I"⟩, 27) := ⟨⟨by decide +kernel, by decide +kernel⟩, List.mem_of_getElem? (i := 638) (by decide +kernel), List.mem_of_getElem? (i := 796) (by decide +kernel), List.mem_of_getElem? (i := 797) (by decide +kernel)⟩
theorem lw_p27 : lw_okq (⟨"GoodsTreeModel", "forget", "(I)V"⟩, 27) := ⟨⟨by decide +kernel, by decide +kernel⟩, List.mem_of_getElem? (i := 638) (by decide +kernel), List.mem_of_getElem? (i := 800) (by decide +kernel), List.mem_of_getElem? (i := 801) (by decide +kernel)⟩
theorem lw_p28 : lw_okq (⟨"GoodsTreeModel", "below", "(II)I"⟩, 27) := ⟨⟨by decide +kernel, by decide +kernel⟩, List.mem_of_getElem? (i := 638) (by decide +kernel), List.mem_of_getElem? (i := 819) (by decide +kernel), List.mem_of_getElem? (i := 820) (by decide +kernel)⟩
theorem lw_p29 : lw_okq (⟨"GoodsTreeModel", "rowOf", "(IJ)I"⟩, 27) := ⟨⟨by decide +kernel, by decide +kernel⟩, List.mem_of_getElem? (i := 638) (by decide +kernel), List.mem_of_getElem? (i := 827) (by decide +kernel), List.mem_of_getElem? (i := 828) (by decide +kernel)⟩
theorem lw_p30 : lw_okq (⟨"GoodsTreeModel", "hasNote", "(JIJ)Z"⟩, 27) := ⟨⟨by decide +kernel, by decide +kernel⟩, List.mem_of_getElem? (i := 638) (by decide +kernel), List.mem_of_getElem? (i := 835) (by decide +kernel), List.mem_of_getElem? (i := 836) (by decide +kernel)⟩
theorem lw_p31 : lw_okq (⟨"GoodsTreeModel", "isNote", "(IJIJ)Z"⟩, 27) := ⟨⟨by decide +kernel, by decide +kernel⟩, List.mem_of_getElem? (i := 638) (by decide +kernel), List.mem_of_getElem? (i := 839) (by decide +kernel), List.mem_of_getElem? (i := 840) (by decide +kernel)⟩
def lw_privs_2 : List (MethodName × Nat) := [(⟨"GoodsTree$Tree", "hasWord", "(IJ)Z"⟩, 8), (⟨"GoodsTree", "isLeftOut", "(LGoodsTree$Tree;I)Z"⟩, 7), (⟨"GoodsTreeModel", "reads", "()Z"⟩, 27), (⟨"GoodsTreeModel", "readsCode", "(I)Z"⟩, 27), (⟨"GoodsTreeModel", "run", "(II)I"⟩, 27), (⟨"GoodsTreeModel", "fails", "(II)Z"⟩, 27), (⟨"GoodsTreeModel", "codeAt", "(II)J"⟩, 27), (⟨"GoodsTreeModel", "above", "(II)I"⟩, 27), (⟨"GoodsTreeModel", "readsWords", "(III)I"⟩, 27), (⟨"GoodsTreeModel", "wordAt", "(II)J"⟩, 27), (⟨"GoodsTreeModel", "refuse", "(I)I"⟩, 27), (⟨"GoodsTreeModel", "forget", "(I)V"⟩, 27), (⟨"GoodsTreeModel", "below", "(II)I"⟩, 27), (⟨"GoodsTreeModel", "rowOf", "(IJ)I"⟩, 27), (⟨"GoodsTreeModel", "hasNote", "(JIJ)Z"⟩, 27), (⟨"GoodsTreeModel", "isNote", "(IJIJ)Z"⟩, 27)]
theorem lw_r2 : ∀ q ∈ lw_privs_2, lw_okq q := List.forall_mem_cons.mpr ⟨lw_p16, List.forall_mem_cons.mpr ⟨lw_p17, List.forall_mem_cons.mpr ⟨lw_p18, List.forall_mem_cons.mpr ⟨lw_p19, List.forall_mem_cons.mpr ⟨lw_p20, List.forall_mem_cons.mpr ⟨lw_p21, List.forall_mem_cons.mpr ⟨lw_p22, List.forall_mem_cons.mpr ⟨lw_p23, List.forall_mem_cons.mpr ⟨lw_p24, List.forall_mem_cons.mpr ⟨lw_p25, List.forall_mem_cons.mpr ⟨lw_p26, List.forall_mem_cons.mpr ⟨lw_p27, List.forall_mem_cons.mpr ⟨lw_p28, List.forall_mem_cons.mpr ⟨lw_p29, List.forall_mem_cons.mpr ⟨lw_p30, List.forall_mem_cons.mpr ⟨lw_p31, fun _ h => absurd h List.not_mem_nil⟩⟩⟩⟩⟩⟩⟩⟩⟩⟩⟩⟩⟩⟩⟩⟩
theorem lw_p32 : lw_okq (⟨"GoodsTreeModel", "notesOf", "(I)I"⟩, 27) := ⟨⟨by decide +kernel, by decide +kernel⟩, List.mem_of_getElem? (i := 638) (by decide +kernel), List.mem_of_getElem? (i := 843) (by decide +kernel), List.mem_of_getElem? (i := 844) (by decide +kernel)⟩
theorem lw_p33 : lw_okq (⟨"GoodsTreeModel", "isLink", "(IIJI)Z"⟩, 27) := ⟨⟨by decide +kernel, by decide +kernel⟩, List.mem_of_getElem? (i := 638) (by decide +kernel), List.mem_of_getElem? (i := 855) (by decide +kernel), List.mem_of_getElem? (i := 856) (by decide +kernel)⟩
theorem lw_p34 : lw_okq (⟨"GoodsTreeModel", "isOf", "(IJI)Z"⟩, 27) := ⟨⟨by decide +kernel, by decide +kernel⟩, List.mem_of_getElem? (i := 638) (by decide +kernel), List.mem_of_getElem? (i := 863) (by decide +kernel), List.mem_of_getElem? (i := 864) (by decide +kernel)⟩
theorem lw_p35 : lw_okq (⟨"GoodsTreeModel", "linksOf", "(IJI)I"⟩, 27) := ⟨⟨by decide +kernel, by decide +kernel⟩, List.mem_of_getElem? (i := 638) (by decide +kernel), List.mem_of_getElem? (i := 867) (by decide +kernel), List.mem_of_getElem? (i := 868) (by decide +kernel)⟩
theorem lw_p36 : lw_okq (⟨"GoodsTreeModel", "linksTo", "(IIJ)I"⟩, 27) := ⟨⟨by decide +kernel, by decide +kernel⟩, List.mem_of_getElem? (i := 638) (by decide +kernel), List.mem_of_getElem? (i := 871) (by decide +kernel), List.mem_of_getElem? (i := 872) (by decide +kernel)⟩
theorem lw_p37 : lw_okq (⟨"GoodsTreeModel", "pointsOf", "(I)I"⟩, 27) := ⟨⟨by decide +kernel, by decide +kernel⟩, List.mem_of_getElem? (i := 638) (by decide +kernel), List.mem_of_getElem? (i := 887) (by decide +kernel), List.mem_of_getElem? (i := 888) (by decide +kernel)⟩
theorem lw_p38 : lw_okq (⟨"GoodsTreeModel", "has", "(IJ)Z"⟩, 27) := ⟨⟨by decide +kernel, by decide +kernel⟩, List.mem_of_getElem? (i := 638) (by decide +kernel), List.mem_of_getElem? (i := 891) (by decide +kernel), List.mem_of_getElem? (i := 892) (by decide +kernel)⟩
def lw_privs_3 : List (MethodName × Nat) := [(⟨"GoodsTreeModel", "notesOf", "(I)I"⟩, 27), (⟨"GoodsTreeModel", "isLink", "(IIJI)Z"⟩, 27), (⟨"GoodsTreeModel", "isOf", "(IJI)Z"⟩, 27), (⟨"GoodsTreeModel", "linksOf", "(IJI)I"⟩, 27), (⟨"GoodsTreeModel", "linksTo", "(IIJ)I"⟩, 27), (⟨"GoodsTreeModel", "pointsOf", "(I)I"⟩, 27), (⟨"GoodsTreeModel", "has", "(IJ)Z"⟩, 27)]
theorem lw_r3 : ∀ q ∈ lw_privs_3, lw_okq q := List.forall_mem_cons.mpr ⟨lw_p32, List.forall_mem_cons.mpr ⟨lw_p33, List.forall_mem_cons.mpr ⟨lw_p34, List.forall_mem_cons.mpr ⟨lw_p35, List.forall_mem_cons.mpr ⟨lw_p36, List.forall_mem_cons.mpr ⟨lw_p37, List.forall_mem_cons.mpr ⟨lw_p38, fun _ h => absurd h List.not_mem_nil⟩⟩⟩⟩⟩⟩⟩
def lw_privs : List (MethodName × Nat) := lw_privs_1 ++ (lw_privs_2 ++ (lw_privs_3))
def lw_tbl : List Cond := k2_sels lw_privs ++ tables_1
theorem lw_privs_ok : ∀ q ∈ lw_privs, lw_okq q := by
  show ∀ q ∈ lw_privs_1 ++ (lw_privs_2 ++ (lw_privs_3)), lw_okq q
  exact List.forall_mem_append.mpr ⟨lw_r1, List.forall_mem_append.mpr ⟨lw_r2, lw_r3⟩⟩
end
section
/-! what the tables and the statics say beside the words: calls of nest mates, the array of trees, what a throw needs -/
def x_St : List (Nat × String) := [(64, "the text is no nomenclature"), (93, "no such row"), (113, "no such what"), (125, "no such codes or kind for a note"), (136, "no room for the note, or it is there"), (145, "no code of the present edition"), (204, "no two editions"), (206, "no code of the edition"), (177, "the text is no words"), (189, "no such row found, or no such what")]
abbrev x_TN : String := "java/lang/Throwable"
abbrev x_UD : String := "[Ljava/lang/StackTraceElement;"
abbrev x_LD : String := "Ljava/util/List;"
/-- a static of Throwable that holds a reference or null, in a cell that isn't written -/
def x_Zs (n d : String) (A : Nat → Prop) (U : State) (H : Heap) : Prop := ∃ (cf : ClassId) (kf : Class) (fi : Nat) (f : Field) (a : Nat) (cell : Cell) (v : Value), U.vm.findClass x_TN = some cf ∧ U.fieldFound? x_TN n d = some (cf, kf, fi, f) ∧ f.isStatic = true ∧ kf.statics = some a ∧ H[a]? = some cell ∧ cell.vm.isStatics = true ∧ cell.cls = cf ∧ f.slot < cell.slots.size ∧ kf.staticTypes[f.slot]? = some f.type ∧ cell.slots[f.slot]? = some v ∧ (v = .null ∨ ∃ r, v = .ref r) ∧ ¬ A a
theorem x_Zs.step {n d : String} {A B : Nat → Prop} {s U : State} {H0 H : Heap} (h : x_Zs n d A s H0) (hal : s.vm.Alike U.vm) (hk : ∀ q : Nat, q < H0.size → ¬ A q → H[q]? = H0[q]?) (hB : ∀ q, B q → A q) : x_Zs n d B U H := by
  obtain ⟨cf, kf, fi, f, a, cell, v, h0, h1, h2, h3, h4, h5, h6, h7, h8, h9, h10, h11⟩ := h
  obtain ⟨k', hi', he⟩ := State.fieldFound?_setVm hal h1
  exact ⟨cf, k', fi, f, a, cell, v, by rw [hal.findClass]; exact h0, hi', h2, by rw [he]; exact h3, by rw [hk a (Array.getElem?_eq_some_iff.mp h4).1 h11]; exact h4, h5, h6, h7, by rw [he]; exact h8, h9, h10, fun z => h11 (hB a z)⟩
theorem x_Zs.lays {n d : String} {A : Nat → Prop} {U : State} (h : x_Zs n d A U U.heap) (args : Array Value) : (Cond.laysStatic x_TN n d).before args U = true := by
  obtain ⟨cf, kf, fi, f, a, cell, v, h0, h1, h2, h3, h4, h5, h6, h7, h8, h9, h10, h11⟩ := h
  simp [Cond.before, Cond.holds, Cond.value, h0, h1, h2, h3, h4, h5, h6, h7, h8]
theorem x_Zs.isRef {n d : String} {A : Nat → Prop} {U : State} (h : x_Zs n d A U U.heap) (args : Array Value) : (Cond.isRef (.static x_TN n d)).before args U = true := by
  obtain ⟨cf, kf, fi, f, a, cell, v, h0, h1, h2, h3, h4, h5, h6, h7, h8, h9, h10, h11⟩ := h
  have he : (Term.static x_TN n d).eval args U none [] U = some v := by
    simp [Term.eval, State.fieldNamed?, h1, h2, h3, h4, h5, h9]
  rcases h10 with rfl | ⟨r, rfl⟩ <;> simp [Cond.before, Cond.holds, Cond.value, he]
theorem x_Zs.of {n d : String} {A : Nat → Prop} {args : Array Value} {s : State} (hl : (Cond.laysStatic x_TN n d).before args s = true) (hr : (Cond.isRef (.static x_TN n d)).before args s = true) (hA : ∀ a : Nat, a < s.heap.size → ¬ A a) : x_Zs n d A s s.heap := by
  obtain ⟨c, k, i, f, a, cell, hc, hi, hst, ha, hcell, hs, hcls, hlt, hty⟩ := Cond.laysStatic_spec hl
  cases hv : (Term.static x_TN n d).eval args s none [] s with
  | none => simp [Cond.before, Cond.holds, Cond.value, hv] at hr
  | some v =>
    obtain ⟨hst', a', cell', ha', hcell', -, hslot⟩ := Term.static_spec hi hv
    cases ha.symm.trans ha'
    cases hcell.symm.trans hcell'
    refine ⟨c, k, i, f, a, cell, v, hc, hi, hst, ha, hcell, hs, hcls, hlt, hty, hslot, ?_, hA a (Array.getElem?_eq_some_iff.mp hcell).1⟩
    cases v <;> first | exact Or.inl rfl | exact Or.inr ⟨_, rfl⟩ | (simp [Cond.before, Cond.holds, Cond.value, hv] at hr)
def x_E (A : Nat → Prop) (U : State) (H : Heap) : Prop :=
  (va_Nw (Jvm.Cond.methodLinkNest "GoodsTree" (9 : Nat) ({ cls := "GoodsTree$TextReader", name := "<init>", desc := "()V" } : Jvm.MethodName) "GoodsTree") U ∧ va_Nw (Jvm.Cond.methodLinkNest "GoodsTree" (36 : Nat) ({ cls := "GoodsTree$Findings", name := "<init>", desc := "()V" } : Jvm.MethodName) "GoodsTree") U ∧ va_Nw (Jvm.Cond.methodLinkNest "GoodsTree" (41 : Nat) ({ cls := "GoodsTree$Tree", name := "<init>", desc := "()V" } : Jvm.MethodName) "GoodsTree") U ∧ va_Nw (Jvm.Cond.castable "java/lang/IllegalStateException" "java/lang/IllegalStateException") U ∧ va_Nw (Jvm.Cond.castable "java/lang/IndexOutOfBoundsException" "java/lang/IndexOutOfBoundsException") U ∧ va_Nw (Jvm.Cond.castable "java/lang/IllegalArgumentException" "java/lang/IllegalArgumentException") U ∧ va_Nw (Jvm.Cond.declares ({ cls := "java/lang/RuntimeException", name := "<init>", desc := "()V" } : Jvm.MethodName)) U ∧ va_Nw (Jvm.Cond.declares ({ cls := "java/lang/RuntimeException", name := "<init>", desc := "(Ljava/lang/String;)V" } : Jvm.MethodName)) U ∧ va_Nw (Jvm.Cond.declares ({ cls := "java/lang/Exception", name := "<init>", desc := "()V" } : Jvm.MethodName)) U ∧ va_Nw (Jvm.Cond.declares ({ cls := "java/lang/Exception", name := "<init>", desc := "(Ljava/lang/String;)V" } : Jvm.MethodName)) U ∧ va_Nw (Jvm.Cond.declares ({ cls := "java/lang/Throwable", name := "<init>", desc := "()V" } : Jvm.MethodName)) U ∧ va_Nw (Jvm.Cond.declares ({ cls := "java/lang/Throwable", name := "<init>", desc := "(Ljava/lang/String;)V" } : Jvm.MethodName)) U) ∧ va_AO "GoodsTree$Tree" U ∧ (∀ q ∈ x_St, ∃ a, vk_R "GoodsTree" q.1 q.2 a U) ∧ x_Zs "UNASSIGNED_STACK" x_UD A U H ∧ x_Zs "SUPPRESSED_SENTINEL" x_LD A U H
theorem x_E.step {A B : Nat → Prop} {s U : State} {H0 H : Heap} (h : x_E A s H0) (hW : s.WarmedH U.vm) (hk : ∀ q : Nat, q < H0.size → ¬ A q → H[q]? = H0[q]?) (hB : ∀ q, B q → A q) : x_E B U H := by
  obtain ⟨⟨h0, h1, h2, h3, h4, h5, h6, h7, h8, h9, h10, h11⟩, ha, hs, z1, z2⟩ := h
  exact ⟨⟨va_Nw.warmM hW h0, va_Nw.warmM hW h1, va_Nw.warmM hW h2, va_Nw.warmC hW h3, va_Nw.warmC hW h4, va_Nw.warmC hW h5, va_Nw.warmD hW h6, va_Nw.warmD hW h7, va_Nw.warmD hW h8, va_Nw.warmD hW h9, va_Nw.warmD hW h10, va_Nw.warmD hW h11⟩, va_AO.moved hW.alike ha, fun q hq => by obtain ⟨a, h⟩ := hs q hq; exact ⟨a, h.warm hW⟩, z1.step hW.alike hk hB, z2.step hW.alike hk hB⟩
theorem x_E.same {A : Nat → Prop} {s U : State} {H : Heap} (h : x_E A s H) (hv : U.vm = s.vm) : x_E A U H := by
  obtain ⟨⟨h0, h1, h2, h3, h4, h5, h6, h7, h8, h9, h10, h11⟩, ha, hs, z1, z2⟩ := h
  have hal : s.vm.Alike U.vm := by rw [hv]; exact Vm.Alike.refl s.vm
  exact ⟨⟨va_Nw.same rfl hv.symm h0, va_Nw.same rfl hv.symm h1, va_Nw.same rfl hv.symm h2, va_Nw.same rfl hv.symm h3, va_Nw.same rfl hv.symm h4, va_Nw.same rfl hv.symm h5, va_Nw.same rfl hv.symm h6, va_Nw.same rfl hv.symm h7, va_Nw.same rfl hv.symm h8, va_Nw.same rfl hv.symm h9, va_Nw.same rfl hv.symm h10, va_Nw.same rfl hv.symm h11⟩, va_AO.moved hal ha, fun q hq => by obtain ⟨a, h⟩ := hs q hq; exact ⟨a, vk_R.same hv h⟩, z1.step hal (fun _ _ _ => rfl) (fun _ h => h), z2.step hal (fun _ _ _ => rfl) (fun _ h => h)⟩
end
section
/-! THE V-KIT: the machine over one world M: what lies at which address (an array's entry has its type instead of its class's number); nx: how many cells there are. -/
abbrev xE : Type := (FieldType × vp_A) ⊕ (Nat × List Value)
abbrev xH : Type := Nat → Option xE
def x_up (M : xH) (a : Nat) (e : xE) : xH := fun b => if b = a then some e else M b
theorem x_up_s {M : xH} {a : Nat} {e : xE} : x_up M a e a = some e := if_pos rfl
theorem x_up_n {M : xH} {a b : Nat} {e : xE} (h : b ≠ a) : x_up M a e b = M b := if_neg h
theorem x_up_k {M : xH} {a b : Nat} {e f : xE} (hM : M b = some f) (h : b ≠ a) : x_up M a e b = some f := (x_up_n h).trans hM
def x_at (D : va_G) (cl : List vw_C) (U : State) (H : Heap) (a : Nat) (e : xE) : Prop := match e with
  | .inl q => ∃ cA : ClassId, (ArrOfT U cA q.1 ∧ va_RA U cA q.1) ∧ H[a]? = some (vp_cell cA q.2)
  | .inr o => va_at D cl (a, .inr o) H
theorem x_at.kept {D : va_G} {cl : List vw_C} {U : State} {H H1 : Heap} {a : Nat} {e : xE} (h : x_at D cl U H a e) (hq : H1[a]? = H[a]?) : x_at D cl U H1 a e := by
  cases e with
  | inl q =>
    obtain ⟨cA, h1, h2⟩ := h
    exact ⟨cA, h1, hq.trans h2⟩
  | inr o => exact va_at.kept (q := (a, .inr o)) h hq
theorem x_at.lt {D : va_G} {cl : List vw_C} {U : State} {H : Heap} {a : Nat} {e : xE} (h : x_at D cl U H a e) : a < H.size := by
  cases e with
  | inl q =>
    obtain ⟨cA, h1, h2⟩ := h
    exact (Array.getElem?_eq_some_iff.mp h2).1
  | inr o => exact va_at.lt (q := (a, .inr o)) h
theorem x_at.moved {D : va_G} {cl : List vw_C} {u U : State} (hvm : u.vm.Alike U.vm) {H : Heap} {a : Nat} {e : xE} (h : x_at D cl u H a e) : x_at D cl U H a e := by
  cases e with
  | inl q =>
    obtain ⟨cA, h1, h2⟩ := h
    exact ⟨cA, ⟨arrOfT_moved hvm h1.1, h1.2.moved hvm⟩, h2⟩
  | inr o => exact h
def x_R (D : va_G) (cl : List vw_C) (U : State) (A : Nat → Prop) (M : xH) (H : Heap) : Prop :=
  ∀ (a : Nat) (e : xE), M a = some e → x_at D cl U H a e ∧ A a
theorem x_R.set {D : va_G} {cl : List vw_C} {U : State} {A : Nat → Prop} {M : xH} {H H1 : Heap} (h : x_R D cl U A M H) {a : Nat} {e : xE} (hA : A a) (h1 : x_at D cl U H1 a e) (oq : ∀ q : Nat, q ≠ a → H1[q]? = H[q]?) : x_R D cl U A (x_up M a e) H1 := by
  intro b f hb
  by_cases hab : b = a
  · subst hab
    rw [x_up_s] at hb
    cases hb
    exact ⟨h1, hA⟩
  · rw [x_up_n hab] at hb
    exact ⟨(h b f hb).1.kept (oq b hab), (h b f hb).2⟩
theorem x_R.new {D : va_G} {cl : List vw_C} {U : State} {A : Nat → Prop} {M : xH} {H H1 : Heap} (h : x_R D cl U A M H) {e : xE} (hA : A H.size) (h1 : x_at D cl U H1 H.size e) (oq : ∀ q : Nat, q < H.size → H1[q]? = H[q]?) : x_R D cl U A (x_up M H.size e) H1 := by
  intro b f hb
  by_cases hab : b = H.size
  · subst hab
    rw [x_up_s] at hb
    cases hb
    exact ⟨h1, hA⟩
  · rw [x_up_n hab] at hb
    exact ⟨(h b f hb).1.kept (oq b ((h b f hb).1.lt)), (h b f hb).2⟩
theorem x_R.moved {D : va_G} {cl : List vw_C} {u U : State} (hvm : u.vm.Alike U.vm) {A : Nat → Prop} {M : xH} {H : Heap} (h : x_R D cl u A M H) : x_R D cl U A M H := fun a e ha => ⟨(h a e ha).1.moved hvm, (h a e ha).2⟩
theorem x_R.weaken {D : va_G} {cl : List vw_C} {U : State} {A B : Nat → Prop} {M : xH} {H : Heap} (h : x_R D cl U A M H) (hB : ∀ a e, M a = some e → A a → B a) : x_R D cl U B M H := fun a e ha => ⟨(h a e ha).1, hB a e ha (h a e ha).2⟩
/-- which cells a method may write: its world's, and those that it makes -/
def x_A (M : xH) (nx : Nat) : Nat → Prop := fun q => (∃ e : xE, M q = some e) ∨ nx ≤ q
theorem x_one {D : va_G} {cl : List vw_C} {q : Nat × va_E} {H : Heap} (h : va_at D cl q H) : va_P D cl [q] H := fun k q' hk => by
  cases k with
  | zero => cases hk; exact h
  | succ k => simp at hk
theorem x_K1 {D : va_G} {cl : List vw_C} {U : State} (hK : va_K D cl [] U) {cA : ClassId} {ty : FieldType} (h : ArrOfT U cA ty ∧ va_RA U cA ty) : va_K D cl [(cA, ty)] U := ⟨hK.1, fun k q hk => by
  cases k with
  | zero => cases hk; exact h
  | succ k => simp at hk⟩
def xF (p : Program) (s : State) (m : MethodId) (args : Array Value) (meth : Method) (c : Code) (D : va_G) (cl : List vw_C) (A : Nat → Prop) (cc : ByteArray) (nL : Nat) (own : String) (Ts : List Cond) : Prop :=
  CallFix p m c cc nL s args Ts own ∧ va_K D cl [] s ∧ (∀ q : Nat, s.heap.size ≤ q → A q) ∧ meth.locks = false ∧ x_E A s s.heap
def xW (p : Program) (l : Launch) (e : Env) (R : Room) (s : State) (m : MethodId) (args : Array Value) (below : List Frame) (meth : Method) (c : Code) (D : va_G) (cl : List vw_C) (A : Nat → Prop) (nL : Nat) (Q : State → Prop) (cells slots nx : Nat) (M : xH) (pc : Nat) (lv : List (Nat × Value)) (st : List Value) : Prop :=
  ∀ (H : Heap) (locs : List Loc) (ls : Array Slot), H.size = nx → va_S A s.heap H locs → x_R D cl s A M H → lv_has ls nL lv → W p l e R s m args below meth c H locs cells slots Q (F0 m pc ls st)
end
section
section XW
variable {p : Program} {l : Launch} {e : Env} {R : Room} {s : State} {m : MethodId} {args : Array Value} {below : List Frame} {meth : Method} {c : Code} {D : va_G} {cl : List vw_C} {A : Nat → Prop} {nL : Nat} {Q : State → Prop} {cells slots nx : Nat} {M : xH} {pc : Nat} {lv : List (Nat × Value)} {st : List Value}
variable {cc : ByteArray} {own : String} {Ts : List Cond}
theorem xW.widen {k n : Nat} (h1 : cells ≤ k) (h2 : slots ≤ n) (kk : xW p l e R s m args below meth c D cl A nL Q k n nx M pc lv st) : xW p l e R s m args below meth c D cl A nL Q cells slots nx M pc lv st :=
  fun H locs ls hz hS hR hl => W.widen h1 h2 (kk H locs ls hz hS hR hl)
theorem xW.sub {lv' : List (Nat × Value)} (ks : List Nat) (hk : lv_pick lv ks = lv') (k : xW p l e R s m args below meth c D cl A nL Q cells slots nx M pc lv' st) : xW p l e R s m args below meth c D cl A nL Q cells slots nx M pc lv st :=
  fun H locs ls hz hS hR hl => k H locs ls hz hS hR (lv_sub hl ks hk)
theorem xW.topi {x : Int32} (k : ∀ y : Int32, y = x → xW p l e R s m args below meth c D cl A nL Q cells slots nx M pc lv (.int y :: st)) : xW p l e R s m args below meth c D cl A nL Q cells slots nx M pc lv (.int x :: st) := k x rfl
theorem xW.topl {x : Int64} (k : ∀ y : Int64, y = x → xW p l e R s m args below meth c D cl A nL Q cells slots nx M pc lv (.long y :: st)) : xW p l e R s m args below meth c D cl A nL Q cells slots nx M pc lv (.long x :: st) := k x rfl
theorem xW.toi {x : Int32} (y : Int32) (h : x = y) (k : xW p l e R s m args below meth c D cl A nL Q cells slots nx M pc lv (.int y :: st)) : xW p l e R s m args below meth c D cl A nL Q cells slots nx M pc lv (.int x :: st) := h ▸ k
theorem xW.tol {x : Int64} (y : Int64) (h : x = y) (k : xW p l e R s m args below meth c D cl A nL Q cells slots nx M pc lv (.long y :: st)) : xW p l e R s m args below meth c D cl A nL Q cells slots nx M pc lv (.long x :: st) := h ▸ k
theorem x_iconst (F : xF p s m args meth c D cl A cc nL own Ts) {n : Int} {v : Int32} (hdg : decode cc pc = .ok (.iconst n, 1)) (hv : Int32.ofInt n = v) (k : xW p l e R s m args below meth c D cl A nL Q cells slots nx M (pc + 1) lv (.int v :: st)) : xW p l e R s m args below meth c D cl A nL Q cells slots nx M pc lv (st) :=
  fun H locs ls hz hS hR hl => lv_iconst F.1.1 F.1.2.1 hdg hv (k H locs ls hz hS hR hl)
theorem x_bipush (F : xF p s m args meth c D cl A cc nL own Ts) {n : Int} {v : Int32} (hdg : decode cc pc = .ok (.bipush n, 2)) (hv : (Int8.ofInt n).toInt32 = v) (k : xW p l e R s m args below meth c D cl A nL Q cells slots nx M (pc + 2) lv (.int v :: st)) : xW p l e R s m args below meth c D cl A nL Q cells slots nx M pc lv (st) :=
  fun H locs ls hz hS hR hl => lv_bipush F.1.1 F.1.2.1 hdg hv (k H locs ls hz hS hR hl)
theorem x_sipush (F : xF p s m args meth c D cl A cc nL own Ts) {n : Int} {v : Int32} (hdg : decode cc pc = .ok (.sipush n, 3)) (hv : (Int16.ofInt n).toInt32 = v) (k : xW p l e R s m args below meth c D cl A nL Q cells slots nx M (pc + 3) lv (.int v :: st)) : xW p l e R s m args below meth c D cl A nL Q cells slots nx M pc lv (st) :=
  fun H locs ls hz hS hR hl => lv_sipush F.1.1 F.1.2.1 hdg hv (k H locs ls hz hS hR hl)
theorem x_lconst (F : xF p s m args meth c D cl A cc nL own Ts) {n : Fin 2} {v : Int64} (hdg : decode cc pc = .ok (.lconst n, 1)) (hv : Int64.ofNat (n : Nat) = v) (k : xW p l e R s m args below meth c D cl A nL Q cells slots nx M (pc + 1) lv (.long v :: st)) : xW p l e R s m args below meth c D cl A nL Q cells slots nx M pc lv (st) :=
  fun H locs ls hz hS hR hl => lv_lconst F.1.1 F.1.2.1 hdg hv (k H locs ls hz hS hR hl)
theorem x_null (F : xF p s m args meth c D cl A cc nL own Ts)  (hdg : decode cc pc = .ok (.aconst_null, 1)) (k : xW p l e R s m args below meth c D cl A nL Q cells slots nx M (pc + 1) lv (.null :: st)) : xW p l e R s m args below meth c D cl A nL Q cells slots nx M pc lv (st) :=
  fun H locs ls hz hS hR hl => lv_null F.1.1 F.1.2.1 hdg (k H locs ls hz hS hR hl)
theorem x_ldc (F : xF p s m args meth c D cl A cc nL own Ts) {index : Nat} {v : Int32} (hc : Jvm.Cond.constant own index v ∈ Ts) (hdg : decode cc pc = .ok (.ldc index, 2)) (k : xW p l e R s m args below meth c D cl A nL Q cells slots nx M (pc + 2) lv (.int v :: st)) : xW p l e R s m args below meth c D cl A nL Q cells slots nx M pc lv (st) :=
  fun H locs ls hz hS hR hl => lv_ldc F.1.1 F.1.2.1 F.1.2.2.2.1 (F.1.2.2.2.2 _ hc) hdg (k H locs ls hz hS hR hl)
theorem x_ldc2 (F : xF p s m args meth c D cl A cc nL own Ts) {index : Nat} {v : Int64} (hc : Jvm.Cond.constantLong own index v ∈ Ts) (hdg : decode cc pc = .ok (.ldc2_w index, 3)) (k : xW p l e R s m args below meth c D cl A nL Q cells slots nx M (pc + 3) lv (.long v :: st)) : xW p l e R s m args below meth c D cl A nL Q cells slots nx M pc lv (st) :=
  fun H locs ls hz hS hR hl => lv_ldc2 F.1.1 F.1.2.1 F.1.2.2.2.1 (F.1.2.2.2.2 _ hc) hdg (k H locs ls hz hS hR hl)
theorem x_iload_n (F : xF p s m args meth c D cl A cc nL own Ts) {j : Fin 4} {i : Nat} {x : Int32} (q : Nat) (hdg : decode cc pc = .ok (.iload_n j, 1)) (hi : (j : Nat) = i) (hq : lv[q]? = some (i, .int x)) (k : xW p l e R s m args below meth c D cl A nL Q cells slots nx M (pc + 1) lv (.int x :: st)) : xW p l e R s m args below meth c D cl A nL Q cells slots nx M pc lv (st) :=
  fun H locs ls hz hS hR hl => lv_iload_n F.1.1 F.1.2.1 hdg hi (lv_at hl q hq) (k H locs ls hz hS hR hl)
theorem x_iload (F : xF p s m args meth c D cl A cc nL own Ts) {i : Nat} {x : Int32} (q : Nat) (hdg : decode cc pc = .ok (.iload i, 2)) (hq : lv[q]? = some (i, .int x)) (k : xW p l e R s m args below meth c D cl A nL Q cells slots nx M (pc + 2) lv (.int x :: st)) : xW p l e R s m args below meth c D cl A nL Q cells slots nx M pc lv (st) :=
  fun H locs ls hz hS hR hl => lv_iload F.1.1 F.1.2.1 hdg (lv_at hl q hq) (k H locs ls hz hS hR hl)
theorem x_istore_n (F : xF p s m args meth c D cl A cc nL own Ts) {j : Fin 4} {i : Nat} {x : Int32} (lv' : List (Nat × Value)) (hdg : decode cc pc = .ok (.istore_n j, 1)) (hi : (j : Nat) = i) (hn : i < nL) (hl' : (i, Value.int x) :: lv.filter (fun q => !(q.1 == i) && !(q.1 + 1 == i && q.2.category == 2)) = lv') (k : xW p l e R s m args below meth c D cl A nL Q cells slots nx M (pc + 1) lv' st) : xW p l e R s m args below meth c D cl A nL Q cells slots nx M pc lv (.int x :: st) :=
  fun H locs ls hz hS hR hl => lv_istore_n F.1.1 F.1.2.1 hdg hi hl hn hl' (fun ls' h' => k H locs ls' hz hS hR h')
theorem x_istore (F : xF p s m args meth c D cl A cc nL own Ts) {i : Nat} {x : Int32} (lv' : List (Nat × Value)) (hdg : decode cc pc = .ok (.istore i, 2)) (hn : i < nL) (hl' : (i, Value.int x) :: lv.filter (fun q => !(q.1 == i) && !(q.1 + 1 == i && q.2.category == 2)) = lv') (k : xW p l e R s m args below meth c D cl A nL Q cells slots nx M (pc + 2) lv' st) : xW p l e R s m args below meth c D cl A nL Q cells slots nx M pc lv (.int x :: st) :=
  fun H locs ls hz hS hR hl => lv_istore F.1.1 F.1.2.1 hdg hl hn hl' (fun ls' h' => k H locs ls' hz hS hR h')
theorem x_lload_n (F : xF p s m args meth c D cl A cc nL own Ts) {j : Fin 4} {i : Nat} {x : Int64} (q : Nat) (hdg : decode cc pc = .ok (.lload_n j, 1)) (hi : (j : Nat) = i) (hq : lv[q]? = some (i, .long x)) (k : xW p l e R s m args below meth c D cl A nL Q cells slots nx M (pc + 1) lv (.long x :: st)) : xW p l e R s m args below meth c D cl A nL Q cells slots nx M pc lv (st) :=
  fun H locs ls hz hS hR hl => lv_lload_n F.1.1 F.1.2.1 hdg hi (lv_at hl q hq) (k H locs ls hz hS hR hl)
theorem x_lload (F : xF p s m args meth c D cl A cc nL own Ts) {i : Nat} {x : Int64} (q : Nat) (hdg : decode cc pc = .ok (.lload i, 2)) (hq : lv[q]? = some (i, .long x)) (k : xW p l e R s m args below meth c D cl A nL Q cells slots nx M (pc + 2) lv (.long x :: st)) : xW p l e R s m args below meth c D cl A nL Q cells slots nx M pc lv (st) :=
  fun H locs ls hz hS hR hl => lv_lload F.1.1 F.1.2.1 hdg (lv_at hl q hq) (k H locs ls hz hS hR hl)
theorem x_lstore_n (F : xF p s m args meth c D cl A cc nL own Ts) {j : Fin 4} {i : Nat} {x : Int64} (lv' : List (Nat × Value)) (hdg : decode cc pc = .ok (.lstore_n j, 1)) (hi : (j : Nat) = i) (hn : i + 1 < nL) (hl' : (i, Value.long x) :: lv.filter (fun q => !(q.1 == i) && (!(q.1 == i + 1) && !(q.1 + 1 == i && q.2.category == 2))) = lv') (k : xW p l e R s m args below meth c D cl A nL Q cells slots nx M (pc + 1) lv' st) : xW p l e R s m args below meth c D cl A nL Q cells slots nx M pc lv (.long x :: st) :=
  fun H locs ls hz hS hR hl => lv_lstore_n F.1.1 F.1.2.1 hdg hi hl hn hl' (fun ls' h' => k H locs ls' hz hS hR h')
theorem x_lstore (F : xF p s m args meth c D cl A cc nL own Ts) {i : Nat} {x : Int64} (lv' : List (Nat × Value)) (hdg : decode cc pc = .ok (.lstore i, 2)) (hn : i + 1 < nL) (hl' : (i, Value.long x) :: lv.filter (fun q => !(q.1 == i) && (!(q.1 == i + 1) && !(q.1 + 1 == i && q.2.category == 2))) = lv') (k : xW p l e R s m args below meth c D cl A nL Q cells slots nx M (pc + 2) lv' st) : xW p l e R s m args below meth c D cl A nL Q cells slots nx M pc lv (.long x :: st) :=
  fun H locs ls hz hS hR hl => lv_lstore F.1.1 F.1.2.1 hdg hl hn hl' (fun ls' h' => k H locs ls' hz hS hR h')
theorem x_aload_n (F : xF p s m args meth c D cl A cc nL own Ts) {j : Fin 4} {i : Nat} {x : Nat} (q : Nat) (hdg : decode cc pc = .ok (.aload_n j, 1)) (hi : (j : Nat) = i) (hq : lv[q]? = some (i, .ref x)) (k : xW p l e R s m args below meth c D cl A nL Q cells slots nx M (pc + 1) lv (.ref x :: st)) : xW p l e R s m args below meth c D cl A nL Q cells slots nx M pc lv (st) :=
  fun H locs ls hz hS hR hl => lv_aload_n F.1.1 F.1.2.1 hdg hi (lv_at hl q hq) (k H locs ls hz hS hR hl)
theorem x_aload (F : xF p s m args meth c D cl A cc nL own Ts) {i : Nat} {x : Nat} (q : Nat) (hdg : decode cc pc = .ok (.aload i, 2)) (hq : lv[q]? = some (i, .ref x)) (k : xW p l e R s m args below meth c D cl A nL Q cells slots nx M (pc + 2) lv (.ref x :: st)) : xW p l e R s m args below meth c D cl A nL Q cells slots nx M pc lv (st) :=
  fun H locs ls hz hS hR hl => lv_aload F.1.1 F.1.2.1 hdg (lv_at hl q hq) (k H locs ls hz hS hR hl)
theorem x_astore_n (F : xF p s m args meth c D cl A cc nL own Ts) {j : Fin 4} {i : Nat} {x : Nat} (lv' : List (Nat × Value)) (hdg : decode cc pc = .ok (.astore_n j, 1)) (hi : (j : Nat) = i) (hn : i < nL) (hl' : (i, Value.ref x) :: lv.filter (fun q => !(q.1 == i) && !(q.1 + 1 == i && q.2.category == 2)) = lv') (k : xW p l e R s m args below meth c D cl A nL Q cells slots nx M (pc + 1) lv' st) : xW p l e R s m args below meth c D cl A nL Q cells slots nx M pc lv (.ref x :: st) :=
  fun H locs ls hz hS hR hl => lv_astore_n F.1.1 F.1.2.1 hdg hi hl hn hl' (fun ls' h' => k H locs ls' hz hS hR h')
theorem x_astore (F : xF p s m args meth c D cl A cc nL own Ts) {i : Nat} {x : Nat} (lv' : List (Nat × Value)) (hdg : decode cc pc = .ok (.astore i, 2)) (hn : i < nL) (hl' : (i, Value.ref x) :: lv.filter (fun q => !(q.1 == i) && !(q.1 + 1 == i && q.2.category == 2)) = lv') (k : xW p l e R s m args below meth c D cl A nL Q cells slots nx M (pc + 2) lv' st) : xW p l e R s m args below meth c D cl A nL Q cells slots nx M pc lv (.ref x :: st) :=
  fun H locs ls hz hS hR hl => lv_astore F.1.1 F.1.2.1 hdg hl hn hl' (fun ls' h' => k H locs ls' hz hS hR h')
theorem x_iinc (F : xF p s m args meth c D cl A cc nL own Ts) {i : Nat} {n : Int} {x v : Int32} (q : Nat) (lv' : List (Nat × Value)) (hdg : decode cc pc = .ok (.iinc i n, 3)) (hq : lv[q]? = some (i, .int x)) (hv : x + Int32.ofInt n = v) (hn : i < nL) (hl' : (i, Value.int v) :: lv.filter (fun q => !(q.1 == i) && !(q.1 + 1 == i && q.2.category == 2)) = lv') (k : xW p l e R s m args below meth c D cl A nL Q cells slots nx M (pc + 3) lv' st) : xW p l e R s m args below meth c D cl A nL Q cells slots nx M pc lv st :=
  fun H locs ls hz hS hR hl => lv_iinc F.1.1 F.1.2.1 hdg hl (k := q) hq hv hn hl' (fun ls' h' => k H locs ls' hz hS hR h')
theorem x_iadd (F : xF p s m args meth c D cl A cc nL own Ts) {x y : Int32} (hdg : decode cc pc = .ok (.iadd, 1))  (k : xW p l e R s m args below meth c D cl A nL Q cells slots nx M (pc + 1) lv (.int (x + y) :: st)) : xW p l e R s m args below meth c D cl A nL Q cells slots nx M pc lv (.int y :: .int x :: st) :=
  fun H locs ls hz hS hR hl => lv_iadd F.1.1 F.1.2.1 hdg (k H locs ls hz hS hR hl)
theorem x_isub (F : xF p s m args meth c D cl A cc nL own Ts) {x y : Int32} (hdg : decode cc pc = .ok (.isub, 1))  (k : xW p l e R s m args below meth c D cl A nL Q cells slots nx M (pc + 1) lv (.int (x - y) :: st)) : xW p l e R s m args below meth c D cl A nL Q cells slots nx M pc lv (.int y :: .int x :: st) :=
  fun H locs ls hz hS hR hl => lv_isub F.1.1 F.1.2.1 hdg (k H locs ls hz hS hR hl)
theorem x_imul (F : xF p s m args meth c D cl A cc nL own Ts) {x y : Int32} (hdg : decode cc pc = .ok (.imul, 1))  (k : xW p l e R s m args below meth c D cl A nL Q cells slots nx M (pc + 1) lv (.int (x * y) :: st)) : xW p l e R s m args below meth c D cl A nL Q cells slots nx M pc lv (.int y :: .int x :: st) :=
  fun H locs ls hz hS hR hl => lv_imul F.1.1 F.1.2.1 hdg (k H locs ls hz hS hR hl)
theorem x_iand (F : xF p s m args meth c D cl A cc nL own Ts) {x y : Int32} (hdg : decode cc pc = .ok (.iand, 1))  (k : xW p l e R s m args below meth c D cl A nL Q cells slots nx M (pc + 1) lv (.int (x &&& y) :: st)) : xW p l e R s m args below meth c D cl A nL Q cells slots nx M pc lv (.int y :: .int x :: st) :=
  fun H locs ls hz hS hR hl => lv_iand F.1.1 F.1.2.1 hdg (k H locs ls hz hS hR hl)
theorem x_ior (F : xF p s m args meth c D cl A cc nL own Ts) {x y : Int32} (hdg : decode cc pc = .ok (.ior, 1))  (k : xW p l e R s m args below meth c D cl A nL Q cells slots nx M (pc + 1) lv (.int (x ||| y) :: st)) : xW p l e R s m args below meth c D cl A nL Q cells slots nx M pc lv (.int y :: .int x :: st) :=
  fun H locs ls hz hS hR hl => lv_ior F.1.1 F.1.2.1 hdg (k H locs ls hz hS hR hl)
theorem x_ixor (F : xF p s m args meth c D cl A cc nL own Ts) {x y : Int32} (hdg : decode cc pc = .ok (.ixor, 1))  (k : xW p l e R s m args below meth c D cl A nL Q cells slots nx M (pc + 1) lv (.int (x ^^^ y) :: st)) : xW p l e R s m args below meth c D cl A nL Q cells slots nx M pc lv (.int y :: .int x :: st) :=
  fun H locs ls hz hS hR hl => lv_ixor F.1.1 F.1.2.1 hdg (k H locs ls hz hS hR hl)
theorem x_idiv (F : xF p s m args meth c D cl A cc nL own Ts) {x y : Int32} (hdg : decode cc pc = .ok (.idiv, 1)) (hne : ¬ y = 0)  (k : xW p l e R s m args below meth c D cl A nL Q cells slots nx M (pc + 1) lv (.int (x / y) :: st)) : xW p l e R s m args below meth c D cl A nL Q cells slots nx M pc lv (.int y :: .int x :: st) :=
  fun H locs ls hz hS hR hl => lv_idiv F.1.1 F.1.2.1 hdg hne (k H locs ls hz hS hR hl)
theorem x_irem (F : xF p s m args meth c D cl A cc nL own Ts) {x y : Int32} (hdg : decode cc pc = .ok (.irem, 1)) (hne : ¬ y = 0)  (k : xW p l e R s m args below meth c D cl A nL Q cells slots nx M (pc + 1) lv (.int (x - x / y * y) :: st)) : xW p l e R s m args below meth c D cl A nL Q cells slots nx M pc lv (.int y :: .int x :: st) :=
  fun H locs ls hz hS hR hl => lv_irem F.1.1 F.1.2.1 hdg hne (k H locs ls hz hS hR hl)
theorem x_ineg (F : xF p s m args meth c D cl A cc nL own Ts) {x : Int32} (hdg : decode cc pc = .ok (.ineg, 1)) (k : xW p l e R s m args below meth c D cl A nL Q cells slots nx M (pc + 1) lv (.int (-x) :: st)) : xW p l e R s m args below meth c D cl A nL Q cells slots nx M pc lv (.int x :: st) :=
  fun H locs ls hz hS hR hl => lv_ineg F.1.1 F.1.2.1 hdg (k H locs ls hz hS hR hl)
theorem x_ladd (F : xF p s m args meth c D cl A cc nL own Ts) {x y : Int64} (hdg : decode cc pc = .ok (.ladd, 1))  (k : xW p l e R s m args below meth c D cl A nL Q cells slots nx M (pc + 1) lv (.long (x + y) :: st)) : xW p l e R s m args below meth c D cl A nL Q cells slots nx M pc lv (.long y :: .long x :: st) :=
  fun H locs ls hz hS hR hl => lv_ladd F.1.1 F.1.2.1 hdg (k H locs ls hz hS hR hl)
theorem x_lsub (F : xF p s m args meth c D cl A cc nL own Ts) {x y : Int64} (hdg : decode cc pc = .ok (.lsub, 1))  (k : xW p l e R s m args below meth c D cl A nL Q cells slots nx M (pc + 1) lv (.long (x - y) :: st)) : xW p l e R s m args below meth c D cl A nL Q cells slots nx M pc lv (.long y :: .long x :: st) :=
  fun H locs ls hz hS hR hl => lv_lsub F.1.1 F.1.2.1 hdg (k H locs ls hz hS hR hl)
theorem x_lmul (F : xF p s m args meth c D cl A cc nL own Ts) {x y : Int64} (hdg : decode cc pc = .ok (.lmul, 1))  (k : xW p l e R s m args below meth c D cl A nL Q cells slots nx M (pc + 1) lv (.long (x * y) :: st)) : xW p l e R s m args below meth c D cl A nL Q cells slots nx M pc lv (.long y :: .long x :: st) :=
  fun H locs ls hz hS hR hl => lv_lmul F.1.1 F.1.2.1 hdg (k H locs ls hz hS hR hl)
theorem x_ldiv (F : xF p s m args meth c D cl A cc nL own Ts) {x y : Int64} (hdg : decode cc pc = .ok (.ldiv, 1)) (hne : ¬ y = 0)  (k : xW p l e R s m args below meth c D cl A nL Q cells slots nx M (pc + 1) lv (.long (x / y) :: st)) : xW p l e R s m args below meth c D cl A nL Q cells slots nx M pc lv (.long y :: .long x :: st) :=
  fun H locs ls hz hS hR hl => lv_ldiv F.1.1 F.1.2.1 hdg hne (k H locs ls hz hS hR hl)
theorem x_lrem (F : xF p s m args meth c D cl A cc nL own Ts) {x y : Int64} (hdg : decode cc pc = .ok (.lrem, 1)) (hne : ¬ y = 0)  (k : xW p l e R s m args below meth c D cl A nL Q cells slots nx M (pc + 1) lv (.long (x - x / y * y) :: st)) : xW p l e R s m args below meth c D cl A nL Q cells slots nx M pc lv (.long y :: .long x :: st) :=
  fun H locs ls hz hS hR hl => lv_lrem F.1.1 F.1.2.1 hdg hne (k H locs ls hz hS hR hl)
theorem x_lcmp (F : xF p s m args meth c D cl A cc nL own Ts) {x y : Int64} (hdg : decode cc pc = .ok (.lcmp, 1)) (k : xW p l e R s m args below meth c D cl A nL Q cells slots nx M (pc + 1) lv (.int (lg_cmp x y) :: st)) : xW p l e R s m args below meth c D cl A nL Q cells slots nx M pc lv (.long y :: .long x :: st) :=
  fun H locs ls hz hS hR hl => W.lcmp F.1.1 F.1.2.1 hdg (k H locs ls hz hS hR hl)
theorem x_i2l (F : xF p s m args meth c D cl A cc nL own Ts) {x : Int32} (hdg : decode cc pc = .ok (.i2l, 1)) (k : xW p l e R s m args below meth c D cl A nL Q cells slots nx M (pc + 1) lv (.long x.toInt64 :: st)) : xW p l e R s m args below meth c D cl A nL Q cells slots nx M pc lv (.int x :: st) :=
  fun H locs ls hz hS hR hl => lv_i2l F.1.1 F.1.2.1 hdg rfl (k H locs ls hz hS hR hl)
theorem x_l2i (F : xF p s m args meth c D cl A cc nL own Ts) {x : Int64} (hdg : decode cc pc = .ok (.l2i, 1)) (k : xW p l e R s m args below meth c D cl A nL Q cells slots nx M (pc + 1) lv (.int x.toInt32 :: st)) : xW p l e R s m args below meth c D cl A nL Q cells slots nx M pc lv (.long x :: st) :=
  fun H locs ls hz hS hR hl => lv_l2i F.1.1 F.1.2.1 hdg rfl (k H locs ls hz hS hR hl)
theorem x_i2c (F : xF p s m args meth c D cl A cc nL own Ts) {x : Int32} (hdg : decode cc pc = .ok (.i2c, 1)) (k : xW p l e R s m args below meth c D cl A nL Q cells slots nx M (pc + 1) lv (.int (x.toUInt32 % 65536).toInt32 :: st)) : xW p l e R s m args below meth c D cl A nL Q cells slots nx M pc lv (.int x :: st) :=
  fun H locs ls hz hS hR hl => lv_i2c F.1.1 F.1.2.1 hdg rfl (k H locs ls hz hS hR hl)
theorem x_dup (F : xF p s m args meth c D cl A cc nL own Ts) {va : Value} (hdg : decode cc pc = .ok (.dup, 1)) (hc : va.category = 1) (k : xW p l e R s m args below meth c D cl A nL Q cells slots nx M (pc + 1) lv (va :: va :: st)) : xW p l e R s m args below meth c D cl A nL Q cells slots nx M pc lv (va :: st) :=
  fun H locs ls hz hS hR hl => lv_dup F.1.1 F.1.2.1 hdg hc (k H locs ls hz hS hR hl)
theorem x_pop (F : xF p s m args meth c D cl A cc nL own Ts) {va : Value} (hdg : decode cc pc = .ok (.pop, 1)) (hc : va.category = 1) (k : xW p l e R s m args below meth c D cl A nL Q cells slots nx M (pc + 1) lv (st)) : xW p l e R s m args below meth c D cl A nL Q cells slots nx M pc lv (va :: st) :=
  fun H locs ls hz hS hR hl => lv_pop F.1.1 F.1.2.1 hdg hc (k H locs ls hz hS hR hl)
theorem x_pop2 (F : xF p s m args meth c D cl A cc nL own Ts) {va : Value} (hdg : decode cc pc = .ok (.pop2, 1)) (hc : va.category = 2) (k : xW p l e R s m args below meth c D cl A nL Q cells slots nx M (pc + 1) lv (st)) : xW p l e R s m args below meth c D cl A nL Q cells slots nx M pc lv (va :: st) :=
  fun H locs ls hz hS hR hl => lv_pop2_2 F.1.1 F.1.2.1 hdg hc (k H locs ls hz hS hR hl)
theorem x_dup2 (F : xF p s m args meth c D cl A cc nL own Ts) {va vb : Value} (hdg : decode cc pc = .ok (.dup2, 1)) (hc : va.category = 1) (hd : vb.category = 1) (k : xW p l e R s m args below meth c D cl A nL Q cells slots nx M (pc + 1) lv (va :: vb :: va :: vb :: st)) : xW p l e R s m args below meth c D cl A nL Q cells slots nx M pc lv (va :: vb :: st) :=
  fun H locs ls hz hS hR hl => lv_dup2_11 F.1.1 F.1.2.1 hdg hc hd (k H locs ls hz hS hR hl)
theorem x_dup_x1 (F : xF p s m args meth c D cl A cc nL own Ts) {va vb : Value} (hdg : decode cc pc = .ok (.dup_x1, 1)) (hc : va.category = 1) (hd : vb.category = 1) (k : xW p l e R s m args below meth c D cl A nL Q cells slots nx M (pc + 1) lv (va :: vb :: va :: st)) : xW p l e R s m args below meth c D cl A nL Q cells slots nx M pc lv (va :: vb :: st) :=
  fun H locs ls hz hS hR hl => lv_dup_x1 F.1.1 F.1.2.1 hdg hc hd (k H locs ls hz hS hR hl)
theorem x_dup_x2 (F : xF p s m args meth c D cl A cc nL own Ts) {va vb vd : Value} (hdg : decode cc pc = .ok (.dup_x2, 1)) (hc : va.category = 1) (hd : vb.category = 1) (he : vd.category = 1) (k : xW p l e R s m args below meth c D cl A nL Q cells slots nx M (pc + 1) lv (va :: vb :: vd :: va :: st)) : xW p l e R s m args below meth c D cl A nL Q cells slots nx M pc lv (va :: vb :: vd :: st) :=
  fun H locs ls hz hS hR hl => lv_dup_x2 F.1.1 F.1.2.1 hdg hc hd he (k H locs ls hz hS hR hl)
theorem x_goto (F : xF p s m args meth c D cl A cc nL own Ts) {off : Int} {tgt : Nat} (hdg : decode cc pc = .ok (.goto off, 3)) (ht : (pc : Int) + off = (tgt : Int)) (k : xW p l e R s m args below meth c D cl A nL Q cells slots nx M (tgt) lv (st)) : xW p l e R s m args below meth c D cl A nL Q cells slots nx M pc lv (st) :=
  fun H locs ls hz hS hR hl => lv_goto F.1.1 F.1.2.1 hdg ht (k H locs ls hz hS hR hl)
theorem x_ifnull (F : xF p s m args meth c D cl A cc nL own Ts) {x : Nat} {off : Int} (hdg : decode cc pc = .ok (.ifnull off, 3)) (k : xW p l e R s m args below meth c D cl A nL Q cells slots nx M (pc + 3) lv (st)) : xW p l e R s m args below meth c D cl A nL Q cells slots nx M pc lv (.ref x :: st) :=
  fun H locs ls hz hS hR hl => lv_ifnull F.1.1 F.1.2.1 hdg (k H locs ls hz hS hR hl)
theorem x_ifnonnull (F : xF p s m args meth c D cl A cc nL own Ts) {x : Nat} {off : Int} {tgt : Nat} (hdg : decode cc pc = .ok (.ifnonnull off, 3)) (ht : (pc : Int) + off = (tgt : Int)) (k : xW p l e R s m args below meth c D cl A nL Q cells slots nx M (tgt) lv (st)) : xW p l e R s m args below meth c D cl A nL Q cells slots nx M pc lv (.ref x :: st) :=
  fun H locs ls hz hS hR hl => lv_ifnonnull F.1.1 F.1.2.1 hdg ht (k H locs ls hz hS hR hl)
theorem x_ifnullN (F : xF p s m args meth c D cl A cc nL own Ts) {off : Int} {tgt : Nat} (hdg : decode cc pc = .ok (.ifnull off, 3)) (ht : (pc : Int) + off = (tgt : Int)) (k : xW p l e R s m args below meth c D cl A nL Q cells slots nx M (tgt) lv (st)) : xW p l e R s m args below meth c D cl A nL Q cells slots nx M pc lv (.null :: st) :=
  fun H locs ls hz hS hR hl => lv_ifnullN F.1.1 F.1.2.1 hdg ht (k H locs ls hz hS hR hl)
theorem x_ifnonnullN (F : xF p s m args meth c D cl A cc nL own Ts) {off : Int} (hdg : decode cc pc = .ok (.ifnonnull off, 3)) (k : xW p l e R s m args below meth c D cl A nL Q cells slots nx M (pc + 3) lv (st)) : xW p l e R s m args below meth c D cl A nL Q cells slots nx M pc lv (.null :: st) :=
  fun H locs ls hz hS hR hl => lv_ifnonnullN F.1.1 F.1.2.1 hdg (k H locs ls hz hS hR hl)
theorem x_if_eq (F : xF p s m args meth c D cl A cc nL own Ts) {x : Int32} {off : Int} {tgt : Nat} (hdg : decode cc pc = .ok (.ifCond .eq off, 3)) (ht : (pc : Int) + off = (tgt : Int)) (kt : x = 0 → xW p l e R s m args below meth c D cl A nL Q cells slots nx M tgt lv st) (kf : ¬ x = 0 → xW p l e R s m args below meth c D cl A nL Q cells slots nx M (pc + 3) lv st) : xW p l e R s m args below meth c D cl A nL Q cells slots nx M pc lv (.int x :: st) :=
  fun H locs ls hz hS hR hl => lv_if_eq F.1.1 F.1.2.1 hdg ht (fun h => kt h H locs ls hz hS hR hl) (fun h => kf h H locs ls hz hS hR hl)
theorem x_icmp_eq (F : xF p s m args meth c D cl A cc nL own Ts) {x y : Int32} {off : Int} {tgt : Nat} (hdg : decode cc pc = .ok (.if_icmp .eq off, 3)) (ht : (pc : Int) + off = (tgt : Int)) (kt : x = y → xW p l e R s m args below meth c D cl A nL Q cells slots nx M tgt lv st) (kf : ¬ x = y → xW p l e R s m args below meth c D cl A nL Q cells slots nx M (pc + 3) lv st) : xW p l e R s m args below meth c D cl A nL Q cells slots nx M pc lv (.int y :: .int x :: st) :=
  fun H locs ls hz hS hR hl => lv_icmp_eq F.1.1 F.1.2.1 hdg ht (fun h => kt h H locs ls hz hS hR hl) (fun h => kf h H locs ls hz hS hR hl)
theorem x_if_ne (F : xF p s m args meth c D cl A cc nL own Ts) {x : Int32} {off : Int} {tgt : Nat} (hdg : decode cc pc = .ok (.ifCond .ne off, 3)) (ht : (pc : Int) + off = (tgt : Int)) (kt : ¬ x = 0 → xW p l e R s m args below meth c D cl A nL Q cells slots nx M tgt lv st) (kf : x = 0 → xW p l e R s m args below meth c D cl A nL Q cells slots nx M (pc + 3) lv st) : xW p l e R s m args below meth c D cl A nL Q cells slots nx M pc lv (.int x :: st) :=
  fun H locs ls hz hS hR hl => lv_if_ne F.1.1 F.1.2.1 hdg ht (fun h => kt h H locs ls hz hS hR hl) (fun h => kf h H locs ls hz hS hR hl)
theorem x_icmp_ne (F : xF p s m args meth c D cl A cc nL own Ts) {x y : Int32} {off : Int} {tgt : Nat} (hdg : decode cc pc = .ok (.if_icmp .ne off, 3)) (ht : (pc : Int) + off = (tgt : Int)) (kt : ¬ x = y → xW p l e R s m args below meth c D cl A nL Q cells slots nx M tgt lv st) (kf : x = y → xW p l e R s m args below meth c D cl A nL Q cells slots nx M (pc + 3) lv st) : xW p l e R s m args below meth c D cl A nL Q cells slots nx M pc lv (.int y :: .int x :: st) :=
  fun H locs ls hz hS hR hl => lv_icmp_ne F.1.1 F.1.2.1 hdg ht (fun h => kt h H locs ls hz hS hR hl) (fun h => kf h H locs ls hz hS hR hl)
theorem x_if_lt (F : xF p s m args meth c D cl A cc nL own Ts) {x : Int32} {off : Int} {tgt : Nat} (hdg : decode cc pc = .ok (.ifCond .lt off, 3)) (ht : (pc : Int) + off = (tgt : Int)) (kt : x < 0 → xW p l e R s m args below meth c D cl A nL Q cells slots nx M tgt lv st) (kf : ¬ x < 0 → xW p l e R s m args below meth c D cl A nL Q cells slots nx M (pc + 3) lv st) : xW p l e R s m args below meth c D cl A nL Q cells slots nx M pc lv (.int x :: st) :=
  fun H locs ls hz hS hR hl => lv_if_lt F.1.1 F.1.2.1 hdg ht (fun h => kt h H locs ls hz hS hR hl) (fun h => kf h H locs ls hz hS hR hl)
theorem x_icmp_lt (F : xF p s m args meth c D cl A cc nL own Ts) {x y : Int32} {off : Int} {tgt : Nat} (hdg : decode cc pc = .ok (.if_icmp .lt off, 3)) (ht : (pc : Int) + off = (tgt : Int)) (kt : x < y → xW p l e R s m args below meth c D cl A nL Q cells slots nx M tgt lv st) (kf : ¬ x < y → xW p l e R s m args below meth c D cl A nL Q cells slots nx M (pc + 3) lv st) : xW p l e R s m args below meth c D cl A nL Q cells slots nx M pc lv (.int y :: .int x :: st) :=
  fun H locs ls hz hS hR hl => lv_icmp_lt F.1.1 F.1.2.1 hdg ht (fun h => kt h H locs ls hz hS hR hl) (fun h => kf h H locs ls hz hS hR hl)
theorem x_if_ge (F : xF p s m args meth c D cl A cc nL own Ts) {x : Int32} {off : Int} {tgt : Nat} (hdg : decode cc pc = .ok (.ifCond .ge off, 3)) (ht : (pc : Int) + off = (tgt : Int)) (kt : 0 ≤ x → xW p l e R s m args below meth c D cl A nL Q cells slots nx M tgt lv st) (kf : ¬ 0 ≤ x → xW p l e R s m args below meth c D cl A nL Q cells slots nx M (pc + 3) lv st) : xW p l e R s m args below meth c D cl A nL Q cells slots nx M pc lv (.int x :: st) :=
  fun H locs ls hz hS hR hl => lv_if_ge F.1.1 F.1.2.1 hdg ht (fun h => kt h H locs ls hz hS hR hl) (fun h => kf h H locs ls hz hS hR hl)
theorem x_icmp_ge (F : xF p s m args meth c D cl A cc nL own Ts) {x y : Int32} {off : Int} {tgt : Nat} (hdg : decode cc pc = .ok (.if_icmp .ge off, 3)) (ht : (pc : Int) + off = (tgt : Int)) (kt : y ≤ x → xW p l e R s m args below meth c D cl A nL Q cells slots nx M tgt lv st) (kf : ¬ y ≤ x → xW p l e R s m args below meth c D cl A nL Q cells slots nx M (pc + 3) lv st) : xW p l e R s m args below meth c D cl A nL Q cells slots nx M pc lv (.int y :: .int x :: st) :=
  fun H locs ls hz hS hR hl => lv_icmp_ge F.1.1 F.1.2.1 hdg ht (fun h => kt h H locs ls hz hS hR hl) (fun h => kf h H locs ls hz hS hR hl)
theorem x_if_gt (F : xF p s m args meth c D cl A cc nL own Ts) {x : Int32} {off : Int} {tgt : Nat} (hdg : decode cc pc = .ok (.ifCond .gt off, 3)) (ht : (pc : Int) + off = (tgt : Int)) (kt : 0 < x → xW p l e R s m args below meth c D cl A nL Q cells slots nx M tgt lv st) (kf : ¬ 0 < x → xW p l e R s m args below meth c D cl A nL Q cells slots nx M (pc + 3) lv st) : xW p l e R s m args below meth c D cl A nL Q cells slots nx M pc lv (.int x :: st) :=
  fun H locs ls hz hS hR hl => lv_if_gt F.1.1 F.1.2.1 hdg ht (fun h => kt h H locs ls hz hS hR hl) (fun h => kf h H locs ls hz hS hR hl)
theorem x_icmp_gt (F : xF p s m args meth c D cl A cc nL own Ts) {x y : Int32} {off : Int} {tgt : Nat} (hdg : decode cc pc = .ok (.if_icmp .gt off, 3)) (ht : (pc : Int) + off = (tgt : Int)) (kt : y < x → xW p l e R s m args below meth c D cl A nL Q cells slots nx M tgt lv st) (kf : ¬ y < x → xW p l e R s m args below meth c D cl A nL Q cells slots nx M (pc + 3) lv st) : xW p l e R s m args below meth c D cl A nL Q cells slots nx M pc lv (.int y :: .int x :: st) :=
  fun H locs ls hz hS hR hl => lv_icmp_gt F.1.1 F.1.2.1 hdg ht (fun h => kt h H locs ls hz hS hR hl) (fun h => kf h H locs ls hz hS hR hl)
theorem x_if_le (F : xF p s m args meth c D cl A cc nL own Ts) {x : Int32} {off : Int} {tgt : Nat} (hdg : decode cc pc = .ok (.ifCond .le off, 3)) (ht : (pc : Int) + off = (tgt : Int)) (kt : x ≤ 0 → xW p l e R s m args below meth c D cl A nL Q cells slots nx M tgt lv st) (kf : ¬ x ≤ 0 → xW p l e R s m args below meth c D cl A nL Q cells slots nx M (pc + 3) lv st) : xW p l e R s m args below meth c D cl A nL Q cells slots nx M pc lv (.int x :: st) :=
  fun H locs ls hz hS hR hl => lv_if_le F.1.1 F.1.2.1 hdg ht (fun h => kt h H locs ls hz hS hR hl) (fun h => kf h H locs ls hz hS hR hl)
theorem x_icmp_le (F : xF p s m args meth c D cl A cc nL own Ts) {x y : Int32} {off : Int} {tgt : Nat} (hdg : decode cc pc = .ok (.if_icmp .le off, 3)) (ht : (pc : Int) + off = (tgt : Int)) (kt : x ≤ y → xW p l e R s m args below meth c D cl A nL Q cells slots nx M tgt lv st) (kf : ¬ x ≤ y → xW p l e R s m args below meth c D cl A nL Q cells slots nx M (pc + 3) lv st) : xW p l e R s m args below meth c D cl A nL Q cells slots nx M pc lv (.int y :: .int x :: st) :=
  fun H locs ls hz hS hR hl => lv_icmp_le F.1.1 F.1.2.1 hdg ht (fun h => kt h H locs ls hz hS hR hl) (fun h => kf h H locs ls hz hS hR hl)
theorem x_tableIn (F : xF p s m args meth c D cl A cc nL own Ts) {dflt lo hi : Int} {offs : Array Int} {len : Nat} {x : Int32} {off : Int} {tgt : Nat} (hdg : decode cc pc = .ok (.tableswitch dflt lo hi offs, len)) (h1 : ¬ x.toInt < lo) (h2 : ¬ hi < x.toInt) (ho : offs[(x.toInt - lo).toNat]? = some off) (ht : (pc : Int) + off = (tgt : Int)) (k : xW p l e R s m args below meth c D cl A nL Q cells slots nx M tgt lv st) : xW p l e R s m args below meth c D cl A nL Q cells slots nx M pc lv (.int x :: st) :=
  fun H locs ls hz hS hR hl => lv_tableIn F.1.1 F.1.2.1 hdg h1 h2 ho ht (k H locs ls hz hS hR hl)
theorem x_tableOut (F : xF p s m args meth c D cl A cc nL own Ts) {dflt lo hi : Int} {offs : Array Int} {len : Nat} {x : Int32} {tgt : Nat} (hdg : decode cc pc = .ok (.tableswitch dflt lo hi offs, len)) (h : x.toInt < lo ∨ hi < x.toInt) (ht : (pc : Int) + dflt = (tgt : Int)) (k : xW p l e R s m args below meth c D cl A nL Q cells slots nx M tgt lv st) : xW p l e R s m args below meth c D cl A nL Q cells slots nx M pc lv (.int x :: st) :=
  fun H locs ls hz hS hR hl => lv_tableOut F.1.1 F.1.2.1 hdg h ht (k H locs ls hz hS hR hl)
theorem x_lookup (F : xF p s m args meth c D cl A cc nL own Ts) {dflt : Int} {ps : Array (Int × Int)} {len : Nat} {x : Int32} {off : Int} {tgt : Nat} (hdg : decode cc pc = .ok (.lookupswitch dflt ps, len)) (hp : (ps.toList.zip (ps.toList.drop 1)).all (fun (a, next) => a.1 < next.1) = true) (ho : Op.lookupswitch.offset ps.toList dflt x.toInt = off) (ht : (pc : Int) + off = (tgt : Int)) (k : xW p l e R s m args below meth c D cl A nL Q cells slots nx M tgt lv st) : xW p l e R s m args below meth c D cl A nL Q cells slots nx M pc lv (.int x :: st) :=
  fun H locs ls hz hS hR hl => lv_lookup F.1.1 F.1.2.1 hdg hp ho ht (k H locs ls hz hS hR hl)
end XW
end
section
section XH
variable {p : Program} {l : Launch} {e : Env} {R : Room} {s : State} {m : MethodId} {args : Array Value} {below : List Frame} {meth : Method} {c : Code} {D : va_G} {cl : List vw_C} {A : Nat → Prop} {nL : Nat} {Q : State → Prop} {cells slots nx : Nat} {M : xH} {pc : Nat} {lv : List (Nat × Value)} {st : List Value}
variable {cc : ByteArray} {own : String} {Ts : List Cond}
theorem x_get (F : xF p s m args meth c D cl A cc nL own Ts) {C : String} {T : u_T} {N ci index a : Nat} {fs : List Value} {v : Value} (k : Nat) (hin : ∀ w ∈ u_ws C T N, w ∈ Ts) (hc : cl[ci]? = some (C, T, N)) (hk : k < N) (hlink : Cond.fieldLink own index (T k).1 (T k).2.1 (T k).2.2.1 ∈ Ts) (hdg : decode cc pc = .ok (.getfield index, 3)) (he : M a = some (.inr (ci, fs))) (hv : fs[k]? = some v) (kk : xW p l e R s m args below meth c D cl A nL Q cells slots nx M (pc + 3) lv (v :: st)) : xW p l e R s m args below meth c D cl A nL Q cells slots nx M pc lv (.ref a :: st) :=
  fun H locs ls hz hS hR hl => va_get (D := D) (ws := [(a, .inr (ci, fs))]) (tys := []) F.1.1 F.1.2.1 F.1.2.2.2.2 hin F.1.2.2.2.1 F.2.1 (x_one (hR a _ he).1) 0 rfl hc k hk (F.1.2.2.2.2 _ hlink) (fun _ h => h) hv hdg (kk H locs ls hz hS hR hl)
theorem x_put (F : xF p s m args meth c D cl A cc nL own Ts) {C : String} {T : u_T} {N ci index a : Nat} {fs : List Value} {v : Value} {ty : FieldType} (k : Nat) (hin : ∀ w ∈ u_ws C T N, w ∈ Ts) (ty0 : Nat → FieldType) (hty : ∀ k, k < N → parseFieldDescriptor (T k).2.2.1 = some (ty0 k)) (hnm : ∀ a, a < N → ∀ b, b < N → a ≠ b → (T a).2.1 ≠ (T b).2.1) (hc : cl[ci]? = some (C, T, N)) (hk : k < N) (hlink : Cond.fieldLink own index (T k).1 (T k).2.1 (T k).2.2.1 ∈ Ts) (hdg : decode cc pc = .ok (.putfield index, 3)) (hfin : (T k).2.2.2 = false) (hd : parseFieldDescriptor (T k).2.2.1 = some ty) (hn : narrow ty v = v) (hfit : fits ty v = true) (he : M a = some (.inr (ci, fs))) (hl' : k < fs.length) (kk : xW p l e R s m args below meth c D cl A nL Q cells slots nx (x_up M a (.inr (ci, fs.set k v))) (pc + 3) lv st) : xW p l e R s m args below meth c D cl A nL Q cells slots nx M pc lv (v :: .ref a :: st) := by
  intro H locs ls hz hS hR hl
  have hap := va_apart (own := own) F.1.2.2.2.2 hin ty0 hty hnm F.2.1 hc
  obtain ⟨⟨r, h1, cell, q1, q2, q3, q4⟩, hAa⟩ := hR a _ he
  have hr : r = (C, T, N) := Option.some.inj (h1.symm.trans hc)
  subst hr
  obtain ⟨hSl, hfc, kC, hkC, hkind⟩ := F.2.1.1 ci _ hc
  obtain ⟨cf, kf, fi, f, hi, hsl⟩ := hSl k hk
  have hlay := F.1.2.2.2.2 _ (hin _ (u_in_lay hk))
  unfold u_lay at hlay
  rw [if_neg (by rw [hfin]; decide)] at hlay
  have hst := (u_facts hfc hkC (u_lays F.1.2.2.2.2 hin hk) hi).1
  have h6 := u_store hfc hkC hkind hlay hi hd hn hfit
  refine W.putK F.1.1 F.1.2.1 (f := f) ⟨F.1.2.2.2.1, F.1.2.2.2.2 _ hlink, ⟨_, _, _, hi⟩, hst⟩ (by rw [q2]; exact h6) q1 q3 (by rw [hsl]; exact k2_hasslot (q4 k hk)) rfl rfl hdg fun H' e1 e2 e3 => ?_
  rw [hsl] at e1 ⊢
  exact kk H' _ ls (e2.trans hz) (hS.put e2 e3 hAa) (hR.set hAa ⟨_, hc, t_OB.to (V := updV (vp_V fs) k v) ⟨_, e1, q2, q3, t_set q4 hap hk v⟩ (fun j _ => vp_updV_set hl' v j)⟩ e3) hl
theorem x_putF (F : xF p s m args meth c D cl A cc nL own Ts) {C : String} {T : u_T} {N ci index a : Nat} {fs : List Value} {v : Value} {ty : FieldType} (k : Nat) (hin : ∀ w ∈ u_ws C T N, w ∈ Ts) (ty0 : Nat → FieldType) (hty : ∀ k, k < N → parseFieldDescriptor (T k).2.2.1 = some (ty0 k)) (hnm : ∀ a, a < N → ∀ b, b < N → a ≠ b → (T a).2.1 ≠ (T b).2.1) (hc : cl[ci]? = some (C, T, N)) (hk : k < N) (hlink : Cond.fieldLink own index (T k).1 (T k).2.1 (T k).2.2.1 ∈ Ts) (hdg : decode cc pc = .ok (.putfield index, 3)) (hfin : (T k).2.2.2 = true) (hin2 : meth.name = "<init>") (hdecl : (T k).1 = own) (hd : parseFieldDescriptor (T k).2.2.1 = some ty) (hn : narrow ty v = v) (hfit : fits ty v = true) (he : M a = some (.inr (ci, fs))) (hl' : k < fs.length) (kk : xW p l e R s m args below meth c D cl A nL Q cells slots nx (x_up M a (.inr (ci, fs.set k v))) (pc + 3) lv st) : xW p l e R s m args below meth c D cl A nL Q cells slots nx M pc lv (v :: .ref a :: st) := by
  intro H locs ls hz hS hR hl
  have hap := va_apart (own := own) F.1.2.2.2.2 hin ty0 hty hnm F.2.1 hc
  obtain ⟨⟨r, h1, cell, q1, q2, q3, q4⟩, hAa⟩ := hR a _ he
  have hr : r = (C, T, N) := Option.some.inj (h1.symm.trans hc)
  subst hr
  obtain ⟨hSl, hfc, kC, hkC, hkind⟩ := F.2.1.1 ci _ hc
  obtain ⟨cf, kf, fi, f, hi, hsl⟩ := hSl k hk
  have hlay := F.1.2.2.2.2 _ (hin _ (u_in_lay hk))
  unfold u_lay at hlay
  rw [if_pos hfin] at hlay
  have hst := (u_facts hfc hkC (u_lays F.1.2.2.2.2 hin hk) hi).1
  have hcf : m.cls = cf := by
    obtain ⟨_, _, c', _, _, _, -, -, hf', -, -, -, hown2, -⟩ := Cond.laysFinal_spec hlay
    have e1 : c' = cf := by have := hi.symm.trans hf'; simp at this; exact this.1.symm
    rw [hdecl] at hown2
    rw [← e1]; exact Option.some.inj (F.1.2.2.2.1.symm.trans hown2)
  have h6 := u_fits hfc hkC hkind (Or.inr hlay) hi hd hn hfit
  refine W.putFinK F.1.1 F.1.2.1 F.1.2.2.2.1 (F.1.2.2.2.2 _ hlink) hi hst hcf hin2 (by rw [q2]; exact h6) q1 q3 (by rw [hsl]; exact k2_hasslot (q4 k hk)) rfl rfl hdg fun H' e1 e2 e3 => ?_
  rw [hsl] at e1 ⊢
  exact kk H' _ ls (e2.trans hz) (hS.put e2 e3 hAa) (hR.set hAa ⟨_, hc, t_OB.to (V := updV (vp_V fs) k v) ⟨_, e1, q2, q3, t_set q4 hap hk v⟩ (fun j _ => vp_updV_set hl' v j)⟩ e3) hl
theorem x_iald (F : xF p s m args meth c D cl A cc nL own Ts) {a n : Nat} {f : Nat → Int32} {i : Int32} (hdg : decode cc pc = .ok (.iaload, 1)) (he : M a = some (.inl (.int, n, .inl f))) (hin : vp_in i n) (k : xW p l e R s m args below meth c D cl A nL Q cells slots nx M (pc + 1) lv (.int (f i.toNatClampNeg) :: st)) : xW p l e R s m args below meth c D cl A nL Q cells slots nx M pc lv (.int i :: .ref a :: st) := by
  intro H locs ls hz hS hR hl
  obtain ⟨⟨cA, hA, hh⟩, -⟩ := hR a _ he
  exact va_iald (ws := [(a, .inl (cA, n, .inl f))]) (tys := [(cA, .int)]) F.1.1 F.1.2.1 (x_K1 F.2.1 hA) (x_one hh) 0 0 rfl rfl hin hdg (k H locs ls hz hS hR hl)
theorem x_cald (F : xF p s m args meth c D cl A cc nL own Ts) {a n : Nat} {f : Nat → Int32} {i : Int32} (hdg : decode cc pc = .ok (.caload, 1)) (he : M a = some (.inl (.char, n, .inl f))) (hin : vp_in i n) (k : xW p l e R s m args below meth c D cl A nL Q cells slots nx M (pc + 1) lv (.int (f i.toNatClampNeg) :: st)) : xW p l e R s m args below meth c D cl A nL Q cells slots nx M pc lv (.int i :: .ref a :: st) := by
  intro H locs ls hz hS hR hl
  obtain ⟨⟨cA, hA, hh⟩, -⟩ := hR a _ he
  exact va_cald (ws := [(a, .inl (cA, n, .inl f))]) (tys := [(cA, .char)]) F.1.1 F.1.2.1 (x_K1 F.2.1 hA) (x_one hh) 0 0 rfl rfl hin hdg (k H locs ls hz hS hR hl)
theorem x_bald (F : xF p s m args meth c D cl A cc nL own Ts) {a n : Nat} {f : Nat → Int32} {i : Int32} (hdg : decode cc pc = .ok (.baload, 1)) (he : M a = some (.inl (.byte, n, .inl f))) (hin : vp_in i n) (k : xW p l e R s m args below meth c D cl A nL Q cells slots nx M (pc + 1) lv (.int (f i.toNatClampNeg) :: st)) : xW p l e R s m args below meth c D cl A nL Q cells slots nx M pc lv (.int i :: .ref a :: st) := by
  intro H locs ls hz hS hR hl
  obtain ⟨⟨cA, hA, hh⟩, -⟩ := hR a _ he
  exact va_bald (ws := [(a, .inl (cA, n, .inl f))]) (tys := [(cA, .byte)]) F.1.1 F.1.2.1 (x_K1 F.2.1 hA) (x_one hh) 0 0 rfl rfl hin hdg (k H locs ls hz hS hR hl)
theorem x_lald (F : xF p s m args meth c D cl A cc nL own Ts) {a n : Nat} {f : Nat → Int64} {i : Int32} (hdg : decode cc pc = .ok (.laload, 1)) (he : M a = some (.inl (.long, n, .inr (.inl f)))) (hin : vp_in i n) (k : xW p l e R s m args below meth c D cl A nL Q cells slots nx M (pc + 1) lv (.long (f i.toNatClampNeg) :: st)) : xW p l e R s m args below meth c D cl A nL Q cells slots nx M pc lv (.int i :: .ref a :: st) := by
  intro H locs ls hz hS hR hl
  obtain ⟨⟨cA, hA, hh⟩, -⟩ := hR a _ he
  exact va_lald (ws := [(a, .inl (cA, n, .inr (.inl f)))]) (tys := [(cA, .long)]) F.1.1 F.1.2.1 (x_K1 F.2.1 hA) (x_one hh) 0 0 rfl rfl hin hdg (k H locs ls hz hS hR hl)
theorem x_zald (F : xF p s m args meth c D cl A cc nL own Ts) {a n : Nat} {f : Nat → Int32} {i : Int32} (hdg : decode cc pc = .ok (.baload, 1)) (he : M a = some (.inl (.boolean, n, .inl f))) (hin : vp_in i n) (k : xW p l e R s m args below meth c D cl A nL Q cells slots nx M (pc + 1) lv (.int (f i.toNatClampNeg) :: st)) : xW p l e R s m args below meth c D cl A nL Q cells slots nx M pc lv (.int i :: .ref a :: st) := by
  intro H locs ls hz hS hR hl
  obtain ⟨⟨cA, hA, hh⟩, -⟩ := hR a _ he
  exact va_zald (ws := [(a, .inl (cA, n, .inl f))]) (tys := [(cA, .boolean)]) F.1.1 F.1.2.1 (x_K1 F.2.1 hA) (x_one hh) 0 0 rfl rfl hin hdg (k H locs ls hz hS hR hl)
theorem x_aald (F : xF p s m args meth c D cl A cc nL own Ts) {a n : Nat} {C : String} {f : Nat → Option Nat} {i : Int32} (hdg : decode cc pc = .ok (.aaload, 1)) (he : M a = some (.inl (.object C, n, .inr (.inr (.inr (.inr f)))))) (hin : vp_in i n) (k : xW p l e R s m args below meth c D cl A nL Q cells slots nx M (pc + 1) lv (va_rf (f i.toNatClampNeg) :: st)) : xW p l e R s m args below meth c D cl A nL Q cells slots nx M pc lv (.int i :: .ref a :: st) := by
  intro H locs ls hz hS hR hl
  obtain ⟨⟨cA, hA, hh⟩, -⟩ := hR a _ he
  exact va_aldq (ws := [(a, .inl (cA, n, .inr (.inr (.inr (.inr f)))))]) (tys := [(cA, .object C)]) F.1.1 F.1.2.1 (x_K1 F.2.1 hA) (x_one hh) 0 0 rfl rfl hin hdg (k H locs ls hz hS hR hl)
theorem x_iast (F : xF p s m args meth c D cl A cc nL own Ts) {a n : Nat} {f : Nat → Int32} {i : Int32} {x : Int32} (hdg : decode cc pc = .ok (.iastore, 1)) (he : M a = some (.inl (.int, n, .inl f))) (hin : vp_in i n) (k : xW p l e R s m args below meth c D cl A nL Q cells slots nx (x_up M a (.inl (.int, n, .inl (upd f i.toNatClampNeg x)))) (pc + 1) lv st) : xW p l e R s m args below meth c D cl A nL Q cells slots nx M pc lv (.int x :: .int i :: .ref a :: st) := by
  intro H locs ls hz hS hR hl
  obtain ⟨⟨cA, hA, hh⟩, hAa⟩ := hR a _ he
  have hh : H[a]? = some (vp_cell cA (n, .inl f)) := hh
  refine W.iast F.1.1 F.1.2.1 hh (hA.1 n (fun j => .int (f j))) (fun q => by cases q) (by show ¬ (i < 0 ∨ (arrV _ _ _).slots.size ≤ _); rw [arrV_size]; exact hin) rfl rfl hdg fun H1 e z oq => ?_
  refine k H1 _ ls (z.trans hz) (hS.put z oq hAa) (hR.set hAa ⟨cA, hA, ?_⟩ oq) hl
  show H1[a]? = some (vp_cell cA (n, .inl (upd f i.toNatClampNeg x)))
  rw [e, vp_cell_i, vp_cell_i, arrV_store]
  congr 2
  funext q
  by_cases hq : q = i.toNatClampNeg
  · subst hq
    simp [updV, upd, vp_nar]
    try rfl
  · simp [updV, upd, vp_nar, hq]
theorem x_cast (F : xF p s m args meth c D cl A cc nL own Ts) {a n : Nat} {f : Nat → Int32} {i : Int32} {x : Int32} (hdg : decode cc pc = .ok (.castore, 1)) (he : M a = some (.inl (.char, n, .inl f))) (hin : vp_in i n) (k : xW p l e R s m args below meth c D cl A nL Q cells slots nx (x_up M a (.inl (.char, n, .inl (upd f i.toNatClampNeg (vp_nar .char x))))) (pc + 1) lv st) : xW p l e R s m args below meth c D cl A nL Q cells slots nx M pc lv (.int x :: .int i :: .ref a :: st) := by
  intro H locs ls hz hS hR hl
  obtain ⟨⟨cA, hA, hh⟩, hAa⟩ := hR a _ he
  have hh : H[a]? = some (vp_cell cA (n, .inl f)) := hh
  refine W.cast F.1.1 F.1.2.1 hh (hA.1 n (fun j => .int (f j))) (fun q => by cases q) (by show ¬ (i < 0 ∨ (arrV _ _ _).slots.size ≤ _); rw [arrV_size]; exact hin) rfl rfl hdg fun H1 e z oq => ?_
  refine k H1 _ ls (z.trans hz) (hS.put z oq hAa) (hR.set hAa ⟨cA, hA, ?_⟩ oq) hl
  show H1[a]? = some (vp_cell cA (n, .inl (upd f i.toNatClampNeg (vp_nar .char x))))
  rw [e, vp_cell_i, vp_cell_i, arrV_store]
  congr 2
  funext q
  by_cases hq : q = i.toNatClampNeg
  · subst hq
    simp [updV, upd, vp_nar]
    try rfl
  · simp [updV, upd, vp_nar, hq]
theorem x_last (F : xF p s m args meth c D cl A cc nL own Ts) {a n : Nat} {f : Nat → Int64} {i : Int32} {x : Int64} (hdg : decode cc pc = .ok (.lastore, 1)) (he : M a = some (.inl (.long, n, .inr (.inl f)))) (hin : vp_in i n) (k : xW p l e R s m args below meth c D cl A nL Q cells slots nx (x_up M a (.inl (.long, n, .inr (.inl (vp_updL f i.toNatClampNeg x))))) (pc + 1) lv st) : xW p l e R s m args below meth c D cl A nL Q cells slots nx M pc lv (.long x :: .int i :: .ref a :: st) := by
  intro H locs ls hz hS hR hl
  obtain ⟨⟨cA, hA, hh⟩, hAa⟩ := hR a _ he
  have hh : H[a]? = some (vp_cell cA (n, .inr (.inl f))) := hh
  refine W.last F.1.1 F.1.2.1 hh (hA.1 n (fun j => .long (f j))) (fun q => by cases q) (by show ¬ (i < 0 ∨ (arrV _ _ _).slots.size ≤ _); rw [arrV_size]; exact hin) rfl rfl hdg fun H1 e z oq => ?_
  refine k H1 _ ls (z.trans hz) (hS.put z oq hAa) (hR.set hAa ⟨cA, hA, ?_⟩ oq) hl
  show H1[a]? = some (vp_cell cA (n, .inr (.inl (vp_updL f i.toNatClampNeg x))))
  rw [e, vp_cell_l, vp_cell_l, arrV_store]
  congr 2
  funext q
  by_cases hq : q = i.toNatClampNeg
  · subst hq
    simp [updV, vp_updL]
    try rfl
  · simp [updV, vp_updL, hq]
theorem x_bast (F : xF p s m args meth c D cl A cc nL own Ts) {a n : Nat} {f : Nat → Int32} {i : Int32} {x : Int32} (hdg : decode cc pc = .ok (.bastore, 1)) (he : M a = some (.inl (.byte, n, .inl f))) (hin : vp_in i n) (k : xW p l e R s m args below meth c D cl A nL Q cells slots nx (x_up M a (.inl (.byte, n, .inl (upd f i.toNatClampNeg (vp_nar .byte x))))) (pc + 1) lv st) : xW p l e R s m args below meth c D cl A nL Q cells slots nx M pc lv (.int x :: .int i :: .ref a :: st) := by
  intro H locs ls hz hS hR hl
  obtain ⟨⟨cA, hA, hh⟩, hAa⟩ := hR a _ he
  have hh : H[a]? = some (vp_cell cA (n, .inl f)) := hh
  refine W.bast F.1.1 F.1.2.1 hh (hA.1 n (fun j => .int (f j))) (fun q => by cases q) (by show ¬ (i < 0 ∨ (arrV _ _ _).slots.size ≤ _); rw [arrV_size]; exact hin) rfl rfl hdg fun H1 e z oq => ?_
  refine k H1 _ ls (z.trans hz) (hS.put z oq hAa) (hR.set hAa ⟨cA, hA, ?_⟩ oq) hl
  show H1[a]? = some (vp_cell cA (n, .inl (upd f i.toNatClampNeg (vp_nar .byte x))))
  rw [e, vp_cell_i, vp_cell_i, arrV_store]
  congr 2
  funext q
  by_cases hq : q = i.toNatClampNeg
  · subst hq
    simp [updV, upd, vp_nar]
    try rfl
  · simp [updV, upd, vp_nar, hq]
theorem x_zast (F : xF p s m args meth c D cl A cc nL own Ts) {a n : Nat} {f : Nat → Int32} {i : Int32} {x : Int32} (hdg : decode cc pc = .ok (.bastore, 1)) (he : M a = some (.inl (.boolean, n, .inl f))) (hin : vp_in i n) (k : xW p l e R s m args below meth c D cl A nL Q cells slots nx (x_up M a (.inl (.boolean, n, .inl (upd f i.toNatClampNeg (vp_nar .boolean x))))) (pc + 1) lv st) : xW p l e R s m args below meth c D cl A nL Q cells slots nx M pc lv (.int x :: .int i :: .ref a :: st) := by
  intro H locs ls hz hS hR hl
  obtain ⟨⟨cA, hA, hh⟩, hAa⟩ := hR a _ he
  have hh : H[a]? = some (vp_cell cA (n, .inl f)) := hh
  refine W.zast F.1.1 F.1.2.1 hh (hA.1 n (fun j => .int (f j))) (fun q => by cases q) (by show ¬ (i < 0 ∨ (arrV _ _ _).slots.size ≤ _); rw [arrV_size]; exact hin) rfl rfl hdg fun H1 e z oq => ?_
  refine k H1 _ ls (z.trans hz) (hS.put z oq hAa) (hR.set hAa ⟨cA, hA, ?_⟩ oq) hl
  show H1[a]? = some (vp_cell cA (n, .inl (upd f i.toNatClampNeg (vp_nar .boolean x))))
  rw [e, vp_cell_i, vp_cell_i, arrV_store]
  congr 2
  funext q
  by_cases hq : q = i.toNatClampNeg
  · subst hq
    simp [updV, upd, vp_nar]
    try rfl
  · simp [updV, upd, vp_nar, hq]
theorem x_aast (F : xF p s m args meth c D cl A cc nL own Ts) {a n v ci : Nat} {r : vw_C} {vs : List Value} {f : Nat → Option Nat} {i : Int32} (hc : cl[ci]? = some r) (hdg : decode cc pc = .ok (.aastore, 1)) (he : M a = some (.inl (.object r.1, n, .inr (.inr (.inr (.inr f)))))) (hv : M v = some (.inr (ci, vs))) (hin : vp_in i n) (k : xW p l e R s m args below meth c D cl A nL Q cells slots nx (x_up M a (.inl (.object r.1, n, .inr (.inr (.inr (.inr (va_up f i.toNatClampNeg (some v)))))))) (pc + 1) lv st) : xW p l e R s m args below meth c D cl A nL Q cells slots nx M pc lv (.ref v :: .int i :: .ref a :: st) := by
  intro H locs ls hz hS hR hl
  have hlt : i.toNatClampNeg < n := Nat.not_le.mp fun q => hin (Or.inr q)
  have h0 : ¬ i < 0 := fun q => hin (Or.inl q)
  obtain ⟨⟨r', hr', cellV, g1, g2, g3, -⟩, -⟩ := hR v _ hv
  obtain ⟨⟨cA, hA, hh⟩, hAa⟩ := hR a _ he
  have hh : H[a]? = some (vp_cell cA (n, .inr (.inr (.inr (.inr f))))) := hh
  have hcls := (F.2.1.1 ci r hc).2
  obtain ⟨kA, comp, k1, k2, k3, -⟩ := hA.2
  have hcomp : comp = D.1 ci := Option.some.inj (k3.symm.trans hcls.1)
  subst hcomp
  obtain ⟨kC, hkC, hkk⟩ := hcls.2
  refine W.aast F.1.1 F.1.2.1 hh (fun q h => by cases h) (fun h => by cases h) k1 k2 rfl hkC ⟨h0, by show _ < (arrV _ _ _).slots.size; rw [arrV_size]; exact hlt⟩ g1 (fun q h => by rw [g3] at h; cases h) (by rw [g2]; exact hkC) (by rw [g2]; exact va_assign ⟨hcls.1, kC, hkC, hkk⟩) rfl rfl hdg fun H1 e z oq => ?_
  refine k H1 _ ls (z.trans hz) (hS.put z oq hAa) (hR.set hAa ⟨cA, hA, ?_⟩ oq) hl
  show H1[a]? = some (vp_cell cA (n, .inr (.inr (.inr (.inr (va_up f i.toNatClampNeg (some v)))))))
  rw [e, vp_cell_q, vp_cell_q, arrV_store]
  congr 2
  funext q
  by_cases hq : q = i.toNatClampNeg
  · subst hq
    simp [updV, va_up, va_rf]
  · simp [updV, va_up, hq]
theorem x_alen (F : xF p s m args meth c D cl A cc nL own Ts) {a : Nat} {ty : FieldType} {x : vp_A} {v : Int32} (hdg : decode cc pc = .ok (.arraylength, 1)) (he : M a = some (.inl (ty, x))) (hv : Int32.ofNat x.1 = v) (k : xW p l e R s m args below meth c D cl A nL Q cells slots nx M (pc + 1) lv (.int v :: st)) : xW p l e R s m args below meth c D cl A nL Q cells slots nx M pc lv (.ref a :: st) := by
  intro H locs ls hz hS hR hl
  obtain ⟨⟨cA, hA, hh⟩, -⟩ := hR a _ he
  exact va_alen (ws := [(a, .inl (cA, x))]) (tys := [(cA, ty)]) F.1.1 F.1.2.1 (x_K1 F.2.1 hA) (x_one hh) 0 0 rfl rfl hv hdg (k H locs ls hz hS hR hl)
theorem x_newa (F : xF p s m args meth c D cl A cc nL own Ts) {atype : ArrayType} {ty : FieldType} {n : Int32} {N' : Nat} {a0 : vp_A} (harr : Cond.arrayClass (newarray.typeOf atype) ∈ Ts) (hty : newarray.typeOf atype = ty) (hdg : decode cc pc = .ok (.newarray atype, 2)) (ha : ∀ cA : ClassId, vp_cell cA a0 = arrV cA N' (fun _ => defaultValue ty)) (hn : ¬ n < 0) (hN : n.toNatClampNeg = N') (hbytes : N' * componentBytes ty ≤ 536870912) (hcells : cells + 1 ≤ R.cells) (hslots : slots + N' ≤ R.slots) (k : xW p l e R s m args below meth c D cl A nL Q (cells + 1) (slots + N') (nx + 1) (x_up M nx (.inl (ty, a0))) (pc + 2) lv (.ref nx :: st)) : xW p l e R s m args below meth c D cl A nL Q cells slots nx M pc lv (.int n :: st) := by
  intro H locs ls hz hS hR hl
  subst hty
  subst hz
  refine va_newaK F.1.1 F.1.2.1 (F.1.2.2.2.2 _ harr) rfl hdg rfl hn hN hbytes hcells hslots rfl fun H1 cA e1 z1 o1 hAr hNm => ?_
  refine k H1 locs ls z1 ⟨Nat.le_trans hS.1 (by omega), fun x h1 h2 => (o1 x (Nat.lt_of_lt_of_le h1 hS.1)).trans (hS.2.1 x h1 h2), hS.2.2⟩ (hR.new (F.2.2.1 _ hS.1) ⟨cA, ⟨hAr, by cases atype <;> exact hNm⟩, ?_⟩ o1) hl
  show H1[H.size]? = some (vp_cell _ _)
  rw [ha]
  exact e1
theorem x_new (F : xF p s m args meth c D cl A cc nL own Ts) {C : String} {T : u_T} {N ci index : Nat} {fs : List Value} (hin : ∀ w ∈ u_ws C T N, w ∈ Ts) (ty : Nat → FieldType) (hty : ∀ k, k < N → parseFieldDescriptor (T k).2.2.1 = some (ty k)) (hcl : Cond.classLink own index C ∈ Ts) (hinst : Cond.instantiable C N ∈ Ts) (hini : Cond.initialized C ∈ Ts) (hc : cl[ci]? = some (C, T, N)) (hdg : decode cc pc = .ok (.new index, 3)) (hfs : ∀ j, j < N → defaultValue (ty j) = vp_V fs j) (hcells : cells + 1 ≤ R.cells) (hslots : slots + N ≤ R.slots) (k : xW p l e R s m args below meth c D cl A nL Q (cells + 1) (slots + N) (nx + 1) (x_up M nx (.inr (ci, fs))) (pc + 3) lv (.ref nx :: st)) : xW p l e R s m args below meth c D cl A nL Q cells slots nx M pc lv st := by
  intro H locs ls hz hS hR hl
  subst hz
  have hKn := F.2.1.1 ci _ hc
  refine W.newcK F.1.1 F.1.2.1 F.1.2.2.2.1 (F.1.2.2.2.2 _ hcl) (F.1.2.2.2.2 _ hinst) (F.1.2.2.2.2 _ hini) rfl hdg hcells hslots hKn.2.1 rfl fun H1 kC hkC e1 z1 o1 => ?_
  exact k H1 locs ls z1 ⟨Nat.le_trans hS.1 (by omega), fun x h1 h2 => (o1 x (Nat.lt_of_lt_of_le h1 hS.1)).trans (hS.2.1 x h1 h2), hS.2.2⟩ (hR.new (F.2.2.1 _ hS.1) ⟨_, hc, (u_born ty F.1.2.2.2.2 hin hKn hkC e1 hty).to hfs⟩ o1) hl
end XH
end
section
/-! CONTRACTS: the answer (or the name of the class of what is thrown), the cells behind it, the world behind it -/
abbrev xO : Type := Option Value
def x_Q (D : va_G) (cl : List vw_C) (A : Nat → Prop) (post : xO → Nat → xH → Prop) : Array Value → State → Outcome → State → Prop := fun _ st oc t =>
  (∃ (o : xO) (nx : Nat) (M : xH), oc = .returned o ∧ post o nx M ∧ t.heap.size = nx ∧ x_R D cl t A M t.heap) ∧ va_F A st t
def x_Pc (D : va_G) (cl : List vw_C) (As : List Value) (nx : Nat) (M : xH) : Array Value → State → Prop := va_Pc As (fun U => U.heap.size = nx ∧ va_K D cl [] U ∧ x_R D cl U (fun _ => True) M U.heap ∧ x_E (x_A M nx) U U.heap)
def xC (l : Launch) (cl : List vw_C) (y : MethodName) (ws : List Cond) (rm : Room) (As : List Value) (nx : Nat) (M : xH) (post : xO → Nat → xH → Prop) : Prop :=
  ∀ D : va_G, Met l y ws rm (x_Pc D cl As nx M) (x_Q D cl (x_A M nx) post) rm.cells rm.slots (x_A M nx)
theorem x_blind {D : va_G} {cl : List vw_C} {As : List Value} {nx : Nat} {M : xH} : FrameBlind (x_Pc D cl As nx M) := fun a U g mk q => by
  obtain ⟨q0, q1, q2, q3, q4⟩ := q
  exact ⟨q0, q1, va_K.moved (u := U) (U := U.calling g mk a) (Vm.Alike.refl U.vm) q2, x_R.moved (u := U) (U := U.calling g mk a) (Vm.Alike.refl U.vm) q3, x_E.same (s := U) (U := U.calling g mk a) q4 rfl⟩
theorem x_sub {p : Program} {s : State} {m : MethodId} {args : Array Value} {meth : Method} {c : Code} {D : va_G} {cl : List vw_C} {A : Nat → Prop} {cc : ByteArray} {nL : Nat} {own : String} {Ts : List Cond} (F : xF p s m args meth c D cl A cc nL own Ts) {nx : Nat} {M : xH} {H : Heap} {locs : List Loc} (hz : H.size = nx) (hS : va_S A s.heap H locs) (hR : x_R D cl s A M H) : ∀ q, x_A M nx q → A q := fun q h => by
  rcases h with ⟨f, h⟩ | h
  · exact (hR q f h).2
  · exact F.2.2.1 q (Nat.le_trans hS.1 (by omega))
theorem x_pre {p : Program} {s : State} {m : MethodId} {args : Array Value} {meth : Method} {c : Code} {D : va_G} {cl : List vw_C} {A : Nat → Prop} {cc : ByteArray} {nL : Nat} {own : String} {Ts : List Cond} (F : xF p s m args meth c D cl A cc nL own Ts) {As : List Value} {nx : Nat} {M : xH} {H : Heap} {locs : List Loc} (hz : H.size = nx) (hS : va_S A s.heap H locs) (hR : x_R D cl s A M H) : ∀ U : State, U.heap = H → s.WarmedH U.vm → x_Pc D cl As nx M As.toArray U := fun U hU hW =>
  ⟨rfl, by rw [hU]; exact hz, va_K.moved hW.alike F.2.1, by rw [hU]; exact (hR.moved hW.alike).weaken (fun _ _ _ _ => trivial), by rw [hU]; exact F.2.2.2.2.step hW hS.2.1 (x_sub F hz hS hR)⟩
theorem xC.of {l : Launch} {cl : List vw_C} {y : MethodName} {ws ws' : List Cond} {rm : Room} {As : List Value} {nx : Nat} {M : xH} {post : xO → Nat → xH → Prop} {cc : ByteArray} {maxL : Nat} {ret : Option FieldType} (hy : plainName y.cls = true) (hw : ws = Cond.code y cc maxL ret :: ws') (hlen : (lg_sl As).length ≤ maxL)
    (body : ∀ (p : Program) (e : Env) (s : State) (m : MethodId) (args : Array Value) (below : List Frame) (meth : Method) (c : Code) (D : va_G), xF p s m args meth c D cl (x_A M nx) cc maxL y.cls ws → meth.sig.returnType = ret → meth.name = y.name →
      xW p l e rm s m args below meth c D cl (x_A M nx) maxL (MQ below (x_Q D cl (x_A M nx) post) args s rm.cells rm.slots (x_A M nx)) 0 0 nx M 0 (lv_args 0 As) []) : xC l cl y ws rm As nx M post := by
  intro D
  refine Met.ofW hy hw ?_
  intro p e s m args below meth c s₁ B hml hv
  obtain ⟨rfl, hsz, hK, hR, hE⟩ := hv
  have hts := atoms_spec (ws := ws) B.pre
  have hown : s.vm.findClass y.cls = some m.cls := findClass_of_methodNamed B.named
  have K := body p e s m As.toArray below meth c D ⟨⟨B.exec, B.bytes, hml, hown, hts⟩, hK, fun q h => Or.inr (by omega), B.notSynchronized, hE⟩ B.returns (name_of_methodNamed B.named B.method).1
  rw [lg_entry_eq]
  exact K s.heap [] _ hsz va_S.rf (fun a e ha => ⟨(hR a e ha).1, Or.inl ⟨e, ha⟩⟩) (lv_entry As hlen)
section XC
variable {p : Program} {l : Launch} {e : Env} {R : Room} {s : State} {m : MethodId} {args : Array Value} {below : List Frame} {meth : Method} {c : Code} {D : va_G} {cl : List vw_C} {A : Nat → Prop} {nL : Nat} {Q : State → Prop} {cells slots nx : Nat} {M : xH} {pc : Nat} {lv : List (Nat × Value)} {st : List Value}
variable {cc : ByteArray} {own : String} {Ts : List Cond}
variable {post : xO → Nat → xH → Prop}
theorem x_iret (F : xF p s m args meth c D cl A cc nL own Ts) {v : Int32} (hr : meth.sig.returnType = some .int) (hdg : decode cc pc = .ok (.ireturn, 1)) (hp : post (some (.int v)) nx M) : xW p l e R s m args below meth c D cl A nL (MQ below (x_Q D cl A post) args s cells slots A) cells slots nx M pc lv [.int v] :=
  fun H locs ls hz hS hR hl => W.iret F.1.1 F.1.2.1 hr (fun t ht hW => ⟨⟨_, _, _, rfl, hp, by rw [ht]; exact hz, by rw [ht]; exact hR.moved hW.alike⟩, hS.F ht⟩) hS.2.2 hdg F.2.2.2.1
theorem x_zret (F : xF p s m args meth c D cl A cc nL own Ts) {v : Int32} {ty : FieldType} (hr : meth.sig.returnType = some ty) (hn : narrow ty (.int v) = .int v) (hdg : decode cc pc = .ok (.ireturn, 1)) (hp : post (some (.int v)) nx M) : xW p l e R s m args below meth c D cl A nL (MQ below (x_Q D cl A post) args s cells slots A) cells slots nx M pc lv [.int v] :=
  fun H locs ls hz hS hR hl => W.zret F.1.1 F.1.2.1 hr hn (fun t ht hW => ⟨⟨_, _, _, rfl, hp, by rw [ht]; exact hz, by rw [ht]; exact hR.moved hW.alike⟩, hS.F ht⟩) hS.2.2 hdg F.2.2.2.1
theorem x_lret (F : xF p s m args meth c D cl A cc nL own Ts) {v : Int64} (hr : meth.sig.returnType = some .long) (hdg : decode cc pc = .ok (.lreturn, 1)) (hp : post (some (.long v)) nx M) : xW p l e R s m args below meth c D cl A nL (MQ below (x_Q D cl A post) args s cells slots A) cells slots nx M pc lv [.long v] :=
  fun H locs ls hz hS hR hl => W.lret F.1.1 F.1.2.1 hr (fun t ht hW => ⟨⟨_, _, _, rfl, hp, by rw [ht]; exact hz, by rw [ht]; exact hR.moved hW.alike⟩, hS.F ht⟩) hS.2.2 hdg F.2.2.2.1
theorem x_vret (F : xF p s m args meth c D cl A cc nL own Ts) (hr : meth.sig.returnType = none) (hdg : decode cc pc = .ok (.return_, 1)) (hp : post none nx M) : xW p l e R s m args below meth c D cl A nL (MQ below (x_Q D cl A post) args s cells slots A) cells slots nx M pc lv [] :=
  fun H locs ls hz hS hR hl => W.vret F.1.1 F.1.2.1 hr (fun t ht hW => ⟨⟨_, _, _, rfl, hp, by rw [ht]; exact hz, by rw [ht]; exact hR.moved hW.alike⟩, hS.F ht⟩) hS.2.2 hdg F.2.2.2.1
theorem x_aret (F : xF p s m args meth c D cl A cc nL own Ts) {v : Value} {rt : FieldType} (hr : meth.sig.returnType = some rt) (hrt : (∃ n, rt = .object n) ∨ ∃ t, rt = .array t) (hv : v = .null ∨ ∃ a, v = .ref a) (hdg : decode cc pc = .ok (.areturn, 1)) (hp : post (some v) nx M) : xW p l e R s m args below meth c D cl A nL (MQ below (x_Q D cl A post) args s cells slots A) cells slots nx M pc lv [v] :=
  fun H locs ls hz hS hR hl => W.aret F.1.1 F.1.2.1 hr hrt hv (fun t ht hW => ⟨⟨_, _, _, rfl, hp, by rw [ht]; exact hz, by rw [ht]; exact hR.moved hW.alike⟩, hS.F ht⟩) hS.2.2 hdg F.2.2.2.1
theorem x_objInit (F : xF p s m args meth c D cl A cc nL own Ts) {idx a : Nat} (hlink : Cond.methodLink own idx Lib.objectInit ∈ Ts) (hinst : Cond.instanceMethod Lib.objectInit ∈ Ts) (hcode : Cond.code Lib.objectInit ⟨#[0xb1]⟩ 1 none ∈ Ts) (hdg : decode cc pc = .ok (.invokespecial idx, 3)) (hframes : 1 ≤ R.frames) (hlocals : (st.map fun v => v.category).sum + 12 ≤ R.locals) (k : xW p l e R s m args below meth c D cl A nL Q cells slots nx M (pc + 3) lv st) : xW p l e R s m args below meth c D cl A nL Q cells slots nx M pc lv (.ref a :: st) :=
  fun H locs ls hz hS hR hl => W.objInit F.1.1 F.1.2.1 F.1.2.2.2.1 (F.1.2.2.2.2 _ hlink) (F.1.2.2.2.2 _ hinst) (F.1.2.2.2.2 _ hcode) rfl (by rw [F.1.2.2.1]; exact hl.1) rfl hdg hframes (by show 2 * 0 + _ + 12 ≤ _; omega) (k H locs ls hz hS hR hl)
theorem x_back (F : xF p s m args meth c D cl A cc nL own Ts) {mc ms : Nat} {st0 rest : List Value} {a : Array Value} {H : Heap} {locs : List Loc} {ls : Array Slot} (hz : H.size = nx) (hS : va_S A s.heap H locs) (hR : x_R D cl s A M H) (hl : lv_has ls nL lv) (hr : va_Run p l e R s m args below meth c H locs cells slots mc ms (F0 m pc ls st0) rest (x_Q D cl (x_A M nx) post a) (x_A M nx))
    (kk : ∀ (r : Option Value) (nx' : Nat) (M' : xH), post r nx' M' → xW p l e R s m args below meth c D cl A nL Q (cells + mc) (slots + ms) nx' M' (pc + 3) lv (r.toList ++ rest)) : W p l e R s m args below meth c H locs cells slots Q (F0 m pc ls st0) := by
  intro T hT X
  obtain ⟨v, st₀, t, T', L, h0, X', hL, e1, e2, ⟨⟨o, nx', M', ho, hp, hz1, hR1⟩, hzz, hk⟩, stp⟩ := hr T hT X
  have hA1 : ∀ q, x_A M nx q → A q := x_sub F hz hS hR
  cases ho
  rw [h0] at hzz hk
  obtain ⟨t2, a1, b1⟩ := kk v nx' M' hp T'.heap (locs ++ L) ls (by rw [e1]; exact hz1)
    ⟨Nat.le_trans hS.1 (by rw [e1]; exact hzz), fun q h1 h2 => by rw [e1, hk q (Nat.lt_of_lt_of_le h1 hS.1) (fun z => h2 (hA1 q z))]; exact hS.2.1 q h1 h2, fun q hq => by
      rcases List.mem_append.mp hq with h | h
      · exact hS.2.2 q h
      · exact hA1 _ (hL q h)⟩
    (by rw [e1]; exact (hR1.moved (by rw [← e2]; exact X'.warmed.alike.symm)).weaken (fun q _ _ h => hA1 q h)) hl T' rfl X'
  exact ⟨t2, stp t2 a1, b1⟩
theorem x_invV (F : xF p s m args meth c D cl A cc nL own Ts) {y : MethodName} {bytes : ByteArray} {maxL index n : Nat} {ret : Option FieldType} {ws ws' : List Cond} {rm : Room} {As stk : List Value} {C : String} {T : u_T} {N ci a : Nat} {fs : List Value} (hG : GoodIn Ts (wsV own index C y ws)) (hw : ws = Cond.code y bytes maxL ret :: ws') (hd : y.cls = C ∧ y.cls ≠ "java/lang/invoke/MethodHandle" ∧ y.cls ≠ "java/lang/invoke/VarHandle" ∧ (parseMethodDescriptor y.desc).map (fun d => d.parameters.length) = some n) (hc : cl[ci]? = some (C, T, N)) (hdg : decode cc pc = .ok (.invokevirtual index, 3)) (hRm : rm.frames + 1 ≤ R.frames ∧ 8 + (maxL + 11) + rm.locals ≤ R.locals) (hM : xC l cl y ws rm (.ref a :: As) nx M post) (he : M a = some (.inr (ci, fs))) (hn : As.length = n) (hstk : stk = As.reverse ++ .ref a :: st) (hst8 : (st.map fun v => v.category).sum ≤ 8) (hf : cells + rm.cells ≤ R.cells ∧ slots + rm.slots ≤ R.slots) (kk : ∀ (r : Option Value) (nx' : Nat) (M' : xH), post r nx' M' → xW p l e R s m args below meth c D cl A nL Q (cells + rm.cells) (slots + rm.slots) nx' M' (pc + 3) lv (r.toList ++ st)) : xW p l e R s m args below meth c D cl A nL Q cells slots nx M pc lv stk := by
  intro H locs ls hz hS hR hl
  subst hstk
  exact x_back F hz hS hR hl (va_runV (As := As) (rest := st) F.1 (hM D) (cwV n F.1.2.2.2.2 hG hw rfl rfl hd hRm) ⟨x_blind, va_recv F.2.1 (x_one (q := (a, .inr (ci, fs))) (hR a _ he).1) (q0 := 0) hc rfl, x_pre F hz hS hR⟩ rfl hn hl.1 rfl (lv_room hst8) hdg hf) kk
theorem x_invS (F : xF p s m args meth c D cl A cc nL own Ts) {y : MethodName} {bytes : ByteArray} {maxL index n : Nat} {ret : Option FieldType} {ws ws' : List Cond} {rm : Room} {As stk : List Value} (hG : GoodIn Ts (wsS own index y ws)) (hw : ws = Cond.code y bytes maxL ret :: ws') (hd : y.cls = own ∧ y.cls ≠ "java/lang/invoke/MethodHandle" ∧ y.cls ≠ "java/lang/invoke/VarHandle" ∧ (parseMethodDescriptor y.desc).map (fun d => d.parameters.length) = some n) (hdg : decode cc pc = .ok (.invokestatic index, 3)) (hRm : rm.frames + 1 ≤ R.frames ∧ 8 + (maxL + 11) + rm.locals ≤ R.locals) (hM : xC l cl y ws rm As nx M post) (hn : As.length = n) (hstk : stk = As.reverse ++ st) (hst8 : (st.map fun v => v.category).sum ≤ 8) (hf : cells + rm.cells ≤ R.cells ∧ slots + rm.slots ≤ R.slots) (kk : ∀ (r : Option Value) (nx' : Nat) (M' : xH), post r nx' M' → xW p l e R s m args below meth c D cl A nL Q (cells + rm.cells) (slots + rm.slots) nx' M' (pc + 3) lv (r.toList ++ st)) : xW p l e R s m args below meth c D cl A nL Q cells slots nx M pc lv stk := by
  intro H locs ls hz hS hR hl
  subst hstk
  exact x_back F hz hS hR hl (va_runS (As := As) (rest := st) F.1 (hM D) (cwS n F.1.2.2.2.2 hG hw rfl rfl hd hRm) ⟨x_blind, x_pre F hz hS hR⟩ rfl hn hl.1 rfl (lv_room hst8) hdg hf) kk
theorem x_invI (F : xF p s m args meth c D cl A cc nL own Ts) {y : MethodName} {bytes : ByteArray} {maxL index n : Nat} {ret : Option FieldType} {ws ws' : List Cond} {rm : Room} {As stk : List Value} {a : Nat} (hG : GoodIn Ts ws) (hw : ws = Cond.code y bytes maxL none :: ws') (hini : Cond.initialized y.cls ∈ Ts) (hli : Cond.methodLink own index y ∈ Ts) (him : Cond.instanceMethod y ∈ Ts) (hy : y.name = "<init>") (hd : y.cls ≠ "java/lang/invoke/MethodHandle" ∧ y.cls ≠ "java/lang/invoke/VarHandle" ∧ (parseMethodDescriptor y.desc).map (fun d => d.parameters.length) = some n) (hdg : decode cc pc = .ok (.invokespecial index, 3)) (hRm : rm.frames + 1 ≤ R.frames ∧ 8 + (maxL + 11) + rm.locals ≤ R.locals) (hM : xC l cl y ws rm (.ref a :: As) nx M post) (hn : As.length = n) (hstk : stk = As.reverse ++ .ref a :: st) (hst8 : (st.map fun v => v.category).sum ≤ 8) (hf : cells + rm.cells ≤ R.cells ∧ slots + rm.slots ≤ R.slots) (kk : ∀ (r : Option Value) (nx' : Nat) (M' : xH), post r nx' M' → xW p l e R s m args below meth c D cl A nL Q (cells + rm.cells) (slots + rm.slots) nx' M' (pc + 3) lv (r.toList ++ st)) : xW p l e R s m args below meth c D cl A nL Q cells slots nx M pc lv stk := by
  intro H locs ls hz hS hR hl
  subst hstk
  exact x_back F hz hS hR hl (va_runI (As := As) (rest := st) F.1 (hM D) (cwI n F.1.2.2.2.2 hG hw rfl rfl (F.1.2.2.2.2 _ hini) (F.1.2.2.2.2 _ hli) (F.1.2.2.2.2 _ him) hy hd hRm) ⟨x_blind, x_pre F hz hS hR⟩ rfl hn hl.1 rfl (lv_room hst8) hdg hf) kk
end XC
end
section
/-! THROWS: a point of a walk seen as an entry of its own -/
theorem x_rebase {p : Program} {l : Launch} {e : Env} {R : Room} {s : State} {m : MethodId} {args : Array Value} {below : List Frame} {meth : Method} {c : Code} {T : State} {locs : List Loc} {cells slots : Nat} (X : Stand p l e R s m args below meth c T locs cells slots) {R' : Room} (h1 : R'.frames ≤ R.frames) (h2 : R'.locals ≤ R.locals) (h3 : cells + R'.cells ≤ R.cells) (h4 : slots + R'.slots ≤ R.slots) :
    Stand p l e R' (T.setFrames (.invoking m args :: below)) m args below meth c T [] 0 0 := by
  obtain ⟨g₀, hfr⟩ := X.frames_eq
  have hcur : T.cur < T.threads.size := State.cur_lt_of_frames hfr
  obtain ⟨th, hth, -⟩ := State.frames_cons hfr
  have hf' : (T.setFrames (.invoking m args :: below)).frames = .invoking m args :: below := State.frames_setFrames _ hcur
  have hm' : (T.setFrames (.invoking m args :: below)).vm.method? m = some meth := X.method'
  have hroom : (T.setFrames (.invoking m args :: below)).hasRoom e.platform R' = true := by
    have h := X.room
    simp only [State.hasRoom, Bool.and_eq_true, decide_eq_true_eq] at h ⊢
    obtain ⟨⟨⟨⟨a1, a2, a3, a4, a5, a6⟩, a7⟩, a8⟩, a9⟩ := h
    rw [State.localsInUse_invoking X.frames X.method X.code] at a1 a4 a5
    rw [X.frames, List.length_cons] at a2 a3
    rw [State.localsInUse_invoking hf' hm' X.code, hf', List.length_cons, State.stackLimits_setFrames, State.stackBytes_setFrames, X.limits, X.bytes]
    have hs := X.heapSize
    have hu := X.used
    refine ⟨⟨⟨⟨by omega, by omega, by omega, by omega, by omega, a6⟩, ?_⟩, ?_⟩, X.book⟩
    · show T.heap.size + R'.cells ≤ _; omega
    · show T.slotsUsed + R'.slots ≤ _; omega
  have hhears : (T.setFrames (.invoking m args :: below)).hears m below = true := by
    have h := X.hears
    have hme : ∀ q, T.vm.method? q = s.vm.method? q := X.warmed.alike.method?
    cases below with
    | nil => simpa [State.hears, hme] using h
    | cons f r =>
      cases f <;> simp_all [State.hears, State.code?_eq]
  refine ⟨X.admits, X.cas, X.clock, hf', hroom, hhears, hm', X.code, X.here, X.tail, State.WarmedH.refl _, by rw [State.stackLimits_setFrames], by rw [State.stackBytes_setFrames], ?_⟩
  obtain ⟨th', hth', -⟩ := State.frames_cons hf'
  have hc' : (T.setFrames (.invoking m args :: below)).cur < (T.setFrames (.invoking m args :: below)).threads.size := State.cur_lt_of_frames hf'
  have h := (State.sameButNew.refl (T.setFrames (.invoking m args :: below)) hth').setFrames T.frames hc'
  rw [State.setFrames_setFrames, State.setFrames_self hth] at h
  exact h
/-- nothing that was there has changed, where no slot is named -/
theorem x_kept {s t : State} {k n : Nat} (h : s.sameButNew t [] k n) : ∀ (q : Nat) (cell : Cell), s.heap[q]? = some cell → t.heap[q]? = some cell := by
  intro q cell hq
  obtain ⟨c', h1, h2, h3, h4⟩ := h.2.2.2.2.2 q cell hq
  rw [h1, h2]
  congr 1
  have : c'.slots = cell.slots := by
    apply Array.ext_getElem?
    intro i
    exact h4 i (fun z => by cases z)
  rw [this]
end
section
theorem x_off {l : Launch} {e : Env} (hf : l.flags = pinnedFlags ++ [noTraceFlag]) (ha : l.admits e) : e.platform.stackTraces = false := by
  obtain ⟨-, -, -, -, hp, -⟩ := ha
  rw [hp]
  show l.stackTraces = false
  unfold Launch.stackTraces; rw [hf]; decide
/-- 'throw new X("..")' from a method's entry heap on -/
theorem x_throwW {p : Program} {l : Launch} {e : Env} {R : Room} {s : State} {m : MethodId} {args : Array Value} {below : List Frame} {meth : Method} {c : Code} {cc : ByteArray} {own X tx : String} {ia ib ic q pc : Nat} {names : List String} {ls : Array Slot} {st : List Value}
    (hfl : l.flags = pinnedFlags ++ [noTraceFlag]) (hx : p.tables.exec = Jvm.exec) (hb : c.code = cc) (hown : s.vm.findClass own = some m.cls) (hml : c.maxLocals = ls.size) (hex : c.exceptionTable.isEmpty = true) (hlocks : meth.locks = false)
    (hcl : (Cond.classLink own ia X).before args s = true) (hins : (Cond.instantiable X 6).before args s = true) (hini : (Cond.initialized X).before args s = true) (hZ : vk_R own ib tx q s)
    (hat : ∀ a ∈ Bundle.ownAtoms own ic X names, a.before args s = true) (hcls : Bundle.fit X = true) (hnames : ∀ n ∈ names, Bundle.fit n = true)
    (d0 : decode cc pc = .ok (.new ia, 3)) (d3 : decode cc (pc + 3) = .ok (.dup, 1)) (d4 : decode cc (pc + 3 + 1) = .ok (.ldc ib, 2)) (d6 : decode cc (pc + 3 + 1 + 2) = .ok (.invokespecial ic, 3)) (d9 : decode cc (pc + 3 + 1 + 2 + 3) = .ok (.athrow, 1))
    (hc : 1 ≤ R.cells) (hsl : 6 ≤ R.slots) (hfr : names.length + 3 < R.frames) (hlo : ((st.map fun v => v.category).sum + 1) + (13 * (names.length + 1) + 42) ≤ R.locals) :
    W p l e R s m args below meth c s.heap [] 0 0 (fun t => ∃ (a : Addr) (ce : Cell), t.status = .running ∧ Ended t below (.threw a) ∧ s.WarmedH t.vm ∧ s.sameButNew ({ t with vm := s.vm } : State) [] 1 6 ∧ t.heap[a]? = some ce ∧ ce.vm = .none ∧ s.vm.findClass X = some ce.cls) (F0 m pc ls st) := by
  obtain ⟨cX, kX, hfX, hkX, -⟩ := Cond.instantiable_spec hins
  refine W.newcK hx hb hown hcl hins hini rfl d0 (by omega) (by omega) hfX rfl fun H' kC hkC e1 z1 o1 => ?_
  cases hkX.symm.trans hkC
  refine lv_dup hx hb d3 rfl ?_
  refine va_ldcS hx hb hown hZ d4 ?_
  intro T hT X0
  have htr := x_off hfl X0.admits
  obtain ⟨U, h1, h2, h3, h4, h5, ce, h6, h7⟩ := X0.ctorThrowS hx htr (cls := X) (names := names) (ic := ic) hown hcls hnames hat (fun x hx => by cases hx) (a := s.heap.size) hfX hkX (by rw [hT]; exact e1) (Nat.le_refl _) (msg := .ref q) rfl
    (g := F0 m (pc + 3 + 1 + 2) ls (.ref q :: .ref s.heap.size :: .ref s.heap.size :: st)) rfl (by rw [hml]) rfl rfl rfl (by rw [hb]; exact d6) (by rw [hb]; exact d9) (fun x hx => by
      have : c.exceptionTable.toList = [] := by simpa using hex
      rw [this] at hx; cases hx) hfr (by show 2 * 0 + (1 + (st.map fun v => v.category).sum) + _ ≤ _; omega) hlocks
  exact ⟨U, h1, s.heap.size, ce, h2, h3, h4, h5, h6, h7.vm, h7.cls⟩
/-! contracts of methods that throw: the name of the class of what is thrown, the cells behind it, the world behind it -/
def x_QT (D : va_G) (cl : List vw_C) (A : Nat → Prop) (E : String) (post : Nat → xH → Prop) (st : State) (o : Outcome) (t : State) : Prop :=
  (∃ (x : Addr) (ce : Cell) (nx : Nat) (M : xH), o = .threw x ∧ t.heap[x]? = some ce ∧ ce.vm = .none ∧ t.vm.findClass E = some ce.cls ∧ post nx M ∧ t.heap.size = nx ∧ x_R D cl t A M t.heap) ∧ va_F A st t
def x_ET (A : Nat → Prop) (st : State) (t : State) (mc ms : Nat) : Prop := ∃ L : List Loc, (st.WarmedH t.vm ∧ st.sameButNew ({ t with vm := st.vm } : State) L mc ms) ∧ ∀ q ∈ L, A q.base
def x_MQT (below : List Frame) (D : va_G) (cl : List vw_C) (A : Nat → Prop) (E : String) (post : Nat → xH → Prop) (s : State) (mc ms : Nat) : State → Prop := fun t => ∃ o, t.status = .running ∧ Ended t below o ∧ x_QT D cl A E post s o t ∧ x_ET A s t mc ms
def xT_ (l : Launch) (cl : List vw_C) (y : MethodName) (ws : List Cond) (rm : Room) (As : List Value) (nx : Nat) (M : xH) (E : String) (post : Nat → xH → Prop) : Prop :=
  ∀ D : va_G, MetFree l y (headSpec ws rm) (x_Pc D cl As nx M) (fun _ _ _ _ _ => True) (fun _ st o t => x_QT D cl (x_A M nx) E post st o t ∧ x_ET (x_A M nx) st t rm.cells rm.slots)
theorem xT_.of {l : Launch} {cl : List vw_C} {y : MethodName} {ws ws' : List Cond} {rm : Room} {As : List Value} {nx : Nat} {M : xH} {E : String} {post : Nat → xH → Prop} {cc : ByteArray} {maxL : Nat} {ret : Option FieldType} (hy : plainName y.cls = true) (hw : ws = Cond.code y cc maxL ret :: ws') (hlen : (lg_sl As).length ≤ maxL)
    (body : ∀ (p : Program) (e : Env) (s : State) (m : MethodId) (args : Array Value) (below : List Frame) (meth : Method) (c : Code) (D : va_G), xF p s m args meth c D cl (x_A M nx) cc maxL y.cls ws → meth.sig.returnType = ret → c.exceptionTable.isEmpty = true →
      xW p l e rm s m args below meth c D cl (x_A M nx) maxL (x_MQT below D cl (x_A M nx) E post s rm.cells rm.slots) 0 0 nx M 0 (lv_args 0 As) []) : xT_ l cl y ws rm As nx M E post := by
  intro D
  refine MetFree.of_bodyS (code := cc) (maxLocals := maxL) (ret := ret) hy ?_ ?_
  · intro args s m h hn
    obtain ⟨meth, c, h1, h2, h3, h4, h5, h6, -, -⟩ := Cond.code_spec hn (atoms_spec (ws := ws) h _ (by rw [hw]; exact List.mem_cons_self))
    exact ⟨meth, c, h1, h2, h3, h4, h5, h6⟩
  · intro p e s m args below meth c s₁ B hml hv _
    obtain ⟨rfl, hsz, hK, hR, hE⟩ := hv
    have hts := atoms_spec (ws := ws) B.pre
    have hown : s.vm.findClass y.cls = some m.cls := findClass_of_methodNamed B.named
    have hexc : c.exceptionTable.isEmpty = true := B.noHandlers (hts _ (by rw [hw]; exact List.mem_cons_self))
    have K := body p e s m As.toArray below meth c D ⟨⟨B.exec, B.bytes, hml, hown, hts⟩, hK, fun q h => Or.inr (by omega), B.notSynchronized, hE⟩ B.returns hexc
    have hh0 : s₁.heap = s.heap := by rw [B.state]; rfl
    have K2 : W p l e rm s m As.toArray below meth c s.heap [] 0 0 (x_MQT below D cl (x_A M nx) E post s rm.cells rm.slots) (entryFrame m As.toArray maxL) := by
      rw [lg_entry_eq]
      exact K s.heap [] _ hsz va_S.rf (fun a e ha => ⟨(hR a e ha).1, Or.inl ⟨e, ha⟩⟩) (lv_entry As hlen)
    obtain ⟨t, a1, o, b1, b2, b3⟩ := K2 s₁ hh0 (Stand.of_body B)
    exact ⟨t, o, a1, b1, b2, b3⟩
section XTHR
variable {p : Program} {l : Launch} {e : Env} {R : Room} {s : State} {m : MethodId} {args : Array Value} {below : List Frame} {meth : Method} {c : Code} {D : va_G} {cl : List vw_C} {A : Nat → Prop} {nL : Nat} {Q : State → Prop} {cells slots nx : Nat} {M : xH} {pc : Nat} {lv : List (Nat × Value)} {st : List Value}
variable {cc : ByteArray} {own : String} {Ts : List Cond}
theorem x_same {T t : State} {m : MethodId} {args : Array Value} {below : List Frame} {k n : Nat} (h : (T.setFrames (.invoking m args :: below)).sameButNew ({ t with vm := T.vm } : State) [] k n) : T.sameButNew ({ t with vm := T.vm } : State) [] k n := by
  obtain ⟨h1, h2⟩ := h
  rw [State.setFrames_setFrames] at h1
  exact ⟨h1, h2⟩
/-- the throw, over the world: E is thrown, the world is as it was -/
theorem x_throw (F : xF p s m args meth c D cl A cc nL own Ts) {X tx : String} {ia ib ic : Nat} {names : List String} {E : String} {post : Nat → xH → Prop} {rc rs : Nat} (hE : E = X)
    (hfl : l.flags = pinnedFlags ++ [noTraceFlag]) (hex : c.exceptionTable.isEmpty = true)
    (hcl : Cond.classLink own ia X ∈ Ts) (hins : Cond.instantiable X 6 ∈ Ts) (hini : Cond.initialized X ∈ Ts) (hg : ∀ w ∈ Ts, (w.onTables && w.keeps) = true ∨ ∃ ty, w = .arrayClass ty) (hZ : ∃ q, vk_R own ib tx q s)
    (hat : ∀ (args' : Array Value) (U : State), x_E A U U.heap → (∀ w ∈ Ts, w.before args' U = true) → ∀ a ∈ Bundle.ownAtoms own ic X names, a.before args' U = true) (hcls : Bundle.fit X = true) (hnames : ∀ n ∈ names, Bundle.fit n = true)
    (d0 : decode cc pc = .ok (.new ia, 3)) (d3 : decode cc (pc + 3) = .ok (.dup, 1)) (d4 : decode cc (pc + 3 + 1) = .ok (.ldc ib, 2)) (d6 : decode cc (pc + 3 + 1 + 2) = .ok (.invokespecial ic, 3)) (d9 : decode cc (pc + 3 + 1 + 2 + 3) = .ok (.athrow, 1))
    (hc : cells + 1 ≤ R.cells) (hsl : slots + 6 ≤ R.slots) (hfr : names.length + 3 < R.frames) (hlo : ((st.map fun v => v.category).sum + 1) + (13 * (names.length + 1) + 42) ≤ R.locals) (hrc : cells + 1 ≤ rc) (hrs : slots + 6 ≤ rs) (hp : ∀ n', nx ≤ n' → post n' M) :
    xW p l e R s m args below meth c D cl A nL (x_MQT below D cl A E post s rc rs) cells slots nx M pc lv st := by
  intro H locs ls hz hS hR hl T hT X0
  subst hE
  have X1 := x_rebase X0 (R' := { frames := R.frames, cells := 1, slots := 6, locals := R.locals }) (Nat.le_refl _) (Nat.le_refl _) hc hsl
  have hW0 : s.WarmedH (T.setFrames (.invoking m args :: below)).vm := X0.warmed
  have hts : ∀ w ∈ Ts, w.before args (T.setFrames (.invoking m args :: below)) = true := fun w hw => word_at hW0 (hg w hw) (F.1.2.2.2.2 w hw)
  have hEE : x_E A (T.setFrames (.invoking m args :: below)) (T.setFrames (.invoking m args :: below)).heap := F.2.2.2.2.step hW0 (fun q h1 h2 => by show T.heap[q]? = _; rw [hT]; exact hS.2.1 q h1 h2) (fun _ h => h)
  obtain ⟨q, hq⟩ := hZ
  have K := x_throwW (R := { frames := R.frames, cells := 1, slots := 6, locals := R.locals }) (p := p) (l := l) (e := e) (s := T.setFrames (.invoking m args :: below)) (below := below) (meth := meth) (c := c) (ls := ls) (st := st) (pc := pc) hfl F.1.1 F.1.2.1 (by show T.vm.findClass own = _; rw [X0.warmed.alike.findClass]; exact F.1.2.2.2.1) (by rw [F.1.2.2.1]; exact hl.1.symm) hex F.2.2.2.1 (hts _ hcl) (hts _ hins) (hts _ hini) (hq.warm hW0) (hat args _ hEE hts) hcls hnames d0 d3 d4 d6 d9 (Nat.le_refl 1) (Nat.le_refl 6) hfr hlo
  obtain ⟨t, a1, a, ce, b1, b2, b3, b4, b5, b6, b7⟩ := K T rfl X1
  have hWt : s.WarmedH t.vm := State.WarmedH.trans X0.warmed b3
  have hk := x_kept b4
  have hkH : ∀ (q : Nat) (cell : Cell), H[q]? = some cell → t.heap[q]? = some cell := fun q cell h => hk q cell (by show T.heap[q]? = _; rw [hT]; exact h)
  have hkq : ∀ q : Nat, q < H.size → t.heap[q]? = H[q]? := fun q h => by
    have := Array.getElem?_eq_getElem h
    rw [this, hkH q _ this]
  have hzt : H.size ≤ t.heap.size := by
    have h : T.heap.size ≤ t.heap.size := b4.2.1
    rw [hT] at h; exact h
  refine ⟨t, a1, .threw a, b1, b2, ⟨⟨a, ce, t.heap.size, M, rfl, b5, b6, ?_, hp _ (by omega), rfl, fun b f hb => ⟨((hR b f hb).1.kept (hkq b ((hR b f hb).1.lt))).moved hWt.alike, (hR b f hb).2⟩⟩, ?_⟩, ?_⟩
  · rw [b3.alike.findClass]; exact b7
  · exact ⟨Nat.le_trans hS.1 hzt, fun q h1 h2 => (hkq q (Nat.lt_of_lt_of_le h1 hS.1)).trans (hS.2.1 q h1 h2)⟩
  · refine ⟨locs ++ [], ⟨hWt, ?_⟩, fun q hq => hS.2.2 q (by simpa using hq)⟩
    exact (X0.same.trans ((x_same b4).setVm s.vm)).mono hrc hrs
end XTHR
end
section
section XCT
variable {p : Program} {l : Launch} {e : Env} {R : Room} {s : State} {m : MethodId} {args : Array Value} {below : List Frame} {meth : Method} {c : Code} {D : va_G} {cl : List vw_C} {A : Nat → Prop} {nL : Nat} {Q : State → Prop} {cells slots nx : Nat} {M : xH} {pc : Nat} {lv : List (Nat × Value)} {st : List Value}
variable {cc : ByteArray} {own : String} {Ts : List Cond}
/-- a call, from its making on, to its end -/
theorem x_go {T : State} {locs : List Loc} (X : Stand p l e R s m args below meth c T locs cells slots) {g : JFrame} (hg : g.method = m) (hsize : g.locals.size = c.maxLocals) {ig : Instr} {len : Nat} (hdg : decode c.code g.pc = .ok (ig, len)) (hW : 2 * g.monitorRoom + (g.stack.map fun v => v.category).sum ≤ 8)
    {mk : MethodId} {a : Array Value} {y : MethodName} {bytes : ByteArray} {maxL : Nat} {ret : Option FieldType} {ws : List Cond} {rm : Room} {P : Array Value → State → Prop} {Qm : Array Value → State → Outcome → State → Prop} (hn : T.methodNamed? y = some mk) (hM : MetFree l y (headSpec ws rm) P (fun _ _ _ _ _ => True) Qm)
    (hws : ∀ w ∈ ws, w.before a T = true) (hcode : Cond.code y bytes maxL ret ∈ ws) (hini : (Cond.initialized y.cls).before a T = true) (hfr : rm.frames + 1 ≤ R.frames) (hlo : 8 + (maxL + 11) + rm.locals ≤ R.locals) (hc : cells + rm.cells ≤ R.cells) (hs : slots + rm.slots ≤ R.slots) (hP : P a (T.calling g mk a)) :
    ∃ o s₂, Steps p.tables e below (doInvoke e (T.setTop g) [] mk a).1 s₂ ∧ Ended s₂ (.java g :: below) o ∧ Qm a (T.calling g mk a) o s₂ := by
  obtain ⟨methY, cY, hmY, hcY, -, hlY, -, -, -, -⟩ := Cond.code_spec hn (hws _ hcode)
  obtain ⟨kY, hkY, -⟩ := className_of_methodNamed hn
  have hinitY : kY.init = .initialized := Cond.initialized_spec (findClass_of_methodNamed hn) hkY hini
  have h : At T g.method c below := by rw [hg]; exact X.here
  have happ : (headSpec ws rm).appliesLoose y e.platform (T.calling g mk a) = true :=
    Spec.appliesLoose_calling (g := g) h hdg hn hkY hinitY (X.room_calling (g := g) (R' := rm) hsize hmY hcY hfr (by rw [hlY]; omega) hc hs) (atoms_intro hws)
  obtain ⟨mid, hmid⟩ := h.above
  have hfrs : (T.setTop g).frames = (.java g :: mid) ++ below := by rw [State.frames_setTop' g h.top, hmid]; rfl
  obtain ⟨o, s₂, hsteps, -, hend, hq⟩ := Steps.callFree hM p X.admits X.cas X.clock (acts := []) hfrs happ hP trivial
  rw [State.frames_setTop' g h.top, X.tail] at hend
  exact ⟨o, s₂, hsteps, hend, hq⟩
/-- what a call that throws leaves in the caller: the walk stands, with the note of the throw over its frame -/
theorem x_outT {T : State} {H : Heap} {locs : List Loc} (F : xF p s m args meth c D cl A cc nL own Ts) (hT : T.heap = H) (hz : H.size = nx) (hS : va_S A s.heap H locs) (hR : x_R D cl s A M H) (X : Stand p l e R s m args below meth c T locs cells slots) {g : JFrame} (hg : g.method = m) {mk : MethodId} {a : Array Value} {rm : Room} {E : String} {post : Nat → xH → Prop} {o : Outcome} {s₂ : State}
    (hend : Ended s₂ (.java g :: below) o) (hq : x_QT D cl (x_A M nx) E post (T.calling g mk a) o s₂ ∧ x_ET (x_A M nx) (T.calling g mk a) s₂ rm.cells rm.slots) :
    ∃ (x : Addr) (ce : Cell) (T' : State) (locs' : List Loc) (nx' : Nat) (M' : xH), Stand p l e R s m args below meth c T' locs' (cells + rm.cells) (slots + rm.slots) ∧ T'.heap[x]? = some ce ∧ ce.vm = .none ∧ s.vm.findClass E = some ce.cls ∧ post nx' M' ∧ T'.heap.size = nx' ∧ x_R D cl s A M' T'.heap ∧ va_S A s.heap T'.heap locs' ∧ s₂ = (T'.setTop g).pushFrame (.throwing x) := by
  obtain ⟨⟨⟨x, ce, nx', M', rfl, q1, q2, q3, q4, q5, q6⟩, qf⟩, L, ⟨hW2, hsame⟩, hL⟩ := hq
  obtain ⟨T', X', hW', -, ht⟩ := X.outOfThrown hg hend hW2 hsame
  have hvm : s₂.vm = T'.vm := by rw [ht]; exact throwing_vm T' g x
  have hhp : s₂.heap = T'.heap := by rw [ht]; exact throwing_heap T' g x
  have hal : s.vm.Alike s₂.vm := by rw [hvm]; exact X'.warmed.alike
  have hA1 := x_sub F hz hS hR
  have h1 : H.size ≤ s₂.heap.size := by have h : T.heap.size ≤ s₂.heap.size := qf.1; rw [hT] at h; exact h
  have h2 : ∀ q : Nat, q < H.size → ¬ x_A M nx q → s₂.heap[q]? = H[q]? := fun q hq hn => by
    have h : s₂.heap[q]? = T.heap[q]? := qf.2 q (by show q < T.heap.size; rw [hT]; exact hq) hn
    rw [hT] at h; exact h
  refine ⟨x, ce, T', locs ++ L, nx', M', X', by rw [← hhp]; exact q1, q2, by rw [← hal.findClass]; exact q3, q4, by rw [← hhp]; exact q5, by rw [← hhp]; exact (q6.moved hal.symm).weaken (fun q _ _ h => hA1 q h), ?_, ht⟩
  rw [← hhp]
  exact ⟨Nat.le_trans hS.1 h1, fun q g1 g2 => (h2 q (Nat.lt_of_lt_of_le g1 hS.1) (fun z => g2 (hA1 q z))).trans (hS.2.1 q g1 g2), fun q hq => by
    rcases List.mem_append.mp hq with h | h
    · exact hS.2.2 q h
    · exact hA1 _ (hL q h)⟩
/-- ... and if it has no handler, the caller throws it on -/
theorem x_on {T' : State} {locs' : List Loc} (F : xF p s m args meth c D cl A cc nL own Ts) {g : JFrame} (hg : g.method = m) (hlk : g.locked = none) (hen : g.entered = []) (hex : c.exceptionTable.isEmpty = true) {x : Addr} {ce : Cell} {nx' : Nat} {M' : xH} {E : String} {post : Nat → xH → Prop} {rc rs : Nat} (hrc : cells ≤ rc) (hrs : slots ≤ rs)
    (X' : Stand p l e R s m args below meth c T' locs' cells slots) (h1 : T'.heap[x]? = some ce) (h2 : ce.vm = .none) (h3 : s.vm.findClass E = some ce.cls) (h4 : post nx' M') (h5 : T'.heap.size = nx') (h6 : x_R D cl s A M' T'.heap) (h7 : va_S A s.heap T'.heap locs') :
    ∃ t, Steps p.tables e below ((T'.setTop g).pushFrame (.throwing x)) t ∧ x_MQT below D cl A E post s rc rs t := by
  obtain ⟨a1, a2, a3, a4, a5⟩ := X'.leaveThrown x hg hlk hen (fun z hz => by
    have : c.exceptionTable.toList = [] := by simpa using hex
    rw [this] at hz; cases hz) F.2.2.2.1
  refine ⟨_, a1, .threw x, a2, a3, ⟨⟨x, ce, nx', M', rfl, h1, h2, by rw [a4.alike.findClass]; exact h3, h4, h5, h6.moved a4.alike⟩, h7.1, h7.2.1⟩, locs', ⟨a4, a5.mono hrc hrs⟩, h7.2.2⟩
theorem x_invVT (F : xF p s m args meth c D cl A cc nL own Ts) {y : MethodName} {bytes : ByteArray} {maxL index n : Nat} {ret : Option FieldType} {ws ws' : List Cond} {rm : Room} {As stk : List Value} {C : String} {T0 : u_T} {N ci a : Nat} {fs : List Value} {E : String} {post0 post : Nat → xH → Prop} {rc rs : Nat}
    (hG : GoodIn Ts (wsV own index C y ws)) (hw : ws = Cond.code y bytes maxL ret :: ws') (hd : y.cls = C ∧ y.cls ≠ "java/lang/invoke/MethodHandle" ∧ y.cls ≠ "java/lang/invoke/VarHandle" ∧ (parseMethodDescriptor y.desc).map (fun d => d.parameters.length) = some n) (hc : cl[ci]? = some (C, T0, N)) (hdg : decode cc pc = .ok (.invokevirtual index, 3)) (hRm : rm.frames + 1 ≤ R.frames ∧ 8 + (maxL + 11) + rm.locals ≤ R.locals)
    (hM : xT_ l cl y ws rm (.ref a :: As) nx M E post0) (he : M a = some (.inr (ci, fs))) (hn : As.length = n) (hstk : stk = As.reverse ++ .ref a :: st) (hst8 : (st.map fun v => v.category).sum ≤ 8) (hf : cells + rm.cells ≤ R.cells ∧ slots + rm.slots ≤ R.slots) (hex : c.exceptionTable.isEmpty = true) (hrc : cells + rm.cells ≤ rc) (hrs : slots + rm.slots ≤ rs) (hp : ∀ n' M', post0 n' M' → post n' M') :
    xW p l e R s m args below meth c D cl A nL (x_MQT below D cl A E post s rc rs) cells slots nx M pc lv stk := by
  intro H locs ls hz hS hR hl T hT X
  subst hstk
  obtain ⟨⟨-, -, -, -, hws, hcw, hcode, hini, hy, hlen, hlk⟩, hin, hse⟩ := cwV (R := R) n F.1.2.2.2.2 hG hw (rfl : rm.cells = rm.cells) rfl hd hRm
  obtain ⟨cellB, hcB, hoB, hclB⟩ := va_recv F.2.1 (x_one (q := (a, .inr (ci, fs))) (hR a _ he).1) (q0 := 0) hc rfl
  obtain ⟨mk, methM, hnamed, hmethM, hstM, habM⟩ := Cond.instanceMethod_spec hin
  obtain ⟨methM', cM, hmethM', -, -, -, -, -, -, hsigM⟩ := Cond.code_spec hnamed hcode
  cases hmethM.symm.trans hmethM'
  obtain ⟨c2, r2, m2, q1, q2, q3, q4, kP, hkP, hkPi⟩ := Cond.selects_spec hse
  cases hclB.symm.trans q1
  cases (State.methodFound?_of_named hnamed hy).symm.trans q2
  cases hnamed.symm.trans q3
  have hselP : selectMethod e.platform s.vm cellB.cls mk = .method mk := by rw [Launch.admits_selectMethod X.admits]; exact q4
  obtain ⟨vm₁, X₁, hstep₁⟩ := X.invokevirtual F.1.1 F.1.2.2.2.1 hlk hnamed hmethM hstM hkP hkPi hy (a := a) (cell := cellB) (by rw [hT]; exact hcB)
    (fun z h => by rw [h] at hoB; cases hoB) hselP hmethM habM hkP hkPi (g := F0 m pc ls (As.reverse ++ .ref a :: st)) rfl (argsL := As) (rest := st) (hn.trans (hlen _ hsigM)) rfl (by rw [F.1.2.1]; exact hdg)
  have hml : (F0 m pc ls st).locals.size = c.maxLocals := by rw [F.1.2.2.1]; exact hl.1
  obtain ⟨o, s₂, hsteps, hend, hq⟩ := x_go X₁ (g := F0 m pc ls st) rfl hml (by rw [F.1.2.1]; exact hdg) (lv_room hst8) (X₁.named hnamed) (hM D) (fun w hw2 => hws w hw2 _ _ X₁.warmed) hcw (word_at X₁.warmed (Or.inl (by first | rfl | simp [Cond.onTables, Cond.keeps, Cond.steady])) hini) hRm.1 hRm.2 hf.1 hf.2
    (x_blind _ _ _ _ (x_pre F (As := .ref a :: As) hz hS hR (T.setVm vm₁) hT X₁.warmed))
  obtain ⟨x, ce, T', locs', nx', M', X', b1, b2, b3, b4, b5, b6, b7, rfl⟩ := x_outT F (T := T.setVm vm₁) hT hz hS hR X₁ (g := F0 m pc ls st) rfl hend hq
  obtain ⟨t, c1, c2⟩ := x_on F (g := F0 m pc ls st) rfl rfl rfl hex hrc hrs X' b1 b2 b3 (hp _ _ b4) b5 b6 b7
  exact ⟨t, hstep₁ _ fun acts => by rw [doInvoke_state]; exact hsteps.trans c1, c2⟩
theorem x_invST (F : xF p s m args meth c D cl A cc nL own Ts) {y : MethodName} {bytes : ByteArray} {maxL index n : Nat} {ret : Option FieldType} {ws ws' : List Cond} {rm : Room} {As stk : List Value} {E : String} {post0 post : Nat → xH → Prop} {rc rs : Nat}
    (hG : GoodIn Ts (wsS own index y ws)) (hw : ws = Cond.code y bytes maxL ret :: ws') (hd : y.cls = own ∧ y.cls ≠ "java/lang/invoke/MethodHandle" ∧ y.cls ≠ "java/lang/invoke/VarHandle" ∧ (parseMethodDescriptor y.desc).map (fun d => d.parameters.length) = some n) (hdg : decode cc pc = .ok (.invokestatic index, 3)) (hRm : rm.frames + 1 ≤ R.frames ∧ 8 + (maxL + 11) + rm.locals ≤ R.locals)
    (hM : xT_ l cl y ws rm As nx M E post0) (hn : As.length = n) (hstk : stk = As.reverse ++ st) (hst8 : (st.map fun v => v.category).sum ≤ 8) (hf : cells + rm.cells ≤ R.cells ∧ slots + rm.slots ≤ R.slots) (hex : c.exceptionTable.isEmpty = true) (hrc : cells + rm.cells ≤ rc) (hrs : slots + rm.slots ≤ rs) (hp : ∀ n' M', post0 n' M' → post n' M') :
    xW p l e R s m args below meth c D cl A nL (x_MQT below D cl A E post s rc rs) cells slots nx M pc lv stk := by
  intro H locs ls hz hS hR hl T hT X
  subst hstk
  obtain ⟨⟨-, -, -, -, hws, hcw, hcode, hini, hy, hlen, hlk⟩, hstt⟩ := cwS (R := R) n F.1.2.2.2.2 hG hw (rfl : rm.cells = rm.cells) rfl hd hRm
  obtain ⟨mk, hnamed⟩ := Cond.code_named hcode
  obtain ⟨methM, cM, hmethM, -, -, -, -, -, -, hsigM⟩ := Cond.code_spec hnamed hcode
  have hstatic : methM.isStatic = true := Cond.static_spec hnamed hmethM hstt
  obtain ⟨kP, hkP, -⟩ := className_of_methodNamed hnamed
  have hinitP : kP.init = .initialized := Cond.initialized_spec (findClass_of_methodNamed hnamed) hkP hini
  obtain ⟨vm₁, X₁, hstep₁⟩ := X.invokestatic F.1.1 F.1.2.2.2.1 hlk hnamed hmethM hstatic hkP hinitP hy (g := F0 m pc ls (As.reverse ++ st)) rfl (argsL := As) (rest := st) (hn.trans (hlen _ hsigM)) rfl (by rw [F.1.2.1]; exact hdg)
  have hml : (F0 m pc ls st).locals.size = c.maxLocals := by rw [F.1.2.2.1]; exact hl.1
  obtain ⟨o, s₂, hsteps, hend, hq⟩ := x_go X₁ (g := F0 m pc ls st) rfl hml (by rw [F.1.2.1]; exact hdg) (lv_room hst8) (X₁.named hnamed) (hM D) (fun w hw2 => hws w hw2 _ _ X₁.warmed) hcw (word_at X₁.warmed (Or.inl (by first | rfl | simp [Cond.onTables, Cond.keeps, Cond.steady])) hini) hRm.1 hRm.2 hf.1 hf.2
    (x_blind _ _ _ _ (x_pre F (As := As) hz hS hR (T.setVm vm₁) hT X₁.warmed))
  obtain ⟨x, ce, T', locs', nx', M', X', b1, b2, b3, b4, b5, b6, b7, rfl⟩ := x_outT F (T := T.setVm vm₁) hT hz hS hR X₁ (g := F0 m pc ls st) rfl hend hq
  obtain ⟨t, c1, c2⟩ := x_on F (g := F0 m pc ls st) rfl rfl rfl hex hrc hrs X' b1 b2 b3 (hp _ _ b4) b5 b6 b7
  exact ⟨t, hstep₁ _ fun acts => by rw [doInvoke_state]; exact hsteps.trans c1, c2⟩
end XCT
end
section
/-! names, written by wip/gen/names.py out of the claim's own listing -/
def RC : String := "GoodsTree$Codes"
def FC : u_T := fun k => match k with
  | _ => ("", "", "", false)
def tC : Nat → FieldType := fun k => match k with
  | _ => .int
theorem nC : ∀ a, a < 0 → ∀ b, b < 0 → a ≠ b → (FC a).2.1 ≠ (FC b).2.1 := by decide +kernel
theorem tC_ok : ∀ k, k < 0 → parseFieldDescriptor (FC k).2.2.1 = some (tC k) := by decide +kernel
def RF : String := "GoodsTree$Findings"
def FF : u_T := fun k => match k with
  | 0 => ("GoodsTree$Findings", "codes", "[J", true)
  | 1 => ("GoodsTree$Findings", "points", "[I", true)
  | _ => ("GoodsTree$Findings", "size", "I", false)
def tF : Nat → FieldType := fun k => match k with
  | 0 => .array (.long)
  | 1 => .array (.int)
  | _ => .int
theorem nF : ∀ a, a < 3 → ∀ b, b < 3 → a ≠ b → (FF a).2.1 ≠ (FF b).2.1 := by decide +kernel
theorem tF_ok : ∀ k, k < 3 → parseFieldDescriptor (FF k).2.2.1 = some (tF k) := by decide +kernel
def RP : String := "GoodsTree$Pairs"
def FP : u_T := fun k => match k with
  | 0 => ("GoodsTree$Pairs", "editions", "[I", true)
  | 1 => ("GoodsTree$Pairs", "codes", "[J", true)
  | 2 => ("GoodsTree$Pairs", "marks", "[I", true)
  | 3 => ("GoodsTree$Pairs", "others", "[J", true)
  | _ => ("GoodsTree$Pairs", "size", "I", false)
def tP : Nat → FieldType := fun k => match k with
  | 0 => .array (.int)
  | 1 => .array (.long)
  | 2 => .array (.int)
  | 3 => .array (.long)
  | _ => .int
theorem nP : ∀ a, a < 5 → ∀ b, b < 5 → a ≠ b → (FP a).2.1 ≠ (FP b).2.1 := by decide +kernel
theorem tP_ok : ∀ k, k < 5 → parseFieldDescriptor (FP k).2.2.1 = some (tP k) := by decide +kernel
def RR : String := "GoodsTree$TextReader"
def FR : u_T := fun k => match k with
  | 0 => ("GoodsTree$TextReader", "signs", "[C", true)
  | 1 => ("GoodsTree$TextReader", "words", "[J", true)
  | 2 => ("GoodsTree$TextReader", "wordCount", "I", false)
  | 3 => ("GoodsTree$TextReader", "length", "I", false)
  | 4 => ("GoodsTree$TextReader", "place", "I", false)
  | 5 => ("GoodsTree$TextReader", "failureKind", "I", false)
  | _ => ("GoodsTree$TextReader", "failurePlace", "I", false)
def tR : Nat → FieldType := fun k => match k with
  | 0 => .array (.char)
  | 1 => .array (.long)
  | 2 => .int
  | 3 => .int
  | 4 => .int
  | 5 => .int
  | _ => .int
theorem nR : ∀ a, a < 7 → ∀ b, b < 7 → a ≠ b → (FR a).2.1 ≠ (FR b).2.1 := by decide +kernel
theorem tR_ok : ∀ k, k < 7 → parseFieldDescriptor (FR k).2.2.1 = some (tR k) := by decide +kernel
def RT : String := "GoodsTree$Tree"
def FT : u_T := fun k => match k with
  | 0 => ("GoodsTree$Tree", "codes", "[J", true)
  | 1 => ("GoodsTree$Tree", "dashes", "[I", true)
  | 2 => ("GoodsTree$Tree", "parents", "[I", true)
  | 3 => ("GoodsTree$Tree", "children", "[I", true)
  | 4 => ("GoodsTree$Tree", "wordCounts", "[I", true)
  | 5 => ("GoodsTree$Tree", "words", "[J", true)
  | 6 => ("GoodsTree$Tree", "size", "I", false)
  | _ => ("GoodsTree$Tree", "chapters", "I", false)
def tT : Nat → FieldType := fun k => match k with
  | 0 => .array (.long)
  | 1 => .array (.int)
  | 2 => .array (.int)
  | 3 => .array (.int)
  | 4 => .array (.int)
  | 5 => .array (.long)
  | 6 => .int
  | _ => .int
theorem nT : ∀ a, a < 8 → ∀ b, b < 8 → a ≠ b → (FT a).2.1 ≠ (FT b).2.1 := by decide +kernel
theorem tT_ok : ∀ k, k < 8 → parseFieldDescriptor (FT k).2.2.1 = some (tT k) := by decide +kernel
def RG : String := "GoodsTree"
def FG : u_T := fun k => match k with
  | 0 => ("GoodsTree", "reader", "LGoodsTree$TextReader;", true)
  | 1 => ("GoodsTree", "trees", "[LGoodsTree$Tree;", true)
  | 2 => ("GoodsTree", "notes", "LGoodsTree$Pairs;", true)
  | 3 => ("GoodsTree", "links", "LGoodsTree$Pairs;", true)
  | 4 => ("GoodsTree", "findings", "LGoodsTree$Findings;", true)
  | 5 => ("GoodsTree", "spare", "LGoodsTree$Tree;", false)
  | _ => ("GoodsTree", "present", "I", false)
def tG : Nat → FieldType := fun k => match k with
  | 0 => .object "GoodsTree$TextReader"
  | 1 => .array (.object "GoodsTree$Tree")
  | 2 => .object "GoodsTree$Pairs"
  | 3 => .object "GoodsTree$Pairs"
  | 4 => .object "GoodsTree$Findings"
  | 5 => .object "GoodsTree$Tree"
  | _ => .int
theorem nG : ∀ a, a < 7 → ∀ b, b < 7 → a ≠ b → (FG a).2.1 ≠ (FG b).2.1 := by decide +kernel
theorem tG_ok : ∀ k, k < 7 → parseFieldDescriptor (FG k).2.2.1 = some (tG k) := by decide +kernel
def RM : String := "GoodsTreeModel"
def FM : u_T := fun k => match k with
  | 0 => ("GoodsTreeModel", "thrown", "I", false)
  | 1 => ("GoodsTreeModel", "text", "[I", true)
  | 2 => ("GoodsTreeModel", "signs", "I", false)
  | 3 => ("GoodsTreeModel", "present", "I", false)
  | 4 => ("GoodsTreeModel", "failed", "I", false)
  | 5 => ("GoodsTreeModel", "failedAt", "I", false)
  | 6 => ("GoodsTreeModel", "rows", "[I", true)
  | 7 => ("GoodsTreeModel", "code", "[J", true)
  | 8 => ("GoodsTreeModel", "dashes", "[I", true)
  | 9 => ("GoodsTreeModel", "words", "[I", true)
  | 10 => ("GoodsTreeModel", "word", "[J", true)
  | 11 => ("GoodsTreeModel", "notes", "I", false)
  | 12 => ("GoodsTreeModel", "noteEdition", "[I", true)
  | 13 => ("GoodsTreeModel", "noteCode", "[J", true)
  | 14 => ("GoodsTreeModel", "noteKind", "[I", true)
  | 15 => ("GoodsTreeModel", "noteOther", "[J", true)
  | 16 => ("GoodsTreeModel", "links", "I", false)
  | 17 => ("GoodsTreeModel", "linkFrom", "[I", true)
  | 18 => ("GoodsTreeModel", "linkCode", "[J", true)
  | 19 => ("GoodsTreeModel", "linkTo", "[I", true)
  | 20 => ("GoodsTreeModel", "linkOther", "[J", true)
  | 21 => ("GoodsTreeModel", "found", "I", false)
  | 22 => ("GoodsTreeModel", "foundCode", "[J", true)
  | 23 => ("GoodsTreeModel", "foundPoints", "[I", true)
  | 24 => ("GoodsTreeModel", "asked", "[J", true)
  | 25 => ("GoodsTreeModel", "askedCount", "I", false)
  | _ => ("GoodsTreeModel", "points", "[I", true)
def tM : Nat → FieldType := fun k => match k with
  | 0 => .int
  | 1 => .array (.int)
  | 2 => .int
  | 3 => .int
  | 4 => .int
  | 5 => .int
  | 6 => .array (.int)
  | 7 => .array (.long)
  | 8 => .array (.int)
  | 9 => .array (.int)
  | 10 => .array (.long)
  | 11 => .int
  | 12 => .array (.int)
  | 13 => .array (.long)
  | 14 => .array (.int)
  | 15 => .array (.long)
  | 16 => .int
  | 17 => .array (.int)
  | 18 => .array (.long)
  | 19 => .array (.int)
  | 20 => .array (.long)
  | 21 => .int
  | 22 => .array (.long)
  | 23 => .array (.int)
  | 24 => .array (.long)
  | 25 => .int
  | _ => .array (.int)
theorem nM : ∀ a, a < 27 → ∀ b, b < 27 → a ≠ b → (FM a).2.1 ≠ (FM b).2.1 := by decide +kernel
theorem tM_ok : ∀ k, k < 27 → parseFieldDescriptor (FM k).2.2.1 = some (tM k) := by decide +kernel
abbrev xcl : List vw_C := [(RC, FC, 0), (RF, FF, 3), (RP, FP, 5), (RR, FR, 7), (RT, FT, 8), (RG, FG, 7), (RM, FM, 27)]
def yG_init : MethodName := ⟨"GoodsTree", "<init>", "()V"⟩
def yJO_init : MethodName := ⟨"java/lang/Object", "<init>", "()V"⟩
def yR_init : MethodName := ⟨"GoodsTree$TextReader", "<init>", "()V"⟩
def yP_init : MethodName := ⟨"GoodsTree$Pairs", "<init>", "(I)V"⟩
def yJM_max : MethodName := ⟨"java/lang/Math", "max", "(II)I"⟩
def yF_init : MethodName := ⟨"GoodsTree$Findings", "<init>", "()V"⟩
def yT_init : MethodName := ⟨"GoodsTree$Tree", "<init>", "()V"⟩
def yG_sign : MethodName := ⟨"GoodsTree", "sign", "(I)Z"⟩
def yR_take : MethodName := ⟨"GoodsTree$TextReader", "take", "(I)Z"⟩
def yR_isSign : MethodName := ⟨"GoodsTree$TextReader", "isSign", "(I)Z"⟩
def yR_isDigit : MethodName := ⟨"GoodsTree$TextReader", "isDigit", "(I)Z"⟩
def yR_isLetter : MethodName := ⟨"GoodsTree$TextReader", "isLetter", "(I)Z"⟩
def yG_failure : MethodName := ⟨"GoodsTree", "failure", "(I)I"⟩
def yR_failureKind : MethodName := ⟨"GoodsTree$TextReader", "failureKind", "()I"⟩
def yR_failurePlace : MethodName := ⟨"GoodsTree$TextReader", "failurePlace", "()I"⟩
def yG_edition : MethodName := ⟨"GoodsTree", "edition", "(I)Z"⟩
def yG_isEdition : MethodName := ⟨"GoodsTree", "isEdition", "(I)Z"⟩
def yG_find : MethodName := ⟨"GoodsTree", "find", "(J)I"⟩
def yT_rowOf : MethodName := ⟨"GoodsTree$Tree", "rowOf", "(J)I"⟩
def yG_link : MethodName := ⟨"GoodsTree", "link", "(IJIJ)Z"⟩
def yG_hasCode : MethodName := ⟨"GoodsTree", "hasCode", "(IJ)Z"⟩
def yP_isFull : MethodName := ⟨"GoodsTree$Pairs", "isFull", "()Z"⟩
def yP_holds : MethodName := ⟨"GoodsTree$Pairs", "holds", "(IJIJ)Z"⟩
def yP_matches : MethodName := ⟨"GoodsTree$Pairs", "matches", "(IIJI)Z"⟩
def yP_has : MethodName := ⟨"GoodsTree$Pairs", "has", "(I)Z"⟩
def yP_add : MethodName := ⟨"GoodsTree$Pairs", "add", "(IJIJ)V"⟩
def yG_count : MethodName := ⟨"GoodsTree", "count", "(I)I"⟩
def yR_length : MethodName := ⟨"GoodsTree$TextReader", "length", "()I"⟩
def yP_size : MethodName := ⟨"GoodsTree$Pairs", "size", "()I"⟩
def yF_size : MethodName := ⟨"GoodsTree$Findings", "size", "()I"⟩
def yG_countInEdition : MethodName := ⟨"GoodsTree", "countInEdition", "(I)I"⟩
def yT_size : MethodName := ⟨"GoodsTree$Tree", "size", "()I"⟩
def yT_chapters : MethodName := ⟨"GoodsTree$Tree", "chapters", "()I"⟩
def yL_read : MethodName := ⟨"GoodsTreeLaw", "read", "(LGoodsTree;[J)I"⟩
def yG_read : MethodName := ⟨"GoodsTree", "read", "()I"⟩
def yT_clear : MethodName := ⟨"GoodsTree$Tree", "clear", "()V"⟩
def yR_readRows : MethodName := ⟨"GoodsTree$TextReader", "readRows", "(LGoodsTree$Tree;)Z"⟩
def yR_start : MethodName := ⟨"GoodsTree$TextReader", "start", "()V"⟩
def yR_fail : MethodName := ⟨"GoodsTree$TextReader", "fail", "(II)Z"⟩
def yR_readRow : MethodName := ⟨"GoodsTree$TextReader", "readRow", "(LGoodsTree$Tree;)Z"⟩
def yR_here : MethodName := ⟨"GoodsTree$TextReader", "here", "()C"⟩
def yR_countDashes : MethodName := ⟨"GoodsTree$TextReader", "countDashes", "()I"⟩
def yT_mostDashes : MethodName := ⟨"GoodsTree$Tree", "mostDashes", "()I"⟩
def yT_dashesOf : MethodName := ⟨"GoodsTree$Tree", "dashesOf", "(I)I"⟩
def yT_has : MethodName := ⟨"GoodsTree$Tree", "has", "(I)Z"⟩
def yT_isFull : MethodName := ⟨"GoodsTree$Tree", "isFull", "()Z"⟩
def yR_readCodeAndWords : MethodName := ⟨"GoodsTree$TextReader", "readCodeAndWords", "(LGoodsTree$Tree;I)Z"⟩
def yR_readCode : MethodName := ⟨"GoodsTree$TextReader", "readCode", "()J"⟩
def yT_parentFor : MethodName := ⟨"GoodsTree$Tree", "parentFor", "(I)I"⟩
def yT_fitsBelow : MethodName := ⟨"GoodsTree$Tree", "fitsBelow", "(IJ)Z"⟩
def yC_isChapter : MethodName := ⟨"GoodsTree$Codes", "isChapter", "(J)Z"⟩
def yC_beginsWith : MethodName := ⟨"GoodsTree$Codes", "beginsWith", "(JJ)Z"⟩
def yT_comesBehindLast : MethodName := ⟨"GoodsTree$Tree", "comesBehindLast", "(J)Z"⟩
def yT_codeOf : MethodName := ⟨"GoodsTree$Tree", "codeOf", "(I)J"⟩
def yC_comesBehind : MethodName := ⟨"GoodsTree$Codes", "comesBehind", "(JJ)Z"⟩
def yC_fill : MethodName := ⟨"GoodsTree$Codes", "fill", "(J)J"⟩
def yR_readWords : MethodName := ⟨"GoodsTree$TextReader", "readWords", "(I)Z"⟩
def yR_readWord : MethodName := ⟨"GoodsTree$TextReader", "readWord", "()J"⟩
def yT_add : MethodName := ⟨"GoodsTree$Tree", "add", "(JILGoodsTree$TextReader;)V"⟩
def yR_wordCount : MethodName := ⟨"GoodsTree$TextReader", "wordCount", "()I"⟩
def yJM_min : MethodName := ⟨"java/lang/Math", "min", "(II)I"⟩
def yR_wordAt : MethodName := ⟨"GoodsTree$TextReader", "wordAt", "(I)J"⟩
def yR_clear : MethodName := ⟨"GoodsTree$TextReader", "clear", "()V"⟩
def yJT_init : MethodName := ⟨"java/lang/Throwable", "<init>", "()V"⟩
def yJS_init : MethodName := ⟨"java/lang/IllegalStateException", "<init>", "(Ljava/lang/String;)V"⟩
def yJR_init : MethodName := ⟨"java/lang/RuntimeException", "<init>", "(Ljava/lang/String;)V"⟩
def yJE_init : MethodName := ⟨"java/lang/Exception", "<init>", "(Ljava/lang/String;)V"⟩
def yJT_init2 : MethodName := ⟨"java/lang/Throwable", "<init>", "(Ljava/lang/String;)V"⟩
def yP_dropFrom : MethodName := ⟨"GoodsTree$Pairs", "dropFrom", "(I)V"⟩
def yP_drop : MethodName := ⟨"GoodsTree$Pairs", "drop", "(I)V"⟩
def yP_dropMarked : MethodName := ⟨"GoodsTree$Pairs", "dropMarked", "(I)V"⟩
def yL_row : MethodName := ⟨"GoodsTreeLaw", "row", "(LGoodsTree;II[J)I"⟩
def yG_row : MethodName := ⟨"GoodsTree", "row", "(II)J"⟩
def yJI_init : MethodName := ⟨"java/lang/IndexOutOfBoundsException", "<init>", "(Ljava/lang/String;)V"⟩
def yT_wordsOf : MethodName := ⟨"GoodsTree$Tree", "wordsOf", "(I)I"⟩
def yT_parentOf : MethodName := ⟨"GoodsTree$Tree", "parentOf", "(I)I"⟩
def yT_childrenOf : MethodName := ⟨"GoodsTree$Tree", "childrenOf", "(I)I"⟩
def yL_note : MethodName := ⟨"GoodsTreeLaw", "note", "(LGoodsTree;JIJ[J)I"⟩
def yG_note : MethodName := ⟨"GoodsTree", "note", "(JIJ)I"⟩
def yJA_init : MethodName := ⟨"java/lang/IllegalArgumentException", "<init>", "(Ljava/lang/String;)V"⟩
def yP_sizeFrom : MethodName := ⟨"GoodsTree$Pairs", "sizeFrom", "(I)I"⟩
def yL_noted : MethodName := ⟨"GoodsTreeLaw", "noted", "(LGoodsTree;JI[J)I"⟩
def yG_noted : MethodName := ⟨"GoodsTree", "noted", "(JI)I"⟩
def yP_nth : MethodName := ⟨"GoodsTree$Pairs", "nth", "(IJII)I"⟩
def yP_otherAt : MethodName := ⟨"GoodsTree$Pairs", "otherAt", "(I)J"⟩
def yP_markAt : MethodName := ⟨"GoodsTree$Pairs", "markAt", "(I)I"⟩
def yL_became : MethodName := ⟨"GoodsTreeLaw", "became", "(LGoodsTree;IJI[J)I"⟩
def yG_became : MethodName := ⟨"GoodsTree", "became", "(IJI)I"⟩
def yG_checkEditions : MethodName := ⟨"GoodsTree", "checkEditions", "(II)V"⟩
def yG_checkCode : MethodName := ⟨"GoodsTree", "checkCode", "(IJ)V"⟩
def yP_sizeTo : MethodName := ⟨"GoodsTree$Pairs", "sizeTo", "(IIJ)I"⟩
def yL_linked : MethodName := ⟨"GoodsTreeLaw", "linked", "(LGoodsTree;IJII[J)I"⟩
def yG_linked : MethodName := ⟨"GoodsTree", "linked", "(IJII)J"⟩
def yL_lost : MethodName := ⟨"GoodsTreeLaw", "lost", "(LGoodsTree;II[J)I"⟩
def yG_lost : MethodName := ⟨"GoodsTree", "lost", "(II)I"⟩
def yL_search : MethodName := ⟨"GoodsTreeLaw", "search", "(LGoodsTree;[J)I"⟩
def yG_search : MethodName := ⟨"GoodsTree", "search", "()I"⟩
def yR_readAsked : MethodName := ⟨"GoodsTree$TextReader", "readAsked", "()Z"⟩
def yF_clear : MethodName := ⟨"GoodsTree$Findings", "clear", "()V"⟩
def yG_pointsOf : MethodName := ⟨"GoodsTree", "pointsOf", "(LGoodsTree$Tree;I)I"⟩
def yT_pointsFor : MethodName := ⟨"GoodsTree$Tree", "pointsFor", "(IJ)I"⟩
def yT_hasWord : MethodName := ⟨"GoodsTree$Tree", "hasWord", "(IJ)Z"⟩
def yG_isLeftOut : MethodName := ⟨"GoodsTree", "isLeftOut", "(LGoodsTree$Tree;I)Z"⟩
def yF_add : MethodName := ⟨"GoodsTree$Findings", "add", "(JI)V"⟩
def yL_found : MethodName := ⟨"GoodsTreeLaw", "found", "(LGoodsTree;II[J)I"⟩
def yG_found : MethodName := ⟨"GoodsTree", "found", "(II)J"⟩
def yF_has : MethodName := ⟨"GoodsTree$Findings", "has", "(I)Z"⟩
def yF_codeOf : MethodName := ⟨"GoodsTree$Findings", "codeOf", "(I)J"⟩
def yF_pointsAt : MethodName := ⟨"GoodsTree$Findings", "pointsAt", "(I)I"⟩
def yM_init : MethodName := ⟨"GoodsTreeModel", "<init>", "()V"⟩
def yM_thrown : MethodName := ⟨"GoodsTreeModel", "thrown", "()I"⟩
def yM_sign : MethodName := ⟨"GoodsTreeModel", "sign", "(I)Z"⟩
def yM_in : MethodName := ⟨"GoodsTreeModel", "in", "(III)Z"⟩
def yM_isLetter : MethodName := ⟨"GoodsTreeModel", "isLetter", "(I)Z"⟩
def yM_isDigit : MethodName := ⟨"GoodsTreeModel", "isDigit", "(I)Z"⟩
def yM_read : MethodName := ⟨"GoodsTreeModel", "read", "()I"⟩
def yM_reads : MethodName := ⟨"GoodsTreeModel", "reads", "()Z"⟩
def yM_readsCode : MethodName := ⟨"GoodsTreeModel", "readsCode", "(I)Z"⟩
def yM_run : MethodName := ⟨"GoodsTreeModel", "run", "(II)I"⟩
def yM_fails : MethodName := ⟨"GoodsTreeModel", "fails", "(II)Z"⟩
def yM_codeAt : MethodName := ⟨"GoodsTreeModel", "codeAt", "(II)J"⟩
def yM_above : MethodName := ⟨"GoodsTreeModel", "above", "(II)I"⟩
def yM_begins : MethodName := ⟨"GoodsTreeModel", "begins", "(JJ)Z"⟩
def yM_digitsOf : MethodName := ⟨"GoodsTreeModel", "digitsOf", "(J)I"⟩
def yM_cut : MethodName := ⟨"GoodsTreeModel", "cut", "(JI)J"⟩
def yM_isBehind : MethodName := ⟨"GoodsTreeModel", "isBehind", "(JJ)Z"⟩
def yM_readsWords : MethodName := ⟨"GoodsTreeModel", "readsWords", "(III)I"⟩
def yM_wordAt : MethodName := ⟨"GoodsTreeModel", "wordAt", "(II)J"⟩
def yM_refuse : MethodName := ⟨"GoodsTreeModel", "refuse", "(I)I"⟩
def yM_forget : MethodName := ⟨"GoodsTreeModel", "forget", "(I)V"⟩
def yM_failure : MethodName := ⟨"GoodsTreeModel", "failure", "(I)I"⟩
def yM_edition : MethodName := ⟨"GoodsTreeModel", "edition", "(I)Z"⟩
def yM_isEdition : MethodName := ⟨"GoodsTreeModel", "isEdition", "(I)Z"⟩
def yM_row : MethodName := ⟨"GoodsTreeModel", "row", "(II)J"⟩
def yM_below : MethodName := ⟨"GoodsTreeModel", "below", "(II)I"⟩
def yM_find : MethodName := ⟨"GoodsTreeModel", "find", "(J)I"⟩
def yM_rowOf : MethodName := ⟨"GoodsTreeModel", "rowOf", "(IJ)I"⟩
def yM_note : MethodName := ⟨"GoodsTreeModel", "note", "(JIJ)I"⟩
def yM_hasNote : MethodName := ⟨"GoodsTreeModel", "hasNote", "(JIJ)Z"⟩
def yM_isNote : MethodName := ⟨"GoodsTreeModel", "isNote", "(IJIJ)Z"⟩
def yM_notesOf : MethodName := ⟨"GoodsTreeModel", "notesOf", "(I)I"⟩
def yM_noted : MethodName := ⟨"GoodsTreeModel", "noted", "(JI)I"⟩
def yM_link : MethodName := ⟨"GoodsTreeModel", "link", "(IJIJ)Z"⟩
def yM_isLink : MethodName := ⟨"GoodsTreeModel", "isLink", "(IIJI)Z"⟩
def yM_became : MethodName := ⟨"GoodsTreeModel", "became", "(IJI)I"⟩
def yM_isOf : MethodName := ⟨"GoodsTreeModel", "isOf", "(IJI)Z"⟩
def yM_linksOf : MethodName := ⟨"GoodsTreeModel", "linksOf", "(IJI)I"⟩
def yM_linksTo : MethodName := ⟨"GoodsTreeModel", "linksTo", "(IIJ)I"⟩
def yM_linked : MethodName := ⟨"GoodsTreeModel", "linked", "(IJII)J"⟩
def yM_lost : MethodName := ⟨"GoodsTreeModel", "lost", "(II)I"⟩
def yM_search : MethodName := ⟨"GoodsTreeModel", "search", "()I"⟩
def yM_pointsOf : MethodName := ⟨"GoodsTreeModel", "pointsOf", "(I)I"⟩
def yM_has : MethodName := ⟨"GoodsTreeModel", "has", "(IJ)Z"⟩
def yM_found : MethodName := ⟨"GoodsTreeModel", "found", "(II)J"⟩
def yM_count : MethodName := ⟨"GoodsTreeModel", "count", "(I)I"⟩
def yJT_fillInStackTrace : MethodName := ⟨"java/lang/Throwable", "fillInStackTrace", "()Ljava/lang/Throwable;"⟩
def yJT_fillInStackTrace2 : MethodName := ⟨"java/lang/Throwable", "fillInStackTrace", "(I)Ljava/lang/Throwable;"⟩
abbrev bG_init : ByteArray := prog_1_method_1_code
abbrev bJO_init : ByteArray := object_method_1_code
abbrev bR_init : ByteArray := prog_5_method_1_code
abbrev bP_init : ByteArray := prog_4_method_1_code
abbrev bJM_max : ByteArray := prog_13_method_65_code
abbrev bF_init : ByteArray := prog_3_method_1_code
abbrev bT_init : ByteArray := prog_6_method_1_code
abbrev bG_sign : ByteArray := prog_1_method_2_code
abbrev bR_take : ByteArray := prog_5_method_8_code
abbrev bR_isSign : ByteArray := prog_5_method_20_code
abbrev bR_isDigit : ByteArray := prog_5_method_21_code
abbrev bR_isLetter : ByteArray := prog_5_method_22_code
abbrev bG_failure : ByteArray := prog_1_method_4_code
abbrev bR_failureKind : ByteArray := prog_5_method_3_code
abbrev bR_failurePlace : ByteArray := prog_5_method_4_code
abbrev bG_edition : ByteArray := prog_1_method_5_code
abbrev bG_isEdition : ByteArray := prog_1_method_18_code
abbrev bG_find : ByteArray := prog_1_method_7_code
abbrev bT_rowOf : ByteArray := prog_6_method_12_code
abbrev bG_link : ByteArray := prog_1_method_10_code
abbrev bG_hasCode : ByteArray := prog_1_method_19_code
abbrev bP_isFull : ByteArray := prog_4_method_3_code
abbrev bP_holds : ByteArray := prog_4_method_4_code
abbrev bP_matches : ByteArray := prog_4_method_6_code
abbrev bP_has : ByteArray := prog_4_method_15_code
abbrev bP_add : ByteArray := prog_4_method_5_code
abbrev bG_count : ByteArray := prog_1_method_16_code
abbrev bR_length : ByteArray := prog_5_method_2_code
abbrev bP_size : ByteArray := prog_4_method_2_code
abbrev bF_size : ByteArray := prog_3_method_3_code
abbrev bG_countInEdition : ByteArray := prog_1_method_17_code
abbrev bT_size : ByteArray := prog_6_method_3_code
abbrev bT_chapters : ByteArray := prog_6_method_4_code
abbrev bL_read : ByteArray := method_3_code
abbrev bG_read : ByteArray := prog_1_method_3_code
abbrev bT_clear : ByteArray := prog_6_method_2_code
abbrev bR_readRows : ByteArray := prog_5_method_9_code
abbrev bR_start : ByteArray := prog_5_method_11_code
abbrev bR_fail : ByteArray := prog_5_method_12_code
abbrev bR_readRow : ByteArray := prog_5_method_13_code
abbrev bR_here : ByteArray := prog_5_method_19_code
abbrev bR_countDashes : ByteArray := prog_5_method_15_code
abbrev bT_mostDashes : ByteArray := prog_6_method_13_code
abbrev bT_dashesOf : ByteArray := prog_6_method_8_code
abbrev bT_has : ByteArray := prog_6_method_6_code
abbrev bT_isFull : ByteArray := prog_6_method_5_code
abbrev bR_readCodeAndWords : ByteArray := prog_5_method_14_code
abbrev bR_readCode : ByteArray := prog_5_method_16_code
abbrev bT_parentFor : ByteArray := prog_6_method_14_code
abbrev bT_fitsBelow : ByteArray := prog_6_method_15_code
abbrev bC_isChapter : ByteArray := prog_2_method_2_code
abbrev bC_beginsWith : ByteArray := prog_2_method_3_code
abbrev bT_comesBehindLast : ByteArray := prog_6_method_16_code
abbrev bT_codeOf : ByteArray := prog_6_method_7_code
abbrev bC_comesBehind : ByteArray := prog_2_method_4_code
abbrev bC_fill : ByteArray := prog_2_method_5_code
abbrev bR_readWords : ByteArray := prog_5_method_17_code
abbrev bR_readWord : ByteArray := prog_5_method_18_code
abbrev bT_add : ByteArray := prog_6_method_17_code
abbrev bR_wordCount : ByteArray := prog_5_method_5_code
abbrev bJM_min : ByteArray := prog_13_method_69_code
abbrev bR_wordAt : ByteArray := prog_5_method_6_code
abbrev bR_clear : ByteArray := prog_5_method_7_code
abbrev bJT_init : ByteArray := prog_16_method_1_code
abbrev bJS_init : ByteArray := prog_11_method_2_code
abbrev bJR_init : ByteArray := prog_14_method_2_code
abbrev bJE_init : ByteArray := prog_9_method_2_code
abbrev bJT_init2 : ByteArray := prog_16_method_2_code
abbrev bP_dropFrom : ByteArray := prog_4_method_12_code
abbrev bP_drop : ByteArray := prog_4_method_14_code
abbrev bP_dropMarked : ByteArray := prog_4_method_13_code
abbrev bL_row : ByteArray := method_4_code
abbrev bG_row : ByteArray := prog_1_method_6_code
abbrev bJI_init : ByteArray := prog_12_method_2_code
abbrev bT_wordsOf : ByteArray := prog_6_method_11_code
abbrev bT_parentOf : ByteArray := prog_6_method_9_code
abbrev bT_childrenOf : ByteArray := prog_6_method_10_code
abbrev bL_note : ByteArray := method_5_code
abbrev bG_note : ByteArray := prog_1_method_8_code
abbrev bJA_init : ByteArray := prog_10_method_2_code
abbrev bP_sizeFrom : ByteArray := prog_4_method_10_code
abbrev bL_noted : ByteArray := method_6_code
abbrev bG_noted : ByteArray := prog_1_method_9_code
abbrev bP_nth : ByteArray := prog_4_method_7_code
abbrev bP_otherAt : ByteArray := prog_4_method_9_code
abbrev bP_markAt : ByteArray := prog_4_method_8_code
abbrev bL_became : ByteArray := method_7_code
abbrev bG_became : ByteArray := prog_1_method_11_code
abbrev bG_checkEditions : ByteArray := prog_1_method_20_code
abbrev bG_checkCode : ByteArray := prog_1_method_21_code
abbrev bP_sizeTo : ByteArray := prog_4_method_11_code
abbrev bL_linked : ByteArray := method_8_code
abbrev bG_linked : ByteArray := prog_1_method_12_code
abbrev bL_lost : ByteArray := method_9_code
abbrev bG_lost : ByteArray := prog_1_method_13_code
abbrev bL_search : ByteArray := method_10_code
abbrev bG_search : ByteArray := prog_1_method_14_code
abbrev bR_readAsked : ByteArray := prog_5_method_10_code
abbrev bF_clear : ByteArray := prog_3_method_2_code
abbrev bG_pointsOf : ByteArray := prog_1_method_22_code
abbrev bT_pointsFor : ByteArray := prog_6_method_18_code
abbrev bT_hasWord : ByteArray := prog_6_method_19_code
abbrev bG_isLeftOut : ByteArray := prog_1_method_23_code
abbrev bF_add : ByteArray := prog_3_method_7_code
abbrev bL_found : ByteArray := method_11_code
abbrev bG_found : ByteArray := prog_1_method_15_code
abbrev bF_has : ByteArray := prog_3_method_4_code
abbrev bF_codeOf : ByteArray := prog_3_method_5_code
abbrev bF_pointsAt : ByteArray := prog_3_method_6_code
abbrev bM_init : ByteArray := prog_8_method_1_code
abbrev bM_thrown : ByteArray := prog_8_method_2_code
abbrev bM_sign : ByteArray := prog_8_method_8_code
abbrev bM_in : ByteArray := prog_8_method_4_code
abbrev bM_isLetter : ByteArray := prog_8_method_6_code
abbrev bM_isDigit : ByteArray := prog_8_method_7_code
abbrev bM_read : ByteArray := prog_8_method_22_code
abbrev bM_reads : ByteArray := prog_8_method_20_code
abbrev bM_readsCode : ByteArray := prog_8_method_18_code
abbrev bM_run : ByteArray := prog_8_method_10_code
abbrev bM_fails : ByteArray := prog_8_method_9_code
abbrev bM_codeAt : ByteArray := prog_8_method_12_code
abbrev bM_above : ByteArray := prog_8_method_17_code
abbrev bM_begins : ByteArray := prog_8_method_15_code
abbrev bM_digitsOf : ByteArray := prog_8_method_13_code
abbrev bM_cut : ByteArray := prog_8_method_14_code
abbrev bM_isBehind : ByteArray := prog_8_method_16_code
abbrev bM_readsWords : ByteArray := prog_8_method_19_code
abbrev bM_wordAt : ByteArray := prog_8_method_11_code
abbrev bM_refuse : ByteArray := prog_8_method_3_code
abbrev bM_forget : ByteArray := prog_8_method_21_code
abbrev bM_failure : ByteArray := prog_8_method_23_code
abbrev bM_edition : ByteArray := prog_8_method_24_code
abbrev bM_isEdition : ByteArray := prog_8_method_5_code
abbrev bM_row : ByteArray := prog_8_method_26_code
abbrev bM_below : ByteArray := prog_8_method_25_code
abbrev bM_find : ByteArray := prog_8_method_28_code
abbrev bM_rowOf : ByteArray := prog_8_method_27_code
abbrev bM_note : ByteArray := prog_8_method_32_code
abbrev bM_hasNote : ByteArray := prog_8_method_31_code
abbrev bM_isNote : ByteArray := prog_8_method_30_code
abbrev bM_notesOf : ByteArray := prog_8_method_29_code
abbrev bM_noted : ByteArray := prog_8_method_33_code
abbrev bM_link : ByteArray := prog_8_method_35_code
abbrev bM_isLink : ByteArray := prog_8_method_34_code
abbrev bM_became : ByteArray := prog_8_method_39_code
abbrev bM_isOf : ByteArray := prog_8_method_36_code
abbrev bM_linksOf : ByteArray := prog_8_method_37_code
abbrev bM_linksTo : ByteArray := prog_8_method_38_code
abbrev bM_linked : ByteArray := prog_8_method_40_code
abbrev bM_lost : ByteArray := prog_8_method_41_code
abbrev bM_search : ByteArray := prog_8_method_44_code
abbrev bM_pointsOf : ByteArray := prog_8_method_43_code
abbrev bM_has : ByteArray := prog_8_method_42_code
abbrev bM_found : ByteArray := prog_8_method_45_code
abbrev bM_count : ByteArray := prog_8_method_46_code
def xT : List Cond := lw_tbl.filter goodWord
theorem xT_of {w : Cond} (h : w ∈ lw_tbl) (g : goodWord w = true) : w ∈ xT := List.mem_filter.mpr ⟨h, g⟩
theorem xT_t {w : Cond} {i : Nat} (h : tables_1[i]? = some w) (g : goodWord w = true) : w ∈ xT := xT_of (List.mem_append_right _ (List.mem_of_getElem? h)) g
theorem xT_p {w : Cond} {i : Nat} (h : (k2_sels lw_privs)[i]? = some w) (g : goodWord w = true) : w ∈ xT := xT_of (List.mem_append_left _ (List.mem_of_getElem? h)) g
theorem xT_before {args : Array Value} {s : State} (h : ∀ w ∈ lw_tbl, w.before args s = true) : ∀ w ∈ xT, w.before args s = true := fun w hw => h w ((List.mem_filter.mp hw).1)
theorem knL : (Jvm.Cond.initialized "GoodsTreeLaw") ∈ xT := xT_t (i := 0) (by decide +kernel) (by decide +kernel)
theorem knG : (Jvm.Cond.initialized "GoodsTree") ∈ xT := xT_t (i := 1) (by decide +kernel) (by decide +kernel)
theorem knR : (Jvm.Cond.initialized "GoodsTree$TextReader") ∈ xT := xT_t (i := 2) (by decide +kernel) (by decide +kernel)
theorem knP : (Jvm.Cond.initialized "GoodsTree$Pairs") ∈ xT := xT_t (i := 3) (by decide +kernel) (by decide +kernel)
theorem knJM : (Jvm.Cond.initialized "java/lang/Math") ∈ xT := xT_t (i := 4) (by decide +kernel) (by decide +kernel)
theorem knF : (Jvm.Cond.initialized "GoodsTree$Findings") ∈ xT := xT_t (i := 5) (by decide +kernel) (by decide +kernel)
theorem knT : (Jvm.Cond.initialized "GoodsTree$Tree") ∈ xT := xT_t (i := 6) (by decide +kernel) (by decide +kernel)
theorem knM : (Jvm.Cond.initialized "GoodsTreeModel") ∈ xT := xT_t (i := 7) (by decide +kernel) (by decide +kernel)
theorem knC : (Jvm.Cond.initialized "GoodsTree$Codes") ∈ xT := xT_t (i := 8) (by decide +kernel) (by decide +kernel)
theorem knJT : (Jvm.Cond.initialized "java/lang/Throwable") ∈ xT := xT_t (i := 9) (by decide +kernel) (by decide +kernel)
theorem knJE : (Jvm.Cond.initialized "java/lang/Exception") ∈ xT := xT_t (i := 10) (by decide +kernel) (by decide +kernel)
theorem knJR : (Jvm.Cond.initialized "java/lang/RuntimeException") ∈ xT := xT_t (i := 11) (by decide +kernel) (by decide +kernel)
theorem knJS : (Jvm.Cond.initialized "java/lang/IllegalStateException") ∈ xT := xT_t (i := 12) (by decide +kernel) (by decide +kernel)
theorem knJI : (Jvm.Cond.initialized "java/lang/IndexOutOfBoundsException") ∈ xT := xT_t (i := 13) (by decide +kernel) (by decide +kernel)
theorem knJA : (Jvm.Cond.initialized "java/lang/IllegalArgumentException") ∈ xT := xT_t (i := 14) (by decide +kernel) (by decide +kernel)
theorem klL_8 : (Jvm.Cond.classLink "GoodsTreeLaw" (8 : Nat) "GoodsTree") ∈ xT := xT_t (i := 15) (by decide +kernel) (by decide +kernel)
theorem kqG : (Jvm.Cond.instantiable "GoodsTree" (7 : Nat)) ∈ xT := xT_t (i := 16) (by decide +kernel) (by decide +kernel)
theorem kmL_49 : (Jvm.Cond.methodLink "GoodsTreeLaw" (49 : Nat) ({ cls := "GoodsTree", name := "<init>", desc := "()V" } : Jvm.MethodName)) ∈ xT := xT_t (i := 17) (by decide +kernel) (by decide +kernel)
theorem kiG_init : (Jvm.Cond.instanceMethod ({ cls := "GoodsTree", name := "<init>", desc := "()V" } : Jvm.MethodName)) ∈ xT := xT_t (i := 18) (by decide +kernel) (by decide +kernel)
theorem kcG_init : (Jvm.Cond.code ({ cls := "GoodsTree", name := "<init>", desc := "()V" } : Jvm.MethodName) prog_1_method_1_code (2 : Nat) (Option.none : Option Jvm.ClassFile.FieldType)) ∈ xT := xT_t (i := 19) (by decide +kernel) (by decide +kernel)
theorem kmG_1 : (Jvm.Cond.methodLink "GoodsTree" (1 : Nat) ({ cls := "java/lang/Object", name := "<init>", desc := "()V" } : Jvm.MethodName)) ∈ xT := xT_t (i := 20) (by decide +kernel) (by decide +kernel)
theorem kiJO_init : (Jvm.Cond.instanceMethod ({ cls := "java/lang/Object", name := "<init>", desc := "()V" } : Jvm.MethodName)) ∈ xT := xT_t (i := 21) (by decide +kernel) (by decide +kernel)
theorem kcJO_init : (Jvm.Cond.code ({ cls := "java/lang/Object", name := "<init>", desc := "()V" } : Jvm.MethodName) object_method_1_code (1 : Nat) (Option.none : Option Jvm.ClassFile.FieldType)) ∈ xT := xT_t (i := 22) (by decide +kernel) (by decide +kernel)
theorem klG_7 : (Jvm.Cond.classLink "GoodsTree" (7 : Nat) "GoodsTree$TextReader") ∈ xT := xT_t (i := 23) (by decide +kernel) (by decide +kernel)
theorem kqR : (Jvm.Cond.instantiable "GoodsTree$TextReader" (7 : Nat)) ∈ xT := xT_t (i := 24) (by decide +kernel) (by decide +kernel)
theorem kiR_init : (Jvm.Cond.instanceMethod ({ cls := "GoodsTree$TextReader", name := "<init>", desc := "()V" } : Jvm.MethodName)) ∈ xT := xT_t (i := 26) (by decide +kernel) (by decide +kernel)
theorem kcR_init : (Jvm.Cond.code ({ cls := "GoodsTree$TextReader", name := "<init>", desc := "()V" } : Jvm.MethodName) prog_5_method_1_code (1 : Nat) (Option.none : Option Jvm.ClassFile.FieldType)) ∈ xT := xT_t (i := 27) (by decide +kernel) (by decide +kernel)
theorem kmR_3 : (Jvm.Cond.methodLink "GoodsTree$TextReader" (3 : Nat) ({ cls := "java/lang/Object", name := "<init>", desc := "()V" } : Jvm.MethodName)) ∈ xT := xT_t (i := 28) (by decide +kernel) (by decide +kernel)
theorem kfR_9 : (Jvm.Cond.fieldLink "GoodsTree$TextReader" (9 : Nat) "GoodsTree$TextReader" "signs" "[C") ∈ xT := xT_t (i := 29) (by decide +kernel) (by decide +kernel)
theorem kfR_15 : (Jvm.Cond.fieldLink "GoodsTree$TextReader" (15 : Nat) "GoodsTree$TextReader" "words" "[J") ∈ xT := xT_t (i := 30) (by decide +kernel) (by decide +kernel)
theorem kfR_19 : (Jvm.Cond.fieldLink "GoodsTree$TextReader" (19 : Nat) "GoodsTree$TextReader" "wordCount" "I") ∈ xT := xT_t (i := 31) (by decide +kernel) (by decide +kernel)
theorem kfR_23 : (Jvm.Cond.fieldLink "GoodsTree$TextReader" (23 : Nat) "GoodsTree$TextReader" "length" "I") ∈ xT := xT_t (i := 32) (by decide +kernel) (by decide +kernel)
theorem kfR_26 : (Jvm.Cond.fieldLink "GoodsTree$TextReader" (26 : Nat) "GoodsTree$TextReader" "place" "I") ∈ xT := xT_t (i := 33) (by decide +kernel) (by decide +kernel)
theorem kfR_29 : (Jvm.Cond.fieldLink "GoodsTree$TextReader" (29 : Nat) "GoodsTree$TextReader" "failureKind" "I") ∈ xT := xT_t (i := 34) (by decide +kernel) (by decide +kernel)
theorem kfR_32 : (Jvm.Cond.fieldLink "GoodsTree$TextReader" (32 : Nat) "GoodsTree$TextReader" "failurePlace" "I") ∈ xT := xT_t (i := 35) (by decide +kernel) (by decide +kernel)
theorem ka_char : (Jvm.Cond.arrayClass Jvm.ClassFile.FieldType.char) ∈ xT := xT_t (i := 51) (by decide +kernel) (by decide +kernel)
theorem ka_long : (Jvm.Cond.arrayClass Jvm.ClassFile.FieldType.long) ∈ xT := xT_t (i := 52) (by decide +kernel) (by decide +kernel)
theorem klG_16 : (Jvm.Cond.classLink "GoodsTree" (16 : Nat) "GoodsTree$Tree") ∈ xT := xT_t (i := 53) (by decide +kernel) (by decide +kernel)
theorem klG_22 : (Jvm.Cond.classLink "GoodsTree" (22 : Nat) "GoodsTree$Pairs") ∈ xT := xT_t (i := 55) (by decide +kernel) (by decide +kernel)
theorem kqP : (Jvm.Cond.instantiable "GoodsTree$Pairs" (5 : Nat)) ∈ xT := xT_t (i := 56) (by decide +kernel) (by decide +kernel)
theorem kmG_24 : (Jvm.Cond.methodLink "GoodsTree" (24 : Nat) ({ cls := "GoodsTree$Pairs", name := "<init>", desc := "(I)V" } : Jvm.MethodName)) ∈ xT := xT_t (i := 57) (by decide +kernel) (by decide +kernel)
theorem kiP_init : (Jvm.Cond.instanceMethod ({ cls := "GoodsTree$Pairs", name := "<init>", desc := "(I)V" } : Jvm.MethodName)) ∈ xT := xT_t (i := 58) (by decide +kernel) (by decide +kernel)
theorem kcP_init : (Jvm.Cond.code ({ cls := "GoodsTree$Pairs", name := "<init>", desc := "(I)V" } : Jvm.MethodName) prog_4_method_1_code (3 : Nat) (Option.none : Option Jvm.ClassFile.FieldType)) ∈ xT := xT_t (i := 59) (by decide +kernel) (by decide +kernel)
theorem kmP_3 : (Jvm.Cond.methodLink "GoodsTree$Pairs" (3 : Nat) ({ cls := "java/lang/Object", name := "<init>", desc := "()V" } : Jvm.MethodName)) ∈ xT := xT_t (i := 60) (by decide +kernel) (by decide +kernel)
theorem kmP_15 : (Jvm.Cond.methodLink "GoodsTree$Pairs" (15 : Nat) ({ cls := "java/lang/Math", name := "max", desc := "(II)I" } : Jvm.MethodName)) ∈ xT := xT_t (i := 61) (by decide +kernel) (by decide +kernel)
theorem ktJM_max : (Jvm.Cond.static ({ cls := "java/lang/Math", name := "max", desc := "(II)I" } : Jvm.MethodName)) ∈ xT := xT_t (i := 62) (by decide +kernel) (by decide +kernel)
theorem kcJM_max : (Jvm.Cond.code ({ cls := "java/lang/Math", name := "max", desc := "(II)I" } : Jvm.MethodName) prog_13_method_65_code (2 : Nat) (Option.some Jvm.ClassFile.FieldType.int)) ∈ xT := xT_t (i := 63) (by decide +kernel) (by decide +kernel)
theorem kfP_21 : (Jvm.Cond.fieldLink "GoodsTree$Pairs" (21 : Nat) "GoodsTree$Pairs" "editions" "[I") ∈ xT := xT_t (i := 64) (by decide +kernel) (by decide +kernel)
theorem kfP_25 : (Jvm.Cond.fieldLink "GoodsTree$Pairs" (25 : Nat) "GoodsTree$Pairs" "codes" "[J") ∈ xT := xT_t (i := 65) (by decide +kernel) (by decide +kernel)
theorem kfP_29 : (Jvm.Cond.fieldLink "GoodsTree$Pairs" (29 : Nat) "GoodsTree$Pairs" "marks" "[I") ∈ xT := xT_t (i := 66) (by decide +kernel) (by decide +kernel)
theorem kfP_32 : (Jvm.Cond.fieldLink "GoodsTree$Pairs" (32 : Nat) "GoodsTree$Pairs" "others" "[J") ∈ xT := xT_t (i := 67) (by decide +kernel) (by decide +kernel)
theorem kfP_9 : (Jvm.Cond.fieldLink "GoodsTree$Pairs" (9 : Nat) "GoodsTree$Pairs" "size" "I") ∈ xT := xT_t (i := 68) (by decide +kernel) (by decide +kernel)
theorem ka_int : (Jvm.Cond.arrayClass Jvm.ClassFile.FieldType.int) ∈ xT := xT_t (i := 80) (by decide +kernel) (by decide +kernel)
theorem klG_34 : (Jvm.Cond.classLink "GoodsTree" (34 : Nat) "GoodsTree$Findings") ∈ xT := xT_t (i := 81) (by decide +kernel) (by decide +kernel)
theorem kqF : (Jvm.Cond.instantiable "GoodsTree$Findings" (3 : Nat)) ∈ xT := xT_t (i := 82) (by decide +kernel) (by decide +kernel)
theorem kiF_init : (Jvm.Cond.instanceMethod ({ cls := "GoodsTree$Findings", name := "<init>", desc := "()V" } : Jvm.MethodName)) ∈ xT := xT_t (i := 84) (by decide +kernel) (by decide +kernel)
theorem kcF_init : (Jvm.Cond.code ({ cls := "GoodsTree$Findings", name := "<init>", desc := "()V" } : Jvm.MethodName) prog_3_method_1_code (1 : Nat) (Option.none : Option Jvm.ClassFile.FieldType)) ∈ xT := xT_t (i := 85) (by decide +kernel) (by decide +kernel)
theorem kmF_3 : (Jvm.Cond.methodLink "GoodsTree$Findings" (3 : Nat) ({ cls := "java/lang/Object", name := "<init>", desc := "()V" } : Jvm.MethodName)) ∈ xT := xT_t (i := 86) (by decide +kernel) (by decide +kernel)
theorem kfF_9 : (Jvm.Cond.fieldLink "GoodsTree$Findings" (9 : Nat) "GoodsTree$Findings" "codes" "[J") ∈ xT := xT_t (i := 87) (by decide +kernel) (by decide +kernel)
theorem kfF_15 : (Jvm.Cond.fieldLink "GoodsTree$Findings" (15 : Nat) "GoodsTree$Findings" "points" "[I") ∈ xT := xT_t (i := 88) (by decide +kernel) (by decide +kernel)
theorem kfF_19 : (Jvm.Cond.fieldLink "GoodsTree$Findings" (19 : Nat) "GoodsTree$Findings" "size" "I") ∈ xT := xT_t (i := 89) (by decide +kernel) (by decide +kernel)
theorem kqT : (Jvm.Cond.instantiable "GoodsTree$Tree" (8 : Nat)) ∈ xT := xT_t (i := 97) (by decide +kernel) (by decide +kernel)
theorem kiT_init : (Jvm.Cond.instanceMethod ({ cls := "GoodsTree$Tree", name := "<init>", desc := "()V" } : Jvm.MethodName)) ∈ xT := xT_t (i := 99) (by decide +kernel) (by decide +kernel)
theorem kcT_init : (Jvm.Cond.code ({ cls := "GoodsTree$Tree", name := "<init>", desc := "()V" } : Jvm.MethodName) prog_6_method_1_code (1 : Nat) (Option.none : Option Jvm.ClassFile.FieldType)) ∈ xT := xT_t (i := 100) (by decide +kernel) (by decide +kernel)
theorem kmT_3 : (Jvm.Cond.methodLink "GoodsTree$Tree" (3 : Nat) ({ cls := "java/lang/Object", name := "<init>", desc := "()V" } : Jvm.MethodName)) ∈ xT := xT_t (i := 101) (by decide +kernel) (by decide +kernel)
theorem kfT_9 : (Jvm.Cond.fieldLink "GoodsTree$Tree" (9 : Nat) "GoodsTree$Tree" "codes" "[J") ∈ xT := xT_t (i := 102) (by decide +kernel) (by decide +kernel)
theorem kfT_15 : (Jvm.Cond.fieldLink "GoodsTree$Tree" (15 : Nat) "GoodsTree$Tree" "dashes" "[I") ∈ xT := xT_t (i := 103) (by decide +kernel) (by decide +kernel)
theorem kfT_19 : (Jvm.Cond.fieldLink "GoodsTree$Tree" (19 : Nat) "GoodsTree$Tree" "parents" "[I") ∈ xT := xT_t (i := 104) (by decide +kernel) (by decide +kernel)
theorem kfT_22 : (Jvm.Cond.fieldLink "GoodsTree$Tree" (22 : Nat) "GoodsTree$Tree" "children" "[I") ∈ xT := xT_t (i := 105) (by decide +kernel) (by decide +kernel)
theorem kfT_25 : (Jvm.Cond.fieldLink "GoodsTree$Tree" (25 : Nat) "GoodsTree$Tree" "wordCounts" "[I") ∈ xT := xT_t (i := 106) (by decide +kernel) (by decide +kernel)
theorem kfT_28 : (Jvm.Cond.fieldLink "GoodsTree$Tree" (28 : Nat) "GoodsTree$Tree" "words" "[J") ∈ xT := xT_t (i := 107) (by decide +kernel) (by decide +kernel)
theorem kfT_31 : (Jvm.Cond.fieldLink "GoodsTree$Tree" (31 : Nat) "GoodsTree$Tree" "size" "I") ∈ xT := xT_t (i := 108) (by decide +kernel) (by decide +kernel)
theorem kfT_35 : (Jvm.Cond.fieldLink "GoodsTree$Tree" (35 : Nat) "GoodsTree$Tree" "chapters" "I") ∈ xT := xT_t (i := 109) (by decide +kernel) (by decide +kernel)
theorem kfG_10 : (Jvm.Cond.fieldLink "GoodsTree" (10 : Nat) "GoodsTree" "reader" "LGoodsTree$TextReader;") ∈ xT := xT_t (i := 127) (by decide +kernel) (by decide +kernel)
theorem kfG_18 : (Jvm.Cond.fieldLink "GoodsTree" (18 : Nat) "GoodsTree" "trees" "[LGoodsTree$Tree;") ∈ xT := xT_t (i := 128) (by decide +kernel) (by decide +kernel)
theorem kfG_27 : (Jvm.Cond.fieldLink "GoodsTree" (27 : Nat) "GoodsTree" "notes" "LGoodsTree$Pairs;") ∈ xT := xT_t (i := 129) (by decide +kernel) (by decide +kernel)
theorem kfG_31 : (Jvm.Cond.fieldLink "GoodsTree" (31 : Nat) "GoodsTree" "links" "LGoodsTree$Pairs;") ∈ xT := xT_t (i := 130) (by decide +kernel) (by decide +kernel)
theorem kfG_37 : (Jvm.Cond.fieldLink "GoodsTree" (37 : Nat) "GoodsTree" "findings" "LGoodsTree$Findings;") ∈ xT := xT_t (i := 131) (by decide +kernel) (by decide +kernel)
theorem kfG_42 : (Jvm.Cond.fieldLink "GoodsTree" (42 : Nat) "GoodsTree" "spare" "LGoodsTree$Tree;") ∈ xT := xT_t (i := 132) (by decide +kernel) (by decide +kernel)
theorem kfG_46 : (Jvm.Cond.fieldLink "GoodsTree" (46 : Nat) "GoodsTree" "present" "I") ∈ xT := xT_t (i := 133) (by decide +kernel) (by decide +kernel)
theorem kmL_53 : (Jvm.Cond.methodLink "GoodsTreeLaw" (53 : Nat) ({ cls := "GoodsTree", name := "sign", desc := "(I)Z" } : Jvm.MethodName)) ∈ xT := xT_t (i := 149) (by decide +kernel) (by decide +kernel)
theorem kiG_sign : (Jvm.Cond.instanceMethod ({ cls := "GoodsTree", name := "sign", desc := "(I)Z" } : Jvm.MethodName)) ∈ xT := xT_t (i := 150) (by decide +kernel) (by decide +kernel)
theorem ksG_sign : (Jvm.Cond.selects "GoodsTree" ({ cls := "GoodsTree", name := "sign", desc := "(I)Z" } : Jvm.MethodName) ({ cls := "GoodsTree", name := "sign", desc := "(I)Z" } : Jvm.MethodName)) ∈ xT := xT_t (i := 151) (by decide +kernel) (by decide +kernel)
theorem kcG_sign : (Jvm.Cond.code ({ cls := "GoodsTree", name := "sign", desc := "(I)Z" } : Jvm.MethodName) prog_1_method_2_code (2 : Nat) (Option.some Jvm.ClassFile.FieldType.boolean)) ∈ xT := xT_t (i := 152) (by decide +kernel) (by decide +kernel)
theorem kmG_50 : (Jvm.Cond.methodLink "GoodsTree" (50 : Nat) ({ cls := "GoodsTree$TextReader", name := "take", desc := "(I)Z" } : Jvm.MethodName)) ∈ xT := xT_t (i := 153) (by decide +kernel) (by decide +kernel)
theorem kiR_take : (Jvm.Cond.instanceMethod ({ cls := "GoodsTree$TextReader", name := "take", desc := "(I)Z" } : Jvm.MethodName)) ∈ xT := xT_t (i := 154) (by decide +kernel) (by decide +kernel)
theorem ksR_take : (Jvm.Cond.selects "GoodsTree$TextReader" ({ cls := "GoodsTree$TextReader", name := "take", desc := "(I)Z" } : Jvm.MethodName) ({ cls := "GoodsTree$TextReader", name := "take", desc := "(I)Z" } : Jvm.MethodName)) ∈ xT := xT_t (i := 155) (by decide +kernel) (by decide +kernel)
theorem kcR_take : (Jvm.Cond.code ({ cls := "GoodsTree$TextReader", name := "take", desc := "(I)Z" } : Jvm.MethodName) prog_5_method_8_code (3 : Nat) (Option.some Jvm.ClassFile.FieldType.boolean)) ∈ xT := xT_t (i := 156) (by decide +kernel) (by decide +kernel)
theorem kmR_35 : (Jvm.Cond.methodLink "GoodsTree$TextReader" (35 : Nat) ({ cls := "GoodsTree$TextReader", name := "isSign", desc := "(I)Z" } : Jvm.MethodName)) ∈ xT := xT_t (i := 157) (by decide +kernel) (by decide +kernel)
theorem ktR_isSign : (Jvm.Cond.static ({ cls := "GoodsTree$TextReader", name := "isSign", desc := "(I)Z" } : Jvm.MethodName)) ∈ xT := xT_t (i := 158) (by decide +kernel) (by decide +kernel)
theorem kcR_isSign : (Jvm.Cond.code ({ cls := "GoodsTree$TextReader", name := "isSign", desc := "(I)Z" } : Jvm.MethodName) prog_5_method_20_code (1 : Nat) (Option.some Jvm.ClassFile.FieldType.boolean)) ∈ xT := xT_t (i := 159) (by decide +kernel) (by decide +kernel)
theorem kmR_57 : (Jvm.Cond.methodLink "GoodsTree$TextReader" (57 : Nat) ({ cls := "GoodsTree$TextReader", name := "isDigit", desc := "(I)Z" } : Jvm.MethodName)) ∈ xT := xT_t (i := 160) (by decide +kernel) (by decide +kernel)
theorem ktR_isDigit : (Jvm.Cond.static ({ cls := "GoodsTree$TextReader", name := "isDigit", desc := "(I)Z" } : Jvm.MethodName)) ∈ xT := xT_t (i := 161) (by decide +kernel) (by decide +kernel)
theorem kcR_isDigit : (Jvm.Cond.code ({ cls := "GoodsTree$TextReader", name := "isDigit", desc := "(I)Z" } : Jvm.MethodName) prog_5_method_21_code (1 : Nat) (Option.some Jvm.ClassFile.FieldType.boolean)) ∈ xT := xT_t (i := 162) (by decide +kernel) (by decide +kernel)
theorem kmR_102 : (Jvm.Cond.methodLink "GoodsTree$TextReader" (102 : Nat) ({ cls := "GoodsTree$TextReader", name := "isLetter", desc := "(I)Z" } : Jvm.MethodName)) ∈ xT := xT_t (i := 163) (by decide +kernel) (by decide +kernel)
theorem ktR_isLetter : (Jvm.Cond.static ({ cls := "GoodsTree$TextReader", name := "isLetter", desc := "(I)Z" } : Jvm.MethodName)) ∈ xT := xT_t (i := 164) (by decide +kernel) (by decide +kernel)
theorem kcR_isLetter : (Jvm.Cond.code ({ cls := "GoodsTree$TextReader", name := "isLetter", desc := "(I)Z" } : Jvm.MethodName) prog_5_method_22_code (1 : Nat) (Option.some Jvm.ClassFile.FieldType.boolean)) ∈ xT := xT_t (i := 165) (by decide +kernel) (by decide +kernel)
theorem kmL_67 : (Jvm.Cond.methodLink "GoodsTreeLaw" (67 : Nat) ({ cls := "GoodsTree", name := "failure", desc := "(I)I" } : Jvm.MethodName)) ∈ xT := xT_t (i := 166) (by decide +kernel) (by decide +kernel)
theorem kiG_failure : (Jvm.Cond.instanceMethod ({ cls := "GoodsTree", name := "failure", desc := "(I)I" } : Jvm.MethodName)) ∈ xT := xT_t (i := 167) (by decide +kernel) (by decide +kernel)
theorem ksG_failure : (Jvm.Cond.selects "GoodsTree" ({ cls := "GoodsTree", name := "failure", desc := "(I)I" } : Jvm.MethodName) ({ cls := "GoodsTree", name := "failure", desc := "(I)I" } : Jvm.MethodName)) ∈ xT := xT_t (i := 168) (by decide +kernel) (by decide +kernel)
theorem kcG_failure : (Jvm.Cond.code ({ cls := "GoodsTree", name := "failure", desc := "(I)I" } : Jvm.MethodName) prog_1_method_4_code (2 : Nat) (Option.some Jvm.ClassFile.FieldType.int)) ∈ xT := xT_t (i := 169) (by decide +kernel) (by decide +kernel)
theorem kmG_79 : (Jvm.Cond.methodLink "GoodsTree" (79 : Nat) ({ cls := "GoodsTree$TextReader", name := "failureKind", desc := "()I" } : Jvm.MethodName)) ∈ xT := xT_t (i := 170) (by decide +kernel) (by decide +kernel)
theorem kiR_failureKind : (Jvm.Cond.instanceMethod ({ cls := "GoodsTree$TextReader", name := "failureKind", desc := "()I" } : Jvm.MethodName)) ∈ xT := xT_t (i := 171) (by decide +kernel) (by decide +kernel)
theorem ksR_failureKind : (Jvm.Cond.selects "GoodsTree$TextReader" ({ cls := "GoodsTree$TextReader", name := "failureKind", desc := "()I" } : Jvm.MethodName) ({ cls := "GoodsTree$TextReader", name := "failureKind", desc := "()I" } : Jvm.MethodName)) ∈ xT := xT_t (i := 172) (by decide +kernel) (by decide +kernel)
theorem kcR_failureKind : (Jvm.Cond.code ({ cls := "GoodsTree$TextReader", name := "failureKind", desc := "()I" } : Jvm.MethodName) prog_5_method_3_code (1 : Nat) (Option.some Jvm.ClassFile.FieldType.int)) ∈ xT := xT_t (i := 173) (by decide +kernel) (by decide +kernel)
theorem kmG_82 : (Jvm.Cond.methodLink "GoodsTree" (82 : Nat) ({ cls := "GoodsTree$TextReader", name := "failurePlace", desc := "()I" } : Jvm.MethodName)) ∈ xT := xT_t (i := 174) (by decide +kernel) (by decide +kernel)
theorem kiR_failurePlace : (Jvm.Cond.instanceMethod ({ cls := "GoodsTree$TextReader", name := "failurePlace", desc := "()I" } : Jvm.MethodName)) ∈ xT := xT_t (i := 175) (by decide +kernel) (by decide +kernel)
theorem ksR_failurePlace : (Jvm.Cond.selects "GoodsTree$TextReader" ({ cls := "GoodsTree$TextReader", name := "failurePlace", desc := "()I" } : Jvm.MethodName) ({ cls := "GoodsTree$TextReader", name := "failurePlace", desc := "()I" } : Jvm.MethodName)) ∈ xT := xT_t (i := 176) (by decide +kernel) (by decide +kernel)
theorem kcR_failurePlace : (Jvm.Cond.code ({ cls := "GoodsTree$TextReader", name := "failurePlace", desc := "()I" } : Jvm.MethodName) prog_5_method_4_code (1 : Nat) (Option.some Jvm.ClassFile.FieldType.int)) ∈ xT := xT_t (i := 177) (by decide +kernel) (by decide +kernel)
theorem kmL_72 : (Jvm.Cond.methodLink "GoodsTreeLaw" (72 : Nat) ({ cls := "GoodsTree", name := "edition", desc := "(I)Z" } : Jvm.MethodName)) ∈ xT := xT_t (i := 178) (by decide +kernel) (by decide +kernel)
theorem kiG_edition : (Jvm.Cond.instanceMethod ({ cls := "GoodsTree", name := "edition", desc := "(I)Z" } : Jvm.MethodName)) ∈ xT := xT_t (i := 179) (by decide +kernel) (by decide +kernel)
theorem ksG_edition : (Jvm.Cond.selects "GoodsTree" ({ cls := "GoodsTree", name := "edition", desc := "(I)Z" } : Jvm.MethodName) ({ cls := "GoodsTree", name := "edition", desc := "(I)Z" } : Jvm.MethodName)) ∈ xT := xT_t (i := 180) (by decide +kernel) (by decide +kernel)
theorem kcG_edition : (Jvm.Cond.code ({ cls := "GoodsTree", name := "edition", desc := "(I)Z" } : Jvm.MethodName) prog_1_method_5_code (2 : Nat) (Option.some Jvm.ClassFile.FieldType.boolean)) ∈ xT := xT_t (i := 181) (by decide +kernel) (by decide +kernel)
theorem kmG_85 : (Jvm.Cond.methodLink "GoodsTree" (85 : Nat) ({ cls := "GoodsTree", name := "isEdition", desc := "(I)Z" } : Jvm.MethodName)) ∈ xT := xT_t (i := 182) (by decide +kernel) (by decide +kernel)
theorem ktG_isEdition : (Jvm.Cond.static ({ cls := "GoodsTree", name := "isEdition", desc := "(I)Z" } : Jvm.MethodName)) ∈ xT := xT_t (i := 183) (by decide +kernel) (by decide +kernel)
theorem kcG_isEdition : (Jvm.Cond.code ({ cls := "GoodsTree", name := "isEdition", desc := "(I)Z" } : Jvm.MethodName) prog_1_method_18_code (1 : Nat) (Option.some Jvm.ClassFile.FieldType.boolean)) ∈ xT := xT_t (i := 184) (by decide +kernel) (by decide +kernel)
theorem kmL_82 : (Jvm.Cond.methodLink "GoodsTreeLaw" (82 : Nat) ({ cls := "GoodsTree", name := "find", desc := "(J)I" } : Jvm.MethodName)) ∈ xT := xT_t (i := 185) (by decide +kernel) (by decide +kernel)
theorem kiG_find : (Jvm.Cond.instanceMethod ({ cls := "GoodsTree", name := "find", desc := "(J)I" } : Jvm.MethodName)) ∈ xT := xT_t (i := 186) (by decide +kernel) (by decide +kernel)
theorem ksG_find : (Jvm.Cond.selects "GoodsTree" ({ cls := "GoodsTree", name := "find", desc := "(J)I" } : Jvm.MethodName) ({ cls := "GoodsTree", name := "find", desc := "(J)I" } : Jvm.MethodName)) ∈ xT := xT_t (i := 187) (by decide +kernel) (by decide +kernel)
theorem kcG_find : (Jvm.Cond.code ({ cls := "GoodsTree", name := "find", desc := "(J)I" } : Jvm.MethodName) prog_1_method_7_code (3 : Nat) (Option.some Jvm.ClassFile.FieldType.int)) ∈ xT := xT_t (i := 188) (by decide +kernel) (by decide +kernel)
theorem kmG_115 : (Jvm.Cond.methodLink "GoodsTree" (115 : Nat) ({ cls := "GoodsTree$Tree", name := "rowOf", desc := "(J)I" } : Jvm.MethodName)) ∈ xT := xT_t (i := 189) (by decide +kernel) (by decide +kernel)
theorem kiT_rowOf : (Jvm.Cond.instanceMethod ({ cls := "GoodsTree$Tree", name := "rowOf", desc := "(J)I" } : Jvm.MethodName)) ∈ xT := xT_t (i := 190) (by decide +kernel) (by decide +kernel)
theorem ksT_rowOf : (Jvm.Cond.selects "GoodsTree$Tree" ({ cls := "GoodsTree$Tree", name := "rowOf", desc := "(J)I" } : Jvm.MethodName) ({ cls := "GoodsTree$Tree", name := "rowOf", desc := "(J)I" } : Jvm.MethodName)) ∈ xT := xT_t (i := 191) (by decide +kernel) (by decide +kernel)
theorem kcT_rowOf : (Jvm.Cond.code ({ cls := "GoodsTree$Tree", name := "rowOf", desc := "(J)I" } : Jvm.MethodName) prog_6_method_12_code (4 : Nat) (Option.some Jvm.ClassFile.FieldType.int)) ∈ xT := xT_t (i := 192) (by decide +kernel) (by decide +kernel)
theorem kmL_95 : (Jvm.Cond.methodLink "GoodsTreeLaw" (95 : Nat) ({ cls := "GoodsTree", name := "link", desc := "(IJIJ)Z" } : Jvm.MethodName)) ∈ xT := xT_t (i := 193) (by decide +kernel) (by decide +kernel)
theorem kiG_link : (Jvm.Cond.instanceMethod ({ cls := "GoodsTree", name := "link", desc := "(IJIJ)Z" } : Jvm.MethodName)) ∈ xT := xT_t (i := 194) (by decide +kernel) (by decide +kernel)
theorem ksG_link : (Jvm.Cond.selects "GoodsTree" ({ cls := "GoodsTree", name := "link", desc := "(IJIJ)Z" } : Jvm.MethodName) ({ cls := "GoodsTree", name := "link", desc := "(IJIJ)Z" } : Jvm.MethodName)) ∈ xT := xT_t (i := 195) (by decide +kernel) (by decide +kernel)
theorem kcG_link : (Jvm.Cond.code ({ cls := "GoodsTree", name := "link", desc := "(IJIJ)Z" } : Jvm.MethodName) prog_1_method_10_code (7 : Nat) (Option.some Jvm.ClassFile.FieldType.boolean)) ∈ xT := xT_t (i := 196) (by decide +kernel) (by decide +kernel)
theorem kmG_119 : (Jvm.Cond.methodLink "GoodsTree" (119 : Nat) ({ cls := "GoodsTree", name := "hasCode", desc := "(IJ)Z" } : Jvm.MethodName)) ∈ xT := xT_t (i := 197) (by decide +kernel) (by decide +kernel)
theorem kiG_hasCode : (Jvm.Cond.instanceMethod ({ cls := "GoodsTree", name := "hasCode", desc := "(IJ)Z" } : Jvm.MethodName)) ∈ xT := xT_t (i := 199) (by decide +kernel) (by decide +kernel)
theorem kcG_hasCode : (Jvm.Cond.code ({ cls := "GoodsTree", name := "hasCode", desc := "(IJ)Z" } : Jvm.MethodName) prog_1_method_19_code (4 : Nat) (Option.some Jvm.ClassFile.FieldType.boolean)) ∈ xT := xT_t (i := 200) (by decide +kernel) (by decide +kernel)
theorem kmG_128 : (Jvm.Cond.methodLink "GoodsTree" (128 : Nat) ({ cls := "GoodsTree$Pairs", name := "isFull", desc := "()Z" } : Jvm.MethodName)) ∈ xT := xT_t (i := 201) (by decide +kernel) (by decide +kernel)
theorem kiP_isFull : (Jvm.Cond.instanceMethod ({ cls := "GoodsTree$Pairs", name := "isFull", desc := "()Z" } : Jvm.MethodName)) ∈ xT := xT_t (i := 202) (by decide +kernel) (by decide +kernel)
theorem ksP_isFull : (Jvm.Cond.selects "GoodsTree$Pairs" ({ cls := "GoodsTree$Pairs", name := "isFull", desc := "()Z" } : Jvm.MethodName) ({ cls := "GoodsTree$Pairs", name := "isFull", desc := "()Z" } : Jvm.MethodName)) ∈ xT := xT_t (i := 203) (by decide +kernel) (by decide +kernel)
theorem kcP_isFull : (Jvm.Cond.code ({ cls := "GoodsTree$Pairs", name := "isFull", desc := "()Z" } : Jvm.MethodName) prog_4_method_3_code (1 : Nat) (Option.some Jvm.ClassFile.FieldType.boolean)) ∈ xT := xT_t (i := 204) (by decide +kernel) (by decide +kernel)
theorem kmG_132 : (Jvm.Cond.methodLink "GoodsTree" (132 : Nat) ({ cls := "GoodsTree$Pairs", name := "holds", desc := "(IJIJ)Z" } : Jvm.MethodName)) ∈ xT := xT_t (i := 205) (by decide +kernel) (by decide +kernel)
theorem kiP_holds : (Jvm.Cond.instanceMethod ({ cls := "GoodsTree$Pairs", name := "holds", desc := "(IJIJ)Z" } : Jvm.MethodName)) ∈ xT := xT_t (i := 206) (by decide +kernel) (by decide +kernel)
theorem ksP_holds : (Jvm.Cond.selects "GoodsTree$Pairs" ({ cls := "GoodsTree$Pairs", name := "holds", desc := "(IJIJ)Z" } : Jvm.MethodName) ({ cls := "GoodsTree$Pairs", name := "holds", desc := "(IJIJ)Z" } : Jvm.MethodName)) ∈ xT := xT_t (i := 207) (by decide +kernel) (by decide +kernel)
theorem kcP_holds : (Jvm.Cond.code ({ cls := "GoodsTree$Pairs", name := "holds", desc := "(IJIJ)Z" } : Jvm.MethodName) prog_4_method_4_code (8 : Nat) (Option.some Jvm.ClassFile.FieldType.boolean)) ∈ xT := xT_t (i := 208) (by decide +kernel) (by decide +kernel)
theorem kmP_35 : (Jvm.Cond.methodLink "GoodsTree$Pairs" (35 : Nat) ({ cls := "GoodsTree$Pairs", name := "matches", desc := "(IIJI)Z" } : Jvm.MethodName)) ∈ xT := xT_t (i := 209) (by decide +kernel) (by decide +kernel)
theorem kiP_matches : (Jvm.Cond.instanceMethod ({ cls := "GoodsTree$Pairs", name := "matches", desc := "(IIJI)Z" } : Jvm.MethodName)) ∈ xT := xT_t (i := 210) (by decide +kernel) (by decide +kernel)
theorem ksP_matches : (Jvm.Cond.selects "GoodsTree$Pairs" ({ cls := "GoodsTree$Pairs", name := "matches", desc := "(IIJI)Z" } : Jvm.MethodName) ({ cls := "GoodsTree$Pairs", name := "matches", desc := "(IIJI)Z" } : Jvm.MethodName)) ∈ xT := xT_t (i := 211) (by decide +kernel) (by decide +kernel)
theorem kcP_matches : (Jvm.Cond.code ({ cls := "GoodsTree$Pairs", name := "matches", desc := "(IIJI)Z" } : Jvm.MethodName) prog_4_method_6_code (6 : Nat) (Option.some Jvm.ClassFile.FieldType.boolean)) ∈ xT := xT_t (i := 212) (by decide +kernel) (by decide +kernel)
theorem kmP_43 : (Jvm.Cond.methodLink "GoodsTree$Pairs" (43 : Nat) ({ cls := "GoodsTree$Pairs", name := "has", desc := "(I)Z" } : Jvm.MethodName)) ∈ xT := xT_t (i := 213) (by decide +kernel) (by decide +kernel)
theorem kiP_has : (Jvm.Cond.instanceMethod ({ cls := "GoodsTree$Pairs", name := "has", desc := "(I)Z" } : Jvm.MethodName)) ∈ xT := xT_t (i := 215) (by decide +kernel) (by decide +kernel)
theorem kcP_has : (Jvm.Cond.code ({ cls := "GoodsTree$Pairs", name := "has", desc := "(I)Z" } : Jvm.MethodName) prog_4_method_15_code (2 : Nat) (Option.some Jvm.ClassFile.FieldType.boolean)) ∈ xT := xT_t (i := 216) (by decide +kernel) (by decide +kernel)
theorem kmG_138 : (Jvm.Cond.methodLink "GoodsTree" (138 : Nat) ({ cls := "GoodsTree$Pairs", name := "add", desc := "(IJIJ)V" } : Jvm.MethodName)) ∈ xT := xT_t (i := 217) (by decide +kernel) (by decide +kernel)
theorem kiP_add : (Jvm.Cond.instanceMethod ({ cls := "GoodsTree$Pairs", name := "add", desc := "(IJIJ)V" } : Jvm.MethodName)) ∈ xT := xT_t (i := 218) (by decide +kernel) (by decide +kernel)
theorem ksP_add : (Jvm.Cond.selects "GoodsTree$Pairs" ({ cls := "GoodsTree$Pairs", name := "add", desc := "(IJIJ)V" } : Jvm.MethodName) ({ cls := "GoodsTree$Pairs", name := "add", desc := "(IJIJ)V" } : Jvm.MethodName)) ∈ xT := xT_t (i := 219) (by decide +kernel) (by decide +kernel)
theorem kcP_add : (Jvm.Cond.code ({ cls := "GoodsTree$Pairs", name := "add", desc := "(IJIJ)V" } : Jvm.MethodName) prog_4_method_5_code (7 : Nat) (Option.none : Option Jvm.ClassFile.FieldType)) ∈ xT := xT_t (i := 220) (by decide +kernel) (by decide +kernel)
theorem kmP_39 : (Jvm.Cond.methodLink "GoodsTree$Pairs" (39 : Nat) ({ cls := "GoodsTree$Pairs", name := "isFull", desc := "()Z" } : Jvm.MethodName)) ∈ xT := xT_t (i := 221) (by decide +kernel) (by decide +kernel)
theorem kmL_117 : (Jvm.Cond.methodLink "GoodsTreeLaw" (117 : Nat) ({ cls := "GoodsTree", name := "count", desc := "(I)I" } : Jvm.MethodName)) ∈ xT := xT_t (i := 222) (by decide +kernel) (by decide +kernel)
theorem kiG_count : (Jvm.Cond.instanceMethod ({ cls := "GoodsTree", name := "count", desc := "(I)I" } : Jvm.MethodName)) ∈ xT := xT_t (i := 223) (by decide +kernel) (by decide +kernel)
theorem ksG_count : (Jvm.Cond.selects "GoodsTree" ({ cls := "GoodsTree", name := "count", desc := "(I)I" } : Jvm.MethodName) ({ cls := "GoodsTree", name := "count", desc := "(I)I" } : Jvm.MethodName)) ∈ xT := xT_t (i := 224) (by decide +kernel) (by decide +kernel)
theorem kcG_count : (Jvm.Cond.code ({ cls := "GoodsTree", name := "count", desc := "(I)I" } : Jvm.MethodName) prog_1_method_16_code (2 : Nat) (Option.some Jvm.ClassFile.FieldType.int)) ∈ xT := xT_t (i := 225) (by decide +kernel) (by decide +kernel)
theorem kmG_195 : (Jvm.Cond.methodLink "GoodsTree" (195 : Nat) ({ cls := "GoodsTree$TextReader", name := "length", desc := "()I" } : Jvm.MethodName)) ∈ xT := xT_t (i := 226) (by decide +kernel) (by decide +kernel)
theorem kiR_length : (Jvm.Cond.instanceMethod ({ cls := "GoodsTree$TextReader", name := "length", desc := "()I" } : Jvm.MethodName)) ∈ xT := xT_t (i := 227) (by decide +kernel) (by decide +kernel)
theorem ksR_length : (Jvm.Cond.selects "GoodsTree$TextReader" ({ cls := "GoodsTree$TextReader", name := "length", desc := "()I" } : Jvm.MethodName) ({ cls := "GoodsTree$TextReader", name := "length", desc := "()I" } : Jvm.MethodName)) ∈ xT := xT_t (i := 228) (by decide +kernel) (by decide +kernel)
theorem kcR_length : (Jvm.Cond.code ({ cls := "GoodsTree$TextReader", name := "length", desc := "()I" } : Jvm.MethodName) prog_5_method_2_code (1 : Nat) (Option.some Jvm.ClassFile.FieldType.int)) ∈ xT := xT_t (i := 229) (by decide +kernel) (by decide +kernel)
theorem kmG_165 : (Jvm.Cond.methodLink "GoodsTree" (165 : Nat) ({ cls := "GoodsTree$Pairs", name := "size", desc := "()I" } : Jvm.MethodName)) ∈ xT := xT_t (i := 230) (by decide +kernel) (by decide +kernel)
theorem kiP_size : (Jvm.Cond.instanceMethod ({ cls := "GoodsTree$Pairs", name := "size", desc := "()I" } : Jvm.MethodName)) ∈ xT := xT_t (i := 231) (by decide +kernel) (by decide +kernel)
theorem ksP_size : (Jvm.Cond.selects "GoodsTree$Pairs" ({ cls := "GoodsTree$Pairs", name := "size", desc := "()I" } : Jvm.MethodName) ({ cls := "GoodsTree$Pairs", name := "size", desc := "()I" } : Jvm.MethodName)) ∈ xT := xT_t (i := 232) (by decide +kernel) (by decide +kernel)
theorem kcP_size : (Jvm.Cond.code ({ cls := "GoodsTree$Pairs", name := "size", desc := "()I" } : Jvm.MethodName) prog_4_method_2_code (1 : Nat) (Option.some Jvm.ClassFile.FieldType.int)) ∈ xT := xT_t (i := 233) (by decide +kernel) (by decide +kernel)
theorem kmG_187 : (Jvm.Cond.methodLink "GoodsTree" (187 : Nat) ({ cls := "GoodsTree$Findings", name := "size", desc := "()I" } : Jvm.MethodName)) ∈ xT := xT_t (i := 234) (by decide +kernel) (by decide +kernel)
theorem kiF_size : (Jvm.Cond.instanceMethod ({ cls := "GoodsTree$Findings", name := "size", desc := "()I" } : Jvm.MethodName)) ∈ xT := xT_t (i := 235) (by decide +kernel) (by decide +kernel)
theorem ksF_size : (Jvm.Cond.selects "GoodsTree$Findings" ({ cls := "GoodsTree$Findings", name := "size", desc := "()I" } : Jvm.MethodName) ({ cls := "GoodsTree$Findings", name := "size", desc := "()I" } : Jvm.MethodName)) ∈ xT := xT_t (i := 236) (by decide +kernel) (by decide +kernel)
theorem kcF_size : (Jvm.Cond.code ({ cls := "GoodsTree$Findings", name := "size", desc := "()I" } : Jvm.MethodName) prog_3_method_3_code (1 : Nat) (Option.some Jvm.ClassFile.FieldType.int)) ∈ xT := xT_t (i := 237) (by decide +kernel) (by decide +kernel)
theorem kmG_198 : (Jvm.Cond.methodLink "GoodsTree" (198 : Nat) ({ cls := "GoodsTree", name := "countInEdition", desc := "(I)I" } : Jvm.MethodName)) ∈ xT := xT_t (i := 238) (by decide +kernel) (by decide +kernel)
theorem kiG_countInEdition : (Jvm.Cond.instanceMethod ({ cls := "GoodsTree", name := "countInEdition", desc := "(I)I" } : Jvm.MethodName)) ∈ xT := xT_t (i := 240) (by decide +kernel) (by decide +kernel)
theorem kcG_countInEdition : (Jvm.Cond.code ({ cls := "GoodsTree", name := "countInEdition", desc := "(I)I" } : Jvm.MethodName) prog_1_method_17_code (2 : Nat) (Option.some Jvm.ClassFile.FieldType.int)) ∈ xT := xT_t (i := 241) (by decide +kernel) (by decide +kernel)
theorem kmG_75 : (Jvm.Cond.methodLink "GoodsTree" (75 : Nat) ({ cls := "GoodsTree$Tree", name := "size", desc := "()I" } : Jvm.MethodName)) ∈ xT := xT_t (i := 242) (by decide +kernel) (by decide +kernel)
theorem kiT_size : (Jvm.Cond.instanceMethod ({ cls := "GoodsTree$Tree", name := "size", desc := "()I" } : Jvm.MethodName)) ∈ xT := xT_t (i := 243) (by decide +kernel) (by decide +kernel)
theorem ksT_size : (Jvm.Cond.selects "GoodsTree$Tree" ({ cls := "GoodsTree$Tree", name := "size", desc := "()I" } : Jvm.MethodName) ({ cls := "GoodsTree$Tree", name := "size", desc := "()I" } : Jvm.MethodName)) ∈ xT := xT_t (i := 244) (by decide +kernel) (by decide +kernel)
theorem kcT_size : (Jvm.Cond.code ({ cls := "GoodsTree$Tree", name := "size", desc := "()I" } : Jvm.MethodName) prog_6_method_3_code (1 : Nat) (Option.some Jvm.ClassFile.FieldType.int)) ∈ xT := xT_t (i := 245) (by decide +kernel) (by decide +kernel)
theorem kmG_201 : (Jvm.Cond.methodLink "GoodsTree" (201 : Nat) ({ cls := "GoodsTree$Tree", name := "chapters", desc := "()I" } : Jvm.MethodName)) ∈ xT := xT_t (i := 246) (by decide +kernel) (by decide +kernel)
theorem kiT_chapters : (Jvm.Cond.instanceMethod ({ cls := "GoodsTree$Tree", name := "chapters", desc := "()I" } : Jvm.MethodName)) ∈ xT := xT_t (i := 247) (by decide +kernel) (by decide +kernel)
theorem ksT_chapters : (Jvm.Cond.selects "GoodsTree$Tree" ({ cls := "GoodsTree$Tree", name := "chapters", desc := "()I" } : Jvm.MethodName) ({ cls := "GoodsTree$Tree", name := "chapters", desc := "()I" } : Jvm.MethodName)) ∈ xT := xT_t (i := 248) (by decide +kernel) (by decide +kernel)
theorem kcT_chapters : (Jvm.Cond.code ({ cls := "GoodsTree$Tree", name := "chapters", desc := "()I" } : Jvm.MethodName) prog_6_method_4_code (1 : Nat) (Option.some Jvm.ClassFile.FieldType.int)) ∈ xT := xT_t (i := 249) (by decide +kernel) (by decide +kernel)
theorem kmL_58 : (Jvm.Cond.methodLink "GoodsTreeLaw" (58 : Nat) ({ cls := "GoodsTreeLaw", name := "read", desc := "(LGoodsTree;[J)I" } : Jvm.MethodName)) ∈ xT := xT_t (i := 250) (by decide +kernel) (by decide +kernel)
theorem ktL_read : (Jvm.Cond.static ({ cls := "GoodsTreeLaw", name := "read", desc := "(LGoodsTree;[J)I" } : Jvm.MethodName)) ∈ xT := xT_t (i := 251) (by decide +kernel) (by decide +kernel)
theorem kwL_read : (Jvm.Cond.codeWith ({ cls := "GoodsTreeLaw", name := "read", desc := "(LGoodsTree;[J)I" } : Jvm.MethodName) method_3_code (3 : Nat) (Option.some Jvm.ClassFile.FieldType.int) [((0 : Nat), (8 : Nat), (11 : Nat), (13 : Nat))]) ∈ xT := xT_t (i := 252) (by decide +kernel) (by decide +kernel)
theorem klL_13 : (Jvm.Cond.classLink "GoodsTreeLaw" (13 : Nat) "java/lang/IllegalStateException") ∈ xT := xT_t (i := 253) (by decide +kernel) (by decide +kernel)
theorem kmL_7 : (Jvm.Cond.methodLink "GoodsTreeLaw" (7 : Nat) ({ cls := "GoodsTree", name := "read", desc := "()I" } : Jvm.MethodName)) ∈ xT := xT_t (i := 254) (by decide +kernel) (by decide +kernel)
theorem kiG_read : (Jvm.Cond.instanceMethod ({ cls := "GoodsTree", name := "read", desc := "()I" } : Jvm.MethodName)) ∈ xT := xT_t (i := 255) (by decide +kernel) (by decide +kernel)
theorem ksG_read : (Jvm.Cond.selects "GoodsTree" ({ cls := "GoodsTree", name := "read", desc := "()I" } : Jvm.MethodName) ({ cls := "GoodsTree", name := "read", desc := "()I" } : Jvm.MethodName)) ∈ xT := xT_t (i := 256) (by decide +kernel) (by decide +kernel)
theorem kcG_read : (Jvm.Cond.code ({ cls := "GoodsTree", name := "read", desc := "()I" } : Jvm.MethodName) prog_1_method_3_code (3 : Nat) (Option.some Jvm.ClassFile.FieldType.int)) ∈ xT := xT_t (i := 257) (by decide +kernel) (by decide +kernel)
theorem kmG_54 : (Jvm.Cond.methodLink "GoodsTree" (54 : Nat) ({ cls := "GoodsTree$Tree", name := "clear", desc := "()V" } : Jvm.MethodName)) ∈ xT := xT_t (i := 258) (by decide +kernel) (by decide +kernel)
theorem kiT_clear : (Jvm.Cond.instanceMethod ({ cls := "GoodsTree$Tree", name := "clear", desc := "()V" } : Jvm.MethodName)) ∈ xT := xT_t (i := 259) (by decide +kernel) (by decide +kernel)
theorem ksT_clear : (Jvm.Cond.selects "GoodsTree$Tree" ({ cls := "GoodsTree$Tree", name := "clear", desc := "()V" } : Jvm.MethodName) ({ cls := "GoodsTree$Tree", name := "clear", desc := "()V" } : Jvm.MethodName)) ∈ xT := xT_t (i := 260) (by decide +kernel) (by decide +kernel)
theorem kcT_clear : (Jvm.Cond.code ({ cls := "GoodsTree$Tree", name := "clear", desc := "()V" } : Jvm.MethodName) prog_6_method_2_code (1 : Nat) (Option.none : Option Jvm.ClassFile.FieldType)) ∈ xT := xT_t (i := 261) (by decide +kernel) (by decide +kernel)
theorem kmG_57 : (Jvm.Cond.methodLink "GoodsTree" (57 : Nat) ({ cls := "GoodsTree$TextReader", name := "readRows", desc := "(LGoodsTree$Tree;)Z" } : Jvm.MethodName)) ∈ xT := xT_t (i := 262) (by decide +kernel) (by decide +kernel)
theorem kiR_readRows : (Jvm.Cond.instanceMethod ({ cls := "GoodsTree$TextReader", name := "readRows", desc := "(LGoodsTree$Tree;)Z" } : Jvm.MethodName)) ∈ xT := xT_t (i := 263) (by decide +kernel) (by decide +kernel)
theorem ksR_readRows : (Jvm.Cond.selects "GoodsTree$TextReader" ({ cls := "GoodsTree$TextReader", name := "readRows", desc := "(LGoodsTree$Tree;)Z" } : Jvm.MethodName) ({ cls := "GoodsTree$TextReader", name := "readRows", desc := "(LGoodsTree$Tree;)Z" } : Jvm.MethodName)) ∈ xT := xT_t (i := 264) (by decide +kernel) (by decide +kernel)
theorem kcR_readRows : (Jvm.Cond.code ({ cls := "GoodsTree$TextReader", name := "readRows", desc := "(LGoodsTree$Tree;)Z" } : Jvm.MethodName) prog_5_method_9_code (3 : Nat) (Option.some Jvm.ClassFile.FieldType.boolean)) ∈ xT := xT_t (i := 265) (by decide +kernel) (by decide +kernel)
theorem kmR_39 : (Jvm.Cond.methodLink "GoodsTree$TextReader" (39 : Nat) ({ cls := "GoodsTree$TextReader", name := "start", desc := "()V" } : Jvm.MethodName)) ∈ xT := xT_t (i := 266) (by decide +kernel) (by decide +kernel)
theorem kiR_start : (Jvm.Cond.instanceMethod ({ cls := "GoodsTree$TextReader", name := "start", desc := "()V" } : Jvm.MethodName)) ∈ xT := xT_t (i := 268) (by decide +kernel) (by decide +kernel)
theorem kcR_start : (Jvm.Cond.code ({ cls := "GoodsTree$TextReader", name := "start", desc := "()V" } : Jvm.MethodName) prog_5_method_11_code (1 : Nat) (Option.none : Option Jvm.ClassFile.FieldType)) ∈ xT := xT_t (i := 269) (by decide +kernel) (by decide +kernel)
theorem kmR_42 : (Jvm.Cond.methodLink "GoodsTree$TextReader" (42 : Nat) ({ cls := "GoodsTree$TextReader", name := "fail", desc := "(II)Z" } : Jvm.MethodName)) ∈ xT := xT_t (i := 270) (by decide +kernel) (by decide +kernel)
theorem kiR_fail : (Jvm.Cond.instanceMethod ({ cls := "GoodsTree$TextReader", name := "fail", desc := "(II)Z" } : Jvm.MethodName)) ∈ xT := xT_t (i := 272) (by decide +kernel) (by decide +kernel)
theorem kcR_fail : (Jvm.Cond.code ({ cls := "GoodsTree$TextReader", name := "fail", desc := "(II)Z" } : Jvm.MethodName) prog_5_method_12_code (3 : Nat) (Option.some Jvm.ClassFile.FieldType.boolean)) ∈ xT := xT_t (i := 273) (by decide +kernel) (by decide +kernel)
theorem kmR_46 : (Jvm.Cond.methodLink "GoodsTree$TextReader" (46 : Nat) ({ cls := "GoodsTree$TextReader", name := "readRow", desc := "(LGoodsTree$Tree;)Z" } : Jvm.MethodName)) ∈ xT := xT_t (i := 274) (by decide +kernel) (by decide +kernel)
theorem kiR_readRow : (Jvm.Cond.instanceMethod ({ cls := "GoodsTree$TextReader", name := "readRow", desc := "(LGoodsTree$Tree;)Z" } : Jvm.MethodName)) ∈ xT := xT_t (i := 276) (by decide +kernel) (by decide +kernel)
theorem kcR_readRow : (Jvm.Cond.code ({ cls := "GoodsTree$TextReader", name := "readRow", desc := "(LGoodsTree$Tree;)Z" } : Jvm.MethodName) prog_5_method_13_code (4 : Nat) (Option.some Jvm.ClassFile.FieldType.boolean)) ∈ xT := xT_t (i := 277) (by decide +kernel) (by decide +kernel)
theorem kmR_53 : (Jvm.Cond.methodLink "GoodsTree$TextReader" (53 : Nat) ({ cls := "GoodsTree$TextReader", name := "here", desc := "()C" } : Jvm.MethodName)) ∈ xT := xT_t (i := 278) (by decide +kernel) (by decide +kernel)
theorem kiR_here : (Jvm.Cond.instanceMethod ({ cls := "GoodsTree$TextReader", name := "here", desc := "()C" } : Jvm.MethodName)) ∈ xT := xT_t (i := 280) (by decide +kernel) (by decide +kernel)
theorem kcR_here : (Jvm.Cond.code ({ cls := "GoodsTree$TextReader", name := "here", desc := "()C" } : Jvm.MethodName) prog_5_method_19_code (1 : Nat) (Option.some Jvm.ClassFile.FieldType.char)) ∈ xT := xT_t (i := 281) (by decide +kernel) (by decide +kernel)
theorem kmR_60 : (Jvm.Cond.methodLink "GoodsTree$TextReader" (60 : Nat) ({ cls := "GoodsTree$TextReader", name := "countDashes", desc := "()I" } : Jvm.MethodName)) ∈ xT := xT_t (i := 282) (by decide +kernel) (by decide +kernel)
theorem kiR_countDashes : (Jvm.Cond.instanceMethod ({ cls := "GoodsTree$TextReader", name := "countDashes", desc := "()I" } : Jvm.MethodName)) ∈ xT := xT_t (i := 284) (by decide +kernel) (by decide +kernel)
theorem kcR_countDashes : (Jvm.Cond.code ({ cls := "GoodsTree$TextReader", name := "countDashes", desc := "()I" } : Jvm.MethodName) prog_5_method_15_code (3 : Nat) (Option.some Jvm.ClassFile.FieldType.int)) ∈ xT := xT_t (i := 285) (by decide +kernel) (by decide +kernel)
theorem kmR_64 : (Jvm.Cond.methodLink "GoodsTree$TextReader" (64 : Nat) ({ cls := "GoodsTree$Tree", name := "mostDashes", desc := "()I" } : Jvm.MethodName)) ∈ xT := xT_t (i := 286) (by decide +kernel) (by decide +kernel)
theorem kiT_mostDashes : (Jvm.Cond.instanceMethod ({ cls := "GoodsTree$Tree", name := "mostDashes", desc := "()I" } : Jvm.MethodName)) ∈ xT := xT_t (i := 287) (by decide +kernel) (by decide +kernel)
theorem ksT_mostDashes : (Jvm.Cond.selects "GoodsTree$Tree" ({ cls := "GoodsTree$Tree", name := "mostDashes", desc := "()I" } : Jvm.MethodName) ({ cls := "GoodsTree$Tree", name := "mostDashes", desc := "()I" } : Jvm.MethodName)) ∈ xT := xT_t (i := 288) (by decide +kernel) (by decide +kernel)
theorem kcT_mostDashes : (Jvm.Cond.code ({ cls := "GoodsTree$Tree", name := "mostDashes", desc := "()I" } : Jvm.MethodName) prog_6_method_13_code (1 : Nat) (Option.some Jvm.ClassFile.FieldType.int)) ∈ xT := xT_t (i := 289) (by decide +kernel) (by decide +kernel)
theorem kmT_42 : (Jvm.Cond.methodLink "GoodsTree$Tree" (42 : Nat) ({ cls := "GoodsTree$Tree", name := "dashesOf", desc := "(I)I" } : Jvm.MethodName)) ∈ xT := xT_t (i := 290) (by decide +kernel) (by decide +kernel)
theorem kiT_dashesOf : (Jvm.Cond.instanceMethod ({ cls := "GoodsTree$Tree", name := "dashesOf", desc := "(I)I" } : Jvm.MethodName)) ∈ xT := xT_t (i := 291) (by decide +kernel) (by decide +kernel)
theorem ksT_dashesOf : (Jvm.Cond.selects "GoodsTree$Tree" ({ cls := "GoodsTree$Tree", name := "dashesOf", desc := "(I)I" } : Jvm.MethodName) ({ cls := "GoodsTree$Tree", name := "dashesOf", desc := "(I)I" } : Jvm.MethodName)) ∈ xT := xT_t (i := 292) (by decide +kernel) (by decide +kernel)
theorem kcT_dashesOf : (Jvm.Cond.code ({ cls := "GoodsTree$Tree", name := "dashesOf", desc := "(I)I" } : Jvm.MethodName) prog_6_method_8_code (2 : Nat) (Option.some Jvm.ClassFile.FieldType.int)) ∈ xT := xT_t (i := 293) (by decide +kernel) (by decide +kernel)
theorem kmT_38 : (Jvm.Cond.methodLink "GoodsTree$Tree" (38 : Nat) ({ cls := "GoodsTree$Tree", name := "has", desc := "(I)Z" } : Jvm.MethodName)) ∈ xT := xT_t (i := 294) (by decide +kernel) (by decide +kernel)
theorem kiT_has : (Jvm.Cond.instanceMethod ({ cls := "GoodsTree$Tree", name := "has", desc := "(I)Z" } : Jvm.MethodName)) ∈ xT := xT_t (i := 295) (by decide +kernel) (by decide +kernel)
theorem ksT_has : (Jvm.Cond.selects "GoodsTree$Tree" ({ cls := "GoodsTree$Tree", name := "has", desc := "(I)Z" } : Jvm.MethodName) ({ cls := "GoodsTree$Tree", name := "has", desc := "(I)Z" } : Jvm.MethodName)) ∈ xT := xT_t (i := 296) (by decide +kernel) (by decide +kernel)
theorem kcT_has : (Jvm.Cond.code ({ cls := "GoodsTree$Tree", name := "has", desc := "(I)Z" } : Jvm.MethodName) prog_6_method_6_code (2 : Nat) (Option.some Jvm.ClassFile.FieldType.boolean)) ∈ xT := xT_t (i := 297) (by decide +kernel) (by decide +kernel)
theorem kmR_69 : (Jvm.Cond.methodLink "GoodsTree$TextReader" (69 : Nat) ({ cls := "GoodsTree$Tree", name := "isFull", desc := "()Z" } : Jvm.MethodName)) ∈ xT := xT_t (i := 298) (by decide +kernel) (by decide +kernel)
theorem kiT_isFull : (Jvm.Cond.instanceMethod ({ cls := "GoodsTree$Tree", name := "isFull", desc := "()Z" } : Jvm.MethodName)) ∈ xT := xT_t (i := 299) (by decide +kernel) (by decide +kernel)
theorem ksT_isFull : (Jvm.Cond.selects "GoodsTree$Tree" ({ cls := "GoodsTree$Tree", name := "isFull", desc := "()Z" } : Jvm.MethodName) ({ cls := "GoodsTree$Tree", name := "isFull", desc := "()Z" } : Jvm.MethodName)) ∈ xT := xT_t (i := 300) (by decide +kernel) (by decide +kernel)
theorem kcT_isFull : (Jvm.Cond.code ({ cls := "GoodsTree$Tree", name := "isFull", desc := "()Z" } : Jvm.MethodName) prog_6_method_5_code (1 : Nat) (Option.some Jvm.ClassFile.FieldType.boolean)) ∈ xT := xT_t (i := 301) (by decide +kernel) (by decide +kernel)
theorem kmR_73 : (Jvm.Cond.methodLink "GoodsTree$TextReader" (73 : Nat) ({ cls := "GoodsTree$TextReader", name := "readCodeAndWords", desc := "(LGoodsTree$Tree;I)Z" } : Jvm.MethodName)) ∈ xT := xT_t (i := 302) (by decide +kernel) (by decide +kernel)
theorem kiR_readCodeAndWords : (Jvm.Cond.instanceMethod ({ cls := "GoodsTree$TextReader", name := "readCodeAndWords", desc := "(LGoodsTree$Tree;I)Z" } : Jvm.MethodName)) ∈ xT := xT_t (i := 304) (by decide +kernel) (by decide +kernel)
theorem kcR_readCodeAndWords : (Jvm.Cond.code ({ cls := "GoodsTree$TextReader", name := "readCodeAndWords", desc := "(LGoodsTree$Tree;I)Z" } : Jvm.MethodName) prog_5_method_14_code (6 : Nat) (Option.some Jvm.ClassFile.FieldType.boolean)) ∈ xT := xT_t (i := 305) (by decide +kernel) (by decide +kernel)
theorem kmR_77 : (Jvm.Cond.methodLink "GoodsTree$TextReader" (77 : Nat) ({ cls := "GoodsTree$TextReader", name := "readCode", desc := "()J" } : Jvm.MethodName)) ∈ xT := xT_t (i := 306) (by decide +kernel) (by decide +kernel)
theorem kiR_readCode : (Jvm.Cond.instanceMethod ({ cls := "GoodsTree$TextReader", name := "readCode", desc := "()J" } : Jvm.MethodName)) ∈ xT := xT_t (i := 308) (by decide +kernel) (by decide +kernel)
theorem kcR_readCode : (Jvm.Cond.code ({ cls := "GoodsTree$TextReader", name := "readCode", desc := "()J" } : Jvm.MethodName) prog_5_method_16_code (5 : Nat) (Option.some Jvm.ClassFile.FieldType.long)) ∈ xT := xT_t (i := 309) (by decide +kernel) (by decide +kernel)
theorem kjR_97 : (Jvm.Cond.constantLong "GoodsTree$TextReader" (97 : Nat) (10 : Int64)) ∈ xT := xT_t (i := 310) (by decide +kernel) (by decide +kernel)
theorem kmR_81 : (Jvm.Cond.methodLink "GoodsTree$TextReader" (81 : Nat) ({ cls := "GoodsTree$Tree", name := "parentFor", desc := "(I)I" } : Jvm.MethodName)) ∈ xT := xT_t (i := 311) (by decide +kernel) (by decide +kernel)
theorem kiT_parentFor : (Jvm.Cond.instanceMethod ({ cls := "GoodsTree$Tree", name := "parentFor", desc := "(I)I" } : Jvm.MethodName)) ∈ xT := xT_t (i := 312) (by decide +kernel) (by decide +kernel)
theorem ksT_parentFor : (Jvm.Cond.selects "GoodsTree$Tree" ({ cls := "GoodsTree$Tree", name := "parentFor", desc := "(I)I" } : Jvm.MethodName) ({ cls := "GoodsTree$Tree", name := "parentFor", desc := "(I)I" } : Jvm.MethodName)) ∈ xT := xT_t (i := 313) (by decide +kernel) (by decide +kernel)
theorem kcT_parentFor : (Jvm.Cond.code ({ cls := "GoodsTree$Tree", name := "parentFor", desc := "(I)I" } : Jvm.MethodName) prog_6_method_14_code (3 : Nat) (Option.some Jvm.ClassFile.FieldType.int)) ∈ xT := xT_t (i := 314) (by decide +kernel) (by decide +kernel)
theorem kmR_85 : (Jvm.Cond.methodLink "GoodsTree$TextReader" (85 : Nat) ({ cls := "GoodsTree$Tree", name := "fitsBelow", desc := "(IJ)Z" } : Jvm.MethodName)) ∈ xT := xT_t (i := 315) (by decide +kernel) (by decide +kernel)
theorem kiT_fitsBelow : (Jvm.Cond.instanceMethod ({ cls := "GoodsTree$Tree", name := "fitsBelow", desc := "(IJ)Z" } : Jvm.MethodName)) ∈ xT := xT_t (i := 316) (by decide +kernel) (by decide +kernel)
theorem ksT_fitsBelow : (Jvm.Cond.selects "GoodsTree$Tree" ({ cls := "GoodsTree$Tree", name := "fitsBelow", desc := "(IJ)Z" } : Jvm.MethodName) ({ cls := "GoodsTree$Tree", name := "fitsBelow", desc := "(IJ)Z" } : Jvm.MethodName)) ∈ xT := xT_t (i := 317) (by decide +kernel) (by decide +kernel)
theorem kcT_fitsBelow : (Jvm.Cond.code ({ cls := "GoodsTree$Tree", name := "fitsBelow", desc := "(IJ)Z" } : Jvm.MethodName) prog_6_method_15_code (4 : Nat) (Option.some Jvm.ClassFile.FieldType.boolean)) ∈ xT := xT_t (i := 318) (by decide +kernel) (by decide +kernel)
theorem kmT_46 : (Jvm.Cond.methodLink "GoodsTree$Tree" (46 : Nat) ({ cls := "GoodsTree$Codes", name := "isChapter", desc := "(J)Z" } : Jvm.MethodName)) ∈ xT := xT_t (i := 319) (by decide +kernel) (by decide +kernel)
theorem ktC_isChapter : (Jvm.Cond.static ({ cls := "GoodsTree$Codes", name := "isChapter", desc := "(J)Z" } : Jvm.MethodName)) ∈ xT := xT_t (i := 320) (by decide +kernel) (by decide +kernel)
theorem kcC_isChapter : (Jvm.Cond.code ({ cls := "GoodsTree$Codes", name := "isChapter", desc := "(J)Z" } : Jvm.MethodName) prog_2_method_2_code (2 : Nat) (Option.some Jvm.ClassFile.FieldType.boolean)) ∈ xT := xT_t (i := 321) (by decide +kernel) (by decide +kernel)
theorem kjC_11 : (Jvm.Cond.constantLong "GoodsTree$Codes" (11 : Nat) (200 : Int64)) ∈ xT := xT_t (i := 322) (by decide +kernel) (by decide +kernel)
theorem kmT_52 : (Jvm.Cond.methodLink "GoodsTree$Tree" (52 : Nat) ({ cls := "GoodsTree$Codes", name := "beginsWith", desc := "(JJ)Z" } : Jvm.MethodName)) ∈ xT := xT_t (i := 323) (by decide +kernel) (by decide +kernel)
theorem ktC_beginsWith : (Jvm.Cond.static ({ cls := "GoodsTree$Codes", name := "beginsWith", desc := "(JJ)Z" } : Jvm.MethodName)) ∈ xT := xT_t (i := 324) (by decide +kernel) (by decide +kernel)
theorem kcC_beginsWith : (Jvm.Cond.code ({ cls := "GoodsTree$Codes", name := "beginsWith", desc := "(JJ)Z" } : Jvm.MethodName) prog_2_method_3_code (7 : Nat) (Option.some Jvm.ClassFile.FieldType.boolean)) ∈ xT := xT_t (i := 325) (by decide +kernel) (by decide +kernel)
theorem kjC_13 : (Jvm.Cond.constantLong "GoodsTree$Codes" (13 : Nat) (10 : Int64)) ∈ xT := xT_t (i := 326) (by decide +kernel) (by decide +kernel)
theorem kmR_89 : (Jvm.Cond.methodLink "GoodsTree$TextReader" (89 : Nat) ({ cls := "GoodsTree$Tree", name := "comesBehindLast", desc := "(J)Z" } : Jvm.MethodName)) ∈ xT := xT_t (i := 327) (by decide +kernel) (by decide +kernel)
theorem kiT_comesBehindLast : (Jvm.Cond.instanceMethod ({ cls := "GoodsTree$Tree", name := "comesBehindLast", desc := "(J)Z" } : Jvm.MethodName)) ∈ xT := xT_t (i := 328) (by decide +kernel) (by decide +kernel)
theorem ksT_comesBehindLast : (Jvm.Cond.selects "GoodsTree$Tree" ({ cls := "GoodsTree$Tree", name := "comesBehindLast", desc := "(J)Z" } : Jvm.MethodName) ({ cls := "GoodsTree$Tree", name := "comesBehindLast", desc := "(J)Z" } : Jvm.MethodName)) ∈ xT := xT_t (i := 329) (by decide +kernel) (by decide +kernel)
theorem kcT_comesBehindLast : (Jvm.Cond.code ({ cls := "GoodsTree$Tree", name := "comesBehindLast", desc := "(J)Z" } : Jvm.MethodName) prog_6_method_16_code (3 : Nat) (Option.some Jvm.ClassFile.FieldType.boolean)) ∈ xT := xT_t (i := 330) (by decide +kernel) (by decide +kernel)
theorem kmT_56 : (Jvm.Cond.methodLink "GoodsTree$Tree" (56 : Nat) ({ cls := "GoodsTree$Tree", name := "codeOf", desc := "(I)J" } : Jvm.MethodName)) ∈ xT := xT_t (i := 331) (by decide +kernel) (by decide +kernel)
theorem kiT_codeOf : (Jvm.Cond.instanceMethod ({ cls := "GoodsTree$Tree", name := "codeOf", desc := "(I)J" } : Jvm.MethodName)) ∈ xT := xT_t (i := 332) (by decide +kernel) (by decide +kernel)
theorem ksT_codeOf : (Jvm.Cond.selects "GoodsTree$Tree" ({ cls := "GoodsTree$Tree", name := "codeOf", desc := "(I)J" } : Jvm.MethodName) ({ cls := "GoodsTree$Tree", name := "codeOf", desc := "(I)J" } : Jvm.MethodName)) ∈ xT := xT_t (i := 333) (by decide +kernel) (by decide +kernel)
theorem kcT_codeOf : (Jvm.Cond.code ({ cls := "GoodsTree$Tree", name := "codeOf", desc := "(I)J" } : Jvm.MethodName) prog_6_method_7_code (2 : Nat) (Option.some Jvm.ClassFile.FieldType.long)) ∈ xT := xT_t (i := 334) (by decide +kernel) (by decide +kernel)
theorem kmT_60 : (Jvm.Cond.methodLink "GoodsTree$Tree" (60 : Nat) ({ cls := "GoodsTree$Codes", name := "comesBehind", desc := "(JJ)Z" } : Jvm.MethodName)) ∈ xT := xT_t (i := 335) (by decide +kernel) (by decide +kernel)
theorem ktC_comesBehind : (Jvm.Cond.static ({ cls := "GoodsTree$Codes", name := "comesBehind", desc := "(JJ)Z" } : Jvm.MethodName)) ∈ xT := xT_t (i := 336) (by decide +kernel) (by decide +kernel)
theorem kcC_comesBehind : (Jvm.Cond.code ({ cls := "GoodsTree$Codes", name := "comesBehind", desc := "(JJ)Z" } : Jvm.MethodName) prog_2_method_4_code (8 : Nat) (Option.some Jvm.ClassFile.FieldType.boolean)) ∈ xT := xT_t (i := 337) (by decide +kernel) (by decide +kernel)
theorem kmC_15 : (Jvm.Cond.methodLink "GoodsTree$Codes" (15 : Nat) ({ cls := "GoodsTree$Codes", name := "fill", desc := "(J)J" } : Jvm.MethodName)) ∈ xT := xT_t (i := 338) (by decide +kernel) (by decide +kernel)
theorem ktC_fill : (Jvm.Cond.static ({ cls := "GoodsTree$Codes", name := "fill", desc := "(J)J" } : Jvm.MethodName)) ∈ xT := xT_t (i := 339) (by decide +kernel) (by decide +kernel)
theorem kcC_fill : (Jvm.Cond.code ({ cls := "GoodsTree$Codes", name := "fill", desc := "(J)J" } : Jvm.MethodName) prog_2_method_5_code (5 : Nat) (Option.some Jvm.ClassFile.FieldType.long)) ∈ xT := xT_t (i := 340) (by decide +kernel) (by decide +kernel)
theorem kjC_19 : (Jvm.Cond.constantLong "GoodsTree$Codes" (19 : Nat) (10000000000 : Int64)) ∈ xT := xT_t (i := 341) (by decide +kernel) (by decide +kernel)
theorem kmR_50 : (Jvm.Cond.methodLink "GoodsTree$TextReader" (50 : Nat) ({ cls := "GoodsTree$TextReader", name := "readWords", desc := "(I)Z" } : Jvm.MethodName)) ∈ xT := xT_t (i := 342) (by decide +kernel) (by decide +kernel)
theorem kiR_readWords : (Jvm.Cond.instanceMethod ({ cls := "GoodsTree$TextReader", name := "readWords", desc := "(I)Z" } : Jvm.MethodName)) ∈ xT := xT_t (i := 344) (by decide +kernel) (by decide +kernel)
theorem kcR_readWords : (Jvm.Cond.code ({ cls := "GoodsTree$TextReader", name := "readWords", desc := "(I)Z" } : Jvm.MethodName) prog_5_method_17_code (5 : Nat) (Option.some Jvm.ClassFile.FieldType.boolean)) ∈ xT := xT_t (i := 345) (by decide +kernel) (by decide +kernel)
theorem kmR_99 : (Jvm.Cond.methodLink "GoodsTree$TextReader" (99 : Nat) ({ cls := "GoodsTree$TextReader", name := "readWord", desc := "()J" } : Jvm.MethodName)) ∈ xT := xT_t (i := 346) (by decide +kernel) (by decide +kernel)
theorem kiR_readWord : (Jvm.Cond.instanceMethod ({ cls := "GoodsTree$TextReader", name := "readWord", desc := "()J" } : Jvm.MethodName)) ∈ xT := xT_t (i := 348) (by decide +kernel) (by decide +kernel)
theorem kcR_readWord : (Jvm.Cond.code ({ cls := "GoodsTree$TextReader", name := "readWord", desc := "()J" } : Jvm.MethodName) prog_5_method_18_code (4 : Nat) (Option.some Jvm.ClassFile.FieldType.long)) ∈ xT := xT_t (i := 349) (by decide +kernel) (by decide +kernel)
theorem kjR_105 : (Jvm.Cond.constantLong "GoodsTree$TextReader" (105 : Nat) (32 : Int64)) ∈ xT := xT_t (i := 350) (by decide +kernel) (by decide +kernel)
theorem kmR_93 : (Jvm.Cond.methodLink "GoodsTree$TextReader" (93 : Nat) ({ cls := "GoodsTree$Tree", name := "add", desc := "(JILGoodsTree$TextReader;)V" } : Jvm.MethodName)) ∈ xT := xT_t (i := 351) (by decide +kernel) (by decide +kernel)
theorem kiT_add : (Jvm.Cond.instanceMethod ({ cls := "GoodsTree$Tree", name := "add", desc := "(JILGoodsTree$TextReader;)V" } : Jvm.MethodName)) ∈ xT := xT_t (i := 352) (by decide +kernel) (by decide +kernel)
theorem ksT_add : (Jvm.Cond.selects "GoodsTree$Tree" ({ cls := "GoodsTree$Tree", name := "add", desc := "(JILGoodsTree$TextReader;)V" } : Jvm.MethodName) ({ cls := "GoodsTree$Tree", name := "add", desc := "(JILGoodsTree$TextReader;)V" } : Jvm.MethodName)) ∈ xT := xT_t (i := 353) (by decide +kernel) (by decide +kernel)
theorem kcT_add : (Jvm.Cond.code ({ cls := "GoodsTree$Tree", name := "add", desc := "(JILGoodsTree$TextReader;)V" } : Jvm.MethodName) prog_6_method_17_code (7 : Nat) (Option.none : Option Jvm.ClassFile.FieldType)) ∈ xT := xT_t (i := 354) (by decide +kernel) (by decide +kernel)
theorem kmT_63 : (Jvm.Cond.methodLink "GoodsTree$Tree" (63 : Nat) ({ cls := "GoodsTree$Tree", name := "isFull", desc := "()Z" } : Jvm.MethodName)) ∈ xT := xT_t (i := 355) (by decide +kernel) (by decide +kernel)
theorem kmT_67 : (Jvm.Cond.methodLink "GoodsTree$Tree" (67 : Nat) ({ cls := "GoodsTree$Tree", name := "parentFor", desc := "(I)I" } : Jvm.MethodName)) ∈ xT := xT_t (i := 356) (by decide +kernel) (by decide +kernel)
theorem kmT_70 : (Jvm.Cond.methodLink "GoodsTree$Tree" (70 : Nat) ({ cls := "GoodsTree$TextReader", name := "wordCount", desc := "()I" } : Jvm.MethodName)) ∈ xT := xT_t (i := 357) (by decide +kernel) (by decide +kernel)
theorem kiR_wordCount : (Jvm.Cond.instanceMethod ({ cls := "GoodsTree$TextReader", name := "wordCount", desc := "()I" } : Jvm.MethodName)) ∈ xT := xT_t (i := 358) (by decide +kernel) (by decide +kernel)
theorem ksR_wordCount : (Jvm.Cond.selects "GoodsTree$TextReader" ({ cls := "GoodsTree$TextReader", name := "wordCount", desc := "()I" } : Jvm.MethodName) ({ cls := "GoodsTree$TextReader", name := "wordCount", desc := "()I" } : Jvm.MethodName)) ∈ xT := xT_t (i := 359) (by decide +kernel) (by decide +kernel)
theorem kcR_wordCount : (Jvm.Cond.code ({ cls := "GoodsTree$TextReader", name := "wordCount", desc := "()I" } : Jvm.MethodName) prog_5_method_5_code (1 : Nat) (Option.some Jvm.ClassFile.FieldType.int)) ∈ xT := xT_t (i := 360) (by decide +kernel) (by decide +kernel)
theorem kmT_76 : (Jvm.Cond.methodLink "GoodsTree$Tree" (76 : Nat) ({ cls := "java/lang/Math", name := "min", desc := "(II)I" } : Jvm.MethodName)) ∈ xT := xT_t (i := 361) (by decide +kernel) (by decide +kernel)
theorem ktJM_min : (Jvm.Cond.static ({ cls := "java/lang/Math", name := "min", desc := "(II)I" } : Jvm.MethodName)) ∈ xT := xT_t (i := 362) (by decide +kernel) (by decide +kernel)
theorem kcJM_min : (Jvm.Cond.code ({ cls := "java/lang/Math", name := "min", desc := "(II)I" } : Jvm.MethodName) prog_13_method_69_code (2 : Nat) (Option.some Jvm.ClassFile.FieldType.int)) ∈ xT := xT_t (i := 363) (by decide +kernel) (by decide +kernel)
theorem kmT_82 : (Jvm.Cond.methodLink "GoodsTree$Tree" (82 : Nat) ({ cls := "GoodsTree$TextReader", name := "wordAt", desc := "(I)J" } : Jvm.MethodName)) ∈ xT := xT_t (i := 364) (by decide +kernel) (by decide +kernel)
theorem kiR_wordAt : (Jvm.Cond.instanceMethod ({ cls := "GoodsTree$TextReader", name := "wordAt", desc := "(I)J" } : Jvm.MethodName)) ∈ xT := xT_t (i := 365) (by decide +kernel) (by decide +kernel)
theorem ksR_wordAt : (Jvm.Cond.selects "GoodsTree$TextReader" ({ cls := "GoodsTree$TextReader", name := "wordAt", desc := "(I)J" } : Jvm.MethodName) ({ cls := "GoodsTree$TextReader", name := "wordAt", desc := "(I)J" } : Jvm.MethodName)) ∈ xT := xT_t (i := 366) (by decide +kernel) (by decide +kernel)
theorem kcR_wordAt : (Jvm.Cond.code ({ cls := "GoodsTree$TextReader", name := "wordAt", desc := "(I)J" } : Jvm.MethodName) prog_5_method_6_code (2 : Nat) (Option.some Jvm.ClassFile.FieldType.long)) ∈ xT := xT_t (i := 367) (by decide +kernel) (by decide +kernel)
theorem kmG_61 : (Jvm.Cond.methodLink "GoodsTree" (61 : Nat) ({ cls := "GoodsTree$TextReader", name := "clear", desc := "()V" } : Jvm.MethodName)) ∈ xT := xT_t (i := 368) (by decide +kernel) (by decide +kernel)
theorem kiR_clear : (Jvm.Cond.instanceMethod ({ cls := "GoodsTree$TextReader", name := "clear", desc := "()V" } : Jvm.MethodName)) ∈ xT := xT_t (i := 369) (by decide +kernel) (by decide +kernel)
theorem ksR_clear : (Jvm.Cond.selects "GoodsTree$TextReader" ({ cls := "GoodsTree$TextReader", name := "clear", desc := "()V" } : Jvm.MethodName) ({ cls := "GoodsTree$TextReader", name := "clear", desc := "()V" } : Jvm.MethodName)) ∈ xT := xT_t (i := 370) (by decide +kernel) (by decide +kernel)
theorem kcR_clear : (Jvm.Cond.code ({ cls := "GoodsTree$TextReader", name := "clear", desc := "()V" } : Jvm.MethodName) prog_5_method_7_code (1 : Nat) (Option.none : Option Jvm.ClassFile.FieldType)) ∈ xT := xT_t (i := 371) (by decide +kernel) (by decide +kernel)
theorem klG_62 : (Jvm.Cond.classLink "GoodsTree" (62 : Nat) "java/lang/IllegalStateException") ∈ xT := xT_t (i := 372) (by decide +kernel) (by decide +kernel)
theorem kqJS : (Jvm.Cond.instantiable "java/lang/IllegalStateException" (6 : Nat)) ∈ xT := xT_t (i := 373) (by decide +kernel) (by decide +kernel)
theorem kfJT_198 : (Jvm.Cond.fieldLink "java/lang/Throwable" (198 : Nat) "java/lang/Throwable" "backtrace" "Ljava/lang/Object;") ∈ xT := xT_t (i := 393) (by decide +kernel) (by decide +kernel)
theorem kiJT_init : (Jvm.Cond.instanceMethod ({ cls := "java/lang/Throwable", name := "<init>", desc := "()V" } : Jvm.MethodName)) ∈ xT := xT_t (i := 395) (by decide +kernel) (by decide +kernel)
theorem kcJT_init : (Jvm.Cond.code ({ cls := "java/lang/Throwable", name := "<init>", desc := "()V" } : Jvm.MethodName) prog_16_method_1_code (1 : Nat) (Option.none : Option Jvm.ClassFile.FieldType)) ∈ xT := xT_t (i := 396) (by decide +kernel) (by decide +kernel)
theorem kmJT_1 : (Jvm.Cond.methodLink "java/lang/Throwable" (1 : Nat) ({ cls := "java/lang/Object", name := "<init>", desc := "()V" } : Jvm.MethodName)) ∈ xT := xT_t (i := 397) (by decide +kernel) (by decide +kernel)
theorem kfJT_13 : (Jvm.Cond.fieldLink "java/lang/Throwable" (13 : Nat) "java/lang/Throwable" "UNASSIGNED_STACK" "[Ljava/lang/StackTraceElement;") ∈ xT := xT_t (i := 398) (by decide +kernel) (by decide +kernel)
theorem kfJT_20 : (Jvm.Cond.fieldLink "java/lang/Throwable" (20 : Nat) "java/lang/Throwable" "SUPPRESSED_SENTINEL" "Ljava/util/List;") ∈ xT := xT_t (i := 400) (by decide +kernel) (by decide +kernel)
theorem kmJT_27 : (Jvm.Cond.methodLink "java/lang/Throwable" (27 : Nat) ({ cls := "java/lang/Throwable", name := "fillInStackTrace", desc := "()Ljava/lang/Throwable;" } : Jvm.MethodName)) ∈ xT := xT_t (i := 402) (by decide +kernel) (by decide +kernel)
theorem kiJT_fillInStackTrace : (Jvm.Cond.instanceMethod ({ cls := "java/lang/Throwable", name := "fillInStackTrace", desc := "()Ljava/lang/Throwable;" } : Jvm.MethodName)) ∈ xT := xT_t (i := 403) (by decide +kernel) (by decide +kernel)
theorem kmJT_202 : (Jvm.Cond.methodLink "java/lang/Throwable" (202 : Nat) ({ cls := "java/lang/Throwable", name := "fillInStackTrace", desc := "(I)Ljava/lang/Throwable;" } : Jvm.MethodName)) ∈ xT := xT_t (i := 408) (by decide +kernel) (by decide +kernel)
theorem kiJT_fillInStackTrace2 : (Jvm.Cond.instanceMethod ({ cls := "java/lang/Throwable", name := "fillInStackTrace", desc := "(I)Ljava/lang/Throwable;" } : Jvm.MethodName)) ∈ xT := xT_t (i := 410) (by decide +kernel) (by decide +kernel)
theorem kqJT : (Jvm.Cond.instantiable "java/lang/Throwable" (6 : Nat)) ∈ xT := xT_t (i := 411) (by decide +kernel) (by decide +kernel)
theorem kvJT_fillInStackTrace2 : (Jvm.Cond.native ({ cls := "java/lang/Throwable", name := "fillInStackTrace", desc := "(I)Ljava/lang/Throwable;" } : Jvm.MethodName)) ∈ xT := xT_t (i := 412) (by decide +kernel) (by decide +kernel)
theorem kmG_66 : (Jvm.Cond.methodLink "GoodsTree" (66 : Nat) ({ cls := "java/lang/IllegalStateException", name := "<init>", desc := "(Ljava/lang/String;)V" } : Jvm.MethodName)) ∈ xT := xT_t (i := 414) (by decide +kernel) (by decide +kernel)
theorem kiJS_init : (Jvm.Cond.instanceMethod ({ cls := "java/lang/IllegalStateException", name := "<init>", desc := "(Ljava/lang/String;)V" } : Jvm.MethodName)) ∈ xT := xT_t (i := 415) (by decide +kernel) (by decide +kernel)
theorem kcJS_init : (Jvm.Cond.code ({ cls := "java/lang/IllegalStateException", name := "<init>", desc := "(Ljava/lang/String;)V" } : Jvm.MethodName) prog_11_method_2_code (2 : Nat) (Option.none : Option Jvm.ClassFile.FieldType)) ∈ xT := xT_t (i := 416) (by decide +kernel) (by decide +kernel)
theorem kmJS_7 : (Jvm.Cond.methodLink "java/lang/IllegalStateException" (7 : Nat) ({ cls := "java/lang/RuntimeException", name := "<init>", desc := "(Ljava/lang/String;)V" } : Jvm.MethodName)) ∈ xT := xT_t (i := 417) (by decide +kernel) (by decide +kernel)
theorem kiJR_init : (Jvm.Cond.instanceMethod ({ cls := "java/lang/RuntimeException", name := "<init>", desc := "(Ljava/lang/String;)V" } : Jvm.MethodName)) ∈ xT := xT_t (i := 418) (by decide +kernel) (by decide +kernel)
theorem kcJR_init : (Jvm.Cond.code ({ cls := "java/lang/RuntimeException", name := "<init>", desc := "(Ljava/lang/String;)V" } : Jvm.MethodName) prog_14_method_2_code (2 : Nat) (Option.none : Option Jvm.ClassFile.FieldType)) ∈ xT := xT_t (i := 419) (by decide +kernel) (by decide +kernel)
theorem kmJR_7 : (Jvm.Cond.methodLink "java/lang/RuntimeException" (7 : Nat) ({ cls := "java/lang/Exception", name := "<init>", desc := "(Ljava/lang/String;)V" } : Jvm.MethodName)) ∈ xT := xT_t (i := 420) (by decide +kernel) (by decide +kernel)
theorem kiJE_init : (Jvm.Cond.instanceMethod ({ cls := "java/lang/Exception", name := "<init>", desc := "(Ljava/lang/String;)V" } : Jvm.MethodName)) ∈ xT := xT_t (i := 421) (by decide +kernel) (by decide +kernel)
theorem kcJE_init : (Jvm.Cond.code ({ cls := "java/lang/Exception", name := "<init>", desc := "(Ljava/lang/String;)V" } : Jvm.MethodName) prog_9_method_2_code (2 : Nat) (Option.none : Option Jvm.ClassFile.FieldType)) ∈ xT := xT_t (i := 422) (by decide +kernel) (by decide +kernel)
theorem kmJE_7 : (Jvm.Cond.methodLink "java/lang/Exception" (7 : Nat) ({ cls := "java/lang/Throwable", name := "<init>", desc := "(Ljava/lang/String;)V" } : Jvm.MethodName)) ∈ xT := xT_t (i := 423) (by decide +kernel) (by decide +kernel)
theorem kiJT_init2 : (Jvm.Cond.instanceMethod ({ cls := "java/lang/Throwable", name := "<init>", desc := "(Ljava/lang/String;)V" } : Jvm.MethodName)) ∈ xT := xT_t (i := 424) (by decide +kernel) (by decide +kernel)
theorem kcJT_init2 : (Jvm.Cond.code ({ cls := "java/lang/Throwable", name := "<init>", desc := "(Ljava/lang/String;)V" } : Jvm.MethodName) prog_16_method_2_code (2 : Nat) (Option.none : Option Jvm.ClassFile.FieldType)) ∈ xT := xT_t (i := 425) (by decide +kernel) (by decide +kernel)
theorem kfJT_31 : (Jvm.Cond.fieldLink "java/lang/Throwable" (31 : Nat) "java/lang/Throwable" "detailMessage" "Ljava/lang/String;") ∈ xT := xT_t (i := 427) (by decide +kernel) (by decide +kernel)
theorem kfJT_7 : (Jvm.Cond.fieldLink "java/lang/Throwable" (7 : Nat) "java/lang/Throwable" "cause" "Ljava/lang/Throwable;") ∈ xT := xT_t (i := 428) (by decide +kernel) (by decide +kernel)
theorem kfJT_17 : (Jvm.Cond.fieldLink "java/lang/Throwable" (17 : Nat) "java/lang/Throwable" "stackTrace" "[Ljava/lang/StackTraceElement;") ∈ xT := xT_t (i := 429) (by decide +kernel) (by decide +kernel)
theorem kfJT_24 : (Jvm.Cond.fieldLink "java/lang/Throwable" (24 : Nat) "java/lang/Throwable" "suppressedExceptions" "Ljava/util/List;") ∈ xT := xT_t (i := 430) (by decide +kernel) (by decide +kernel)
theorem ka_byte : (Jvm.Cond.arrayClass Jvm.ClassFile.FieldType.byte) ∈ xT := xT_t (i := 439) (by decide +kernel) (by decide +kernel)
theorem kmG_69 : (Jvm.Cond.methodLink "GoodsTree" (69 : Nat) ({ cls := "GoodsTree$Pairs", name := "dropFrom", desc := "(I)V" } : Jvm.MethodName)) ∈ xT := xT_t (i := 440) (by decide +kernel) (by decide +kernel)
theorem kiP_dropFrom : (Jvm.Cond.instanceMethod ({ cls := "GoodsTree$Pairs", name := "dropFrom", desc := "(I)V" } : Jvm.MethodName)) ∈ xT := xT_t (i := 441) (by decide +kernel) (by decide +kernel)
theorem ksP_dropFrom : (Jvm.Cond.selects "GoodsTree$Pairs" ({ cls := "GoodsTree$Pairs", name := "dropFrom", desc := "(I)V" } : Jvm.MethodName) ({ cls := "GoodsTree$Pairs", name := "dropFrom", desc := "(I)V" } : Jvm.MethodName)) ∈ xT := xT_t (i := 442) (by decide +kernel) (by decide +kernel)
theorem kcP_dropFrom : (Jvm.Cond.code ({ cls := "GoodsTree$Pairs", name := "dropFrom", desc := "(I)V" } : Jvm.MethodName) prog_4_method_12_code (3 : Nat) (Option.none : Option Jvm.ClassFile.FieldType)) ∈ xT := xT_t (i := 443) (by decide +kernel) (by decide +kernel)
theorem kmP_47 : (Jvm.Cond.methodLink "GoodsTree$Pairs" (47 : Nat) ({ cls := "GoodsTree$Pairs", name := "drop", desc := "(I)V" } : Jvm.MethodName)) ∈ xT := xT_t (i := 444) (by decide +kernel) (by decide +kernel)
theorem kiP_drop : (Jvm.Cond.instanceMethod ({ cls := "GoodsTree$Pairs", name := "drop", desc := "(I)V" } : Jvm.MethodName)) ∈ xT := xT_t (i := 446) (by decide +kernel) (by decide +kernel)
theorem kcP_drop : (Jvm.Cond.code ({ cls := "GoodsTree$Pairs", name := "drop", desc := "(I)V" } : Jvm.MethodName) prog_4_method_14_code (3 : Nat) (Option.none : Option Jvm.ClassFile.FieldType)) ∈ xT := xT_t (i := 447) (by decide +kernel) (by decide +kernel)
theorem kmG_72 : (Jvm.Cond.methodLink "GoodsTree" (72 : Nat) ({ cls := "GoodsTree$Pairs", name := "dropMarked", desc := "(I)V" } : Jvm.MethodName)) ∈ xT := xT_t (i := 448) (by decide +kernel) (by decide +kernel)
theorem kiP_dropMarked : (Jvm.Cond.instanceMethod ({ cls := "GoodsTree$Pairs", name := "dropMarked", desc := "(I)V" } : Jvm.MethodName)) ∈ xT := xT_t (i := 449) (by decide +kernel) (by decide +kernel)
theorem ksP_dropMarked : (Jvm.Cond.selects "GoodsTree$Pairs" ({ cls := "GoodsTree$Pairs", name := "dropMarked", desc := "(I)V" } : Jvm.MethodName) ({ cls := "GoodsTree$Pairs", name := "dropMarked", desc := "(I)V" } : Jvm.MethodName)) ∈ xT := xT_t (i := 450) (by decide +kernel) (by decide +kernel)
theorem kcP_dropMarked : (Jvm.Cond.code ({ cls := "GoodsTree$Pairs", name := "dropMarked", desc := "(I)V" } : Jvm.MethodName) prog_4_method_13_code (3 : Nat) (Option.none : Option Jvm.ClassFile.FieldType)) ∈ xT := xT_t (i := 451) (by decide +kernel) (by decide +kernel)
theorem kmL_76 : (Jvm.Cond.methodLink "GoodsTreeLaw" (76 : Nat) ({ cls := "GoodsTreeLaw", name := "row", desc := "(LGoodsTree;II[J)I" } : Jvm.MethodName)) ∈ xT := xT_t (i := 452) (by decide +kernel) (by decide +kernel)
theorem ktL_row : (Jvm.Cond.static ({ cls := "GoodsTreeLaw", name := "row", desc := "(LGoodsTree;II[J)I" } : Jvm.MethodName)) ∈ xT := xT_t (i := 453) (by decide +kernel) (by decide +kernel)
theorem kwL_row : (Jvm.Cond.codeWith ({ cls := "GoodsTreeLaw", name := "row", desc := "(LGoodsTree;II[J)I" } : Jvm.MethodName) method_4_code (5 : Nat) (Option.some Jvm.ClassFile.FieldType.int) [((0 : Nat), (9 : Nat), (12 : Nat), (19 : Nat))]) ∈ xT := xT_t (i := 454) (by decide +kernel) (by decide +kernel)
theorem klL_19 : (Jvm.Cond.classLink "GoodsTreeLaw" (19 : Nat) "java/lang/IndexOutOfBoundsException") ∈ xT := xT_t (i := 455) (by decide +kernel) (by decide +kernel)
theorem kmL_15 : (Jvm.Cond.methodLink "GoodsTreeLaw" (15 : Nat) ({ cls := "GoodsTree", name := "row", desc := "(II)J" } : Jvm.MethodName)) ∈ xT := xT_t (i := 456) (by decide +kernel) (by decide +kernel)
theorem kiG_row : (Jvm.Cond.instanceMethod ({ cls := "GoodsTree", name := "row", desc := "(II)J" } : Jvm.MethodName)) ∈ xT := xT_t (i := 457) (by decide +kernel) (by decide +kernel)
theorem ksG_row : (Jvm.Cond.selects "GoodsTree" ({ cls := "GoodsTree", name := "row", desc := "(II)J" } : Jvm.MethodName) ({ cls := "GoodsTree", name := "row", desc := "(II)J" } : Jvm.MethodName)) ∈ xT := xT_t (i := 458) (by decide +kernel) (by decide +kernel)
theorem kcG_row : (Jvm.Cond.code ({ cls := "GoodsTree", name := "row", desc := "(II)J" } : Jvm.MethodName) prog_1_method_6_code (4 : Nat) (Option.some Jvm.ClassFile.FieldType.long)) ∈ xT := xT_t (i := 459) (by decide +kernel) (by decide +kernel)
theorem kmG_88 : (Jvm.Cond.methodLink "GoodsTree" (88 : Nat) ({ cls := "GoodsTree$Tree", name := "has", desc := "(I)Z" } : Jvm.MethodName)) ∈ xT := xT_t (i := 460) (by decide +kernel) (by decide +kernel)
theorem klG_91 : (Jvm.Cond.classLink "GoodsTree" (91 : Nat) "java/lang/IndexOutOfBoundsException") ∈ xT := xT_t (i := 461) (by decide +kernel) (by decide +kernel)
theorem kqJI : (Jvm.Cond.instantiable "java/lang/IndexOutOfBoundsException" (6 : Nat)) ∈ xT := xT_t (i := 462) (by decide +kernel) (by decide +kernel)
theorem kmG_95 : (Jvm.Cond.methodLink "GoodsTree" (95 : Nat) ({ cls := "java/lang/IndexOutOfBoundsException", name := "<init>", desc := "(Ljava/lang/String;)V" } : Jvm.MethodName)) ∈ xT := xT_t (i := 471) (by decide +kernel) (by decide +kernel)
theorem kiJI_init : (Jvm.Cond.instanceMethod ({ cls := "java/lang/IndexOutOfBoundsException", name := "<init>", desc := "(Ljava/lang/String;)V" } : Jvm.MethodName)) ∈ xT := xT_t (i := 472) (by decide +kernel) (by decide +kernel)
theorem kcJI_init : (Jvm.Cond.code ({ cls := "java/lang/IndexOutOfBoundsException", name := "<init>", desc := "(Ljava/lang/String;)V" } : Jvm.MethodName) prog_12_method_2_code (2 : Nat) (Option.none : Option Jvm.ClassFile.FieldType)) ∈ xT := xT_t (i := 473) (by decide +kernel) (by decide +kernel)
theorem kmJI_7 : (Jvm.Cond.methodLink "java/lang/IndexOutOfBoundsException" (7 : Nat) ({ cls := "java/lang/RuntimeException", name := "<init>", desc := "(Ljava/lang/String;)V" } : Jvm.MethodName)) ∈ xT := xT_t (i := 474) (by decide +kernel) (by decide +kernel)
theorem kmG_96 : (Jvm.Cond.methodLink "GoodsTree" (96 : Nat) ({ cls := "GoodsTree$Tree", name := "codeOf", desc := "(I)J" } : Jvm.MethodName)) ∈ xT := xT_t (i := 477) (by decide +kernel) (by decide +kernel)
theorem kmG_100 : (Jvm.Cond.methodLink "GoodsTree" (100 : Nat) ({ cls := "GoodsTree$Tree", name := "dashesOf", desc := "(I)I" } : Jvm.MethodName)) ∈ xT := xT_t (i := 478) (by decide +kernel) (by decide +kernel)
theorem kmG_104 : (Jvm.Cond.methodLink "GoodsTree" (104 : Nat) ({ cls := "GoodsTree$Tree", name := "wordsOf", desc := "(I)I" } : Jvm.MethodName)) ∈ xT := xT_t (i := 479) (by decide +kernel) (by decide +kernel)
theorem kiT_wordsOf : (Jvm.Cond.instanceMethod ({ cls := "GoodsTree$Tree", name := "wordsOf", desc := "(I)I" } : Jvm.MethodName)) ∈ xT := xT_t (i := 480) (by decide +kernel) (by decide +kernel)
theorem ksT_wordsOf : (Jvm.Cond.selects "GoodsTree$Tree" ({ cls := "GoodsTree$Tree", name := "wordsOf", desc := "(I)I" } : Jvm.MethodName) ({ cls := "GoodsTree$Tree", name := "wordsOf", desc := "(I)I" } : Jvm.MethodName)) ∈ xT := xT_t (i := 481) (by decide +kernel) (by decide +kernel)
theorem kcT_wordsOf : (Jvm.Cond.code ({ cls := "GoodsTree$Tree", name := "wordsOf", desc := "(I)I" } : Jvm.MethodName) prog_6_method_11_code (2 : Nat) (Option.some Jvm.ClassFile.FieldType.int)) ∈ xT := xT_t (i := 482) (by decide +kernel) (by decide +kernel)
theorem kmG_107 : (Jvm.Cond.methodLink "GoodsTree" (107 : Nat) ({ cls := "GoodsTree$Tree", name := "parentOf", desc := "(I)I" } : Jvm.MethodName)) ∈ xT := xT_t (i := 483) (by decide +kernel) (by decide +kernel)
theorem kiT_parentOf : (Jvm.Cond.instanceMethod ({ cls := "GoodsTree$Tree", name := "parentOf", desc := "(I)I" } : Jvm.MethodName)) ∈ xT := xT_t (i := 484) (by decide +kernel) (by decide +kernel)
theorem ksT_parentOf : (Jvm.Cond.selects "GoodsTree$Tree" ({ cls := "GoodsTree$Tree", name := "parentOf", desc := "(I)I" } : Jvm.MethodName) ({ cls := "GoodsTree$Tree", name := "parentOf", desc := "(I)I" } : Jvm.MethodName)) ∈ xT := xT_t (i := 485) (by decide +kernel) (by decide +kernel)
theorem kcT_parentOf : (Jvm.Cond.code ({ cls := "GoodsTree$Tree", name := "parentOf", desc := "(I)I" } : Jvm.MethodName) prog_6_method_9_code (2 : Nat) (Option.some Jvm.ClassFile.FieldType.int)) ∈ xT := xT_t (i := 486) (by decide +kernel) (by decide +kernel)
theorem kmG_110 : (Jvm.Cond.methodLink "GoodsTree" (110 : Nat) ({ cls := "GoodsTree$Tree", name := "childrenOf", desc := "(I)I" } : Jvm.MethodName)) ∈ xT := xT_t (i := 487) (by decide +kernel) (by decide +kernel)
theorem kiT_childrenOf : (Jvm.Cond.instanceMethod ({ cls := "GoodsTree$Tree", name := "childrenOf", desc := "(I)I" } : Jvm.MethodName)) ∈ xT := xT_t (i := 488) (by decide +kernel) (by decide +kernel)
theorem ksT_childrenOf : (Jvm.Cond.selects "GoodsTree$Tree" ({ cls := "GoodsTree$Tree", name := "childrenOf", desc := "(I)I" } : Jvm.MethodName) ({ cls := "GoodsTree$Tree", name := "childrenOf", desc := "(I)I" } : Jvm.MethodName)) ∈ xT := xT_t (i := 489) (by decide +kernel) (by decide +kernel)
theorem kcT_childrenOf : (Jvm.Cond.code ({ cls := "GoodsTree$Tree", name := "childrenOf", desc := "(I)I" } : Jvm.MethodName) prog_6_method_10_code (2 : Nat) (Option.some Jvm.ClassFile.FieldType.int)) ∈ xT := xT_t (i := 490) (by decide +kernel) (by decide +kernel)
theorem kmL_87 : (Jvm.Cond.methodLink "GoodsTreeLaw" (87 : Nat) ({ cls := "GoodsTreeLaw", name := "note", desc := "(LGoodsTree;JIJ[J)I" } : Jvm.MethodName)) ∈ xT := xT_t (i := 492) (by decide +kernel) (by decide +kernel)
theorem ktL_note : (Jvm.Cond.static ({ cls := "GoodsTreeLaw", name := "note", desc := "(LGoodsTree;JIJ[J)I" } : Jvm.MethodName)) ∈ xT := xT_t (i := 493) (by decide +kernel) (by decide +kernel)
theorem kwL_note : (Jvm.Cond.codeWith ({ cls := "GoodsTreeLaw", name := "note", desc := "(LGoodsTree;JIJ[J)I" } : Jvm.MethodName) method_5_code (8 : Nat) (Option.some Jvm.ClassFile.FieldType.int) [((0 : Nat), (13 : Nat), (16 : Nat), (25 : Nat)), ((0 : Nat), (13 : Nat), (20 : Nat), (13 : Nat))]) ∈ xT := xT_t (i := 494) (by decide +kernel) (by decide +kernel)
theorem klL_25 : (Jvm.Cond.classLink "GoodsTreeLaw" (25 : Nat) "java/lang/IllegalArgumentException") ∈ xT := xT_t (i := 495) (by decide +kernel) (by decide +kernel)
theorem kmL_21 : (Jvm.Cond.methodLink "GoodsTreeLaw" (21 : Nat) ({ cls := "GoodsTree", name := "note", desc := "(JIJ)I" } : Jvm.MethodName)) ∈ xT := xT_t (i := 496) (by decide +kernel) (by decide +kernel)
theorem kiG_note : (Jvm.Cond.instanceMethod ({ cls := "GoodsTree", name := "note", desc := "(JIJ)I" } : Jvm.MethodName)) ∈ xT := xT_t (i := 497) (by decide +kernel) (by decide +kernel)
theorem ksG_note : (Jvm.Cond.selects "GoodsTree" ({ cls := "GoodsTree", name := "note", desc := "(JIJ)I" } : Jvm.MethodName) ({ cls := "GoodsTree", name := "note", desc := "(JIJ)I" } : Jvm.MethodName)) ∈ xT := xT_t (i := 498) (by decide +kernel) (by decide +kernel)
theorem kcG_note : (Jvm.Cond.code ({ cls := "GoodsTree", name := "note", desc := "(JIJ)I" } : Jvm.MethodName) prog_1_method_8_code (7 : Nat) (Option.some Jvm.ClassFile.FieldType.int)) ∈ xT := xT_t (i := 499) (by decide +kernel) (by decide +kernel)
theorem klG_123 : (Jvm.Cond.classLink "GoodsTree" (123 : Nat) "java/lang/IllegalArgumentException") ∈ xT := xT_t (i := 500) (by decide +kernel) (by decide +kernel)
theorem kqJA : (Jvm.Cond.instantiable "java/lang/IllegalArgumentException" (6 : Nat)) ∈ xT := xT_t (i := 501) (by decide +kernel) (by decide +kernel)
theorem kmG_127 : (Jvm.Cond.methodLink "GoodsTree" (127 : Nat) ({ cls := "java/lang/IllegalArgumentException", name := "<init>", desc := "(Ljava/lang/String;)V" } : Jvm.MethodName)) ∈ xT := xT_t (i := 510) (by decide +kernel) (by decide +kernel)
theorem kiJA_init : (Jvm.Cond.instanceMethod ({ cls := "java/lang/IllegalArgumentException", name := "<init>", desc := "(Ljava/lang/String;)V" } : Jvm.MethodName)) ∈ xT := xT_t (i := 511) (by decide +kernel) (by decide +kernel)
theorem kcJA_init : (Jvm.Cond.code ({ cls := "java/lang/IllegalArgumentException", name := "<init>", desc := "(Ljava/lang/String;)V" } : Jvm.MethodName) prog_10_method_2_code (2 : Nat) (Option.none : Option Jvm.ClassFile.FieldType)) ∈ xT := xT_t (i := 512) (by decide +kernel) (by decide +kernel)
theorem kmJA_7 : (Jvm.Cond.methodLink "java/lang/IllegalArgumentException" (7 : Nat) ({ cls := "java/lang/RuntimeException", name := "<init>", desc := "(Ljava/lang/String;)V" } : Jvm.MethodName)) ∈ xT := xT_t (i := 513) (by decide +kernel) (by decide +kernel)
theorem kmG_142 : (Jvm.Cond.methodLink "GoodsTree" (142 : Nat) ({ cls := "GoodsTree$Pairs", name := "sizeFrom", desc := "(I)I" } : Jvm.MethodName)) ∈ xT := xT_t (i := 517) (by decide +kernel) (by decide +kernel)
theorem kiP_sizeFrom : (Jvm.Cond.instanceMethod ({ cls := "GoodsTree$Pairs", name := "sizeFrom", desc := "(I)I" } : Jvm.MethodName)) ∈ xT := xT_t (i := 518) (by decide +kernel) (by decide +kernel)
theorem ksP_sizeFrom : (Jvm.Cond.selects "GoodsTree$Pairs" ({ cls := "GoodsTree$Pairs", name := "sizeFrom", desc := "(I)I" } : Jvm.MethodName) ({ cls := "GoodsTree$Pairs", name := "sizeFrom", desc := "(I)I" } : Jvm.MethodName)) ∈ xT := xT_t (i := 519) (by decide +kernel) (by decide +kernel)
theorem kcP_sizeFrom : (Jvm.Cond.code ({ cls := "GoodsTree$Pairs", name := "sizeFrom", desc := "(I)I" } : Jvm.MethodName) prog_4_method_10_code (4 : Nat) (Option.some Jvm.ClassFile.FieldType.int)) ∈ xT := xT_t (i := 520) (by decide +kernel) (by decide +kernel)
theorem kmL_91 : (Jvm.Cond.methodLink "GoodsTreeLaw" (91 : Nat) ({ cls := "GoodsTreeLaw", name := "noted", desc := "(LGoodsTree;JI[J)I" } : Jvm.MethodName)) ∈ xT := xT_t (i := 521) (by decide +kernel) (by decide +kernel)
theorem ktL_noted : (Jvm.Cond.static ({ cls := "GoodsTreeLaw", name := "noted", desc := "(LGoodsTree;JI[J)I" } : Jvm.MethodName)) ∈ xT := xT_t (i := 522) (by decide +kernel) (by decide +kernel)
theorem kwL_noted : (Jvm.Cond.codeWith ({ cls := "GoodsTreeLaw", name := "noted", desc := "(LGoodsTree;JI[J)I" } : Jvm.MethodName) method_6_code (6 : Nat) (Option.some Jvm.ClassFile.FieldType.int) [((0 : Nat), (11 : Nat), (14 : Nat), (25 : Nat))]) ∈ xT := xT_t (i := 523) (by decide +kernel) (by decide +kernel)
theorem kmL_27 : (Jvm.Cond.methodLink "GoodsTreeLaw" (27 : Nat) ({ cls := "GoodsTree", name := "noted", desc := "(JI)I" } : Jvm.MethodName)) ∈ xT := xT_t (i := 524) (by decide +kernel) (by decide +kernel)
theorem kiG_noted : (Jvm.Cond.instanceMethod ({ cls := "GoodsTree", name := "noted", desc := "(JI)I" } : Jvm.MethodName)) ∈ xT := xT_t (i := 525) (by decide +kernel) (by decide +kernel)
theorem ksG_noted : (Jvm.Cond.selects "GoodsTree" ({ cls := "GoodsTree", name := "noted", desc := "(JI)I" } : Jvm.MethodName) ({ cls := "GoodsTree", name := "noted", desc := "(JI)I" } : Jvm.MethodName)) ∈ xT := xT_t (i := 526) (by decide +kernel) (by decide +kernel)
theorem kcG_noted : (Jvm.Cond.code ({ cls := "GoodsTree", name := "noted", desc := "(JI)I" } : Jvm.MethodName) prog_1_method_9_code (5 : Nat) (Option.some Jvm.ClassFile.FieldType.int)) ∈ xT := xT_t (i := 527) (by decide +kernel) (by decide +kernel)
theorem kmG_147 : (Jvm.Cond.methodLink "GoodsTree" (147 : Nat) ({ cls := "GoodsTree$Pairs", name := "nth", desc := "(IJII)I" } : Jvm.MethodName)) ∈ xT := xT_t (i := 529) (by decide +kernel) (by decide +kernel)
theorem kiP_nth : (Jvm.Cond.instanceMethod ({ cls := "GoodsTree$Pairs", name := "nth", desc := "(IJII)I" } : Jvm.MethodName)) ∈ xT := xT_t (i := 530) (by decide +kernel) (by decide +kernel)
theorem ksP_nth : (Jvm.Cond.selects "GoodsTree$Pairs" ({ cls := "GoodsTree$Pairs", name := "nth", desc := "(IJII)I" } : Jvm.MethodName) ({ cls := "GoodsTree$Pairs", name := "nth", desc := "(IJII)I" } : Jvm.MethodName)) ∈ xT := xT_t (i := 531) (by decide +kernel) (by decide +kernel)
theorem kcP_nth : (Jvm.Cond.code ({ cls := "GoodsTree$Pairs", name := "nth", desc := "(IJII)I" } : Jvm.MethodName) prog_4_method_7_code (8 : Nat) (Option.some Jvm.ClassFile.FieldType.int)) ∈ xT := xT_t (i := 532) (by decide +kernel) (by decide +kernel)
theorem kmG_151 : (Jvm.Cond.methodLink "GoodsTree" (151 : Nat) ({ cls := "GoodsTree$Pairs", name := "otherAt", desc := "(I)J" } : Jvm.MethodName)) ∈ xT := xT_t (i := 533) (by decide +kernel) (by decide +kernel)
theorem kiP_otherAt : (Jvm.Cond.instanceMethod ({ cls := "GoodsTree$Pairs", name := "otherAt", desc := "(I)J" } : Jvm.MethodName)) ∈ xT := xT_t (i := 534) (by decide +kernel) (by decide +kernel)
theorem ksP_otherAt : (Jvm.Cond.selects "GoodsTree$Pairs" ({ cls := "GoodsTree$Pairs", name := "otherAt", desc := "(I)J" } : Jvm.MethodName) ({ cls := "GoodsTree$Pairs", name := "otherAt", desc := "(I)J" } : Jvm.MethodName)) ∈ xT := xT_t (i := 535) (by decide +kernel) (by decide +kernel)
theorem kcP_otherAt : (Jvm.Cond.code ({ cls := "GoodsTree$Pairs", name := "otherAt", desc := "(I)J" } : Jvm.MethodName) prog_4_method_9_code (2 : Nat) (Option.some Jvm.ClassFile.FieldType.long)) ∈ xT := xT_t (i := 536) (by decide +kernel) (by decide +kernel)
theorem kmG_154 : (Jvm.Cond.methodLink "GoodsTree" (154 : Nat) ({ cls := "GoodsTree$Pairs", name := "markAt", desc := "(I)I" } : Jvm.MethodName)) ∈ xT := xT_t (i := 537) (by decide +kernel) (by decide +kernel)
theorem kiP_markAt : (Jvm.Cond.instanceMethod ({ cls := "GoodsTree$Pairs", name := "markAt", desc := "(I)I" } : Jvm.MethodName)) ∈ xT := xT_t (i := 538) (by decide +kernel) (by decide +kernel)
theorem ksP_markAt : (Jvm.Cond.selects "GoodsTree$Pairs" ({ cls := "GoodsTree$Pairs", name := "markAt", desc := "(I)I" } : Jvm.MethodName) ({ cls := "GoodsTree$Pairs", name := "markAt", desc := "(I)I" } : Jvm.MethodName)) ∈ xT := xT_t (i := 539) (by decide +kernel) (by decide +kernel)
theorem kcP_markAt : (Jvm.Cond.code ({ cls := "GoodsTree$Pairs", name := "markAt", desc := "(I)I" } : Jvm.MethodName) prog_4_method_8_code (2 : Nat) (Option.some Jvm.ClassFile.FieldType.int)) ∈ xT := xT_t (i := 540) (by decide +kernel) (by decide +kernel)
theorem kmL_100 : (Jvm.Cond.methodLink "GoodsTreeLaw" (100 : Nat) ({ cls := "GoodsTreeLaw", name := "became", desc := "(LGoodsTree;IJI[J)I" } : Jvm.MethodName)) ∈ xT := xT_t (i := 541) (by decide +kernel) (by decide +kernel)
theorem ktL_became : (Jvm.Cond.static ({ cls := "GoodsTreeLaw", name := "became", desc := "(LGoodsTree;IJI[J)I" } : Jvm.MethodName)) ∈ xT := xT_t (i := 542) (by decide +kernel) (by decide +kernel)
theorem kwL_became : (Jvm.Cond.codeWith ({ cls := "GoodsTreeLaw", name := "became", desc := "(LGoodsTree;IJI[J)I" } : Jvm.MethodName) method_7_code (7 : Nat) (Option.some Jvm.ClassFile.FieldType.int) [((0 : Nat), (13 : Nat), (16 : Nat), (25 : Nat))]) ∈ xT := xT_t (i := 543) (by decide +kernel) (by decide +kernel)
theorem kmL_31 : (Jvm.Cond.methodLink "GoodsTreeLaw" (31 : Nat) ({ cls := "GoodsTree", name := "became", desc := "(IJI)I" } : Jvm.MethodName)) ∈ xT := xT_t (i := 544) (by decide +kernel) (by decide +kernel)
theorem kiG_became : (Jvm.Cond.instanceMethod ({ cls := "GoodsTree", name := "became", desc := "(IJI)I" } : Jvm.MethodName)) ∈ xT := xT_t (i := 545) (by decide +kernel) (by decide +kernel)
theorem ksG_became : (Jvm.Cond.selects "GoodsTree" ({ cls := "GoodsTree", name := "became", desc := "(IJI)I" } : Jvm.MethodName) ({ cls := "GoodsTree", name := "became", desc := "(IJI)I" } : Jvm.MethodName)) ∈ xT := xT_t (i := 546) (by decide +kernel) (by decide +kernel)
theorem kcG_became : (Jvm.Cond.code ({ cls := "GoodsTree", name := "became", desc := "(IJI)I" } : Jvm.MethodName) prog_1_method_11_code (8 : Nat) (Option.some Jvm.ClassFile.FieldType.int)) ∈ xT := xT_t (i := 547) (by decide +kernel) (by decide +kernel)
theorem kmG_157 : (Jvm.Cond.methodLink "GoodsTree" (157 : Nat) ({ cls := "GoodsTree", name := "checkEditions", desc := "(II)V" } : Jvm.MethodName)) ∈ xT := xT_t (i := 548) (by decide +kernel) (by decide +kernel)
theorem ktG_checkEditions : (Jvm.Cond.static ({ cls := "GoodsTree", name := "checkEditions", desc := "(II)V" } : Jvm.MethodName)) ∈ xT := xT_t (i := 549) (by decide +kernel) (by decide +kernel)
theorem kcG_checkEditions : (Jvm.Cond.code ({ cls := "GoodsTree", name := "checkEditions", desc := "(II)V" } : Jvm.MethodName) prog_1_method_20_code (2 : Nat) (Option.none : Option Jvm.ClassFile.FieldType)) ∈ xT := xT_t (i := 550) (by decide +kernel) (by decide +kernel)
theorem kmG_161 : (Jvm.Cond.methodLink "GoodsTree" (161 : Nat) ({ cls := "GoodsTree", name := "checkCode", desc := "(IJ)V" } : Jvm.MethodName)) ∈ xT := xT_t (i := 552) (by decide +kernel) (by decide +kernel)
theorem kiG_checkCode : (Jvm.Cond.instanceMethod ({ cls := "GoodsTree", name := "checkCode", desc := "(IJ)V" } : Jvm.MethodName)) ∈ xT := xT_t (i := 554) (by decide +kernel) (by decide +kernel)
theorem kcG_checkCode : (Jvm.Cond.code ({ cls := "GoodsTree", name := "checkCode", desc := "(IJ)V" } : Jvm.MethodName) prog_1_method_21_code (4 : Nat) (Option.none : Option Jvm.ClassFile.FieldType)) ∈ xT := xT_t (i := 555) (by decide +kernel) (by decide +kernel)
theorem kmG_166 : (Jvm.Cond.methodLink "GoodsTree" (166 : Nat) ({ cls := "GoodsTree$Pairs", name := "matches", desc := "(IIJI)Z" } : Jvm.MethodName)) ∈ xT := xT_t (i := 557) (by decide +kernel) (by decide +kernel)
theorem kmG_170 : (Jvm.Cond.methodLink "GoodsTree" (170 : Nat) ({ cls := "GoodsTree$Pairs", name := "sizeTo", desc := "(IIJ)I" } : Jvm.MethodName)) ∈ xT := xT_t (i := 558) (by decide +kernel) (by decide +kernel)
theorem kiP_sizeTo : (Jvm.Cond.instanceMethod ({ cls := "GoodsTree$Pairs", name := "sizeTo", desc := "(IIJ)I" } : Jvm.MethodName)) ∈ xT := xT_t (i := 559) (by decide +kernel) (by decide +kernel)
theorem ksP_sizeTo : (Jvm.Cond.selects "GoodsTree$Pairs" ({ cls := "GoodsTree$Pairs", name := "sizeTo", desc := "(IIJ)I" } : Jvm.MethodName) ({ cls := "GoodsTree$Pairs", name := "sizeTo", desc := "(IIJ)I" } : Jvm.MethodName)) ∈ xT := xT_t (i := 560) (by decide +kernel) (by decide +kernel)
theorem kcP_sizeTo : (Jvm.Cond.code ({ cls := "GoodsTree$Pairs", name := "sizeTo", desc := "(IIJ)I" } : Jvm.MethodName) prog_4_method_11_code (7 : Nat) (Option.some Jvm.ClassFile.FieldType.int)) ∈ xT := xT_t (i := 561) (by decide +kernel) (by decide +kernel)
theorem kmL_104 : (Jvm.Cond.methodLink "GoodsTreeLaw" (104 : Nat) ({ cls := "GoodsTreeLaw", name := "linked", desc := "(LGoodsTree;IJII[J)I" } : Jvm.MethodName)) ∈ xT := xT_t (i := 562) (by decide +kernel) (by decide +kernel)
theorem ktL_linked : (Jvm.Cond.static ({ cls := "GoodsTreeLaw", name := "linked", desc := "(LGoodsTree;IJII[J)I" } : Jvm.MethodName)) ∈ xT := xT_t (i := 563) (by decide +kernel) (by decide +kernel)
theorem kwL_linked : (Jvm.Cond.codeWith ({ cls := "GoodsTreeLaw", name := "linked", desc := "(LGoodsTree;IJII[J)I" } : Jvm.MethodName) method_8_code (8 : Nat) (Option.some Jvm.ClassFile.FieldType.int) [((0 : Nat), (14 : Nat), (17 : Nat), (25 : Nat))]) ∈ xT := xT_t (i := 564) (by decide +kernel) (by decide +kernel)
theorem kmL_35 : (Jvm.Cond.methodLink "GoodsTreeLaw" (35 : Nat) ({ cls := "GoodsTree", name := "linked", desc := "(IJII)J" } : Jvm.MethodName)) ∈ xT := xT_t (i := 565) (by decide +kernel) (by decide +kernel)
theorem kiG_linked : (Jvm.Cond.instanceMethod ({ cls := "GoodsTree", name := "linked", desc := "(IJII)J" } : Jvm.MethodName)) ∈ xT := xT_t (i := 566) (by decide +kernel) (by decide +kernel)
theorem ksG_linked : (Jvm.Cond.selects "GoodsTree" ({ cls := "GoodsTree", name := "linked", desc := "(IJII)J" } : Jvm.MethodName) ({ cls := "GoodsTree", name := "linked", desc := "(IJII)J" } : Jvm.MethodName)) ∈ xT := xT_t (i := 567) (by decide +kernel) (by decide +kernel)
theorem kcG_linked : (Jvm.Cond.code ({ cls := "GoodsTree", name := "linked", desc := "(IJII)J" } : Jvm.MethodName) prog_1_method_12_code (6 : Nat) (Option.some Jvm.ClassFile.FieldType.long)) ∈ xT := xT_t (i := 568) (by decide +kernel) (by decide +kernel)
theorem kmL_108 : (Jvm.Cond.methodLink "GoodsTreeLaw" (108 : Nat) ({ cls := "GoodsTreeLaw", name := "lost", desc := "(LGoodsTree;II[J)I" } : Jvm.MethodName)) ∈ xT := xT_t (i := 569) (by decide +kernel) (by decide +kernel)
theorem ktL_lost : (Jvm.Cond.static ({ cls := "GoodsTreeLaw", name := "lost", desc := "(LGoodsTree;II[J)I" } : Jvm.MethodName)) ∈ xT := xT_t (i := 570) (by decide +kernel) (by decide +kernel)
theorem kwL_lost : (Jvm.Cond.codeWith ({ cls := "GoodsTreeLaw", name := "lost", desc := "(LGoodsTree;II[J)I" } : Jvm.MethodName) method_9_code (5 : Nat) (Option.some Jvm.ClassFile.FieldType.int) [((0 : Nat), (10 : Nat), (13 : Nat), (25 : Nat))]) ∈ xT := xT_t (i := 571) (by decide +kernel) (by decide +kernel)
theorem kmL_39 : (Jvm.Cond.methodLink "GoodsTreeLaw" (39 : Nat) ({ cls := "GoodsTree", name := "lost", desc := "(II)I" } : Jvm.MethodName)) ∈ xT := xT_t (i := 572) (by decide +kernel) (by decide +kernel)
theorem kiG_lost : (Jvm.Cond.instanceMethod ({ cls := "GoodsTree", name := "lost", desc := "(II)I" } : Jvm.MethodName)) ∈ xT := xT_t (i := 573) (by decide +kernel) (by decide +kernel)
theorem ksG_lost : (Jvm.Cond.selects "GoodsTree" ({ cls := "GoodsTree", name := "lost", desc := "(II)I" } : Jvm.MethodName) ({ cls := "GoodsTree", name := "lost", desc := "(II)I" } : Jvm.MethodName)) ∈ xT := xT_t (i := 574) (by decide +kernel) (by decide +kernel)
theorem kcG_lost : (Jvm.Cond.code ({ cls := "GoodsTree", name := "lost", desc := "(II)I" } : Jvm.MethodName) prog_1_method_13_code (6 : Nat) (Option.some Jvm.ClassFile.FieldType.int)) ∈ xT := xT_t (i := 575) (by decide +kernel) (by decide +kernel)
theorem kmL_111 : (Jvm.Cond.methodLink "GoodsTreeLaw" (111 : Nat) ({ cls := "GoodsTreeLaw", name := "search", desc := "(LGoodsTree;[J)I" } : Jvm.MethodName)) ∈ xT := xT_t (i := 576) (by decide +kernel) (by decide +kernel)
theorem ktL_search : (Jvm.Cond.static ({ cls := "GoodsTreeLaw", name := "search", desc := "(LGoodsTree;[J)I" } : Jvm.MethodName)) ∈ xT := xT_t (i := 577) (by decide +kernel) (by decide +kernel)
theorem kwL_search : (Jvm.Cond.codeWith ({ cls := "GoodsTreeLaw", name := "search", desc := "(LGoodsTree;[J)I" } : Jvm.MethodName) method_10_code (3 : Nat) (Option.some Jvm.ClassFile.FieldType.int) [((0 : Nat), (8 : Nat), (11 : Nat), (13 : Nat))]) ∈ xT := xT_t (i := 578) (by decide +kernel) (by decide +kernel)
theorem kmL_43 : (Jvm.Cond.methodLink "GoodsTreeLaw" (43 : Nat) ({ cls := "GoodsTree", name := "search", desc := "()I" } : Jvm.MethodName)) ∈ xT := xT_t (i := 579) (by decide +kernel) (by decide +kernel)
theorem kiG_search : (Jvm.Cond.instanceMethod ({ cls := "GoodsTree", name := "search", desc := "()I" } : Jvm.MethodName)) ∈ xT := xT_t (i := 580) (by decide +kernel) (by decide +kernel)
theorem ksG_search : (Jvm.Cond.selects "GoodsTree" ({ cls := "GoodsTree", name := "search", desc := "()I" } : Jvm.MethodName) ({ cls := "GoodsTree", name := "search", desc := "()I" } : Jvm.MethodName)) ∈ xT := xT_t (i := 581) (by decide +kernel) (by decide +kernel)
theorem kcG_search : (Jvm.Cond.code ({ cls := "GoodsTree", name := "search", desc := "()I" } : Jvm.MethodName) prog_1_method_14_code (4 : Nat) (Option.some Jvm.ClassFile.FieldType.int)) ∈ xT := xT_t (i := 582) (by decide +kernel) (by decide +kernel)
theorem kmG_174 : (Jvm.Cond.methodLink "GoodsTree" (174 : Nat) ({ cls := "GoodsTree$TextReader", name := "readAsked", desc := "()Z" } : Jvm.MethodName)) ∈ xT := xT_t (i := 583) (by decide +kernel) (by decide +kernel)
theorem kiR_readAsked : (Jvm.Cond.instanceMethod ({ cls := "GoodsTree$TextReader", name := "readAsked", desc := "()Z" } : Jvm.MethodName)) ∈ xT := xT_t (i := 584) (by decide +kernel) (by decide +kernel)
theorem ksR_readAsked : (Jvm.Cond.selects "GoodsTree$TextReader" ({ cls := "GoodsTree$TextReader", name := "readAsked", desc := "()Z" } : Jvm.MethodName) ({ cls := "GoodsTree$TextReader", name := "readAsked", desc := "()Z" } : Jvm.MethodName)) ∈ xT := xT_t (i := 585) (by decide +kernel) (by decide +kernel)
theorem kcR_readAsked : (Jvm.Cond.code ({ cls := "GoodsTree$TextReader", name := "readAsked", desc := "()Z" } : Jvm.MethodName) prog_5_method_10_code (1 : Nat) (Option.some Jvm.ClassFile.FieldType.boolean)) ∈ xT := xT_t (i := 586) (by decide +kernel) (by decide +kernel)
theorem kmG_179 : (Jvm.Cond.methodLink "GoodsTree" (179 : Nat) ({ cls := "GoodsTree$Findings", name := "clear", desc := "()V" } : Jvm.MethodName)) ∈ xT := xT_t (i := 588) (by decide +kernel) (by decide +kernel)
theorem kiF_clear : (Jvm.Cond.instanceMethod ({ cls := "GoodsTree$Findings", name := "clear", desc := "()V" } : Jvm.MethodName)) ∈ xT := xT_t (i := 589) (by decide +kernel) (by decide +kernel)
theorem ksF_clear : (Jvm.Cond.selects "GoodsTree$Findings" ({ cls := "GoodsTree$Findings", name := "clear", desc := "()V" } : Jvm.MethodName) ({ cls := "GoodsTree$Findings", name := "clear", desc := "()V" } : Jvm.MethodName)) ∈ xT := xT_t (i := 590) (by decide +kernel) (by decide +kernel)
theorem kcF_clear : (Jvm.Cond.code ({ cls := "GoodsTree$Findings", name := "clear", desc := "()V" } : Jvm.MethodName) prog_3_method_2_code (1 : Nat) (Option.none : Option Jvm.ClassFile.FieldType)) ∈ xT := xT_t (i := 591) (by decide +kernel) (by decide +kernel)
theorem kmG_180 : (Jvm.Cond.methodLink "GoodsTree" (180 : Nat) ({ cls := "GoodsTree", name := "pointsOf", desc := "(LGoodsTree$Tree;I)I" } : Jvm.MethodName)) ∈ xT := xT_t (i := 592) (by decide +kernel) (by decide +kernel)
theorem kiG_pointsOf : (Jvm.Cond.instanceMethod ({ cls := "GoodsTree", name := "pointsOf", desc := "(LGoodsTree$Tree;I)I" } : Jvm.MethodName)) ∈ xT := xT_t (i := 594) (by decide +kernel) (by decide +kernel)
theorem kcG_pointsOf : (Jvm.Cond.code ({ cls := "GoodsTree", name := "pointsOf", desc := "(LGoodsTree$Tree;I)I" } : Jvm.MethodName) prog_1_method_22_code (5 : Nat) (Option.some Jvm.ClassFile.FieldType.int)) ∈ xT := xT_t (i := 595) (by decide +kernel) (by decide +kernel)
theorem kmG_208 : (Jvm.Cond.methodLink "GoodsTree" (208 : Nat) ({ cls := "GoodsTree$TextReader", name := "wordCount", desc := "()I" } : Jvm.MethodName)) ∈ xT := xT_t (i := 596) (by decide +kernel) (by decide +kernel)
theorem kmG_211 : (Jvm.Cond.methodLink "GoodsTree" (211 : Nat) ({ cls := "GoodsTree$TextReader", name := "wordAt", desc := "(I)J" } : Jvm.MethodName)) ∈ xT := xT_t (i := 597) (by decide +kernel) (by decide +kernel)
theorem kmG_214 : (Jvm.Cond.methodLink "GoodsTree" (214 : Nat) ({ cls := "GoodsTree$Tree", name := "pointsFor", desc := "(IJ)I" } : Jvm.MethodName)) ∈ xT := xT_t (i := 598) (by decide +kernel) (by decide +kernel)
theorem kiT_pointsFor : (Jvm.Cond.instanceMethod ({ cls := "GoodsTree$Tree", name := "pointsFor", desc := "(IJ)I" } : Jvm.MethodName)) ∈ xT := xT_t (i := 599) (by decide +kernel) (by decide +kernel)
theorem ksT_pointsFor : (Jvm.Cond.selects "GoodsTree$Tree" ({ cls := "GoodsTree$Tree", name := "pointsFor", desc := "(IJ)I" } : Jvm.MethodName) ({ cls := "GoodsTree$Tree", name := "pointsFor", desc := "(IJ)I" } : Jvm.MethodName)) ∈ xT := xT_t (i := 600) (by decide +kernel) (by decide +kernel)
theorem kcT_pointsFor : (Jvm.Cond.code ({ cls := "GoodsTree$Tree", name := "pointsFor", desc := "(IJ)I" } : Jvm.MethodName) prog_6_method_18_code (6 : Nat) (Option.some Jvm.ClassFile.FieldType.int)) ∈ xT := xT_t (i := 601) (by decide +kernel) (by decide +kernel)
theorem kmT_85 : (Jvm.Cond.methodLink "GoodsTree$Tree" (85 : Nat) ({ cls := "GoodsTree$Tree", name := "hasWord", desc := "(IJ)Z" } : Jvm.MethodName)) ∈ xT := xT_t (i := 602) (by decide +kernel) (by decide +kernel)
theorem kiT_hasWord : (Jvm.Cond.instanceMethod ({ cls := "GoodsTree$Tree", name := "hasWord", desc := "(IJ)Z" } : Jvm.MethodName)) ∈ xT := xT_t (i := 604) (by decide +kernel) (by decide +kernel)
theorem kcT_hasWord : (Jvm.Cond.code ({ cls := "GoodsTree$Tree", name := "hasWord", desc := "(IJ)Z" } : Jvm.MethodName) prog_6_method_19_code (5 : Nat) (Option.some Jvm.ClassFile.FieldType.boolean)) ∈ xT := xT_t (i := 605) (by decide +kernel) (by decide +kernel)
theorem kmT_92 : (Jvm.Cond.methodLink "GoodsTree$Tree" (92 : Nat) ({ cls := "GoodsTree$Tree", name := "wordsOf", desc := "(I)I" } : Jvm.MethodName)) ∈ xT := xT_t (i := 606) (by decide +kernel) (by decide +kernel)
theorem kmT_89 : (Jvm.Cond.methodLink "GoodsTree$Tree" (89 : Nat) ({ cls := "GoodsTree$Tree", name := "parentOf", desc := "(I)I" } : Jvm.MethodName)) ∈ xT := xT_t (i := 607) (by decide +kernel) (by decide +kernel)
theorem kmG_218 : (Jvm.Cond.methodLink "GoodsTree" (218 : Nat) ({ cls := "GoodsTree", name := "isLeftOut", desc := "(LGoodsTree$Tree;I)Z" } : Jvm.MethodName)) ∈ xT := xT_t (i := 608) (by decide +kernel) (by decide +kernel)
theorem kiG_isLeftOut : (Jvm.Cond.instanceMethod ({ cls := "GoodsTree", name := "isLeftOut", desc := "(LGoodsTree$Tree;I)Z" } : Jvm.MethodName)) ∈ xT := xT_t (i := 610) (by decide +kernel) (by decide +kernel)
theorem kcG_isLeftOut : (Jvm.Cond.code ({ cls := "GoodsTree", name := "isLeftOut", desc := "(LGoodsTree$Tree;I)Z" } : Jvm.MethodName) prog_1_method_23_code (5 : Nat) (Option.some Jvm.ClassFile.FieldType.boolean)) ∈ xT := xT_t (i := 611) (by decide +kernel) (by decide +kernel)
theorem kmG_184 : (Jvm.Cond.methodLink "GoodsTree" (184 : Nat) ({ cls := "GoodsTree$Findings", name := "add", desc := "(JI)V" } : Jvm.MethodName)) ∈ xT := xT_t (i := 612) (by decide +kernel) (by decide +kernel)
theorem kiF_add : (Jvm.Cond.instanceMethod ({ cls := "GoodsTree$Findings", name := "add", desc := "(JI)V" } : Jvm.MethodName)) ∈ xT := xT_t (i := 613) (by decide +kernel) (by decide +kernel)
theorem ksF_add : (Jvm.Cond.selects "GoodsTree$Findings" ({ cls := "GoodsTree$Findings", name := "add", desc := "(JI)V" } : Jvm.MethodName) ({ cls := "GoodsTree$Findings", name := "add", desc := "(JI)V" } : Jvm.MethodName)) ∈ xT := xT_t (i := 614) (by decide +kernel) (by decide +kernel)
theorem kcF_add : (Jvm.Cond.code ({ cls := "GoodsTree$Findings", name := "add", desc := "(JI)V" } : Jvm.MethodName) prog_3_method_7_code (5 : Nat) (Option.none : Option Jvm.ClassFile.FieldType)) ∈ xT := xT_t (i := 615) (by decide +kernel) (by decide +kernel)
theorem kmL_114 : (Jvm.Cond.methodLink "GoodsTreeLaw" (114 : Nat) ({ cls := "GoodsTreeLaw", name := "found", desc := "(LGoodsTree;II[J)I" } : Jvm.MethodName)) ∈ xT := xT_t (i := 616) (by decide +kernel) (by decide +kernel)
theorem ktL_found : (Jvm.Cond.static ({ cls := "GoodsTreeLaw", name := "found", desc := "(LGoodsTree;II[J)I" } : Jvm.MethodName)) ∈ xT := xT_t (i := 617) (by decide +kernel) (by decide +kernel)
theorem kwL_found : (Jvm.Cond.codeWith ({ cls := "GoodsTreeLaw", name := "found", desc := "(LGoodsTree;II[J)I" } : Jvm.MethodName) method_11_code (5 : Nat) (Option.some Jvm.ClassFile.FieldType.int) [((0 : Nat), (9 : Nat), (12 : Nat), (19 : Nat))]) ∈ xT := xT_t (i := 618) (by decide +kernel) (by decide +kernel)
theorem kmL_46 : (Jvm.Cond.methodLink "GoodsTreeLaw" (46 : Nat) ({ cls := "GoodsTree", name := "found", desc := "(II)J" } : Jvm.MethodName)) ∈ xT := xT_t (i := 619) (by decide +kernel) (by decide +kernel)
theorem kiG_found : (Jvm.Cond.instanceMethod ({ cls := "GoodsTree", name := "found", desc := "(II)J" } : Jvm.MethodName)) ∈ xT := xT_t (i := 620) (by decide +kernel) (by decide +kernel)
theorem ksG_found : (Jvm.Cond.selects "GoodsTree" ({ cls := "GoodsTree", name := "found", desc := "(II)J" } : Jvm.MethodName) ({ cls := "GoodsTree", name := "found", desc := "(II)J" } : Jvm.MethodName)) ∈ xT := xT_t (i := 621) (by decide +kernel) (by decide +kernel)
theorem kcG_found : (Jvm.Cond.code ({ cls := "GoodsTree", name := "found", desc := "(II)J" } : Jvm.MethodName) prog_1_method_15_code (3 : Nat) (Option.some Jvm.ClassFile.FieldType.long)) ∈ xT := xT_t (i := 622) (by decide +kernel) (by decide +kernel)
theorem kmG_188 : (Jvm.Cond.methodLink "GoodsTree" (188 : Nat) ({ cls := "GoodsTree$Findings", name := "has", desc := "(I)Z" } : Jvm.MethodName)) ∈ xT := xT_t (i := 623) (by decide +kernel) (by decide +kernel)
theorem kiF_has : (Jvm.Cond.instanceMethod ({ cls := "GoodsTree$Findings", name := "has", desc := "(I)Z" } : Jvm.MethodName)) ∈ xT := xT_t (i := 624) (by decide +kernel) (by decide +kernel)
theorem ksF_has : (Jvm.Cond.selects "GoodsTree$Findings" ({ cls := "GoodsTree$Findings", name := "has", desc := "(I)Z" } : Jvm.MethodName) ({ cls := "GoodsTree$Findings", name := "has", desc := "(I)Z" } : Jvm.MethodName)) ∈ xT := xT_t (i := 625) (by decide +kernel) (by decide +kernel)
theorem kcF_has : (Jvm.Cond.code ({ cls := "GoodsTree$Findings", name := "has", desc := "(I)Z" } : Jvm.MethodName) prog_3_method_4_code (2 : Nat) (Option.some Jvm.ClassFile.FieldType.boolean)) ∈ xT := xT_t (i := 626) (by decide +kernel) (by decide +kernel)
theorem kmG_191 : (Jvm.Cond.methodLink "GoodsTree" (191 : Nat) ({ cls := "GoodsTree$Findings", name := "codeOf", desc := "(I)J" } : Jvm.MethodName)) ∈ xT := xT_t (i := 628) (by decide +kernel) (by decide +kernel)
theorem kiF_codeOf : (Jvm.Cond.instanceMethod ({ cls := "GoodsTree$Findings", name := "codeOf", desc := "(I)J" } : Jvm.MethodName)) ∈ xT := xT_t (i := 629) (by decide +kernel) (by decide +kernel)
theorem ksF_codeOf : (Jvm.Cond.selects "GoodsTree$Findings" ({ cls := "GoodsTree$Findings", name := "codeOf", desc := "(I)J" } : Jvm.MethodName) ({ cls := "GoodsTree$Findings", name := "codeOf", desc := "(I)J" } : Jvm.MethodName)) ∈ xT := xT_t (i := 630) (by decide +kernel) (by decide +kernel)
theorem kcF_codeOf : (Jvm.Cond.code ({ cls := "GoodsTree$Findings", name := "codeOf", desc := "(I)J" } : Jvm.MethodName) prog_3_method_5_code (2 : Nat) (Option.some Jvm.ClassFile.FieldType.long)) ∈ xT := xT_t (i := 631) (by decide +kernel) (by decide +kernel)
theorem kmF_23 : (Jvm.Cond.methodLink "GoodsTree$Findings" (23 : Nat) ({ cls := "GoodsTree$Findings", name := "has", desc := "(I)Z" } : Jvm.MethodName)) ∈ xT := xT_t (i := 632) (by decide +kernel) (by decide +kernel)
theorem kmG_192 : (Jvm.Cond.methodLink "GoodsTree" (192 : Nat) ({ cls := "GoodsTree$Findings", name := "pointsAt", desc := "(I)I" } : Jvm.MethodName)) ∈ xT := xT_t (i := 633) (by decide +kernel) (by decide +kernel)
theorem kiF_pointsAt : (Jvm.Cond.instanceMethod ({ cls := "GoodsTree$Findings", name := "pointsAt", desc := "(I)I" } : Jvm.MethodName)) ∈ xT := xT_t (i := 634) (by decide +kernel) (by decide +kernel)
theorem ksF_pointsAt : (Jvm.Cond.selects "GoodsTree$Findings" ({ cls := "GoodsTree$Findings", name := "pointsAt", desc := "(I)I" } : Jvm.MethodName) ({ cls := "GoodsTree$Findings", name := "pointsAt", desc := "(I)I" } : Jvm.MethodName)) ∈ xT := xT_t (i := 635) (by decide +kernel) (by decide +kernel)
theorem kcF_pointsAt : (Jvm.Cond.code ({ cls := "GoodsTree$Findings", name := "pointsAt", desc := "(I)I" } : Jvm.MethodName) prog_3_method_6_code (2 : Nat) (Option.some Jvm.ClassFile.FieldType.int)) ∈ xT := xT_t (i := 636) (by decide +kernel) (by decide +kernel)
theorem klL_50 : (Jvm.Cond.classLink "GoodsTreeLaw" (50 : Nat) "GoodsTreeModel") ∈ xT := xT_t (i := 637) (by decide +kernel) (by decide +kernel)
theorem kqM : (Jvm.Cond.instantiable "GoodsTreeModel" (27 : Nat)) ∈ xT := xT_t (i := 638) (by decide +kernel) (by decide +kernel)
theorem kmL_52 : (Jvm.Cond.methodLink "GoodsTreeLaw" (52 : Nat) ({ cls := "GoodsTreeModel", name := "<init>", desc := "()V" } : Jvm.MethodName)) ∈ xT := xT_t (i := 639) (by decide +kernel) (by decide +kernel)
theorem kiM_init : (Jvm.Cond.instanceMethod ({ cls := "GoodsTreeModel", name := "<init>", desc := "()V" } : Jvm.MethodName)) ∈ xT := xT_t (i := 640) (by decide +kernel) (by decide +kernel)
theorem kcM_init : (Jvm.Cond.code ({ cls := "GoodsTreeModel", name := "<init>", desc := "()V" } : Jvm.MethodName) prog_8_method_1_code (1 : Nat) (Option.none : Option Jvm.ClassFile.FieldType)) ∈ xT := xT_t (i := 641) (by decide +kernel) (by decide +kernel)
theorem kmM_1 : (Jvm.Cond.methodLink "GoodsTreeModel" (1 : Nat) ({ cls := "java/lang/Object", name := "<init>", desc := "()V" } : Jvm.MethodName)) ∈ xT := xT_t (i := 642) (by decide +kernel) (by decide +kernel)
theorem kfM_69 : (Jvm.Cond.fieldLink "GoodsTreeModel" (69 : Nat) "GoodsTreeModel" "thrown" "I") ∈ xT := xT_t (i := 643) (by decide +kernel) (by decide +kernel)
theorem kfM_7 : (Jvm.Cond.fieldLink "GoodsTreeModel" (7 : Nat) "GoodsTreeModel" "text" "[I") ∈ xT := xT_t (i := 644) (by decide +kernel) (by decide +kernel)
theorem kfM_83 : (Jvm.Cond.fieldLink "GoodsTreeModel" (83 : Nat) "GoodsTreeModel" "signs" "I") ∈ xT := xT_t (i := 645) (by decide +kernel) (by decide +kernel)
theorem kfM_156 : (Jvm.Cond.fieldLink "GoodsTreeModel" (156 : Nat) "GoodsTreeModel" "present" "I") ∈ xT := xT_t (i := 646) (by decide +kernel) (by decide +kernel)
theorem kfM_86 : (Jvm.Cond.fieldLink "GoodsTreeModel" (86 : Nat) "GoodsTreeModel" "failed" "I") ∈ xT := xT_t (i := 647) (by decide +kernel) (by decide +kernel)
theorem kfM_13 : (Jvm.Cond.fieldLink "GoodsTreeModel" (13 : Nat) "GoodsTreeModel" "failedAt" "I") ∈ xT := xT_t (i := 648) (by decide +kernel) (by decide +kernel)
theorem kfM_17 : (Jvm.Cond.fieldLink "GoodsTreeModel" (17 : Nat) "GoodsTreeModel" "rows" "[I") ∈ xT := xT_t (i := 649) (by decide +kernel) (by decide +kernel)
theorem kfM_20 : (Jvm.Cond.fieldLink "GoodsTreeModel" (20 : Nat) "GoodsTreeModel" "code" "[J") ∈ xT := xT_t (i := 650) (by decide +kernel) (by decide +kernel)
theorem kfM_24 : (Jvm.Cond.fieldLink "GoodsTreeModel" (24 : Nat) "GoodsTreeModel" "dashes" "[I") ∈ xT := xT_t (i := 651) (by decide +kernel) (by decide +kernel)
theorem kfM_27 : (Jvm.Cond.fieldLink "GoodsTreeModel" (27 : Nat) "GoodsTreeModel" "words" "[I") ∈ xT := xT_t (i := 652) (by decide +kernel) (by decide +kernel)
theorem kfM_30 : (Jvm.Cond.fieldLink "GoodsTreeModel" (30 : Nat) "GoodsTreeModel" "word" "[J") ∈ xT := xT_t (i := 653) (by decide +kernel) (by decide +kernel)
theorem kfM_142 : (Jvm.Cond.fieldLink "GoodsTreeModel" (142 : Nat) "GoodsTreeModel" "notes" "I") ∈ xT := xT_t (i := 654) (by decide +kernel) (by decide +kernel)
theorem kfM_33 : (Jvm.Cond.fieldLink "GoodsTreeModel" (33 : Nat) "GoodsTreeModel" "noteEdition" "[I") ∈ xT := xT_t (i := 655) (by decide +kernel) (by decide +kernel)
theorem kfM_36 : (Jvm.Cond.fieldLink "GoodsTreeModel" (36 : Nat) "GoodsTreeModel" "noteCode" "[J") ∈ xT := xT_t (i := 656) (by decide +kernel) (by decide +kernel)
theorem kfM_39 : (Jvm.Cond.fieldLink "GoodsTreeModel" (39 : Nat) "GoodsTreeModel" "noteKind" "[I") ∈ xT := xT_t (i := 657) (by decide +kernel) (by decide +kernel)
theorem kfM_42 : (Jvm.Cond.fieldLink "GoodsTreeModel" (42 : Nat) "GoodsTreeModel" "noteOther" "[J") ∈ xT := xT_t (i := 658) (by decide +kernel) (by decide +kernel)
theorem kfM_145 : (Jvm.Cond.fieldLink "GoodsTreeModel" (145 : Nat) "GoodsTreeModel" "links" "I") ∈ xT := xT_t (i := 659) (by decide +kernel) (by decide +kernel)
theorem kfM_45 : (Jvm.Cond.fieldLink "GoodsTreeModel" (45 : Nat) "GoodsTreeModel" "linkFrom" "[I") ∈ xT := xT_t (i := 660) (by decide +kernel) (by decide +kernel)
theorem kfM_48 : (Jvm.Cond.fieldLink "GoodsTreeModel" (48 : Nat) "GoodsTreeModel" "linkCode" "[J") ∈ xT := xT_t (i := 661) (by decide +kernel) (by decide +kernel)
theorem kfM_51 : (Jvm.Cond.fieldLink "GoodsTreeModel" (51 : Nat) "GoodsTreeModel" "linkTo" "[I") ∈ xT := xT_t (i := 662) (by decide +kernel) (by decide +kernel)
theorem kfM_54 : (Jvm.Cond.fieldLink "GoodsTreeModel" (54 : Nat) "GoodsTreeModel" "linkOther" "[J") ∈ xT := xT_t (i := 663) (by decide +kernel) (by decide +kernel)
theorem kfM_204 : (Jvm.Cond.fieldLink "GoodsTreeModel" (204 : Nat) "GoodsTreeModel" "found" "I") ∈ xT := xT_t (i := 664) (by decide +kernel) (by decide +kernel)
theorem kfM_57 : (Jvm.Cond.fieldLink "GoodsTreeModel" (57 : Nat) "GoodsTreeModel" "foundCode" "[J") ∈ xT := xT_t (i := 665) (by decide +kernel) (by decide +kernel)
theorem kfM_60 : (Jvm.Cond.fieldLink "GoodsTreeModel" (60 : Nat) "GoodsTreeModel" "foundPoints" "[I") ∈ xT := xT_t (i := 666) (by decide +kernel) (by decide +kernel)
theorem kfM_63 : (Jvm.Cond.fieldLink "GoodsTreeModel" (63 : Nat) "GoodsTreeModel" "asked" "[J") ∈ xT := xT_t (i := 667) (by decide +kernel) (by decide +kernel)
theorem kfM_129 : (Jvm.Cond.fieldLink "GoodsTreeModel" (129 : Nat) "GoodsTreeModel" "askedCount" "I") ∈ xT := xT_t (i := 668) (by decide +kernel) (by decide +kernel)
theorem kfM_66 : (Jvm.Cond.fieldLink "GoodsTreeModel" (66 : Nat) "GoodsTreeModel" "points" "[I") ∈ xT := xT_t (i := 669) (by decide +kernel) (by decide +kernel)
theorem kmL_64 : (Jvm.Cond.methodLink "GoodsTreeLaw" (64 : Nat) ({ cls := "GoodsTreeModel", name := "thrown", desc := "()I" } : Jvm.MethodName)) ∈ xT := xT_t (i := 725) (by decide +kernel) (by decide +kernel)
theorem kiM_thrown : (Jvm.Cond.instanceMethod ({ cls := "GoodsTreeModel", name := "thrown", desc := "()I" } : Jvm.MethodName)) ∈ xT := xT_t (i := 726) (by decide +kernel) (by decide +kernel)
theorem ksM_thrown : (Jvm.Cond.selects "GoodsTreeModel" ({ cls := "GoodsTreeModel", name := "thrown", desc := "()I" } : Jvm.MethodName) ({ cls := "GoodsTreeModel", name := "thrown", desc := "()I" } : Jvm.MethodName)) ∈ xT := xT_t (i := 727) (by decide +kernel) (by decide +kernel)
theorem kcM_thrown : (Jvm.Cond.code ({ cls := "GoodsTreeModel", name := "thrown", desc := "()I" } : Jvm.MethodName) prog_8_method_2_code (1 : Nat) (Option.some Jvm.ClassFile.FieldType.int)) ∈ xT := xT_t (i := 728) (by decide +kernel) (by decide +kernel)
theorem kmL_57 : (Jvm.Cond.methodLink "GoodsTreeLaw" (57 : Nat) ({ cls := "GoodsTreeModel", name := "sign", desc := "(I)Z" } : Jvm.MethodName)) ∈ xT := xT_t (i := 729) (by decide +kernel) (by decide +kernel)
theorem kiM_sign : (Jvm.Cond.instanceMethod ({ cls := "GoodsTreeModel", name := "sign", desc := "(I)Z" } : Jvm.MethodName)) ∈ xT := xT_t (i := 730) (by decide +kernel) (by decide +kernel)
theorem ksM_sign : (Jvm.Cond.selects "GoodsTreeModel" ({ cls := "GoodsTreeModel", name := "sign", desc := "(I)Z" } : Jvm.MethodName) ({ cls := "GoodsTreeModel", name := "sign", desc := "(I)Z" } : Jvm.MethodName)) ∈ xT := xT_t (i := 731) (by decide +kernel) (by decide +kernel)
theorem kcM_sign : (Jvm.Cond.code ({ cls := "GoodsTreeModel", name := "sign", desc := "(I)Z" } : Jvm.MethodName) prog_8_method_8_code (3 : Nat) (Option.some Jvm.ClassFile.FieldType.boolean)) ∈ xT := xT_t (i := 732) (by decide +kernel) (by decide +kernel)
theorem kmM_72 : (Jvm.Cond.methodLink "GoodsTreeModel" (72 : Nat) ({ cls := "GoodsTreeModel", name := "in", desc := "(III)Z" } : Jvm.MethodName)) ∈ xT := xT_t (i := 733) (by decide +kernel) (by decide +kernel)
theorem ktM_in : (Jvm.Cond.static ({ cls := "GoodsTreeModel", name := "in", desc := "(III)Z" } : Jvm.MethodName)) ∈ xT := xT_t (i := 734) (by decide +kernel) (by decide +kernel)
theorem kcM_in : (Jvm.Cond.code ({ cls := "GoodsTreeModel", name := "in", desc := "(III)Z" } : Jvm.MethodName) prog_8_method_4_code (3 : Nat) (Option.some Jvm.ClassFile.FieldType.boolean)) ∈ xT := xT_t (i := 735) (by decide +kernel) (by decide +kernel)
theorem kmM_76 : (Jvm.Cond.methodLink "GoodsTreeModel" (76 : Nat) ({ cls := "GoodsTreeModel", name := "isLetter", desc := "(I)Z" } : Jvm.MethodName)) ∈ xT := xT_t (i := 736) (by decide +kernel) (by decide +kernel)
theorem ktM_isLetter : (Jvm.Cond.static ({ cls := "GoodsTreeModel", name := "isLetter", desc := "(I)Z" } : Jvm.MethodName)) ∈ xT := xT_t (i := 737) (by decide +kernel) (by decide +kernel)
theorem kcM_isLetter : (Jvm.Cond.code ({ cls := "GoodsTreeModel", name := "isLetter", desc := "(I)Z" } : Jvm.MethodName) prog_8_method_6_code (1 : Nat) (Option.some Jvm.ClassFile.FieldType.boolean)) ∈ xT := xT_t (i := 738) (by decide +kernel) (by decide +kernel)
theorem kmM_80 : (Jvm.Cond.methodLink "GoodsTreeModel" (80 : Nat) ({ cls := "GoodsTreeModel", name := "isDigit", desc := "(I)Z" } : Jvm.MethodName)) ∈ xT := xT_t (i := 739) (by decide +kernel) (by decide +kernel)
theorem ktM_isDigit : (Jvm.Cond.static ({ cls := "GoodsTreeModel", name := "isDigit", desc := "(I)Z" } : Jvm.MethodName)) ∈ xT := xT_t (i := 740) (by decide +kernel) (by decide +kernel)
theorem kcM_isDigit : (Jvm.Cond.code ({ cls := "GoodsTreeModel", name := "isDigit", desc := "(I)Z" } : Jvm.MethodName) prog_8_method_7_code (1 : Nat) (Option.some Jvm.ClassFile.FieldType.boolean)) ∈ xT := xT_t (i := 741) (by decide +kernel) (by decide +kernel)
theorem kmL_63 : (Jvm.Cond.methodLink "GoodsTreeLaw" (63 : Nat) ({ cls := "GoodsTreeModel", name := "read", desc := "()I" } : Jvm.MethodName)) ∈ xT := xT_t (i := 742) (by decide +kernel) (by decide +kernel)
theorem kiM_read : (Jvm.Cond.instanceMethod ({ cls := "GoodsTreeModel", name := "read", desc := "()I" } : Jvm.MethodName)) ∈ xT := xT_t (i := 743) (by decide +kernel) (by decide +kernel)
theorem ksM_read : (Jvm.Cond.selects "GoodsTreeModel" ({ cls := "GoodsTreeModel", name := "read", desc := "()I" } : Jvm.MethodName) ({ cls := "GoodsTreeModel", name := "read", desc := "()I" } : Jvm.MethodName)) ∈ xT := xT_t (i := 744) (by decide +kernel) (by decide +kernel)
theorem kcM_read : (Jvm.Cond.code ({ cls := "GoodsTreeModel", name := "read", desc := "()I" } : Jvm.MethodName) prog_8_method_22_code (5 : Nat) (Option.some Jvm.ClassFile.FieldType.int)) ∈ xT := xT_t (i := 745) (by decide +kernel) (by decide +kernel)
theorem kmM_148 : (Jvm.Cond.methodLink "GoodsTreeModel" (148 : Nat) ({ cls := "GoodsTreeModel", name := "reads", desc := "()Z" } : Jvm.MethodName)) ∈ xT := xT_t (i := 746) (by decide +kernel) (by decide +kernel)
theorem kiM_reads : (Jvm.Cond.instanceMethod ({ cls := "GoodsTreeModel", name := "reads", desc := "()Z" } : Jvm.MethodName)) ∈ xT := xT_t (i := 748) (by decide +kernel) (by decide +kernel)
theorem kcM_reads : (Jvm.Cond.code ({ cls := "GoodsTreeModel", name := "reads", desc := "()Z" } : Jvm.MethodName) prog_8_method_20_code (5 : Nat) (Option.some Jvm.ClassFile.FieldType.boolean)) ∈ xT := xT_t (i := 749) (by decide +kernel) (by decide +kernel)
theorem kmM_135 : (Jvm.Cond.methodLink "GoodsTreeModel" (135 : Nat) ({ cls := "GoodsTreeModel", name := "readsCode", desc := "(I)Z" } : Jvm.MethodName)) ∈ xT := xT_t (i := 750) (by decide +kernel) (by decide +kernel)
theorem kiM_readsCode : (Jvm.Cond.instanceMethod ({ cls := "GoodsTreeModel", name := "readsCode", desc := "(I)Z" } : Jvm.MethodName)) ∈ xT := xT_t (i := 752) (by decide +kernel) (by decide +kernel)
theorem kcM_readsCode : (Jvm.Cond.code ({ cls := "GoodsTreeModel", name := "readsCode", desc := "(I)Z" } : Jvm.MethodName) prog_8_method_18_code (8 : Nat) (Option.some Jvm.ClassFile.FieldType.boolean)) ∈ xT := xT_t (i := 753) (by decide +kernel) (by decide +kernel)
theorem kmM_111 : (Jvm.Cond.methodLink "GoodsTreeModel" (111 : Nat) ({ cls := "GoodsTreeModel", name := "run", desc := "(II)I" } : Jvm.MethodName)) ∈ xT := xT_t (i := 754) (by decide +kernel) (by decide +kernel)
theorem kiM_run : (Jvm.Cond.instanceMethod ({ cls := "GoodsTreeModel", name := "run", desc := "(II)I" } : Jvm.MethodName)) ∈ xT := xT_t (i := 756) (by decide +kernel) (by decide +kernel)
theorem kcM_run : (Jvm.Cond.code ({ cls := "GoodsTreeModel", name := "run", desc := "(II)I" } : Jvm.MethodName) prog_8_method_10_code (4 : Nat) (Option.some Jvm.ClassFile.FieldType.int)) ∈ xT := xT_t (i := 757) (by decide +kernel) (by decide +kernel)
theorem kmM_115 : (Jvm.Cond.methodLink "GoodsTreeModel" (115 : Nat) ({ cls := "GoodsTreeModel", name := "fails", desc := "(II)Z" } : Jvm.MethodName)) ∈ xT := xT_t (i := 758) (by decide +kernel) (by decide +kernel)
theorem kiM_fails : (Jvm.Cond.instanceMethod ({ cls := "GoodsTreeModel", name := "fails", desc := "(II)Z" } : Jvm.MethodName)) ∈ xT := xT_t (i := 760) (by decide +kernel) (by decide +kernel)
theorem kcM_fails : (Jvm.Cond.code ({ cls := "GoodsTreeModel", name := "fails", desc := "(II)Z" } : Jvm.MethodName) prog_8_method_9_code (3 : Nat) (Option.some Jvm.ClassFile.FieldType.boolean)) ∈ xT := xT_t (i := 761) (by decide +kernel) (by decide +kernel)
theorem kmM_119 : (Jvm.Cond.methodLink "GoodsTreeModel" (119 : Nat) ({ cls := "GoodsTreeModel", name := "codeAt", desc := "(II)J" } : Jvm.MethodName)) ∈ xT := xT_t (i := 762) (by decide +kernel) (by decide +kernel)
theorem kiM_codeAt : (Jvm.Cond.instanceMethod ({ cls := "GoodsTreeModel", name := "codeAt", desc := "(II)J" } : Jvm.MethodName)) ∈ xT := xT_t (i := 764) (by decide +kernel) (by decide +kernel)
theorem kcM_codeAt : (Jvm.Cond.code ({ cls := "GoodsTreeModel", name := "codeAt", desc := "(II)J" } : Jvm.MethodName) prog_8_method_12_code (6 : Nat) (Option.some Jvm.ClassFile.FieldType.long)) ∈ xT := xT_t (i := 765) (by decide +kernel) (by decide +kernel)
theorem kjM_93 : (Jvm.Cond.constantLong "GoodsTreeModel" (93 : Nat) (10 : Int64)) ∈ xT := xT_t (i := 766) (by decide +kernel) (by decide +kernel)
theorem kjM_95 : (Jvm.Cond.constantLong "GoodsTreeModel" (95 : Nat) (48 : Int64)) ∈ xT := xT_t (i := 767) (by decide +kernel) (by decide +kernel)
theorem kmM_123 : (Jvm.Cond.methodLink "GoodsTreeModel" (123 : Nat) ({ cls := "GoodsTreeModel", name := "above", desc := "(II)I" } : Jvm.MethodName)) ∈ xT := xT_t (i := 768) (by decide +kernel) (by decide +kernel)
theorem kiM_above : (Jvm.Cond.instanceMethod ({ cls := "GoodsTreeModel", name := "above", desc := "(II)I" } : Jvm.MethodName)) ∈ xT := xT_t (i := 770) (by decide +kernel) (by decide +kernel)
theorem kcM_above : (Jvm.Cond.code ({ cls := "GoodsTreeModel", name := "above", desc := "(II)I" } : Jvm.MethodName) prog_8_method_17_code (4 : Nat) (Option.some Jvm.ClassFile.FieldType.int)) ∈ xT := xT_t (i := 771) (by decide +kernel) (by decide +kernel)
theorem kmM_107 : (Jvm.Cond.methodLink "GoodsTreeModel" (107 : Nat) ({ cls := "GoodsTreeModel", name := "begins", desc := "(JJ)Z" } : Jvm.MethodName)) ∈ xT := xT_t (i := 772) (by decide +kernel) (by decide +kernel)
theorem ktM_begins : (Jvm.Cond.static ({ cls := "GoodsTreeModel", name := "begins", desc := "(JJ)Z" } : Jvm.MethodName)) ∈ xT := xT_t (i := 773) (by decide +kernel) (by decide +kernel)
theorem kcM_begins : (Jvm.Cond.code ({ cls := "GoodsTreeModel", name := "begins", desc := "(JJ)Z" } : Jvm.MethodName) prog_8_method_15_code (4 : Nat) (Option.some Jvm.ClassFile.FieldType.boolean)) ∈ xT := xT_t (i := 774) (by decide +kernel) (by decide +kernel)
theorem kmM_99 : (Jvm.Cond.methodLink "GoodsTreeModel" (99 : Nat) ({ cls := "GoodsTreeModel", name := "digitsOf", desc := "(J)I" } : Jvm.MethodName)) ∈ xT := xT_t (i := 775) (by decide +kernel) (by decide +kernel)
theorem ktM_digitsOf : (Jvm.Cond.static ({ cls := "GoodsTreeModel", name := "digitsOf", desc := "(J)I" } : Jvm.MethodName)) ∈ xT := xT_t (i := 776) (by decide +kernel) (by decide +kernel)
theorem kcM_digitsOf : (Jvm.Cond.code ({ cls := "GoodsTreeModel", name := "digitsOf", desc := "(J)I" } : Jvm.MethodName) prog_8_method_13_code (5 : Nat) (Option.some Jvm.ClassFile.FieldType.int)) ∈ xT := xT_t (i := 777) (by decide +kernel) (by decide +kernel)
theorem kjM_97 : (Jvm.Cond.constantLong "GoodsTreeModel" (97 : Nat) (9 : Int64)) ∈ xT := xT_t (i := 778) (by decide +kernel) (by decide +kernel)
theorem kmM_103 : (Jvm.Cond.methodLink "GoodsTreeModel" (103 : Nat) ({ cls := "GoodsTreeModel", name := "cut", desc := "(JI)J" } : Jvm.MethodName)) ∈ xT := xT_t (i := 779) (by decide +kernel) (by decide +kernel)
theorem ktM_cut : (Jvm.Cond.static ({ cls := "GoodsTreeModel", name := "cut", desc := "(JI)J" } : Jvm.MethodName)) ∈ xT := xT_t (i := 780) (by decide +kernel) (by decide +kernel)
theorem kcM_cut : (Jvm.Cond.code ({ cls := "GoodsTreeModel", name := "cut", desc := "(JI)J" } : Jvm.MethodName) prog_8_method_14_code (6 : Nat) (Option.some Jvm.ClassFile.FieldType.long)) ∈ xT := xT_t (i := 781) (by decide +kernel) (by decide +kernel)
theorem kmM_126 : (Jvm.Cond.methodLink "GoodsTreeModel" (126 : Nat) ({ cls := "GoodsTreeModel", name := "isBehind", desc := "(JJ)Z" } : Jvm.MethodName)) ∈ xT := xT_t (i := 782) (by decide +kernel) (by decide +kernel)
theorem ktM_isBehind : (Jvm.Cond.static ({ cls := "GoodsTreeModel", name := "isBehind", desc := "(JJ)Z" } : Jvm.MethodName)) ∈ xT := xT_t (i := 783) (by decide +kernel) (by decide +kernel)
theorem kcM_isBehind : (Jvm.Cond.code ({ cls := "GoodsTreeModel", name := "isBehind", desc := "(JJ)Z" } : Jvm.MethodName) prog_8_method_16_code (5 : Nat) (Option.some Jvm.ClassFile.FieldType.boolean)) ∈ xT := xT_t (i := 784) (by decide +kernel) (by decide +kernel)
theorem kmM_138 : (Jvm.Cond.methodLink "GoodsTreeModel" (138 : Nat) ({ cls := "GoodsTreeModel", name := "readsWords", desc := "(III)I" } : Jvm.MethodName)) ∈ xT := xT_t (i := 785) (by decide +kernel) (by decide +kernel)
theorem kiM_readsWords : (Jvm.Cond.instanceMethod ({ cls := "GoodsTreeModel", name := "readsWords", desc := "(III)I" } : Jvm.MethodName)) ∈ xT := xT_t (i := 787) (by decide +kernel) (by decide +kernel)
theorem kcM_readsWords : (Jvm.Cond.code ({ cls := "GoodsTreeModel", name := "readsWords", desc := "(III)I" } : Jvm.MethodName) prog_8_method_19_code (7 : Nat) (Option.some Jvm.ClassFile.FieldType.int)) ∈ xT := xT_t (i := 788) (by decide +kernel) (by decide +kernel)
theorem kmM_132 : (Jvm.Cond.methodLink "GoodsTreeModel" (132 : Nat) ({ cls := "GoodsTreeModel", name := "wordAt", desc := "(II)J" } : Jvm.MethodName)) ∈ xT := xT_t (i := 789) (by decide +kernel) (by decide +kernel)
theorem kiM_wordAt : (Jvm.Cond.instanceMethod ({ cls := "GoodsTreeModel", name := "wordAt", desc := "(II)J" } : Jvm.MethodName)) ∈ xT := xT_t (i := 791) (by decide +kernel) (by decide +kernel)
theorem kcM_wordAt : (Jvm.Cond.code ({ cls := "GoodsTreeModel", name := "wordAt", desc := "(II)J" } : Jvm.MethodName) prog_8_method_11_code (6 : Nat) (Option.some Jvm.ClassFile.FieldType.long)) ∈ xT := xT_t (i := 792) (by decide +kernel) (by decide +kernel)
theorem kjM_89 : (Jvm.Cond.constantLong "GoodsTreeModel" (89 : Nat) (32 : Int64)) ∈ xT := xT_t (i := 793) (by decide +kernel) (by decide +kernel)
theorem kjM_91 : (Jvm.Cond.constantLong "GoodsTreeModel" (91 : Nat) (96 : Int64)) ∈ xT := xT_t (i := 794) (by decide +kernel) (by decide +kernel)
theorem kmM_152 : (Jvm.Cond.methodLink "GoodsTreeModel" (152 : Nat) ({ cls := "GoodsTreeModel", name := "refuse", desc := "(I)I" } : Jvm.MethodName)) ∈ xT := xT_t (i := 795) (by decide +kernel) (by decide +kernel)
theorem kiM_refuse : (Jvm.Cond.instanceMethod ({ cls := "GoodsTreeModel", name := "refuse", desc := "(I)I" } : Jvm.MethodName)) ∈ xT := xT_t (i := 797) (by decide +kernel) (by decide +kernel)
theorem kcM_refuse : (Jvm.Cond.code ({ cls := "GoodsTreeModel", name := "refuse", desc := "(I)I" } : Jvm.MethodName) prog_8_method_3_code (2 : Nat) (Option.some Jvm.ClassFile.FieldType.int)) ∈ xT := xT_t (i := 798) (by decide +kernel) (by decide +kernel)
theorem kmM_159 : (Jvm.Cond.methodLink "GoodsTreeModel" (159 : Nat) ({ cls := "GoodsTreeModel", name := "forget", desc := "(I)V" } : Jvm.MethodName)) ∈ xT := xT_t (i := 799) (by decide +kernel) (by decide +kernel)
theorem kiM_forget : (Jvm.Cond.instanceMethod ({ cls := "GoodsTreeModel", name := "forget", desc := "(I)V" } : Jvm.MethodName)) ∈ xT := xT_t (i := 801) (by decide +kernel) (by decide +kernel)
theorem kcM_forget : (Jvm.Cond.code ({ cls := "GoodsTreeModel", name := "forget", desc := "(I)V" } : Jvm.MethodName) prog_8_method_21_code (4 : Nat) (Option.none : Option Jvm.ClassFile.FieldType)) ∈ xT := xT_t (i := 802) (by decide +kernel) (by decide +kernel)
theorem kmL_71 : (Jvm.Cond.methodLink "GoodsTreeLaw" (71 : Nat) ({ cls := "GoodsTreeModel", name := "failure", desc := "(I)I" } : Jvm.MethodName)) ∈ xT := xT_t (i := 803) (by decide +kernel) (by decide +kernel)
theorem kiM_failure : (Jvm.Cond.instanceMethod ({ cls := "GoodsTreeModel", name := "failure", desc := "(I)I" } : Jvm.MethodName)) ∈ xT := xT_t (i := 804) (by decide +kernel) (by decide +kernel)
theorem ksM_failure : (Jvm.Cond.selects "GoodsTreeModel" ({ cls := "GoodsTreeModel", name := "failure", desc := "(I)I" } : Jvm.MethodName) ({ cls := "GoodsTreeModel", name := "failure", desc := "(I)I" } : Jvm.MethodName)) ∈ xT := xT_t (i := 805) (by decide +kernel) (by decide +kernel)
theorem kcM_failure : (Jvm.Cond.code ({ cls := "GoodsTreeModel", name := "failure", desc := "(I)I" } : Jvm.MethodName) prog_8_method_23_code (2 : Nat) (Option.some Jvm.ClassFile.FieldType.int)) ∈ xT := xT_t (i := 806) (by decide +kernel) (by decide +kernel)
theorem kmL_75 : (Jvm.Cond.methodLink "GoodsTreeLaw" (75 : Nat) ({ cls := "GoodsTreeModel", name := "edition", desc := "(I)Z" } : Jvm.MethodName)) ∈ xT := xT_t (i := 807) (by decide +kernel) (by decide +kernel)
theorem kiM_edition : (Jvm.Cond.instanceMethod ({ cls := "GoodsTreeModel", name := "edition", desc := "(I)Z" } : Jvm.MethodName)) ∈ xT := xT_t (i := 808) (by decide +kernel) (by decide +kernel)
theorem ksM_edition : (Jvm.Cond.selects "GoodsTreeModel" ({ cls := "GoodsTreeModel", name := "edition", desc := "(I)Z" } : Jvm.MethodName) ({ cls := "GoodsTreeModel", name := "edition", desc := "(I)Z" } : Jvm.MethodName)) ∈ xT := xT_t (i := 809) (by decide +kernel) (by decide +kernel)
theorem kcM_edition : (Jvm.Cond.code ({ cls := "GoodsTreeModel", name := "edition", desc := "(I)Z" } : Jvm.MethodName) prog_8_method_24_code (2 : Nat) (Option.some Jvm.ClassFile.FieldType.boolean)) ∈ xT := xT_t (i := 810) (by decide +kernel) (by decide +kernel)
theorem kmM_163 : (Jvm.Cond.methodLink "GoodsTreeModel" (163 : Nat) ({ cls := "GoodsTreeModel", name := "isEdition", desc := "(I)Z" } : Jvm.MethodName)) ∈ xT := xT_t (i := 811) (by decide +kernel) (by decide +kernel)
theorem ktM_isEdition : (Jvm.Cond.static ({ cls := "GoodsTreeModel", name := "isEdition", desc := "(I)Z" } : Jvm.MethodName)) ∈ xT := xT_t (i := 812) (by decide +kernel) (by decide +kernel)
theorem kcM_isEdition : (Jvm.Cond.code ({ cls := "GoodsTreeModel", name := "isEdition", desc := "(I)Z" } : Jvm.MethodName) prog_8_method_5_code (1 : Nat) (Option.some Jvm.ClassFile.FieldType.boolean)) ∈ xT := xT_t (i := 813) (by decide +kernel) (by decide +kernel)
theorem kmL_79 : (Jvm.Cond.methodLink "GoodsTreeLaw" (79 : Nat) ({ cls := "GoodsTreeModel", name := "row", desc := "(II)J" } : Jvm.MethodName)) ∈ xT := xT_t (i := 814) (by decide +kernel) (by decide +kernel)
theorem kiM_row : (Jvm.Cond.instanceMethod ({ cls := "GoodsTreeModel", name := "row", desc := "(II)J" } : Jvm.MethodName)) ∈ xT := xT_t (i := 815) (by decide +kernel) (by decide +kernel)
theorem ksM_row : (Jvm.Cond.selects "GoodsTreeModel" ({ cls := "GoodsTreeModel", name := "row", desc := "(II)J" } : Jvm.MethodName) ({ cls := "GoodsTreeModel", name := "row", desc := "(II)J" } : Jvm.MethodName)) ∈ xT := xT_t (i := 816) (by decide +kernel) (by decide +kernel)
theorem kcM_row : (Jvm.Cond.code ({ cls := "GoodsTreeModel", name := "row", desc := "(II)J" } : Jvm.MethodName) prog_8_method_26_code (5 : Nat) (Option.some Jvm.ClassFile.FieldType.long)) ∈ xT := xT_t (i := 817) (by decide +kernel) (by decide +kernel)
theorem kmM_166 : (Jvm.Cond.methodLink "GoodsTreeModel" (166 : Nat) ({ cls := "GoodsTreeModel", name := "below", desc := "(II)I" } : Jvm.MethodName)) ∈ xT := xT_t (i := 818) (by decide +kernel) (by decide +kernel)
theorem kiM_below : (Jvm.Cond.instanceMethod ({ cls := "GoodsTreeModel", name := "below", desc := "(II)I" } : Jvm.MethodName)) ∈ xT := xT_t (i := 820) (by decide +kernel) (by decide +kernel)
theorem kcM_below : (Jvm.Cond.code ({ cls := "GoodsTreeModel", name := "below", desc := "(II)I" } : Jvm.MethodName) prog_8_method_25_code (5 : Nat) (Option.some Jvm.ClassFile.FieldType.int)) ∈ xT := xT_t (i := 821) (by decide +kernel) (by decide +kernel)
theorem kmL_86 : (Jvm.Cond.methodLink "GoodsTreeLaw" (86 : Nat) ({ cls := "GoodsTreeModel", name := "find", desc := "(J)I" } : Jvm.MethodName)) ∈ xT := xT_t (i := 822) (by decide +kernel) (by decide +kernel)
theorem kiM_find : (Jvm.Cond.instanceMethod ({ cls := "GoodsTreeModel", name := "find", desc := "(J)I" } : Jvm.MethodName)) ∈ xT := xT_t (i := 823) (by decide +kernel) (by decide +kernel)
theorem ksM_find : (Jvm.Cond.selects "GoodsTreeModel" ({ cls := "GoodsTreeModel", name := "find", desc := "(J)I" } : Jvm.MethodName) ({ cls := "GoodsTreeModel", name := "find", desc := "(J)I" } : Jvm.MethodName)) ∈ xT := xT_t (i := 824) (by decide +kernel) (by decide +kernel)
theorem kcM_find : (Jvm.Cond.code ({ cls := "GoodsTreeModel", name := "find", desc := "(J)I" } : Jvm.MethodName) prog_8_method_28_code (3 : Nat) (Option.some Jvm.ClassFile.FieldType.int)) ∈ xT := xT_t (i := 825) (by decide +kernel) (by decide +kernel)
theorem kmM_169 : (Jvm.Cond.methodLink "GoodsTreeModel" (169 : Nat) ({ cls := "GoodsTreeModel", name := "rowOf", desc := "(IJ)I" } : Jvm.MethodName)) ∈ xT := xT_t (i := 826) (by decide +kernel) (by decide +kernel)
theorem kiM_rowOf : (Jvm.Cond.instanceMethod ({ cls := "GoodsTreeModel", name := "rowOf", desc := "(IJ)I" } : Jvm.MethodName)) ∈ xT := xT_t (i := 828) (by decide +kernel) (by decide +kernel)
theorem kcM_rowOf : (Jvm.Cond.code ({ cls := "GoodsTreeModel", name := "rowOf", desc := "(IJ)I" } : Jvm.MethodName) prog_8_method_27_code (6 : Nat) (Option.some Jvm.ClassFile.FieldType.int)) ∈ xT := xT_t (i := 829) (by decide +kernel) (by decide +kernel)
theorem kmL_90 : (Jvm.Cond.methodLink "GoodsTreeLaw" (90 : Nat) ({ cls := "GoodsTreeModel", name := "note", desc := "(JIJ)I" } : Jvm.MethodName)) ∈ xT := xT_t (i := 830) (by decide +kernel) (by decide +kernel)
theorem kiM_note : (Jvm.Cond.instanceMethod ({ cls := "GoodsTreeModel", name := "note", desc := "(JIJ)I" } : Jvm.MethodName)) ∈ xT := xT_t (i := 831) (by decide +kernel) (by decide +kernel)
theorem ksM_note : (Jvm.Cond.selects "GoodsTreeModel" ({ cls := "GoodsTreeModel", name := "note", desc := "(JIJ)I" } : Jvm.MethodName) ({ cls := "GoodsTreeModel", name := "note", desc := "(JIJ)I" } : Jvm.MethodName)) ∈ xT := xT_t (i := 832) (by decide +kernel) (by decide +kernel)
theorem kcM_note : (Jvm.Cond.code ({ cls := "GoodsTreeModel", name := "note", desc := "(JIJ)I" } : Jvm.MethodName) prog_8_method_32_code (6 : Nat) (Option.some Jvm.ClassFile.FieldType.int)) ∈ xT := xT_t (i := 833) (by decide +kernel) (by decide +kernel)
theorem kmM_177 : (Jvm.Cond.methodLink "GoodsTreeModel" (177 : Nat) ({ cls := "GoodsTreeModel", name := "hasNote", desc := "(JIJ)Z" } : Jvm.MethodName)) ∈ xT := xT_t (i := 834) (by decide +kernel) (by decide +kernel)
theorem kiM_hasNote : (Jvm.Cond.instanceMethod ({ cls := "GoodsTreeModel", name := "hasNote", desc := "(JIJ)Z" } : Jvm.MethodName)) ∈ xT := xT_t (i := 836) (by decide +kernel) (by decide +kernel)
theorem kcM_hasNote : (Jvm.Cond.code ({ cls := "GoodsTreeModel", name := "hasNote", desc := "(JIJ)Z" } : Jvm.MethodName) prog_8_method_31_code (8 : Nat) (Option.some Jvm.ClassFile.FieldType.boolean)) ∈ xT := xT_t (i := 837) (by decide +kernel) (by decide +kernel)
theorem kmM_173 : (Jvm.Cond.methodLink "GoodsTreeModel" (173 : Nat) ({ cls := "GoodsTreeModel", name := "isNote", desc := "(IJIJ)Z" } : Jvm.MethodName)) ∈ xT := xT_t (i := 838) (by decide +kernel) (by decide +kernel)
theorem kiM_isNote : (Jvm.Cond.instanceMethod ({ cls := "GoodsTreeModel", name := "isNote", desc := "(IJIJ)Z" } : Jvm.MethodName)) ∈ xT := xT_t (i := 840) (by decide +kernel) (by decide +kernel)
theorem kcM_isNote : (Jvm.Cond.code ({ cls := "GoodsTreeModel", name := "isNote", desc := "(IJIJ)Z" } : Jvm.MethodName) prog_8_method_30_code (7 : Nat) (Option.some Jvm.ClassFile.FieldType.boolean)) ∈ xT := xT_t (i := 841) (by decide +kernel) (by decide +kernel)
theorem kmM_181 : (Jvm.Cond.methodLink "GoodsTreeModel" (181 : Nat) ({ cls := "GoodsTreeModel", name := "notesOf", desc := "(I)I" } : Jvm.MethodName)) ∈ xT := xT_t (i := 842) (by decide +kernel) (by decide +kernel)
theorem kiM_notesOf : (Jvm.Cond.instanceMethod ({ cls := "GoodsTreeModel", name := "notesOf", desc := "(I)I" } : Jvm.MethodName)) ∈ xT := xT_t (i := 844) (by decide +kernel) (by decide +kernel)
theorem kcM_notesOf : (Jvm.Cond.code ({ cls := "GoodsTreeModel", name := "notesOf", desc := "(I)I" } : Jvm.MethodName) prog_8_method_29_code (4 : Nat) (Option.some Jvm.ClassFile.FieldType.int)) ∈ xT := xT_t (i := 845) (by decide +kernel) (by decide +kernel)
theorem kmL_94 : (Jvm.Cond.methodLink "GoodsTreeLaw" (94 : Nat) ({ cls := "GoodsTreeModel", name := "noted", desc := "(JI)I" } : Jvm.MethodName)) ∈ xT := xT_t (i := 846) (by decide +kernel) (by decide +kernel)
theorem kiM_noted : (Jvm.Cond.instanceMethod ({ cls := "GoodsTreeModel", name := "noted", desc := "(JI)I" } : Jvm.MethodName)) ∈ xT := xT_t (i := 847) (by decide +kernel) (by decide +kernel)
theorem ksM_noted : (Jvm.Cond.selects "GoodsTreeModel" ({ cls := "GoodsTreeModel", name := "noted", desc := "(JI)I" } : Jvm.MethodName) ({ cls := "GoodsTreeModel", name := "noted", desc := "(JI)I" } : Jvm.MethodName)) ∈ xT := xT_t (i := 848) (by decide +kernel) (by decide +kernel)
theorem kcM_noted : (Jvm.Cond.code ({ cls := "GoodsTreeModel", name := "noted", desc := "(JI)I" } : Jvm.MethodName) prog_8_method_33_code (7 : Nat) (Option.some Jvm.ClassFile.FieldType.int)) ∈ xT := xT_t (i := 849) (by decide +kernel) (by decide +kernel)
theorem kmL_99 : (Jvm.Cond.methodLink "GoodsTreeLaw" (99 : Nat) ({ cls := "GoodsTreeModel", name := "link", desc := "(IJIJ)Z" } : Jvm.MethodName)) ∈ xT := xT_t (i := 850) (by decide +kernel) (by decide +kernel)
theorem kiM_link : (Jvm.Cond.instanceMethod ({ cls := "GoodsTreeModel", name := "link", desc := "(IJIJ)Z" } : Jvm.MethodName)) ∈ xT := xT_t (i := 851) (by decide +kernel) (by decide +kernel)
theorem ksM_link : (Jvm.Cond.selects "GoodsTreeModel" ({ cls := "GoodsTreeModel", name := "link", desc := "(IJIJ)Z" } : Jvm.MethodName) ({ cls := "GoodsTreeModel", name := "link", desc := "(IJIJ)Z" } : Jvm.MethodName)) ∈ xT := xT_t (i := 852) (by decide +kernel) (by decide +kernel)
theorem kcM_link : (Jvm.Cond.code ({ cls := "GoodsTreeModel", name := "link", desc := "(IJIJ)Z" } : Jvm.MethodName) prog_8_method_35_code (8 : Nat) (Option.some Jvm.ClassFile.FieldType.boolean)) ∈ xT := xT_t (i := 853) (by decide +kernel) (by decide +kernel)
theorem kmM_184 : (Jvm.Cond.methodLink "GoodsTreeModel" (184 : Nat) ({ cls := "GoodsTreeModel", name := "isLink", desc := "(IIJI)Z" } : Jvm.MethodName)) ∈ xT := xT_t (i := 854) (by decide +kernel) (by decide +kernel)
theorem kiM_isLink : (Jvm.Cond.instanceMethod ({ cls := "GoodsTreeModel", name := "isLink", desc := "(IIJI)Z" } : Jvm.MethodName)) ∈ xT := xT_t (i := 856) (by decide +kernel) (by decide +kernel)
theorem kcM_isLink : (Jvm.Cond.code ({ cls := "GoodsTreeModel", name := "isLink", desc := "(IIJI)Z" } : Jvm.MethodName) prog_8_method_34_code (6 : Nat) (Option.some Jvm.ClassFile.FieldType.boolean)) ∈ xT := xT_t (i := 857) (by decide +kernel) (by decide +kernel)
theorem kmL_103 : (Jvm.Cond.methodLink "GoodsTreeLaw" (103 : Nat) ({ cls := "GoodsTreeModel", name := "became", desc := "(IJI)I" } : Jvm.MethodName)) ∈ xT := xT_t (i := 858) (by decide +kernel) (by decide +kernel)
theorem kiM_became : (Jvm.Cond.instanceMethod ({ cls := "GoodsTreeModel", name := "became", desc := "(IJI)I" } : Jvm.MethodName)) ∈ xT := xT_t (i := 859) (by decide +kernel) (by decide +kernel)
theorem ksM_became : (Jvm.Cond.selects "GoodsTreeModel" ({ cls := "GoodsTreeModel", name := "became", desc := "(IJI)I" } : Jvm.MethodName) ({ cls := "GoodsTreeModel", name := "became", desc := "(IJI)I" } : Jvm.MethodName)) ∈ xT := xT_t (i := 860) (by decide +kernel) (by decide +kernel)
theorem kcM_became : (Jvm.Cond.code ({ cls := "GoodsTreeModel", name := "became", desc := "(IJI)I" } : Jvm.MethodName) prog_8_method_39_code (8 : Nat) (Option.some Jvm.ClassFile.FieldType.int)) ∈ xT := xT_t (i := 861) (by decide +kernel) (by decide +kernel)
theorem kmM_188 : (Jvm.Cond.methodLink "GoodsTreeModel" (188 : Nat) ({ cls := "GoodsTreeModel", name := "isOf", desc := "(IJI)Z" } : Jvm.MethodName)) ∈ xT := xT_t (i := 862) (by decide +kernel) (by decide +kernel)
theorem kiM_isOf : (Jvm.Cond.instanceMethod ({ cls := "GoodsTreeModel", name := "isOf", desc := "(IJI)Z" } : Jvm.MethodName)) ∈ xT := xT_t (i := 864) (by decide +kernel) (by decide +kernel)
theorem kcM_isOf : (Jvm.Cond.code ({ cls := "GoodsTreeModel", name := "isOf", desc := "(IJI)Z" } : Jvm.MethodName) prog_8_method_36_code (5 : Nat) (Option.some Jvm.ClassFile.FieldType.boolean)) ∈ xT := xT_t (i := 865) (by decide +kernel) (by decide +kernel)
theorem kmM_192 : (Jvm.Cond.methodLink "GoodsTreeModel" (192 : Nat) ({ cls := "GoodsTreeModel", name := "linksOf", desc := "(IJI)I" } : Jvm.MethodName)) ∈ xT := xT_t (i := 866) (by decide +kernel) (by decide +kernel)
theorem kiM_linksOf : (Jvm.Cond.instanceMethod ({ cls := "GoodsTreeModel", name := "linksOf", desc := "(IJI)I" } : Jvm.MethodName)) ∈ xT := xT_t (i := 868) (by decide +kernel) (by decide +kernel)
theorem kcM_linksOf : (Jvm.Cond.code ({ cls := "GoodsTreeModel", name := "linksOf", desc := "(IJI)I" } : Jvm.MethodName) prog_8_method_37_code (7 : Nat) (Option.some Jvm.ClassFile.FieldType.int)) ∈ xT := xT_t (i := 869) (by decide +kernel) (by decide +kernel)
theorem kmM_196 : (Jvm.Cond.methodLink "GoodsTreeModel" (196 : Nat) ({ cls := "GoodsTreeModel", name := "linksTo", desc := "(IIJ)I" } : Jvm.MethodName)) ∈ xT := xT_t (i := 870) (by decide +kernel) (by decide +kernel)
theorem kiM_linksTo : (Jvm.Cond.instanceMethod ({ cls := "GoodsTreeModel", name := "linksTo", desc := "(IIJ)I" } : Jvm.MethodName)) ∈ xT := xT_t (i := 872) (by decide +kernel) (by decide +kernel)
theorem kcM_linksTo : (Jvm.Cond.code ({ cls := "GoodsTreeModel", name := "linksTo", desc := "(IIJ)I" } : Jvm.MethodName) prog_8_method_38_code (7 : Nat) (Option.some Jvm.ClassFile.FieldType.int)) ∈ xT := xT_t (i := 873) (by decide +kernel) (by decide +kernel)
theorem kmL_107 : (Jvm.Cond.methodLink "GoodsTreeLaw" (107 : Nat) ({ cls := "GoodsTreeModel", name := "linked", desc := "(IJII)J" } : Jvm.MethodName)) ∈ xT := xT_t (i := 874) (by decide +kernel) (by decide +kernel)
theorem kiM_linked : (Jvm.Cond.instanceMethod ({ cls := "GoodsTreeModel", name := "linked", desc := "(IJII)J" } : Jvm.MethodName)) ∈ xT := xT_t (i := 875) (by decide +kernel) (by decide +kernel)
theorem ksM_linked : (Jvm.Cond.selects "GoodsTreeModel" ({ cls := "GoodsTreeModel", name := "linked", desc := "(IJII)J" } : Jvm.MethodName) ({ cls := "GoodsTreeModel", name := "linked", desc := "(IJII)J" } : Jvm.MethodName)) ∈ xT := xT_t (i := 876) (by decide +kernel) (by decide +kernel)
theorem kcM_linked : (Jvm.Cond.code ({ cls := "GoodsTreeModel", name := "linked", desc := "(IJII)J" } : Jvm.MethodName) prog_8_method_40_code (8 : Nat) (Option.some Jvm.ClassFile.FieldType.long)) ∈ xT := xT_t (i := 877) (by decide +kernel) (by decide +kernel)
theorem kmL_110 : (Jvm.Cond.methodLink "GoodsTreeLaw" (110 : Nat) ({ cls := "GoodsTreeModel", name := "lost", desc := "(II)I" } : Jvm.MethodName)) ∈ xT := xT_t (i := 878) (by decide +kernel) (by decide +kernel)
theorem kiM_lost : (Jvm.Cond.instanceMethod ({ cls := "GoodsTreeModel", name := "lost", desc := "(II)I" } : Jvm.MethodName)) ∈ xT := xT_t (i := 879) (by decide +kernel) (by decide +kernel)
theorem ksM_lost : (Jvm.Cond.selects "GoodsTreeModel" ({ cls := "GoodsTreeModel", name := "lost", desc := "(II)I" } : Jvm.MethodName) ({ cls := "GoodsTreeModel", name := "lost", desc := "(II)I" } : Jvm.MethodName)) ∈ xT := xT_t (i := 880) (by decide +kernel) (by decide +kernel)
theorem kcM_lost : (Jvm.Cond.code ({ cls := "GoodsTreeModel", name := "lost", desc := "(II)I" } : Jvm.MethodName) prog_8_method_41_code (5 : Nat) (Option.some Jvm.ClassFile.FieldType.int)) ∈ xT := xT_t (i := 881) (by decide +kernel) (by decide +kernel)
theorem kmL_113 : (Jvm.Cond.methodLink "GoodsTreeLaw" (113 : Nat) ({ cls := "GoodsTreeModel", name := "search", desc := "()I" } : Jvm.MethodName)) ∈ xT := xT_t (i := 882) (by decide +kernel) (by decide +kernel)
theorem kiM_search : (Jvm.Cond.instanceMethod ({ cls := "GoodsTreeModel", name := "search", desc := "()I" } : Jvm.MethodName)) ∈ xT := xT_t (i := 883) (by decide +kernel) (by decide +kernel)
theorem ksM_search : (Jvm.Cond.selects "GoodsTreeModel" ({ cls := "GoodsTreeModel", name := "search", desc := "()I" } : Jvm.MethodName) ({ cls := "GoodsTreeModel", name := "search", desc := "()I" } : Jvm.MethodName)) ∈ xT := xT_t (i := 884) (by decide +kernel) (by decide +kernel)
theorem kcM_search : (Jvm.Cond.code ({ cls := "GoodsTreeModel", name := "search", desc := "()I" } : Jvm.MethodName) prog_8_method_44_code (4 : Nat) (Option.some Jvm.ClassFile.FieldType.int)) ∈ xT := xT_t (i := 885) (by decide +kernel) (by decide +kernel)
theorem kmM_207 : (Jvm.Cond.methodLink "GoodsTreeModel" (207 : Nat) ({ cls := "GoodsTreeModel", name := "pointsOf", desc := "(I)I" } : Jvm.MethodName)) ∈ xT := xT_t (i := 886) (by decide +kernel) (by decide +kernel)
theorem kiM_pointsOf : (Jvm.Cond.instanceMethod ({ cls := "GoodsTreeModel", name := "pointsOf", desc := "(I)I" } : Jvm.MethodName)) ∈ xT := xT_t (i := 888) (by decide +kernel) (by decide +kernel)
theorem kcM_pointsOf : (Jvm.Cond.code ({ cls := "GoodsTreeModel", name := "pointsOf", desc := "(I)I" } : Jvm.MethodName) prog_8_method_43_code (7 : Nat) (Option.some Jvm.ClassFile.FieldType.int)) ∈ xT := xT_t (i := 889) (by decide +kernel) (by decide +kernel)
theorem kmM_200 : (Jvm.Cond.methodLink "GoodsTreeModel" (200 : Nat) ({ cls := "GoodsTreeModel", name := "has", desc := "(IJ)Z" } : Jvm.MethodName)) ∈ xT := xT_t (i := 890) (by decide +kernel) (by decide +kernel)
theorem kiM_has : (Jvm.Cond.instanceMethod ({ cls := "GoodsTreeModel", name := "has", desc := "(IJ)Z" } : Jvm.MethodName)) ∈ xT := xT_t (i := 892) (by decide +kernel) (by decide +kernel)
theorem kcM_has : (Jvm.Cond.code ({ cls := "GoodsTreeModel", name := "has", desc := "(IJ)Z" } : Jvm.MethodName) prog_8_method_42_code (6 : Nat) (Option.some Jvm.ClassFile.FieldType.boolean)) ∈ xT := xT_t (i := 893) (by decide +kernel) (by decide +kernel)
theorem kmL_116 : (Jvm.Cond.methodLink "GoodsTreeLaw" (116 : Nat) ({ cls := "GoodsTreeModel", name := "found", desc := "(II)J" } : Jvm.MethodName)) ∈ xT := xT_t (i := 894) (by decide +kernel) (by decide +kernel)
theorem kiM_found : (Jvm.Cond.instanceMethod ({ cls := "GoodsTreeModel", name := "found", desc := "(II)J" } : Jvm.MethodName)) ∈ xT := xT_t (i := 895) (by decide +kernel) (by decide +kernel)
theorem ksM_found : (Jvm.Cond.selects "GoodsTreeModel" ({ cls := "GoodsTreeModel", name := "found", desc := "(II)J" } : Jvm.MethodName) ({ cls := "GoodsTreeModel", name := "found", desc := "(II)J" } : Jvm.MethodName)) ∈ xT := xT_t (i := 896) (by decide +kernel) (by decide +kernel)
theorem kcM_found : (Jvm.Cond.code ({ cls := "GoodsTreeModel", name := "found", desc := "(II)J" } : Jvm.MethodName) prog_8_method_45_code (3 : Nat) (Option.some Jvm.ClassFile.FieldType.long)) ∈ xT := xT_t (i := 897) (by decide +kernel) (by decide +kernel)
theorem kmL_120 : (Jvm.Cond.methodLink "GoodsTreeLaw" (120 : Nat) ({ cls := "GoodsTreeModel", name := "count", desc := "(I)I" } : Jvm.MethodName)) ∈ xT := xT_t (i := 898) (by decide +kernel) (by decide +kernel)
theorem kiM_count : (Jvm.Cond.instanceMethod ({ cls := "GoodsTreeModel", name := "count", desc := "(I)I" } : Jvm.MethodName)) ∈ xT := xT_t (i := 899) (by decide +kernel) (by decide +kernel)
theorem ksM_count : (Jvm.Cond.selects "GoodsTreeModel" ({ cls := "GoodsTreeModel", name := "count", desc := "(I)I" } : Jvm.MethodName) ({ cls := "GoodsTreeModel", name := "count", desc := "(I)I" } : Jvm.MethodName)) ∈ xT := xT_t (i := 900) (by decide +kernel) (by decide +kernel)
theorem kcM_count : (Jvm.Cond.code ({ cls := "GoodsTreeModel", name := "count", desc := "(I)I" } : Jvm.MethodName) prog_8_method_46_code (4 : Nat) (Option.some Jvm.ClassFile.FieldType.int)) ∈ xT := xT_t (i := 901) (by decide +kernel) (by decide +kernel)
theorem kjL_80 : (Jvm.Cond.constantLong "GoodsTreeLaw" (80 : Nat) (4294967295 : Int64)) ∈ xT := xT_t (i := 902) (by decide +kernel) (by decide +kernel)
theorem ksG_hasCode : (Jvm.Cond.selects "GoodsTree" ⟨"GoodsTree", "hasCode", "(IJ)Z"⟩ ⟨"GoodsTree", "hasCode", "(IJ)Z"⟩) ∈ xT := xT_p (i := 0) (by decide +kernel) (by decide +kernel)
theorem ksP_has : (Jvm.Cond.selects "GoodsTree$Pairs" ⟨"GoodsTree$Pairs", "has", "(I)Z"⟩ ⟨"GoodsTree$Pairs", "has", "(I)Z"⟩) ∈ xT := xT_p (i := 1) (by decide +kernel) (by decide +kernel)
theorem ksG_countInEdition : (Jvm.Cond.selects "GoodsTree" ⟨"GoodsTree", "countInEdition", "(I)I"⟩ ⟨"GoodsTree", "countInEdition", "(I)I"⟩) ∈ xT := xT_p (i := 2) (by decide +kernel) (by decide +kernel)
theorem ksR_start : (Jvm.Cond.selects "GoodsTree$TextReader" ⟨"GoodsTree$TextReader", "start", "()V"⟩ ⟨"GoodsTree$TextReader", "start", "()V"⟩) ∈ xT := xT_p (i := 3) (by decide +kernel) (by decide +kernel)
theorem ksR_fail : (Jvm.Cond.selects "GoodsTree$TextReader" ⟨"GoodsTree$TextReader", "fail", "(II)Z"⟩ ⟨"GoodsTree$TextReader", "fail", "(II)Z"⟩) ∈ xT := xT_p (i := 4) (by decide +kernel) (by decide +kernel)
theorem ksR_readRow : (Jvm.Cond.selects "GoodsTree$TextReader" ⟨"GoodsTree$TextReader", "readRow", "(LGoodsTree$Tree;)Z"⟩ ⟨"GoodsTree$TextReader", "readRow", "(LGoodsTree$Tree;)Z"⟩) ∈ xT := xT_p (i := 5) (by decide +kernel) (by decide +kernel)
theorem ksR_here : (Jvm.Cond.selects "GoodsTree$TextReader" ⟨"GoodsTree$TextReader", "here", "()C"⟩ ⟨"GoodsTree$TextReader", "here", "()C"⟩) ∈ xT := xT_p (i := 6) (by decide +kernel) (by decide +kernel)
theorem ksR_countDashes : (Jvm.Cond.selects "GoodsTree$TextReader" ⟨"GoodsTree$TextReader", "countDashes", "()I"⟩ ⟨"GoodsTree$TextReader", "countDashes", "()I"⟩) ∈ xT := xT_p (i := 7) (by decide +kernel) (by decide +kernel)
theorem ksR_readCodeAndWords : (Jvm.Cond.selects "GoodsTree$TextReader" ⟨"GoodsTree$TextReader", "readCodeAndWords", "(LGoodsTree$Tree;I)Z"⟩ ⟨"GoodsTree$TextReader", "readCodeAndWords", "(LGoodsTree$Tree;I)Z"⟩) ∈ xT := xT_p (i := 8) (by decide +kernel) (by decide +kernel)
theorem ksR_readCode : (Jvm.Cond.selects "GoodsTree$TextReader" ⟨"GoodsTree$TextReader", "readCode", "()J"⟩ ⟨"GoodsTree$TextReader", "readCode", "()J"⟩) ∈ xT := xT_p (i := 9) (by decide +kernel) (by decide +kernel)
theorem ksR_readWords : (Jvm.Cond.selects "GoodsTree$TextReader" ⟨"GoodsTree$TextReader", "readWords", "(I)Z"⟩ ⟨"GoodsTree$TextReader", "readWords", "(I)Z"⟩) ∈ xT := xT_p (i := 10) (by decide +kernel) (by decide +kernel)
theorem ksR_readWord : (Jvm.Cond.selects "GoodsTree$TextReader" ⟨"GoodsTree$TextReader", "readWord", "()J"⟩ ⟨"GoodsTree$TextReader", "readWord", "()J"⟩) ∈ xT := xT_p (i := 11) (by decide +kernel) (by decide +kernel)
theorem ksJT_fillInStackTrace2 : (Jvm.Cond.selects "java/lang/Throwable" ⟨"java/lang/Throwable", "fillInStackTrace", "(I)Ljava/lang/Throwable;"⟩ ⟨"java/lang/Throwable", "fillInStackTrace", "(I)Ljava/lang/Throwable;"⟩) ∈ xT := xT_p (i := 12) (by decide +kernel) (by decide +kernel)
theorem ksP_drop : (Jvm.Cond.selects "GoodsTree$Pairs" ⟨"GoodsTree$Pairs", "drop", "(I)V"⟩ ⟨"GoodsTree$Pairs", "drop", "(I)V"⟩) ∈ xT := xT_p (i := 13) (by decide +kernel) (by decide +kernel)
theorem ksG_checkCode : (Jvm.Cond.selects "GoodsTree" ⟨"GoodsTree", "checkCode", "(IJ)V"⟩ ⟨"GoodsTree", "checkCode", "(IJ)V"⟩) ∈ xT := xT_p (i := 14) (by decide +kernel) (by decide +kernel)
theorem ksG_pointsOf : (Jvm.Cond.selects "GoodsTree" ⟨"GoodsTree", "pointsOf", "(LGoodsTree$Tree;I)I"⟩ ⟨"GoodsTree", "pointsOf", "(LGoodsTree$Tree;I)I"⟩) ∈ xT := xT_p (i := 15) (by decide +kernel) (by decide +kernel)
theorem ksT_hasWord : (Jvm.Cond.selects "GoodsTree$Tree" ⟨"GoodsTree$Tree", "hasWord", "(IJ)Z"⟩ ⟨"GoodsTree$Tree", "hasWord", "(IJ)Z"⟩) ∈ xT := xT_p (i := 16) (by decide +kernel) (by decide +kernel)
theorem ksG_isLeftOut : (Jvm.Cond.selects "GoodsTree" ⟨"GoodsTree", "isLeftOut", "(LGoodsTree$Tree;I)Z"⟩ ⟨"GoodsTree", "isLeftOut", "(LGoodsTree$Tree;I)Z"⟩) ∈ xT := xT_p (i := 17) (by decide +kernel) (by decide +kernel)
theorem ksM_reads : (Jvm.Cond.selects "GoodsTreeModel" ⟨"GoodsTreeModel", "reads", "()Z"⟩ ⟨"GoodsTreeModel", "reads", "()Z"⟩) ∈ xT := xT_p (i := 18) (by decide +kernel) (by decide +kernel)
theorem ksM_readsCode : (Jvm.Cond.selects "GoodsTreeModel" ⟨"GoodsTreeModel", "readsCode", "(I)Z"⟩ ⟨"GoodsTreeModel", "readsCode", "(I)Z"⟩) ∈ xT := xT_p (i := 19) (by decide +kernel) (by decide +kernel)
theorem ksM_run : (Jvm.Cond.selects "GoodsTreeModel" ⟨"GoodsTreeModel", "run", "(II)I"⟩ ⟨"GoodsTreeModel", "run", "(II)I"⟩) ∈ xT := xT_p (i := 20) (by decide +kernel) (by decide +kernel)
theorem ksM_fails : (Jvm.Cond.selects "GoodsTreeModel" ⟨"GoodsTreeModel", "fails", "(II)Z"⟩ ⟨"GoodsTreeModel", "fails", "(II)Z"⟩) ∈ xT := xT_p (i := 21) (by decide +kernel) (by decide +kernel)
theorem ksM_codeAt : (Jvm.Cond.selects "GoodsTreeModel" ⟨"GoodsTreeModel", "codeAt", "(II)J"⟩ ⟨"GoodsTreeModel", "codeAt", "(II)J"⟩) ∈ xT := xT_p (i := 22) (by decide +kernel) (by decide +kernel)
theorem ksM_above : (Jvm.Cond.selects "GoodsTreeModel" ⟨"GoodsTreeModel", "above", "(II)I"⟩ ⟨"GoodsTreeModel", "above", "(II)I"⟩) ∈ xT := xT_p (i := 23) (by decide +kernel) (by decide +kernel)
theorem ksM_readsWords : (Jvm.Cond.selects "GoodsTreeModel" ⟨"GoodsTreeModel", "readsWords", "(III)I"⟩ ⟨"GoodsTreeModel", "readsWords", "(III)I"⟩) ∈ xT := xT_p (i := 24) (by decide +kernel) (by decide +kernel)
theorem ksM_wordAt : (Jvm.Cond.selects "GoodsTreeModel" ⟨"GoodsTreeModel", "wordAt", "(II)J"⟩ ⟨"GoodsTreeModel", "wordAt", "(II)J"⟩) ∈ xT := xT_p (i := 25) (by decide +kernel) (by decide +kernel)
theorem ksM_refuse : (Jvm.Cond.selects "GoodsTreeModel" ⟨"GoodsTreeModel", "refuse", "(I)I"⟩ ⟨"GoodsTreeModel", "refuse", "(I)I"⟩) ∈ xT := xT_p (i := 26) (by decide +kernel) (by decide +kernel)
theorem ksM_forget : (Jvm.Cond.selects "GoodsTreeModel" ⟨"GoodsTreeModel", "forget", "(I)V"⟩ ⟨"GoodsTreeModel", "forget", "(I)V"⟩) ∈ xT := xT_p (i := 27) (by decide +kernel) (by decide +kernel)
theorem ksM_below : (Jvm.Cond.selects "GoodsTreeModel" ⟨"GoodsTreeModel", "below", "(II)I"⟩ ⟨"GoodsTreeModel", "below", "(II)I"⟩) ∈ xT := xT_p (i := 28) (by decide +kernel) (by decide +kernel)
theorem ksM_rowOf : (Jvm.Cond.selects "GoodsTreeModel" ⟨"GoodsTreeModel", "rowOf", "(IJ)I"⟩ ⟨"GoodsTreeModel", "rowOf", "(IJ)I"⟩) ∈ xT := xT_p (i := 29) (by decide +kernel) (by decide +kernel)
theorem ksM_hasNote : (Jvm.Cond.selects "GoodsTreeModel" ⟨"GoodsTreeModel", "hasNote", "(JIJ)Z"⟩ ⟨"GoodsTreeModel", "hasNote", "(JIJ)Z"⟩) ∈ xT := xT_p (i := 30) (by decide +kernel) (by decide +kernel)
theorem ksM_isNote : (Jvm.Cond.selects "GoodsTreeModel" ⟨"GoodsTreeModel", "isNote", "(IJIJ)Z"⟩ ⟨"GoodsTreeModel", "isNote", "(IJIJ)Z"⟩) ∈ xT := xT_p (i := 31) (by decide +kernel) (by decide +kernel)
theorem ksM_notesOf : (Jvm.Cond.selects "GoodsTreeModel" ⟨"GoodsTreeModel", "notesOf", "(I)I"⟩ ⟨"GoodsTreeModel", "notesOf", "(I)I"⟩) ∈ xT := xT_p (i := 32) (by decide +kernel) (by decide +kernel)
theorem ksM_isLink : (Jvm.Cond.selects "GoodsTreeModel" ⟨"GoodsTreeModel", "isLink", "(IIJI)Z"⟩ ⟨"GoodsTreeModel", "isLink", "(IIJI)Z"⟩) ∈ xT := xT_p (i := 33) (by decide +kernel) (by decide +kernel)
theorem ksM_isOf : (Jvm.Cond.selects "GoodsTreeModel" ⟨"GoodsTreeModel", "isOf", "(IJI)Z"⟩ ⟨"GoodsTreeModel", "isOf", "(IJI)Z"⟩) ∈ xT := xT_p (i := 34) (by decide +kernel) (by decide +kernel)
theorem ksM_linksOf : (Jvm.Cond.selects "GoodsTreeModel" ⟨"GoodsTreeModel", "linksOf", "(IJI)I"⟩ ⟨"GoodsTreeModel", "linksOf", "(IJI)I"⟩) ∈ xT := xT_p (i := 35) (by decide +kernel) (by decide +kernel)
theorem ksM_linksTo : (Jvm.Cond.selects "GoodsTreeModel" ⟨"GoodsTreeModel", "linksTo", "(IIJ)I"⟩ ⟨"GoodsTreeModel", "linksTo", "(IIJ)I"⟩) ∈ xT := xT_p (i := 36) (by decide +kernel) (by decide +kernel)
theorem ksM_pointsOf : (Jvm.Cond.selects "GoodsTreeModel" ⟨"GoodsTreeModel", "pointsOf", "(I)I"⟩ ⟨"GoodsTreeModel", "pointsOf", "(I)I"⟩) ∈ xT := xT_p (i := 37) (by decide +kernel) (by decide +kernel)
theorem ksM_has : (Jvm.Cond.selects "GoodsTreeModel" ⟨"GoodsTreeModel", "has", "(IJ)Z"⟩ ⟨"GoodsTreeModel", "has", "(IJ)Z"⟩) ∈ xT := xT_p (i := 38) (by decide +kernel) (by decide +kernel)
theorem inC : ∀ w ∈ u_ws RC FC 0, w ∈ xT := by decide +kernel
theorem inF : ∀ w ∈ u_ws RF FF 3, w ∈ xT := by decide +kernel
theorem inP : ∀ w ∈ u_ws RP FP 5, w ∈ xT := by decide +kernel
theorem inR : ∀ w ∈ u_ws RR FR 7, w ∈ xT := by decide +kernel
theorem inT : ∀ w ∈ u_ws RT FT 8, w ∈ xT := by decide +kernel
theorem inG : ∀ w ∈ u_ws RG FG 7, w ∈ xT := by decide +kernel
theorem inM : ∀ w ∈ u_ws RM FM 27, w ∈ xT := by decide +kernel
end
section
def xw (c : Cond) : List Cond := c :: xT
theorem x_in {l : List Cond} {c0 : Cond} (h : ∀ w ∈ l, w ∈ xT) : ∀ w ∈ l, w ∈ xw c0 := fun w hw => List.mem_cons_of_mem _ (h w hw)
theorem x_m {w c0 : Cond} (h : w ∈ xT) : w ∈ xw c0 := List.mem_cons_of_mem _ h
theorem xT_good {w : Cond} (h : w ∈ xT) : (w.onTables && w.keeps) = true ∨ ∃ ty, w = .arrayClass ty := good_of_word (List.mem_filter.mp h).2
theorem x_good {c0 c1 : Cond} (h : c1 ∈ xT) : GoodIn (xw c0) (xw c1) := fun w hw => by
  rcases List.mem_cons.mp hw with rfl | hw
  · exact ⟨x_m h, xT_good h⟩
  · exact ⟨x_m hw, xT_good hw⟩
theorem x_gV {c0 c1 : Cond} {own C : String} {idx : Nat} {y : MethodName} (h1 : Cond.methodLink own idx y ∈ xT) (h2 : Cond.instanceMethod y ∈ xT) (h3 : Cond.selects C y y ∈ xT) (h4 : Cond.initialized C ∈ xT) (h5 : c1 ∈ xT) : GoodIn (xw c0) (wsV own idx C y (xw c1)) := fun w hw => by
  unfold wsV at hw
  rcases List.mem_append.mp hw with hw | hw
  · simp only [List.mem_cons, List.not_mem_nil, or_false] at hw
    rcases hw with rfl | rfl | rfl | rfl
    · exact ⟨x_m h1, xT_good h1⟩
    · exact ⟨x_m h2, xT_good h2⟩
    · exact ⟨x_m h3, xT_good h3⟩
    · exact ⟨x_m h4, xT_good h4⟩
  · exact x_good h5 w hw
/-- the answer, the cells and the world, each just one -/
def x_is (v : Option Value) (nx : Nat) (M : xH) : xO → Nat → xH → Prop := fun r n M' => r = v ∧ n = nx ∧ M' = M
theorem x_is_i (v : Option Value) (nx : Nat) (M : xH) : x_is v nx M v nx M := ⟨rfl, rfl, rfl⟩
section XOWN
variable {p : Program} {l : Launch} {e : Env} {R : Room} {s : State} {m : MethodId} {args : Array Value} {below : List Frame} {meth : Method} {c : Code} {D : va_G} {A : Nat → Prop} {nL : Nat} {Q : State → Prop} {cells slots nx : Nat} {M : xH} {pc : Nat} {lv : List (Nat × Value)} {st : List Value}
variable {cc : ByteArray} {own : String} {c0 : Cond}
theorem yV (F : xF p s m args meth c D xcl A cc nL own (xw c0)) {y : MethodName} {bytes : ByteArray} {maxL index : Nat} {ret : Option FieldType} {rm : Room} {n : Nat} {As stk : List Value} {nx' : Nat} {M' : xH} {w : Value} {C : String} {T : u_T} {N ci a : Nat} {fs : List Value} (hli : Cond.methodLink own index y ∈ xT) (him : Cond.instanceMethod y ∈ xT) (hse : Cond.selects C y y ∈ xT) (hini : Cond.initialized C ∈ xT) (hco : Cond.code y bytes maxL ret ∈ xT) (hd : y.cls = C ∧ y.cls ≠ "java/lang/invoke/MethodHandle" ∧ y.cls ≠ "java/lang/invoke/VarHandle" ∧ (parseMethodDescriptor y.desc).map (fun d => d.parameters.length) = some n) (hdg : decode cc pc = .ok (.invokevirtual index, 3)) (hM : xC l xcl y (xw (Cond.code y bytes maxL ret)) rm (.ref a :: As) nx M (x_is (some w) nx' M')) (hc : xcl[ci]? = some (C, T, N)) (he : M a = some (.inr (ci, fs))) (hn : As.length = n) (hstk : stk = As.reverse ++ .ref a :: st) (hst8 : (st.map fun v => v.category).sum ≤ 8) (hRm : rm.frames + 1 ≤ R.frames ∧ 8 + (maxL + 11) + rm.locals ≤ R.locals) (hf : cells + rm.cells ≤ R.cells ∧ slots + rm.slots ≤ R.slots) (kk : xW p l e R s m args below meth c D xcl A nL Q (cells + rm.cells) (slots + rm.slots) nx' M' (pc + 3) lv (w :: st)) : xW p l e R s m args below meth c D xcl A nL Q cells slots nx M pc lv stk :=
  x_invV F (x_gV hli him hse hini hco) rfl hd hc hdg hRm hM he hn hstk hst8 hf (fun r n' M'' hp => by obtain ⟨rfl, rfl, rfl⟩ := hp; exact kk)
theorem yS (F : xF p s m args meth c D xcl A cc nL own (xw c0)) {y : MethodName} {bytes : ByteArray} {maxL index : Nat} {ret : Option FieldType} {rm : Room} {n : Nat} {As stk : List Value} {nx' : Nat} {M' : xH} {w : Value} (hli : Cond.methodLink own index y ∈ xT) (hst : Cond.static y ∈ xT) (hini : Cond.initialized y.cls ∈ xT) (hco : Cond.code y bytes maxL ret ∈ xT) (hd : y.cls ≠ "java/lang/invoke/MethodHandle" ∧ y.cls ≠ "java/lang/invoke/VarHandle" ∧ (parseMethodDescriptor y.desc).map (fun d => d.parameters.length) = some n) (hdg : decode cc pc = .ok (.invokestatic index, 3)) (hM : xC l xcl y (xw (Cond.code y bytes maxL ret)) rm As nx M (x_is (some w) nx' M')) (hn : As.length = n) (hstk : stk = As.reverse ++ st) (hst8 : (st.map fun v => v.category).sum ≤ 8) (hRm : rm.frames + 1 ≤ R.frames ∧ 8 + (maxL + 11) + rm.locals ≤ R.locals) (hf : cells + rm.cells ≤ R.cells ∧ slots + rm.slots ≤ R.slots) (kk : xW p l e R s m args below meth c D xcl A nL Q (cells + rm.cells) (slots + rm.slots) nx' M' (pc + 3) lv (w :: st)) : xW p l e R s m args below meth c D xcl A nL Q cells slots nx M pc lv stk := by
  intro H locs ls hz hS hR hl
  subst hstk
  exact x_back F hz hS hR hl (va_runS (As := As) (rest := st) F.1 (hM D) ⟨callB_of n F.1.2.2.2.2 (x_good hco) rfl rfl rfl (F.1.2.2.2.2 _ (x_m hini)) (F.1.2.2.2.2 _ (x_m hli)) hd hRm, F.1.2.2.2.2 _ (x_m hst)⟩ ⟨x_blind, x_pre F hz hS hR⟩ rfl hn hl.1 rfl (lv_room hst8) hdg hf) (fun r n' M'' hp => by obtain ⟨rfl, rfl, rfl⟩ := hp; exact kk)
theorem yVv (F : xF p s m args meth c D xcl A cc nL own (xw c0)) {y : MethodName} {bytes : ByteArray} {maxL index : Nat} {ret : Option FieldType} {rm : Room} {n : Nat} {As stk : List Value} {nx' : Nat} {M' : xH} {C : String} {T : u_T} {N ci a : Nat} {fs : List Value} (hli : Cond.methodLink own index y ∈ xT) (him : Cond.instanceMethod y ∈ xT) (hse : Cond.selects C y y ∈ xT) (hini : Cond.initialized C ∈ xT) (hco : Cond.code y bytes maxL ret ∈ xT) (hd : y.cls = C ∧ y.cls ≠ "java/lang/invoke/MethodHandle" ∧ y.cls ≠ "java/lang/invoke/VarHandle" ∧ (parseMethodDescriptor y.desc).map (fun d => d.parameters.length) = some n) (hdg : decode cc pc = .ok (.invokevirtual index, 3)) (hM : xC l xcl y (xw (Cond.code y bytes maxL ret)) rm (.ref a :: As) nx M (x_is none nx' M')) (hc : xcl[ci]? = some (C, T, N)) (he : M a = some (.inr (ci, fs))) (hn : As.length = n) (hstk : stk = As.reverse ++ .ref a :: st) (hst8 : (st.map fun v => v.category).sum ≤ 8) (hRm : rm.frames + 1 ≤ R.frames ∧ 8 + (maxL + 11) + rm.locals ≤ R.locals) (hf : cells + rm.cells ≤ R.cells ∧ slots + rm.slots ≤ R.slots) (kk : xW p l e R s m args below meth c D xcl A nL Q (cells + rm.cells) (slots + rm.slots) nx' M' (pc + 3) lv (st)) : xW p l e R s m args below meth c D xcl A nL Q cells slots nx M pc lv stk :=
  x_invV F (x_gV hli him hse hini hco) rfl hd hc hdg hRm hM he hn hstk hst8 hf (fun r n' M'' hp => by obtain ⟨rfl, rfl, rfl⟩ := hp; exact kk)
theorem ySv (F : xF p s m args meth c D xcl A cc nL own (xw c0)) {y : MethodName} {bytes : ByteArray} {maxL index : Nat} {ret : Option FieldType} {rm : Room} {n : Nat} {As stk : List Value} {nx' : Nat} {M' : xH} (hli : Cond.methodLink own index y ∈ xT) (hst : Cond.static y ∈ xT) (hini : Cond.initialized y.cls ∈ xT) (hco : Cond.code y bytes maxL ret ∈ xT) (hd : y.cls ≠ "java/lang/invoke/MethodHandle" ∧ y.cls ≠ "java/lang/invoke/VarHandle" ∧ (parseMethodDescriptor y.desc).map (fun d => d.parameters.length) = some n) (hdg : decode cc pc = .ok (.invokestatic index, 3)) (hM : xC l xcl y (xw (Cond.code y bytes maxL ret)) rm As nx M (x_is none nx' M')) (hn : As.length = n) (hstk : stk = As.reverse ++ st) (hst8 : (st.map fun v => v.category).sum ≤ 8) (hRm : rm.frames + 1 ≤ R.frames ∧ 8 + (maxL + 11) + rm.locals ≤ R.locals) (hf : cells + rm.cells ≤ R.cells ∧ slots + rm.slots ≤ R.slots) (kk : xW p l e R s m args below meth c D xcl A nL Q (cells + rm.cells) (slots + rm.slots) nx' M' (pc + 3) lv (st)) : xW p l e R s m args below meth c D xcl A nL Q cells slots nx M pc lv stk := by
  intro H locs ls hz hS hR hl
  subst hstk
  exact x_back F hz hS hR hl (va_runS (As := As) (rest := st) F.1 (hM D) ⟨callB_of n F.1.2.2.2.2 (x_good hco) rfl rfl rfl (F.1.2.2.2.2 _ (x_m hini)) (F.1.2.2.2.2 _ (x_m hli)) hd hRm, F.1.2.2.2.2 _ (x_m hst)⟩ ⟨x_blind, x_pre F hz hS hR⟩ rfl hn hl.1 rfl (lv_room hst8) hdg hf) (fun r n' M'' hp => by obtain ⟨rfl, rfl, rfl⟩ := hp; exact kk)
theorem yI (F : xF p s m args meth c D xcl A cc nL own (xw c0)) {y : MethodName} {bytes : ByteArray} {maxL index : Nat} {rm : Room} {n : Nat} {As stk : List Value} {nx' : Nat} {M' : xH} {a : Nat} (hli : Cond.methodLink own index y ∈ xT) (him : Cond.instanceMethod y ∈ xT) (hini : Cond.initialized y.cls ∈ xT) (hco : Cond.code y bytes maxL none ∈ xT) (hy : y.name = "<init>") (hd : y.cls ≠ "java/lang/invoke/MethodHandle" ∧ y.cls ≠ "java/lang/invoke/VarHandle" ∧ (parseMethodDescriptor y.desc).map (fun d => d.parameters.length) = some n) (hdg : decode cc pc = .ok (.invokespecial index, 3)) (hM : xC l xcl y (xw (Cond.code y bytes maxL none)) rm (.ref a :: As) nx M (x_is none nx' M')) (hn : As.length = n) (hstk : stk = As.reverse ++ .ref a :: st) (hst8 : (st.map fun v => v.category).sum ≤ 8) (hRm : rm.frames + 1 ≤ R.frames ∧ 8 + (maxL + 11) + rm.locals ≤ R.locals) (hf : cells + rm.cells ≤ R.cells ∧ slots + rm.slots ≤ R.slots) (kk : xW p l e R s m args below meth c D xcl A nL Q (cells + rm.cells) (slots + rm.slots) nx' M' (pc + 3) lv st) : xW p l e R s m args below meth c D xcl A nL Q cells slots nx M pc lv stk :=
  x_invI (ret := none) F (x_good hco) rfl (x_m hini) (x_m hli) (x_m him) hy hd hdg hRm hM hn hstk hst8 hf (fun r n' M'' hp => by obtain ⟨rfl, rfl, rfl⟩ := hp; exact kk)
theorem yIN (F : xF p s m args meth c D xcl A cc nL own (xw c0)) {y : MethodName} {host : String} {bytes : ByteArray} {maxL index : Nat} {rm : Room} {n : Nat} {As stk : List Value} {nx' : Nat} {M' : xH} {a : Nat} (hne : va_Nw (.methodLinkNest own index y host) s) (him : Cond.instanceMethod y ∈ xT) (hini : Cond.initialized y.cls ∈ xT) (hco : Cond.code y bytes maxL none ∈ xT) (hy : y.name = "<init>") (hd : y.cls ≠ "java/lang/invoke/MethodHandle" ∧ y.cls ≠ "java/lang/invoke/VarHandle" ∧ (parseMethodDescriptor y.desc).map (fun d => d.parameters.length) = some n) (hdg : decode cc pc = .ok (.invokespecial index, 3)) (hM : xC l xcl y (xw (Cond.code y bytes maxL none)) rm (.ref a :: As) nx M (x_is none nx' M')) (hn : As.length = n) (hstk : stk = As.reverse ++ .ref a :: st) (hst8 : (st.map fun v => v.category).sum ≤ 8) (hRm : rm.frames + 1 ≤ R.frames ∧ 8 + (maxL + 11) + rm.locals ≤ R.locals) (hf : cells + rm.cells ≤ R.cells ∧ slots + rm.slots ≤ R.slots) (kk : xW p l e R s m args below meth c D xcl A nL Q (cells + rm.cells) (slots + rm.slots) nx' M' (pc + 3) lv st) : xW p l e R s m args below meth c D xcl A nL Q cells slots nx M pc lv stk := by
  intro H locs ls hz hS hR hl
  subst hstk
  exact x_back F hz hS hR hl (va_runIN (As := As) (rest := st) F.1 (hM D) ⟨va_cnB n F.1.2.2.2.2 (x_good hco) rfl rfl rfl hne (F.1.2.2.2.2 _ (x_m hini)) hd hRm, hy, F.1.2.2.2.2 _ (x_m him)⟩ ⟨x_blind, x_pre F hz hS hR⟩ rfl hn hl.1 rfl (lv_room hst8) hdg hf) (fun r n' M'' hp => by obtain ⟨rfl, rfl, rfl⟩ := hp; exact kk)
end XOWN
/-- a contract out of a walk, over the own table -/
theorem yC {l : Launch} {y : MethodName} {rm : Room} {As : List Value} {nx : Nat} {M : xH} {post : xO → Nat → xH → Prop} {cc : ByteArray} {maxL : Nat} {ret : Option FieldType} (hy : plainName y.cls = true) (hlen : (lg_sl As).length ≤ maxL)
    (body : ∀ (p : Program) (e : Env) (s : State) (m : MethodId) (args : Array Value) (below : List Frame) (meth : Method) (c : Code) (D : va_G), xF p s m args meth c D xcl (x_A M nx) cc maxL y.cls (xw (Cond.code y cc maxL ret)) → meth.sig.returnType = ret → meth.name = y.name →
      xW p l e rm s m args below meth c D xcl (x_A M nx) maxL (MQ below (x_Q D xcl (x_A M nx) post) args s rm.cells rm.slots (x_A M nx)) 0 0 nx M 0 (lv_args 0 As) []) : xC l xcl y (xw (Cond.code y cc maxL ret)) rm As nx M post := xC.of hy rfl hlen body
end
section
/-! WHAT A STATE IS (own words): a Tree at a: its six arrays at a + 1 .. a + 6 -/
def tAt (M : xH) (a : Nat) (cd : Nat → Int64) (ds ps ch wc : Nat → Int32) (wd : Nat → Int64) (n cp : Nat) : Prop :=
  M a = some (.inr (4, [.ref (a + 1), .ref (a + 2), .ref (a + 3), .ref (a + 4), .ref (a + 5), .ref (a + 6), .int (nI n), .int (nI cp)])) ∧ M (a + 1) = some (.inl (.long, 40, .inr (.inl cd))) ∧ M (a + 2) = some (.inl (.int, 40, .inl ds)) ∧ M (a + 3) = some (.inl (.int, 40, .inl ps)) ∧ M (a + 4) = some (.inl (.int, 40, .inl ch)) ∧ M (a + 5) = some (.inl (.int, 40, .inl wc)) ∧ M (a + 6) = some (.inl (.long, 160, .inr (.inl wd))) ∧ n ≤ 40 ∧ cp ≤ 40
/-- the first place from i on, within k, where P holds -/
def fi (P : Nat → Bool) : Nat → Nat → Option Nat
  | 0, _ => none
  | k + 1, i => if P i then some i else fi P k (i + 1)
def oi (r : Option Nat) : Int32 := match r with
  | none => -1
  | some j => nI j
theorem x_out {i : Int32} {n : Nat} (hn : n < 2 ^ 31) (h : ¬ vp_in i n) (h1 : ¬ i < 0) (h2 : ¬ nI n ≤ i) : False := by
  rcases pk_ix i hn with q | q | ⟨j, hj, rfl⟩
  · exact h1 q
  · exact h2 q
  · exact h (vp_in_nI hj hn)
def bI (b : Bool) : Int32 := match b with
  | true => nI 1
  | false => nI 0
theorem bI_0 {b : Bool} (h : bI b = 0) : b = false := by cases b <;> first | rfl | exact absurd h (by decide)
theorem bI_1 {b : Bool} (h : ¬ bI b = 0) : b = true := by cases b <;> first | rfl | exact absurd rfl h
theorem bI_nar (b : Bool) : narrow .boolean (.int (bI b)) = .int (bI b) := by cases b <;> rfl
theorem x_t {b : Bool} {nx : Nat} {M : xH} (h : b = true) : x_is (some (.int (bI b))) nx M (some (.int (nI 1))) nx M := by subst h; exact x_is_i _ _ _
theorem x_f {b : Bool} {nx : Nat} {M : xH} (h : b = false) : x_is (some (.int (bI b))) nx M (some (.int (nI 0))) nx M := by subst h; exact x_is_i _ _ _
theorem x_e {v : Int32} {w : Int32} {nx : Nat} {M : xH} (h : v = w) : x_is (some (.int w)) nx M (some (.int v)) nx M := by subst h; exact x_is_i _ _ _
theorem x_el {v : Int64} {w : Int64} {nx : Nat} {M : xH} (h : v = w) : x_is (some (.long w)) nx M (some (.long v)) nx M := by subst h; exact x_is_i _ _ _
/-- the number below k, -1 below 0 -/
def pd (k : Nat) : Int32 := match k with
  | 0 => -1
  | j + 1 => nI j
theorem pd_of (k : Nat) : nI k - nI 1 = pd k := by
  cases k with
  | zero => decide
  | succ j => exact nI_pred j
theorem pd_dec (k : Nat) : nI k + Int32.ofInt (-1) = pd k := by
  cases k with
  | zero => decide
  | succ j => exact pk_m1 j
/-- the last place below k where P holds -/
def la (P : Nat → Bool) : Nat → Option Nat
  | 0 => none
  | k + 1 => if P k then some k else la P k
theorem la_lt {P : Nat → Bool} {n i : Nat} (h : la P n = some i) : i < n ∧ P i = true := by
  induction n with
  | zero => cases h
  | succ k ih =>
    unfold la at h
    split at h
    · cases h; exact ⟨Nat.lt_succ_self _, by assumption⟩
    · exact ⟨Nat.lt_succ_of_lt (ih h).1, (ih h).2⟩
theorem fi_lt {P : Nat → Bool} {k i j : Nat} (h : fi P k i = some j) : i ≤ j ∧ j < i + k ∧ P j = true := by
  induction k generalizing i with
  | zero => cases h
  | succ k ih =>
    unfold fi at h
    split at h
    · cases h; exact ⟨Nat.le_refl _, by omega, by assumption⟩
    · obtain ⟨a, b, c⟩ := ih h; exact ⟨by omega, by omega, c⟩
theorem nI_m1 {j : Nat} (h : j < 2 ^ 31) : ¬ nI j = -1 := fun z => by
  have h1 := nI_toInt h
  rw [z] at h1
  have h2 : ((-1 : Int32)).toInt = -1 := by decide
  rw [h2] at h1
  omega
theorem fi_s (P : Nat → Bool) (k i : Nat) : fi P (k + 1) i = if P i then some i else fi P k (i + 1) := rfl
theorem la_s (P : Nat → Bool) (k : Nat) : la P (k + 1) = if P k then some k else la P k := rfl
theorem m1_out (n : Nat) : ¬ vp_in (-1) n := fun h => h (Or.inl (by decide))
theorem chr_nar {q : Nat} (h : q < 65536) : narrow .char (.int (nI q)) = .int (nI q) := (pk_charN h).1
end
section
section XREL
variable {p : Program} {l : Launch} {e : Env} {R : Room} {s : State} {m : MethodId} {args : Array Value} {below : List Frame} {meth : Method} {c : Code} {D : va_G} {A : Nat → Prop} {nL : Nat} {Q : State → Prop} {cells slots nx : Nat} {M : xH} {pc : Nat} {lv : List (Nat × Value)} {st : List Value}
variable {cc : ByteArray} {own : String} {c0 : Cond}
theorem yVr (F : xF p s m args meth c D xcl A cc nL own (xw c0)) {y : MethodName} {bytes : ByteArray} {maxL index : Nat} {ret : Option FieldType} {rm : Room} {n : Nat} {As stk : List Value} {post : xO → Nat → xH → Prop} {C : String} {T : u_T} {N ci a : Nat} {fs : List Value} (hli : Cond.methodLink own index y ∈ xT) (him : Cond.instanceMethod y ∈ xT) (hse : Cond.selects C y y ∈ xT) (hini : Cond.initialized C ∈ xT) (hco : Cond.code y bytes maxL ret ∈ xT) (hd : y.cls = C ∧ y.cls ≠ "java/lang/invoke/MethodHandle" ∧ y.cls ≠ "java/lang/invoke/VarHandle" ∧ (parseMethodDescriptor y.desc).map (fun d => d.parameters.length) = some n) (hdg : decode cc pc = .ok (.invokevirtual index, 3)) (hM : xC l xcl y (xw (Cond.code y bytes maxL ret)) rm (.ref a :: As) nx M post) (hc : xcl[ci]? = some (C, T, N)) (he : M a = some (.inr (ci, fs))) (hn : As.length = n) (hstk : stk = As.reverse ++ .ref a :: st) (hst8 : (st.map fun v => v.category).sum ≤ 8) (hRm : rm.frames + 1 ≤ R.frames ∧ 8 + (maxL + 11) + rm.locals ≤ R.locals) (hf : cells + rm.cells ≤ R.cells ∧ slots + rm.slots ≤ R.slots) (kk : ∀ (r : Option Value) (n' : Nat) (M' : xH), post r n' M' → xW p l e R s m args below meth c D xcl A nL Q (cells + rm.cells) (slots + rm.slots) n' M' (pc + 3) lv (r.toList ++ st)) : xW p l e R s m args below meth c D xcl A nL Q cells slots nx M pc lv stk :=
  x_invV F (x_gV hli him hse hini hco) rfl hd hc hdg hRm hM he hn hstk hst8 hf kk
theorem xW.lve {lv' : List (Nat × Value)} (h : lv = lv') (k : xW p l e R s m args below meth c D xcl A nL Q cells slots nx M pc lv' st) : xW p l e R s m args below meth c D xcl A nL Q cells slots nx M pc lv st := h ▸ k
theorem xW.ste {st' : List Value} (h : st = st') (k : xW p l e R s m args below meth c D xcl A nL Q cells slots nx M pc lv st') : xW p l e R s m args below meth c D xcl A nL Q cells slots nx M pc lv st := h ▸ k
end XREL
theorem o_cases (r : Option Nat) : r = none ∨ ∃ j, r = some j := by cases r with
  | none => exact Or.inl rfl
  | some j => exact Or.inr ⟨j, rfl⟩
theorem x_up_id {M : xH} {a : Nat} {e : xE} (h : M a = some e) : x_up M a e = M := by
  funext b
  by_cases hb : b = a
  · subst hb; rw [x_up_s, h]
  · rw [x_up_n hb]
section XMATH
variable {p : Program} {l : Launch} {e : Env} {R : Room} {s : State} {m : MethodId} {args : Array Value} {below : List Frame} {meth : Method} {c : Code} {D : va_G} {cl : List vw_C} {A : Nat → Prop} {nL : Nat} {Q : State → Prop} {cells slots nx : Nat} {M : xH} {pc : Nat} {lv : List (Nat × Value)} {st : List Value}
variable {cc : ByteArray} {own : String} {Ts : List Cond}
theorem x_mmax (F : xF p s m args meth c D cl A cc nL own Ts) {index : Nat} {x y : Int32} (hli : Cond.methodLink own index Lib.Math.max.name ∈ Ts) (hst : Cond.static Lib.Math.max.name ∈ Ts) (hini : Cond.initialized "java/lang/Math" ∈ Ts) (hco : Cond.code Lib.Math.max.name Lib.Math.max.code 2 (some .int) ∈ Ts) (hdg : decode cc pc = .ok (.invokestatic index, 3)) (hfr : 1 ≤ R.frames) (hlo : (st.map fun v => v.category).sum + 13 ≤ R.locals) (hc : cells ≤ R.cells) (hs : slots ≤ R.slots) (k : xW p l e R s m args below meth c D cl A nL Q cells slots nx M (pc + 3) lv (.int (if x < y then y else x) :: st)) : xW p l e R s m args below meth c D cl A nL Q cells slots nx M pc lv (.int y :: .int x :: st) :=
  fun H locs ls hz hS hR hl => va_mmax F.1.1 F.1.2.1 (by rw [F.1.2.2.1]; exact hl.1.symm) F.1.2.2.2.1 (F.1.2.2.2.2 _ hli) (F.1.2.2.2.2 _ hst) (F.1.2.2.2.2 _ hini) (F.1.2.2.2.2 _ hco) hfr hlo hc hs hdg (k H locs ls hz hS hR hl)
theorem x_mmin (F : xF p s m args meth c D cl A cc nL own Ts) {index : Nat} {x y : Int32} (hli : Cond.methodLink own index Lib.Math.min.name ∈ Ts) (hst : Cond.static Lib.Math.min.name ∈ Ts) (hini : Cond.initialized "java/lang/Math" ∈ Ts) (hco : Cond.code Lib.Math.min.name Lib.Math.min.code 2 (some .int) ∈ Ts) (hdg : decode cc pc = .ok (.invokestatic index, 3)) (hfr : 1 ≤ R.frames) (hlo : (st.map fun v => v.category).sum + 13 ≤ R.locals) (hc : cells ≤ R.cells) (hs : slots ≤ R.slots) (k : xW p l e R s m args below meth c D cl A nL Q cells slots nx M (pc + 3) lv (.int (if y < x then y else x) :: st)) : xW p l e R s m args below meth c D cl A nL Q cells slots nx M pc lv (.int y :: .int x :: st) :=
  fun H locs ls hz hS hR hl => va_mmin F.1.1 F.1.2.1 (by rw [F.1.2.2.1]; exact hl.1.symm) F.1.2.2.2.1 (F.1.2.2.2.2 _ hli) (F.1.2.2.2.2 _ hst) (F.1.2.2.2.2 _ hini) (F.1.2.2.2.2 _ hco) hfr hlo hc hs hdg (k H locs ls hz hS hR hl)
end XMATH
end
section
/-! codes: cut from the end until it is no longer greater; filled up to eleven digits; behind -/
def bw (y : Int64) : Nat → Int64 → Int64
  | 0, h => h
  | k + 1, h => if y < h then bw y k (h / 10) else h
theorem bw_s (y : Int64) (k : Nat) (h : Int64) : bw y (k + 1) h = if y < h then bw y k (h / 10) else h := rfl
def fl : Nat → Int64 → Int64
  | 0, h => h
  | k + 1, h => if h < 10000000000 then fl k (h * 10) else h
theorem fl_s (k : Nat) (h : Int64) : fl (k + 1) h = if h < 10000000000 then fl k (h * 10) else h := rfl
def cb (x y : Int64) : Bool := if fl 10 x = fl 10 y then decide (y < x) else decide (fl 10 y < fl 10 x)
theorem dC_isChapter_0 : decode bC_isChapter 0 = .ok (.lload_n 0, 1) := by decide +kernel
theorem dC_isChapter_1 : decode bC_isChapter 1 = .ok (.ldc2_w 11, 3) := by decide +kernel
theorem dC_isChapter_4 : decode bC_isChapter 4 = .ok (.lcmp, 1) := by decide +kernel
theorem dC_isChapter_5 : decode bC_isChapter 5 = .ok (.ifCond .ge 7, 3) := by decide +kernel
theorem dC_isChapter_8 : decode bC_isChapter 8 = .ok (.iconst 1, 1) := by decide +kernel
theorem dC_isChapter_9 : decode bC_isChapter 9 = .ok (.goto 4, 3) := by decide +kernel
theorem dC_isChapter_12 : decode bC_isChapter 12 = .ok (.iconst 0, 1) := by decide +kernel
theorem dC_isChapter_13 : decode bC_isChapter 13 = .ok (.ireturn, 1) := by decide +kernel
theorem dC_beginsWith_0 : decode bC_beginsWith 0 = .ok (.lload_n 0, 1) := by decide +kernel
theorem dC_beginsWith_1 : decode bC_beginsWith 1 = .ok (.lstore 4, 2) := by decide +kernel
theorem dC_beginsWith_3 : decode bC_beginsWith 3 = .ok (.iconst 0, 1) := by decide +kernel
theorem dC_beginsWith_4 : decode bC_beginsWith 4 = .ok (.istore 6, 2) := by decide +kernel
theorem dC_beginsWith_6 : decode bC_beginsWith 6 = .ok (.iload 6, 2) := by decide +kernel
theorem dC_beginsWith_8 : decode bC_beginsWith 8 = .ok (.bipush 10, 2) := by decide +kernel
theorem dC_beginsWith_10 : decode bC_beginsWith 10 = .ok (.if_icmp .ge 24, 3) := by decide +kernel
theorem dC_beginsWith_13 : decode bC_beginsWith 13 = .ok (.lload 4, 2) := by decide +kernel
theorem dC_beginsWith_15 : decode bC_beginsWith 15 = .ok (.lload_n 2, 1) := by decide +kernel
theorem dC_beginsWith_16 : decode bC_beginsWith 16 = .ok (.lcmp, 1) := by decide +kernel
theorem dC_beginsWith_17 : decode bC_beginsWith 17 = .ok (.ifCond .le 17, 3) := by decide +kernel
theorem dC_beginsWith_20 : decode bC_beginsWith 20 = .ok (.lload 4, 2) := by decide +kernel
theorem dC_beginsWith_22 : decode bC_beginsWith 22 = .ok (.ldc2_w 13, 3) := by decide +kernel
theorem dC_beginsWith_25 : decode bC_beginsWith 25 = .ok (.ldiv, 1) := by decide +kernel
theorem dC_beginsWith_26 : decode bC_beginsWith 26 = .ok (.lstore 4, 2) := by decide +kernel
theorem dC_beginsWith_28 : decode bC_beginsWith 28 = .ok (.iinc 6 1, 3) := by decide +kernel
theorem dC_beginsWith_31 : decode bC_beginsWith 31 = .ok (.goto (-25), 3) := by decide +kernel
theorem dC_beginsWith_34 : decode bC_beginsWith 34 = .ok (.lload 4, 2) := by decide +kernel
theorem dC_beginsWith_36 : decode bC_beginsWith 36 = .ok (.lload_n 2, 1) := by decide +kernel
theorem dC_beginsWith_37 : decode bC_beginsWith 37 = .ok (.lcmp, 1) := by decide +kernel
theorem dC_beginsWith_38 : decode bC_beginsWith 38 = .ok (.ifCond .ne 7, 3) := by decide +kernel
theorem dC_beginsWith_41 : decode bC_beginsWith 41 = .ok (.iconst 1, 1) := by decide +kernel
theorem dC_beginsWith_42 : decode bC_beginsWith 42 = .ok (.goto 4, 3) := by decide +kernel
theorem dC_beginsWith_45 : decode bC_beginsWith 45 = .ok (.iconst 0, 1) := by decide +kernel
theorem dC_beginsWith_46 : decode bC_beginsWith 46 = .ok (.ireturn, 1) := by decide +kernel
theorem dC_comesBehind_0 : decode bC_comesBehind 0 = .ok (.lload_n 0, 1) := by decide +kernel
theorem dC_comesBehind_1 : decode bC_comesBehind 1 = .ok (.invokestatic 15, 3) := by decide +kernel
theorem dC_comesBehind_4 : decode bC_comesBehind 4 = .ok (.lstore 4, 2) := by decide +kernel
theorem dC_comesBehind_6 : decode bC_comesBehind 6 = .ok (.lload_n 2, 1) := by decide +kernel
theorem dC_comesBehind_7 : decode bC_comesBehind 7 = .ok (.invokestatic 15, 3) := by decide +kernel
theorem dC_comesBehind_10 : decode bC_comesBehind 10 = .ok (.lstore 6, 2) := by decide +kernel
theorem dC_comesBehind_12 : decode bC_comesBehind 12 = .ok (.lload 4, 2) := by decide +kernel
theorem dC_comesBehind_14 : decode bC_comesBehind 14 = .ok (.lload 6, 2) := by decide +kernel
theorem dC_comesBehind_16 : decode bC_comesBehind 16 = .ok (.lcmp, 1) := by decide +kernel
theorem dC_comesBehind_17 : decode bC_comesBehind 17 = .ok (.ifCond .ne 17, 3) := by decide +kernel
theorem dC_comesBehind_20 : decode bC_comesBehind 20 = .ok (.lload_n 0, 1) := by decide +kernel
theorem dC_comesBehind_21 : decode bC_comesBehind 21 = .ok (.lload_n 2, 1) := by decide +kernel
theorem dC_comesBehind_22 : decode bC_comesBehind 22 = .ok (.lcmp, 1) := by decide +kernel
theorem dC_comesBehind_23 : decode bC_comesBehind 23 = .ok (.ifCond .le 7, 3) := by decide +kernel
theorem dC_comesBehind_26 : decode bC_comesBehind 26 = .ok (.iconst 1, 1) := by decide +kernel
theorem dC_comesBehind_27 : decode bC_comesBehind 27 = .ok (.goto 20, 3) := by decide +kernel
theorem dC_comesBehind_30 : decode bC_comesBehind 30 = .ok (.iconst 0, 1) := by decide +kernel
theorem dC_comesBehind_31 : decode bC_comesBehind 31 = .ok (.goto 16, 3) := by decide +kernel
theorem dC_comesBehind_34 : decode bC_comesBehind 34 = .ok (.lload 4, 2) := by decide +kernel
theorem dC_comesBehind_36 : decode bC_comesBehind 36 = .ok (.lload 6, 2) := by decide +kernel
theorem dC_comesBehind_38 : decode bC_comesBehind 38 = .ok (.lcmp, 1) := by decide +kernel
theorem dC_comesBehind_39 : decode bC_comesBehind 39 = .ok (.ifCond .le 7, 3) := by decide +kernel
theorem dC_comesBehind_42 : decode bC_comesBehind 42 = .ok (.iconst 1, 1) := by decide +kernel
theorem dC_comesBehind_43 : decode bC_comesBehind 43 = .ok (.goto 4, 3) := by decide +kernel
theorem dC_comesBehind_46 : decode bC_comesBehind 46 = .ok (.iconst 0, 1) := by decide +kernel
theorem dC_comesBehind_47 : decode bC_comesBehind 47 = .ok (.ireturn, 1) := by decide +kernel
theorem dC_fill_0 : decode bC_fill 0 = .ok (.lload_n 0, 1) := by decide +kernel
theorem dC_fill_1 : decode bC_fill 1 = .ok (.lstore_n 2, 1) := by decide +kernel
theorem dC_fill_2 : decode bC_fill 2 = .ok (.iconst 0, 1) := by decide +kernel
theorem dC_fill_3 : decode bC_fill 3 = .ok (.istore 4, 2) := by decide +kernel
theorem dC_fill_5 : decode bC_fill 5 = .ok (.iload 4, 2) := by decide +kernel
theorem dC_fill_7 : decode bC_fill 7 = .ok (.bipush 10, 2) := by decide +kernel
theorem dC_fill_9 : decode bC_fill 9 = .ok (.if_icmp .ge 23, 3) := by decide +kernel
theorem dC_fill_12 : decode bC_fill 12 = .ok (.lload_n 2, 1) := by decide +kernel
theorem dC_fill_13 : decode bC_fill 13 = .ok (.ldc2_w 19, 3) := by decide +kernel
theorem dC_fill_16 : decode bC_fill 16 = .ok (.lcmp, 1) := by decide +kernel
theorem dC_fill_17 : decode bC_fill 17 = .ok (.ifCond .ge 15, 3) := by decide +kernel
theorem dC_fill_20 : decode bC_fill 20 = .ok (.lload_n 2, 1) := by decide +kernel
theorem dC_fill_21 : decode bC_fill 21 = .ok (.ldc2_w 13, 3) := by decide +kernel
theorem dC_fill_24 : decode bC_fill 24 = .ok (.lmul, 1) := by decide +kernel
theorem dC_fill_25 : decode bC_fill 25 = .ok (.lstore_n 2, 1) := by decide +kernel
theorem dC_fill_26 : decode bC_fill 26 = .ok (.iinc 4 1, 3) := by decide +kernel
theorem dC_fill_29 : decode bC_fill 29 = .ok (.goto (-24), 3) := by decide +kernel
theorem dC_fill_32 : decode bC_fill 32 = .ok (.lload_n 2, 1) := by decide +kernel
theorem dC_fill_33 : decode bC_fill 33 = .ok (.lreturn, 1) := by decide +kernel
set_option maxHeartbeats 4000000 in
set_option maxRecDepth 100000 in
theorem cC_isChapter (l : Launch) (nx : Nat) (M : xH) (co : Int64) : xC l xcl yC_isChapter (xw (Cond.code yC_isChapter bC_isChapter 2 (some .boolean))) ({ frames := 0, cells := 0, slots := 0, locals := 0 } : Room) [.long (co)] nx M (x_is (some (.int (bI (decide (co < 200))))) nx M) := by
  refine yC (by decide) (Nat.le_of_ble_eq_true rfl) ?_
  intro p e s m args below meth c D F hr hn
  refine x_lload_n F 0 dC_isChapter_0 rfl rfl ?_
  refine x_ldc2 F (x_m kjC_11) dC_isChapter_1 ?_
  refine x_lcmp F dC_isChapter_4 ?_
  refine x_if_ge F (tgt := 12) dC_isChapter_5 (by decide) (fun c1 => ?_) (fun c1 => ?_)
  · skip
    have c1 : 200 ≤ co := (lg_cmp_ge (co) (200)).mp c1
    refine x_iconst F (v := nI (0)) dC_isChapter_12 (by decide) ?_
    exact x_zret F hr (by rfl) dC_isChapter_13 (x_f (by have := c1; simp at this ⊢; exact this))
  · skip
    have c1 : ¬ 200 ≤ co := fun z => c1 ((lg_cmp_ge (co) (200)).mpr z)
    refine x_iconst F (v := nI (1)) dC_isChapter_8 (by decide) ?_
    refine x_goto F (tgt := 13) dC_isChapter_9 (by decide) ?_
    exact x_zret F hr (by rfl) dC_isChapter_13 (x_t (by have := c1; simp at this ⊢; exact this))
set_option maxHeartbeats 4000000 in
set_option maxRecDepth 100000 in
theorem cC_beginsWith (l : Launch) (nx : Nat) (M : xH) (x y : Int64) : xC l xcl yC_beginsWith (xw (Cond.code yC_beginsWith bC_beginsWith 7 (some .boolean))) ({ frames := 0, cells := 0, slots := 0, locals := 0 } : Room) [.long (x), .long (y)] nx M (x_is (some (.int (bI (decide (bw y 10 x = y))))) nx M) := by
  refine yC (by decide) (Nat.le_of_ble_eq_true rfl) ?_
  intro p e s m args below meth c D F hr hn
  have loop : ∀ (k : Nat) (i : Nat) (h : Int64), i + k = 10 → bw y 10 x = bw y k h → xW p l e ({ frames := 0, cells := 0, slots := 0, locals := 0 } : Room) s m args below meth c D xcl (x_A M nx) 7 (MQ below (x_Q D xcl (x_A M nx) (x_is (some (.int (bI (decide (bw y 10 x = y))))) nx M)) args s 0 0 (x_A M nx)) 0 0 (nx) M 6 [(6, .int (nI (i))), (4, .long (h)), (0, .long (x)), (2, .long (y))] [] := by
    intro k
    induction k with
    | zero =>
      intro i h hi hf
      refine x_iload F 0 dC_beginsWith_6 rfl ?_
      refine x_bipush F (v := nI (10)) dC_beginsWith_8 (by decide) ?_
      refine x_icmp_ge F (tgt := 34) dC_beginsWith_10 (by decide) (fun c1 => ?_) (fun c1 => ?_)
      · skip
        have c1 : 10 ≤ i := by
          exact (nI_leI (a := 10) (b := i) (by omega) (by omega)).mp c1
        have hf2 : bw y 10 x = h := hf
        refine x_lload F 1 dC_beginsWith_34 rfl ?_
        refine x_lload_n F 3 dC_beginsWith_36 rfl rfl ?_
        refine x_lcmp F dC_beginsWith_37 ?_
        refine x_if_ne F (tgt := 45) dC_beginsWith_38 (by decide) (fun c2 => ?_) (fun c2 => ?_)
        · skip
          have c2 : ¬ h = y := fun z => c2 ((lg_cmp_eq (h) (y)).mpr z)
          refine x_iconst F (v := nI (0)) dC_beginsWith_45 (by decide) ?_
          exact x_zret F hr (by rfl) dC_beginsWith_46 (x_f (by rw [hf2]; simpa using c2))
        · skip
          have c2 : h = y := (lg_cmp_eq (h) (y)).mp c2
          refine x_iconst F (v := nI (1)) dC_beginsWith_41 (by decide) ?_
          refine x_goto F (tgt := 46) dC_beginsWith_42 (by decide) ?_
          exact x_zret F hr (by rfl) dC_beginsWith_46 (x_t (by rw [hf2]; simpa using c2))
      · skip
        have c1 : i < 10 := by
          have z : ¬ (10 ≤ i) := fun q => c1 ((nI_leI (a := 10) (b := i) (by omega) (by omega)).mpr q)
          omega
        exact absurd c1 (by omega)
    | succ k ih =>
      intro i h hi hf
      refine x_iload F 0 dC_beginsWith_6 rfl ?_
      refine x_bipush F (v := nI (10)) dC_beginsWith_8 (by decide) ?_
      refine x_icmp_ge F (tgt := 34) dC_beginsWith_10 (by decide) (fun c3 => ?_) (fun c3 => ?_)
      · skip
        have c3 : 10 ≤ i := by
          exact (nI_leI (a := 10) (b := i) (by omega) (by omega)).mp c3
        exact absurd c3 (by omega)
      · skip
        have c3 : i < 10 := by
          have z : ¬ (10 ≤ i) := fun q => c3 ((nI_leI (a := 10) (b := i) (by omega) (by omega)).mpr q)
          omega
        refine x_lload F 1 dC_beginsWith_13 rfl ?_
        refine x_lload_n F 3 dC_beginsWith_15 rfl rfl ?_
        refine x_lcmp F dC_beginsWith_16 ?_
        refine x_if_le F (tgt := 34) dC_beginsWith_17 (by decide) (fun c4 => ?_) (fun c4 => ?_)
        · skip
          have c4 : h ≤ y := (lg_cmp_le (h) (y)).mp c4
          have hf2 : bw y 10 x = h := by rw [hf, bw_s, if_neg (Int64.not_lt.mpr c4)]
          refine x_lload F 1 dC_beginsWith_34 rfl ?_
          refine x_lload_n F 3 dC_beginsWith_36 rfl rfl ?_
          refine x_lcmp F dC_beginsWith_37 ?_
          refine x_if_ne F (tgt := 45) dC_beginsWith_38 (by decide) (fun c5 => ?_) (fun c5 => ?_)
          · skip
            have c5 : ¬ h = y := fun z => c5 ((lg_cmp_eq (h) (y)).mpr z)
            refine x_iconst F (v := nI (0)) dC_beginsWith_45 (by decide) ?_
            exact x_zret F hr (by rfl) dC_beginsWith_46 (x_f (by rw [hf2]; simpa using c5))
          · skip
            have c5 : h = y := (lg_cmp_eq (h) (y)).mp c5
            refine x_iconst F (v := nI (1)) dC_beginsWith_41 (by decide) ?_
            refine x_goto F (tgt := 46) dC_beginsWith_42 (by decide) ?_
            exact x_zret F hr (by rfl) dC_beginsWith_46 (x_t (by rw [hf2]; simpa using c5))
        · skip
          have c4 : ¬ h ≤ y := fun z => c4 ((lg_cmp_le (h) (y)).mpr z)
          refine x_lload F 1 dC_beginsWith_20 rfl ?_
          refine x_ldc2 F (x_m kjC_13) dC_beginsWith_22 ?_
          refine x_ldiv F dC_beginsWith_25 (by decide) ?_
          refine x_lstore F [(4, .long ((h) / (10))), (6, .int (nI (i))), (0, .long (x)), (2, .long (y))] dC_beginsWith_26 (by decide) rfl ?_
          refine x_iinc F 1 [(6, .int (nI (i + 1))), (4, .long ((h) / (10))), (0, .long (x)), (2, .long (y))] dC_beginsWith_28 rfl (nI_add (i) 1) (by decide) rfl ?_
          refine x_goto F (tgt := 6) dC_beginsWith_31 (by decide) ?_
          exact ih (i + 1) _ (by omega) (by rw [hf, bw_s, if_pos (Int64.not_le.mp c4)])
  refine x_lload_n F 0 dC_beginsWith_0 rfl rfl ?_
  refine x_lstore F [(4, .long (x)), (0, .long (x)), (2, .long (y))] dC_beginsWith_1 (by decide) rfl ?_
  refine x_iconst F (v := nI (0)) dC_beginsWith_3 (by decide) ?_
  refine x_istore F [(6, .int (nI (0))), (4, .long (x)), (0, .long (x)), (2, .long (y))] dC_beginsWith_4 (by decide) rfl ?_
  exact loop 10 0 _ rfl rfl
set_option maxHeartbeats 4000000 in
set_option maxRecDepth 100000 in
theorem cC_fill (l : Launch) (nx : Nat) (M : xH) (x : Int64) : xC l xcl yC_fill (xw (Cond.code yC_fill bC_fill 5 (some .long))) ({ frames := 0, cells := 0, slots := 0, locals := 0 } : Room) [.long (x)] nx M (x_is (some (.long (fl 10 x))) nx M) := by
  refine yC (by decide) (Nat.le_of_ble_eq_true rfl) ?_
  intro p e s m args below meth c D F hr hn
  have loop : ∀ (k : Nat) (i : Nat) (h : Int64), i + k = 10 → fl 10 x = fl k h → xW p l e ({ frames := 0, cells := 0, slots := 0, locals := 0 } : Room) s m args below meth c D xcl (x_A M nx) 5 (MQ below (x_Q D xcl (x_A M nx) (x_is (some (.long (fl 10 x))) nx M)) args s 0 0 (x_A M nx)) 0 0 (nx) M 5 [(4, .int (nI (i))), (2, .long (h)), (0, .long (x))] [] := by
    intro k
    induction k with
    | zero =>
      intro i h hi hf
      refine x_iload F 0 dC_fill_5 rfl ?_
      refine x_bipush F (v := nI (10)) dC_fill_7 (by decide) ?_
      refine x_icmp_ge F (tgt := 32) dC_fill_9 (by decide) (fun c1 => ?_) (fun c1 => ?_)
      · skip
        have c1 : 10 ≤ i := by
          exact (nI_leI (a := 10) (b := i) (by omega) (by omega)).mp c1
        refine x_lload_n F 1 dC_fill_32 rfl rfl ?_
        exact x_lret F hr dC_fill_33 (x_el hf.symm)
      · skip
        have c1 : i < 10 := by
          have z : ¬ (10 ≤ i) := fun q => c1 ((nI_leI (a := 10) (b := i) (by omega) (by omega)).mpr q)
          omega
        exact absurd c1 (by omega)
    | succ k ih =>
      intro i h hi hf
      refine x_iload F 0 dC_fill_5 rfl ?_
      refine x_bipush F (v := nI (10)) dC_fill_7 (by decide) ?_
      refine x_icmp_ge F (tgt := 32) dC_fill_9 (by decide) (fun c2 => ?_) (fun c2 => ?_)
      · skip
        have c2 : 10 ≤ i := by
          exact (nI_leI (a := 10) (b := i) (by omega) (by omega)).mp c2
        exact absurd c2 (by omega)
      · skip
        have c2 : i < 10 := by
          have z : ¬ (10 ≤ i) := fun q => c2 ((nI_leI (a := 10) (b := i) (by omega) (by omega)).mpr q)
          omega
        refine x_lload_n F 1 dC_fill_12 rfl rfl ?_
        refine x_ldc2 F (x_m kjC_19) dC_fill_13 ?_
        refine x_lcmp F dC_fill_16 ?_
        refine x_if_ge F (tgt := 32) dC_fill_17 (by decide) (fun c3 => ?_) (fun c3 => ?_)
        · skip
          have c3 : 10000000000 ≤ h := (lg_cmp_ge (h) (10000000000)).mp c3
          refine x_lload_n F 1 dC_fill_32 rfl rfl ?_
          exact x_lret F hr dC_fill_33 (x_el (by rw [hf, fl_s, if_neg (Int64.not_lt.mpr c3)]))
        · skip
          have c3 : ¬ 10000000000 ≤ h := fun z => c3 ((lg_cmp_ge (h) (10000000000)).mpr z)
          refine x_lload_n F 1 dC_fill_20 rfl rfl ?_
          refine x_ldc2 F (x_m kjC_13) dC_fill_21 ?_
          refine x_lmul F dC_fill_24 ?_
          refine x_lstore_n F [(2, .long ((h) * (10))), (4, .int (nI (i))), (0, .long (x))] dC_fill_25 rfl (by decide) rfl ?_
          refine x_iinc F 1 [(4, .int (nI (i + 1))), (2, .long ((h) * (10))), (0, .long (x))] dC_fill_26 rfl (nI_add (i) 1) (by decide) rfl ?_
          refine x_goto F (tgt := 5) dC_fill_29 (by decide) ?_
          exact ih (i + 1) _ (by omega) (by rw [hf, fl_s, if_pos (Int64.not_le.mp c3)])
  refine x_lload_n F 0 dC_fill_0 rfl rfl ?_
  refine x_lstore_n F [(2, .long (x)), (0, .long (x))] dC_fill_1 rfl (by decide) rfl ?_
  refine x_iconst F (v := nI (0)) dC_fill_2 (by decide) ?_
  refine x_istore F [(4, .int (nI (0))), (2, .long (x)), (0, .long (x))] dC_fill_3 (by decide) rfl ?_
  exact loop 10 0 _ rfl rfl
set_option maxHeartbeats 4000000 in
set_option maxRecDepth 100000 in
theorem cC_comesBehind (l : Launch) (nx : Nat) (M : xH) (x y : Int64) : xC l xcl yC_comesBehind (xw (Cond.code yC_comesBehind bC_comesBehind 8 (some .boolean))) ({ frames := 1, cells := 0, slots := 0, locals := 24 } : Room) [.long (x), .long (y)] nx M (x_is (some (.int (bI (cb x y)))) nx M) := by
  refine yC (by decide) (Nat.le_of_ble_eq_true rfl) ?_
  intro p e s m args below meth c D F hr hn
  refine x_lload_n F 0 dC_comesBehind_0 rfl rfl ?_
  refine yS (n := 1) (As := [.long (x)]) F kmC_15 ktC_fill knC kcC_fill (by decide +kernel) dC_comesBehind_1 (cC_fill l (nx) M (x)) rfl rfl (Nat.le_of_ble_eq_true rfl) ⟨Nat.le_of_ble_eq_true rfl, Nat.le_of_ble_eq_true rfl⟩ ⟨Nat.le_of_ble_eq_true rfl, Nat.le_of_ble_eq_true rfl⟩ ?_
  refine x_lstore F [(4, .long (fl 10 (x))), (0, .long (x)), (2, .long (y))] dC_comesBehind_4 (by decide) rfl ?_
  refine x_lload_n F 2 dC_comesBehind_6 rfl rfl ?_
  refine yS (n := 1) (As := [.long (y)]) F kmC_15 ktC_fill knC kcC_fill (by decide +kernel) dC_comesBehind_7 (cC_fill l (nx) M (y)) rfl rfl (Nat.le_of_ble_eq_true rfl) ⟨Nat.le_of_ble_eq_true rfl, Nat.le_of_ble_eq_true rfl⟩ ⟨Nat.le_of_ble_eq_true rfl, Nat.le_of_ble_eq_true rfl⟩ ?_
  refine x_lstore F [(6, .long (fl 10 (y))), (4, .long (fl 10 (x))), (0, .long (x)), (2, .long (y))] dC_comesBehind_10 (by decide) rfl ?_
  refine x_lload F 1 dC_comesBehind_12 rfl ?_
  refine x_lload F 0 dC_comesBehind_14 rfl ?_
  refine x_lcmp F dC_comesBehind_16 ?_
  refine x_if_ne F (tgt := 34) dC_comesBehind_17 (by decide) (fun c1 => ?_) (fun c1 => ?_)
  · skip
    have c1 : ¬ fl 10 (x) = fl 10 (y) := fun z => c1 ((lg_cmp_eq (fl 10 (x)) (fl 10 (y))).mpr z)
    refine x_lload F 1 dC_comesBehind_34 rfl ?_
    refine x_lload F 0 dC_comesBehind_36 rfl ?_
    refine x_lcmp F dC_comesBehind_38 ?_
    refine x_if_le F (tgt := 46) dC_comesBehind_39 (by decide) (fun c2 => ?_) (fun c2 => ?_)
    · skip
      have c2 : fl 10 (x) ≤ fl 10 (y) := (lg_cmp_le (fl 10 (x)) (fl 10 (y))).mp c2
      refine x_iconst F (v := nI (0)) dC_comesBehind_46 (by decide) ?_
      exact x_zret F hr (by rfl) dC_comesBehind_47 (x_f (by simp_all [cb]))
    · skip
      have c2 : ¬ fl 10 (x) ≤ fl 10 (y) := fun z => c2 ((lg_cmp_le (fl 10 (x)) (fl 10 (y))).mpr z)
      refine x_iconst F (v := nI (1)) dC_comesBehind_42 (by decide) ?_
      refine x_goto F (tgt := 47) dC_comesBehind_43 (by decide) ?_
      exact x_zret F hr (by rfl) dC_comesBehind_47 (x_t (by simp_all [cb]))
  · skip
    have c1 : fl 10 (x) = fl 10 (y) := (lg_cmp_eq (fl 10 (x)) (fl 10 (y))).mp c1
    refine x_lload_n F 2 dC_comesBehind_20 rfl rfl ?_
    refine x_lload_n F 3 dC_comesBehind_21 rfl rfl ?_
    refine x_lcmp F dC_comesBehind_22 ?_
    refine x_if_le F (tgt := 30) dC_comesBehind_23 (by decide) (fun c3 => ?_) (fun c3 => ?_)
    · skip
      have c3 : x ≤ y := (lg_cmp_le (x) (y)).mp c3
      refine x_iconst F (v := nI (0)) dC_comesBehind_30 (by decide) ?_
      refine x_goto F (tgt := 47) dC_comesBehind_31 (by decide) ?_
      exact x_zret F hr (by rfl) dC_comesBehind_47 (x_f (by simp_all [cb]))
    · skip
      have c3 : ¬ x ≤ y := fun z => c3 ((lg_cmp_le (x) (y)).mpr z)
      refine x_iconst F (v := nI (1)) dC_comesBehind_26 (by decide) ?_
      refine x_goto F (tgt := 47) dC_comesBehind_27 (by decide) ?_
      exact x_zret F hr (by rfl) dC_comesBehind_47 (x_t (by simp_all [cb]))
end
section
theorem dT_init_0 : decode bT_init 0 = .ok (.aload_n 0, 1) := by decide +kernel
theorem dT_init_1 : decode bT_init 1 = .ok (.invokespecial 3, 3) := by decide +kernel
theorem dT_init_4 : decode bT_init 4 = .ok (.aload_n 0, 1) := by decide +kernel
theorem dT_init_5 : decode bT_init 5 = .ok (.bipush 40, 2) := by decide +kernel
theorem dT_init_7 : decode bT_init 7 = .ok (.newarray .long, 2) := by decide +kernel
theorem dT_init_9 : decode bT_init 9 = .ok (.putfield 9, 3) := by decide +kernel
theorem dT_init_12 : decode bT_init 12 = .ok (.aload_n 0, 1) := by decide +kernel
theorem dT_init_13 : decode bT_init 13 = .ok (.bipush 40, 2) := by decide +kernel
theorem dT_init_15 : decode bT_init 15 = .ok (.newarray .int, 2) := by decide +kernel
theorem dT_init_17 : decode bT_init 17 = .ok (.putfield 15, 3) := by decide +kernel
theorem dT_init_20 : decode bT_init 20 = .ok (.aload_n 0, 1) := by decide +kernel
theorem dT_init_21 : decode bT_init 21 = .ok (.bipush 40, 2) := by decide +kernel
theorem dT_init_23 : decode bT_init 23 = .ok (.newarray .int, 2) := by decide +kernel
theorem dT_init_25 : decode bT_init 25 = .ok (.putfield 19, 3) := by decide +kernel
theorem dT_init_28 : decode bT_init 28 = .ok (.aload_n 0, 1) := by decide +kernel
theorem dT_init_29 : decode bT_init 29 = .ok (.bipush 40, 2) := by decide +kernel
theorem dT_init_31 : decode bT_init 31 = .ok (.newarray .int, 2) := by decide +kernel
theorem dT_init_33 : decode bT_init 33 = .ok (.putfield 22, 3) := by decide +kernel
theorem dT_init_36 : decode bT_init 36 = .ok (.aload_n 0, 1) := by decide +kernel
theorem dT_init_37 : decode bT_init 37 = .ok (.bipush 40, 2) := by decide +kernel
theorem dT_init_39 : decode bT_init 39 = .ok (.newarray .int, 2) := by decide +kernel
theorem dT_init_41 : decode bT_init 41 = .ok (.putfield 25, 3) := by decide +kernel
theorem dT_init_44 : decode bT_init 44 = .ok (.aload_n 0, 1) := by decide +kernel
theorem dT_init_45 : decode bT_init 45 = .ok (.sipush 160, 3) := by decide +kernel
theorem dT_init_48 : decode bT_init 48 = .ok (.newarray .long, 2) := by decide +kernel
theorem dT_init_50 : decode bT_init 50 = .ok (.putfield 28, 3) := by decide +kernel
theorem dT_init_53 : decode bT_init 53 = .ok (.aload_n 0, 1) := by decide +kernel
theorem dT_init_54 : decode bT_init 54 = .ok (.iconst 0, 1) := by decide +kernel
theorem dT_init_55 : decode bT_init 55 = .ok (.putfield 31, 3) := by decide +kernel
theorem dT_init_58 : decode bT_init 58 = .ok (.aload_n 0, 1) := by decide +kernel
theorem dT_init_59 : decode bT_init 59 = .ok (.iconst 0, 1) := by decide +kernel
theorem dT_init_60 : decode bT_init 60 = .ok (.putfield 35, 3) := by decide +kernel
theorem dT_init_63 : decode bT_init 63 = .ok (.return_, 1) := by decide +kernel
theorem dT_clear_0 : decode bT_clear 0 = .ok (.aload_n 0, 1) := by decide +kernel
theorem dT_clear_1 : decode bT_clear 1 = .ok (.iconst 0, 1) := by decide +kernel
theorem dT_clear_2 : decode bT_clear 2 = .ok (.putfield 31, 3) := by decide +kernel
theorem dT_clear_5 : decode bT_clear 5 = .ok (.aload_n 0, 1) := by decide +kernel
theorem dT_clear_6 : decode bT_clear 6 = .ok (.iconst 0, 1) := by decide +kernel
theorem dT_clear_7 : decode bT_clear 7 = .ok (.putfield 35, 3) := by decide +kernel
theorem dT_clear_10 : decode bT_clear 10 = .ok (.return_, 1) := by decide +kernel
theorem dT_size_0 : decode bT_size 0 = .ok (.aload_n 0, 1) := by decide +kernel
theorem dT_size_1 : decode bT_size 1 = .ok (.getfield 31, 3) := by decide +kernel
theorem dT_size_4 : decode bT_size 4 = .ok (.ireturn, 1) := by decide +kernel
theorem dT_chapters_0 : decode bT_chapters 0 = .ok (.aload_n 0, 1) := by decide +kernel
theorem dT_chapters_1 : decode bT_chapters 1 = .ok (.getfield 35, 3) := by decide +kernel
theorem dT_chapters_4 : decode bT_chapters 4 = .ok (.ireturn, 1) := by decide +kernel
theorem dT_isFull_0 : decode bT_isFull 0 = .ok (.aload_n 0, 1) := by decide +kernel
theorem dT_isFull_1 : decode bT_isFull 1 = .ok (.getfield 31, 3) := by decide +kernel
theorem dT_isFull_4 : decode bT_isFull 4 = .ok (.bipush 40, 2) := by decide +kernel
theorem dT_isFull_6 : decode bT_isFull 6 = .ok (.if_icmp .lt 7, 3) := by decide +kernel
theorem dT_isFull_9 : decode bT_isFull 9 = .ok (.iconst 1, 1) := by decide +kernel
theorem dT_isFull_10 : decode bT_isFull 10 = .ok (.goto 4, 3) := by decide +kernel
theorem dT_isFull_13 : decode bT_isFull 13 = .ok (.iconst 0, 1) := by decide +kernel
theorem dT_isFull_14 : decode bT_isFull 14 = .ok (.ireturn, 1) := by decide +kernel
theorem dT_has_0 : decode bT_has 0 = .ok (.iload_n 1, 1) := by decide +kernel
theorem dT_has_1 : decode bT_has 1 = .ok (.ifCond .lt 21, 3) := by decide +kernel
theorem dT_has_4 : decode bT_has 4 = .ok (.iload_n 1, 1) := by decide +kernel
theorem dT_has_5 : decode bT_has 5 = .ok (.aload_n 0, 1) := by decide +kernel
theorem dT_has_6 : decode bT_has 6 = .ok (.getfield 31, 3) := by decide +kernel
theorem dT_has_9 : decode bT_has 9 = .ok (.if_icmp .ge 13, 3) := by decide +kernel
theorem dT_has_12 : decode bT_has 12 = .ok (.iload_n 1, 1) := by decide +kernel
theorem dT_has_13 : decode bT_has 13 = .ok (.bipush 40, 2) := by decide +kernel
theorem dT_has_15 : decode bT_has 15 = .ok (.if_icmp .ge 7, 3) := by decide +kernel
theorem dT_has_18 : decode bT_has 18 = .ok (.iconst 1, 1) := by decide +kernel
theorem dT_has_19 : decode bT_has 19 = .ok (.goto 4, 3) := by decide +kernel
theorem dT_has_22 : decode bT_has 22 = .ok (.iconst 0, 1) := by decide +kernel
theorem dT_has_23 : decode bT_has 23 = .ok (.ireturn, 1) := by decide +kernel
theorem dT_codeOf_0 : decode bT_codeOf 0 = .ok (.aload_n 0, 1) := by decide +kernel
theorem dT_codeOf_1 : decode bT_codeOf 1 = .ok (.iload_n 1, 1) := by decide +kernel
theorem dT_codeOf_2 : decode bT_codeOf 2 = .ok (.invokevirtual 38, 3) := by decide +kernel
theorem dT_codeOf_5 : decode bT_codeOf 5 = .ok (.ifCond .eq 12, 3) := by decide +kernel
theorem dT_codeOf_8 : decode bT_codeOf 8 = .ok (.aload_n 0, 1) := by decide +kernel
theorem dT_codeOf_9 : decode bT_codeOf 9 = .ok (.getfield 9, 3) := by decide +kernel
theorem dT_codeOf_12 : decode bT_codeOf 12 = .ok (.iload_n 1, 1) := by decide +kernel
theorem dT_codeOf_13 : decode bT_codeOf 13 = .ok (.laload, 1) := by decide +kernel
theorem dT_codeOf_14 : decode bT_codeOf 14 = .ok (.goto 4, 3) := by decide +kernel
theorem dT_codeOf_17 : decode bT_codeOf 17 = .ok (.lconst 0, 1) := by decide +kernel
theorem dT_codeOf_18 : decode bT_codeOf 18 = .ok (.lreturn, 1) := by decide +kernel
theorem dT_dashesOf_0 : decode bT_dashesOf 0 = .ok (.aload_n 0, 1) := by decide +kernel
theorem dT_dashesOf_1 : decode bT_dashesOf 1 = .ok (.iload_n 1, 1) := by decide +kernel
theorem dT_dashesOf_2 : decode bT_dashesOf 2 = .ok (.invokevirtual 38, 3) := by decide +kernel
theorem dT_dashesOf_5 : decode bT_dashesOf 5 = .ok (.ifCond .eq 12, 3) := by decide +kernel
theorem dT_dashesOf_8 : decode bT_dashesOf 8 = .ok (.aload_n 0, 1) := by decide +kernel
theorem dT_dashesOf_9 : decode bT_dashesOf 9 = .ok (.getfield 15, 3) := by decide +kernel
theorem dT_dashesOf_12 : decode bT_dashesOf 12 = .ok (.iload_n 1, 1) := by decide +kernel
theorem dT_dashesOf_13 : decode bT_dashesOf 13 = .ok (.iaload, 1) := by decide +kernel
theorem dT_dashesOf_14 : decode bT_dashesOf 14 = .ok (.goto 4, 3) := by decide +kernel
theorem dT_dashesOf_17 : decode bT_dashesOf 17 = .ok (.iconst (-1), 1) := by decide +kernel
theorem dT_dashesOf_18 : decode bT_dashesOf 18 = .ok (.ireturn, 1) := by decide +kernel
theorem dT_parentOf_0 : decode bT_parentOf 0 = .ok (.aload_n 0, 1) := by decide +kernel
theorem dT_parentOf_1 : decode bT_parentOf 1 = .ok (.iload_n 1, 1) := by decide +kernel
theorem dT_parentOf_2 : decode bT_parentOf 2 = .ok (.invokevirtual 38, 3) := by decide +kernel
theorem dT_parentOf_5 : decode bT_parentOf 5 = .ok (.ifCond .eq 12, 3) := by decide +kernel
theorem dT_parentOf_8 : decode bT_parentOf 8 = .ok (.aload_n 0, 1) := by decide +kernel
theorem dT_parentOf_9 : decode bT_parentOf 9 = .ok (.getfield 19, 3) := by decide +kernel
theorem dT_parentOf_12 : decode bT_parentOf 12 = .ok (.iload_n 1, 1) := by decide +kernel
theorem dT_parentOf_13 : decode bT_parentOf 13 = .ok (.iaload, 1) := by decide +kernel
theorem dT_parentOf_14 : decode bT_parentOf 14 = .ok (.goto 4, 3) := by decide +kernel
theorem dT_parentOf_17 : decode bT_parentOf 17 = .ok (.iconst (-1), 1) := by decide +kernel
theorem dT_parentOf_18 : decode bT_parentOf 18 = .ok (.ireturn, 1) := by decide +kernel
theorem dT_childrenOf_0 : decode bT_childrenOf 0 = .ok (.aload_n 0, 1) := by decide +kernel
theorem dT_childrenOf_1 : decode bT_childrenOf 1 = .ok (.iload_n 1, 1) := by decide +kernel
theorem dT_childrenOf_2 : decode bT_childrenOf 2 = .ok (.invokevirtual 38, 3) := by decide +kernel
theorem dT_childrenOf_5 : decode bT_childrenOf 5 = .ok (.ifCond .eq 12, 3) := by decide +kernel
theorem dT_childrenOf_8 : decode bT_childrenOf 8 = .ok (.aload_n 0, 1) := by decide +kernel
theorem dT_childrenOf_9 : decode bT_childrenOf 9 = .ok (.getfield 22, 3) := by decide +kernel
theorem dT_childrenOf_12 : decode bT_childrenOf 12 = .ok (.iload_n 1, 1) := by decide +kernel
theorem dT_childrenOf_13 : decode bT_childrenOf 13 = .ok (.iaload, 1) := by decide +kernel
theorem dT_childrenOf_14 : decode bT_childrenOf 14 = .ok (.goto 4, 3) := by decide +kernel
theorem dT_childrenOf_17 : decode bT_childrenOf 17 = .ok (.iconst 0, 1) := by decide +kernel
theorem dT_childrenOf_18 : decode bT_childrenOf 18 = .ok (.ireturn, 1) := by decide +kernel
theorem dT_wordsOf_0 : decode bT_wordsOf 0 = .ok (.aload_n 0, 1) := by decide +kernel
theorem dT_wordsOf_1 : decode bT_wordsOf 1 = .ok (.iload_n 1, 1) := by decide +kernel
theorem dT_wordsOf_2 : decode bT_wordsOf 2 = .ok (.invokevirtual 38, 3) := by decide +kernel
theorem dT_wordsOf_5 : decode bT_wordsOf 5 = .ok (.ifCond .eq 12, 3) := by decide +kernel
theorem dT_wordsOf_8 : decode bT_wordsOf 8 = .ok (.aload_n 0, 1) := by decide +kernel
theorem dT_wordsOf_9 : decode bT_wordsOf 9 = .ok (.getfield 25, 3) := by decide +kernel
theorem dT_wordsOf_12 : decode bT_wordsOf 12 = .ok (.iload_n 1, 1) := by decide +kernel
theorem dT_wordsOf_13 : decode bT_wordsOf 13 = .ok (.iaload, 1) := by decide +kernel
theorem dT_wordsOf_14 : decode bT_wordsOf 14 = .ok (.goto 4, 3) := by decide +kernel
theorem dT_wordsOf_17 : decode bT_wordsOf 17 = .ok (.iconst 0, 1) := by decide +kernel
theorem dT_wordsOf_18 : decode bT_wordsOf 18 = .ok (.ireturn, 1) := by decide +kernel
theorem dT_rowOf_0 : decode bT_rowOf 0 = .ok (.iconst 0, 1) := by decide +kernel
theorem dT_rowOf_1 : decode bT_rowOf 1 = .ok (.istore_n 3, 1) := by decide +kernel
theorem dT_rowOf_2 : decode bT_rowOf 2 = .ok (.iload_n 3, 1) := by decide +kernel
theorem dT_rowOf_3 : decode bT_rowOf 3 = .ok (.aload_n 0, 1) := by decide +kernel
theorem dT_rowOf_4 : decode bT_rowOf 4 = .ok (.getfield 31, 3) := by decide +kernel
theorem dT_rowOf_7 : decode bT_rowOf 7 = .ok (.if_icmp .ge 22, 3) := by decide +kernel
theorem dT_rowOf_10 : decode bT_rowOf 10 = .ok (.aload_n 0, 1) := by decide +kernel
theorem dT_rowOf_11 : decode bT_rowOf 11 = .ok (.getfield 9, 3) := by decide +kernel
theorem dT_rowOf_14 : decode bT_rowOf 14 = .ok (.iload_n 3, 1) := by decide +kernel
theorem dT_rowOf_15 : decode bT_rowOf 15 = .ok (.laload, 1) := by decide +kernel
theorem dT_rowOf_16 : decode bT_rowOf 16 = .ok (.lload_n 1, 1) := by decide +kernel
theorem dT_rowOf_17 : decode bT_rowOf 17 = .ok (.lcmp, 1) := by decide +kernel
theorem dT_rowOf_18 : decode bT_rowOf 18 = .ok (.ifCond .ne 5, 3) := by decide +kernel
theorem dT_rowOf_21 : decode bT_rowOf 21 = .ok (.iload_n 3, 1) := by decide +kernel
theorem dT_rowOf_22 : decode bT_rowOf 22 = .ok (.ireturn, 1) := by decide +kernel
theorem dT_rowOf_23 : decode bT_rowOf 23 = .ok (.iinc 3 1, 3) := by decide +kernel
theorem dT_rowOf_26 : decode bT_rowOf 26 = .ok (.goto (-24), 3) := by decide +kernel
theorem dT_rowOf_29 : decode bT_rowOf 29 = .ok (.iconst (-1), 1) := by decide +kernel
theorem dT_rowOf_30 : decode bT_rowOf 30 = .ok (.ireturn, 1) := by decide +kernel
theorem dT_mostDashes_0 : decode bT_mostDashes 0 = .ok (.aload_n 0, 1) := by decide +kernel
theorem dT_mostDashes_1 : decode bT_mostDashes 1 = .ok (.aload_n 0, 1) := by decide +kernel
theorem dT_mostDashes_2 : decode bT_mostDashes 2 = .ok (.getfield 31, 3) := by decide +kernel
theorem dT_mostDashes_5 : decode bT_mostDashes 5 = .ok (.iconst 1, 1) := by decide +kernel
theorem dT_mostDashes_6 : decode bT_mostDashes 6 = .ok (.isub, 1) := by decide +kernel
theorem dT_mostDashes_7 : decode bT_mostDashes 7 = .ok (.invokevirtual 42, 3) := by decide +kernel
theorem dT_mostDashes_10 : decode bT_mostDashes 10 = .ok (.iconst 1, 1) := by decide +kernel
theorem dT_mostDashes_11 : decode bT_mostDashes 11 = .ok (.iadd, 1) := by decide +kernel
theorem dT_mostDashes_12 : decode bT_mostDashes 12 = .ok (.ireturn, 1) := by decide +kernel
theorem dT_parentFor_0 : decode bT_parentFor 0 = .ok (.aload_n 0, 1) := by decide +kernel
theorem dT_parentFor_1 : decode bT_parentFor 1 = .ok (.getfield 31, 3) := by decide +kernel
theorem dT_parentFor_4 : decode bT_parentFor 4 = .ok (.iconst 1, 1) := by decide +kernel
theorem dT_parentFor_5 : decode bT_parentFor 5 = .ok (.isub, 1) := by decide +kernel
theorem dT_parentFor_6 : decode bT_parentFor 6 = .ok (.istore_n 2, 1) := by decide +kernel
theorem dT_parentFor_7 : decode bT_parentFor 7 = .ok (.iload_n 2, 1) := by decide +kernel
theorem dT_parentFor_8 : decode bT_parentFor 8 = .ok (.ifCond .lt 23, 3) := by decide +kernel
theorem dT_parentFor_11 : decode bT_parentFor 11 = .ok (.aload_n 0, 1) := by decide +kernel
theorem dT_parentFor_12 : decode bT_parentFor 12 = .ok (.getfield 15, 3) := by decide +kernel
theorem dT_parentFor_15 : decode bT_parentFor 15 = .ok (.iload_n 2, 1) := by decide +kernel
theorem dT_parentFor_16 : decode bT_parentFor 16 = .ok (.iaload, 1) := by decide +kernel
theorem dT_parentFor_17 : decode bT_parentFor 17 = .ok (.iload_n 1, 1) := by decide +kernel
theorem dT_parentFor_18 : decode bT_parentFor 18 = .ok (.iconst 1, 1) := by decide +kernel
theorem dT_parentFor_19 : decode bT_parentFor 19 = .ok (.isub, 1) := by decide +kernel
theorem dT_parentFor_20 : decode bT_parentFor 20 = .ok (.if_icmp .ne 5, 3) := by decide +kernel
theorem dT_parentFor_23 : decode bT_parentFor 23 = .ok (.iload_n 2, 1) := by decide +kernel
theorem dT_parentFor_24 : decode bT_parentFor 24 = .ok (.ireturn, 1) := by decide +kernel
theorem dT_parentFor_25 : decode bT_parentFor 25 = .ok (.iinc 2 (-1), 3) := by decide +kernel
theorem dT_parentFor_28 : decode bT_parentFor 28 = .ok (.goto (-21), 3) := by decide +kernel
theorem dT_parentFor_31 : decode bT_parentFor 31 = .ok (.iconst (-1), 1) := by decide +kernel
theorem dT_parentFor_32 : decode bT_parentFor 32 = .ok (.ireturn, 1) := by decide +kernel
theorem dT_fitsBelow_0 : decode bT_fitsBelow 0 = .ok (.aload_n 0, 1) := by decide +kernel
theorem dT_fitsBelow_1 : decode bT_fitsBelow 1 = .ok (.iload_n 1, 1) := by decide +kernel
theorem dT_fitsBelow_2 : decode bT_fitsBelow 2 = .ok (.invokevirtual 38, 3) := by decide +kernel
theorem dT_fitsBelow_5 : decode bT_fitsBelow 5 = .ok (.ifCond .ne 8, 3) := by decide +kernel
theorem dT_fitsBelow_8 : decode bT_fitsBelow 8 = .ok (.lload_n 2, 1) := by decide +kernel
theorem dT_fitsBelow_9 : decode bT_fitsBelow 9 = .ok (.invokestatic 46, 3) := by decide +kernel
theorem dT_fitsBelow_12 : decode bT_fitsBelow 12 = .ok (.ireturn, 1) := by decide +kernel
theorem dT_fitsBelow_13 : decode bT_fitsBelow 13 = .ok (.lload_n 2, 1) := by decide +kernel
theorem dT_fitsBelow_14 : decode bT_fitsBelow 14 = .ok (.aload_n 0, 1) := by decide +kernel
theorem dT_fitsBelow_15 : decode bT_fitsBelow 15 = .ok (.getfield 9, 3) := by decide +kernel
theorem dT_fitsBelow_18 : decode bT_fitsBelow 18 = .ok (.iload_n 1, 1) := by decide +kernel
theorem dT_fitsBelow_19 : decode bT_fitsBelow 19 = .ok (.laload, 1) := by decide +kernel
theorem dT_fitsBelow_20 : decode bT_fitsBelow 20 = .ok (.lcmp, 1) := by decide +kernel
theorem dT_fitsBelow_21 : decode bT_fitsBelow 21 = .ok (.ifCond .eq 20, 3) := by decide +kernel
theorem dT_fitsBelow_24 : decode bT_fitsBelow 24 = .ok (.lload_n 2, 1) := by decide +kernel
theorem dT_fitsBelow_25 : decode bT_fitsBelow 25 = .ok (.aload_n 0, 1) := by decide +kernel
theorem dT_fitsBelow_26 : decode bT_fitsBelow 26 = .ok (.getfield 9, 3) := by decide +kernel
theorem dT_fitsBelow_29 : decode bT_fitsBelow 29 = .ok (.iload_n 1, 1) := by decide +kernel
theorem dT_fitsBelow_30 : decode bT_fitsBelow 30 = .ok (.laload, 1) := by decide +kernel
theorem dT_fitsBelow_31 : decode bT_fitsBelow 31 = .ok (.invokestatic 52, 3) := by decide +kernel
theorem dT_fitsBelow_34 : decode bT_fitsBelow 34 = .ok (.ifCond .eq 7, 3) := by decide +kernel
theorem dT_fitsBelow_37 : decode bT_fitsBelow 37 = .ok (.iconst 1, 1) := by decide +kernel
theorem dT_fitsBelow_38 : decode bT_fitsBelow 38 = .ok (.goto 4, 3) := by decide +kernel
theorem dT_fitsBelow_41 : decode bT_fitsBelow 41 = .ok (.iconst 0, 1) := by decide +kernel
theorem dT_fitsBelow_42 : decode bT_fitsBelow 42 = .ok (.ireturn, 1) := by decide +kernel
theorem dT_comesBehindLast_0 : decode bT_comesBehindLast 0 = .ok (.aload_n 0, 1) := by decide +kernel
theorem dT_comesBehindLast_1 : decode bT_comesBehindLast 1 = .ok (.getfield 31, 3) := by decide +kernel
theorem dT_comesBehindLast_4 : decode bT_comesBehindLast 4 = .ok (.ifCond .eq 20, 3) := by decide +kernel
theorem dT_comesBehindLast_7 : decode bT_comesBehindLast 7 = .ok (.lload_n 1, 1) := by decide +kernel
theorem dT_comesBehindLast_8 : decode bT_comesBehindLast 8 = .ok (.aload_n 0, 1) := by decide +kernel
theorem dT_comesBehindLast_9 : decode bT_comesBehindLast 9 = .ok (.aload_n 0, 1) := by decide +kernel
theorem dT_comesBehindLast_10 : decode bT_comesBehindLast 10 = .ok (.getfield 31, 3) := by decide +kernel
theorem dT_comesBehindLast_13 : decode bT_comesBehindLast 13 = .ok (.iconst 1, 1) := by decide +kernel
theorem dT_comesBehindLast_14 : decode bT_comesBehindLast 14 = .ok (.isub, 1) := by decide +kernel
theorem dT_comesBehindLast_15 : decode bT_comesBehindLast 15 = .ok (.invokevirtual 56, 3) := by decide +kernel
theorem dT_comesBehindLast_18 : decode bT_comesBehindLast 18 = .ok (.invokestatic 60, 3) := by decide +kernel
theorem dT_comesBehindLast_21 : decode bT_comesBehindLast 21 = .ok (.ifCond .eq 7, 3) := by decide +kernel
theorem dT_comesBehindLast_24 : decode bT_comesBehindLast 24 = .ok (.iconst 1, 1) := by decide +kernel
theorem dT_comesBehindLast_25 : decode bT_comesBehindLast 25 = .ok (.goto 4, 3) := by decide +kernel
theorem dT_comesBehindLast_28 : decode bT_comesBehindLast 28 = .ok (.iconst 0, 1) := by decide +kernel
theorem dT_comesBehindLast_29 : decode bT_comesBehindLast 29 = .ok (.ireturn, 1) := by decide +kernel
theorem dT_add_0 : decode bT_add 0 = .ok (.aload_n 0, 1) := by decide +kernel
theorem dT_add_1 : decode bT_add 1 = .ok (.invokevirtual 63, 3) := by decide +kernel
theorem dT_add_4 : decode bT_add 4 = .ok (.ifCond .eq 4, 3) := by decide +kernel
theorem dT_add_7 : decode bT_add 7 = .ok (.return_, 1) := by decide +kernel
theorem dT_add_8 : decode bT_add 8 = .ok (.aload_n 0, 1) := by decide +kernel
theorem dT_add_9 : decode bT_add 9 = .ok (.iload_n 3, 1) := by decide +kernel
theorem dT_add_10 : decode bT_add 10 = .ok (.invokevirtual 67, 3) := by decide +kernel
theorem dT_add_13 : decode bT_add 13 = .ok (.istore 5, 2) := by decide +kernel
theorem dT_add_15 : decode bT_add 15 = .ok (.aload_n 0, 1) := by decide +kernel
theorem dT_add_16 : decode bT_add 16 = .ok (.getfield 9, 3) := by decide +kernel
theorem dT_add_19 : decode bT_add 19 = .ok (.aload_n 0, 1) := by decide +kernel
theorem dT_add_20 : decode bT_add 20 = .ok (.getfield 31, 3) := by decide +kernel
theorem dT_add_23 : decode bT_add 23 = .ok (.lload_n 1, 1) := by decide +kernel
theorem dT_add_24 : decode bT_add 24 = .ok (.lastore, 1) := by decide +kernel
theorem dT_add_25 : decode bT_add 25 = .ok (.aload_n 0, 1) := by decide +kernel
theorem dT_add_26 : decode bT_add 26 = .ok (.getfield 15, 3) := by decide +kernel
theorem dT_add_29 : decode bT_add 29 = .ok (.aload_n 0, 1) := by decide +kernel
theorem dT_add_30 : decode bT_add 30 = .ok (.getfield 31, 3) := by decide +kernel
theorem dT_add_33 : decode bT_add 33 = .ok (.iload_n 3, 1) := by decide +kernel
theorem dT_add_34 : decode bT_add 34 = .ok (.iastore, 1) := by decide +kernel
theorem dT_add_35 : decode bT_add 35 = .ok (.aload_n 0, 1) := by decide +kernel
theorem dT_add_36 : decode bT_add 36 = .ok (.getfield 19, 3) := by decide +kernel
theorem dT_add_39 : decode bT_add 39 = .ok (.aload_n 0, 1) := by decide +kernel
theorem dT_add_40 : decode bT_add 40 = .ok (.getfield 31, 3) := by decide +kernel
theorem dT_add_43 : decode bT_add 43 = .ok (.iload 5, 2) := by decide +kernel
theorem dT_add_45 : decode bT_add 45 = .ok (.iastore, 1) := by decide +kernel
theorem dT_add_46 : decode bT_add 46 = .ok (.aload_n 0, 1) := by decide +kernel
theorem dT_add_47 : decode bT_add 47 = .ok (.getfield 22, 3) := by decide +kernel
theorem dT_add_50 : decode bT_add 50 = .ok (.aload_n 0, 1) := by decide +kernel
theorem dT_add_51 : decode bT_add 51 = .ok (.getfield 31, 3) := by decide +kernel
theorem dT_add_54 : decode bT_add 54 = .ok (.iconst 0, 1) := by decide +kernel
theorem dT_add_55 : decode bT_add 55 = .ok (.iastore, 1) := by decide +kernel
theorem dT_add_56 : decode bT_add 56 = .ok (.aload_n 0, 1) := by decide +kernel
theorem dT_add_57 : decode bT_add 57 = .ok (.getfield 25, 3) := by decide +kernel
theorem dT_add_60 : decode bT_add 60 = .ok (.aload_n 0, 1) := by decide +kernel
theorem dT_add_61 : decode bT_add 61 = .ok (.getfield 31, 3) := by decide +kernel
theorem dT_add_64 : decode bT_add 64 = .ok (.aload 4, 2) := by decide +kernel
theorem dT_add_66 : decode bT_add 66 = .ok (.invokevirtual 70, 3) := by decide +kernel
theorem dT_add_69 : decode bT_add 69 = .ok (.iconst 4, 1) := by decide +kernel
theorem dT_add_70 : decode bT_add 70 = .ok (.invokestatic 76, 3) := by decide +kernel
theorem dT_add_73 : decode bT_add 73 = .ok (.iastore, 1) := by decide +kernel
theorem dT_add_74 : decode bT_add 74 = .ok (.iconst 0, 1) := by decide +kernel
theorem dT_add_75 : decode bT_add 75 = .ok (.istore 6, 2) := by decide +kernel
theorem dT_add_77 : decode bT_add 77 = .ok (.iload 6, 2) := by decide +kernel
theorem dT_add_79 : decode bT_add 79 = .ok (.aload_n 0, 1) := by decide +kernel
theorem dT_add_80 : decode bT_add 80 = .ok (.getfield 25, 3) := by decide +kernel
theorem dT_add_83 : decode bT_add 83 = .ok (.aload_n 0, 1) := by decide +kernel
theorem dT_add_84 : decode bT_add 84 = .ok (.getfield 31, 3) := by decide +kernel
theorem dT_add_87 : decode bT_add 87 = .ok (.iaload, 1) := by decide +kernel
theorem dT_add_88 : decode bT_add 88 = .ok (.if_icmp .ge 30, 3) := by decide +kernel
theorem dT_add_91 : decode bT_add 91 = .ok (.aload_n 0, 1) := by decide +kernel
theorem dT_add_92 : decode bT_add 92 = .ok (.getfield 28, 3) := by decide +kernel
theorem dT_add_95 : decode bT_add 95 = .ok (.aload_n 0, 1) := by decide +kernel
theorem dT_add_96 : decode bT_add 96 = .ok (.getfield 31, 3) := by decide +kernel
theorem dT_add_99 : decode bT_add 99 = .ok (.iconst 4, 1) := by decide +kernel
theorem dT_add_100 : decode bT_add 100 = .ok (.imul, 1) := by decide +kernel
theorem dT_add_101 : decode bT_add 101 = .ok (.iload 6, 2) := by decide +kernel
theorem dT_add_103 : decode bT_add 103 = .ok (.iadd, 1) := by decide +kernel
theorem dT_add_104 : decode bT_add 104 = .ok (.aload 4, 2) := by decide +kernel
theorem dT_add_106 : decode bT_add 106 = .ok (.iload 6, 2) := by decide +kernel
theorem dT_add_108 : decode bT_add 108 = .ok (.invokevirtual 82, 3) := by decide +kernel
theorem dT_add_111 : decode bT_add 111 = .ok (.lastore, 1) := by decide +kernel
theorem dT_add_112 : decode bT_add 112 = .ok (.iinc 6 1, 3) := by decide +kernel
theorem dT_add_115 : decode bT_add 115 = .ok (.goto (-38), 3) := by decide +kernel
theorem dT_add_118 : decode bT_add 118 = .ok (.aload_n 0, 1) := by decide +kernel
theorem dT_add_119 : decode bT_add 119 = .ok (.iload 5, 2) := by decide +kernel
theorem dT_add_121 : decode bT_add 121 = .ok (.invokevirtual 38, 3) := by decide +kernel
theorem dT_add_124 : decode bT_add 124 = .ok (.ifCond .eq 17, 3) := by decide +kernel
theorem dT_add_127 : decode bT_add 127 = .ok (.aload_n 0, 1) := by decide +kernel
theorem dT_add_128 : decode bT_add 128 = .ok (.getfield 22, 3) := by decide +kernel
theorem dT_add_131 : decode bT_add 131 = .ok (.iload 5, 2) := by decide +kernel
theorem dT_add_133 : decode bT_add 133 = .ok (.dup2, 1) := by decide +kernel
theorem dT_add_134 : decode bT_add 134 = .ok (.iaload, 1) := by decide +kernel
theorem dT_add_135 : decode bT_add 135 = .ok (.iconst 1, 1) := by decide +kernel
theorem dT_add_136 : decode bT_add 136 = .ok (.iadd, 1) := by decide +kernel
theorem dT_add_137 : decode bT_add 137 = .ok (.iastore, 1) := by decide +kernel
theorem dT_add_138 : decode bT_add 138 = .ok (.goto 13, 3) := by decide +kernel
theorem dT_add_141 : decode bT_add 141 = .ok (.aload_n 0, 1) := by decide +kernel
theorem dT_add_142 : decode bT_add 142 = .ok (.dup, 1) := by decide +kernel
theorem dT_add_143 : decode bT_add 143 = .ok (.getfield 35, 3) := by decide +kernel
theorem dT_add_146 : decode bT_add 146 = .ok (.iconst 1, 1) := by decide +kernel
theorem dT_add_147 : decode bT_add 147 = .ok (.iadd, 1) := by decide +kernel
theorem dT_add_148 : decode bT_add 148 = .ok (.putfield 35, 3) := by decide +kernel
theorem dT_add_151 : decode bT_add 151 = .ok (.aload_n 0, 1) := by decide +kernel
theorem dT_add_152 : decode bT_add 152 = .ok (.dup, 1) := by decide +kernel
theorem dT_add_153 : decode bT_add 153 = .ok (.getfield 31, 3) := by decide +kernel
theorem dT_add_156 : decode bT_add 156 = .ok (.iconst 1, 1) := by decide +kernel
theorem dT_add_157 : decode bT_add 157 = .ok (.iadd, 1) := by decide +kernel
theorem dT_add_158 : decode bT_add 158 = .ok (.putfield 31, 3) := by decide +kernel
theorem dT_add_161 : decode bT_add 161 = .ok (.return_, 1) := by decide +kernel
theorem dT_pointsFor_0 : decode bT_pointsFor 0 = .ok (.aload_n 0, 1) := by decide +kernel
theorem dT_pointsFor_1 : decode bT_pointsFor 1 = .ok (.iload_n 1, 1) := by decide +kernel
theorem dT_pointsFor_2 : decode bT_pointsFor 2 = .ok (.lload_n 2, 1) := by decide +kernel
theorem dT_pointsFor_3 : decode bT_pointsFor 3 = .ok (.invokevirtual 85, 3) := by decide +kernel
theorem dT_pointsFor_6 : decode bT_pointsFor 6 = .ok (.ifCond .eq 5, 3) := by decide +kernel
theorem dT_pointsFor_9 : decode bT_pointsFor 9 = .ok (.iconst 4, 1) := by decide +kernel
theorem dT_pointsFor_10 : decode bT_pointsFor 10 = .ok (.ireturn, 1) := by decide +kernel
theorem dT_pointsFor_11 : decode bT_pointsFor 11 = .ok (.aload_n 0, 1) := by decide +kernel
theorem dT_pointsFor_12 : decode bT_pointsFor 12 = .ok (.iload_n 1, 1) := by decide +kernel
theorem dT_pointsFor_13 : decode bT_pointsFor 13 = .ok (.invokevirtual 89, 3) := by decide +kernel
theorem dT_pointsFor_16 : decode bT_pointsFor 16 = .ok (.istore 4, 2) := by decide +kernel
theorem dT_pointsFor_18 : decode bT_pointsFor 18 = .ok (.iconst 0, 1) := by decide +kernel
theorem dT_pointsFor_19 : decode bT_pointsFor 19 = .ok (.istore 5, 2) := by decide +kernel
theorem dT_pointsFor_21 : decode bT_pointsFor 21 = .ok (.iload 5, 2) := by decide +kernel
theorem dT_pointsFor_23 : decode bT_pointsFor 23 = .ok (.iconst 4, 1) := by decide +kernel
theorem dT_pointsFor_24 : decode bT_pointsFor 24 = .ok (.if_icmp .ge 35, 3) := by decide +kernel
theorem dT_pointsFor_27 : decode bT_pointsFor 27 = .ok (.iload 4, 2) := by decide +kernel
theorem dT_pointsFor_29 : decode bT_pointsFor 29 = .ok (.iconst (-1), 1) := by decide +kernel
theorem dT_pointsFor_30 : decode bT_pointsFor 30 = .ok (.if_icmp .eq 29, 3) := by decide +kernel
theorem dT_pointsFor_33 : decode bT_pointsFor 33 = .ok (.aload_n 0, 1) := by decide +kernel
theorem dT_pointsFor_34 : decode bT_pointsFor 34 = .ok (.iload 4, 2) := by decide +kernel
theorem dT_pointsFor_36 : decode bT_pointsFor 36 = .ok (.lload_n 2, 1) := by decide +kernel
theorem dT_pointsFor_37 : decode bT_pointsFor 37 = .ok (.invokevirtual 85, 3) := by decide +kernel
theorem dT_pointsFor_40 : decode bT_pointsFor 40 = .ok (.ifCond .eq 5, 3) := by decide +kernel
theorem dT_pointsFor_43 : decode bT_pointsFor 43 = .ok (.iconst 2, 1) := by decide +kernel
theorem dT_pointsFor_44 : decode bT_pointsFor 44 = .ok (.ireturn, 1) := by decide +kernel
theorem dT_pointsFor_45 : decode bT_pointsFor 45 = .ok (.aload_n 0, 1) := by decide +kernel
theorem dT_pointsFor_46 : decode bT_pointsFor 46 = .ok (.iload 4, 2) := by decide +kernel
theorem dT_pointsFor_48 : decode bT_pointsFor 48 = .ok (.invokevirtual 89, 3) := by decide +kernel
theorem dT_pointsFor_51 : decode bT_pointsFor 51 = .ok (.istore 4, 2) := by decide +kernel
theorem dT_pointsFor_53 : decode bT_pointsFor 53 = .ok (.iinc 5 1, 3) := by decide +kernel
theorem dT_pointsFor_56 : decode bT_pointsFor 56 = .ok (.goto (-35), 3) := by decide +kernel
theorem dT_pointsFor_59 : decode bT_pointsFor 59 = .ok (.iconst 0, 1) := by decide +kernel
theorem dT_pointsFor_60 : decode bT_pointsFor 60 = .ok (.ireturn, 1) := by decide +kernel
theorem dT_hasWord_0 : decode bT_hasWord 0 = .ok (.iconst 0, 1) := by decide +kernel
theorem dT_hasWord_1 : decode bT_hasWord 1 = .ok (.istore 4, 2) := by decide +kernel
theorem dT_hasWord_3 : decode bT_hasWord 3 = .ok (.iload 4, 2) := by decide +kernel
theorem dT_hasWord_5 : decode bT_hasWord 5 = .ok (.aload_n 0, 1) := by decide +kernel
theorem dT_hasWord_6 : decode bT_hasWord 6 = .ok (.iload_n 1, 1) := by decide +kernel
theorem dT_hasWord_7 : decode bT_hasWord 7 = .ok (.invokevirtual 92, 3) := by decide +kernel
theorem dT_hasWord_10 : decode bT_hasWord 10 = .ok (.if_icmp .ge 27, 3) := by decide +kernel
theorem dT_hasWord_13 : decode bT_hasWord 13 = .ok (.aload_n 0, 1) := by decide +kernel
theorem dT_hasWord_14 : decode bT_hasWord 14 = .ok (.getfield 28, 3) := by decide +kernel
theorem dT_hasWord_17 : decode bT_hasWord 17 = .ok (.iload_n 1, 1) := by decide +kernel
theorem dT_hasWord_18 : decode bT_hasWord 18 = .ok (.iconst 4, 1) := by decide +kernel
theorem dT_hasWord_19 : decode bT_hasWord 19 = .ok (.imul, 1) := by decide +kernel
theorem dT_hasWord_20 : decode bT_hasWord 20 = .ok (.iload 4, 2) := by decide +kernel
theorem dT_hasWord_22 : decode bT_hasWord 22 = .ok (.iadd, 1) := by decide +kernel
theorem dT_hasWord_23 : decode bT_hasWord 23 = .ok (.laload, 1) := by decide +kernel
theorem dT_hasWord_24 : decode bT_hasWord 24 = .ok (.lload_n 2, 1) := by decide +kernel
theorem dT_hasWord_25 : decode bT_hasWord 25 = .ok (.lcmp, 1) := by decide +kernel
theorem dT_hasWord_26 : decode bT_hasWord 26 = .ok (.ifCond .ne 5, 3) := by decide +kernel
theorem dT_hasWord_29 : decode bT_hasWord 29 = .ok (.iconst 1, 1) := by decide +kernel
theorem dT_hasWord_30 : decode bT_hasWord 30 = .ok (.ireturn, 1) := by decide +kernel
theorem dT_hasWord_31 : decode bT_hasWord 31 = .ok (.iinc 4 1, 3) := by decide +kernel
theorem dT_hasWord_34 : decode bT_hasWord 34 = .ok (.goto (-31), 3) := by decide +kernel
theorem dT_hasWord_37 : decode bT_hasWord 37 = .ok (.iconst 0, 1) := by decide +kernel
theorem dT_hasWord_38 : decode bT_hasWord 38 = .ok (.ireturn, 1) := by decide +kernel
end
section
set_option maxHeartbeats 4000000 in
set_option maxRecDepth 100000 in
theorem cT_size (l : Launch) (nx : Nat) (M : xH) (a : Nat) (cd : Nat → Int64) (ds ps ch wc : Nat → Int32) (wd : Nat → Int64) (n cp : Nat) (hT : tAt M a cd ds ps ch wc wd n cp) : xC l xcl yT_size (xw (Cond.code yT_size bT_size 1 (some .int))) ({ frames := 0, cells := 0, slots := 0, locals := 0 } : Room) [.ref (a)] nx M (x_is (some (.int (nI (n)))) nx M) := by
  obtain ⟨h0, h1, h2, h3, h4, h5, h6, hz, hcp⟩ := id hT
  refine yC (by decide) (Nat.le_of_ble_eq_true rfl) ?_
  intro p e s m args below meth c D F hr hn
  refine x_aload_n F 0 dT_size_0 rfl rfl ?_
  refine x_get (ci := 4) F 6 (x_in inT) rfl (by decide) (x_m kfT_31) dT_size_1 h0 rfl ?_
  exact x_iret F hr dT_size_4 (x_is_i _ _ _)
set_option maxHeartbeats 4000000 in
set_option maxRecDepth 100000 in
theorem cT_chapters (l : Launch) (nx : Nat) (M : xH) (a : Nat) (cd : Nat → Int64) (ds ps ch wc : Nat → Int32) (wd : Nat → Int64) (n cp : Nat) (hT : tAt M a cd ds ps ch wc wd n cp) : xC l xcl yT_chapters (xw (Cond.code yT_chapters bT_chapters 1 (some .int))) ({ frames := 0, cells := 0, slots := 0, locals := 0 } : Room) [.ref (a)] nx M (x_is (some (.int (nI (cp)))) nx M) := by
  obtain ⟨h0, h1, h2, h3, h4, h5, h6, hz, hcp⟩ := id hT
  refine yC (by decide) (Nat.le_of_ble_eq_true rfl) ?_
  intro p e s m args below meth c D F hr hn
  refine x_aload_n F 0 dT_chapters_0 rfl rfl ?_
  refine x_get (ci := 4) F 7 (x_in inT) rfl (by decide) (x_m kfT_35) dT_chapters_1 h0 rfl ?_
  exact x_iret F hr dT_chapters_4 (x_is_i _ _ _)
set_option maxHeartbeats 4000000 in
set_option maxRecDepth 100000 in
theorem cT_isFull (l : Launch) (nx : Nat) (M : xH) (a : Nat) (cd : Nat → Int64) (ds ps ch wc : Nat → Int32) (wd : Nat → Int64) (n cp : Nat) (hT : tAt M a cd ds ps ch wc wd n cp) : xC l xcl yT_isFull (xw (Cond.code yT_isFull bT_isFull 1 (some .boolean))) ({ frames := 0, cells := 0, slots := 0, locals := 0 } : Room) [.ref (a)] nx M (x_is (some (.int (bI (decide (40 ≤ n))))) nx M) := by
  obtain ⟨h0, h1, h2, h3, h4, h5, h6, hz, hcp⟩ := id hT
  refine yC (by decide) (Nat.le_of_ble_eq_true rfl) ?_
  intro p e s m args below meth c D F hr hn
  refine x_aload_n F 0 dT_isFull_0 rfl rfl ?_
  refine x_get (ci := 4) F 6 (x_in inT) rfl (by decide) (x_m kfT_31) dT_isFull_1 h0 rfl ?_
  refine x_bipush F (v := nI (40)) dT_isFull_4 (by decide) ?_
  refine x_icmp_lt F (tgt := 13) dT_isFull_6 (by decide) (fun c1 => ?_) (fun c1 => ?_)
  · skip
    have c1 : n < 40 := by
      exact (nI_ltI (a := n) (b := 40) (by omega) (by omega)).mp c1
    refine x_iconst F (v := nI (0)) dT_isFull_13 (by decide) ?_
    exact x_zret F hr (by rfl) dT_isFull_14 (x_f (by simp; omega))
  · skip
    have c1 : 40 ≤ n := by
      have z : ¬ (n < 40) := fun q => c1 ((nI_ltI (a := n) (b := 40) (by omega) (by omega)).mpr q)
      omega
    refine x_iconst F (v := nI (1)) dT_isFull_9 (by decide) ?_
    refine x_goto F (tgt := 14) dT_isFull_10 (by decide) ?_
    exact x_zret F hr (by rfl) dT_isFull_14 (x_t (by simp; omega))
set_option maxHeartbeats 4000000 in
set_option maxRecDepth 100000 in
/-- has: a row -/
theorem cT_has (l : Launch) (nx : Nat) (M : xH) (a : Nat) (cd : Nat → Int64) (ds ps ch wc : Nat → Int32) (wd : Nat → Int64) (n cp : Nat) (hT : tAt M a cd ds ps ch wc wd n cp) (j : Nat) (hj : j < n) : xC l xcl yT_has (xw (Cond.code yT_has bT_has 2 (some .boolean))) ({ frames := 0, cells := 0, slots := 0, locals := 0 } : Room) [.ref (a), .int (nI (j))] nx M (x_is (some (.int (nI (1)))) nx M) := by
  obtain ⟨h0, h1, h2, h3, h4, h5, h6, hz, hcp⟩ := id hT
  refine yC (by decide) (Nat.le_of_ble_eq_true rfl) ?_
  intro p e s m args below meth c D F hr hn
  refine x_iload_n F 1 dT_has_0 rfl rfl ?_
  refine x_if_lt F (tgt := 22) dT_has_1 (by decide) (fun c1 => ?_) (fun c1 => ?_)
  · skip
    have c1 : j < 0 := by
      exact (nI_ltI (a := j) (b := 0) (by omega) (by omega)).mp c1
    exact absurd c1 (by omega)
  · skip
    have c1 : 0 ≤ j := by
      have z : ¬ (j < 0) := fun q => c1 ((nI_ltI (a := j) (b := 0) (by omega) (by omega)).mpr q)
      omega
    refine x_iload_n F 1 dT_has_4 rfl rfl ?_
    refine x_aload_n F 0 dT_has_5 rfl rfl ?_
    refine x_get (ci := 4) F 6 (x_in inT) rfl (by decide) (x_m kfT_31) dT_has_6 h0 rfl ?_
    refine x_icmp_ge F (tgt := 22) dT_has_9 (by decide) (fun c2 => ?_) (fun c2 => ?_)
    · skip
      have c2 : n ≤ j := by
        exact (nI_leI (a := n) (b := j) (by omega) (by omega)).mp c2
      exact absurd c2 (by omega)
    · skip
      have c2 : j < n := by
        have z : ¬ (n ≤ j) := fun q => c2 ((nI_leI (a := n) (b := j) (by omega) (by omega)).mpr q)
        omega
      refine x_iload_n F 1 dT_has_12 rfl rfl ?_
      refine x_bipush F (v := nI (40)) dT_has_13 (by decide) ?_
      refine x_icmp_ge F (tgt := 22) dT_has_15 (by decide) (fun c3 => ?_) (fun c3 => ?_)
      · skip
        have c3 : 40 ≤ j := by
          exact (nI_leI (a := 40) (b := j) (by omega) (by omega)).mp c3
        exact absurd c3 (by omega)
      · skip
        have c3 : j < 40 := by
          have z : ¬ (40 ≤ j) := fun q => c3 ((nI_leI (a := 40) (b := j) (by omega) (by omega)).mpr q)
          omega
        refine x_iconst F (v := nI (1)) dT_has_18 (by decide) ?_
        refine x_goto F (tgt := 23) dT_has_19 (by decide) ?_
        exact x_zret F hr (by rfl) dT_has_23 (x_is_i _ _ _)
set_option maxHeartbeats 4000000 in
set_option maxRecDepth 100000 in
/-- has: no row -/
theorem cT_hasN (l : Launch) (nx : Nat) (M : xH) (a : Nat) (cd : Nat → Int64) (ds ps ch wc : Nat → Int32) (wd : Nat → Int64) (n cp : Nat) (hT : tAt M a cd ds ps ch wc wd n cp) (i : Int32) (hi : ¬ vp_in i n) : xC l xcl yT_has (xw (Cond.code yT_has bT_has 2 (some .boolean))) ({ frames := 0, cells := 0, slots := 0, locals := 0 } : Room) [.ref (a), .int (i)] nx M (x_is (some (.int (nI (0)))) nx M) := by
  obtain ⟨h0, h1, h2, h3, h4, h5, h6, hz, hcp⟩ := id hT
  refine yC (by decide) (Nat.le_of_ble_eq_true rfl) ?_
  intro p e s m args below meth c D F hr hn
  refine x_iload_n F 1 dT_has_0 rfl rfl ?_
  refine x_if_lt F (tgt := 22) dT_has_1 (by decide) (fun c1 => ?_) (fun c1 => ?_)
  · skip
    refine x_iconst F (v := nI (0)) dT_has_22 (by decide) ?_
    exact x_zret F hr (by rfl) dT_has_23 (x_is_i _ _ _)
  · skip
    refine x_iload_n F 1 dT_has_4 rfl rfl ?_
    refine x_aload_n F 0 dT_has_5 rfl rfl ?_
    refine x_get (ci := 4) F 6 (x_in inT) rfl (by decide) (x_m kfT_31) dT_has_6 h0 rfl ?_
    refine x_icmp_ge F (tgt := 22) dT_has_9 (by decide) (fun c2 => ?_) (fun c2 => ?_)
    · skip
      refine x_iconst F (v := nI (0)) dT_has_22 (by decide) ?_
      exact x_zret F hr (by rfl) dT_has_23 (x_is_i _ _ _)
    · skip
      exact absurd (x_out (by omega) hi c1 c2) id
set_option maxHeartbeats 4000000 in
set_option maxRecDepth 100000 in
theorem cT_codeOf (l : Launch) (nx : Nat) (M : xH) (a : Nat) (cd : Nat → Int64) (ds ps ch wc : Nat → Int32) (wd : Nat → Int64) (n cp : Nat) (hT : tAt M a cd ds ps ch wc wd n cp) (j : Nat) (hj : j < n) : xC l xcl yT_codeOf (xw (Cond.code yT_codeOf bT_codeOf 2 (some .long))) ({ frames := 1, cells := 0, slots := 0, locals := 21 } : Room) [.ref (a), .int (nI (j))] nx M (x_is (some (.long ((cd) (j)))) nx M) := by
  obtain ⟨h0, h1, h2, h3, h4, h5, h6, hz, hcp⟩ := id hT
  refine yC (by decide) (Nat.le_of_ble_eq_true rfl) ?_
  intro p e s m args below meth c D F hr hn
  refine x_aload_n F 0 dT_codeOf_0 rfl rfl ?_
  refine x_iload_n F 1 dT_codeOf_1 rfl rfl ?_
  refine yV (n := 1) (As := [.int (nI (j))]) (ci := 4) F kmT_38 kiT_has ksT_has knT kcT_has (by decide +kernel) dT_codeOf_2 (cT_has l (nx) M (a) cd ds ps ch wc wd n cp hT j hj) rfl h0 rfl rfl (Nat.le_of_ble_eq_true rfl) ⟨Nat.le_of_ble_eq_true rfl, Nat.le_of_ble_eq_true rfl⟩ ⟨Nat.le_of_ble_eq_true rfl, Nat.le_of_ble_eq_true rfl⟩ ?_
  refine x_if_eq F (tgt := 17) dT_codeOf_5 (by decide) (fun c1 => ?_) (fun c1 => ?_)
  · skip
    have c1 : 1 = 0 := by
      exact (nI_eq (a := 1) (b := 0) (by omega) (by omega)).mp c1
    exact absurd c1 (by decide)
  · skip
    have c1 : 1 ≠ 0 := by
      have z : ¬ (1 = 0) := fun q => c1 ((nI_eq (a := 1) (b := 0) (by omega) (by omega)).mpr q)
      omega
    refine x_aload_n F 0 dT_codeOf_8 rfl rfl ?_
    refine x_get (ci := 4) F 0 (x_in inT) rfl (by decide) (x_m kfT_9) dT_codeOf_9 h0 rfl ?_
    refine x_iload_n F 1 dT_codeOf_12 rfl rfl ?_
    refine x_lald F dT_codeOf_13 h1 (pk_in (j) (40) (by omega)) ?_
    refine xW.tol ((cd) (j)) (by rw [nI_clamp (by omega)]) ?_
    refine x_goto F (tgt := 18) dT_codeOf_14 (by decide) ?_
    exact x_lret F hr dT_codeOf_18 (x_is_i _ _ _)
set_option maxHeartbeats 4000000 in
set_option maxRecDepth 100000 in
theorem cT_codeOfN (l : Launch) (nx : Nat) (M : xH) (a : Nat) (cd : Nat → Int64) (ds ps ch wc : Nat → Int32) (wd : Nat → Int64) (n cp : Nat) (hT : tAt M a cd ds ps ch wc wd n cp) (i : Int32) (hi : ¬ vp_in i n) : xC l xcl yT_codeOf (xw (Cond.code yT_codeOf bT_codeOf 2 (some .long))) ({ frames := 1, cells := 0, slots := 0, locals := 21 } : Room) [.ref (a), .int (i)] nx M (x_is (some (.long (0))) nx M) := by
  obtain ⟨h0, h1, h2, h3, h4, h5, h6, hz, hcp⟩ := id hT
  refine yC (by decide) (Nat.le_of_ble_eq_true rfl) ?_
  intro p e s m args below meth c D F hr hn
  refine x_aload_n F 0 dT_codeOf_0 rfl rfl ?_
  refine x_iload_n F 1 dT_codeOf_1 rfl rfl ?_
  refine yV (n := 1) (As := [.int (i)]) (ci := 4) F kmT_38 kiT_has ksT_has knT kcT_has (by decide +kernel) dT_codeOf_2 (cT_hasN l (nx) M (a) cd ds ps ch wc wd n cp hT i hi) rfl h0 rfl rfl (Nat.le_of_ble_eq_true rfl) ⟨Nat.le_of_ble_eq_true rfl, Nat.le_of_ble_eq_true rfl⟩ ⟨Nat.le_of_ble_eq_true rfl, Nat.le_of_ble_eq_true rfl⟩ ?_
  refine x_if_eq F (tgt := 17) dT_codeOf_5 (by decide) (fun c1 => ?_) (fun c1 => ?_)
  · skip
    have c1 : 0 = 0 := by
      exact (nI_eq (a := 0) (b := 0) (by omega) (by omega)).mp c1
    refine x_lconst F (v := 0) dT_codeOf_17 (by decide) ?_
    exact x_lret F hr dT_codeOf_18 (x_is_i _ _ _)
  · skip
    have c1 : 0 ≠ 0 := by
      have z : ¬ (0 = 0) := fun q => c1 ((nI_eq (a := 0) (b := 0) (by omega) (by omega)).mpr q)
      omega
    exact absurd c1 (by decide)
set_option maxHeartbeats 4000000 in
set_option maxRecDepth 100000 in
theorem cT_dashesOf (l : Launch) (nx : Nat) (M : xH) (a : Nat) (cd : Nat → Int64) (ds ps ch wc : Nat → Int32) (wd : Nat → Int64) (n cp : Nat) (hT : tAt M a cd ds ps ch wc wd n cp) (j : Nat) (hj : j < n) : xC l xcl yT_dashesOf (xw (Cond.code yT_dashesOf bT_dashesOf 2 (some .int))) ({ frames := 1, cells := 0, slots := 0, locals := 21 } : Room) [.ref (a), .int (nI (j))] nx M (x_is (some (.int ((ds) (j)))) nx M) := by
  obtain ⟨h0, h1, h2, h3, h4, h5, h6, hz, hcp⟩ := id hT
  refine yC (by decide) (Nat.le_of_ble_eq_true rfl) ?_
  intro p e s m args below meth c D F hr hn
  refine x_aload_n F 0 dT_dashesOf_0 rfl rfl ?_
  refine x_iload_n F 1 dT_dashesOf_1 rfl rfl ?_
  refine yV (n := 1) (As := [.int (nI (j))]) (ci := 4) F kmT_38 kiT_has ksT_has knT kcT_has (by decide +kernel) dT_dashesOf_2 (cT_has l (nx) M (a) cd ds ps ch wc wd n cp hT j hj) rfl h0 rfl rfl (Nat.le_of_ble_eq_true rfl) ⟨Nat.le_of_ble_eq_true rfl, Nat.le_of_ble_eq_true rfl⟩ ⟨Nat.le_of_ble_eq_true rfl, Nat.le_of_ble_eq_true rfl⟩ ?_
  refine x_if_eq F (tgt := 17) dT_dashesOf_5 (by decide) (fun c1 => ?_) (fun c1 => ?_)
  · skip
    have c1 : 1 = 0 := by
      exact (nI_eq (a := 1) (b := 0) (by omega) (by omega)).mp c1
    exact absurd c1 (by decide)
  · skip
    have c1 : 1 ≠ 0 := by
      have z : ¬ (1 = 0) := fun q => c1 ((nI_eq (a := 1) (b := 0) (by omega) (by omega)).mpr q)
      omega
    refine x_aload_n F 0 dT_dashesOf_8 rfl rfl ?_
    refine x_get (ci := 4) F 1 (x_in inT) rfl (by decide) (x_m kfT_15) dT_dashesOf_9 h0 rfl ?_
    refine x_iload_n F 1 dT_dashesOf_12 rfl rfl ?_
    refine x_iald F dT_dashesOf_13 h2 (pk_in (j) (40) (by omega)) ?_
    refine xW.toi ((ds) (j)) (by rw [nI_clamp (by omega)]) ?_
    refine x_goto F (tgt := 18) dT_dashesOf_14 (by decide) ?_
    exact x_iret F hr dT_dashesOf_18 (x_is_i _ _ _)
set_option maxHeartbeats 4000000 in
set_option maxRecDepth 100000 in
theorem cT_dashesOfN (l : Launch) (nx : Nat) (M : xH) (a : Nat) (cd : Nat → Int64) (ds ps ch wc : Nat → Int32) (wd : Nat → Int64) (n cp : Nat) (hT : tAt M a cd ds ps ch wc wd n cp) (i : Int32) (hi : ¬ vp_in i n) : xC l xcl yT_dashesOf (xw (Cond.code yT_dashesOf bT_dashesOf 2 (some .int))) ({ frames := 1, cells := 0, slots := 0, locals := 21 } : Room) [.ref (a), .int (i)] nx M (x_is (some (.int ((-1)))) nx M) := by
  obtain ⟨h0, h1, h2, h3, h4, h5, h6, hz, hcp⟩ := id hT
  refine yC (by decide) (Nat.le_of_ble_eq_true rfl) ?_
  intro p e s m args below meth c D F hr hn
  refine x_aload_n F 0 dT_dashesOf_0 rfl rfl ?_
  refine x_iload_n F 1 dT_dashesOf_1 rfl rfl ?_
  refine yV (n := 1) (As := [.int (i)]) (ci := 4) F kmT_38 kiT_has ksT_has knT kcT_has (by decide +kernel) dT_dashesOf_2 (cT_hasN l (nx) M (a) cd ds ps ch wc wd n cp hT i hi) rfl h0 rfl rfl (Nat.le_of_ble_eq_true rfl) ⟨Nat.le_of_ble_eq_true rfl, Nat.le_of_ble_eq_true rfl⟩ ⟨Nat.le_of_ble_eq_true rfl, Nat.le_of_ble_eq_true rfl⟩ ?_
  refine x_if_eq F (tgt := 17) dT_dashesOf_5 (by decide) (fun c1 => ?_) (fun c1 => ?_)
  · skip
    have c1 : 0 = 0 := by
      exact (nI_eq (a := 0) (b := 0) (by omega) (by omega)).mp c1
    refine x_iconst F (v := (-1)) dT_dashesOf_17 (by decide) ?_
    exact x_iret F hr dT_dashesOf_18 (x_is_i _ _ _)
  · skip
    have c1 : 0 ≠ 0 := by
      have z : ¬ (0 = 0) := fun q => c1 ((nI_eq (a := 0) (b := 0) (by omega) (by omega)).mpr q)
      omega
    exact absurd c1 (by decide)
set_option maxHeartbeats 4000000 in
set_option maxRecDepth 100000 in
theorem cT_parentOf (l : Launch) (nx : Nat) (M : xH) (a : Nat) (cd : Nat → Int64) (ds ps ch wc : Nat → Int32) (wd : Nat → Int64) (n cp : Nat) (hT : tAt M a cd ds ps ch wc wd n cp) (j : Nat) (hj : j < n) : xC l xcl yT_parentOf (xw (Cond.code yT_parentOf bT_parentOf 2 (some .int))) ({ frames := 1, cells := 0, slots := 0, locals := 21 } : Room) [.ref (a), .int (nI (j))] nx M (x_is (some (.int ((ps) (j)))) nx M) := by
  obtain ⟨h0, h1, h2, h3, h4, h5, h6, hz, hcp⟩ := id hT
  refine yC (by decide) (Nat.le_of_ble_eq_true rfl) ?_
  intro p e s m args below meth c D F hr hn
  refine x_aload_n F 0 dT_parentOf_0 rfl rfl ?_
  refine x_iload_n F 1 dT_parentOf_1 rfl rfl ?_
  refine yV (n := 1) (As := [.int (nI (j))]) (ci := 4) F kmT_38 kiT_has ksT_has knT kcT_has (by decide +kernel) dT_parentOf_2 (cT_has l (nx) M (a) cd ds ps ch wc wd n cp hT j hj) rfl h0 rfl rfl (Nat.le_of_ble_eq_true rfl) ⟨Nat.le_of_ble_eq_true rfl, Nat.le_of_ble_eq_true rfl⟩ ⟨Nat.le_of_ble_eq_true rfl, Nat.le_of_ble_eq_true rfl⟩ ?_
  refine x_if_eq F (tgt := 17) dT_parentOf_5 (by decide) (fun c1 => ?_) (fun c1 => ?_)
  · skip
    have c1 : 1 = 0 := by
      exact (nI_eq (a := 1) (b := 0) (by omega) (by omega)).mp c1
    exact absurd c1 (by decide)
  · skip
    have c1 : 1 ≠ 0 := by
      have z : ¬ (1 = 0) := fun q => c1 ((nI_eq (a := 1) (b := 0) (by omega) (by omega)).mpr q)
      omega
    refine x_aload_n F 0 dT_parentOf_8 rfl rfl ?_
    refine x_get (ci := 4) F 2 (x_in inT) rfl (by decide) (x_m kfT_19) dT_parentOf_9 h0 rfl ?_
    refine x_iload_n F 1 dT_parentOf_12 rfl rfl ?_
    refine x_iald F dT_parentOf_13 h3 (pk_in (j) (40) (by omega)) ?_
    refine xW.toi ((ps) (j)) (by rw [nI_clamp (by omega)]) ?_
    refine x_goto F (tgt := 18) dT_parentOf_14 (by decide) ?_
    exact x_iret F hr dT_parentOf_18 (x_is_i _ _ _)
set_option maxHeartbeats 4000000 in
set_option maxRecDepth 100000 in
theorem cT_parentOfN (l : Launch) (nx : Nat) (M : xH) (a : Nat) (cd : Nat → Int64) (ds ps ch wc : Nat → Int32) (wd : Nat → Int64) (n cp : Nat) (hT : tAt M a cd ds ps ch wc wd n cp) (i : Int32) (hi : ¬ vp_in i n) : xC l xcl yT_parentOf (xw (Cond.code yT_parentOf bT_parentOf 2 (some .int))) ({ frames := 1, cells := 0, slots := 0, locals := 21 } : Room) [.ref (a), .int (i)] nx M (x_is (some (.int ((-1)))) nx M) := by
  obtain ⟨h0, h1, h2, h3, h4, h5, h6, hz, hcp⟩ := id hT
  refine yC (by decide) (Nat.le_of_ble_eq_true rfl) ?_
  intro p e s m args below meth c D F hr hn
  refine x_aload_n F 0 dT_parentOf_0 rfl rfl ?_
  refine x_iload_n F 1 dT_parentOf_1 rfl rfl ?_
  refine yV (n := 1) (As := [.int (i)]) (ci := 4) F kmT_38 kiT_has ksT_has knT kcT_has (by decide +kernel) dT_parentOf_2 (cT_hasN l (nx) M (a) cd ds ps ch wc wd n cp hT i hi) rfl h0 rfl rfl (Nat.le_of_ble_eq_true rfl) ⟨Nat.le_of_ble_eq_true rfl, Nat.le_of_ble_eq_true rfl⟩ ⟨Nat.le_of_ble_eq_true rfl, Nat.le_of_ble_eq_true rfl⟩ ?_
  refine x_if_eq F (tgt := 17) dT_parentOf_5 (by decide) (fun c1 => ?_) (fun c1 => ?_)
  · skip
    have c1 : 0 = 0 := by
      exact (nI_eq (a := 0) (b := 0) (by omega) (by omega)).mp c1
    refine x_iconst F (v := (-1)) dT_parentOf_17 (by decide) ?_
    exact x_iret F hr dT_parentOf_18 (x_is_i _ _ _)
  · skip
    have c1 : 0 ≠ 0 := by
      have z : ¬ (0 = 0) := fun q => c1 ((nI_eq (a := 0) (b := 0) (by omega) (by omega)).mpr q)
      omega
    exact absurd c1 (by decide)
set_option maxHeartbeats 4000000 in
set_option maxRecDepth 100000 in
theorem cT_childrenOf (l : Launch) (nx : Nat) (M : xH) (a : Nat) (cd : Nat → Int64) (ds ps ch wc : Nat → Int32) (wd : Nat → Int64) (n cp : Nat) (hT : tAt M a cd ds ps ch wc wd n cp) (j : Nat) (hj : j < n) : xC l xcl yT_childrenOf (xw (Cond.code yT_childrenOf bT_childrenOf 2 (some .int))) ({ frames := 1, cells := 0, slots := 0, locals := 21 } : Room) [.ref (a), .int (nI (j))] nx M (x_is (some (.int ((ch) (j)))) nx M) := by
  obtain ⟨h0, h1, h2, h3, h4, h5, h6, hz, hcp⟩ := id hT
  refine yC (by decide) (Nat.le_of_ble_eq_true rfl) ?_
  intro p e s m args below meth c D F hr hn
  refine x_aload_n F 0 dT_childrenOf_0 rfl rfl ?_
  refine x_iload_n F 1 dT_childrenOf_1 rfl rfl ?_
  refine yV (n := 1) (As := [.int (nI (j))]) (ci := 4) F kmT_38 kiT_has ksT_has knT kcT_has (by decide +kernel) dT_childrenOf_2 (cT_has l (nx) M (a) cd ds ps ch wc wd n cp hT j hj) rfl h0 rfl rfl (Nat.le_of_ble_eq_true rfl) ⟨Nat.le_of_ble_eq_true rfl, Nat.le_of_ble_eq_true rfl⟩ ⟨Nat.le_of_ble_eq_true rfl, Nat.le_of_ble_eq_true rfl⟩ ?_
  refine x_if_eq F (tgt := 17) dT_childrenOf_5 (by decide) (fun c1 => ?_) (fun c1 => ?_)
  · skip
    have c1 : 1 = 0 := by
      exact (nI_eq (a := 1) (b := 0) (by omega) (by omega)).mp c1
    exact absurd c1 (by decide)
  · skip
    have c1 : 1 ≠ 0 := by
      have z : ¬ (1 = 0) := fun q => c1 ((nI_eq (a := 1) (b := 0) (by omega) (by omega)).mpr q)
      omega
    refine x_aload_n F 0 dT_childrenOf_8 rfl rfl ?_
    refine x_get (ci := 4) F 3 (x_in inT) rfl (by decide) (x_m kfT_22) dT_childrenOf_9 h0 rfl ?_
    refine x_iload_n F 1 dT_childrenOf_12 rfl rfl ?_
    refine x_iald F dT_childrenOf_13 h4 (pk_in (j) (40) (by omega)) ?_
    refine xW.toi ((ch) (j)) (by rw [nI_clamp (by omega)]) ?_
    refine x_goto F (tgt := 18) dT_childrenOf_14 (by decide) ?_
    exact x_iret F hr dT_childrenOf_18 (x_is_i _ _ _)
set_option maxHeartbeats 4000000 in
set_option maxRecDepth 100000 in
theorem cT_childrenOfN (l : Launch) (nx : Nat) (M : xH) (a : Nat) (cd : Nat → Int64) (ds ps ch wc : Nat → Int32) (wd : Nat → Int64) (n cp : Nat) (hT : tAt M a cd ds ps ch wc wd n cp) (i : Int32) (hi : ¬ vp_in i n) : xC l xcl yT_childrenOf (xw (Cond.code yT_childrenOf bT_childrenOf 2 (some .int))) ({ frames := 1, cells := 0, slots := 0, locals := 21 } : Room) [.ref (a), .int (i)] nx M (x_is (some (.int (nI (0)))) nx M) := by
  obtain ⟨h0, h1, h2, h3, h4, h5, h6, hz, hcp⟩ := id hT
  refine yC (by decide) (Nat.le_of_ble_eq_true rfl) ?_
  intro p e s m args below meth c D F hr hn
  refine x_aload_n F 0 dT_childrenOf_0 rfl rfl ?_
  refine x_iload_n F 1 dT_childrenOf_1 rfl rfl ?_
  refine yV (n := 1) (As := [.int (i)]) (ci := 4) F kmT_38 kiT_has ksT_has knT kcT_has (by decide +kernel) dT_childrenOf_2 (cT_hasN l (nx) M (a) cd ds ps ch wc wd n cp hT i hi) rfl h0 rfl rfl (Nat.le_of_ble_eq_true rfl) ⟨Nat.le_of_ble_eq_true rfl, Nat.le_of_ble_eq_true rfl⟩ ⟨Nat.le_of_ble_eq_true rfl, Nat.le_of_ble_eq_true rfl⟩ ?_
  refine x_if_eq F (tgt := 17) dT_childrenOf_5 (by decide) (fun c1 => ?_) (fun c1 => ?_)
  · skip
    have c1 : 0 = 0 := by
      exact (nI_eq (a := 0) (b := 0) (by omega) (by omega)).mp c1
    refine x_iconst F (v := nI (0)) dT_childrenOf_17 (by decide) ?_
    exact x_iret F hr dT_childrenOf_18 (x_is_i _ _ _)
  · skip
    have c1 : 0 ≠ 0 := by
      have z : ¬ (0 = 0) := fun q => c1 ((nI_eq (a := 0) (b := 0) (by omega) (by omega)).mpr q)
      omega
    exact absurd c1 (by decide)
set_option maxHeartbeats 4000000 in
set_option maxRecDepth 100000 in
theorem cT_wordsOf (l : Launch) (nx : Nat) (M : xH) (a : Nat) (cd : Nat → Int64) (ds ps ch wc : Nat → Int32) (wd : Nat → Int64) (n cp : Nat) (hT : tAt M a cd ds ps ch wc wd n cp) (j : Nat) (hj : j < n) : xC l xcl yT_wordsOf (xw (Cond.code yT_wordsOf bT_wordsOf 2 (some .int))) ({ frames := 1, cells := 0, slots := 0, locals := 21 } : Room) [.ref (a), .int (nI (j))] nx M (x_is (some (.int ((wc) (j)))) nx M) := by
  obtain ⟨h0, h1, h2, h3, h4, h5, h6, hz, hcp⟩ := id hT
  refine yC (by decide) (Nat.le_of_ble_eq_true rfl) ?_
  intro p e s m args below meth c D F hr hn
  refine x_aload_n F 0 dT_wordsOf_0 rfl rfl ?_
  refine x_iload_n F 1 dT_wordsOf_1 rfl rfl ?_
  refine yV (n := 1) (As := [.int (nI (j))]) (ci := 4) F kmT_38 kiT_has ksT_has knT kcT_has (by decide +kernel) dT_wordsOf_2 (cT_has l (nx) M (a) cd ds ps ch wc wd n cp hT j hj) rfl h0 rfl rfl (Nat.le_of_ble_eq_true rfl) ⟨Nat.le_of_ble_eq_true rfl, Nat.le_of_ble_eq_true rfl⟩ ⟨Nat.le_of_ble_eq_true rfl, Nat.le_of_ble_eq_true rfl⟩ ?_
  refine x_if_eq F (tgt := 17) dT_wordsOf_5 (by decide) (fun c1 => ?_) (fun c1 => ?_)
  · skip
    have c1 : 1 = 0 := by
      exact (nI_eq (a := 1) (b := 0) (by omega) (by omega)).mp c1
    exact absurd c1 (by decide)
  · skip
    have c1 : 1 ≠ 0 := by
      have z : ¬ (1 = 0) := fun q => c1 ((nI_eq (a := 1) (b := 0) (by omega) (by omega)).mpr q)
      omega
    refine x_aload_n F 0 dT_wordsOf_8 rfl rfl ?_
    refine x_get (ci := 4) F 4 (x_in inT) rfl (by decide) (x_m kfT_25) dT_wordsOf_9 h0 rfl ?_
    refine x_iload_n F 1 dT_wordsOf_12 rfl rfl ?_
    refine x_iald F dT_wordsOf_13 h5 (pk_in (j) (40) (by omega)) ?_
    refine xW.toi ((wc) (j)) (by rw [nI_clamp (by omega)]) ?_
    refine x_goto F (tgt := 18) dT_wordsOf_14 (by decide) ?_
    exact x_iret F hr dT_wordsOf_18 (x_is_i _ _ _)
set_option maxHeartbeats 4000000 in
set_option maxRecDepth 100000 in
theorem cT_wordsOfN (l : Launch) (nx : Nat) (M : xH) (a : Nat) (cd : Nat → Int64) (ds ps ch wc : Nat → Int32) (wd : Nat → Int64) (n cp : Nat) (hT : tAt M a cd ds ps ch wc wd n cp) (i : Int32) (hi : ¬ vp_in i n) : xC l xcl yT_wordsOf (xw (Cond.code yT_wordsOf bT_wordsOf 2 (some .int))) ({ frames := 1, cells := 0, slots := 0, locals := 21 } : Room) [.ref (a), .int (i)] nx M (x_is (some (.int (nI (0)))) nx M) := by
  obtain ⟨h0, h1, h2, h3, h4, h5, h6, hz, hcp⟩ := id hT
  refine yC (by decide) (Nat.le_of_ble_eq_true rfl) ?_
  intro p e s m args below meth c D F hr hn
  refine x_aload_n F 0 dT_wordsOf_0 rfl rfl ?_
  refine x_iload_n F 1 dT_wordsOf_1 rfl rfl ?_
  refine yV (n := 1) (As := [.int (i)]) (ci := 4) F kmT_38 kiT_has ksT_has knT kcT_has (by decide +kernel) dT_wordsOf_2 (cT_hasN l (nx) M (a) cd ds ps ch wc wd n cp hT i hi) rfl h0 rfl rfl (Nat.le_of_ble_eq_true rfl) ⟨Nat.le_of_ble_eq_true rfl, Nat.le_of_ble_eq_true rfl⟩ ⟨Nat.le_of_ble_eq_true rfl, Nat.le_of_ble_eq_true rfl⟩ ?_
  refine x_if_eq F (tgt := 17) dT_wordsOf_5 (by decide) (fun c1 => ?_) (fun c1 => ?_)
  · skip
    have c1 : 0 = 0 := by
      exact (nI_eq (a := 0) (b := 0) (by omega) (by omega)).mp c1
    refine x_iconst F (v := nI (0)) dT_wordsOf_17 (by decide) ?_
    exact x_iret F hr dT_wordsOf_18 (x_is_i _ _ _)
  · skip
    have c1 : 0 ≠ 0 := by
      have z : ¬ (0 = 0) := fun q => c1 ((nI_eq (a := 0) (b := 0) (by omega) (by omega)).mpr q)
      omega
    exact absurd c1 (by decide)
set_option maxHeartbeats 4000000 in
set_option maxRecDepth 100000 in
/-- rowOf: the first row of that code, or -1 -/
theorem cT_rowOf (l : Launch) (nx : Nat) (M : xH) (a : Nat) (cd : Nat → Int64) (ds ps ch wc : Nat → Int32) (wd : Nat → Int64) (n cp : Nat) (hT : tAt M a cd ds ps ch wc wd n cp) (co : Int64) : xC l xcl yT_rowOf (xw (Cond.code yT_rowOf bT_rowOf 4 (some .int))) ({ frames := 0, cells := 0, slots := 0, locals := 0 } : Room) [.ref (a), .long (co)] nx M (x_is (some (.int (oi (fi (fun j => decide (cd j = co)) n 0)))) nx M) := by
  obtain ⟨h0, h1, h2, h3, h4, h5, h6, hz, hcp⟩ := id hT
  refine yC (by decide) (Nat.le_of_ble_eq_true rfl) ?_
  intro p e s m args below meth c D F hr hn
  have loop : ∀ (k i : Nat), i + k = n → fi (fun j => decide (cd j = co)) n 0 = fi (fun j => decide (cd j = co)) k i → xW p l e ({ frames := 0, cells := 0, slots := 0, locals := 0 } : Room) s m args below meth c D xcl (x_A M nx) 4 (MQ below (x_Q D xcl (x_A M nx) (x_is (some (.int (oi (fi (fun j => decide (cd j = co)) n 0)))) nx M)) args s 0 0 (x_A M nx)) 0 0 nx M 2 [(3, .int (nI i)), (0, .ref a), (1, .long co)] [] := by
    intro k
    induction k with
    | zero =>
      intro i hi hf
      refine x_iload_n F 0 dT_rowOf_2 rfl rfl ?_
      refine x_aload_n F 1 dT_rowOf_3 rfl rfl ?_
      refine x_get (ci := 4) F 6 (x_in inT) rfl (by decide) (x_m kfT_31) dT_rowOf_4 h0 rfl ?_
      refine x_icmp_ge F (tgt := 29) dT_rowOf_7 (by decide) (fun c1 => ?_) (fun c1 => ?_)
      · skip
        have c1 : n ≤ i := by
          exact (nI_leI (a := n) (b := i) (by omega) (by omega)).mp c1
        refine x_iconst F (v := (-1)) dT_rowOf_29 (by decide) ?_
        exact x_iret F hr dT_rowOf_30 (x_e (by rw [hf]; rfl))
      · skip
        have c1 : i < n := by
          have z : ¬ (n ≤ i) := fun q => c1 ((nI_leI (a := n) (b := i) (by omega) (by omega)).mpr q)
          omega
        exact absurd c1 (by omega)
    | succ k ih =>
      intro i hi hf
      refine x_iload_n F 0 dT_rowOf_2 rfl rfl ?_
      refine x_aload_n F 1 dT_rowOf_3 rfl rfl ?_
      refine x_get (ci := 4) F 6 (x_in inT) rfl (by decide) (x_m kfT_31) dT_rowOf_4 h0 rfl ?_
      refine x_icmp_ge F (tgt := 29) dT_rowOf_7 (by decide) (fun c2 => ?_) (fun c2 => ?_)
      · skip
        have c2 : n ≤ i := by
          exact (nI_leI (a := n) (b := i) (by omega) (by omega)).mp c2
        exact absurd c2 (by omega)
      · skip
        have c2 : i < n := by
          have z : ¬ (n ≤ i) := fun q => c2 ((nI_leI (a := n) (b := i) (by omega) (by omega)).mpr q)
          omega
        refine x_aload_n F 1 dT_rowOf_10 rfl rfl ?_
        refine x_get (ci := 4) F 0 (x_in inT) rfl (by decide) (x_m kfT_9) dT_rowOf_11 h0 rfl ?_
        refine x_iload_n F 0 dT_rowOf_14 rfl rfl ?_
        refine x_lald F dT_rowOf_15 h1 (pk_in (i) (40) (by omega)) ?_
        refine xW.tol ((cd) (i)) (by rw [nI_clamp (by omega)]) ?_
        refine x_lload_n F 2 dT_rowOf_16 rfl rfl ?_
        refine x_lcmp F dT_rowOf_17 ?_
        refine x_if_ne F (tgt := 23) dT_rowOf_18 (by decide) (fun c3 => ?_) (fun c3 => ?_)
        · skip
          have c3 : ¬ (cd) (i) = co := fun z => c3 ((lg_cmp_eq ((cd) (i)) (co)).mpr z)
          refine x_iinc F 0 [(3, .int (nI (i + 1))), (0, .ref (a)), (1, .long (co))] dT_rowOf_23 rfl (nI_add (i) 1) (by decide) rfl ?_
          refine x_goto F (tgt := 2) dT_rowOf_26 (by decide) ?_
          exact ih (i + 1) (by omega) (by rw [hf]; rw [fi_s, if_neg (by simpa using c3)])
        · skip
          have c3 : (cd) (i) = co := (lg_cmp_eq ((cd) (i)) (co)).mp c3
          refine x_iload_n F 0 dT_rowOf_21 rfl rfl ?_
          exact x_iret F hr dT_rowOf_22 (x_e (by rw [hf]; rw [fi_s, if_pos (by simpa using c3)]; rfl))
  refine x_iconst F (v := nI (0)) dT_rowOf_0 (by decide) ?_
  refine x_istore_n F [(3, .int (nI (0))), (0, .ref (a)), (1, .long (co))] dT_rowOf_1 rfl (by decide) rfl ?_
  exact loop n 0 (by omega) rfl
end
section
/-! a tree that is well: parents ahead, at the most four words a row -/
def tWf (ps wc : Nat → Int32) (pf : Nat → Option Nat) (wn : Nat → Nat) (n : Nat) : Prop := ∀ i, i < n → ps i = oi (pf i) ∧ (∀ j, pf i = some j → j < i) ∧ wc i = nI (wn i) ∧ wn i ≤ 4
/-- a word of a row -/
def tHas (wd : Nat → Int64) (wn : Nat → Nat) (w : Int64) (j : Nat) : Bool := (fi (fun i => decide (wd (j * 4 + i) = w)) (wn j) 0).isSome
/-- Q of one that is above, from r on, k steps at most -/
def up (pf : Nat → Option Nat) (Q : Nat → Bool) : Nat → Option Nat → Bool
  | 0, _ => false
  | _ + 1, none => false
  | k + 1, some j => if Q j then true else up pf Q k (pf j)
theorem up_s (pf : Nat → Option Nat) (Q : Nat → Bool) (k j : Nat) : up pf Q (k + 1) (some j) = if Q j then true else up pf Q k (pf j) := rfl
theorem up_n (pf : Nat → Option Nat) (Q : Nat → Bool) (k : Nat) : up pf Q k none = false := by cases k <;> rfl
def tPts (pf : Nat → Option Nat) (Q : Nat → Bool) (j : Nat) : Nat := if Q j then 4 else if up pf Q 4 (pf j) then 2 else 0
set_option maxHeartbeats 4000000 in
set_option maxRecDepth 100000 in
theorem cT_mostDashes0 (l : Launch) (nx : Nat) (M : xH) (a : Nat) (cd : Nat → Int64) (ds ps ch wc : Nat → Int32) (wd : Nat → Int64) (cp : Nat) (hT : tAt M a cd ds ps ch wc wd 0 cp) : xC l xcl yT_mostDashes (xw (Cond.code yT_mostDashes bT_mostDashes 1 (some .int))) ({ frames := 2, cells := 0, slots := 0, locals := 42 } : Room) [.ref (a)] nx M (x_is (some (.int (nI (0)))) nx M) := by
  obtain ⟨h0, h1, h2, h3, h4, h5, h6, hz, hcp⟩ := id hT
  refine yC (by decide) (Nat.le_of_ble_eq_true rfl) ?_
  intro p e s m args below meth c D F hr hn
  refine x_aload_n F 0 dT_mostDashes_0 rfl rfl ?_
  refine x_aload_n F 0 dT_mostDashes_1 rfl rfl ?_
  refine x_get (ci := 4) F 6 (x_in inT) rfl (by decide) (x_m kfT_31) dT_mostDashes_2 h0 rfl ?_
  refine x_iconst F (v := nI (1)) dT_mostDashes_5 (by decide) ?_
  refine x_isub F dT_mostDashes_6 ?_
  refine xW.toi ((-1)) (by decide) ?_
  refine yV (n := 1) (As := [.int ((-1))]) (ci := 4) F kmT_42 kiT_dashesOf ksT_dashesOf knT kcT_dashesOf (by decide +kernel) dT_mostDashes_7 (cT_dashesOfN l (nx) M (a) cd ds ps ch wc wd 0 cp hT (-1) (m1_out _)) rfl h0 rfl rfl (Nat.le_of_ble_eq_true rfl) ⟨Nat.le_of_ble_eq_true rfl, Nat.le_of_ble_eq_true rfl⟩ ⟨Nat.le_of_ble_eq_true rfl, Nat.le_of_ble_eq_true rfl⟩ ?_
  refine x_iconst F (v := nI (1)) dT_mostDashes_10 (by decide) ?_
  refine x_iadd F dT_mostDashes_11 ?_
  refine xW.toi (nI (0)) (by decide) ?_
  exact x_iret F hr dT_mostDashes_12 (x_is_i _ _ _)
set_option maxHeartbeats 4000000 in
set_option maxRecDepth 100000 in
theorem cT_mostDashesS (l : Launch) (nx : Nat) (M : xH) (a : Nat) (cd : Nat → Int64) (ds ps ch wc : Nat → Int32) (wd : Nat → Int64) (k cp : Nat) (hT : tAt M a cd ds ps ch wc wd (k + 1) cp) : xC l xcl yT_mostDashes (xw (Cond.code yT_mostDashes bT_mostDashes 1 (some .int))) ({ frames := 2, cells := 0, slots := 0, locals := 42 } : Room) [.ref (a)] nx M (x_is (some (.int (ds (k) + nI (1)))) nx M) := by
  obtain ⟨h0, h1, h2, h3, h4, h5, h6, hz, hcp⟩ := id hT
  refine yC (by decide) (Nat.le_of_ble_eq_true rfl) ?_
  intro p e s m args below meth c D F hr hn
  refine x_aload_n F 0 dT_mostDashes_0 rfl rfl ?_
  refine x_aload_n F 0 dT_mostDashes_1 rfl rfl ?_
  refine x_get (ci := 4) F 6 (x_in inT) rfl (by decide) (x_m kfT_31) dT_mostDashes_2 h0 rfl ?_
  refine x_iconst F (v := nI (1)) dT_mostDashes_5 (by decide) ?_
  refine x_isub F dT_mostDashes_6 ?_
  refine xW.toi (nI (k)) (nI_pred k) ?_
  refine yV (n := 1) (As := [.int (nI (k))]) (ci := 4) F kmT_42 kiT_dashesOf ksT_dashesOf knT kcT_dashesOf (by decide +kernel) dT_mostDashes_7 (cT_dashesOf l (nx) M (a) cd ds ps ch wc wd (k + 1) cp hT k (by omega)) rfl h0 rfl rfl (Nat.le_of_ble_eq_true rfl) ⟨Nat.le_of_ble_eq_true rfl, Nat.le_of_ble_eq_true rfl⟩ ⟨Nat.le_of_ble_eq_true rfl, Nat.le_of_ble_eq_true rfl⟩ ?_
  refine x_iconst F (v := nI (1)) dT_mostDashes_10 (by decide) ?_
  refine x_iadd F dT_mostDashes_11 ?_
  exact x_iret F hr dT_mostDashes_12 (x_e rfl)
set_option maxHeartbeats 4000000 in
set_option maxRecDepth 100000 in
/-- parentFor: the latest row with one dash less, or -1 -/
theorem cT_parentFor (l : Launch) (nx : Nat) (M : xH) (a : Nat) (cd : Nat → Int64) (ds ps ch wc : Nat → Int32) (wd : Nat → Int64) (n cp : Nat) (hT : tAt M a cd ds ps ch wc wd n cp) (mm : Int32) : xC l xcl yT_parentFor (xw (Cond.code yT_parentFor bT_parentFor 3 (some .int))) ({ frames := 0, cells := 0, slots := 0, locals := 0 } : Room) [.ref (a), .int (mm)] nx M (x_is (some (.int (oi (la (fun i => decide (ds i = mm - nI 1)) n)))) nx M) := by
  obtain ⟨h0, h1, h2, h3, h4, h5, h6, hz, hcp⟩ := id hT
  refine yC (by decide) (Nat.le_of_ble_eq_true rfl) ?_
  intro p e s m args below meth c D F hr hn
  have loop : ∀ (k : Nat) , k ≤ n → la (fun i => decide (ds i = mm - nI 1)) n = la (fun i => decide (ds i = mm - nI 1)) k → xW p l e ({ frames := 0, cells := 0, slots := 0, locals := 0 } : Room) s m args below meth c D xcl (x_A M nx) 3 (MQ below (x_Q D xcl (x_A M nx) (x_is (some (.int (oi (la (fun i => decide (ds i = mm - nI 1)) n)))) nx M)) args s 0 0 (x_A M nx)) 0 0 (nx) M 7 [(2, .int (pd (k))), (0, .ref (a)), (1, .int (mm))] [] := by
    intro k
    induction k with
    | zero =>
      intro hi hf
      show xW p l e ({ frames := 0, cells := 0, slots := 0, locals := 0 } : Room) s m args below meth c D xcl (x_A M nx) 3 (MQ below (x_Q D xcl (x_A M nx) (x_is (some (.int (oi (la (fun i => decide (ds i = mm - nI 1)) n)))) nx M)) args s 0 0 (x_A M nx)) 0 0 (nx) M 7 [(2, .int ((-1))), (0, .ref (a)), (1, .int (mm))] []
      refine x_iload_n F 0 dT_parentFor_7 rfl rfl ?_
      refine x_if_lt F (tgt := 31) dT_parentFor_8 (by decide) (fun c1 => ?_) (fun c1 => ?_)
      · skip
        refine x_iconst F (v := (-1)) dT_parentFor_31 (by decide) ?_
        exact x_iret F hr dT_parentFor_32 (x_e (by rw [hf]; rfl))
      · skip
        exact absurd (by decide) c1
    | succ k ih =>
      intro hi hf
      show xW p l e ({ frames := 0, cells := 0, slots := 0, locals := 0 } : Room) s m args below meth c D xcl (x_A M nx) 3 (MQ below (x_Q D xcl (x_A M nx) (x_is (some (.int (oi (la (fun i => decide (ds i = mm - nI 1)) n)))) nx M)) args s 0 0 (x_A M nx)) 0 0 (nx) M 7 [(2, .int (nI (k))), (0, .ref (a)), (1, .int (mm))] []
      refine x_iload_n F 0 dT_parentFor_7 rfl rfl ?_
      refine x_if_lt F (tgt := 31) dT_parentFor_8 (by decide) (fun c2 => ?_) (fun c2 => ?_)
      · skip
        have c2 : k < 0 := by
          exact (nI_ltI (a := k) (b := 0) (by omega) (by omega)).mp c2
        exact absurd c2 (by omega)
      · skip
        have c2 : 0 ≤ k := by
          have z : ¬ (k < 0) := fun zz => c2 ((nI_ltI (a := k) (b := 0) (by omega) (by omega)).mpr zz)
          omega
        refine x_aload_n F 1 dT_parentFor_11 rfl rfl ?_
        refine x_get (ci := 4) F 1 (x_in inT) rfl (by decide) (x_m kfT_15) dT_parentFor_12 h0 rfl ?_
        refine x_iload_n F 0 dT_parentFor_15 rfl rfl ?_
        refine x_iald F dT_parentFor_16 h2 (pk_in (k) (40) (by omega)) ?_
        refine xW.toi ((ds) (k)) (by rw [nI_clamp (by omega)]) ?_
        refine x_iload_n F 2 dT_parentFor_17 rfl rfl ?_
        refine x_iconst F (v := nI (1)) dT_parentFor_18 (by decide) ?_
        refine x_isub F dT_parentFor_19 ?_
        refine x_icmp_ne F (tgt := 25) dT_parentFor_20 (by decide) (fun c3 => ?_) (fun c3 => ?_)
        · skip
          refine x_iinc F 0 [(2, .int (pd (k))), (0, .ref (a)), (1, .int (mm))] dT_parentFor_25 rfl (pd_dec (k)) (by decide) rfl ?_
          refine x_goto F (tgt := 7) dT_parentFor_28 (by decide) ?_
          exact ih (by omega) (by rw [hf, la_s, if_neg (by simpa using c3)])
        · skip
          refine x_iload_n F 0 dT_parentFor_23 rfl rfl ?_
          exact x_iret F hr dT_parentFor_24 (x_e (by rw [hf, la_s, if_pos (by simpa using c3)]; rfl))
  refine x_aload_n F 0 dT_parentFor_0 rfl rfl ?_
  refine x_get (ci := 4) F 6 (x_in inT) rfl (by decide) (x_m kfT_31) dT_parentFor_1 h0 rfl ?_
  refine x_iconst F (v := nI (1)) dT_parentFor_4 (by decide) ?_
  refine x_isub F dT_parentFor_5 ?_
  refine xW.toi (pd (n)) (pd_of n) ?_
  refine x_istore_n F [(2, .int (pd (n))), (0, .ref (a)), (1, .int (mm))] dT_parentFor_6 rfl (by decide) rfl ?_
  exact loop n (Nat.le_refl _) rfl
set_option maxHeartbeats 4000000 in
set_option maxRecDepth 100000 in
theorem cT_fitsBelowN (l : Launch) (nx : Nat) (M : xH) (a : Nat) (cd : Nat → Int64) (ds ps ch wc : Nat → Int32) (wd : Nat → Int64) (n cp : Nat) (hT : tAt M a cd ds ps ch wc wd n cp) (i : Int32) (hi : ¬ vp_in i n) (co : Int64) : xC l xcl yT_fitsBelow (xw (Cond.code yT_fitsBelow bT_fitsBelow 4 (some .boolean))) ({ frames := 1, cells := 0, slots := 0, locals := 21 } : Room) [.ref (a), .int (i), .long (co)] nx M (x_is (some (.int (bI (decide (co < 200))))) nx M) := by
  obtain ⟨h0, h1, h2, h3, h4, h5, h6, hz, hcp⟩ := id hT
  refine yC (by decide) (Nat.le_of_ble_eq_true rfl) ?_
  intro p e s m args below meth c D F hr hn
  refine x_aload_n F 0 dT_fitsBelow_0 rfl rfl ?_
  refine x_iload_n F 1 dT_fitsBelow_1 rfl rfl ?_
  refine yV (n := 1) (As := [.int (i)]) (ci := 4) F kmT_38 kiT_has ksT_has knT kcT_has (by decide +kernel) dT_fitsBelow_2 (cT_hasN l (nx) M (a) cd ds ps ch wc wd n cp hT i hi) rfl h0 rfl rfl (Nat.le_of_ble_eq_true rfl) ⟨Nat.le_of_ble_eq_true rfl, Nat.le_of_ble_eq_true rfl⟩ ⟨Nat.le_of_ble_eq_true rfl, Nat.le_of_ble_eq_true rfl⟩ ?_
  refine x_if_ne F (tgt := 13) dT_fitsBelow_5 (by decide) (fun c1 => ?_) (fun c1 => ?_)
  · skip
    have c1 : 0 ≠ 0 := by
      have z : ¬ (0 = 0) := fun zz => c1 ((nI_eq (a := 0) (b := 0) (by omega) (by omega)).mpr zz)
      omega
    exact absurd c1 (by decide)
  · skip
    have c1 : 0 = 0 := by
      exact (nI_eq (a := 0) (b := 0) (by omega) (by omega)).mp c1
    refine x_lload_n F 2 dT_fitsBelow_8 rfl rfl ?_
    refine yS (n := 1) (As := [.long (co)]) F kmT_46 ktC_isChapter knC kcC_isChapter (by decide +kernel) dT_fitsBelow_9 (cC_isChapter l (nx) M (co)) rfl rfl (Nat.le_of_ble_eq_true rfl) ⟨Nat.le_of_ble_eq_true rfl, Nat.le_of_ble_eq_true rfl⟩ ⟨Nat.le_of_ble_eq_true rfl, Nat.le_of_ble_eq_true rfl⟩ ?_
    exact x_zret F hr (bI_nar _) dT_fitsBelow_12 (x_is_i _ _ _)
set_option maxHeartbeats 4000000 in
set_option maxRecDepth 100000 in
theorem cT_fitsBelow (l : Launch) (nx : Nat) (M : xH) (a : Nat) (cd : Nat → Int64) (ds ps ch wc : Nat → Int32) (wd : Nat → Int64) (n cp : Nat) (hT : tAt M a cd ds ps ch wc wd n cp) (j : Nat) (hj : j < n) (co : Int64) : xC l xcl yT_fitsBelow (xw (Cond.code yT_fitsBelow bT_fitsBelow 4 (some .boolean))) ({ frames := 1, cells := 0, slots := 0, locals := 26 } : Room) [.ref (a), .int (nI (j)), .long (co)] nx M (x_is (some (.int (bI ((! decide (co = cd j)) && decide (bw (cd j) 10 co = cd j))))) nx M) := by
  obtain ⟨h0, h1, h2, h3, h4, h5, h6, hz, hcp⟩ := id hT
  refine yC (by decide) (Nat.le_of_ble_eq_true rfl) ?_
  intro p e s m args below meth c D F hr hn
  refine x_aload_n F 0 dT_fitsBelow_0 rfl rfl ?_
  refine x_iload_n F 1 dT_fitsBelow_1 rfl rfl ?_
  refine yV (n := 1) (As := [.int (nI (j))]) (ci := 4) F kmT_38 kiT_has ksT_has knT kcT_has (by decide +kernel) dT_fitsBelow_2 (cT_has l (nx) M (a) cd ds ps ch wc wd n cp hT j hj) rfl h0 rfl rfl (Nat.le_of_ble_eq_true rfl) ⟨Nat.le_of_ble_eq_true rfl, Nat.le_of_ble_eq_true rfl⟩ ⟨Nat.le_of_ble_eq_true rfl, Nat.le_of_ble_eq_true rfl⟩ ?_
  refine x_if_ne F (tgt := 13) dT_fitsBelow_5 (by decide) (fun c1 => ?_) (fun c1 => ?_)
  · skip
    have c1 : 1 ≠ 0 := by
      have z : ¬ (1 = 0) := fun zz => c1 ((nI_eq (a := 1) (b := 0) (by omega) (by omega)).mpr zz)
      omega
    refine x_lload_n F 2 dT_fitsBelow_13 rfl rfl ?_
    refine x_aload_n F 0 dT_fitsBelow_14 rfl rfl ?_
    refine x_get (ci := 4) F 0 (x_in inT) rfl (by decide) (x_m kfT_9) dT_fitsBelow_15 h0 rfl ?_
    refine x_iload_n F 1 dT_fitsBelow_18 rfl rfl ?_
    refine x_lald F dT_fitsBelow_19 h1 (pk_in (j) (40) (by omega)) ?_
    refine xW.tol ((cd) (j)) (by rw [nI_clamp (by omega)]) ?_
    refine x_lcmp F dT_fitsBelow_20 ?_
    refine x_if_eq F (tgt := 41) dT_fitsBelow_21 (by decide) (fun c2 => ?_) (fun c2 => ?_)
    · skip
      have c2 : co = (cd) (j) := (lg_cmp_eq (co) ((cd) (j))).mp c2
      refine x_iconst F (v := nI (0)) dT_fitsBelow_41 (by decide) ?_
      exact x_zret F hr (by rfl) dT_fitsBelow_42 (x_f (by simp_all))
    · skip
      have c2 : ¬ co = (cd) (j) := fun z => c2 ((lg_cmp_eq (co) ((cd) (j))).mpr z)
      refine x_lload_n F 2 dT_fitsBelow_24 rfl rfl ?_
      refine x_aload_n F 0 dT_fitsBelow_25 rfl rfl ?_
      refine x_get (ci := 4) F 0 (x_in inT) rfl (by decide) (x_m kfT_9) dT_fitsBelow_26 h0 rfl ?_
      refine x_iload_n F 1 dT_fitsBelow_29 rfl rfl ?_
      refine x_lald F dT_fitsBelow_30 h1 (pk_in (j) (40) (by omega)) ?_
      refine xW.tol ((cd) (j)) (by rw [nI_clamp (by omega)]) ?_
      refine yS (n := 2) (As := [.long (co), .long ((cd) (j))]) F kmT_52 ktC_beginsWith knC kcC_beginsWith (by decide +kernel) dT_fitsBelow_31 (cC_beginsWith l (nx) M (co) ((cd) (j))) rfl rfl (Nat.le_of_ble_eq_true rfl) ⟨Nat.le_of_ble_eq_true rfl, Nat.le_of_ble_eq_true rfl⟩ ⟨Nat.le_of_ble_eq_true rfl, Nat.le_of_ble_eq_true rfl⟩ ?_
      refine x_if_eq F (tgt := 41) dT_fitsBelow_34 (by decide) (fun c3 => ?_) (fun c3 => ?_)
      · skip
        have c3 : (decide (bw ((cd) (j)) 10 (co) = ((cd) (j)))) = false := bI_0 c3
        refine x_iconst F (v := nI (0)) dT_fitsBelow_41 (by decide) ?_
        exact x_zret F hr (by rfl) dT_fitsBelow_42 (x_f (by simp_all))
      · skip
        have c3 : (decide (bw ((cd) (j)) 10 (co) = ((cd) (j)))) = true := bI_1 c3
        refine x_iconst F (v := nI (1)) dT_fitsBelow_37 (by decide) ?_
        refine x_goto F (tgt := 42) dT_fitsBelow_38 (by decide) ?_
        exact x_zret F hr (by rfl) dT_fitsBelow_42 (x_t (by simp_all))
  · skip
    have c1 : 1 = 0 := by
      exact (nI_eq (a := 1) (b := 0) (by omega) (by omega)).mp c1
    exact absurd c1 (by decide)
set_option maxHeartbeats 4000000 in
set_option maxRecDepth 100000 in
theorem cT_comesBehindLast0 (l : Launch) (nx : Nat) (M : xH) (a : Nat) (cd : Nat → Int64) (ds ps ch wc : Nat → Int32) (wd : Nat → Int64) (cp : Nat) (hT : tAt M a cd ds ps ch wc wd 0 cp) (co : Int64) : xC l xcl yT_comesBehindLast (xw (Cond.code yT_comesBehindLast bT_comesBehindLast 3 (some .boolean))) ({ frames := 0, cells := 0, slots := 0, locals := 0 } : Room) [.ref (a), .long (co)] nx M (x_is (some (.int (nI (1)))) nx M) := by
  obtain ⟨h0, h1, h2, h3, h4, h5, h6, hz, hcp⟩ := id hT
  refine yC (by decide) (Nat.le_of_ble_eq_true rfl) ?_
  intro p e s m args below meth c D F hr hn
  refine x_aload_n F 0 dT_comesBehindLast_0 rfl rfl ?_
  refine x_get (ci := 4) F 6 (x_in inT) rfl (by decide) (x_m kfT_31) dT_comesBehindLast_1 h0 rfl ?_
  refine x_if_eq F (tgt := 24) dT_comesBehindLast_4 (by decide) (fun c1 => ?_) (fun c1 => ?_)
  · skip
    have c1 : 0 = 0 := by
      exact (nI_eq (a := 0) (b := 0) (by omega) (by omega)).mp c1
    refine x_iconst F (v := nI (1)) dT_comesBehindLast_24 (by decide) ?_
    refine x_goto F (tgt := 29) dT_comesBehindLast_25 (by decide) ?_
    exact x_zret F hr (by rfl) dT_comesBehindLast_29 (x_is_i _ _ _)
  · skip
    have c1 : 0 ≠ 0 := by
      have z : ¬ (0 = 0) := fun zz => c1 ((nI_eq (a := 0) (b := 0) (by omega) (by omega)).mpr zz)
      omega
    exact absurd c1 (by decide)
set_option maxHeartbeats 4000000 in
set_option maxRecDepth 100000 in
theorem cT_comesBehindLastS (l : Launch) (nx : Nat) (M : xH) (a : Nat) (cd : Nat → Int64) (ds ps ch wc : Nat → Int32) (wd : Nat → Int64) (k cp : Nat) (hT : tAt M a cd ds ps ch wc wd (k + 1) cp) (co : Int64) : xC l xcl yT_comesBehindLast (xw (Cond.code yT_comesBehindLast bT_comesBehindLast 3 (some .boolean))) ({ frames := 2, cells := 0, slots := 0, locals := 51 } : Room) [.ref (a), .long (co)] nx M (x_is (some (.int (bI (cb co (cd k))))) nx M) := by
  obtain ⟨h0, h1, h2, h3, h4, h5, h6, hz, hcp⟩ := id hT
  refine yC (by decide) (Nat.le_of_ble_eq_true rfl) ?_
  intro p e s m args below meth c D F hr hn
  refine x_aload_n F 0 dT_comesBehindLast_0 rfl rfl ?_
  refine x_get (ci := 4) F 6 (x_in inT) rfl (by decide) (x_m kfT_31) dT_comesBehindLast_1 h0 rfl ?_
  refine x_if_eq F (tgt := 24) dT_comesBehindLast_4 (by decide) (fun c1 => ?_) (fun c1 => ?_)
  · skip
    have c1 : k + 1 = 0 := by
      exact (nI_eq (a := k + 1) (b := 0) (by omega) (by omega)).mp c1
    exact absurd c1 (by omega)
  · skip
    have c1 : k + 1 ≠ 0 := by
      have z : ¬ (k + 1 = 0) := fun zz => c1 ((nI_eq (a := k + 1) (b := 0) (by omega) (by omega)).mpr zz)
      omega
    refine x_lload_n F 1 dT_comesBehindLast_7 rfl rfl ?_
    refine x_aload_n F 0 dT_comesBehindLast_8 rfl rfl ?_
    refine x_aload_n F 0 dT_comesBehindLast_9 rfl rfl ?_
    refine x_get (ci := 4) F 6 (x_in inT) rfl (by decide) (x_m kfT_31) dT_comesBehindLast_10 h0 rfl ?_
    refine x_iconst F (v := nI (1)) dT_comesBehindLast_13 (by decide) ?_
    refine x_isub F dT_comesBehindLast_14 ?_
    refine xW.toi (nI (k)) (nI_pred k) ?_
    refine yV (n := 1) (As := [.int (nI (k))]) (ci := 4) F kmT_56 kiT_codeOf ksT_codeOf knT kcT_codeOf (by decide +kernel) dT_comesBehindLast_15 (cT_codeOf l (nx) M (a) cd ds ps ch wc wd (k + 1) cp hT k (by omega)) rfl h0 rfl rfl (Nat.le_of_ble_eq_true rfl) ⟨Nat.le_of_ble_eq_true rfl, Nat.le_of_ble_eq_true rfl⟩ ⟨Nat.le_of_ble_eq_true rfl, Nat.le_of_ble_eq_true rfl⟩ ?_
    refine yS (n := 2) (As := [.long (co), .long (cd (k))]) F kmT_60 ktC_comesBehind knC kcC_comesBehind (by decide +kernel) dT_comesBehindLast_18 (cC_comesBehind l (nx) M (co) (cd (k))) rfl rfl (Nat.le_of_ble_eq_true rfl) ⟨Nat.le_of_ble_eq_true rfl, Nat.le_of_ble_eq_true rfl⟩ ⟨Nat.le_of_ble_eq_true rfl, Nat.le_of_ble_eq_true rfl⟩ ?_
    refine x_if_eq F (tgt := 28) dT_comesBehindLast_21 (by decide) (fun c2 => ?_) (fun c2 => ?_)
    · skip
      have c2 : (cb (co) (cd (k))) = false := bI_0 c2
      refine x_iconst F (v := nI (0)) dT_comesBehindLast_28 (by decide) ?_
      exact x_zret F hr (by rfl) dT_comesBehindLast_29 (x_f (c2))
    · skip
      have c2 : (cb (co) (cd (k))) = true := bI_1 c2
      refine x_iconst F (v := nI (1)) dT_comesBehindLast_24 (by decide) ?_
      refine x_goto F (tgt := 29) dT_comesBehindLast_25 (by decide) ?_
      exact x_zret F hr (by rfl) dT_comesBehindLast_29 (x_t (c2))
set_option maxHeartbeats 4000000 in
set_option maxRecDepth 100000 in
theorem cT_hasWord (l : Launch) (nx : Nat) (M : xH) (a : Nat) (cd : Nat → Int64) (ds ps ch wc : Nat → Int32) (wd : Nat → Int64) (n cp : Nat) (hT : tAt M a cd ds ps ch wc wd n cp) (pf : Nat → Option Nat) (wn : Nat → Nat) (hW : tWf ps wc pf wn n) (j : Nat) (hj : j < n) (ww : Int64) : xC l xcl yT_hasWord (xw (Cond.code yT_hasWord bT_hasWord 5 (some .boolean))) ({ frames := 2, cells := 0, slots := 0, locals := 42 } : Room) [.ref (a), .int (nI (j)), .long (ww)] nx M (x_is (some (.int (bI (tHas wd wn ww j)))) nx M) := by
  obtain ⟨h0, h1, h2, h3, h4, h5, h6, hz, hcp⟩ := id hT
  have hw4 := (hW j hj).2.2.2
  refine yC (by decide) (Nat.le_of_ble_eq_true rfl) ?_
  intro p e s m args below meth c D F hr hn
  have loop : ∀ (k : Nat) (i : Nat), i + k = wn j → fi (fun i => decide (wd (j * 4 + i) = ww)) (wn j) 0 = fi (fun i => decide (wd (j * 4 + i) = ww)) k i → xW p l e ({ frames := 2, cells := 0, slots := 0, locals := 42 } : Room) s m args below meth c D xcl (x_A M nx) 5 (MQ below (x_Q D xcl (x_A M nx) (x_is (some (.int (bI (tHas wd wn ww j)))) nx M)) args s 0 0 (x_A M nx)) 0 0 (nx) M 3 [(4, .int (nI (i))), (0, .ref (a)), (1, .int (nI (j))), (2, .long (ww))] [] := by
    intro k
    induction k with
    | zero =>
      intro i hi hf
      refine x_iload F 0 dT_hasWord_3 rfl ?_
      refine x_aload_n F 1 dT_hasWord_5 rfl rfl ?_
      refine x_iload_n F 2 dT_hasWord_6 rfl rfl ?_
      refine yV (n := 1) (As := [.int (nI (j))]) (ci := 4) F kmT_92 kiT_wordsOf ksT_wordsOf knT kcT_wordsOf (by decide +kernel) dT_hasWord_7 (cT_wordsOf l (nx) M (a) cd ds ps ch wc wd n cp hT j hj) rfl h0 rfl rfl (Nat.le_of_ble_eq_true rfl) ⟨Nat.le_of_ble_eq_true rfl, Nat.le_of_ble_eq_true rfl⟩ ⟨Nat.le_of_ble_eq_true rfl, Nat.le_of_ble_eq_true rfl⟩ ?_
      refine xW.toi (nI (wn j)) (hW j hj).2.2.1 ?_
      refine x_icmp_ge F (tgt := 37) dT_hasWord_10 (by decide) (fun c1 => ?_) (fun c1 => ?_)
      · skip
        have c1 : wn j ≤ i := by
          exact (nI_leI (a := wn j) (b := i) (by omega) (by omega)).mp c1
        refine x_iconst F (v := nI (0)) dT_hasWord_37 (by decide) ?_
        exact x_zret F hr (by rfl) dT_hasWord_38 (x_f (by unfold tHas; rw [hf]; rfl))
      · skip
        have c1 : i < wn j := by
          have z : ¬ (wn j ≤ i) := fun zz => c1 ((nI_leI (a := wn j) (b := i) (by omega) (by omega)).mpr zz)
          omega
        exact absurd c1 (by omega)
    | succ k ih =>
      intro i hi hf
      refine x_iload F 0 dT_hasWord_3 rfl ?_
      refine x_aload_n F 1 dT_hasWord_5 rfl rfl ?_
      refine x_iload_n F 2 dT_hasWord_6 rfl rfl ?_
      refine yV (n := 1) (As := [.int (nI (j))]) (ci := 4) F kmT_92 kiT_wordsOf ksT_wordsOf knT kcT_wordsOf (by decide +kernel) dT_hasWord_7 (cT_wordsOf l (nx) M (a) cd ds ps ch wc wd n cp hT j hj) rfl h0 rfl rfl (Nat.le_of_ble_eq_true rfl) ⟨Nat.le_of_ble_eq_true rfl, Nat.le_of_ble_eq_true rfl⟩ ⟨Nat.le_of_ble_eq_true rfl, Nat.le_of_ble_eq_true rfl⟩ ?_
      refine xW.toi (nI (wn j)) (hW j hj).2.2.1 ?_
      refine x_icmp_ge F (tgt := 37) dT_hasWord_10 (by decide) (fun c2 => ?_) (fun c2 => ?_)
      · skip
        have c2 : wn j ≤ i := by
          exact (nI_leI (a := wn j) (b := i) (by omega) (by omega)).mp c2
        exact absurd c2 (by omega)
      · skip
        have c2 : i < wn j := by
          have z : ¬ (wn j ≤ i) := fun zz => c2 ((nI_leI (a := wn j) (b := i) (by omega) (by omega)).mpr zz)
          omega
        refine x_aload_n F 1 dT_hasWord_13 rfl rfl ?_
        refine x_get (ci := 4) F 5 (x_in inT) rfl (by decide) (x_m kfT_28) dT_hasWord_14 h0 rfl ?_
        refine x_iload_n F 2 dT_hasWord_17 rfl rfl ?_
        refine x_iconst F (v := nI (4)) dT_hasWord_18 (by decide) ?_
        refine x_imul F dT_hasWord_19 ?_
        refine xW.toi (nI ((j) * (4))) (pk_mul _ _) ?_
        refine x_iload F 0 dT_hasWord_20 rfl ?_
        refine x_iadd F dT_hasWord_22 ?_
        refine xW.toi (nI ((j) * (4) + i)) (nI_add _ _) ?_
        refine x_lald F dT_hasWord_23 h6 (pk_in ((j) * (4) + i) (160) (by omega)) ?_
        refine xW.tol ((wd) ((j) * (4) + i)) (by rw [nI_clamp (by omega)]) ?_
        refine x_lload_n F 3 dT_hasWord_24 rfl rfl ?_
        refine x_lcmp F dT_hasWord_25 ?_
        refine x_if_ne F (tgt := 31) dT_hasWord_26 (by decide) (fun c3 => ?_) (fun c3 => ?_)
        · skip
          have c3 : ¬ (wd) ((j) * (4) + i) = ww := fun z => c3 ((lg_cmp_eq ((wd) ((j) * (4) + i)) (ww)).mpr z)
          refine x_iinc F 0 [(4, .int (nI (i + 1))), (0, .ref (a)), (1, .int (nI (j))), (2, .long (ww))] dT_hasWord_31 rfl (nI_add (i) 1) (by decide) rfl ?_
          refine x_goto F (tgt := 3) dT_hasWord_34 (by decide) ?_
          exact ih (i + 1) (by omega) (by rw [hf, fi_s, if_neg (by simpa using c3)])
        · skip
          have c3 : (wd) ((j) * (4) + i) = ww := (lg_cmp_eq ((wd) ((j) * (4) + i)) (ww)).mp c3
          refine x_iconst F (v := nI (1)) dT_hasWord_29 (by decide) ?_
          exact x_zret F hr (by rfl) dT_hasWord_30 (x_t (by unfold tHas; rw [hf, fi_s, if_pos (by simpa using c3)]; rfl))
  refine x_iconst F (v := nI (0)) dT_hasWord_0 (by decide) ?_
  refine x_istore F [(4, .int (nI (0))), (0, .ref (a)), (1, .int (nI (j))), (2, .long (ww))] dT_hasWord_1 (by decide) rfl ?_
  exact loop (wn j) 0 (by omega) rfl
set_option maxHeartbeats 4000000 in
set_option maxRecDepth 100000 in
theorem cT_pointsFor (l : Launch) (nx : Nat) (M : xH) (a : Nat) (cd : Nat → Int64) (ds ps ch wc : Nat → Int32) (wd : Nat → Int64) (n cp : Nat) (hT : tAt M a cd ds ps ch wc wd n cp) (pf : Nat → Option Nat) (wn : Nat → Nat) (hW : tWf ps wc pf wn n) (j : Nat) (hj : j < n) (ww : Int64) : xC l xcl yT_pointsFor (xw (Cond.code yT_pointsFor bT_pointsFor 6 (some .int))) ({ frames := 3, cells := 0, slots := 0, locals := 66 } : Room) [.ref (a), .int (nI (j)), .long (ww)] nx M (x_is (some (.int (nI (tPts pf (tHas wd wn ww) j)))) nx M) := by
  obtain ⟨h0, h1, h2, h3, h4, h5, h6, hz, hcp⟩ := id hT
  refine yC (by decide) (Nat.le_of_ble_eq_true rfl) ?_
  intro p e s m args below meth c D F hr hn
  have hps := (hW j hj).1
  refine x_aload_n F 0 dT_pointsFor_0 rfl rfl ?_
  refine x_iload_n F 1 dT_pointsFor_1 rfl rfl ?_
  refine x_lload_n F 2 dT_pointsFor_2 rfl rfl ?_
  refine yV (n := 2) (As := [.int (nI (j)), .long (ww)]) (ci := 4) F kmT_85 kiT_hasWord ksT_hasWord knT kcT_hasWord (by decide +kernel) dT_pointsFor_3 (cT_hasWord l (nx) M (a) cd ds ps ch wc wd n cp hT pf wn hW j hj ww) rfl h0 rfl rfl (Nat.le_of_ble_eq_true rfl) ⟨Nat.le_of_ble_eq_true rfl, Nat.le_of_ble_eq_true rfl⟩ ⟨Nat.le_of_ble_eq_true rfl, Nat.le_of_ble_eq_true rfl⟩ ?_
  refine x_if_eq F (tgt := 11) dT_pointsFor_6 (by decide) (fun c1 => ?_) (fun c1 => ?_)
  · skip
    have c1 : (tHas wd wn ww j) = false := bI_0 c1
    have hq := c1
    have loop : ∀ (k : Nat) (i : Nat) (r : Option Nat), i + k = 4 → (∀ t, r = some t → t < n) → up pf (tHas wd wn ww) 4 (pf j) = up pf (tHas wd wn ww) k r → xW p l e ({ frames := 3, cells := 0, slots := 0, locals := 66 } : Room) s m args below meth c D xcl (x_A M nx) 6 (MQ below (x_Q D xcl (x_A M nx) (x_is (some (.int (nI (tPts pf (tHas wd wn ww) j)))) nx M)) args s 0 0 (x_A M nx)) 0 0 (nx) M 21 [(5, .int (nI (i))), (4, .int (oi (r))), (0, .ref (a)), (1, .int (nI (j))), (2, .long (ww))] [] := by
      intro k
      induction k with
      | zero =>
        intro i r hi hr2 hf
        refine x_iload F 0 dT_pointsFor_21 rfl ?_
        refine x_iconst F (v := nI (4)) dT_pointsFor_23 (by decide) ?_
        refine x_icmp_ge F (tgt := 59) dT_pointsFor_24 (by decide) (fun c2 => ?_) (fun c2 => ?_)
        · skip
          have c2 : 4 ≤ i := by
            exact (nI_leI (a := 4) (b := i) (by omega) (by omega)).mp c2
          refine x_iconst F (v := nI (0)) dT_pointsFor_59 (by decide) ?_
          exact x_iret F hr dT_pointsFor_60 (x_e (by rw [tPts, if_neg (by simpa using hq), hf]; rfl))
        · skip
          have c2 : i < 4 := by
            have z : ¬ (4 ≤ i) := fun zz => c2 ((nI_leI (a := 4) (b := i) (by omega) (by omega)).mpr zz)
            omega
          exact absurd c2 (by omega)
      | succ k ih =>
        intro i r hi hr2 hf
        refine x_iload F 0 dT_pointsFor_21 rfl ?_
        refine x_iconst F (v := nI (4)) dT_pointsFor_23 (by decide) ?_
        refine x_icmp_ge F (tgt := 59) dT_pointsFor_24 (by decide) (fun c3 => ?_) (fun c3 => ?_)
        · skip
          have c3 : 4 ≤ i := by
            exact (nI_leI (a := 4) (b := i) (by omega) (by omega)).mp c3
          exact absurd c3 (by omega)
        · skip
          have c3 : i < 4 := by
            have z : ¬ (4 ≤ i) := fun zz => c3 ((nI_leI (a := 4) (b := i) (by omega) (by omega)).mpr zz)
            omega
          rcases o_cases (r) with hs | ⟨t, hs⟩
          · skip
            refine xW.lve (lv' := [(5, .int (nI (i))), (4, .int ((-1))), (0, .ref (a)), (1, .int (nI (j))), (2, .long (ww))]) (by rw [hs]; rfl) ?_
            refine x_iload F 1 dT_pointsFor_27 rfl ?_
            refine x_iconst F (v := (-1)) dT_pointsFor_29 (by decide) ?_
            refine x_icmp_eq F (tgt := 59) dT_pointsFor_30 (by decide) (fun c4 => ?_) (fun c4 => ?_)
            · skip
              refine x_iconst F (v := nI (0)) dT_pointsFor_59 (by decide) ?_
              exact x_iret F hr dT_pointsFor_60 (x_e (by rw [tPts, if_neg (by simpa using hq), hf, hs]; rfl))
            · skip
              exact absurd rfl c4
          · skip
            have ht := hr2 t hs; have hps := (hW t ht).1
            refine xW.lve (lv' := [(5, .int (nI (i))), (4, .int (nI (t))), (0, .ref (a)), (1, .int (nI (j))), (2, .long (ww))]) (by rw [hs]; rfl) ?_
            refine x_iload F 1 dT_pointsFor_27 rfl ?_
            refine x_iconst F (v := (-1)) dT_pointsFor_29 (by decide) ?_
            refine x_icmp_eq F (tgt := 59) dT_pointsFor_30 (by decide) (fun c5 => ?_) (fun c5 => ?_)
            · skip
              exact absurd c5 (nI_m1 (by omega))
            · skip
              refine x_aload_n F 2 dT_pointsFor_33 rfl rfl ?_
              refine x_iload F 1 dT_pointsFor_34 rfl ?_
              refine x_lload_n F 4 dT_pointsFor_36 rfl rfl ?_
              refine yV (n := 2) (As := [.int (nI (t)), .long (ww)]) (ci := 4) F kmT_85 kiT_hasWord ksT_hasWord knT kcT_hasWord (by decide +kernel) dT_pointsFor_37 (cT_hasWord l (nx) M (a) cd ds ps ch wc wd n cp hT pf wn hW t ht ww) rfl h0 rfl rfl (Nat.le_of_ble_eq_true rfl) ⟨Nat.le_of_ble_eq_true rfl, Nat.le_of_ble_eq_true rfl⟩ ⟨Nat.le_of_ble_eq_true rfl, Nat.le_of_ble_eq_true rfl⟩ ?_
              refine x_if_eq F (tgt := 45) dT_pointsFor_40 (by decide) (fun c6 => ?_) (fun c6 => ?_)
              · skip
                have c6 : (tHas wd wn ww t) = false := bI_0 c6
                refine x_aload_n F 2 dT_pointsFor_45 rfl rfl ?_
                refine x_iload F 1 dT_pointsFor_46 rfl ?_
                refine yV (n := 1) (As := [.int (nI (t))]) (ci := 4) F kmT_89 kiT_parentOf ksT_parentOf knT kcT_parentOf (by decide +kernel) dT_pointsFor_48 (cT_parentOf l (nx) M (a) cd ds ps ch wc wd n cp hT t ht) rfl h0 rfl rfl (Nat.le_of_ble_eq_true rfl) ⟨Nat.le_of_ble_eq_true rfl, Nat.le_of_ble_eq_true rfl⟩ ⟨Nat.le_of_ble_eq_true rfl, Nat.le_of_ble_eq_true rfl⟩ ?_
                refine xW.toi (oi (pf t)) hps ?_
                refine x_istore F [(4, .int (oi (pf t))), (5, .int (nI (i))), (0, .ref (a)), (1, .int (nI (j))), (2, .long (ww))] dT_pointsFor_51 (by decide) rfl ?_
                refine x_iinc F 1 [(5, .int (nI (i + 1))), (4, .int (oi (pf t))), (0, .ref (a)), (1, .int (nI (j))), (2, .long (ww))] dT_pointsFor_53 rfl (nI_add (i) 1) (by decide) rfl ?_
                refine x_goto F (tgt := 21) dT_pointsFor_56 (by decide) ?_
                exact ih (i + 1) _ (by omega) (fun t2 h2 => Nat.lt_trans ((hW t ht).2.1 t2 h2) ht) (by rw [hf, hs, up_s, if_neg (by simpa using c6)])
              · skip
                have c6 : (tHas wd wn ww t) = true := bI_1 c6
                refine x_iconst F (v := nI (2)) dT_pointsFor_43 (by decide) ?_
                exact x_iret F hr dT_pointsFor_44 (x_e (by rw [tPts, if_neg (by simpa using hq), hf, hs, up_s, if_pos c6]; rfl))
    refine x_aload_n F 0 dT_pointsFor_11 rfl rfl ?_
    refine x_iload_n F 1 dT_pointsFor_12 rfl rfl ?_
    refine yV (n := 1) (As := [.int (nI (j))]) (ci := 4) F kmT_89 kiT_parentOf ksT_parentOf knT kcT_parentOf (by decide +kernel) dT_pointsFor_13 (cT_parentOf l (nx) M (a) cd ds ps ch wc wd n cp hT j hj) rfl h0 rfl rfl (Nat.le_of_ble_eq_true rfl) ⟨Nat.le_of_ble_eq_true rfl, Nat.le_of_ble_eq_true rfl⟩ ⟨Nat.le_of_ble_eq_true rfl, Nat.le_of_ble_eq_true rfl⟩ ?_
    refine xW.toi (oi (pf j)) hps ?_
    refine x_istore F [(4, .int (oi (pf j))), (0, .ref (a)), (1, .int (nI (j))), (2, .long (ww))] dT_pointsFor_16 (by decide) rfl ?_
    refine x_iconst F (v := nI (0)) dT_pointsFor_18 (by decide) ?_
    refine x_istore F [(5, .int (nI (0))), (4, .int (oi (pf j))), (0, .ref (a)), (1, .int (nI (j))), (2, .long (ww))] dT_pointsFor_19 (by decide) rfl ?_
    exact loop 4 0 _ rfl (fun t h => Nat.lt_trans ((hW j hj).2.1 t h) hj) rfl
  · skip
    have c1 : (tHas wd wn ww j) = true := bI_1 c1
    refine x_iconst F (v := nI (4)) dT_pointsFor_9 (by decide) ?_
    exact x_iret F hr dT_pointsFor_10 (x_e (by rw [tPts, if_pos c1]))
end
section
/-! Pairs at a: its four arrays of cap places at a + 1 .. a + 4 -/
def pAt (M : xH) (a cap : Nat) (ed : Nat → Int32) (cd : Nat → Int64) (mk : Nat → Int32) (ot : Nat → Int64) (n : Nat) : Prop :=
  M a = some (.inr (2, [.ref (a + 1), .ref (a + 2), .ref (a + 3), .ref (a + 4), .int (nI n)])) ∧ M (a + 1) = some (.inl (.int, cap, .inl ed)) ∧ M (a + 2) = some (.inl (.long, cap, .inr (.inl cd))) ∧ M (a + 3) = some (.inl (.int, cap, .inl mk)) ∧ M (a + 4) = some (.inl (.long, cap, .inr (.inl ot))) ∧ n ≤ cap ∧ cap ≤ 60
/-- a pair of an edition, a code, a mark (any if it is -1) -/
def pMt (ed : Nat → Int32) (cd : Nat → Int64) (mk : Nat → Int32) (e : Int32) (co : Int64) (mm : Int32) (j : Nat) : Bool := decide (ed j = e) && (decide (cd j = co) && (decide (mm = -1) || decide (mk j = mm)))
/-- how often P holds of the k from i on, and c beside -/
def ct (P : Nat → Bool) : Nat → Nat → Nat → Nat
  | 0, _, c => c
  | k + 1, i, c => if P i then ct P k (i + 1) (c + 1) else ct P k (i + 1) c
theorem ct_s (P : Nat → Bool) (k i c : Nat) : ct P (k + 1) i c = if P i then ct P k (i + 1) (c + 1) else ct P k (i + 1) c := rfl
/-- where the x-th (an int) of those with P stands, c of them being behind us -/
def nt (P : Nat → Bool) (x : Int32) : Nat → Nat → Nat → Option Nat
  | 0, _, _ => none
  | k + 1, i, c => if P i then (if nI c = x then some i else nt P x k (i + 1) (c + 1)) else nt P x k (i + 1) c
theorem nt_s (P : Nat → Bool) (x : Int32) (k i c : Nat) : nt P x (k + 1) i c = if P i then (if nI c = x then some i else nt P x k (i + 1) (c + 1)) else nt P x k (i + 1) c := rfl
theorem nt_lt {P : Nat → Bool} {x : Int32} {k i c j : Nat} (h : nt P x k i c = some j) : i ≤ j ∧ j < i + k ∧ P j = true := by
  induction k generalizing i c with
  | zero => cases h
  | succ k ih =>
    rw [nt_s] at h
    split at h
    · split at h
      · cases h; exact ⟨Nat.le_refl _, by omega, by assumption⟩
      · obtain ⟨a, b, d⟩ := ih h; exact ⟨by omega, by omega, d⟩
    · obtain ⟨a, b, d⟩ := ih h; exact ⟨by omega, by omega, d⟩
theorem dP_init_0 : decode bP_init 0 = .ok (.aload_n 0, 1) := by decide +kernel
theorem dP_init_1 : decode bP_init 1 = .ok (.invokespecial 3, 3) := by decide +kernel
theorem dP_init_4 : decode bP_init 4 = .ok (.aload_n 0, 1) := by decide +kernel
theorem dP_init_5 : decode bP_init 5 = .ok (.iconst 0, 1) := by decide +kernel
theorem dP_init_6 : decode bP_init 6 = .ok (.putfield 9, 3) := by decide +kernel
theorem dP_init_9 : decode bP_init 9 = .ok (.iload_n 1, 1) := by decide +kernel
theorem dP_init_10 : decode bP_init 10 = .ok (.iconst 0, 1) := by decide +kernel
theorem dP_init_11 : decode bP_init 11 = .ok (.invokestatic 15, 3) := by decide +kernel
theorem dP_init_14 : decode bP_init 14 = .ok (.istore_n 2, 1) := by decide +kernel
theorem dP_init_15 : decode bP_init 15 = .ok (.aload_n 0, 1) := by decide +kernel
theorem dP_init_16 : decode bP_init 16 = .ok (.iload_n 2, 1) := by decide +kernel
theorem dP_init_17 : decode bP_init 17 = .ok (.newarray .int, 2) := by decide +kernel
theorem dP_init_19 : decode bP_init 19 = .ok (.putfield 21, 3) := by decide +kernel
theorem dP_init_22 : decode bP_init 22 = .ok (.aload_n 0, 1) := by decide +kernel
theorem dP_init_23 : decode bP_init 23 = .ok (.iload_n 2, 1) := by decide +kernel
theorem dP_init_24 : decode bP_init 24 = .ok (.newarray .long, 2) := by decide +kernel
theorem dP_init_26 : decode bP_init 26 = .ok (.putfield 25, 3) := by decide +kernel
theorem dP_init_29 : decode bP_init 29 = .ok (.aload_n 0, 1) := by decide +kernel
theorem dP_init_30 : decode bP_init 30 = .ok (.iload_n 2, 1) := by decide +kernel
theorem dP_init_31 : decode bP_init 31 = .ok (.newarray .int, 2) := by decide +kernel
theorem dP_init_33 : decode bP_init 33 = .ok (.putfield 29, 3) := by decide +kernel
theorem dP_init_36 : decode bP_init 36 = .ok (.aload_n 0, 1) := by decide +kernel
theorem dP_init_37 : decode bP_init 37 = .ok (.iload_n 2, 1) := by decide +kernel
theorem dP_init_38 : decode bP_init 38 = .ok (.newarray .long, 2) := by decide +kernel
theorem dP_init_40 : decode bP_init 40 = .ok (.putfield 32, 3) := by decide +kernel
theorem dP_init_43 : decode bP_init 43 = .ok (.return_, 1) := by decide +kernel
theorem dP_size_0 : decode bP_size 0 = .ok (.aload_n 0, 1) := by decide +kernel
theorem dP_size_1 : decode bP_size 1 = .ok (.getfield 9, 3) := by decide +kernel
theorem dP_size_4 : decode bP_size 4 = .ok (.ireturn, 1) := by decide +kernel
theorem dP_isFull_0 : decode bP_isFull 0 = .ok (.aload_n 0, 1) := by decide +kernel
theorem dP_isFull_1 : decode bP_isFull 1 = .ok (.getfield 9, 3) := by decide +kernel
theorem dP_isFull_4 : decode bP_isFull 4 = .ok (.aload_n 0, 1) := by decide +kernel
theorem dP_isFull_5 : decode bP_isFull 5 = .ok (.getfield 25, 3) := by decide +kernel
theorem dP_isFull_8 : decode bP_isFull 8 = .ok (.arraylength, 1) := by decide +kernel
theorem dP_isFull_9 : decode bP_isFull 9 = .ok (.if_icmp .lt 7, 3) := by decide +kernel
theorem dP_isFull_12 : decode bP_isFull 12 = .ok (.iconst 1, 1) := by decide +kernel
theorem dP_isFull_13 : decode bP_isFull 13 = .ok (.goto 4, 3) := by decide +kernel
theorem dP_isFull_16 : decode bP_isFull 16 = .ok (.iconst 0, 1) := by decide +kernel
theorem dP_isFull_17 : decode bP_isFull 17 = .ok (.ireturn, 1) := by decide +kernel
theorem dP_holds_0 : decode bP_holds 0 = .ok (.iconst 0, 1) := by decide +kernel
theorem dP_holds_1 : decode bP_holds 1 = .ok (.istore 7, 2) := by decide +kernel
theorem dP_holds_3 : decode bP_holds 3 = .ok (.iload 7, 2) := by decide +kernel
theorem dP_holds_5 : decode bP_holds 5 = .ok (.aload_n 0, 1) := by decide +kernel
theorem dP_holds_6 : decode bP_holds 6 = .ok (.getfield 9, 3) := by decide +kernel
theorem dP_holds_9 : decode bP_holds 9 = .ok (.if_icmp .ge 37, 3) := by decide +kernel
theorem dP_holds_12 : decode bP_holds 12 = .ok (.aload_n 0, 1) := by decide +kernel
theorem dP_holds_13 : decode bP_holds 13 = .ok (.getfield 32, 3) := by decide +kernel
theorem dP_holds_16 : decode bP_holds 16 = .ok (.iload 7, 2) := by decide +kernel
theorem dP_holds_18 : decode bP_holds 18 = .ok (.laload, 1) := by decide +kernel
theorem dP_holds_19 : decode bP_holds 19 = .ok (.lload 5, 2) := by decide +kernel
theorem dP_holds_21 : decode bP_holds 21 = .ok (.lcmp, 1) := by decide +kernel
theorem dP_holds_22 : decode bP_holds 22 = .ok (.ifCond .ne 18, 3) := by decide +kernel
theorem dP_holds_25 : decode bP_holds 25 = .ok (.aload_n 0, 1) := by decide +kernel
theorem dP_holds_26 : decode bP_holds 26 = .ok (.iload 7, 2) := by decide +kernel
theorem dP_holds_28 : decode bP_holds 28 = .ok (.iload_n 1, 1) := by decide +kernel
theorem dP_holds_29 : decode bP_holds 29 = .ok (.lload_n 2, 1) := by decide +kernel
theorem dP_holds_30 : decode bP_holds 30 = .ok (.iload 4, 2) := by decide +kernel
theorem dP_holds_32 : decode bP_holds 32 = .ok (.invokevirtual 35, 3) := by decide +kernel
theorem dP_holds_35 : decode bP_holds 35 = .ok (.ifCond .eq 5, 3) := by decide +kernel
theorem dP_holds_38 : decode bP_holds 38 = .ok (.iconst 1, 1) := by decide +kernel
theorem dP_holds_39 : decode bP_holds 39 = .ok (.ireturn, 1) := by decide +kernel
theorem dP_holds_40 : decode bP_holds 40 = .ok (.iinc 7 1, 3) := by decide +kernel
theorem dP_holds_43 : decode bP_holds 43 = .ok (.goto (-40), 3) := by decide +kernel
theorem dP_holds_46 : decode bP_holds 46 = .ok (.iconst 0, 1) := by decide +kernel
theorem dP_holds_47 : decode bP_holds 47 = .ok (.ireturn, 1) := by decide +kernel
theorem dP_add_0 : decode bP_add 0 = .ok (.aload_n 0, 1) := by decide +kernel
theorem dP_add_1 : decode bP_add 1 = .ok (.invokevirtual 39, 3) := by decide +kernel
theorem dP_add_4 : decode bP_add 4 = .ok (.ifCond .eq 4, 3) := by decide +kernel
theorem dP_add_7 : decode bP_add 7 = .ok (.return_, 1) := by decide +kernel
theorem dP_add_8 : decode bP_add 8 = .ok (.aload_n 0, 1) := by decide +kernel
theorem dP_add_9 : decode bP_add 9 = .ok (.getfield 21, 3) := by decide +kernel
theorem dP_add_12 : decode bP_add 12 = .ok (.aload_n 0, 1) := by decide +kernel
theorem dP_add_13 : decode bP_add 13 = .ok (.getfield 9, 3) := by decide +kernel
theorem dP_add_16 : decode bP_add 16 = .ok (.iload_n 1, 1) := by decide +kernel
theorem dP_add_17 : decode bP_add 17 = .ok (.iastore, 1) := by decide +kernel
theorem dP_add_18 : decode bP_add 18 = .ok (.aload_n 0, 1) := by decide +kernel
theorem dP_add_19 : decode bP_add 19 = .ok (.getfield 25, 3) := by decide +kernel
theorem dP_add_22 : decode bP_add 22 = .ok (.aload_n 0, 1) := by decide +kernel
theorem dP_add_23 : decode bP_add 23 = .ok (.getfield 9, 3) := by decide +kernel
theorem dP_add_26 : decode bP_add 26 = .ok (.lload_n 2, 1) := by decide +kernel
theorem dP_add_27 : decode bP_add 27 = .ok (.lastore, 1) := by decide +kernel
theorem dP_add_28 : decode bP_add 28 = .ok (.aload_n 0, 1) := by decide +kernel
theorem dP_add_29 : decode bP_add 29 = .ok (.getfield 29, 3) := by decide +kernel
theorem dP_add_32 : decode bP_add 32 = .ok (.aload_n 0, 1) := by decide +kernel
theorem dP_add_33 : decode bP_add 33 = .ok (.getfield 9, 3) := by decide +kernel
theorem dP_add_36 : decode bP_add 36 = .ok (.iload 4, 2) := by decide +kernel
theorem dP_add_38 : decode bP_add 38 = .ok (.iastore, 1) := by decide +kernel
theorem dP_add_39 : decode bP_add 39 = .ok (.aload_n 0, 1) := by decide +kernel
theorem dP_add_40 : decode bP_add 40 = .ok (.getfield 32, 3) := by decide +kernel
theorem dP_add_43 : decode bP_add 43 = .ok (.aload_n 0, 1) := by decide +kernel
theorem dP_add_44 : decode bP_add 44 = .ok (.getfield 9, 3) := by decide +kernel
theorem dP_add_47 : decode bP_add 47 = .ok (.lload 5, 2) := by decide +kernel
theorem dP_add_49 : decode bP_add 49 = .ok (.lastore, 1) := by decide +kernel
theorem dP_add_50 : decode bP_add 50 = .ok (.aload_n 0, 1) := by decide +kernel
theorem dP_add_51 : decode bP_add 51 = .ok (.dup, 1) := by decide +kernel
theorem dP_add_52 : decode bP_add 52 = .ok (.getfield 9, 3) := by decide +kernel
theorem dP_add_55 : decode bP_add 55 = .ok (.iconst 1, 1) := by decide +kernel
theorem dP_add_56 : decode bP_add 56 = .ok (.iadd, 1) := by decide +kernel
theorem dP_add_57 : decode bP_add 57 = .ok (.putfield 9, 3) := by decide +kernel
theorem dP_add_60 : decode bP_add 60 = .ok (.return_, 1) := by decide +kernel
theorem dP_matches_0 : decode bP_matches 0 = .ok (.aload_n 0, 1) := by decide +kernel
theorem dP_matches_1 : decode bP_matches 1 = .ok (.iload_n 1, 1) := by decide +kernel
theorem dP_matches_2 : decode bP_matches 2 = .ok (.invokevirtual 43, 3) := by decide +kernel
theorem dP_matches_5 : decode bP_matches 5 = .ok (.ifCond .eq 45, 3) := by decide +kernel
theorem dP_matches_8 : decode bP_matches 8 = .ok (.aload_n 0, 1) := by decide +kernel
theorem dP_matches_9 : decode bP_matches 9 = .ok (.getfield 21, 3) := by decide +kernel
theorem dP_matches_12 : decode bP_matches 12 = .ok (.iload_n 1, 1) := by decide +kernel
theorem dP_matches_13 : decode bP_matches 13 = .ok (.iaload, 1) := by decide +kernel
theorem dP_matches_14 : decode bP_matches 14 = .ok (.iload_n 2, 1) := by decide +kernel
theorem dP_matches_15 : decode bP_matches 15 = .ok (.if_icmp .ne 35, 3) := by decide +kernel
theorem dP_matches_18 : decode bP_matches 18 = .ok (.aload_n 0, 1) := by decide +kernel
theorem dP_matches_19 : decode bP_matches 19 = .ok (.getfield 25, 3) := by decide +kernel
theorem dP_matches_22 : decode bP_matches 22 = .ok (.iload_n 1, 1) := by decide +kernel
theorem dP_matches_23 : decode bP_matches 23 = .ok (.laload, 1) := by decide +kernel
theorem dP_matches_24 : decode bP_matches 24 = .ok (.lload_n 3, 1) := by decide +kernel
theorem dP_matches_25 : decode bP_matches 25 = .ok (.lcmp, 1) := by decide +kernel
theorem dP_matches_26 : decode bP_matches 26 = .ok (.ifCond .ne 24, 3) := by decide +kernel
theorem dP_matches_29 : decode bP_matches 29 = .ok (.iload 5, 2) := by decide +kernel
theorem dP_matches_31 : decode bP_matches 31 = .ok (.iconst (-1), 1) := by decide +kernel
theorem dP_matches_32 : decode bP_matches 32 = .ok (.if_icmp .eq 14, 3) := by decide +kernel
theorem dP_matches_35 : decode bP_matches 35 = .ok (.aload_n 0, 1) := by decide +kernel
theorem dP_matches_36 : decode bP_matches 36 = .ok (.getfield 29, 3) := by decide +kernel
theorem dP_matches_39 : decode bP_matches 39 = .ok (.iload_n 1, 1) := by decide +kernel
theorem dP_matches_40 : decode bP_matches 40 = .ok (.iaload, 1) := by decide +kernel
theorem dP_matches_41 : decode bP_matches 41 = .ok (.iload 5, 2) := by decide +kernel
theorem dP_matches_43 : decode bP_matches 43 = .ok (.if_icmp .ne 7, 3) := by decide +kernel
theorem dP_matches_46 : decode bP_matches 46 = .ok (.iconst 1, 1) := by decide +kernel
theorem dP_matches_47 : decode bP_matches 47 = .ok (.goto 4, 3) := by decide +kernel
theorem dP_matches_50 : decode bP_matches 50 = .ok (.iconst 0, 1) := by decide +kernel
theorem dP_matches_51 : decode bP_matches 51 = .ok (.ireturn, 1) := by decide +kernel
theorem dP_nth_0 : decode bP_nth 0 = .ok (.iconst 0, 1) := by decide +kernel
theorem dP_nth_1 : decode bP_nth 1 = .ok (.istore 6, 2) := by decide +kernel
theorem dP_nth_3 : decode bP_nth 3 = .ok (.iconst 0, 1) := by decide +kernel
theorem dP_nth_4 : decode bP_nth 4 = .ok (.istore 7, 2) := by decide +kernel
theorem dP_nth_6 : decode bP_nth 6 = .ok (.iload 7, 2) := by decide +kernel
theorem dP_nth_8 : decode bP_nth 8 = .ok (.aload_n 0, 1) := by decide +kernel
theorem dP_nth_9 : decode bP_nth 9 = .ok (.getfield 9, 3) := by decide +kernel
theorem dP_nth_12 : decode bP_nth 12 = .ok (.if_icmp .ge 35, 3) := by decide +kernel
theorem dP_nth_15 : decode bP_nth 15 = .ok (.aload_n 0, 1) := by decide +kernel
theorem dP_nth_16 : decode bP_nth 16 = .ok (.iload 7, 2) := by decide +kernel
theorem dP_nth_18 : decode bP_nth 18 = .ok (.iload_n 1, 1) := by decide +kernel
theorem dP_nth_19 : decode bP_nth 19 = .ok (.lload_n 2, 1) := by decide +kernel
theorem dP_nth_20 : decode bP_nth 20 = .ok (.iload 4, 2) := by decide +kernel
theorem dP_nth_22 : decode bP_nth 22 = .ok (.invokevirtual 35, 3) := by decide +kernel
theorem dP_nth_25 : decode bP_nth 25 = .ok (.ifCond .eq 16, 3) := by decide +kernel
theorem dP_nth_28 : decode bP_nth 28 = .ok (.iload 6, 2) := by decide +kernel
theorem dP_nth_30 : decode bP_nth 30 = .ok (.iload 5, 2) := by decide +kernel
theorem dP_nth_32 : decode bP_nth 32 = .ok (.if_icmp .ne 6, 3) := by decide +kernel
theorem dP_nth_35 : decode bP_nth 35 = .ok (.iload 7, 2) := by decide +kernel
theorem dP_nth_37 : decode bP_nth 37 = .ok (.ireturn, 1) := by decide +kernel
theorem dP_nth_38 : decode bP_nth 38 = .ok (.iinc 6 1, 3) := by decide +kernel
theorem dP_nth_41 : decode bP_nth 41 = .ok (.iinc 7 1, 3) := by decide +kernel
theorem dP_nth_44 : decode bP_nth 44 = .ok (.goto (-38), 3) := by decide +kernel
theorem dP_nth_47 : decode bP_nth 47 = .ok (.iconst (-1), 1) := by decide +kernel
theorem dP_nth_48 : decode bP_nth 48 = .ok (.ireturn, 1) := by decide +kernel
theorem dP_markAt_0 : decode bP_markAt 0 = .ok (.aload_n 0, 1) := by decide +kernel
theorem dP_markAt_1 : decode bP_markAt 1 = .ok (.iload_n 1, 1) := by decide +kernel
theorem dP_markAt_2 : decode bP_markAt 2 = .ok (.invokevirtual 43, 3) := by decide +kernel
theorem dP_markAt_5 : decode bP_markAt 5 = .ok (.ifCond .eq 12, 3) := by decide +kernel
theorem dP_markAt_8 : decode bP_markAt 8 = .ok (.aload_n 0, 1) := by decide +kernel
theorem dP_markAt_9 : decode bP_markAt 9 = .ok (.getfield 29, 3) := by decide +kernel
theorem dP_markAt_12 : decode bP_markAt 12 = .ok (.iload_n 1, 1) := by decide +kernel
theorem dP_markAt_13 : decode bP_markAt 13 = .ok (.iaload, 1) := by decide +kernel
theorem dP_markAt_14 : decode bP_markAt 14 = .ok (.goto 4, 3) := by decide +kernel
theorem dP_markAt_17 : decode bP_markAt 17 = .ok (.iconst (-1), 1) := by decide +kernel
theorem dP_markAt_18 : decode bP_markAt 18 = .ok (.ireturn, 1) := by decide +kernel
theorem dP_otherAt_0 : decode bP_otherAt 0 = .ok (.aload_n 0, 1) := by decide +kernel
theorem dP_otherAt_1 : decode bP_otherAt 1 = .ok (.iload_n 1, 1) := by decide +kernel
theorem dP_otherAt_2 : decode bP_otherAt 2 = .ok (.invokevirtual 43, 3) := by decide +kernel
theorem dP_otherAt_5 : decode bP_otherAt 5 = .ok (.ifCond .eq 12, 3) := by decide +kernel
theorem dP_otherAt_8 : decode bP_otherAt 8 = .ok (.aload_n 0, 1) := by decide +kernel
theorem dP_otherAt_9 : decode bP_otherAt 9 = .ok (.getfield 32, 3) := by decide +kernel
theorem dP_otherAt_12 : decode bP_otherAt 12 = .ok (.iload_n 1, 1) := by decide +kernel
theorem dP_otherAt_13 : decode bP_otherAt 13 = .ok (.laload, 1) := by decide +kernel
theorem dP_otherAt_14 : decode bP_otherAt 14 = .ok (.goto 4, 3) := by decide +kernel
theorem dP_otherAt_17 : decode bP_otherAt 17 = .ok (.lconst 0, 1) := by decide +kernel
theorem dP_otherAt_18 : decode bP_otherAt 18 = .ok (.lreturn, 1) := by decide +kernel
theorem dP_sizeFrom_0 : decode bP_sizeFrom 0 = .ok (.iconst 0, 1) := by decide +kernel
theorem dP_sizeFrom_1 : decode bP_sizeFrom 1 = .ok (.istore_n 2, 1) := by decide +kernel
theorem dP_sizeFrom_2 : decode bP_sizeFrom 2 = .ok (.iconst 0, 1) := by decide +kernel
theorem dP_sizeFrom_3 : decode bP_sizeFrom 3 = .ok (.istore_n 3, 1) := by decide +kernel
theorem dP_sizeFrom_4 : decode bP_sizeFrom 4 = .ok (.iload_n 3, 1) := by decide +kernel
theorem dP_sizeFrom_5 : decode bP_sizeFrom 5 = .ok (.aload_n 0, 1) := by decide +kernel
theorem dP_sizeFrom_6 : decode bP_sizeFrom 6 = .ok (.getfield 9, 3) := by decide +kernel
theorem dP_sizeFrom_9 : decode bP_sizeFrom 9 = .ok (.if_icmp .ge 22, 3) := by decide +kernel
theorem dP_sizeFrom_12 : decode bP_sizeFrom 12 = .ok (.aload_n 0, 1) := by decide +kernel
theorem dP_sizeFrom_13 : decode bP_sizeFrom 13 = .ok (.getfield 21, 3) := by decide +kernel
theorem dP_sizeFrom_16 : decode bP_sizeFrom 16 = .ok (.iload_n 3, 1) := by decide +kernel
theorem dP_sizeFrom_17 : decode bP_sizeFrom 17 = .ok (.iaload, 1) := by decide +kernel
theorem dP_sizeFrom_18 : decode bP_sizeFrom 18 = .ok (.iload_n 1, 1) := by decide +kernel
theorem dP_sizeFrom_19 : decode bP_sizeFrom 19 = .ok (.if_icmp .ne 6, 3) := by decide +kernel
theorem dP_sizeFrom_22 : decode bP_sizeFrom 22 = .ok (.iinc 2 1, 3) := by decide +kernel
theorem dP_sizeFrom_25 : decode bP_sizeFrom 25 = .ok (.iinc 3 1, 3) := by decide +kernel
theorem dP_sizeFrom_28 : decode bP_sizeFrom 28 = .ok (.goto (-24), 3) := by decide +kernel
theorem dP_sizeFrom_31 : decode bP_sizeFrom 31 = .ok (.iload_n 2, 1) := by decide +kernel
theorem dP_sizeFrom_32 : decode bP_sizeFrom 32 = .ok (.ireturn, 1) := by decide +kernel
theorem dP_sizeTo_0 : decode bP_sizeTo 0 = .ok (.iconst 0, 1) := by decide +kernel
theorem dP_sizeTo_1 : decode bP_sizeTo 1 = .ok (.istore 5, 2) := by decide +kernel
theorem dP_sizeTo_3 : decode bP_sizeTo 3 = .ok (.iconst 0, 1) := by decide +kernel
theorem dP_sizeTo_4 : decode bP_sizeTo 4 = .ok (.istore 6, 2) := by decide +kernel
theorem dP_sizeTo_6 : decode bP_sizeTo 6 = .ok (.iload 6, 2) := by decide +kernel
theorem dP_sizeTo_8 : decode bP_sizeTo 8 = .ok (.aload_n 0, 1) := by decide +kernel
theorem dP_sizeTo_9 : decode bP_sizeTo 9 = .ok (.getfield 9, 3) := by decide +kernel
theorem dP_sizeTo_12 : decode bP_sizeTo 12 = .ok (.if_icmp .ge 46, 3) := by decide +kernel
theorem dP_sizeTo_15 : decode bP_sizeTo 15 = .ok (.aload_n 0, 1) := by decide +kernel
theorem dP_sizeTo_16 : decode bP_sizeTo 16 = .ok (.getfield 21, 3) := by decide +kernel
theorem dP_sizeTo_19 : decode bP_sizeTo 19 = .ok (.iload 6, 2) := by decide +kernel
theorem dP_sizeTo_21 : decode bP_sizeTo 21 = .ok (.iaload, 1) := by decide +kernel
theorem dP_sizeTo_22 : decode bP_sizeTo 22 = .ok (.iload_n 1, 1) := by decide +kernel
theorem dP_sizeTo_23 : decode bP_sizeTo 23 = .ok (.if_icmp .ne 29, 3) := by decide +kernel
theorem dP_sizeTo_26 : decode bP_sizeTo 26 = .ok (.aload_n 0, 1) := by decide +kernel
theorem dP_sizeTo_27 : decode bP_sizeTo 27 = .ok (.getfield 29, 3) := by decide +kernel
theorem dP_sizeTo_30 : decode bP_sizeTo 30 = .ok (.iload 6, 2) := by decide +kernel
theorem dP_sizeTo_32 : decode bP_sizeTo 32 = .ok (.iaload, 1) := by decide +kernel
theorem dP_sizeTo_33 : decode bP_sizeTo 33 = .ok (.iload_n 2, 1) := by decide +kernel
theorem dP_sizeTo_34 : decode bP_sizeTo 34 = .ok (.if_icmp .ne 18, 3) := by decide +kernel
theorem dP_sizeTo_37 : decode bP_sizeTo 37 = .ok (.aload_n 0, 1) := by decide +kernel
theorem dP_sizeTo_38 : decode bP_sizeTo 38 = .ok (.getfield 32, 3) := by decide +kernel
theorem dP_sizeTo_41 : decode bP_sizeTo 41 = .ok (.iload 6, 2) := by decide +kernel
theorem dP_sizeTo_43 : decode bP_sizeTo 43 = .ok (.laload, 1) := by decide +kernel
theorem dP_sizeTo_44 : decode bP_sizeTo 44 = .ok (.lload_n 3, 1) := by decide +kernel
theorem dP_sizeTo_45 : decode bP_sizeTo 45 = .ok (.lcmp, 1) := by decide +kernel
theorem dP_sizeTo_46 : decode bP_sizeTo 46 = .ok (.ifCond .ne 6, 3) := by decide +kernel
theorem dP_sizeTo_49 : decode bP_sizeTo 49 = .ok (.iinc 5 1, 3) := by decide +kernel
theorem dP_sizeTo_52 : decode bP_sizeTo 52 = .ok (.iinc 6 1, 3) := by decide +kernel
theorem dP_sizeTo_55 : decode bP_sizeTo 55 = .ok (.goto (-49), 3) := by decide +kernel
theorem dP_sizeTo_58 : decode bP_sizeTo 58 = .ok (.iload 5, 2) := by decide +kernel
theorem dP_sizeTo_60 : decode bP_sizeTo 60 = .ok (.ireturn, 1) := by decide +kernel
theorem dP_dropFrom_0 : decode bP_dropFrom 0 = .ok (.aload_n 0, 1) := by decide +kernel
theorem dP_dropFrom_1 : decode bP_dropFrom 1 = .ok (.getfield 9, 3) := by decide +kernel
theorem dP_dropFrom_4 : decode bP_dropFrom 4 = .ok (.iconst 1, 1) := by decide +kernel
theorem dP_dropFrom_5 : decode bP_dropFrom 5 = .ok (.isub, 1) := by decide +kernel
theorem dP_dropFrom_6 : decode bP_dropFrom 6 = .ok (.istore_n 2, 1) := by decide +kernel
theorem dP_dropFrom_7 : decode bP_dropFrom 7 = .ok (.iload_n 2, 1) := by decide +kernel
theorem dP_dropFrom_8 : decode bP_dropFrom 8 = .ok (.ifCond .lt 24, 3) := by decide +kernel
theorem dP_dropFrom_11 : decode bP_dropFrom 11 = .ok (.aload_n 0, 1) := by decide +kernel
theorem dP_dropFrom_12 : decode bP_dropFrom 12 = .ok (.getfield 21, 3) := by decide +kernel
theorem dP_dropFrom_15 : decode bP_dropFrom 15 = .ok (.iload_n 2, 1) := by decide +kernel
theorem dP_dropFrom_16 : decode bP_dropFrom 16 = .ok (.iaload, 1) := by decide +kernel
theorem dP_dropFrom_17 : decode bP_dropFrom 17 = .ok (.iload_n 1, 1) := by decide +kernel
theorem dP_dropFrom_18 : decode bP_dropFrom 18 = .ok (.if_icmp .ne 8, 3) := by decide +kernel
theorem dP_dropFrom_21 : decode bP_dropFrom 21 = .ok (.aload_n 0, 1) := by decide +kernel
theorem dP_dropFrom_22 : decode bP_dropFrom 22 = .ok (.iload_n 2, 1) := by decide +kernel
theorem dP_dropFrom_23 : decode bP_dropFrom 23 = .ok (.invokevirtual 47, 3) := by decide +kernel
theorem dP_dropFrom_26 : decode bP_dropFrom 26 = .ok (.iinc 2 (-1), 3) := by decide +kernel
theorem dP_dropFrom_29 : decode bP_dropFrom 29 = .ok (.goto (-22), 3) := by decide +kernel
theorem dP_dropFrom_32 : decode bP_dropFrom 32 = .ok (.return_, 1) := by decide +kernel
theorem dP_dropMarked_0 : decode bP_dropMarked 0 = .ok (.aload_n 0, 1) := by decide +kernel
theorem dP_dropMarked_1 : decode bP_dropMarked 1 = .ok (.getfield 9, 3) := by decide +kernel
theorem dP_dropMarked_4 : decode bP_dropMarked 4 = .ok (.iconst 1, 1) := by decide +kernel
theorem dP_dropMarked_5 : decode bP_dropMarked 5 = .ok (.isub, 1) := by decide +kernel
theorem dP_dropMarked_6 : decode bP_dropMarked 6 = .ok (.istore_n 2, 1) := by decide +kernel
theorem dP_dropMarked_7 : decode bP_dropMarked 7 = .ok (.iload_n 2, 1) := by decide +kernel
theorem dP_dropMarked_8 : decode bP_dropMarked 8 = .ok (.ifCond .lt 24, 3) := by decide +kernel
theorem dP_dropMarked_11 : decode bP_dropMarked 11 = .ok (.aload_n 0, 1) := by decide +kernel
theorem dP_dropMarked_12 : decode bP_dropMarked 12 = .ok (.getfield 29, 3) := by decide +kernel
theorem dP_dropMarked_15 : decode bP_dropMarked 15 = .ok (.iload_n 2, 1) := by decide +kernel
theorem dP_dropMarked_16 : decode bP_dropMarked 16 = .ok (.iaload, 1) := by decide +kernel
theorem dP_dropMarked_17 : decode bP_dropMarked 17 = .ok (.iload_n 1, 1) := by decide +kernel
theorem dP_dropMarked_18 : decode bP_dropMarked 18 = .ok (.if_icmp .ne 8, 3) := by decide +kernel
theorem dP_dropMarked_21 : decode bP_dropMarked 21 = .ok (.aload_n 0, 1) := by decide +kernel
theorem dP_dropMarked_22 : decode bP_dropMarked 22 = .ok (.iload_n 2, 1) := by decide +kernel
theorem dP_dropMarked_23 : decode bP_dropMarked 23 = .ok (.invokevirtual 47, 3) := by decide +kernel
theorem dP_dropMarked_26 : decode bP_dropMarked 26 = .ok (.iinc 2 (-1), 3) := by decide +kernel
theorem dP_dropMarked_29 : decode bP_dropMarked 29 = .ok (.goto (-22), 3) := by decide +kernel
theorem dP_dropMarked_32 : decode bP_dropMarked 32 = .ok (.return_, 1) := by decide +kernel
theorem dP_drop_0 : decode bP_drop 0 = .ok (.iload_n 1, 1) := by decide +kernel
theorem dP_drop_1 : decode bP_drop 1 = .ok (.istore_n 2, 1) := by decide +kernel
theorem dP_drop_2 : decode bP_drop 2 = .ok (.iload_n 2, 1) := by decide +kernel
theorem dP_drop_3 : decode bP_drop 3 = .ok (.ifCond .lt 75, 3) := by decide +kernel
theorem dP_drop_6 : decode bP_drop 6 = .ok (.iload_n 2, 1) := by decide +kernel
theorem dP_drop_7 : decode bP_drop 7 = .ok (.aload_n 0, 1) := by decide +kernel
theorem dP_drop_8 : decode bP_drop 8 = .ok (.getfield 9, 3) := by decide +kernel
theorem dP_drop_11 : decode bP_drop 11 = .ok (.iconst 1, 1) := by decide +kernel
theorem dP_drop_12 : decode bP_drop 12 = .ok (.isub, 1) := by decide +kernel
theorem dP_drop_13 : decode bP_drop 13 = .ok (.if_icmp .ge 65, 3) := by decide +kernel
theorem dP_drop_16 : decode bP_drop 16 = .ok (.aload_n 0, 1) := by decide +kernel
theorem dP_drop_17 : decode bP_drop 17 = .ok (.getfield 21, 3) := by decide +kernel
theorem dP_drop_20 : decode bP_drop 20 = .ok (.iload_n 2, 1) := by decide +kernel
theorem dP_drop_21 : decode bP_drop 21 = .ok (.aload_n 0, 1) := by decide +kernel
theorem dP_drop_22 : decode bP_drop 22 = .ok (.getfield 21, 3) := by decide +kernel
theorem dP_drop_25 : decode bP_drop 25 = .ok (.iload_n 2, 1) := by decide +kernel
theorem dP_drop_26 : decode bP_drop 26 = .ok (.iconst 1, 1) := by decide +kernel
theorem dP_drop_27 : decode bP_drop 27 = .ok (.iadd, 1) := by decide +kernel
theorem dP_drop_28 : decode bP_drop 28 = .ok (.iaload, 1) := by decide +kernel
theorem dP_drop_29 : decode bP_drop 29 = .ok (.iastore, 1) := by decide +kernel
theorem dP_drop_30 : decode bP_drop 30 = .ok (.aload_n 0, 1) := by decide +kernel
theorem dP_drop_31 : decode bP_drop 31 = .ok (.getfield 25, 3) := by decide +kernel
theorem dP_drop_34 : decode bP_drop 34 = .ok (.iload_n 2, 1) := by decide +kernel
theorem dP_drop_35 : decode bP_drop 35 = .ok (.aload_n 0, 1) := by decide +kernel
theorem dP_drop_36 : decode bP_drop 36 = .ok (.getfield 25, 3) := by decide +kernel
theorem dP_drop_39 : decode bP_drop 39 = .ok (.iload_n 2, 1) := by decide +kernel
theorem dP_drop_40 : decode bP_drop 40 = .ok (.iconst 1, 1) := by decide +kernel
theorem dP_drop_41 : decode bP_drop 41 = .ok (.iadd, 1) := by decide +kernel
theorem dP_drop_42 : decode bP_drop 42 = .ok (.laload, 1) := by decide +kernel
theorem dP_drop_43 : decode bP_drop 43 = .ok (.lastore, 1) := by decide +kernel
theorem dP_drop_44 : decode bP_drop 44 = .ok (.aload_n 0, 1) := by decide +kernel
theorem dP_drop_45 : decode bP_drop 45 = .ok (.getfield 29, 3) := by decide +kernel
theorem dP_drop_48 : decode bP_drop 48 = .ok (.iload_n 2, 1) := by decide +kernel
theorem dP_drop_49 : decode bP_drop 49 = .ok (.aload_n 0, 1) := by decide +kernel
theorem dP_drop_50 : decode bP_drop 50 = .ok (.getfield 29, 3) := by decide +kernel
theorem dP_drop_53 : decode bP_drop 53 = .ok (.iload_n 2, 1) := by decide +kernel
theorem dP_drop_54 : decode bP_drop 54 = .ok (.iconst 1, 1) := by decide +kernel
theorem dP_drop_55 : decode bP_drop 55 = .ok (.iadd, 1) := by decide +kernel
theorem dP_drop_56 : decode bP_drop 56 = .ok (.iaload, 1) := by decide +kernel
theorem dP_drop_57 : decode bP_drop 57 = .ok (.iastore, 1) := by decide +kernel
theorem dP_drop_58 : decode bP_drop 58 = .ok (.aload_n 0, 1) := by decide +kernel
theorem dP_drop_59 : decode bP_drop 59 = .ok (.getfield 32, 3) := by decide +kernel
theorem dP_drop_62 : decode bP_drop 62 = .ok (.iload_n 2, 1) := by decide +kernel
theorem dP_drop_63 : decode bP_drop 63 = .ok (.aload_n 0, 1) := by decide +kernel
theorem dP_drop_64 : decode bP_drop 64 = .ok (.getfield 32, 3) := by decide +kernel
theorem dP_drop_67 : decode bP_drop 67 = .ok (.iload_n 2, 1) := by decide +kernel
theorem dP_drop_68 : decode bP_drop 68 = .ok (.iconst 1, 1) := by decide +kernel
theorem dP_drop_69 : decode bP_drop 69 = .ok (.iadd, 1) := by decide +kernel
theorem dP_drop_70 : decode bP_drop 70 = .ok (.laload, 1) := by decide +kernel
theorem dP_drop_71 : decode bP_drop 71 = .ok (.lastore, 1) := by decide +kernel
theorem dP_drop_72 : decode bP_drop 72 = .ok (.iinc 2 1, 3) := by decide +kernel
theorem dP_drop_75 : decode bP_drop 75 = .ok (.goto (-73), 3) := by decide +kernel
theorem dP_drop_78 : decode bP_drop 78 = .ok (.aload_n 0, 1) := by decide +kernel
theorem dP_drop_79 : decode bP_drop 79 = .ok (.dup, 1) := by decide +kernel
theorem dP_drop_80 : decode bP_drop 80 = .ok (.getfield 9, 3) := by decide +kernel
theorem dP_drop_83 : decode bP_drop 83 = .ok (.iconst 1, 1) := by decide +kernel
theorem dP_drop_84 : decode bP_drop 84 = .ok (.isub, 1) := by decide +kernel
theorem dP_drop_85 : decode bP_drop 85 = .ok (.putfield 9, 3) := by decide +kernel
theorem dP_drop_88 : decode bP_drop 88 = .ok (.return_, 1) := by decide +kernel
theorem dP_has_0 : decode bP_has 0 = .ok (.iload_n 1, 1) := by decide +kernel
theorem dP_has_1 : decode bP_has 1 = .ok (.ifCond .lt 24, 3) := by decide +kernel
theorem dP_has_4 : decode bP_has 4 = .ok (.iload_n 1, 1) := by decide +kernel
theorem dP_has_5 : decode bP_has 5 = .ok (.aload_n 0, 1) := by decide +kernel
theorem dP_has_6 : decode bP_has 6 = .ok (.getfield 9, 3) := by decide +kernel
theorem dP_has_9 : decode bP_has 9 = .ok (.if_icmp .ge 16, 3) := by decide +kernel
theorem dP_has_12 : decode bP_has 12 = .ok (.iload_n 1, 1) := by decide +kernel
theorem dP_has_13 : decode bP_has 13 = .ok (.aload_n 0, 1) := by decide +kernel
theorem dP_has_14 : decode bP_has 14 = .ok (.getfield 25, 3) := by decide +kernel
theorem dP_has_17 : decode bP_has 17 = .ok (.arraylength, 1) := by decide +kernel
theorem dP_has_18 : decode bP_has 18 = .ok (.if_icmp .ge 7, 3) := by decide +kernel
theorem dP_has_21 : decode bP_has 21 = .ok (.iconst 1, 1) := by decide +kernel
theorem dP_has_22 : decode bP_has 22 = .ok (.goto 4, 3) := by decide +kernel
theorem dP_has_25 : decode bP_has 25 = .ok (.iconst 0, 1) := by decide +kernel
theorem dP_has_26 : decode bP_has 26 = .ok (.ireturn, 1) := by decide +kernel
set_option maxHeartbeats 4000000 in
set_option maxRecDepth 100000 in
theorem cP_size (l : Launch) (nx : Nat) (M : xH) (a cap : Nat) (ed : Nat → Int32) (cd : Nat → Int64) (mk : Nat → Int32) (ot : Nat → Int64) (n : Nat) (hT : pAt M a cap ed cd mk ot n) : xC l xcl yP_size (xw (Cond.code yP_size bP_size 1 (some .int))) ({ frames := 0, cells := 0, slots := 0, locals := 0 } : Room) [.ref (a)] nx M (x_is (some (.int (nI (n)))) nx M) := by
  obtain ⟨h0, h1, h2, h3, h4, hz, hcp⟩ := id hT
  refine yC (by decide) (Nat.le_of_ble_eq_true rfl) ?_
  intro p e s m args below meth c D F hr hn
  refine x_aload_n F 0 dP_size_0 rfl rfl ?_
  refine x_get (ci := 2) F 4 (x_in inP) rfl (by decide) (x_m kfP_9) dP_size_1 h0 rfl ?_
  exact x_iret F hr dP_size_4 (x_is_i _ _ _)
set_option maxHeartbeats 4000000 in
set_option maxRecDepth 100000 in
theorem cP_isFull (l : Launch) (nx : Nat) (M : xH) (a cap : Nat) (ed : Nat → Int32) (cd : Nat → Int64) (mk : Nat → Int32) (ot : Nat → Int64) (n : Nat) (hT : pAt M a cap ed cd mk ot n) : xC l xcl yP_isFull (xw (Cond.code yP_isFull bP_isFull 1 (some .boolean))) ({ frames := 0, cells := 0, slots := 0, locals := 0 } : Room) [.ref (a)] nx M (x_is (some (.int (bI (decide (cap ≤ n))))) nx M) := by
  obtain ⟨h0, h1, h2, h3, h4, hz, hcp⟩ := id hT
  refine yC (by decide) (Nat.le_of_ble_eq_true rfl) ?_
  intro p e s m args below meth c D F hr hn
  refine x_aload_n F 0 dP_isFull_0 rfl rfl ?_
  refine x_get (ci := 2) F 4 (x_in inP) rfl (by decide) (x_m kfP_9) dP_isFull_1 h0 rfl ?_
  refine x_aload_n F 0 dP_isFull_4 rfl rfl ?_
  refine x_get (ci := 2) F 1 (x_in inP) rfl (by decide) (x_m kfP_25) dP_isFull_5 h0 rfl ?_
  refine x_alen F (v := nI (cap)) dP_isFull_8 h2 rfl ?_
  refine x_icmp_lt F (tgt := 16) dP_isFull_9 (by decide) (fun c1 => ?_) (fun c1 => ?_)
  · skip
    have c1 : n < cap := by
      exact (nI_ltI (a := n) (b := cap) (by omega) (by omega)).mp c1
    refine x_iconst F (v := nI (0)) dP_isFull_16 (by decide) ?_
    exact x_zret F hr (by rfl) dP_isFull_17 (x_f (by simp; omega))
  · skip
    have c1 : cap ≤ n := by
      have z : ¬ (n < cap) := fun q => c1 ((nI_ltI (a := n) (b := cap) (by omega) (by omega)).mpr q)
      omega
    refine x_iconst F (v := nI (1)) dP_isFull_12 (by decide) ?_
    refine x_goto F (tgt := 17) dP_isFull_13 (by decide) ?_
    exact x_zret F hr (by rfl) dP_isFull_17 (x_t (by simp; omega))
set_option maxHeartbeats 4000000 in
set_option maxRecDepth 100000 in
theorem cP_has (l : Launch) (nx : Nat) (M : xH) (a cap : Nat) (ed : Nat → Int32) (cd : Nat → Int64) (mk : Nat → Int32) (ot : Nat → Int64) (n : Nat) (hT : pAt M a cap ed cd mk ot n) (j : Nat) (hj : j < n) : xC l xcl yP_has (xw (Cond.code yP_has bP_has 2 (some .boolean))) ({ frames := 0, cells := 0, slots := 0, locals := 0 } : Room) [.ref (a), .int (nI (j))] nx M (x_is (some (.int (nI (1)))) nx M) := by
  obtain ⟨h0, h1, h2, h3, h4, hz, hcp⟩ := id hT
  refine yC (by decide) (Nat.le_of_ble_eq_true rfl) ?_
  intro p e s m args below meth c D F hr hn
  refine x_iload_n F 1 dP_has_0 rfl rfl ?_
  refine x_if_lt F (tgt := 25) dP_has_1 (by decide) (fun c1 => ?_) (fun c1 => ?_)
  · skip
    have c1 : j < 0 := by
      exact (nI_ltI (a := j) (b := 0) (by omega) (by omega)).mp c1
    exact absurd c1 (by omega)
  · skip
    have c1 : 0 ≤ j := by
      have z : ¬ (j < 0) := fun q => c1 ((nI_ltI (a := j) (b := 0) (by omega) (by omega)).mpr q)
      omega
    refine x_iload_n F 1 dP_has_4 rfl rfl ?_
    refine x_aload_n F 0 dP_has_5 rfl rfl ?_
    refine x_get (ci := 2) F 4 (x_in inP) rfl (by decide) (x_m kfP_9) dP_has_6 h0 rfl ?_
    refine x_icmp_ge F (tgt := 25) dP_has_9 (by decide) (fun c2 => ?_) (fun c2 => ?_)
    · skip
      have c2 : n ≤ j := by
        exact (nI_leI (a := n) (b := j) (by omega) (by omega)).mp c2
      exact absurd c2 (by omega)
    · skip
      have c2 : j < n := by
        have z : ¬ (n ≤ j) := fun q => c2 ((nI_leI (a := n) (b := j) (by omega) (by omega)).mpr q)
        omega
      refine x_iload_n F 1 dP_has_12 rfl rfl ?_
      refine x_aload_n F 0 dP_has_13 rfl rfl ?_
      refine x_get (ci := 2) F 1 (x_in inP) rfl (by decide) (x_m kfP_25) dP_has_14 h0 rfl ?_
      refine x_alen F (v := nI (cap)) dP_has_17 h2 rfl ?_
      refine x_icmp_ge F (tgt := 25) dP_has_18 (by decide) (fun c3 => ?_) (fun c3 => ?_)
      · skip
        have c3 : cap ≤ j := by
          exact (nI_leI (a := cap) (b := j) (by omega) (by omega)).mp c3
        exact absurd c3 (by omega)
      · skip
        have c3 : j < cap := by
          have z : ¬ (cap ≤ j) := fun q => c3 ((nI_leI (a := cap) (b := j) (by omega) (by omega)).mpr q)
          omega
        refine x_iconst F (v := nI (1)) dP_has_21 (by decide) ?_
        refine x_goto F (tgt := 26) dP_has_22 (by decide) ?_
        exact x_zret F hr (by rfl) dP_has_26 (x_is_i _ _ _)
set_option maxHeartbeats 4000000 in
set_option maxRecDepth 100000 in
theorem cP_hasN (l : Launch) (nx : Nat) (M : xH) (a cap : Nat) (ed : Nat → Int32) (cd : Nat → Int64) (mk : Nat → Int32) (ot : Nat → Int64) (n : Nat) (hT : pAt M a cap ed cd mk ot n) (i : Int32) (hi : ¬ vp_in i n) : xC l xcl yP_has (xw (Cond.code yP_has bP_has 2 (some .boolean))) ({ frames := 0, cells := 0, slots := 0, locals := 0 } : Room) [.ref (a), .int (i)] nx M (x_is (some (.int (nI (0)))) nx M) := by
  obtain ⟨h0, h1, h2, h3, h4, hz, hcp⟩ := id hT
  refine yC (by decide) (Nat.le_of_ble_eq_true rfl) ?_
  intro p e s m args below meth c D F hr hn
  refine x_iload_n F 1 dP_has_0 rfl rfl ?_
  refine x_if_lt F (tgt := 25) dP_has_1 (by decide) (fun c1 => ?_) (fun c1 => ?_)
  · skip
    refine x_iconst F (v := nI (0)) dP_has_25 (by decide) ?_
    exact x_zret F hr (by rfl) dP_has_26 (x_is_i _ _ _)
  · skip
    refine x_iload_n F 1 dP_has_4 rfl rfl ?_
    refine x_aload_n F 0 dP_has_5 rfl rfl ?_
    refine x_get (ci := 2) F 4 (x_in inP) rfl (by decide) (x_m kfP_9) dP_has_6 h0 rfl ?_
    refine x_icmp_ge F (tgt := 25) dP_has_9 (by decide) (fun c2 => ?_) (fun c2 => ?_)
    · skip
      refine x_iconst F (v := nI (0)) dP_has_25 (by decide) ?_
      exact x_zret F hr (by rfl) dP_has_26 (x_is_i _ _ _)
    · skip
      exact absurd (x_out (by omega) hi c1 c2) id
set_option maxHeartbeats 4000000 in
set_option maxRecDepth 100000 in
theorem cP_markAt (l : Launch) (nx : Nat) (M : xH) (a cap : Nat) (ed : Nat → Int32) (cd : Nat → Int64) (mk : Nat → Int32) (ot : Nat → Int64) (n : Nat) (hT : pAt M a cap ed cd mk ot n) (j : Nat) (hj : j < n) : xC l xcl yP_markAt (xw (Cond.code yP_markAt bP_markAt 2 (some .int))) ({ frames := 1, cells := 0, slots := 0, locals := 21 } : Room) [.ref (a), .int (nI (j))] nx M (x_is (some (.int ((mk) (j)))) nx M) := by
  obtain ⟨h0, h1, h2, h3, h4, hz, hcp⟩ := id hT
  refine yC (by decide) (Nat.le_of_ble_eq_true rfl) ?_
  intro p e s m args below meth c D F hr hn
  refine x_aload_n F 0 dP_markAt_0 rfl rfl ?_
  refine x_iload_n F 1 dP_markAt_1 rfl rfl ?_
  refine yV (n := 1) (As := [.int (nI (j))]) (ci := 2) F kmP_43 kiP_has ksP_has knP kcP_has (by decide +kernel) dP_markAt_2 (cP_has l (nx) M (a) cap ed cd mk ot n hT j hj) rfl h0 rfl rfl (Nat.le_of_ble_eq_true rfl) ⟨Nat.le_of_ble_eq_true rfl, Nat.le_of_ble_eq_true rfl⟩ ⟨Nat.le_of_ble_eq_true rfl, Nat.le_of_ble_eq_true rfl⟩ ?_
  refine x_if_eq F (tgt := 17) dP_markAt_5 (by decide) (fun c1 => ?_) (fun c1 => ?_)
  · skip
    have c1 : 1 = 0 := by
      exact (nI_eq (a := 1) (b := 0) (by omega) (by omega)).mp c1
    exact absurd c1 (by decide)
  · skip
    have c1 : 1 ≠ 0 := by
      have z : ¬ (1 = 0) := fun q => c1 ((nI_eq (a := 1) (b := 0) (by omega) (by omega)).mpr q)
      omega
    refine x_aload_n F 0 dP_markAt_8 rfl rfl ?_
    refine x_get (ci := 2) F 2 (x_in inP) rfl (by decide) (x_m kfP_29) dP_markAt_9 h0 rfl ?_
    refine x_iload_n F 1 dP_markAt_12 rfl rfl ?_
    refine x_iald F dP_markAt_13 h3 (pk_in (j) (cap) (by omega)) ?_
    refine xW.toi ((mk) (j)) (by rw [nI_clamp (by omega)]) ?_
    refine x_goto F (tgt := 18) dP_markAt_14 (by decide) ?_
    exact x_iret F hr dP_markAt_18 (x_is_i _ _ _)
set_option maxHeartbeats 4000000 in
set_option maxRecDepth 100000 in
theorem cP_markAtN (l : Launch) (nx : Nat) (M : xH) (a cap : Nat) (ed : Nat → Int32) (cd : Nat → Int64) (mk : Nat → Int32) (ot : Nat → Int64) (n : Nat) (hT : pAt M a cap ed cd mk ot n) (i : Int32) (hi : ¬ vp_in i n) : xC l xcl yP_markAt (xw (Cond.code yP_markAt bP_markAt 2 (some .int))) ({ frames := 1, cells := 0, slots := 0, locals := 21 } : Room) [.ref (a), .int (i)] nx M (x_is (some (.int ((-1)))) nx M) := by
  obtain ⟨h0, h1, h2, h3, h4, hz, hcp⟩ := id hT
  refine yC (by decide) (Nat.le_of_ble_eq_true rfl) ?_
  intro p e s m args below meth c D F hr hn
  refine x_aload_n F 0 dP_markAt_0 rfl rfl ?_
  refine x_iload_n F 1 dP_markAt_1 rfl rfl ?_
  refine yV (n := 1) (As := [.int (i)]) (ci := 2) F kmP_43 kiP_has ksP_has knP kcP_has (by decide +kernel) dP_markAt_2 (cP_hasN l (nx) M (a) cap ed cd mk ot n hT i hi) rfl h0 rfl rfl (Nat.le_of_ble_eq_true rfl) ⟨Nat.le_of_ble_eq_true rfl, Nat.le_of_ble_eq_true rfl⟩ ⟨Nat.le_of_ble_eq_true rfl, Nat.le_of_ble_eq_true rfl⟩ ?_
  refine x_if_eq F (tgt := 17) dP_markAt_5 (by decide) (fun c1 => ?_) (fun c1 => ?_)
  · skip
    have c1 : 0 = 0 := by
      exact (nI_eq (a := 0) (b := 0) (by omega) (by omega)).mp c1
    refine x_iconst F (v := (-1)) dP_markAt_17 (by decide) ?_
    exact x_iret F hr dP_markAt_18 (x_is_i _ _ _)
  · skip
    have c1 : 0 ≠ 0 := by
      have z : ¬ (0 = 0) := fun q => c1 ((nI_eq (a := 0) (b := 0) (by omega) (by omega)).mpr q)
      omega
    exact absurd c1 (by decide)
set_option maxHeartbeats 4000000 in
set_option maxRecDepth 100000 in
theorem cP_otherAt (l : Launch) (nx : Nat) (M : xH) (a cap : Nat) (ed : Nat → Int32) (cd : Nat → Int64) (mk : Nat → Int32) (ot : Nat → Int64) (n : Nat) (hT : pAt M a cap ed cd mk ot n) (j : Nat) (hj : j < n) : xC l xcl yP_otherAt (xw (Cond.code yP_otherAt bP_otherAt 2 (some .long))) ({ frames := 1, cells := 0, slots := 0, locals := 21 } : Room) [.ref (a), .int (nI (j))] nx M (x_is (some (.long ((ot) (j)))) nx M) := by
  obtain ⟨h0, h1, h2, h3, h4, hz, hcp⟩ := id hT
  refine yC (by decide) (Nat.le_of_ble_eq_true rfl) ?_
  intro p e s m args below meth c D F hr hn
  refine x_aload_n F 0 dP_otherAt_0 rfl rfl ?_
  refine x_iload_n F 1 dP_otherAt_1 rfl rfl ?_
  refine yV (n := 1) (As := [.int (nI (j))]) (ci := 2) F kmP_43 kiP_has ksP_has knP kcP_has (by decide +kernel) dP_otherAt_2 (cP_has l (nx) M (a) cap ed cd mk ot n hT j hj) rfl h0 rfl rfl (Nat.le_of_ble_eq_true rfl) ⟨Nat.le_of_ble_eq_true rfl, Nat.le_of_ble_eq_true rfl⟩ ⟨Nat.le_of_ble_eq_true rfl, Nat.le_of_ble_eq_true rfl⟩ ?_
  refine x_if_eq F (tgt := 17) dP_otherAt_5 (by decide) (fun c1 => ?_) (fun c1 => ?_)
  · skip
    have c1 : 1 = 0 := by
      exact (nI_eq (a := 1) (b := 0) (by omega) (by omega)).mp c1
    exact absurd c1 (by decide)
  · skip
    have c1 : 1 ≠ 0 := by
      have z : ¬ (1 = 0) := fun q => c1 ((nI_eq (a := 1) (b := 0) (by omega) (by omega)).mpr q)
      omega
    refine x_aload_n F 0 dP_otherAt_8 rfl rfl ?_
    refine x_get (ci := 2) F 3 (x_in inP) rfl (by decide) (x_m kfP_32) dP_otherAt_9 h0 rfl ?_
    refine x_iload_n F 1 dP_otherAt_12 rfl rfl ?_
    refine x_lald F dP_otherAt_13 h4 (pk_in (j) (cap) (by omega)) ?_
    refine xW.tol ((ot) (j)) (by rw [nI_clamp (by omega)]) ?_
    refine x_goto F (tgt := 18) dP_otherAt_14 (by decide) ?_
    exact x_lret F hr dP_otherAt_18 (x_is_i _ _ _)
set_option maxHeartbeats 4000000 in
set_option maxRecDepth 100000 in
theorem cP_otherAtN (l : Launch) (nx : Nat) (M : xH) (a cap : Nat) (ed : Nat → Int32) (cd : Nat → Int64) (mk : Nat → Int32) (ot : Nat → Int64) (n : Nat) (hT : pAt M a cap ed cd mk ot n) (i : Int32) (hi : ¬ vp_in i n) : xC l xcl yP_otherAt (xw (Cond.code yP_otherAt bP_otherAt 2 (some .long))) ({ frames := 1, cells := 0, slots := 0, locals := 21 } : Room) [.ref (a), .int (i)] nx M (x_is (some (.long (0))) nx M) := by
  obtain ⟨h0, h1, h2, h3, h4, hz, hcp⟩ := id hT
  refine yC (by decide) (Nat.le_of_ble_eq_true rfl) ?_
  intro p e s m args below meth c D F hr hn
  refine x_aload_n F 0 dP_otherAt_0 rfl rfl ?_
  refine x_iload_n F 1 dP_otherAt_1 rfl rfl ?_
  refine yV (n := 1) (As := [.int (i)]) (ci := 2) F kmP_43 kiP_has ksP_has knP kcP_has (by decide +kernel) dP_otherAt_2 (cP_hasN l (nx) M (a) cap ed cd mk ot n hT i hi) rfl h0 rfl rfl (Nat.le_of_ble_eq_true rfl) ⟨Nat.le_of_ble_eq_true rfl, Nat.le_of_ble_eq_true rfl⟩ ⟨Nat.le_of_ble_eq_true rfl, Nat.le_of_ble_eq_true rfl⟩ ?_
  refine x_if_eq F (tgt := 17) dP_otherAt_5 (by decide) (fun c1 => ?_) (fun c1 => ?_)
  · skip
    have c1 : 0 = 0 := by
      exact (nI_eq (a := 0) (b := 0) (by omega) (by omega)).mp c1
    refine x_lconst F (v := 0) dP_otherAt_17 (by decide) ?_
    exact x_lret F hr dP_otherAt_18 (x_is_i _ _ _)
  · skip
    have c1 : 0 ≠ 0 := by
      have z : ¬ (0 = 0) := fun q => c1 ((nI_eq (a := 0) (b := 0) (by omega) (by omega)).mpr q)
      omega
    exact absurd c1 (by decide)
set_option maxHeartbeats 4000000 in
set_option maxRecDepth 100000 in
theorem cP_matches (l : Launch) (nx : Nat) (M : xH) (a cap : Nat) (ed : Nat → Int32) (cd : Nat → Int64) (mk : Nat → Int32) (ot : Nat → Int64) (n : Nat) (hT : pAt M a cap ed cd mk ot n) (j : Nat) (hj : j < n) (ee : Int32) (co : Int64) (mm : Int32) : xC l xcl yP_matches (xw (Cond.code yP_matches bP_matches 6 (some .boolean))) ({ frames := 1, cells := 0, slots := 0, locals := 21 } : Room) [.ref (a), .int (nI (j)), .int (ee), .long (co), .int (mm)] nx M (x_is (some (.int (bI (pMt ed cd mk ee co mm j)))) nx M) := by
  obtain ⟨h0, h1, h2, h3, h4, hz, hcp⟩ := id hT
  refine yC (by decide) (Nat.le_of_ble_eq_true rfl) ?_
  intro p e s m args below meth c D F hr hn
  refine x_aload_n F 0 dP_matches_0 rfl rfl ?_
  refine x_iload_n F 1 dP_matches_1 rfl rfl ?_
  refine yV (n := 1) (As := [.int (nI (j))]) (ci := 2) F kmP_43 kiP_has ksP_has knP kcP_has (by decide +kernel) dP_matches_2 (cP_has l (nx) M (a) cap ed cd mk ot n hT j hj) rfl h0 rfl rfl (Nat.le_of_ble_eq_true rfl) ⟨Nat.le_of_ble_eq_true rfl, Nat.le_of_ble_eq_true rfl⟩ ⟨Nat.le_of_ble_eq_true rfl, Nat.le_of_ble_eq_true rfl⟩ ?_
  refine x_if_eq F (tgt := 50) dP_matches_5 (by decide) (fun c1 => ?_) (fun c1 => ?_)
  · skip
    have c1 : 1 = 0 := by
      exact (nI_eq (a := 1) (b := 0) (by omega) (by omega)).mp c1
    exact absurd c1 (by decide)
  · skip
    have c1 : 1 ≠ 0 := by
      have z : ¬ (1 = 0) := fun q => c1 ((nI_eq (a := 1) (b := 0) (by omega) (by omega)).mpr q)
      omega
    refine x_aload_n F 0 dP_matches_8 rfl rfl ?_
    refine x_get (ci := 2) F 0 (x_in inP) rfl (by decide) (x_m kfP_21) dP_matches_9 h0 rfl ?_
    refine x_iload_n F 1 dP_matches_12 rfl rfl ?_
    refine x_iald F dP_matches_13 h1 (pk_in (j) (cap) (by omega)) ?_
    refine xW.toi ((ed) (j)) (by rw [nI_clamp (by omega)]) ?_
    refine x_iload_n F 2 dP_matches_14 rfl rfl ?_
    refine x_icmp_ne F (tgt := 50) dP_matches_15 (by decide) (fun c2 => ?_) (fun c2 => ?_)
    · skip
      refine x_iconst F (v := nI (0)) dP_matches_50 (by decide) ?_
      exact x_zret F hr (by rfl) dP_matches_51 (x_f (by simp_all [pMt]))
    · skip
      refine x_aload_n F 0 dP_matches_18 rfl rfl ?_
      refine x_get (ci := 2) F 1 (x_in inP) rfl (by decide) (x_m kfP_25) dP_matches_19 h0 rfl ?_
      refine x_iload_n F 1 dP_matches_22 rfl rfl ?_
      refine x_lald F dP_matches_23 h2 (pk_in (j) (cap) (by omega)) ?_
      refine xW.tol ((cd) (j)) (by rw [nI_clamp (by omega)]) ?_
      refine x_lload_n F 3 dP_matches_24 rfl rfl ?_
      refine x_lcmp F dP_matches_25 ?_
      refine x_if_ne F (tgt := 50) dP_matches_26 (by decide) (fun c3 => ?_) (fun c3 => ?_)
      · skip
        have c3 : ¬ (cd) (j) = co := fun z => c3 ((lg_cmp_eq ((cd) (j)) (co)).mpr z)
        refine x_iconst F (v := nI (0)) dP_matches_50 (by decide) ?_
        exact x_zret F hr (by rfl) dP_matches_51 (x_f (by simp_all [pMt]))
      · skip
        have c3 : (cd) (j) = co := (lg_cmp_eq ((cd) (j)) (co)).mp c3
        refine x_iload F 4 dP_matches_29 rfl ?_
        refine x_iconst F (v := (-1)) dP_matches_31 (by decide) ?_
        refine x_icmp_eq F (tgt := 46) dP_matches_32 (by decide) (fun c4 => ?_) (fun c4 => ?_)
        · skip
          refine x_iconst F (v := nI (1)) dP_matches_46 (by decide) ?_
          refine x_goto F (tgt := 51) dP_matches_47 (by decide) ?_
          exact x_zret F hr (by rfl) dP_matches_51 (x_t (by simp_all [pMt]))
        · skip
          refine x_aload_n F 0 dP_matches_35 rfl rfl ?_
          refine x_get (ci := 2) F 2 (x_in inP) rfl (by decide) (x_m kfP_29) dP_matches_36 h0 rfl ?_
          refine x_iload_n F 1 dP_matches_39 rfl rfl ?_
          refine x_iald F dP_matches_40 h3 (pk_in (j) (cap) (by omega)) ?_
          refine xW.toi ((mk) (j)) (by rw [nI_clamp (by omega)]) ?_
          refine x_iload F 4 dP_matches_41 rfl ?_
          refine x_icmp_ne F (tgt := 50) dP_matches_43 (by decide) (fun c5 => ?_) (fun c5 => ?_)
          · skip
            refine x_iconst F (v := nI (0)) dP_matches_50 (by decide) ?_
            exact x_zret F hr (by rfl) dP_matches_51 (x_f (by simp_all [pMt]))
          · skip
            refine x_iconst F (v := nI (1)) dP_matches_46 (by decide) ?_
            refine x_goto F (tgt := 51) dP_matches_47 (by decide) ?_
            exact x_zret F hr (by rfl) dP_matches_51 (x_t (by simp_all [pMt]))
set_option maxHeartbeats 4000000 in
set_option maxRecDepth 100000 in
theorem cP_holds (l : Launch) (nx : Nat) (M : xH) (a cap : Nat) (ed : Nat → Int32) (cd : Nat → Int64) (mk : Nat → Int32) (ot : Nat → Int64) (n : Nat) (hT : pAt M a cap ed cd mk ot n) (ee : Int32) (co : Int64) (mm : Int32) (oo : Int64) : xC l xcl yP_holds (xw (Cond.code yP_holds bP_holds 8 (some .boolean))) ({ frames := 2, cells := 0, slots := 0, locals := 46 } : Room) [.ref (a), .int (ee), .long (co), .int (mm), .long (oo)] nx M (x_is (some (.int (bI ((fi (fun j => decide (ot j = oo) && pMt ed cd mk ee co mm j) n 0).isSome)))) nx M) := by
  obtain ⟨h0, h1, h2, h3, h4, hz, hcp⟩ := id hT
  refine yC (by decide) (Nat.le_of_ble_eq_true rfl) ?_
  intro p e s m args below meth c D F hr hn
  have loop : ∀ (k : Nat) (i : Nat), i + k = n → fi (fun j => decide (ot j = oo) && pMt ed cd mk ee co mm j) n 0 = fi (fun j => decide (ot j = oo) && pMt ed cd mk ee co mm j) k i → xW p l e ({ frames := 2, cells := 0, slots := 0, locals := 46 } : Room) s m args below meth c D xcl (x_A M nx) 8 (MQ below (x_Q D xcl (x_A M nx) (x_is (some (.int (bI ((fi (fun j => decide (ot j = oo) && pMt ed cd mk ee co mm j) n 0).isSome)))) nx M)) args s 0 0 (x_A M nx)) 0 0 (nx) M 3 [(7, .int (nI (i))), (0, .ref (a)), (1, .int (ee)), (2, .long (co)), (4, .int (mm)), (5, .long (oo))] [] := by
    intro k
    induction k with
    | zero =>
      intro i hi hf
      refine x_iload F 0 dP_holds_3 rfl ?_
      refine x_aload_n F 1 dP_holds_5 rfl rfl ?_
      refine x_get (ci := 2) F 4 (x_in inP) rfl (by decide) (x_m kfP_9) dP_holds_6 h0 rfl ?_
      refine x_icmp_ge F (tgt := 46) dP_holds_9 (by decide) (fun c1 => ?_) (fun c1 => ?_)
      · skip
        have c1 : n ≤ i := by
          exact (nI_leI (a := n) (b := i) (by omega) (by omega)).mp c1
        refine x_iconst F (v := nI (0)) dP_holds_46 (by decide) ?_
        exact x_zret F hr (by rfl) dP_holds_47 (x_f (by rw [hf]; rfl))
      · skip
        have c1 : i < n := by
          have z : ¬ (n ≤ i) := fun q => c1 ((nI_leI (a := n) (b := i) (by omega) (by omega)).mpr q)
          omega
        exact absurd c1 (by omega)
    | succ k ih =>
      intro i hi hf
      refine x_iload F 0 dP_holds_3 rfl ?_
      refine x_aload_n F 1 dP_holds_5 rfl rfl ?_
      refine x_get (ci := 2) F 4 (x_in inP) rfl (by decide) (x_m kfP_9) dP_holds_6 h0 rfl ?_
      refine x_icmp_ge F (tgt := 46) dP_holds_9 (by decide) (fun c2 => ?_) (fun c2 => ?_)
      · skip
        have c2 : n ≤ i := by
          exact (nI_leI (a := n) (b := i) (by omega) (by omega)).mp c2
        exact absurd c2 (by omega)
      · skip
        have c2 : i < n := by
          have z : ¬ (n ≤ i) := fun q => c2 ((nI_leI (a := n) (b := i) (by omega) (by omega)).mpr q)
          omega
        refine x_aload_n F 1 dP_holds_12 rfl rfl ?_
        refine x_get (ci := 2) F 3 (x_in inP) rfl (by decide) (x_m kfP_32) dP_holds_13 h0 rfl ?_
        refine x_iload F 0 dP_holds_16 rfl ?_
        refine x_lald F dP_holds_18 h4 (pk_in (i) (cap) (by omega)) ?_
        refine xW.tol ((ot) (i)) (by rw [nI_clamp (by omega)]) ?_
        refine x_lload F 5 dP_holds_19 rfl ?_
        refine x_lcmp F dP_holds_21 ?_
        refine x_if_ne F (tgt := 40) dP_holds_22 (by decide) (fun c3 => ?_) (fun c3 => ?_)
        · skip
          have c3 : ¬ (ot) (i) = oo := fun z => c3 ((lg_cmp_eq ((ot) (i)) (oo)).mpr z)
          refine x_iinc F 0 [(7, .int (nI (i + 1))), (0, .ref (a)), (1, .int (ee)), (2, .long (co)), (4, .int (mm)), (5, .long (oo))] dP_holds_40 rfl (nI_add (i) 1) (by decide) rfl ?_
          refine x_goto F (tgt := 3) dP_holds_43 (by decide) ?_
          exact ih (i + 1) (by omega) (by rw [hf, fi_s, if_neg (by simp_all)])
        · skip
          have c3 : (ot) (i) = oo := (lg_cmp_eq ((ot) (i)) (oo)).mp c3
          refine x_aload_n F 1 dP_holds_25 rfl rfl ?_
          refine x_iload F 0 dP_holds_26 rfl ?_
          refine x_iload_n F 2 dP_holds_28 rfl rfl ?_
          refine x_lload_n F 3 dP_holds_29 rfl rfl ?_
          refine x_iload F 4 dP_holds_30 rfl ?_
          refine yV (n := 4) (As := [.int (nI (i)), .int (ee), .long (co), .int (mm)]) (ci := 2) F kmP_35 kiP_matches ksP_matches knP kcP_matches (by decide +kernel) dP_holds_32 (cP_matches l (nx) M (a) cap ed cd mk ot n hT i (by omega) ee co mm) rfl h0 rfl rfl (Nat.le_of_ble_eq_true rfl) ⟨Nat.le_of_ble_eq_true rfl, Nat.le_of_ble_eq_true rfl⟩ ⟨Nat.le_of_ble_eq_true rfl, Nat.le_of_ble_eq_true rfl⟩ ?_
          refine x_if_eq F (tgt := 40) dP_holds_35 (by decide) (fun c4 => ?_) (fun c4 => ?_)
          · skip
            have c4 : pMt ed cd mk ee co mm i = false := bI_0 c4
            refine x_iinc F 0 [(7, .int (nI (i + 1))), (0, .ref (a)), (1, .int (ee)), (2, .long (co)), (4, .int (mm)), (5, .long (oo))] dP_holds_40 rfl (nI_add (i) 1) (by decide) rfl ?_
            refine x_goto F (tgt := 3) dP_holds_43 (by decide) ?_
            exact ih (i + 1) (by omega) (by rw [hf, fi_s, if_neg (by simp_all)])
          · skip
            have c4 : pMt ed cd mk ee co mm i = true := bI_1 c4
            refine x_iconst F (v := nI (1)) dP_holds_38 (by decide) ?_
            exact x_zret F hr (by rfl) dP_holds_39 (x_t (by rw [hf, fi_s, if_pos (by simp [c3, c4])]; rfl))
  refine x_iconst F (v := nI (0)) dP_holds_0 (by decide) ?_
  refine x_istore F [(7, .int (nI (0))), (0, .ref (a)), (1, .int (ee)), (2, .long (co)), (4, .int (mm)), (5, .long (oo))] dP_holds_1 (by decide) rfl ?_
  exact loop n 0 (by omega) rfl
set_option maxHeartbeats 4000000 in
set_option maxRecDepth 100000 in
theorem cP_nth (l : Launch) (nx : Nat) (M : xH) (a cap : Nat) (ed : Nat → Int32) (cd : Nat → Int64) (mk : Nat → Int32) (ot : Nat → Int64) (n : Nat) (hT : pAt M a cap ed cd mk ot n) (ee : Int32) (co : Int64) (mm : Int32) (x : Int32) : xC l xcl yP_nth (xw (Cond.code yP_nth bP_nth 8 (some .int))) ({ frames := 2, cells := 0, slots := 0, locals := 46 } : Room) [.ref (a), .int (ee), .long (co), .int (mm), .int (x)] nx M (x_is (some (.int (oi (nt (pMt ed cd mk ee co mm) x n 0 0)))) nx M) := by
  obtain ⟨h0, h1, h2, h3, h4, hz, hcp⟩ := id hT
  refine yC (by decide) (Nat.le_of_ble_eq_true rfl) ?_
  intro p e s m args below meth c D F hr hn
  have loop : ∀ (k : Nat) (i q : Nat), i + k = n → q ≤ i → nt (pMt ed cd mk ee co mm) x n 0 0 = nt (pMt ed cd mk ee co mm) x k i q → xW p l e ({ frames := 2, cells := 0, slots := 0, locals := 46 } : Room) s m args below meth c D xcl (x_A M nx) 8 (MQ below (x_Q D xcl (x_A M nx) (x_is (some (.int (oi (nt (pMt ed cd mk ee co mm) x n 0 0)))) nx M)) args s 0 0 (x_A M nx)) 0 0 (nx) M 6 [(7, .int (nI (i))), (6, .int (nI (q))), (0, .ref (a)), (1, .int (ee)), (2, .long (co)), (4, .int (mm)), (5, .int (x))] [] := by
    intro k
    induction k with
    | zero =>
      intro i q hi hq hf
      refine x_iload F 0 dP_nth_6 rfl ?_
      refine x_aload_n F 2 dP_nth_8 rfl rfl ?_
      refine x_get (ci := 2) F 4 (x_in inP) rfl (by decide) (x_m kfP_9) dP_nth_9 h0 rfl ?_
      refine x_icmp_ge F (tgt := 47) dP_nth_12 (by decide) (fun c1 => ?_) (fun c1 => ?_)
      · skip
        have c1 : n ≤ i := by
          exact (nI_leI (a := n) (b := i) (by omega) (by omega)).mp c1
        refine x_iconst F (v := (-1)) dP_nth_47 (by decide) ?_
        exact x_iret F hr dP_nth_48 (x_e (by rw [hf]; rfl))
      · skip
        have c1 : i < n := by
          have z : ¬ (n ≤ i) := fun q => c1 ((nI_leI (a := n) (b := i) (by omega) (by omega)).mpr q)
          omega
        exact absurd c1 (by omega)
    | succ k ih =>
      intro i q hi hq hf
      refine x_iload F 0 dP_nth_6 rfl ?_
      refine x_aload_n F 2 dP_nth_8 rfl rfl ?_
      refine x_get (ci := 2) F 4 (x_in inP) rfl (by decide) (x_m kfP_9) dP_nth_9 h0 rfl ?_
      refine x_icmp_ge F (tgt := 47) dP_nth_12 (by decide) (fun c2 => ?_) (fun c2 => ?_)
      · skip
        have c2 : n ≤ i := by
          exact (nI_leI (a := n) (b := i) (by omega) (by omega)).mp c2
        exact absurd c2 (by omega)
      · skip
        have c2 : i < n := by
          have z : ¬ (n ≤ i) := fun q => c2 ((nI_leI (a := n) (b := i) (by omega) (by omega)).mpr q)
          omega
        refine x_aload_n F 2 dP_nth_15 rfl rfl ?_
        refine x_iload F 0 dP_nth_16 rfl ?_
        refine x_iload_n F 3 dP_nth_18 rfl rfl ?_
        refine x_lload_n F 4 dP_nth_19 rfl rfl ?_
        refine x_iload F 5 dP_nth_20 rfl ?_
        refine yV (n := 4) (As := [.int (nI (i)), .int (ee), .long (co), .int (mm)]) (ci := 2) F kmP_35 kiP_matches ksP_matches knP kcP_matches (by decide +kernel) dP_nth_22 (cP_matches l (nx) M (a) cap ed cd mk ot n hT i (by omega) ee co mm) rfl h0 rfl rfl (Nat.le_of_ble_eq_true rfl) ⟨Nat.le_of_ble_eq_true rfl, Nat.le_of_ble_eq_true rfl⟩ ⟨Nat.le_of_ble_eq_true rfl, Nat.le_of_ble_eq_true rfl⟩ ?_
        refine x_if_eq F (tgt := 41) dP_nth_25 (by decide) (fun c3 => ?_) (fun c3 => ?_)
        · skip
          have c3 : pMt ed cd mk ee co mm i = false := bI_0 c3
          refine x_iinc F 0 [(7, .int (nI (i + 1))), (6, .int (nI (q))), (0, .ref (a)), (1, .int (ee)), (2, .long (co)), (4, .int (mm)), (5, .int (x))] dP_nth_41 rfl (nI_add (i) 1) (by decide) rfl ?_
          refine x_goto F (tgt := 6) dP_nth_44 (by decide) ?_
          exact ih (i + 1) q (by omega) (by omega) (by rw [hf, nt_s, if_neg (by simp [c3])])
        · skip
          have c3 : pMt ed cd mk ee co mm i = true := bI_1 c3
          refine x_iload F 1 dP_nth_28 rfl ?_
          refine x_iload F 6 dP_nth_30 rfl ?_
          refine x_icmp_ne F (tgt := 38) dP_nth_32 (by decide) (fun c4 => ?_) (fun c4 => ?_)
          · skip
            refine x_iinc F 1 [(6, .int (nI (q + 1))), (7, .int (nI (i))), (0, .ref (a)), (1, .int (ee)), (2, .long (co)), (4, .int (mm)), (5, .int (x))] dP_nth_38 rfl (nI_add (q) 1) (by decide) rfl ?_
            refine x_iinc F 1 [(7, .int (nI (i + 1))), (6, .int (nI (q + 1))), (0, .ref (a)), (1, .int (ee)), (2, .long (co)), (4, .int (mm)), (5, .int (x))] dP_nth_41 rfl (nI_add (i) 1) (by decide) rfl ?_
            refine x_goto F (tgt := 6) dP_nth_44 (by decide) ?_
            exact ih (i + 1) (q + 1) (by omega) (by omega) (by rw [hf, nt_s, if_pos c3, if_neg c4])
          · skip
            refine x_iload F 0 dP_nth_35 rfl ?_
            exact x_iret F hr dP_nth_37 (x_e (by rw [hf, nt_s, if_pos c3, if_pos c4]; rfl))
  refine x_iconst F (v := nI (0)) dP_nth_0 (by decide) ?_
  refine x_istore F [(6, .int (nI (0))), (0, .ref (a)), (1, .int (ee)), (2, .long (co)), (4, .int (mm)), (5, .int (x))] dP_nth_1 (by decide) rfl ?_
  refine x_iconst F (v := nI (0)) dP_nth_3 (by decide) ?_
  refine x_istore F [(7, .int (nI (0))), (6, .int (nI (0))), (0, .ref (a)), (1, .int (ee)), (2, .long (co)), (4, .int (mm)), (5, .int (x))] dP_nth_4 (by decide) rfl ?_
  exact loop n 0 0 (by omega) (by omega) rfl
set_option maxHeartbeats 4000000 in
set_option maxRecDepth 100000 in
theorem cP_sizeFrom (l : Launch) (nx : Nat) (M : xH) (a cap : Nat) (ed : Nat → Int32) (cd : Nat → Int64) (mk : Nat → Int32) (ot : Nat → Int64) (n : Nat) (hT : pAt M a cap ed cd mk ot n) (ee : Int32) : xC l xcl yP_sizeFrom (xw (Cond.code yP_sizeFrom bP_sizeFrom 4 (some .int))) ({ frames := 0, cells := 0, slots := 0, locals := 0 } : Room) [.ref (a), .int (ee)] nx M (x_is (some (.int (nI (ct (fun j => decide (ed j = ee)) n 0 0)))) nx M) := by
  obtain ⟨h0, h1, h2, h3, h4, hz, hcp⟩ := id hT
  refine yC (by decide) (Nat.le_of_ble_eq_true rfl) ?_
  intro p e s m args below meth c D F hr hn
  have loop : ∀ (k : Nat) (i q : Nat), i + k = n → q ≤ i → ct (fun j => decide (ed j = ee)) n 0 0 = ct (fun j => decide (ed j = ee)) k i q → xW p l e ({ frames := 0, cells := 0, slots := 0, locals := 0 } : Room) s m args below meth c D xcl (x_A M nx) 4 (MQ below (x_Q D xcl (x_A M nx) (x_is (some (.int (nI (ct (fun j => decide (ed j = ee)) n 0 0)))) nx M)) args s 0 0 (x_A M nx)) 0 0 (nx) M 4 [(3, .int (nI (i))), (2, .int (nI (q))), (0, .ref (a)), (1, .int (ee))] [] := by
    intro k
    induction k with
    | zero =>
      intro i q hi hq hf
      refine x_iload_n F 0 dP_sizeFrom_4 rfl rfl ?_
      refine x_aload_n F 2 dP_sizeFrom_5 rfl rfl ?_
      refine x_get (ci := 2) F 4 (x_in inP) rfl (by decide) (x_m kfP_9) dP_sizeFrom_6 h0 rfl ?_
      refine x_icmp_ge F (tgt := 31) dP_sizeFrom_9 (by decide) (fun c1 => ?_) (fun c1 => ?_)
      · skip
        have c1 : n ≤ i := by
          exact (nI_leI (a := n) (b := i) (by omega) (by omega)).mp c1
        refine x_iload_n F 1 dP_sizeFrom_31 rfl rfl ?_
        exact x_iret F hr dP_sizeFrom_32 (x_e (by rw [hf]; rfl))
      · skip
        have c1 : i < n := by
          have z : ¬ (n ≤ i) := fun q => c1 ((nI_leI (a := n) (b := i) (by omega) (by omega)).mpr q)
          omega
        exact absurd c1 (by omega)
    | succ k ih =>
      intro i q hi hq hf
      refine x_iload_n F 0 dP_sizeFrom_4 rfl rfl ?_
      refine x_aload_n F 2 dP_sizeFrom_5 rfl rfl ?_
      refine x_get (ci := 2) F 4 (x_in inP) rfl (by decide) (x_m kfP_9) dP_sizeFrom_6 h0 rfl ?_
      refine x_icmp_ge F (tgt := 31) dP_sizeFrom_9 (by decide) (fun c2 => ?_) (fun c2 => ?_)
      · skip
        have c2 : n ≤ i := by
          exact (nI_leI (a := n) (b := i) (by omega) (by omega)).mp c2
        exact absurd c2 (by omega)
      · skip
        have c2 : i < n := by
          have z : ¬ (n ≤ i) := fun q => c2 ((nI_leI (a := n) (b := i) (by omega) (by omega)).mpr q)
          omega
        refine x_aload_n F 2 dP_sizeFrom_12 rfl rfl ?_
        refine x_get (ci := 2) F 0 (x_in inP) rfl (by decide) (x_m kfP_21) dP_sizeFrom_13 h0 rfl ?_
        refine x_iload_n F 0 dP_sizeFrom_16 rfl rfl ?_
        refine x_iald F dP_sizeFrom_17 h1 (pk_in (i) (cap) (by omega)) ?_
        refine xW.toi ((ed) (i)) (by rw [nI_clamp (by omega)]) ?_
        refine x_iload_n F 3 dP_sizeFrom_18 rfl rfl ?_
        refine x_icmp_ne F (tgt := 25) dP_sizeFrom_19 (by decide) (fun c3 => ?_) (fun c3 => ?_)
        · skip
          refine x_iinc F 0 [(3, .int (nI (i + 1))), (2, .int (nI (q))), (0, .ref (a)), (1, .int (ee))] dP_sizeFrom_25 rfl (nI_add (i) 1) (by decide) rfl ?_
          refine x_goto F (tgt := 4) dP_sizeFrom_28 (by decide) ?_
          exact ih (i + 1) _ (by omega) (by omega) (by rw [hf, ct_s, if_neg (by simpa using c3)])
        · skip
          refine x_iinc F 1 [(2, .int (nI (q + 1))), (3, .int (nI (i))), (0, .ref (a)), (1, .int (ee))] dP_sizeFrom_22 rfl (nI_add (q) 1) (by decide) rfl ?_
          refine x_iinc F 1 [(3, .int (nI (i + 1))), (2, .int (nI (q + 1))), (0, .ref (a)), (1, .int (ee))] dP_sizeFrom_25 rfl (nI_add (i) 1) (by decide) rfl ?_
          refine x_goto F (tgt := 4) dP_sizeFrom_28 (by decide) ?_
          exact ih (i + 1) _ (by omega) (by omega) (by rw [hf, ct_s, if_pos (by simpa using c3)])
  refine x_iconst F (v := nI (0)) dP_sizeFrom_0 (by decide) ?_
  refine x_istore_n F [(2, .int (nI (0))), (0, .ref (a)), (1, .int (ee))] dP_sizeFrom_1 rfl (by decide) rfl ?_
  refine x_iconst F (v := nI (0)) dP_sizeFrom_2 (by decide) ?_
  refine x_istore_n F [(3, .int (nI (0))), (2, .int (nI (0))), (0, .ref (a)), (1, .int (ee))] dP_sizeFrom_3 rfl (by decide) rfl ?_
  exact loop n 0 0 (by omega) (by omega) rfl
set_option maxHeartbeats 4000000 in
set_option maxRecDepth 100000 in
theorem cP_sizeTo (l : Launch) (nx : Nat) (M : xH) (a cap : Nat) (ed : Nat → Int32) (cd : Nat → Int64) (mk : Nat → Int32) (ot : Nat → Int64) (n : Nat) (hT : pAt M a cap ed cd mk ot n) (ee mm : Int32) (oo : Int64) : xC l xcl yP_sizeTo (xw (Cond.code yP_sizeTo bP_sizeTo 7 (some .int))) ({ frames := 0, cells := 0, slots := 0, locals := 0 } : Room) [.ref (a), .int (ee), .int (mm), .long (oo)] nx M (x_is (some (.int (nI (ct (fun j => decide (ed j = ee) && (decide (mk j = mm) && decide (ot j = oo))) n 0 0)))) nx M) := by
  obtain ⟨h0, h1, h2, h3, h4, hz, hcp⟩ := id hT
  refine yC (by decide) (Nat.le_of_ble_eq_true rfl) ?_
  intro p e s m args below meth c D F hr hn
  have loop : ∀ (k : Nat) (i q : Nat), i + k = n → q ≤ i → ct (fun j => decide (ed j = ee) && (decide (mk j = mm) && decide (ot j = oo))) n 0 0 = ct (fun j => decide (ed j = ee) && (decide (mk j = mm) && decide (ot j = oo))) k i q → xW p l e ({ frames := 0, cells := 0, slots := 0, locals := 0 } : Room) s m args below meth c D xcl (x_A M nx) 7 (MQ below (x_Q D xcl (x_A M nx) (x_is (some (.int (nI (ct (fun j => decide (ed j = ee) && (decide (mk j = mm) && decide (ot j = oo))) n 0 0)))) nx M)) args s 0 0 (x_A M nx)) 0 0 (nx) M 6 [(6, .int (nI (i))), (5, .int (nI (q))), (0, .ref (a)), (1, .int (ee)), (2, .int (mm)), (3, .long (oo))] [] := by
    intro k
    induction k with
    | zero =>
      intro i q hi hq hf
      refine x_iload F 0 dP_sizeTo_6 rfl ?_
      refine x_aload_n F 2 dP_sizeTo_8 rfl rfl ?_
      refine x_get (ci := 2) F 4 (x_in inP) rfl (by decide) (x_m kfP_9) dP_sizeTo_9 h0 rfl ?_
      refine x_icmp_ge F (tgt := 58) dP_sizeTo_12 (by decide) (fun c1 => ?_) (fun c1 => ?_)
      · skip
        have c1 : n ≤ i := by
          exact (nI_leI (a := n) (b := i) (by omega) (by omega)).mp c1
        refine x_iload F 1 dP_sizeTo_58 rfl ?_
        exact x_iret F hr dP_sizeTo_60 (x_e (by rw [hf]; rfl))
      · skip
        have c1 : i < n := by
          have z : ¬ (n ≤ i) := fun q => c1 ((nI_leI (a := n) (b := i) (by omega) (by omega)).mpr q)
          omega
        exact absurd c1 (by omega)
    | succ k ih =>
      intro i q hi hq hf
      refine x_iload F 0 dP_sizeTo_6 rfl ?_
      refine x_aload_n F 2 dP_sizeTo_8 rfl rfl ?_
      refine x_get (ci := 2) F 4 (x_in inP) rfl (by decide) (x_m kfP_9) dP_sizeTo_9 h0 rfl ?_
      refine x_icmp_ge F (tgt := 58) dP_sizeTo_12 (by decide) (fun c2 => ?_) (fun c2 => ?_)
      · skip
        have c2 : n ≤ i := by
          exact (nI_leI (a := n) (b := i) (by omega) (by omega)).mp c2
        exact absurd c2 (by omega)
      · skip
        have c2 : i < n := by
          have z : ¬ (n ≤ i) := fun q => c2 ((nI_leI (a := n) (b := i) (by omega) (by omega)).mpr q)
          omega
        refine x_aload_n F 2 dP_sizeTo_15 rfl rfl ?_
        refine x_get (ci := 2) F 0 (x_in inP) rfl (by decide) (x_m kfP_21) dP_sizeTo_16 h0 rfl ?_
        refine x_iload F 0 dP_sizeTo_19 rfl ?_
        refine x_iald F dP_sizeTo_21 h1 (pk_in (i) (cap) (by omega)) ?_
        refine xW.toi ((ed) (i)) (by rw [nI_clamp (by omega)]) ?_
        refine x_iload_n F 3 dP_sizeTo_22 rfl rfl ?_
        refine x_icmp_ne F (tgt := 52) dP_sizeTo_23 (by decide) (fun c3 => ?_) (fun c3 => ?_)
        · skip
          refine x_iinc F 0 [(6, .int (nI (i + 1))), (5, .int (nI (q))), (0, .ref (a)), (1, .int (ee)), (2, .int (mm)), (3, .long (oo))] dP_sizeTo_52 rfl (nI_add (i) 1) (by decide) rfl ?_
          refine x_goto F (tgt := 6) dP_sizeTo_55 (by decide) ?_
          exact ih (i + 1) _ (by omega) (by omega) (by rw [hf, ct_s, if_neg (by simp_all)])
        · skip
          refine x_aload_n F 2 dP_sizeTo_26 rfl rfl ?_
          refine x_get (ci := 2) F 2 (x_in inP) rfl (by decide) (x_m kfP_29) dP_sizeTo_27 h0 rfl ?_
          refine x_iload F 0 dP_sizeTo_30 rfl ?_
          refine x_iald F dP_sizeTo_32 h3 (pk_in (i) (cap) (by omega)) ?_
          refine xW.toi ((mk) (i)) (by rw [nI_clamp (by omega)]) ?_
          refine x_iload_n F 4 dP_sizeTo_33 rfl rfl ?_
          refine x_icmp_ne F (tgt := 52) dP_sizeTo_34 (by decide) (fun c4 => ?_) (fun c4 => ?_)
          · skip
            refine x_iinc F 0 [(6, .int (nI (i + 1))), (5, .int (nI (q))), (0, .ref (a)), (1, .int (ee)), (2, .int (mm)), (3, .long (oo))] dP_sizeTo_52 rfl (nI_add (i) 1) (by decide) rfl ?_
            refine x_goto F (tgt := 6) dP_sizeTo_55 (by decide) ?_
            exact ih (i + 1) _ (by omega) (by omega) (by rw [hf, ct_s, if_neg (by simp_all)])
          · skip
            refine x_aload_n F 2 dP_sizeTo_37 rfl rfl ?_
            refine x_get (ci := 2) F 3 (x_in inP) rfl (by decide) (x_m kfP_32) dP_sizeTo_38 h0 rfl ?_
            refine x_iload F 0 dP_sizeTo_41 rfl ?_
            refine x_lald F dP_sizeTo_43 h4 (pk_in (i) (cap) (by omega)) ?_
            refine xW.tol ((ot) (i)) (by rw [nI_clamp (by omega)]) ?_
            refine x_lload_n F 5 dP_sizeTo_44 rfl rfl ?_
            refine x_lcmp F dP_sizeTo_45 ?_
            refine x_if_ne F (tgt := 52) dP_sizeTo_46 (by decide) (fun c5 => ?_) (fun c5 => ?_)
            · skip
              have c5 : ¬ (ot) (i) = oo := fun z => c5 ((lg_cmp_eq ((ot) (i)) (oo)).mpr z)
              refine x_iinc F 0 [(6, .int (nI (i + 1))), (5, .int (nI (q))), (0, .ref (a)), (1, .int (ee)), (2, .int (mm)), (3, .long (oo))] dP_sizeTo_52 rfl (nI_add (i) 1) (by decide) rfl ?_
              refine x_goto F (tgt := 6) dP_sizeTo_55 (by decide) ?_
              exact ih (i + 1) _ (by omega) (by omega) (by rw [hf, ct_s, if_neg (by simp_all)])
            · skip
              have c5 : (ot) (i) = oo := (lg_cmp_eq ((ot) (i)) (oo)).mp c5
              refine x_iinc F 1 [(5, .int (nI (q + 1))), (6, .int (nI (i))), (0, .ref (a)), (1, .int (ee)), (2, .int (mm)), (3, .long (oo))] dP_sizeTo_49 rfl (nI_add (q) 1) (by decide) rfl ?_
              refine x_iinc F 1 [(6, .int (nI (i + 1))), (5, .int (nI (q + 1))), (0, .ref (a)), (1, .int (ee)), (2, .int (mm)), (3, .long (oo))] dP_sizeTo_52 rfl (nI_add (i) 1) (by decide) rfl ?_
              refine x_goto F (tgt := 6) dP_sizeTo_55 (by decide) ?_
              exact ih (i + 1) _ (by omega) (by omega) (by rw [hf, ct_s, if_pos (by simp_all)])
  refine x_iconst F (v := nI (0)) dP_sizeTo_0 (by decide) ?_
  refine x_istore F [(5, .int (nI (0))), (0, .ref (a)), (1, .int (ee)), (2, .int (mm)), (3, .long (oo))] dP_sizeTo_1 (by decide) rfl ?_
  refine x_iconst F (v := nI (0)) dP_sizeTo_3 (by decide) ?_
  refine x_istore F [(6, .int (nI (0))), (5, .int (nI (0))), (0, .ref (a)), (1, .int (ee)), (2, .int (mm)), (3, .long (oo))] dP_sizeTo_4 (by decide) rfl ?_
  exact loop n 0 0 (by omega) (by omega) rfl
end
section
/-! TextReader at a: signs at a + 1, words at a + 2; the text: n signs tx; c words read; its place; the failure -/
def rAt (M : xH) (a : Nat) (sg : Nat → Int32) (wd : Nat → Int64) (c n q : Nat) (fk fp : Int32) : Prop :=
  M a = some (.inr (3, [.ref (a + 1), .ref (a + 2), .int (nI c), .int (nI n), .int (nI q), .int fk, .int fp])) ∧ M (a + 1) = some (.inl (.char, 400, .inl sg)) ∧ M (a + 2) = some (.inl (.long, 6, .inr (.inl wd))) ∧ c ≤ 6 ∧ n ≤ 400 ∧ q ≤ 400
/-- the signs are these characters -/
def sAt (sg : Nat → Int32) (tx : Nat → Nat) (n : Nat) : Prop := ∀ i, i < n → sg i = nI (tx i) ∧ tx i < 128
def dig (c : Nat) : Bool := decide (48 ≤ c) && decide (c ≤ 57)
def let_ (c : Nat) : Bool := decide (97 ≤ c) && decide (c ≤ 122)
/-- the sign at a place, 0 behind the end -/
def hx (tx : Nat → Nat) (n q : Nat) : Nat := if q < n then tx q else 0
theorem hx_lt {sg : Nat → Int32} {tx : Nat → Nat} {n q : Nat} (h : sAt sg tx n) : hx tx n q < 128 := by
  unfold hx; split
  · exact (h q (by assumption)).2
  · omega
/-- how many of the k signs from i on are such ones, without a gap -/
def rn (K : Nat → Bool) (tx : Nat → Nat) : Nat → Nat → Nat
  | 0, _ => 0
  | k + 1, i => if K (tx i) then rn K tx k (i + 1) + 1 else 0
theorem rn_s (K : Nat → Bool) (tx : Nat → Nat) (k i : Nat) : rn K tx (k + 1) i = if K (tx i) then rn K tx k (i + 1) + 1 else 0 := rfl
theorem rn_le (K : Nat → Bool) (tx : Nat → Nat) (k i : Nat) : rn K tx k i ≤ k := by
  induction k generalizing i with
  | zero => exact Nat.le_refl _
  | succ k ih =>
    rw [rn_s]; split
    · have := ih (i + 1); omega
    · omega
def sgn (c : Int32) : Bool := decide (c = nI 45) || (decide (c = nI 46) || (decide (c = nI 59) || ((decide (nI 48 ≤ c) && decide (c ≤ nI 57)) || (decide (nI 97 ≤ c) && decide (c ≤ nI 122)))))
theorem dR_init_0 : decode bR_init 0 = .ok (.aload_n 0, 1) := by decide +kernel
theorem dR_init_1 : decode bR_init 1 = .ok (.invokespecial 3, 3) := by decide +kernel
theorem dR_init_4 : decode bR_init 4 = .ok (.aload_n 0, 1) := by decide +kernel
theorem dR_init_5 : decode bR_init 5 = .ok (.sipush 400, 3) := by decide +kernel
theorem dR_init_8 : decode bR_init 8 = .ok (.newarray .char, 2) := by decide +kernel
theorem dR_init_10 : decode bR_init 10 = .ok (.putfield 9, 3) := by decide +kernel
theorem dR_init_13 : decode bR_init 13 = .ok (.aload_n 0, 1) := by decide +kernel
theorem dR_init_14 : decode bR_init 14 = .ok (.bipush 6, 2) := by decide +kernel
theorem dR_init_16 : decode bR_init 16 = .ok (.newarray .long, 2) := by decide +kernel
theorem dR_init_18 : decode bR_init 18 = .ok (.putfield 15, 3) := by decide +kernel
theorem dR_init_21 : decode bR_init 21 = .ok (.aload_n 0, 1) := by decide +kernel
theorem dR_init_22 : decode bR_init 22 = .ok (.iconst 0, 1) := by decide +kernel
theorem dR_init_23 : decode bR_init 23 = .ok (.putfield 19, 3) := by decide +kernel
theorem dR_init_26 : decode bR_init 26 = .ok (.aload_n 0, 1) := by decide +kernel
theorem dR_init_27 : decode bR_init 27 = .ok (.iconst 0, 1) := by decide +kernel
theorem dR_init_28 : decode bR_init 28 = .ok (.putfield 23, 3) := by decide +kernel
theorem dR_init_31 : decode bR_init 31 = .ok (.aload_n 0, 1) := by decide +kernel
theorem dR_init_32 : decode bR_init 32 = .ok (.iconst 0, 1) := by decide +kernel
theorem dR_init_33 : decode bR_init 33 = .ok (.putfield 26, 3) := by decide +kernel
theorem dR_init_36 : decode bR_init 36 = .ok (.aload_n 0, 1) := by decide +kernel
theorem dR_init_37 : decode bR_init 37 = .ok (.iconst 0, 1) := by decide +kernel
theorem dR_init_38 : decode bR_init 38 = .ok (.putfield 29, 3) := by decide +kernel
theorem dR_init_41 : decode bR_init 41 = .ok (.aload_n 0, 1) := by decide +kernel
theorem dR_init_42 : decode bR_init 42 = .ok (.iconst (-1), 1) := by decide +kernel
theorem dR_init_43 : decode bR_init 43 = .ok (.putfield 32, 3) := by decide +kernel
theorem dR_init_46 : decode bR_init 46 = .ok (.return_, 1) := by decide +kernel
theorem dR_length_0 : decode bR_length 0 = .ok (.aload_n 0, 1) := by decide +kernel
theorem dR_length_1 : decode bR_length 1 = .ok (.getfield 23, 3) := by decide +kernel
theorem dR_length_4 : decode bR_length 4 = .ok (.ireturn, 1) := by decide +kernel
theorem dR_failureKind_0 : decode bR_failureKind 0 = .ok (.aload_n 0, 1) := by decide +kernel
theorem dR_failureKind_1 : decode bR_failureKind 1 = .ok (.getfield 29, 3) := by decide +kernel
theorem dR_failureKind_4 : decode bR_failureKind 4 = .ok (.ireturn, 1) := by decide +kernel
theorem dR_failurePlace_0 : decode bR_failurePlace 0 = .ok (.aload_n 0, 1) := by decide +kernel
theorem dR_failurePlace_1 : decode bR_failurePlace 1 = .ok (.getfield 32, 3) := by decide +kernel
theorem dR_failurePlace_4 : decode bR_failurePlace 4 = .ok (.ireturn, 1) := by decide +kernel
theorem dR_wordCount_0 : decode bR_wordCount 0 = .ok (.aload_n 0, 1) := by decide +kernel
theorem dR_wordCount_1 : decode bR_wordCount 1 = .ok (.getfield 19, 3) := by decide +kernel
theorem dR_wordCount_4 : decode bR_wordCount 4 = .ok (.ireturn, 1) := by decide +kernel
theorem dR_wordAt_0 : decode bR_wordAt 0 = .ok (.iload_n 1, 1) := by decide +kernel
theorem dR_wordAt_1 : decode bR_wordAt 1 = .ok (.ifCond .lt 29, 3) := by decide +kernel
theorem dR_wordAt_4 : decode bR_wordAt 4 = .ok (.iload_n 1, 1) := by decide +kernel
theorem dR_wordAt_5 : decode bR_wordAt 5 = .ok (.aload_n 0, 1) := by decide +kernel
theorem dR_wordAt_6 : decode bR_wordAt 6 = .ok (.getfield 19, 3) := by decide +kernel
theorem dR_wordAt_9 : decode bR_wordAt 9 = .ok (.if_icmp .ge 21, 3) := by decide +kernel
theorem dR_wordAt_12 : decode bR_wordAt 12 = .ok (.iload_n 1, 1) := by decide +kernel
theorem dR_wordAt_13 : decode bR_wordAt 13 = .ok (.aload_n 0, 1) := by decide +kernel
theorem dR_wordAt_14 : decode bR_wordAt 14 = .ok (.getfield 15, 3) := by decide +kernel
theorem dR_wordAt_17 : decode bR_wordAt 17 = .ok (.arraylength, 1) := by decide +kernel
theorem dR_wordAt_18 : decode bR_wordAt 18 = .ok (.if_icmp .ge 12, 3) := by decide +kernel
theorem dR_wordAt_21 : decode bR_wordAt 21 = .ok (.aload_n 0, 1) := by decide +kernel
theorem dR_wordAt_22 : decode bR_wordAt 22 = .ok (.getfield 15, 3) := by decide +kernel
theorem dR_wordAt_25 : decode bR_wordAt 25 = .ok (.iload_n 1, 1) := by decide +kernel
theorem dR_wordAt_26 : decode bR_wordAt 26 = .ok (.laload, 1) := by decide +kernel
theorem dR_wordAt_27 : decode bR_wordAt 27 = .ok (.goto 4, 3) := by decide +kernel
theorem dR_wordAt_30 : decode bR_wordAt 30 = .ok (.lconst 0, 1) := by decide +kernel
theorem dR_wordAt_31 : decode bR_wordAt 31 = .ok (.lreturn, 1) := by decide +kernel
theorem dR_clear_0 : decode bR_clear 0 = .ok (.aload_n 0, 1) := by decide +kernel
theorem dR_clear_1 : decode bR_clear 1 = .ok (.iconst 0, 1) := by decide +kernel
theorem dR_clear_2 : decode bR_clear 2 = .ok (.putfield 23, 3) := by decide +kernel
theorem dR_clear_5 : decode bR_clear 5 = .ok (.return_, 1) := by decide +kernel
theorem dR_take_0 : decode bR_take 0 = .ok (.iload_n 1, 1) := by decide +kernel
theorem dR_take_1 : decode bR_take 1 = .ok (.bipush 65, 2) := by decide +kernel
theorem dR_take_3 : decode bR_take 3 = .ok (.if_icmp .lt 19, 3) := by decide +kernel
theorem dR_take_6 : decode bR_take 6 = .ok (.iload_n 1, 1) := by decide +kernel
theorem dR_take_7 : decode bR_take 7 = .ok (.bipush 90, 2) := by decide +kernel
theorem dR_take_9 : decode bR_take 9 = .ok (.if_icmp .gt 13, 3) := by decide +kernel
theorem dR_take_12 : decode bR_take 12 = .ok (.iload_n 1, 1) := by decide +kernel
theorem dR_take_13 : decode bR_take 13 = .ok (.bipush 65, 2) := by decide +kernel
theorem dR_take_15 : decode bR_take 15 = .ok (.isub, 1) := by decide +kernel
theorem dR_take_16 : decode bR_take 16 = .ok (.bipush 97, 2) := by decide +kernel
theorem dR_take_18 : decode bR_take 18 = .ok (.iadd, 1) := by decide +kernel
theorem dR_take_19 : decode bR_take 19 = .ok (.goto 4, 3) := by decide +kernel
theorem dR_take_22 : decode bR_take 22 = .ok (.iload_n 1, 1) := by decide +kernel
theorem dR_take_23 : decode bR_take 23 = .ok (.istore_n 2, 1) := by decide +kernel
theorem dR_take_24 : decode bR_take 24 = .ok (.iload_n 2, 1) := by decide +kernel
theorem dR_take_25 : decode bR_take 25 = .ok (.invokestatic 35, 3) := by decide +kernel
theorem dR_take_28 : decode bR_take 28 = .ok (.ifCond .eq 15, 3) := by decide +kernel
theorem dR_take_31 : decode bR_take 31 = .ok (.aload_n 0, 1) := by decide +kernel
theorem dR_take_32 : decode bR_take 32 = .ok (.getfield 23, 3) := by decide +kernel
theorem dR_take_35 : decode bR_take 35 = .ok (.aload_n 0, 1) := by decide +kernel
theorem dR_take_36 : decode bR_take 36 = .ok (.getfield 9, 3) := by decide +kernel
theorem dR_take_39 : decode bR_take 39 = .ok (.arraylength, 1) := by decide +kernel
theorem dR_take_40 : decode bR_take 40 = .ok (.if_icmp .lt 5, 3) := by decide +kernel
theorem dR_take_43 : decode bR_take 43 = .ok (.iconst 0, 1) := by decide +kernel
theorem dR_take_44 : decode bR_take 44 = .ok (.ireturn, 1) := by decide +kernel
theorem dR_take_45 : decode bR_take 45 = .ok (.aload_n 0, 1) := by decide +kernel
theorem dR_take_46 : decode bR_take 46 = .ok (.getfield 9, 3) := by decide +kernel
theorem dR_take_49 : decode bR_take 49 = .ok (.aload_n 0, 1) := by decide +kernel
theorem dR_take_50 : decode bR_take 50 = .ok (.getfield 23, 3) := by decide +kernel
theorem dR_take_53 : decode bR_take 53 = .ok (.iload_n 2, 1) := by decide +kernel
theorem dR_take_54 : decode bR_take 54 = .ok (.i2c, 1) := by decide +kernel
theorem dR_take_55 : decode bR_take 55 = .ok (.castore, 1) := by decide +kernel
theorem dR_take_56 : decode bR_take 56 = .ok (.aload_n 0, 1) := by decide +kernel
theorem dR_take_57 : decode bR_take 57 = .ok (.dup, 1) := by decide +kernel
theorem dR_take_58 : decode bR_take 58 = .ok (.getfield 23, 3) := by decide +kernel
theorem dR_take_61 : decode bR_take 61 = .ok (.iconst 1, 1) := by decide +kernel
theorem dR_take_62 : decode bR_take 62 = .ok (.iadd, 1) := by decide +kernel
theorem dR_take_63 : decode bR_take 63 = .ok (.putfield 23, 3) := by decide +kernel
theorem dR_take_66 : decode bR_take 66 = .ok (.iconst 1, 1) := by decide +kernel
theorem dR_take_67 : decode bR_take 67 = .ok (.ireturn, 1) := by decide +kernel
theorem dR_readRows_0 : decode bR_readRows 0 = .ok (.aload_n 0, 1) := by decide +kernel
theorem dR_readRows_1 : decode bR_readRows 1 = .ok (.invokevirtual 39, 3) := by decide +kernel
theorem dR_readRows_4 : decode bR_readRows 4 = .ok (.aload_n 0, 1) := by decide +kernel
theorem dR_readRows_5 : decode bR_readRows 5 = .ok (.getfield 23, 3) := by decide +kernel
theorem dR_readRows_8 : decode bR_readRows 8 = .ok (.ifCond .ne 10, 3) := by decide +kernel
theorem dR_readRows_11 : decode bR_readRows 11 = .ok (.aload_n 0, 1) := by decide +kernel
theorem dR_readRows_12 : decode bR_readRows 12 = .ok (.iconst 1, 1) := by decide +kernel
theorem dR_readRows_13 : decode bR_readRows 13 = .ok (.iconst 0, 1) := by decide +kernel
theorem dR_readRows_14 : decode bR_readRows 14 = .ok (.invokevirtual 42, 3) := by decide +kernel
theorem dR_readRows_17 : decode bR_readRows 17 = .ok (.ireturn, 1) := by decide +kernel
theorem dR_readRows_18 : decode bR_readRows 18 = .ok (.iconst 0, 1) := by decide +kernel
theorem dR_readRows_19 : decode bR_readRows 19 = .ok (.istore_n 2, 1) := by decide +kernel
theorem dR_readRows_20 : decode bR_readRows 20 = .ok (.iload_n 2, 1) := by decide +kernel
theorem dR_readRows_21 : decode bR_readRows 21 = .ok (.bipush 40, 2) := by decide +kernel
theorem dR_readRows_23 : decode bR_readRows 23 = .ok (.if_icmp .gt 30, 3) := by decide +kernel
theorem dR_readRows_26 : decode bR_readRows 26 = .ok (.aload_n 0, 1) := by decide +kernel
theorem dR_readRows_27 : decode bR_readRows 27 = .ok (.getfield 26, 3) := by decide +kernel
theorem dR_readRows_30 : decode bR_readRows 30 = .ok (.aload_n 0, 1) := by decide +kernel
theorem dR_readRows_31 : decode bR_readRows 31 = .ok (.getfield 23, 3) := by decide +kernel
theorem dR_readRows_34 : decode bR_readRows 34 = .ok (.if_icmp .ge 19, 3) := by decide +kernel
theorem dR_readRows_37 : decode bR_readRows 37 = .ok (.aload_n 0, 1) := by decide +kernel
theorem dR_readRows_38 : decode bR_readRows 38 = .ok (.aload_n 1, 1) := by decide +kernel
theorem dR_readRows_39 : decode bR_readRows 39 = .ok (.invokevirtual 46, 3) := by decide +kernel
theorem dR_readRows_42 : decode bR_readRows 42 = .ok (.ifCond .ne 5, 3) := by decide +kernel
theorem dR_readRows_45 : decode bR_readRows 45 = .ok (.iconst 0, 1) := by decide +kernel
theorem dR_readRows_46 : decode bR_readRows 46 = .ok (.ireturn, 1) := by decide +kernel
theorem dR_readRows_47 : decode bR_readRows 47 = .ok (.iinc 2 1, 3) := by decide +kernel
theorem dR_readRows_50 : decode bR_readRows 50 = .ok (.goto (-30), 3) := by decide +kernel
theorem dR_readRows_53 : decode bR_readRows 53 = .ok (.iconst 1, 1) := by decide +kernel
theorem dR_readRows_54 : decode bR_readRows 54 = .ok (.ireturn, 1) := by decide +kernel
theorem dR_readAsked_0 : decode bR_readAsked 0 = .ok (.aload_n 0, 1) := by decide +kernel
theorem dR_readAsked_1 : decode bR_readAsked 1 = .ok (.invokevirtual 39, 3) := by decide +kernel
theorem dR_readAsked_4 : decode bR_readAsked 4 = .ok (.aload_n 0, 1) := by decide +kernel
theorem dR_readAsked_5 : decode bR_readAsked 5 = .ok (.bipush 6, 2) := by decide +kernel
theorem dR_readAsked_7 : decode bR_readAsked 7 = .ok (.invokevirtual 50, 3) := by decide +kernel
theorem dR_readAsked_10 : decode bR_readAsked 10 = .ok (.ifCond .eq 30, 3) := by decide +kernel
theorem dR_readAsked_13 : decode bR_readAsked 13 = .ok (.aload_n 0, 1) := by decide +kernel
theorem dR_readAsked_14 : decode bR_readAsked 14 = .ok (.getfield 26, 3) := by decide +kernel
theorem dR_readAsked_17 : decode bR_readAsked 17 = .ok (.aload_n 0, 1) := by decide +kernel
theorem dR_readAsked_18 : decode bR_readAsked 18 = .ok (.getfield 23, 3) := by decide +kernel
theorem dR_readAsked_21 : decode bR_readAsked 21 = .ok (.if_icmp .eq 15, 3) := by decide +kernel
theorem dR_readAsked_24 : decode bR_readAsked 24 = .ok (.aload_n 0, 1) := by decide +kernel
theorem dR_readAsked_25 : decode bR_readAsked 25 = .ok (.iconst 1, 1) := by decide +kernel
theorem dR_readAsked_26 : decode bR_readAsked 26 = .ok (.aload_n 0, 1) := by decide +kernel
theorem dR_readAsked_27 : decode bR_readAsked 27 = .ok (.getfield 26, 3) := by decide +kernel
theorem dR_readAsked_30 : decode bR_readAsked 30 = .ok (.invokevirtual 42, 3) := by decide +kernel
theorem dR_readAsked_33 : decode bR_readAsked 33 = .ok (.ifCond .eq 7, 3) := by decide +kernel
theorem dR_readAsked_36 : decode bR_readAsked 36 = .ok (.iconst 1, 1) := by decide +kernel
theorem dR_readAsked_37 : decode bR_readAsked 37 = .ok (.goto 4, 3) := by decide +kernel
theorem dR_readAsked_40 : decode bR_readAsked 40 = .ok (.iconst 0, 1) := by decide +kernel
theorem dR_readAsked_41 : decode bR_readAsked 41 = .ok (.ireturn, 1) := by decide +kernel
theorem dR_start_0 : decode bR_start 0 = .ok (.aload_n 0, 1) := by decide +kernel
theorem dR_start_1 : decode bR_start 1 = .ok (.iconst 0, 1) := by decide +kernel
theorem dR_start_2 : decode bR_start 2 = .ok (.putfield 26, 3) := by decide +kernel
theorem dR_start_5 : decode bR_start 5 = .ok (.aload_n 0, 1) := by decide +kernel
theorem dR_start_6 : decode bR_start 6 = .ok (.iconst 0, 1) := by decide +kernel
theorem dR_start_7 : decode bR_start 7 = .ok (.putfield 29, 3) := by decide +kernel
theorem dR_start_10 : decode bR_start 10 = .ok (.aload_n 0, 1) := by decide +kernel
theorem dR_start_11 : decode bR_start 11 = .ok (.iconst (-1), 1) := by decide +kernel
theorem dR_start_12 : decode bR_start 12 = .ok (.putfield 32, 3) := by decide +kernel
theorem dR_start_15 : decode bR_start 15 = .ok (.return_, 1) := by decide +kernel
theorem dR_fail_0 : decode bR_fail 0 = .ok (.aload_n 0, 1) := by decide +kernel
theorem dR_fail_1 : decode bR_fail 1 = .ok (.iload_n 1, 1) := by decide +kernel
theorem dR_fail_2 : decode bR_fail 2 = .ok (.putfield 29, 3) := by decide +kernel
theorem dR_fail_5 : decode bR_fail 5 = .ok (.aload_n 0, 1) := by decide +kernel
theorem dR_fail_6 : decode bR_fail 6 = .ok (.iload_n 2, 1) := by decide +kernel
theorem dR_fail_7 : decode bR_fail 7 = .ok (.putfield 32, 3) := by decide +kernel
theorem dR_fail_10 : decode bR_fail 10 = .ok (.iconst 0, 1) := by decide +kernel
theorem dR_fail_11 : decode bR_fail 11 = .ok (.ireturn, 1) := by decide +kernel
theorem dR_readRow_0 : decode bR_readRow 0 = .ok (.aload_n 0, 1) := by decide +kernel
theorem dR_readRow_1 : decode bR_readRow 1 = .ok (.getfield 26, 3) := by decide +kernel
theorem dR_readRow_4 : decode bR_readRow 4 = .ok (.istore_n 2, 1) := by decide +kernel
theorem dR_readRow_5 : decode bR_readRow 5 = .ok (.aload_n 0, 1) := by decide +kernel
theorem dR_readRow_6 : decode bR_readRow 6 = .ok (.invokevirtual 53, 3) := by decide +kernel
theorem dR_readRow_9 : decode bR_readRow 9 = .ok (.bipush 45, 2) := by decide +kernel
theorem dR_readRow_11 : decode bR_readRow 11 = .ok (.if_icmp .eq 20, 3) := by decide +kernel
theorem dR_readRow_14 : decode bR_readRow 14 = .ok (.aload_n 0, 1) := by decide +kernel
theorem dR_readRow_15 : decode bR_readRow 15 = .ok (.invokevirtual 53, 3) := by decide +kernel
theorem dR_readRow_18 : decode bR_readRow 18 = .ok (.invokestatic 57, 3) := by decide +kernel
theorem dR_readRow_21 : decode bR_readRow 21 = .ok (.ifCond .ne 10, 3) := by decide +kernel
theorem dR_readRow_24 : decode bR_readRow 24 = .ok (.aload_n 0, 1) := by decide +kernel
theorem dR_readRow_25 : decode bR_readRow 25 = .ok (.iconst 1, 1) := by decide +kernel
theorem dR_readRow_26 : decode bR_readRow 26 = .ok (.iload_n 2, 1) := by decide +kernel
theorem dR_readRow_27 : decode bR_readRow 27 = .ok (.invokevirtual 42, 3) := by decide +kernel
theorem dR_readRow_30 : decode bR_readRow 30 = .ok (.ireturn, 1) := by decide +kernel
theorem dR_readRow_31 : decode bR_readRow 31 = .ok (.aload_n 0, 1) := by decide +kernel
theorem dR_readRow_32 : decode bR_readRow 32 = .ok (.invokevirtual 60, 3) := by decide +kernel
theorem dR_readRow_35 : decode bR_readRow 35 = .ok (.istore_n 3, 1) := by decide +kernel
theorem dR_readRow_36 : decode bR_readRow 36 = .ok (.iload_n 3, 1) := by decide +kernel
theorem dR_readRow_37 : decode bR_readRow 37 = .ok (.aload_n 1, 1) := by decide +kernel
theorem dR_readRow_38 : decode bR_readRow 38 = .ok (.invokevirtual 64, 3) := by decide +kernel
theorem dR_readRow_41 : decode bR_readRow 41 = .ok (.if_icmp .le 10, 3) := by decide +kernel
theorem dR_readRow_44 : decode bR_readRow 44 = .ok (.aload_n 0, 1) := by decide +kernel
theorem dR_readRow_45 : decode bR_readRow 45 = .ok (.iconst 2, 1) := by decide +kernel
theorem dR_readRow_46 : decode bR_readRow 46 = .ok (.iload_n 2, 1) := by decide +kernel
theorem dR_readRow_47 : decode bR_readRow 47 = .ok (.invokevirtual 42, 3) := by decide +kernel
theorem dR_readRow_50 : decode bR_readRow 50 = .ok (.ireturn, 1) := by decide +kernel
theorem dR_readRow_51 : decode bR_readRow 51 = .ok (.aload_n 1, 1) := by decide +kernel
theorem dR_readRow_52 : decode bR_readRow 52 = .ok (.invokevirtual 69, 3) := by decide +kernel
theorem dR_readRow_55 : decode bR_readRow 55 = .ok (.ifCond .eq 10, 3) := by decide +kernel
theorem dR_readRow_58 : decode bR_readRow 58 = .ok (.aload_n 0, 1) := by decide +kernel
theorem dR_readRow_59 : decode bR_readRow 59 = .ok (.iconst 5, 1) := by decide +kernel
theorem dR_readRow_60 : decode bR_readRow 60 = .ok (.iload_n 2, 1) := by decide +kernel
theorem dR_readRow_61 : decode bR_readRow 61 = .ok (.invokevirtual 42, 3) := by decide +kernel
theorem dR_readRow_64 : decode bR_readRow 64 = .ok (.ireturn, 1) := by decide +kernel
theorem dR_readRow_65 : decode bR_readRow 65 = .ok (.iload_n 3, 1) := by decide +kernel
theorem dR_readRow_66 : decode bR_readRow 66 = .ok (.iconst 4, 1) := by decide +kernel
theorem dR_readRow_67 : decode bR_readRow 67 = .ok (.if_icmp .le 12, 3) := by decide +kernel
theorem dR_readRow_70 : decode bR_readRow 70 = .ok (.aload_n 0, 1) := by decide +kernel
theorem dR_readRow_71 : decode bR_readRow 71 = .ok (.iconst 1, 1) := by decide +kernel
theorem dR_readRow_72 : decode bR_readRow 72 = .ok (.iload_n 2, 1) := by decide +kernel
theorem dR_readRow_73 : decode bR_readRow 73 = .ok (.iconst 4, 1) := by decide +kernel
theorem dR_readRow_74 : decode bR_readRow 74 = .ok (.iadd, 1) := by decide +kernel
theorem dR_readRow_75 : decode bR_readRow 75 = .ok (.invokevirtual 42, 3) := by decide +kernel
theorem dR_readRow_78 : decode bR_readRow 78 = .ok (.ireturn, 1) := by decide +kernel
theorem dR_readRow_79 : decode bR_readRow 79 = .ok (.aload_n 0, 1) := by decide +kernel
theorem dR_readRow_80 : decode bR_readRow 80 = .ok (.iload_n 2, 1) := by decide +kernel
theorem dR_readRow_81 : decode bR_readRow 81 = .ok (.iload_n 3, 1) := by decide +kernel
theorem dR_readRow_82 : decode bR_readRow 82 = .ok (.iadd, 1) := by decide +kernel
theorem dR_readRow_83 : decode bR_readRow 83 = .ok (.putfield 26, 3) := by decide +kernel
theorem dR_readRow_86 : decode bR_readRow 86 = .ok (.aload_n 0, 1) := by decide +kernel
theorem dR_readRow_87 : decode bR_readRow 87 = .ok (.aload_n 1, 1) := by decide +kernel
theorem dR_readRow_88 : decode bR_readRow 88 = .ok (.iload_n 3, 1) := by decide +kernel
theorem dR_readRow_89 : decode bR_readRow 89 = .ok (.invokevirtual 73, 3) := by decide +kernel
theorem dR_readRow_92 : decode bR_readRow 92 = .ok (.ireturn, 1) := by decide +kernel
theorem dR_readCodeAndWords_0 : decode bR_readCodeAndWords 0 = .ok (.aload_n 0, 1) := by decide +kernel
theorem dR_readCodeAndWords_1 : decode bR_readCodeAndWords 1 = .ok (.getfield 26, 3) := by decide +kernel
theorem dR_readCodeAndWords_4 : decode bR_readCodeAndWords 4 = .ok (.istore_n 3, 1) := by decide +kernel
theorem dR_readCodeAndWords_5 : decode bR_readCodeAndWords 5 = .ok (.aload_n 0, 1) := by decide +kernel
theorem dR_readCodeAndWords_6 : decode bR_readCodeAndWords 6 = .ok (.invokevirtual 77, 3) := by decide +kernel
theorem dR_readCodeAndWords_9 : decode bR_readCodeAndWords 9 = .ok (.lstore 4, 2) := by decide +kernel
theorem dR_readCodeAndWords_11 : decode bR_readCodeAndWords 11 = .ok (.lload 4, 2) := by decide +kernel
theorem dR_readCodeAndWords_13 : decode bR_readCodeAndWords 13 = .ok (.lconst 0, 1) := by decide +kernel
theorem dR_readCodeAndWords_14 : decode bR_readCodeAndWords 14 = .ok (.lcmp, 1) := by decide +kernel
theorem dR_readCodeAndWords_15 : decode bR_readCodeAndWords 15 = .ok (.ifCond .ne 13, 3) := by decide +kernel
theorem dR_readCodeAndWords_18 : decode bR_readCodeAndWords 18 = .ok (.aload_n 0, 1) := by decide +kernel
theorem dR_readCodeAndWords_19 : decode bR_readCodeAndWords 19 = .ok (.iconst 1, 1) := by decide +kernel
theorem dR_readCodeAndWords_20 : decode bR_readCodeAndWords 20 = .ok (.aload_n 0, 1) := by decide +kernel
theorem dR_readCodeAndWords_21 : decode bR_readCodeAndWords 21 = .ok (.getfield 26, 3) := by decide +kernel
theorem dR_readCodeAndWords_24 : decode bR_readCodeAndWords 24 = .ok (.invokevirtual 42, 3) := by decide +kernel
theorem dR_readCodeAndWords_27 : decode bR_readCodeAndWords 27 = .ok (.ireturn, 1) := by decide +kernel
theorem dR_readCodeAndWords_28 : decode bR_readCodeAndWords 28 = .ok (.aload_n 1, 1) := by decide +kernel
theorem dR_readCodeAndWords_29 : decode bR_readCodeAndWords 29 = .ok (.aload_n 1, 1) := by decide +kernel
theorem dR_readCodeAndWords_30 : decode bR_readCodeAndWords 30 = .ok (.iload_n 2, 1) := by decide +kernel
theorem dR_readCodeAndWords_31 : decode bR_readCodeAndWords 31 = .ok (.invokevirtual 81, 3) := by decide +kernel
theorem dR_readCodeAndWords_34 : decode bR_readCodeAndWords 34 = .ok (.lload 4, 2) := by decide +kernel
theorem dR_readCodeAndWords_36 : decode bR_readCodeAndWords 36 = .ok (.invokevirtual 85, 3) := by decide +kernel
theorem dR_readCodeAndWords_39 : decode bR_readCodeAndWords 39 = .ok (.ifCond .ne 10, 3) := by decide +kernel
theorem dR_readCodeAndWords_42 : decode bR_readCodeAndWords 42 = .ok (.aload_n 0, 1) := by decide +kernel
theorem dR_readCodeAndWords_43 : decode bR_readCodeAndWords 43 = .ok (.iconst 3, 1) := by decide +kernel
theorem dR_readCodeAndWords_44 : decode bR_readCodeAndWords 44 = .ok (.iload_n 3, 1) := by decide +kernel
theorem dR_readCodeAndWords_45 : decode bR_readCodeAndWords 45 = .ok (.invokevirtual 42, 3) := by decide +kernel
theorem dR_readCodeAndWords_48 : decode bR_readCodeAndWords 48 = .ok (.ireturn, 1) := by decide +kernel
theorem dR_readCodeAndWords_49 : decode bR_readCodeAndWords 49 = .ok (.aload_n 1, 1) := by decide +kernel
theorem dR_readCodeAndWords_50 : decode bR_readCodeAndWords 50 = .ok (.lload 4, 2) := by decide +kernel
theorem dR_readCodeAndWords_52 : decode bR_readCodeAndWords 52 = .ok (.invokevirtual 89, 3) := by decide +kernel
theorem dR_readCodeAndWords_55 : decode bR_readCodeAndWords 55 = .ok (.ifCond .ne 10, 3) := by decide +kernel
theorem dR_readCodeAndWords_58 : decode bR_readCodeAndWords 58 = .ok (.aload_n 0, 1) := by decide +kernel
theorem dR_readCodeAndWords_59 : decode bR_readCodeAndWords 59 = .ok (.iconst 4, 1) := by decide +kernel
theorem dR_readCodeAndWords_60 : decode bR_readCodeAndWords 60 = .ok (.iload_n 3, 1) := by decide +kernel
theorem dR_readCodeAndWords_61 : decode bR_readCodeAndWords 61 = .ok (.invokevirtual 42, 3) := by decide +kernel
theorem dR_readCodeAndWords_64 : decode bR_readCodeAndWords 64 = .ok (.ireturn, 1) := by decide +kernel
theorem dR_readCodeAndWords_65 : decode bR_readCodeAndWords 65 = .ok (.aload_n 0, 1) := by decide +kernel
theorem dR_readCodeAndWords_66 : decode bR_readCodeAndWords 66 = .ok (.iconst 4, 1) := by decide +kernel
theorem dR_readCodeAndWords_67 : decode bR_readCodeAndWords 67 = .ok (.invokevirtual 50, 3) := by decide +kernel
theorem dR_readCodeAndWords_70 : decode bR_readCodeAndWords 70 = .ok (.ifCond .ne 5, 3) := by decide +kernel
theorem dR_readCodeAndWords_73 : decode bR_readCodeAndWords 73 = .ok (.iconst 0, 1) := by decide +kernel
theorem dR_readCodeAndWords_74 : decode bR_readCodeAndWords 74 = .ok (.ireturn, 1) := by decide +kernel
theorem dR_readCodeAndWords_75 : decode bR_readCodeAndWords 75 = .ok (.aload_n 0, 1) := by decide +kernel
theorem dR_readCodeAndWords_76 : decode bR_readCodeAndWords 76 = .ok (.invokevirtual 53, 3) := by decide +kernel
theorem dR_readCodeAndWords_79 : decode bR_readCodeAndWords 79 = .ok (.bipush 59, 2) := by decide +kernel
theorem dR_readCodeAndWords_81 : decode bR_readCodeAndWords 81 = .ok (.if_icmp .eq 13, 3) := by decide +kernel
theorem dR_readCodeAndWords_84 : decode bR_readCodeAndWords 84 = .ok (.aload_n 0, 1) := by decide +kernel
theorem dR_readCodeAndWords_85 : decode bR_readCodeAndWords 85 = .ok (.iconst 1, 1) := by decide +kernel
theorem dR_readCodeAndWords_86 : decode bR_readCodeAndWords 86 = .ok (.aload_n 0, 1) := by decide +kernel
theorem dR_readCodeAndWords_87 : decode bR_readCodeAndWords 87 = .ok (.getfield 26, 3) := by decide +kernel
theorem dR_readCodeAndWords_90 : decode bR_readCodeAndWords 90 = .ok (.invokevirtual 42, 3) := by decide +kernel
theorem dR_readCodeAndWords_93 : decode bR_readCodeAndWords 93 = .ok (.ireturn, 1) := by decide +kernel
theorem dR_readCodeAndWords_94 : decode bR_readCodeAndWords 94 = .ok (.aload_n 0, 1) := by decide +kernel
theorem dR_readCodeAndWords_95 : decode bR_readCodeAndWords 95 = .ok (.dup, 1) := by decide +kernel
theorem dR_readCodeAndWords_96 : decode bR_readCodeAndWords 96 = .ok (.getfield 26, 3) := by decide +kernel
theorem dR_readCodeAndWords_99 : decode bR_readCodeAndWords 99 = .ok (.iconst 1, 1) := by decide +kernel
theorem dR_readCodeAndWords_100 : decode bR_readCodeAndWords 100 = .ok (.iadd, 1) := by decide +kernel
theorem dR_readCodeAndWords_101 : decode bR_readCodeAndWords 101 = .ok (.putfield 26, 3) := by decide +kernel
theorem dR_readCodeAndWords_104 : decode bR_readCodeAndWords 104 = .ok (.aload_n 1, 1) := by decide +kernel
theorem dR_readCodeAndWords_105 : decode bR_readCodeAndWords 105 = .ok (.lload 4, 2) := by decide +kernel
theorem dR_readCodeAndWords_107 : decode bR_readCodeAndWords 107 = .ok (.iload_n 2, 1) := by decide +kernel
theorem dR_readCodeAndWords_108 : decode bR_readCodeAndWords 108 = .ok (.aload_n 0, 1) := by decide +kernel
theorem dR_readCodeAndWords_109 : decode bR_readCodeAndWords 109 = .ok (.invokevirtual 93, 3) := by decide +kernel
theorem dR_readCodeAndWords_112 : decode bR_readCodeAndWords 112 = .ok (.iconst 1, 1) := by decide +kernel
theorem dR_readCodeAndWords_113 : decode bR_readCodeAndWords 113 = .ok (.ireturn, 1) := by decide +kernel
theorem dR_countDashes_0 : decode bR_countDashes 0 = .ok (.iconst 0, 1) := by decide +kernel
theorem dR_countDashes_1 : decode bR_countDashes 1 = .ok (.istore_n 1, 1) := by decide +kernel
theorem dR_countDashes_2 : decode bR_countDashes 2 = .ok (.aload_n 0, 1) := by decide +kernel
theorem dR_countDashes_3 : decode bR_countDashes 3 = .ok (.getfield 26, 3) := by decide +kernel
theorem dR_countDashes_6 : decode bR_countDashes 6 = .ok (.istore_n 2, 1) := by decide +kernel
theorem dR_countDashes_7 : decode bR_countDashes 7 = .ok (.iload_n 2, 1) := by decide +kernel
theorem dR_countDashes_8 : decode bR_countDashes 8 = .ok (.aload_n 0, 1) := by decide +kernel
theorem dR_countDashes_9 : decode bR_countDashes 9 = .ok (.getfield 23, 3) := by decide +kernel
theorem dR_countDashes_12 : decode bR_countDashes 12 = .ok (.if_icmp .ge 23, 3) := by decide +kernel
theorem dR_countDashes_15 : decode bR_countDashes 15 = .ok (.aload_n 0, 1) := by decide +kernel
theorem dR_countDashes_16 : decode bR_countDashes 16 = .ok (.getfield 9, 3) := by decide +kernel
theorem dR_countDashes_19 : decode bR_countDashes 19 = .ok (.iload_n 2, 1) := by decide +kernel
theorem dR_countDashes_20 : decode bR_countDashes 20 = .ok (.caload, 1) := by decide +kernel
theorem dR_countDashes_21 : decode bR_countDashes 21 = .ok (.bipush 45, 2) := by decide +kernel
theorem dR_countDashes_23 : decode bR_countDashes 23 = .ok (.if_icmp .ne 12, 3) := by decide +kernel
theorem dR_countDashes_26 : decode bR_countDashes 26 = .ok (.iinc 1 1, 3) := by decide +kernel
theorem dR_countDashes_29 : decode bR_countDashes 29 = .ok (.iinc 2 1, 3) := by decide +kernel
theorem dR_countDashes_32 : decode bR_countDashes 32 = .ok (.goto (-25), 3) := by decide +kernel
theorem dR_countDashes_35 : decode bR_countDashes 35 = .ok (.iload_n 1, 1) := by decide +kernel
theorem dR_countDashes_36 : decode bR_countDashes 36 = .ok (.ireturn, 1) := by decide +kernel
theorem dR_readCode_0 : decode bR_readCode 0 = .ok (.lconst 1, 1) := by decide +kernel
theorem dR_readCode_1 : decode bR_readCode 1 = .ok (.lstore_n 1, 1) := by decide +kernel
theorem dR_readCode_2 : decode bR_readCode 2 = .ok (.iconst 0, 1) := by decide +kernel
theorem dR_readCode_3 : decode bR_readCode 3 = .ok (.istore_n 3, 1) := by decide +kernel
theorem dR_readCode_4 : decode bR_readCode 4 = .ok (.iload_n 3, 1) := by decide +kernel
theorem dR_readCode_5 : decode bR_readCode 5 = .ok (.bipush 10, 2) := by decide +kernel
theorem dR_readCode_7 : decode bR_readCode 7 = .ok (.if_icmp .ge 44, 3) := by decide +kernel
theorem dR_readCode_10 : decode bR_readCode 10 = .ok (.aload_n 0, 1) := by decide +kernel
theorem dR_readCode_11 : decode bR_readCode 11 = .ok (.invokevirtual 53, 3) := by decide +kernel
theorem dR_readCode_14 : decode bR_readCode 14 = .ok (.invokestatic 57, 3) := by decide +kernel
theorem dR_readCode_17 : decode bR_readCode 17 = .ok (.ifCond .eq 34, 3) := by decide +kernel
theorem dR_readCode_20 : decode bR_readCode 20 = .ok (.lload_n 1, 1) := by decide +kernel
theorem dR_readCode_21 : decode bR_readCode 21 = .ok (.ldc2_w 97, 3) := by decide +kernel
theorem dR_readCode_24 : decode bR_readCode 24 = .ok (.lmul, 1) := by decide +kernel
theorem dR_readCode_25 : decode bR_readCode 25 = .ok (.aload_n 0, 1) := by decide +kernel
theorem dR_readCode_26 : decode bR_readCode 26 = .ok (.invokevirtual 53, 3) := by decide +kernel
theorem dR_readCode_29 : decode bR_readCode 29 = .ok (.bipush 48, 2) := by decide +kernel
theorem dR_readCode_31 : decode bR_readCode 31 = .ok (.isub, 1) := by decide +kernel
theorem dR_readCode_32 : decode bR_readCode 32 = .ok (.i2l, 1) := by decide +kernel
theorem dR_readCode_33 : decode bR_readCode 33 = .ok (.ladd, 1) := by decide +kernel
theorem dR_readCode_34 : decode bR_readCode 34 = .ok (.lstore_n 1, 1) := by decide +kernel
theorem dR_readCode_35 : decode bR_readCode 35 = .ok (.iinc 3 1, 3) := by decide +kernel
theorem dR_readCode_38 : decode bR_readCode 38 = .ok (.aload_n 0, 1) := by decide +kernel
theorem dR_readCode_39 : decode bR_readCode 39 = .ok (.dup, 1) := by decide +kernel
theorem dR_readCode_40 : decode bR_readCode 40 = .ok (.getfield 26, 3) := by decide +kernel
theorem dR_readCode_43 : decode bR_readCode 43 = .ok (.iconst 1, 1) := by decide +kernel
theorem dR_readCode_44 : decode bR_readCode 44 = .ok (.iadd, 1) := by decide +kernel
theorem dR_readCode_45 : decode bR_readCode 45 = .ok (.putfield 26, 3) := by decide +kernel
theorem dR_readCode_48 : decode bR_readCode 48 = .ok (.goto (-44), 3) := by decide +kernel
theorem dR_readCode_51 : decode bR_readCode 51 = .ok (.iload_n 3, 1) := by decide +kernel
theorem dR_readCode_52 : decode bR_readCode 52 = .ok (.iconst 2, 1) := by decide +kernel
theorem dR_readCode_53 : decode bR_readCode 53 = .ok (.if_icmp .lt 23, 3) := by decide +kernel
theorem dR_readCode_56 : decode bR_readCode 56 = .ok (.iload_n 3, 1) := by decide +kernel
theorem dR_readCode_57 : decode bR_readCode 57 = .ok (.iconst 2, 1) := by decide +kernel
theorem dR_readCode_58 : decode bR_readCode 58 = .ok (.irem, 1) := by decide +kernel
theorem dR_readCode_59 : decode bR_readCode 59 = .ok (.ifCond .ne 17, 3) := by decide +kernel
theorem dR_readCode_62 : decode bR_readCode 62 = .ok (.aload_n 0, 1) := by decide +kernel
theorem dR_readCode_63 : decode bR_readCode 63 = .ok (.invokevirtual 53, 3) := by decide +kernel
theorem dR_readCode_66 : decode bR_readCode 66 = .ok (.invokestatic 57, 3) := by decide +kernel
theorem dR_readCode_69 : decode bR_readCode 69 = .ok (.ifCond .ne 7, 3) := by decide +kernel
theorem dR_readCode_72 : decode bR_readCode 72 = .ok (.iconst 1, 1) := by decide +kernel
theorem dR_readCode_73 : decode bR_readCode 73 = .ok (.goto 4, 3) := by decide +kernel
theorem dR_readCode_76 : decode bR_readCode 76 = .ok (.iconst 0, 1) := by decide +kernel
theorem dR_readCode_77 : decode bR_readCode 77 = .ok (.istore 4, 2) := by decide +kernel
theorem dR_readCode_79 : decode bR_readCode 79 = .ok (.iload 4, 2) := by decide +kernel
theorem dR_readCode_81 : decode bR_readCode 81 = .ok (.ifCond .eq 7, 3) := by decide +kernel
theorem dR_readCode_84 : decode bR_readCode 84 = .ok (.lload_n 1, 1) := by decide +kernel
theorem dR_readCode_85 : decode bR_readCode 85 = .ok (.goto 4, 3) := by decide +kernel
theorem dR_readCode_88 : decode bR_readCode 88 = .ok (.lconst 0, 1) := by decide +kernel
theorem dR_readCode_89 : decode bR_readCode 89 = .ok (.lreturn, 1) := by decide +kernel
theorem dR_readWords_0 : decode bR_readWords 0 = .ok (.aload_n 0, 1) := by decide +kernel
theorem dR_readWords_1 : decode bR_readWords 1 = .ok (.iconst 0, 1) := by decide +kernel
theorem dR_readWords_2 : decode bR_readWords 2 = .ok (.putfield 19, 3) := by decide +kernel
theorem dR_readWords_5 : decode bR_readWords 5 = .ok (.iconst 0, 1) := by decide +kernel
theorem dR_readWords_6 : decode bR_readWords 6 = .ok (.istore_n 2, 1) := by decide +kernel
theorem dR_readWords_7 : decode bR_readWords 7 = .ok (.iload_n 2, 1) := by decide +kernel
theorem dR_readWords_8 : decode bR_readWords 8 = .ok (.iload_n 1, 1) := by decide +kernel
theorem dR_readWords_9 : decode bR_readWords 9 = .ok (.if_icmp .ge 82, 3) := by decide +kernel
theorem dR_readWords_12 : decode bR_readWords 12 = .ok (.iload_n 2, 1) := by decide +kernel
theorem dR_readWords_13 : decode bR_readWords 13 = .ok (.aload_n 0, 1) := by decide +kernel
theorem dR_readWords_14 : decode bR_readWords 14 = .ok (.getfield 15, 3) := by decide +kernel
theorem dR_readWords_17 : decode bR_readWords 17 = .ok (.arraylength, 1) := by decide +kernel
theorem dR_readWords_18 : decode bR_readWords 18 = .ok (.if_icmp .ge 73, 3) := by decide +kernel
theorem dR_readWords_21 : decode bR_readWords 21 = .ok (.aload_n 0, 1) := by decide +kernel
theorem dR_readWords_22 : decode bR_readWords 22 = .ok (.invokevirtual 99, 3) := by decide +kernel
theorem dR_readWords_25 : decode bR_readWords 25 = .ok (.lstore_n 3, 1) := by decide +kernel
theorem dR_readWords_26 : decode bR_readWords 26 = .ok (.lload_n 3, 1) := by decide +kernel
theorem dR_readWords_27 : decode bR_readWords 27 = .ok (.lconst 0, 1) := by decide +kernel
theorem dR_readWords_28 : decode bR_readWords 28 = .ok (.lcmp, 1) := by decide +kernel
theorem dR_readWords_29 : decode bR_readWords 29 = .ok (.ifCond .ne 13, 3) := by decide +kernel
theorem dR_readWords_32 : decode bR_readWords 32 = .ok (.aload_n 0, 1) := by decide +kernel
theorem dR_readWords_33 : decode bR_readWords 33 = .ok (.iconst 1, 1) := by decide +kernel
theorem dR_readWords_34 : decode bR_readWords 34 = .ok (.aload_n 0, 1) := by decide +kernel
theorem dR_readWords_35 : decode bR_readWords 35 = .ok (.getfield 26, 3) := by decide +kernel
theorem dR_readWords_38 : decode bR_readWords 38 = .ok (.invokevirtual 42, 3) := by decide +kernel
theorem dR_readWords_41 : decode bR_readWords 41 = .ok (.ireturn, 1) := by decide +kernel
theorem dR_readWords_42 : decode bR_readWords 42 = .ok (.aload_n 0, 1) := by decide +kernel
theorem dR_readWords_43 : decode bR_readWords 43 = .ok (.getfield 15, 3) := by decide +kernel
theorem dR_readWords_46 : decode bR_readWords 46 = .ok (.iload_n 2, 1) := by decide +kernel
theorem dR_readWords_47 : decode bR_readWords 47 = .ok (.lload_n 3, 1) := by decide +kernel
theorem dR_readWords_48 : decode bR_readWords 48 = .ok (.lastore, 1) := by decide +kernel
theorem dR_readWords_49 : decode bR_readWords 49 = .ok (.aload_n 0, 1) := by decide +kernel
theorem dR_readWords_50 : decode bR_readWords 50 = .ok (.iload_n 2, 1) := by decide +kernel
theorem dR_readWords_51 : decode bR_readWords 51 = .ok (.iconst 1, 1) := by decide +kernel
theorem dR_readWords_52 : decode bR_readWords 52 = .ok (.iadd, 1) := by decide +kernel
theorem dR_readWords_53 : decode bR_readWords 53 = .ok (.putfield 19, 3) := by decide +kernel
theorem dR_readWords_56 : decode bR_readWords 56 = .ok (.aload_n 0, 1) := by decide +kernel
theorem dR_readWords_57 : decode bR_readWords 57 = .ok (.invokevirtual 53, 3) := by decide +kernel
theorem dR_readWords_60 : decode bR_readWords 60 = .ok (.bipush 46, 2) := by decide +kernel
theorem dR_readWords_62 : decode bR_readWords 62 = .ok (.if_icmp .ne 11, 3) := by decide +kernel
theorem dR_readWords_65 : decode bR_readWords 65 = .ok (.aload_n 0, 1) := by decide +kernel
theorem dR_readWords_66 : decode bR_readWords 66 = .ok (.getfield 19, 3) := by decide +kernel
theorem dR_readWords_69 : decode bR_readWords 69 = .ok (.iload_n 1, 1) := by decide +kernel
theorem dR_readWords_70 : decode bR_readWords 70 = .ok (.if_icmp .ne 5, 3) := by decide +kernel
theorem dR_readWords_73 : decode bR_readWords 73 = .ok (.iconst 1, 1) := by decide +kernel
theorem dR_readWords_74 : decode bR_readWords 74 = .ok (.ireturn, 1) := by decide +kernel
theorem dR_readWords_75 : decode bR_readWords 75 = .ok (.aload_n 0, 1) := by decide +kernel
theorem dR_readWords_76 : decode bR_readWords 76 = .ok (.dup, 1) := by decide +kernel
theorem dR_readWords_77 : decode bR_readWords 77 = .ok (.getfield 26, 3) := by decide +kernel
theorem dR_readWords_80 : decode bR_readWords 80 = .ok (.iconst 1, 1) := by decide +kernel
theorem dR_readWords_81 : decode bR_readWords 81 = .ok (.iadd, 1) := by decide +kernel
theorem dR_readWords_82 : decode bR_readWords 82 = .ok (.putfield 26, 3) := by decide +kernel
theorem dR_readWords_85 : decode bR_readWords 85 = .ok (.iinc 2 1, 3) := by decide +kernel
theorem dR_readWords_88 : decode bR_readWords 88 = .ok (.goto (-81), 3) := by decide +kernel
theorem dR_readWords_91 : decode bR_readWords 91 = .ok (.iconst 1, 1) := by decide +kernel
theorem dR_readWords_92 : decode bR_readWords 92 = .ok (.ireturn, 1) := by decide +kernel
theorem dR_readWord_0 : decode bR_readWord 0 = .ok (.lconst 0, 1) := by decide +kernel
theorem dR_readWord_1 : decode bR_readWord 1 = .ok (.lstore_n 1, 1) := by decide +kernel
theorem dR_readWord_2 : decode bR_readWord 2 = .ok (.iconst 0, 1) := by decide +kernel
theorem dR_readWord_3 : decode bR_readWord 3 = .ok (.istore_n 3, 1) := by decide +kernel
theorem dR_readWord_4 : decode bR_readWord 4 = .ok (.iload_n 3, 1) := by decide +kernel
theorem dR_readWord_5 : decode bR_readWord 5 = .ok (.bipush 8, 2) := by decide +kernel
theorem dR_readWord_7 : decode bR_readWord 7 = .ok (.if_icmp .ge 46, 3) := by decide +kernel
theorem dR_readWord_10 : decode bR_readWord 10 = .ok (.aload_n 0, 1) := by decide +kernel
theorem dR_readWord_11 : decode bR_readWord 11 = .ok (.invokevirtual 53, 3) := by decide +kernel
theorem dR_readWord_14 : decode bR_readWord 14 = .ok (.invokestatic 102, 3) := by decide +kernel
theorem dR_readWord_17 : decode bR_readWord 17 = .ok (.ifCond .eq 36, 3) := by decide +kernel
theorem dR_readWord_20 : decode bR_readWord 20 = .ok (.lload_n 1, 1) := by decide +kernel
theorem dR_readWord_21 : decode bR_readWord 21 = .ok (.ldc2_w 105, 3) := by decide +kernel
theorem dR_readWord_24 : decode bR_readWord 24 = .ok (.lmul, 1) := by decide +kernel
theorem dR_readWord_25 : decode bR_readWord 25 = .ok (.aload_n 0, 1) := by decide +kernel
theorem dR_readWord_26 : decode bR_readWord 26 = .ok (.invokevirtual 53, 3) := by decide +kernel
theorem dR_readWord_29 : decode bR_readWord 29 = .ok (.bipush 97, 2) := by decide +kernel
theorem dR_readWord_31 : decode bR_readWord 31 = .ok (.isub, 1) := by decide +kernel
theorem dR_readWord_32 : decode bR_readWord 32 = .ok (.iconst 1, 1) := by decide +kernel
theorem dR_readWord_33 : decode bR_readWord 33 = .ok (.iadd, 1) := by decide +kernel
theorem dR_readWord_34 : decode bR_readWord 34 = .ok (.i2l, 1) := by decide +kernel
theorem dR_readWord_35 : decode bR_readWord 35 = .ok (.ladd, 1) := by decide +kernel
theorem dR_readWord_36 : decode bR_readWord 36 = .ok (.lstore_n 1, 1) := by decide +kernel
theorem dR_readWord_37 : decode bR_readWord 37 = .ok (.aload_n 0, 1) := by decide +kernel
theorem dR_readWord_38 : decode bR_readWord 38 = .ok (.dup, 1) := by decide +kernel
theorem dR_readWord_39 : decode bR_readWord 39 = .ok (.getfield 26, 3) := by decide +kernel
theorem dR_readWord_42 : decode bR_readWord 42 = .ok (.iconst 1, 1) := by decide +kernel
theorem dR_readWord_43 : decode bR_readWord 43 = .ok (.iadd, 1) := by decide +kernel
theorem dR_readWord_44 : decode bR_readWord 44 = .ok (.putfield 26, 3) := by decide +kernel
theorem dR_readWord_47 : decode bR_readWord 47 = .ok (.iinc 3 1, 3) := by decide +kernel
theorem dR_readWord_50 : decode bR_readWord 50 = .ok (.goto (-46), 3) := by decide +kernel
theorem dR_readWord_53 : decode bR_readWord 53 = .ok (.lload_n 1, 1) := by decide +kernel
theorem dR_readWord_54 : decode bR_readWord 54 = .ok (.lreturn, 1) := by decide +kernel
theorem dR_here_0 : decode bR_here 0 = .ok (.aload_n 0, 1) := by decide +kernel
theorem dR_here_1 : decode bR_here 1 = .ok (.getfield 26, 3) := by decide +kernel
theorem dR_here_4 : decode bR_here 4 = .ok (.ifCond .lt 38, 3) := by decide +kernel
theorem dR_here_7 : decode bR_here 7 = .ok (.aload_n 0, 1) := by decide +kernel
theorem dR_here_8 : decode bR_here 8 = .ok (.getfield 26, 3) := by decide +kernel
theorem dR_here_11 : decode bR_here 11 = .ok (.aload_n 0, 1) := by decide +kernel
theorem dR_here_12 : decode bR_here 12 = .ok (.getfield 23, 3) := by decide +kernel
theorem dR_here_15 : decode bR_here 15 = .ok (.if_icmp .ge 27, 3) := by decide +kernel
theorem dR_here_18 : decode bR_here 18 = .ok (.aload_n 0, 1) := by decide +kernel
theorem dR_here_19 : decode bR_here 19 = .ok (.getfield 26, 3) := by decide +kernel
theorem dR_here_22 : decode bR_here 22 = .ok (.aload_n 0, 1) := by decide +kernel
theorem dR_here_23 : decode bR_here 23 = .ok (.getfield 9, 3) := by decide +kernel
theorem dR_here_26 : decode bR_here 26 = .ok (.arraylength, 1) := by decide +kernel
theorem dR_here_27 : decode bR_here 27 = .ok (.if_icmp .ge 15, 3) := by decide +kernel
theorem dR_here_30 : decode bR_here 30 = .ok (.aload_n 0, 1) := by decide +kernel
theorem dR_here_31 : decode bR_here 31 = .ok (.getfield 9, 3) := by decide +kernel
theorem dR_here_34 : decode bR_here 34 = .ok (.aload_n 0, 1) := by decide +kernel
theorem dR_here_35 : decode bR_here 35 = .ok (.getfield 26, 3) := by decide +kernel
theorem dR_here_38 : decode bR_here 38 = .ok (.caload, 1) := by decide +kernel
theorem dR_here_39 : decode bR_here 39 = .ok (.goto 4, 3) := by decide +kernel
theorem dR_here_42 : decode bR_here 42 = .ok (.iconst 0, 1) := by decide +kernel
theorem dR_here_43 : decode bR_here 43 = .ok (.ireturn, 1) := by decide +kernel
theorem dR_isSign_0 : decode bR_isSign 0 = .ok (.iload_n 0, 1) := by decide +kernel
theorem dR_isSign_1 : decode bR_isSign 1 = .ok (.bipush 45, 2) := by decide +kernel
theorem dR_isSign_3 : decode bR_isSign 3 = .ok (.if_icmp .eq 29, 3) := by decide +kernel
theorem dR_isSign_6 : decode bR_isSign 6 = .ok (.iload_n 0, 1) := by decide +kernel
theorem dR_isSign_7 : decode bR_isSign 7 = .ok (.bipush 46, 2) := by decide +kernel
theorem dR_isSign_9 : decode bR_isSign 9 = .ok (.if_icmp .eq 23, 3) := by decide +kernel
theorem dR_isSign_12 : decode bR_isSign 12 = .ok (.iload_n 0, 1) := by decide +kernel
theorem dR_isSign_13 : decode bR_isSign 13 = .ok (.bipush 59, 2) := by decide +kernel
theorem dR_isSign_15 : decode bR_isSign 15 = .ok (.if_icmp .eq 17, 3) := by decide +kernel
theorem dR_isSign_18 : decode bR_isSign 18 = .ok (.iload_n 0, 1) := by decide +kernel
theorem dR_isSign_19 : decode bR_isSign 19 = .ok (.invokestatic 57, 3) := by decide +kernel
theorem dR_isSign_22 : decode bR_isSign 22 = .ok (.ifCond .ne 10, 3) := by decide +kernel
theorem dR_isSign_25 : decode bR_isSign 25 = .ok (.iload_n 0, 1) := by decide +kernel
theorem dR_isSign_26 : decode bR_isSign 26 = .ok (.invokestatic 102, 3) := by decide +kernel
theorem dR_isSign_29 : decode bR_isSign 29 = .ok (.ifCond .eq 7, 3) := by decide +kernel
theorem dR_isSign_32 : decode bR_isSign 32 = .ok (.iconst 1, 1) := by decide +kernel
theorem dR_isSign_33 : decode bR_isSign 33 = .ok (.goto 4, 3) := by decide +kernel
theorem dR_isSign_36 : decode bR_isSign 36 = .ok (.iconst 0, 1) := by decide +kernel
theorem dR_isSign_37 : decode bR_isSign 37 = .ok (.ireturn, 1) := by decide +kernel
theorem dR_isDigit_0 : decode bR_isDigit 0 = .ok (.iload_n 0, 1) := by decide +kernel
theorem dR_isDigit_1 : decode bR_isDigit 1 = .ok (.bipush 48, 2) := by decide +kernel
theorem dR_isDigit_3 : decode bR_isDigit 3 = .ok (.if_icmp .lt 13, 3) := by decide +kernel
theorem dR_isDigit_6 : decode bR_isDigit 6 = .ok (.iload_n 0, 1) := by decide +kernel
theorem dR_isDigit_7 : decode bR_isDigit 7 = .ok (.bipush 57, 2) := by decide +kernel
theorem dR_isDigit_9 : decode bR_isDigit 9 = .ok (.if_icmp .gt 7, 3) := by decide +kernel
theorem dR_isDigit_12 : decode bR_isDigit 12 = .ok (.iconst 1, 1) := by decide +kernel
theorem dR_isDigit_13 : decode bR_isDigit 13 = .ok (.goto 4, 3) := by decide +kernel
theorem dR_isDigit_16 : decode bR_isDigit 16 = .ok (.iconst 0, 1) := by decide +kernel
theorem dR_isDigit_17 : decode bR_isDigit 17 = .ok (.ireturn, 1) := by decide +kernel
theorem dR_isLetter_0 : decode bR_isLetter 0 = .ok (.iload_n 0, 1) := by decide +kernel
theorem dR_isLetter_1 : decode bR_isLetter 1 = .ok (.bipush 97, 2) := by decide +kernel
theorem dR_isLetter_3 : decode bR_isLetter 3 = .ok (.if_icmp .lt 13, 3) := by decide +kernel
theorem dR_isLetter_6 : decode bR_isLetter 6 = .ok (.iload_n 0, 1) := by decide +kernel
theorem dR_isLetter_7 : decode bR_isLetter 7 = .ok (.bipush 122, 2) := by decide +kernel
theorem dR_isLetter_9 : decode bR_isLetter 9 = .ok (.if_icmp .gt 7, 3) := by decide +kernel
theorem dR_isLetter_12 : decode bR_isLetter 12 = .ok (.iconst 1, 1) := by decide +kernel
theorem dR_isLetter_13 : decode bR_isLetter 13 = .ok (.goto 4, 3) := by decide +kernel
theorem dR_isLetter_16 : decode bR_isLetter 16 = .ok (.iconst 0, 1) := by decide +kernel
theorem dR_isLetter_17 : decode bR_isLetter 17 = .ok (.ireturn, 1) := by decide +kernel
set_option maxHeartbeats 4000000 in
set_option maxRecDepth 100000 in
theorem cR_length (l : Launch) (nx : Nat) (M : xH) (a : Nat) (sg : Nat → Int32) (wd : Nat → Int64) (cw n q : Nat) (fk fp : Int32) (hT : rAt M a sg wd cw n q fk fp) : xC l xcl yR_length (xw (Cond.code yR_length bR_length 1 (some .int))) ({ frames := 0, cells := 0, slots := 0, locals := 0 } : Room) [.ref (a)] nx M (x_is (some (.int (nI (n)))) nx M) := by
  obtain ⟨h0, h1, h2, hcw, hn4, hq4⟩ := id hT
  refine yC (by decide) (Nat.le_of_ble_eq_true rfl) ?_
  intro p e s m args below meth c D F hr hn
  refine x_aload_n F 0 dR_length_0 rfl rfl ?_
  refine x_get (ci := 3) F 3 (x_in inR) rfl (by decide) (x_m kfR_23) dR_length_1 h0 rfl ?_
  exact x_iret F hr dR_length_4 (x_is_i _ _ _)
set_option maxHeartbeats 4000000 in
set_option maxRecDepth 100000 in
theorem cR_wordCount (l : Launch) (nx : Nat) (M : xH) (a : Nat) (sg : Nat → Int32) (wd : Nat → Int64) (cw n q : Nat) (fk fp : Int32) (hT : rAt M a sg wd cw n q fk fp) : xC l xcl yR_wordCount (xw (Cond.code yR_wordCount bR_wordCount 1 (some .int))) ({ frames := 0, cells := 0, slots := 0, locals := 0 } : Room) [.ref (a)] nx M (x_is (some (.int (nI (cw)))) nx M) := by
  obtain ⟨h0, h1, h2, hcw, hn4, hq4⟩ := id hT
  refine yC (by decide) (Nat.le_of_ble_eq_true rfl) ?_
  intro p e s m args below meth c D F hr hn
  refine x_aload_n F 0 dR_wordCount_0 rfl rfl ?_
  refine x_get (ci := 3) F 2 (x_in inR) rfl (by decide) (x_m kfR_19) dR_wordCount_1 h0 rfl ?_
  exact x_iret F hr dR_wordCount_4 (x_is_i _ _ _)
set_option maxHeartbeats 4000000 in
set_option maxRecDepth 100000 in
theorem cR_failureKind (l : Launch) (nx : Nat) (M : xH) (a : Nat) (sg : Nat → Int32) (wd : Nat → Int64) (cw n q : Nat) (fk fp : Int32) (hT : rAt M a sg wd cw n q fk fp) : xC l xcl yR_failureKind (xw (Cond.code yR_failureKind bR_failureKind 1 (some .int))) ({ frames := 0, cells := 0, slots := 0, locals := 0 } : Room) [.ref (a)] nx M (x_is (some (.int (fk))) nx M) := by
  obtain ⟨h0, h1, h2, hcw, hn4, hq4⟩ := id hT
  refine yC (by decide) (Nat.le_of_ble_eq_true rfl) ?_
  intro p e s m args below meth c D F hr hn
  refine x_aload_n F 0 dR_failureKind_0 rfl rfl ?_
  refine x_get (ci := 3) F 5 (x_in inR) rfl (by decide) (x_m kfR_29) dR_failureKind_1 h0 rfl ?_
  exact x_iret F hr dR_failureKind_4 (x_is_i _ _ _)
set_option maxHeartbeats 4000000 in
set_option maxRecDepth 100000 in
theorem cR_failurePlace (l : Launch) (nx : Nat) (M : xH) (a : Nat) (sg : Nat → Int32) (wd : Nat → Int64) (cw n q : Nat) (fk fp : Int32) (hT : rAt M a sg wd cw n q fk fp) : xC l xcl yR_failurePlace (xw (Cond.code yR_failurePlace bR_failurePlace 1 (some .int))) ({ frames := 0, cells := 0, slots := 0, locals := 0 } : Room) [.ref (a)] nx M (x_is (some (.int (fp))) nx M) := by
  obtain ⟨h0, h1, h2, hcw, hn4, hq4⟩ := id hT
  refine yC (by decide) (Nat.le_of_ble_eq_true rfl) ?_
  intro p e s m args below meth c D F hr hn
  refine x_aload_n F 0 dR_failurePlace_0 rfl rfl ?_
  refine x_get (ci := 3) F 6 (x_in inR) rfl (by decide) (x_m kfR_32) dR_failurePlace_1 h0 rfl ?_
  exact x_iret F hr dR_failurePlace_4 (x_is_i _ _ _)
set_option maxHeartbeats 4000000 in
set_option maxRecDepth 100000 in
theorem cR_wordAt (l : Launch) (nx : Nat) (M : xH) (a : Nat) (sg : Nat → Int32) (wd : Nat → Int64) (cw n q : Nat) (fk fp : Int32) (hT : rAt M a sg wd cw n q fk fp) (j : Nat) (hj : j < cw) : xC l xcl yR_wordAt (xw (Cond.code yR_wordAt bR_wordAt 2 (some .long))) ({ frames := 0, cells := 0, slots := 0, locals := 0 } : Room) [.ref (a), .int (nI (j))] nx M (x_is (some (.long ((wd) (j)))) nx M) := by
  obtain ⟨h0, h1, h2, hcw, hn4, hq4⟩ := id hT
  refine yC (by decide) (Nat.le_of_ble_eq_true rfl) ?_
  intro p e s m args below meth c D F hr hn
  refine x_iload_n F 1 dR_wordAt_0 rfl rfl ?_
  refine x_if_lt F (tgt := 30) dR_wordAt_1 (by decide) (fun c1 => ?_) (fun c1 => ?_)
  · skip
    have c1 : j < 0 := by
      exact (nI_ltI (a := j) (b := 0) (by omega) (by omega)).mp c1
    exact absurd c1 (by omega)
  · skip
    have c1 : 0 ≤ j := by
      have z : ¬ (j < 0) := fun zz => c1 ((nI_ltI (a := j) (b := 0) (by omega) (by omega)).mpr zz)
      omega
    refine x_iload_n F 1 dR_wordAt_4 rfl rfl ?_
    refine x_aload_n F 0 dR_wordAt_5 rfl rfl ?_
    refine x_get (ci := 3) F 2 (x_in inR) rfl (by decide) (x_m kfR_19) dR_wordAt_6 h0 rfl ?_
    refine x_icmp_ge F (tgt := 30) dR_wordAt_9 (by decide) (fun c2 => ?_) (fun c2 => ?_)
    · skip
      have c2 : cw ≤ j := by
        exact (nI_leI (a := cw) (b := j) (by omega) (by omega)).mp c2
      exact absurd c2 (by omega)
    · skip
      have c2 : j < cw := by
        have z : ¬ (cw ≤ j) := fun zz => c2 ((nI_leI (a := cw) (b := j) (by omega) (by omega)).mpr zz)
        omega
      refine x_iload_n F 1 dR_wordAt_12 rfl rfl ?_
      refine x_aload_n F 0 dR_wordAt_13 rfl rfl ?_
      refine x_get (ci := 3) F 1 (x_in inR) rfl (by decide) (x_m kfR_15) dR_wordAt_14 h0 rfl ?_
      refine x_alen F (v := nI (6)) dR_wordAt_17 h2 rfl ?_
      refine x_icmp_ge F (tgt := 30) dR_wordAt_18 (by decide) (fun c3 => ?_) (fun c3 => ?_)
      · skip
        have c3 : 6 ≤ j := by
          exact (nI_leI (a := 6) (b := j) (by omega) (by omega)).mp c3
        exact absurd c3 (by omega)
      · skip
        have c3 : j < 6 := by
          have z : ¬ (6 ≤ j) := fun zz => c3 ((nI_leI (a := 6) (b := j) (by omega) (by omega)).mpr zz)
          omega
        refine x_aload_n F 0 dR_wordAt_21 rfl rfl ?_
        refine x_get (ci := 3) F 1 (x_in inR) rfl (by decide) (x_m kfR_15) dR_wordAt_22 h0 rfl ?_
        refine x_iload_n F 1 dR_wordAt_25 rfl rfl ?_
        refine x_lald F dR_wordAt_26 h2 (pk_in (j) (6) (by omega)) ?_
        refine xW.tol ((wd) (j)) (by rw [nI_clamp (by omega)]) ?_
        refine x_goto F (tgt := 31) dR_wordAt_27 (by decide) ?_
        exact x_lret F hr dR_wordAt_31 (x_is_i _ _ _)
set_option maxHeartbeats 4000000 in
set_option maxRecDepth 100000 in
theorem cR_isDigit (l : Launch) (nx : Nat) (M : xH) (j : Nat) (hj : j < 65536) : xC l xcl yR_isDigit (xw (Cond.code yR_isDigit bR_isDigit 1 (some .boolean))) ({ frames := 0, cells := 0, slots := 0, locals := 0 } : Room) [.int (nI (j))] nx M (x_is (some (.int (bI (dig j)))) nx M) := by
  refine yC (by decide) (Nat.le_of_ble_eq_true rfl) ?_
  intro p e s m args below meth c D F hr hn
  refine x_iload_n F 0 dR_isDigit_0 rfl rfl ?_
  refine x_bipush F (v := nI (48)) dR_isDigit_1 (by decide) ?_
  refine x_icmp_lt F (tgt := 16) dR_isDigit_3 (by decide) (fun c1 => ?_) (fun c1 => ?_)
  · skip
    have c1 : j < 48 := by
      exact (nI_ltI (a := j) (b := 48) (by omega) (by omega)).mp c1
    refine x_iconst F (v := nI (0)) dR_isDigit_16 (by decide) ?_
    exact x_zret F hr (by rfl) dR_isDigit_17 (x_f (by simp [dig]; omega))
  · skip
    have c1 : 48 ≤ j := by
      have z : ¬ (j < 48) := fun zz => c1 ((nI_ltI (a := j) (b := 48) (by omega) (by omega)).mpr zz)
      omega
    refine x_iload_n F 0 dR_isDigit_6 rfl rfl ?_
    refine x_bipush F (v := nI (57)) dR_isDigit_7 (by decide) ?_
    refine x_icmp_gt F (tgt := 16) dR_isDigit_9 (by decide) (fun c2 => ?_) (fun c2 => ?_)
    · skip
      have c2 : 57 < j := by
        exact (nI_ltI (a := 57) (b := j) (by omega) (by omega)).mp c2
      refine x_iconst F (v := nI (0)) dR_isDigit_16 (by decide) ?_
      exact x_zret F hr (by rfl) dR_isDigit_17 (x_f (by simp [dig]; omega))
    · skip
      have c2 : j ≤ 57 := by
        have z : ¬ (57 < j) := fun zz => c2 ((nI_ltI (a := 57) (b := j) (by omega) (by omega)).mpr zz)
        omega
      refine x_iconst F (v := nI (1)) dR_isDigit_12 (by decide) ?_
      refine x_goto F (tgt := 17) dR_isDigit_13 (by decide) ?_
      exact x_zret F hr (by rfl) dR_isDigit_17 (x_t (by simp [dig]; omega))
set_option maxHeartbeats 4000000 in
set_option maxRecDepth 100000 in
theorem cR_isDigitI (l : Launch) (nx : Nat) (M : xH) (i : Int32) : xC l xcl yR_isDigit (xw (Cond.code yR_isDigit bR_isDigit 1 (some .boolean))) ({ frames := 0, cells := 0, slots := 0, locals := 0 } : Room) [.int (i)] nx M (x_is (some (.int (bI (decide (nI 48 ≤ i) && decide (i ≤ nI 57))))) nx M) := by
  refine yC (by decide) (Nat.le_of_ble_eq_true rfl) ?_
  intro p e s m args below meth c D F hr hn
  refine x_iload_n F 0 dR_isDigit_0 rfl rfl ?_
  refine x_bipush F (v := nI (48)) dR_isDigit_1 (by decide) ?_
  refine x_icmp_lt F (tgt := 16) dR_isDigit_3 (by decide) (fun c1 => ?_) (fun c1 => ?_)
  · skip
    refine x_iconst F (v := nI (0)) dR_isDigit_16 (by decide) ?_
    exact x_zret F hr (by rfl) dR_isDigit_17 (x_f (by simp [Int32.not_le.mpr c1]))
  · skip
    refine x_iload_n F 0 dR_isDigit_6 rfl rfl ?_
    refine x_bipush F (v := nI (57)) dR_isDigit_7 (by decide) ?_
    refine x_icmp_gt F (tgt := 16) dR_isDigit_9 (by decide) (fun c2 => ?_) (fun c2 => ?_)
    · skip
      refine x_iconst F (v := nI (0)) dR_isDigit_16 (by decide) ?_
      exact x_zret F hr (by rfl) dR_isDigit_17 (x_f (by simp [Int32.not_le.mpr c2]))
    · skip
      refine x_iconst F (v := nI (1)) dR_isDigit_12 (by decide) ?_
      refine x_goto F (tgt := 17) dR_isDigit_13 (by decide) ?_
      exact x_zret F hr (by rfl) dR_isDigit_17 (x_t (by simp_all))
set_option maxHeartbeats 4000000 in
set_option maxRecDepth 100000 in
theorem cR_isLetter (l : Launch) (nx : Nat) (M : xH) (j : Nat) (hj : j < 65536) : xC l xcl yR_isLetter (xw (Cond.code yR_isLetter bR_isLetter 1 (some .boolean))) ({ frames := 0, cells := 0, slots := 0, locals := 0 } : Room) [.int (nI (j))] nx M (x_is (some (.int (bI (let_ j)))) nx M) := by
  refine yC (by decide) (Nat.le_of_ble_eq_true rfl) ?_
  intro p e s m args below meth c D F hr hn
  refine x_iload_n F 0 dR_isLetter_0 rfl rfl ?_
  refine x_bipush F (v := nI (97)) dR_isLetter_1 (by decide) ?_
  refine x_icmp_lt F (tgt := 16) dR_isLetter_3 (by decide) (fun c1 => ?_) (fun c1 => ?_)
  · skip
    have c1 : j < 97 := by
      exact (nI_ltI (a := j) (b := 97) (by omega) (by omega)).mp c1
    refine x_iconst F (v := nI (0)) dR_isLetter_16 (by decide) ?_
    exact x_zret F hr (by rfl) dR_isLetter_17 (x_f (by simp [let_]; omega))
  · skip
    have c1 : 97 ≤ j := by
      have z : ¬ (j < 97) := fun zz => c1 ((nI_ltI (a := j) (b := 97) (by omega) (by omega)).mpr zz)
      omega
    refine x_iload_n F 0 dR_isLetter_6 rfl rfl ?_
    refine x_bipush F (v := nI (122)) dR_isLetter_7 (by decide) ?_
    refine x_icmp_gt F (tgt := 16) dR_isLetter_9 (by decide) (fun c2 => ?_) (fun c2 => ?_)
    · skip
      have c2 : 122 < j := by
        exact (nI_ltI (a := 122) (b := j) (by omega) (by omega)).mp c2
      refine x_iconst F (v := nI (0)) dR_isLetter_16 (by decide) ?_
      exact x_zret F hr (by rfl) dR_isLetter_17 (x_f (by simp [let_]; omega))
    · skip
      have c2 : j ≤ 122 := by
        have z : ¬ (122 < j) := fun zz => c2 ((nI_ltI (a := 122) (b := j) (by omega) (by omega)).mpr zz)
        omega
      refine x_iconst F (v := nI (1)) dR_isLetter_12 (by decide) ?_
      refine x_goto F (tgt := 17) dR_isLetter_13 (by decide) ?_
      exact x_zret F hr (by rfl) dR_isLetter_17 (x_t (by simp [let_]; omega))
set_option maxHeartbeats 4000000 in
set_option maxRecDepth 100000 in
theorem cR_isLetterI (l : Launch) (nx : Nat) (M : xH) (i : Int32) : xC l xcl yR_isLetter (xw (Cond.code yR_isLetter bR_isLetter 1 (some .boolean))) ({ frames := 0, cells := 0, slots := 0, locals := 0 } : Room) [.int (i)] nx M (x_is (some (.int (bI (decide (nI 97 ≤ i) && decide (i ≤ nI 122))))) nx M) := by
  refine yC (by decide) (Nat.le_of_ble_eq_true rfl) ?_
  intro p e s m args below meth c D F hr hn
  refine x_iload_n F 0 dR_isLetter_0 rfl rfl ?_
  refine x_bipush F (v := nI (97)) dR_isLetter_1 (by decide) ?_
  refine x_icmp_lt F (tgt := 16) dR_isLetter_3 (by decide) (fun c1 => ?_) (fun c1 => ?_)
  · skip
    refine x_iconst F (v := nI (0)) dR_isLetter_16 (by decide) ?_
    exact x_zret F hr (by rfl) dR_isLetter_17 (x_f (by simp [Int32.not_le.mpr c1]))
  · skip
    refine x_iload_n F 0 dR_isLetter_6 rfl rfl ?_
    refine x_bipush F (v := nI (122)) dR_isLetter_7 (by decide) ?_
    refine x_icmp_gt F (tgt := 16) dR_isLetter_9 (by decide) (fun c2 => ?_) (fun c2 => ?_)
    · skip
      refine x_iconst F (v := nI (0)) dR_isLetter_16 (by decide) ?_
      exact x_zret F hr (by rfl) dR_isLetter_17 (x_f (by simp [Int32.not_le.mpr c2]))
    · skip
      refine x_iconst F (v := nI (1)) dR_isLetter_12 (by decide) ?_
      refine x_goto F (tgt := 17) dR_isLetter_13 (by decide) ?_
      exact x_zret F hr (by rfl) dR_isLetter_17 (x_t (by simp_all))
set_option maxHeartbeats 4000000 in
set_option maxRecDepth 100000 in
theorem cR_isSign (l : Launch) (nx : Nat) (M : xH) (i : Int32) : xC l xcl yR_isSign (xw (Cond.code yR_isSign bR_isSign 1 (some .boolean))) ({ frames := 1, cells := 0, slots := 0, locals := 20 } : Room) [.int (i)] nx M (x_is (some (.int (bI (sgn i)))) nx M) := by
  refine yC (by decide) (Nat.le_of_ble_eq_true rfl) ?_
  intro p e s m args below meth c D F hr hn
  refine x_iload_n F 0 dR_isSign_0 rfl rfl ?_
  refine x_bipush F (v := nI (45)) dR_isSign_1 (by decide) ?_
  refine x_icmp_eq F (tgt := 32) dR_isSign_3 (by decide) (fun c1 => ?_) (fun c1 => ?_)
  · skip
    refine x_iconst F (v := nI (1)) dR_isSign_32 (by decide) ?_
    refine x_goto F (tgt := 37) dR_isSign_33 (by decide) ?_
    exact x_zret F hr (by rfl) dR_isSign_37 (x_t (by simp_all [sgn]))
  · skip
    refine x_iload_n F 0 dR_isSign_6 rfl rfl ?_
    refine x_bipush F (v := nI (46)) dR_isSign_7 (by decide) ?_
    refine x_icmp_eq F (tgt := 32) dR_isSign_9 (by decide) (fun c2 => ?_) (fun c2 => ?_)
    · skip
      refine x_iconst F (v := nI (1)) dR_isSign_32 (by decide) ?_
      refine x_goto F (tgt := 37) dR_isSign_33 (by decide) ?_
      exact x_zret F hr (by rfl) dR_isSign_37 (x_t (by simp_all [sgn]))
    · skip
      refine x_iload_n F 0 dR_isSign_12 rfl rfl ?_
      refine x_bipush F (v := nI (59)) dR_isSign_13 (by decide) ?_
      refine x_icmp_eq F (tgt := 32) dR_isSign_15 (by decide) (fun c3 => ?_) (fun c3 => ?_)
      · skip
        refine x_iconst F (v := nI (1)) dR_isSign_32 (by decide) ?_
        refine x_goto F (tgt := 37) dR_isSign_33 (by decide) ?_
        exact x_zret F hr (by rfl) dR_isSign_37 (x_t (by simp_all [sgn]))
      · skip
        refine x_iload_n F 0 dR_isSign_18 rfl rfl ?_
        refine yS (n := 1) (As := [.int (i)]) F kmR_57 ktR_isDigit knR kcR_isDigit (by decide +kernel) dR_isSign_19 (cR_isDigitI l (nx) M (i)) rfl rfl (Nat.le_of_ble_eq_true rfl) ⟨Nat.le_of_ble_eq_true rfl, Nat.le_of_ble_eq_true rfl⟩ ⟨Nat.le_of_ble_eq_true rfl, Nat.le_of_ble_eq_true rfl⟩ ?_
        refine x_if_ne F (tgt := 32) dR_isSign_22 (by decide) (fun c4 => ?_) (fun c4 => ?_)
        · skip
          have c4 : (decide (nI 48 ≤ i) && decide (i ≤ nI 57)) = true := bI_1 c4
          refine x_iconst F (v := nI (1)) dR_isSign_32 (by decide) ?_
          refine x_goto F (tgt := 37) dR_isSign_33 (by decide) ?_
          exact x_zret F hr (by rfl) dR_isSign_37 (x_t (by simp_all [sgn]))
        · skip
          have c4 : (decide (nI 48 ≤ i) && decide (i ≤ nI 57)) = false := bI_0 c4
          refine x_iload_n F 0 dR_isSign_25 rfl rfl ?_
          refine yS (n := 1) (As := [.int (i)]) F kmR_102 ktR_isLetter knR kcR_isLetter (by decide +kernel) dR_isSign_26 (cR_isLetterI l (nx) M (i)) rfl rfl (Nat.le_of_ble_eq_true rfl) ⟨Nat.le_of_ble_eq_true rfl, Nat.le_of_ble_eq_true rfl⟩ ⟨Nat.le_of_ble_eq_true rfl, Nat.le_of_ble_eq_true rfl⟩ ?_
          refine x_if_eq F (tgt := 36) dR_isSign_29 (by decide) (fun c5 => ?_) (fun c5 => ?_)
          · skip
            have c5 : (decide (nI 97 ≤ i) && decide (i ≤ nI 122)) = false := bI_0 c5
            refine x_iconst F (v := nI (0)) dR_isSign_36 (by decide) ?_
            exact x_zret F hr (by rfl) dR_isSign_37 (x_f (by simp_all [sgn]))
          · skip
            have c5 : (decide (nI 97 ≤ i) && decide (i ≤ nI 122)) = true := bI_1 c5
            refine x_iconst F (v := nI (1)) dR_isSign_32 (by decide) ?_
            refine x_goto F (tgt := 37) dR_isSign_33 (by decide) ?_
            exact x_zret F hr (by rfl) dR_isSign_37 (x_t (by simp_all [sgn]))
set_option maxHeartbeats 4000000 in
set_option maxRecDepth 100000 in
theorem cR_here (l : Launch) (nx : Nat) (M : xH) (a : Nat) (sg : Nat → Int32) (wd : Nat → Int64) (cw n q : Nat) (fk fp : Int32) (hT : rAt M a sg wd cw n q fk fp) (tx : Nat → Nat) (hX : sAt sg tx n) : xC l xcl yR_here (xw (Cond.code yR_here bR_here 1 (some .char))) ({ frames := 0, cells := 0, slots := 0, locals := 0 } : Room) [.ref (a)] nx M (x_is (some (.int (nI (hx tx n q)))) nx M) := by
  obtain ⟨h0, h1, h2, hcw, hn4, hq4⟩ := id hT
  refine yC (by decide) (Nat.le_of_ble_eq_true rfl) ?_
  intro p e s m args below meth c D F hr hn
  refine x_aload_n F 0 dR_here_0 rfl rfl ?_
  refine x_get (ci := 3) F 4 (x_in inR) rfl (by decide) (x_m kfR_26) dR_here_1 h0 rfl ?_
  refine x_if_lt F (tgt := 42) dR_here_4 (by decide) (fun c1 => ?_) (fun c1 => ?_)
  · skip
    have c1 : q < 0 := by
      exact (nI_ltI (a := q) (b := 0) (by omega) (by omega)).mp c1
    exact absurd c1 (by omega)
  · skip
    have c1 : 0 ≤ q := by
      have z : ¬ (q < 0) := fun zz => c1 ((nI_ltI (a := q) (b := 0) (by omega) (by omega)).mpr zz)
      omega
    refine x_aload_n F 0 dR_here_7 rfl rfl ?_
    refine x_get (ci := 3) F 4 (x_in inR) rfl (by decide) (x_m kfR_26) dR_here_8 h0 rfl ?_
    refine x_aload_n F 0 dR_here_11 rfl rfl ?_
    refine x_get (ci := 3) F 3 (x_in inR) rfl (by decide) (x_m kfR_23) dR_here_12 h0 rfl ?_
    refine x_icmp_ge F (tgt := 42) dR_here_15 (by decide) (fun c2 => ?_) (fun c2 => ?_)
    · skip
      have c2 : n ≤ q := by
        exact (nI_leI (a := n) (b := q) (by omega) (by omega)).mp c2
      refine x_iconst F (v := nI (0)) dR_here_42 (by decide) ?_
      exact x_zret F hr (by rfl) dR_here_43 (x_e (by rw [hx, if_neg (by omega)]))
    · skip
      have c2 : q < n := by
        have z : ¬ (n ≤ q) := fun zz => c2 ((nI_leI (a := n) (b := q) (by omega) (by omega)).mpr zz)
        omega
      refine x_aload_n F 0 dR_here_18 rfl rfl ?_
      refine x_get (ci := 3) F 4 (x_in inR) rfl (by decide) (x_m kfR_26) dR_here_19 h0 rfl ?_
      refine x_aload_n F 0 dR_here_22 rfl rfl ?_
      refine x_get (ci := 3) F 0 (x_in inR) rfl (by decide) (x_m kfR_9) dR_here_23 h0 rfl ?_
      refine x_alen F (v := nI (400)) dR_here_26 h1 rfl ?_
      refine x_icmp_ge F (tgt := 42) dR_here_27 (by decide) (fun c3 => ?_) (fun c3 => ?_)
      · skip
        have c3 : 400 ≤ q := by
          exact (nI_leI (a := 400) (b := q) (by omega) (by omega)).mp c3
        exact absurd c3 (by omega)
      · skip
        have c3 : q < 400 := by
          have z : ¬ (400 ≤ q) := fun zz => c3 ((nI_leI (a := 400) (b := q) (by omega) (by omega)).mpr zz)
          omega
        refine x_aload_n F 0 dR_here_30 rfl rfl ?_
        refine x_get (ci := 3) F 0 (x_in inR) rfl (by decide) (x_m kfR_9) dR_here_31 h0 rfl ?_
        refine x_aload_n F 0 dR_here_34 rfl rfl ?_
        refine x_get (ci := 3) F 4 (x_in inR) rfl (by decide) (x_m kfR_26) dR_here_35 h0 rfl ?_
        refine x_cald F dR_here_38 h1 (pk_in (q) (400) (by omega)) ?_
        refine xW.toi (nI (tx (q))) (by rw [nI_clamp (by omega)]; exact (hX _ (by omega)).1) ?_
        refine x_goto F (tgt := 43) dR_here_39 (by decide) ?_
        exact x_zret F hr (chr_nar (by have := hX q (by omega); omega)) dR_here_43 (x_e (by rw [hx, if_pos (by omega)]))
set_option maxHeartbeats 4000000 in
set_option maxRecDepth 100000 in
theorem cR_countDashes (l : Launch) (nx : Nat) (M : xH) (a : Nat) (sg : Nat → Int32) (wd : Nat → Int64) (cw n q : Nat) (fk fp : Int32) (hT : rAt M a sg wd cw n q fk fp) (tx : Nat → Nat) (hX : sAt sg tx n) (hqn : q ≤ n) : xC l xcl yR_countDashes (xw (Cond.code yR_countDashes bR_countDashes 3 (some .int))) ({ frames := 0, cells := 0, slots := 0, locals := 0 } : Room) [.ref (a)] nx M (x_is (some (.int (nI (rn (fun c => decide (c = 45)) tx (n - q) q)))) nx M) := by
  obtain ⟨h0, h1, h2, hcw, hn4, hq4⟩ := id hT
  refine yC (by decide) (Nat.le_of_ble_eq_true rfl) ?_
  intro p e s m args below meth c D F hr hn
  have loop : ∀ (k : Nat) (i d : Nat), i + k = n → d ≤ i → rn (fun c => decide (c = 45)) tx (n - q) q = d + rn (fun c => decide (c = 45)) tx k i → xW p l e ({ frames := 0, cells := 0, slots := 0, locals := 0 } : Room) s m args below meth c D xcl (x_A M nx) 3 (MQ below (x_Q D xcl (x_A M nx) (x_is (some (.int (nI (rn (fun c => decide (c = 45)) tx (n - q) q)))) nx M)) args s 0 0 (x_A M nx)) 0 0 (nx) M 7 [(2, .int (nI (i))), (1, .int (nI (d))), (0, .ref (a))] [] := by
    intro k
    induction k with
    | zero =>
      intro i d hi hd hf
      refine x_iload_n F 0 dR_countDashes_7 rfl rfl ?_
      refine x_aload_n F 2 dR_countDashes_8 rfl rfl ?_
      refine x_get (ci := 3) F 3 (x_in inR) rfl (by decide) (x_m kfR_23) dR_countDashes_9 h0 rfl ?_
      refine x_icmp_ge F (tgt := 35) dR_countDashes_12 (by decide) (fun c1 => ?_) (fun c1 => ?_)
      · skip
        have c1 : n ≤ i := by
          exact (nI_leI (a := n) (b := i) (by omega) (by omega)).mp c1
        refine x_iload_n F 1 dR_countDashes_35 rfl rfl ?_
        exact x_iret F hr dR_countDashes_36 (x_e (by rw [hf]; rfl))
      · skip
        have c1 : i < n := by
          have z : ¬ (n ≤ i) := fun zz => c1 ((nI_leI (a := n) (b := i) (by omega) (by omega)).mpr zz)
          omega
        exact absurd c1 (by omega)
    | succ k ih =>
      intro i d hi hd hf
      refine x_iload_n F 0 dR_countDashes_7 rfl rfl ?_
      refine x_aload_n F 2 dR_countDashes_8 rfl rfl ?_
      refine x_get (ci := 3) F 3 (x_in inR) rfl (by decide) (x_m kfR_23) dR_countDashes_9 h0 rfl ?_
      refine x_icmp_ge F (tgt := 35) dR_countDashes_12 (by decide) (fun c2 => ?_) (fun c2 => ?_)
      · skip
        have c2 : n ≤ i := by
          exact (nI_leI (a := n) (b := i) (by omega) (by omega)).mp c2
        exact absurd c2 (by omega)
      · skip
        have c2 : i < n := by
          have z : ¬ (n ≤ i) := fun zz => c2 ((nI_leI (a := n) (b := i) (by omega) (by omega)).mpr zz)
          omega
        refine x_aload_n F 2 dR_countDashes_15 rfl rfl ?_
        refine x_get (ci := 3) F 0 (x_in inR) rfl (by decide) (x_m kfR_9) dR_countDashes_16 h0 rfl ?_
        refine x_iload_n F 0 dR_countDashes_19 rfl rfl ?_
        refine x_cald F dR_countDashes_20 h1 (pk_in (i) (400) (by omega)) ?_
        refine xW.toi (nI (tx (i))) (by rw [nI_clamp (by omega)]; exact (hX _ (by omega)).1) ?_
        have htx := (hX i (by omega)).2
        refine x_bipush F (v := nI (45)) dR_countDashes_21 (by decide) ?_
        refine x_icmp_ne F (tgt := 35) dR_countDashes_23 (by decide) (fun c3 => ?_) (fun c3 => ?_)
        · skip
          have c3 : tx (i) ≠ 45 := by
            have z : ¬ (tx (i) = 45) := fun zz => c3 ((nI_eq (a := tx (i)) (b := 45) (by omega) (by omega)).mpr zz)
            omega
          refine x_iload_n F 1 dR_countDashes_35 rfl rfl ?_
          exact x_iret F hr dR_countDashes_36 (x_e (by rw [hf, rn_s, if_neg (by simpa using c3)]; rfl))
        · skip
          have c3 : tx (i) = 45 := by
            exact (nI_eq (a := tx (i)) (b := 45) (by omega) (by omega)).mp c3
          refine x_iinc F 1 [(1, .int (nI (d + 1))), (2, .int (nI (i))), (0, .ref (a))] dR_countDashes_26 rfl (nI_add (d) 1) (by decide) rfl ?_
          refine x_iinc F 1 [(2, .int (nI (i + 1))), (1, .int (nI (d + 1))), (0, .ref (a))] dR_countDashes_29 rfl (nI_add (i) 1) (by decide) rfl ?_
          refine x_goto F (tgt := 7) dR_countDashes_32 (by decide) ?_
          exact ih (i + 1) (d + 1) (by omega) (by omega) (by rw [hf, rn_s, if_pos (by simpa using c3)]; omega)
  refine x_iconst F (v := nI (0)) dR_countDashes_0 (by decide) ?_
  refine x_istore_n F [(1, .int (nI (0))), (0, .ref (a))] dR_countDashes_1 rfl (by decide) rfl ?_
  refine x_aload_n F 1 dR_countDashes_2 rfl rfl ?_
  refine x_get (ci := 3) F 4 (x_in inR) rfl (by decide) (x_m kfR_26) dR_countDashes_3 h0 rfl ?_
  refine x_istore_n F [(2, .int (nI (q))), (1, .int (nI (0))), (0, .ref (a))] dR_countDashes_6 rfl (by decide) rfl ?_
  exact loop (n - q) q 0 (by omega) (by omega) (by omega)
end
section
/-! Findings at a: codes at a + 1, points at a + 2 -/
def fAt (M : xH) (a : Nat) (cd : Nat → Int64) (pt : Nat → Int32) (n : Nat) : Prop :=
  M a = some (.inr (1, [.ref (a + 1), .ref (a + 2), .int (nI n)])) ∧ M (a + 1) = some (.inl (.long, 40, .inr (.inl cd))) ∧ M (a + 2) = some (.inl (.int, 40, .inl pt)) ∧ n ≤ 40
theorem dF_init_0 : decode bF_init 0 = .ok (.aload_n 0, 1) := by decide +kernel
theorem dF_init_1 : decode bF_init 1 = .ok (.invokespecial 3, 3) := by decide +kernel
theorem dF_init_4 : decode bF_init 4 = .ok (.aload_n 0, 1) := by decide +kernel
theorem dF_init_5 : decode bF_init 5 = .ok (.bipush 40, 2) := by decide +kernel
theorem dF_init_7 : decode bF_init 7 = .ok (.newarray .long, 2) := by decide +kernel
theorem dF_init_9 : decode bF_init 9 = .ok (.putfield 9, 3) := by decide +kernel
theorem dF_init_12 : decode bF_init 12 = .ok (.aload_n 0, 1) := by decide +kernel
theorem dF_init_13 : decode bF_init 13 = .ok (.bipush 40, 2) := by decide +kernel
theorem dF_init_15 : decode bF_init 15 = .ok (.newarray .int, 2) := by decide +kernel
theorem dF_init_17 : decode bF_init 17 = .ok (.putfield 15, 3) := by decide +kernel
theorem dF_init_20 : decode bF_init 20 = .ok (.aload_n 0, 1) := by decide +kernel
theorem dF_init_21 : decode bF_init 21 = .ok (.iconst 0, 1) := by decide +kernel
theorem dF_init_22 : decode bF_init 22 = .ok (.putfield 19, 3) := by decide +kernel
theorem dF_init_25 : decode bF_init 25 = .ok (.return_, 1) := by decide +kernel
theorem dF_clear_0 : decode bF_clear 0 = .ok (.aload_n 0, 1) := by decide +kernel
theorem dF_clear_1 : decode bF_clear 1 = .ok (.iconst 0, 1) := by decide +kernel
theorem dF_clear_2 : decode bF_clear 2 = .ok (.putfield 19, 3) := by decide +kernel
theorem dF_clear_5 : decode bF_clear 5 = .ok (.return_, 1) := by decide +kernel
theorem dF_size_0 : decode bF_size 0 = .ok (.aload_n 0, 1) := by decide +kernel
theorem dF_size_1 : decode bF_size 1 = .ok (.getfield 19, 3) := by decide +kernel
theorem dF_size_4 : decode bF_size 4 = .ok (.ireturn, 1) := by decide +kernel
theorem dF_has_0 : decode bF_has 0 = .ok (.iload_n 1, 1) := by decide +kernel
theorem dF_has_1 : decode bF_has 1 = .ok (.ifCond .lt 21, 3) := by decide +kernel
theorem dF_has_4 : decode bF_has 4 = .ok (.iload_n 1, 1) := by decide +kernel
theorem dF_has_5 : decode bF_has 5 = .ok (.aload_n 0, 1) := by decide +kernel
theorem dF_has_6 : decode bF_has 6 = .ok (.getfield 19, 3) := by decide +kernel
theorem dF_has_9 : decode bF_has 9 = .ok (.if_icmp .ge 13, 3) := by decide +kernel
theorem dF_has_12 : decode bF_has 12 = .ok (.iload_n 1, 1) := by decide +kernel
theorem dF_has_13 : decode bF_has 13 = .ok (.bipush 40, 2) := by decide +kernel
theorem dF_has_15 : decode bF_has 15 = .ok (.if_icmp .ge 7, 3) := by decide +kernel
theorem dF_has_18 : decode bF_has 18 = .ok (.iconst 1, 1) := by decide +kernel
theorem dF_has_19 : decode bF_has 19 = .ok (.goto 4, 3) := by decide +kernel
theorem dF_has_22 : decode bF_has 22 = .ok (.iconst 0, 1) := by decide +kernel
theorem dF_has_23 : decode bF_has 23 = .ok (.ireturn, 1) := by decide +kernel
theorem dF_codeOf_0 : decode bF_codeOf 0 = .ok (.aload_n 0, 1) := by decide +kernel
theorem dF_codeOf_1 : decode bF_codeOf 1 = .ok (.iload_n 1, 1) := by decide +kernel
theorem dF_codeOf_2 : decode bF_codeOf 2 = .ok (.invokevirtual 23, 3) := by decide +kernel
theorem dF_codeOf_5 : decode bF_codeOf 5 = .ok (.ifCond .eq 12, 3) := by decide +kernel
theorem dF_codeOf_8 : decode bF_codeOf 8 = .ok (.aload_n 0, 1) := by decide +kernel
theorem dF_codeOf_9 : decode bF_codeOf 9 = .ok (.getfield 9, 3) := by decide +kernel
theorem dF_codeOf_12 : decode bF_codeOf 12 = .ok (.iload_n 1, 1) := by decide +kernel
theorem dF_codeOf_13 : decode bF_codeOf 13 = .ok (.laload, 1) := by decide +kernel
theorem dF_codeOf_14 : decode bF_codeOf 14 = .ok (.goto 4, 3) := by decide +kernel
theorem dF_codeOf_17 : decode bF_codeOf 17 = .ok (.lconst 0, 1) := by decide +kernel
theorem dF_codeOf_18 : decode bF_codeOf 18 = .ok (.lreturn, 1) := by decide +kernel
theorem dF_pointsAt_0 : decode bF_pointsAt 0 = .ok (.aload_n 0, 1) := by decide +kernel
theorem dF_pointsAt_1 : decode bF_pointsAt 1 = .ok (.iload_n 1, 1) := by decide +kernel
theorem dF_pointsAt_2 : decode bF_pointsAt 2 = .ok (.invokevirtual 23, 3) := by decide +kernel
theorem dF_pointsAt_5 : decode bF_pointsAt 5 = .ok (.ifCond .eq 12, 3) := by decide +kernel
theorem dF_pointsAt_8 : decode bF_pointsAt 8 = .ok (.aload_n 0, 1) := by decide +kernel
theorem dF_pointsAt_9 : decode bF_pointsAt 9 = .ok (.getfield 15, 3) := by decide +kernel
theorem dF_pointsAt_12 : decode bF_pointsAt 12 = .ok (.iload_n 1, 1) := by decide +kernel
theorem dF_pointsAt_13 : decode bF_pointsAt 13 = .ok (.iaload, 1) := by decide +kernel
theorem dF_pointsAt_14 : decode bF_pointsAt 14 = .ok (.goto 4, 3) := by decide +kernel
theorem dF_pointsAt_17 : decode bF_pointsAt 17 = .ok (.iconst 0, 1) := by decide +kernel
theorem dF_pointsAt_18 : decode bF_pointsAt 18 = .ok (.ireturn, 1) := by decide +kernel
theorem dF_add_0 : decode bF_add 0 = .ok (.iload_n 3, 1) := by decide +kernel
theorem dF_add_1 : decode bF_add 1 = .ok (.ifCond .le 12, 3) := by decide +kernel
theorem dF_add_4 : decode bF_add 4 = .ok (.aload_n 0, 1) := by decide +kernel
theorem dF_add_5 : decode bF_add 5 = .ok (.getfield 19, 3) := by decide +kernel
theorem dF_add_8 : decode bF_add 8 = .ok (.bipush 40, 2) := by decide +kernel
theorem dF_add_10 : decode bF_add 10 = .ok (.if_icmp .lt 4, 3) := by decide +kernel
theorem dF_add_13 : decode bF_add 13 = .ok (.return_, 1) := by decide +kernel
theorem dF_add_14 : decode bF_add 14 = .ok (.aload_n 0, 1) := by decide +kernel
theorem dF_add_15 : decode bF_add 15 = .ok (.getfield 19, 3) := by decide +kernel
theorem dF_add_18 : decode bF_add 18 = .ok (.istore 4, 2) := by decide +kernel
theorem dF_add_20 : decode bF_add 20 = .ok (.iload 4, 2) := by decide +kernel
theorem dF_add_22 : decode bF_add 22 = .ok (.ifCond .le 54, 3) := by decide +kernel
theorem dF_add_25 : decode bF_add 25 = .ok (.aload_n 0, 1) := by decide +kernel
theorem dF_add_26 : decode bF_add 26 = .ok (.getfield 15, 3) := by decide +kernel
theorem dF_add_29 : decode bF_add 29 = .ok (.iload 4, 2) := by decide +kernel
theorem dF_add_31 : decode bF_add 31 = .ok (.iconst 1, 1) := by decide +kernel
theorem dF_add_32 : decode bF_add 32 = .ok (.isub, 1) := by decide +kernel
theorem dF_add_33 : decode bF_add 33 = .ok (.iaload, 1) := by decide +kernel
theorem dF_add_34 : decode bF_add 34 = .ok (.iload_n 3, 1) := by decide +kernel
theorem dF_add_35 : decode bF_add 35 = .ok (.if_icmp .ge 41, 3) := by decide +kernel
theorem dF_add_38 : decode bF_add 38 = .ok (.aload_n 0, 1) := by decide +kernel
theorem dF_add_39 : decode bF_add 39 = .ok (.getfield 9, 3) := by decide +kernel
theorem dF_add_42 : decode bF_add 42 = .ok (.iload 4, 2) := by decide +kernel
theorem dF_add_44 : decode bF_add 44 = .ok (.aload_n 0, 1) := by decide +kernel
theorem dF_add_45 : decode bF_add 45 = .ok (.getfield 9, 3) := by decide +kernel
theorem dF_add_48 : decode bF_add 48 = .ok (.iload 4, 2) := by decide +kernel
theorem dF_add_50 : decode bF_add 50 = .ok (.iconst 1, 1) := by decide +kernel
theorem dF_add_51 : decode bF_add 51 = .ok (.isub, 1) := by decide +kernel
theorem dF_add_52 : decode bF_add 52 = .ok (.laload, 1) := by decide +kernel
theorem dF_add_53 : decode bF_add 53 = .ok (.lastore, 1) := by decide +kernel
theorem dF_add_54 : decode bF_add 54 = .ok (.aload_n 0, 1) := by decide +kernel
theorem dF_add_55 : decode bF_add 55 = .ok (.getfield 15, 3) := by decide +kernel
theorem dF_add_58 : decode bF_add 58 = .ok (.iload 4, 2) := by decide +kernel
theorem dF_add_60 : decode bF_add 60 = .ok (.aload_n 0, 1) := by decide +kernel
theorem dF_add_61 : decode bF_add 61 = .ok (.getfield 15, 3) := by decide +kernel
theorem dF_add_64 : decode bF_add 64 = .ok (.iload 4, 2) := by decide +kernel
theorem dF_add_66 : decode bF_add 66 = .ok (.iconst 1, 1) := by decide +kernel
theorem dF_add_67 : decode bF_add 67 = .ok (.isub, 1) := by decide +kernel
theorem dF_add_68 : decode bF_add 68 = .ok (.iaload, 1) := by decide +kernel
theorem dF_add_69 : decode bF_add 69 = .ok (.iastore, 1) := by decide +kernel
theorem dF_add_70 : decode bF_add 70 = .ok (.iinc 4 (-1), 3) := by decide +kernel
theorem dF_add_73 : decode bF_add 73 = .ok (.goto (-53), 3) := by decide +kernel
theorem dF_add_76 : decode bF_add 76 = .ok (.aload_n 0, 1) := by decide +kernel
theorem dF_add_77 : decode bF_add 77 = .ok (.getfield 9, 3) := by decide +kernel
theorem dF_add_80 : decode bF_add 80 = .ok (.iload 4, 2) := by decide +kernel
theorem dF_add_82 : decode bF_add 82 = .ok (.lload_n 1, 1) := by decide +kernel
theorem dF_add_83 : decode bF_add 83 = .ok (.lastore, 1) := by decide +kernel
theorem dF_add_84 : decode bF_add 84 = .ok (.aload_n 0, 1) := by decide +kernel
theorem dF_add_85 : decode bF_add 85 = .ok (.getfield 15, 3) := by decide +kernel
theorem dF_add_88 : decode bF_add 88 = .ok (.iload 4, 2) := by decide +kernel
theorem dF_add_90 : decode bF_add 90 = .ok (.iload_n 3, 1) := by decide +kernel
theorem dF_add_91 : decode bF_add 91 = .ok (.iastore, 1) := by decide +kernel
theorem dF_add_92 : decode bF_add 92 = .ok (.aload_n 0, 1) := by decide +kernel
theorem dF_add_93 : decode bF_add 93 = .ok (.dup, 1) := by decide +kernel
theorem dF_add_94 : decode bF_add 94 = .ok (.getfield 19, 3) := by decide +kernel
theorem dF_add_97 : decode bF_add 97 = .ok (.iconst 1, 1) := by decide +kernel
theorem dF_add_98 : decode bF_add 98 = .ok (.iadd, 1) := by decide +kernel
theorem dF_add_99 : decode bF_add 99 = .ok (.putfield 19, 3) := by decide +kernel
theorem dF_add_102 : decode bF_add 102 = .ok (.return_, 1) := by decide +kernel
set_option maxHeartbeats 4000000 in
set_option maxRecDepth 100000 in
theorem cF_size (l : Launch) (nx : Nat) (M : xH) (a : Nat) (cd : Nat → Int64) (pt : Nat → Int32) (n : Nat) (hT : fAt M a cd pt n) : xC l xcl yF_size (xw (Cond.code yF_size bF_size 1 (some .int))) ({ frames := 0, cells := 0, slots := 0, locals := 0 } : Room) [.ref (a)] nx M (x_is (some (.int (nI (n)))) nx M) := by
  obtain ⟨h0, h1, h2, hz⟩ := id hT
  refine yC (by decide) (Nat.le_of_ble_eq_true rfl) ?_
  intro p e s m args below meth c D F hr hn
  refine x_aload_n F 0 dF_size_0 rfl rfl ?_
  refine x_get (ci := 1) F 2 (x_in inF) rfl (by decide) (x_m kfF_19) dF_size_1 h0 rfl ?_
  exact x_iret F hr dF_size_4 (x_is_i _ _ _)
set_option maxHeartbeats 4000000 in
set_option maxRecDepth 100000 in
theorem cF_has (l : Launch) (nx : Nat) (M : xH) (a : Nat) (cd : Nat → Int64) (pt : Nat → Int32) (n : Nat) (hT : fAt M a cd pt n) (j : Nat) (hj : j < n) : xC l xcl yF_has (xw (Cond.code yF_has bF_has 2 (some .boolean))) ({ frames := 0, cells := 0, slots := 0, locals := 0 } : Room) [.ref (a), .int (nI (j))] nx M (x_is (some (.int (nI (1)))) nx M) := by
  obtain ⟨h0, h1, h2, hz⟩ := id hT
  refine yC (by decide) (Nat.le_of_ble_eq_true rfl) ?_
  intro p e s m args below meth c D F hr hn
  refine x_iload_n F 1 dF_has_0 rfl rfl ?_
  refine x_if_lt F (tgt := 22) dF_has_1 (by decide) (fun c1 => ?_) (fun c1 => ?_)
  · skip
    have c1 : j < 0 := by
      exact (nI_ltI (a := j) (b := 0) (by omega) (by omega)).mp c1
    exact absurd c1 (by omega)
  · skip
    have c1 : 0 ≤ j := by
      have z : ¬ (j < 0) := fun zz => c1 ((nI_ltI (a := j) (b := 0) (by omega) (by omega)).mpr zz)
      omega
    refine x_iload_n F 1 dF_has_4 rfl rfl ?_
    refine x_aload_n F 0 dF_has_5 rfl rfl ?_
    refine x_get (ci := 1) F 2 (x_in inF) rfl (by decide) (x_m kfF_19) dF_has_6 h0 rfl ?_
    refine x_icmp_ge F (tgt := 22) dF_has_9 (by decide) (fun c2 => ?_) (fun c2 => ?_)
    · skip
      have c2 : n ≤ j := by
        exact (nI_leI (a := n) (b := j) (by omega) (by omega)).mp c2
      exact absurd c2 (by omega)
    · skip
      have c2 : j < n := by
        have z : ¬ (n ≤ j) := fun zz => c2 ((nI_leI (a := n) (b := j) (by omega) (by omega)).mpr zz)
        omega
      refine x_iload_n F 1 dF_has_12 rfl rfl ?_
      refine x_bipush F (v := nI (40)) dF_has_13 (by decide) ?_
      refine x_icmp_ge F (tgt := 22) dF_has_15 (by decide) (fun c3 => ?_) (fun c3 => ?_)
      · skip
        have c3 : 40 ≤ j := by
          exact (nI_leI (a := 40) (b := j) (by omega) (by omega)).mp c3
        exact absurd c3 (by omega)
      · skip
        have c3 : j < 40 := by
          have z : ¬ (40 ≤ j) := fun zz => c3 ((nI_leI (a := 40) (b := j) (by omega) (by omega)).mpr zz)
          omega
        refine x_iconst F (v := nI (1)) dF_has_18 (by decide) ?_
        refine x_goto F (tgt := 23) dF_has_19 (by decide) ?_
        exact x_zret F hr (by rfl) dF_has_23 (x_is_i _ _ _)
set_option maxHeartbeats 4000000 in
set_option maxRecDepth 100000 in
theorem cF_hasN (l : Launch) (nx : Nat) (M : xH) (a : Nat) (cd : Nat → Int64) (pt : Nat → Int32) (n : Nat) (hT : fAt M a cd pt n) (i : Int32) (hi : ¬ vp_in i n) : xC l xcl yF_has (xw (Cond.code yF_has bF_has 2 (some .boolean))) ({ frames := 0, cells := 0, slots := 0, locals := 0 } : Room) [.ref (a), .int (i)] nx M (x_is (some (.int (nI (0)))) nx M) := by
  obtain ⟨h0, h1, h2, hz⟩ := id hT
  refine yC (by decide) (Nat.le_of_ble_eq_true rfl) ?_
  intro p e s m args below meth c D F hr hn
  refine x_iload_n F 1 dF_has_0 rfl rfl ?_
  refine x_if_lt F (tgt := 22) dF_has_1 (by decide) (fun c1 => ?_) (fun c1 => ?_)
  · skip
    refine x_iconst F (v := nI (0)) dF_has_22 (by decide) ?_
    exact x_zret F hr (by rfl) dF_has_23 (x_is_i _ _ _)
  · skip
    refine x_iload_n F 1 dF_has_4 rfl rfl ?_
    refine x_aload_n F 0 dF_has_5 rfl rfl ?_
    refine x_get (ci := 1) F 2 (x_in inF) rfl (by decide) (x_m kfF_19) dF_has_6 h0 rfl ?_
    refine x_icmp_ge F (tgt := 22) dF_has_9 (by decide) (fun c2 => ?_) (fun c2 => ?_)
    · skip
      refine x_iconst F (v := nI (0)) dF_has_22 (by decide) ?_
      exact x_zret F hr (by rfl) dF_has_23 (x_is_i _ _ _)
    · skip
      exact absurd (x_out (by omega) hi c1 c2) id
set_option maxHeartbeats 4000000 in
set_option maxRecDepth 100000 in
theorem cF_codeOf (l : Launch) (nx : Nat) (M : xH) (a : Nat) (cd : Nat → Int64) (pt : Nat → Int32) (n : Nat) (hT : fAt M a cd pt n) (j : Nat) (hj : j < n) : xC l xcl yF_codeOf (xw (Cond.code yF_codeOf bF_codeOf 2 (some .long))) ({ frames := 1, cells := 0, slots := 0, locals := 21 } : Room) [.ref (a), .int (nI (j))] nx M (x_is (some (.long ((cd) (j)))) nx M) := by
  obtain ⟨h0, h1, h2, hz⟩ := id hT
  refine yC (by decide) (Nat.le_of_ble_eq_true rfl) ?_
  intro p e s m args below meth c D F hr hn
  refine x_aload_n F 0 dF_codeOf_0 rfl rfl ?_
  refine x_iload_n F 1 dF_codeOf_1 rfl rfl ?_
  refine yV (n := 1) (As := [.int (nI (j))]) (ci := 1) F kmF_23 kiF_has ksF_has knF kcF_has (by decide +kernel) dF_codeOf_2 (cF_has l (nx) M (a) cd pt n hT j hj) rfl h0 rfl rfl (Nat.le_of_ble_eq_true rfl) ⟨Nat.le_of_ble_eq_true rfl, Nat.le_of_ble_eq_true rfl⟩ ⟨Nat.le_of_ble_eq_true rfl, Nat.le_of_ble_eq_true rfl⟩ ?_
  refine x_if_eq F (tgt := 17) dF_codeOf_5 (by decide) (fun c1 => ?_) (fun c1 => ?_)
  · skip
    have c1 : 1 = 0 := by
      exact (nI_eq (a := 1) (b := 0) (by omega) (by omega)).mp c1
    exact absurd c1 (by decide)
  · skip
    have c1 : 1 ≠ 0 := by
      have z : ¬ (1 = 0) := fun zz => c1 ((nI_eq (a := 1) (b := 0) (by omega) (by omega)).mpr zz)
      omega
    refine x_aload_n F 0 dF_codeOf_8 rfl rfl ?_
    refine x_get (ci := 1) F 0 (x_in inF) rfl (by decide) (x_m kfF_9) dF_codeOf_9 h0 rfl ?_
    refine x_iload_n F 1 dF_codeOf_12 rfl rfl ?_
    refine x_lald F dF_codeOf_13 h1 (pk_in (j) (40) (by omega)) ?_
    refine xW.tol ((cd) (j)) (by rw [nI_clamp (by omega)]) ?_
    refine x_goto F (tgt := 18) dF_codeOf_14 (by decide) ?_
    exact x_lret F hr dF_codeOf_18 (x_is_i _ _ _)
set_option maxHeartbeats 4000000 in
set_option maxRecDepth 100000 in
theorem cF_pointsAt (l : Launch) (nx : Nat) (M : xH) (a : Nat) (cd : Nat → Int64) (pt : Nat → Int32) (n : Nat) (hT : fAt M a cd pt n) (j : Nat) (hj : j < n) : xC l xcl yF_pointsAt (xw (Cond.code yF_pointsAt bF_pointsAt 2 (some .int))) ({ frames := 1, cells := 0, slots := 0, locals := 21 } : Room) [.ref (a), .int (nI (j))] nx M (x_is (some (.int ((pt) (j)))) nx M) := by
  obtain ⟨h0, h1, h2, hz⟩ := id hT
  refine yC (by decide) (Nat.le_of_ble_eq_true rfl) ?_
  intro p e s m args below meth c D F hr hn
  refine x_aload_n F 0 dF_pointsAt_0 rfl rfl ?_
  refine x_iload_n F 1 dF_pointsAt_1 rfl rfl ?_
  refine yV (n := 1) (As := [.int (nI (j))]) (ci := 1) F kmF_23 kiF_has ksF_has knF kcF_has (by decide +kernel) dF_pointsAt_2 (cF_has l (nx) M (a) cd pt n hT j hj) rfl h0 rfl rfl (Nat.le_of_ble_eq_true rfl) ⟨Nat.le_of_ble_eq_true rfl, Nat.le_of_ble_eq_true rfl⟩ ⟨Nat.le_of_ble_eq_true rfl, Nat.le_of_ble_eq_true rfl⟩ ?_
  refine x_if_eq F (tgt := 17) dF_pointsAt_5 (by decide) (fun c1 => ?_) (fun c1 => ?_)
  · skip
    have c1 : 1 = 0 := by
      exact (nI_eq (a := 1) (b := 0) (by omega) (by omega)).mp c1
    exact absurd c1 (by decide)
  · skip
    have c1 : 1 ≠ 0 := by
      have z : ¬ (1 = 0) := fun zz => c1 ((nI_eq (a := 1) (b := 0) (by omega) (by omega)).mpr zz)
      omega
    refine x_aload_n F 0 dF_pointsAt_8 rfl rfl ?_
    refine x_get (ci := 1) F 1 (x_in inF) rfl (by decide) (x_m kfF_15) dF_pointsAt_9 h0 rfl ?_
    refine x_iload_n F 1 dF_pointsAt_12 rfl rfl ?_
    refine x_iald F dF_pointsAt_13 h2 (pk_in (j) (40) (by omega)) ?_
    refine xW.toi ((pt) (j)) (by rw [nI_clamp (by omega)]) ?_
    refine x_goto F (tgt := 18) dF_pointsAt_14 (by decide) ?_
    exact x_iret F hr dF_pointsAt_18 (x_is_i _ _ _)
end
section
def rPost (v : Option Value) (nx : Nat) (M : xH) (a : Nat) (sg : Nat → Int32) (wd : Nat → Int64) (c n q : Nat) (fk fp : Int32) : xO → Nat → xH → Prop := fun r n' M' => r = v ∧ n' = nx ∧ rAt M' a sg wd c n q fk fp ∧ ∀ b, (b < a ∨ a + 2 < b) → M' b = M b
theorem rAt_fr {M M' : xH} {a : Nat} {sg : Nat → Int32} {wd : Nat → Int64} {c n q : Nat} {fk fp : Int32} (h : rAt M a sg wd c n q fk fp) (hf : ∀ b, a ≤ b → b ≤ a + 2 → M' b = M b) : rAt M' a sg wd c n q fk fp := by
  obtain ⟨h0, h1, h2, h3⟩ := h
  exact ⟨(hf _ (by omega) (by omega)).trans h0, (hf _ (by omega) (by omega)).trans h1, (hf _ (by omega) (by omega)).trans h2, h3⟩
theorem tAt_fr {M M' : xH} {a : Nat} {cd : Nat → Int64} {ds ps ch wc : Nat → Int32} {wd : Nat → Int64} {n cp : Nat} (h : tAt M a cd ds ps ch wc wd n cp) (hf : ∀ b, a ≤ b → b ≤ a + 6 → M' b = M b) : tAt M' a cd ds ps ch wc wd n cp := by
  obtain ⟨h0, h1, h2, h3, h4, h5, h6, h7⟩ := h
  exact ⟨(hf _ (by omega) (by omega)).trans h0, (hf _ (by omega) (by omega)).trans h1, (hf _ (by omega) (by omega)).trans h2, (hf _ (by omega) (by omega)).trans h3, (hf _ (by omega) (by omega)).trans h4, (hf _ (by omega) (by omega)).trans h5, (hf _ (by omega) (by omega)).trans h6, h7⟩
theorem pAt_fr {M M' : xH} {a cap : Nat} {ed : Nat → Int32} {cd : Nat → Int64} {mk : Nat → Int32} {ot : Nat → Int64} {n : Nat} (h : pAt M a cap ed cd mk ot n) (hf : ∀ b, a ≤ b → b ≤ a + 4 → M' b = M b) : pAt M' a cap ed cd mk ot n := by
  obtain ⟨h0, h1, h2, h3, h4, h5⟩ := h
  exact ⟨(hf _ (by omega) (by omega)).trans h0, (hf _ (by omega) (by omega)).trans h1, (hf _ (by omega) (by omega)).trans h2, (hf _ (by omega) (by omega)).trans h3, (hf _ (by omega) (by omega)).trans h4, h5⟩
theorem fAt_fr {M M' : xH} {a : Nat} {cd : Nat → Int64} {pt : Nat → Int32} {n : Nat} (h : fAt M a cd pt n) (hf : ∀ b, a ≤ b → b ≤ a + 2 → M' b = M b) : fAt M' a cd pt n := by
  obtain ⟨h0, h1, h2, h3⟩ := h
  exact ⟨(hf _ (by omega) (by omega)).trans h0, (hf _ (by omega) (by omega)).trans h1, (hf _ (by omega) (by omega)).trans h2, h3⟩
/-- how many of k signs from q on are such ones, without a gap, up to the end -/
def hrun (K : Nat → Bool) (tx : Nat → Nat) (n : Nat) : Nat → Nat → Nat
  | 0, _ => 0
  | k + 1, q => if K (hx tx n q) then hrun K tx n k (q + 1) + 1 else 0
theorem hrun_s (K : Nat → Bool) (tx : Nat → Nat) (n k q : Nat) : hrun K tx n (k + 1) q = if K (hx tx n q) then hrun K tx n k (q + 1) + 1 else 0 := rfl
theorem hrun_k (K : Nat → Bool) (tx : Nat → Nat) (n k q : Nat) : hrun K tx n k q ≤ k := by
  induction k generalizing q with
  | zero => exact Nat.le_refl _
  | succ k ih =>
    rw [hrun_s]; split
    · have := ih (q + 1); omega
    · omega
theorem hx_in {K : Nat → Bool} (h0 : K 0 = false) {tx : Nat → Nat} {n q : Nat} (h : K (hx tx n q) = true) : q < n ∧ hx tx n q = tx q := by
  unfold hx at h ⊢
  split
  · exact ⟨by assumption, rfl⟩
  · rename_i hq
    rw [if_neg hq, h0] at h; cases h
theorem hrun_n {K : Nat → Bool} (h0 : K 0 = false) (tx : Nat → Nat) (n k q : Nat) (hq : q ≤ n) : q + hrun K tx n k q ≤ n := by
  induction k generalizing q with
  | zero => exact hq
  | succ k ih =>
    rw [hrun_s]; split
    · rename_i h
      have := (hx_in h0 h).1
      have := ih (q + 1) (by omega); omega
    · omega
/-- a code's number: its digits with a 1 ahead; a word's -/
def cN (tx : Nat → Nat) (q : Nat) : Nat → Nat
  | 0 => 1
  | d + 1 => cN tx q d * 10 + (tx (q + d) - 48)
def wN (tx : Nat → Nat) (q : Nat) : Nat → Nat
  | 0 => 0
  | d + 1 => wN tx q d * 32 + (tx (q + d) - 97 + 1)
/-- the digits that are read; the code that is read, 0 if it is none -/
def dN (tx : Nat → Nat) (n q : Nat) : Nat := hrun dig tx n 10 q
def rc (tx : Nat → Nat) (n q : Nat) : Nat := if 2 ≤ dN tx n q ∧ dN tx n q % 2 = 0 ∧ dig (hx tx n (q + dN tx n q)) = false then cN tx q (dN tx n q) else 0
def lNn (tx : Nat → Nat) (n q : Nat) : Nat := hrun let_ tx n 8 q
set_option maxHeartbeats 4000000 in
set_option maxRecDepth 100000 in
theorem cR_clear (l : Launch) (nx : Nat) (M : xH) (a : Nat) (sg : Nat → Int32) (wd : Nat → Int64) (cw n q : Nat) (fk fp : Int32) (hT : rAt M a sg wd cw n q fk fp) : xC l xcl yR_clear (xw (Cond.code yR_clear bR_clear 1 none)) ({ frames := 0, cells := 0, slots := 0, locals := 0 } : Room) [.ref (a)] nx M (rPost (none) nx M a sg wd cw 0 q fk fp) := by
  obtain ⟨h0, h1, h2, hcw, hn4, hq4⟩ := id hT
  refine yC (by decide) (Nat.le_of_ble_eq_true rfl) ?_
  intro p e s m args below meth c D F hr hn
  refine x_aload_n F 0 dR_clear_0 rfl rfl ?_
  refine x_iconst F (v := nI (0)) dR_clear_1 (by decide) ?_
  refine x_put (ci := 3) (ty := .int) F 3 (x_in inR) tR tR_ok nR rfl (by decide) (x_m kfR_23) dR_clear_2 rfl (by decide +kernel) rfl rfl h0 (Nat.le_of_ble_eq_true rfl) ?_
  show xW p l e ({ frames := 0, cells := 0, slots := 0, locals := 0 } : Room) s m args below meth c D xcl (x_A M nx) 1 (MQ below (x_Q D xcl (x_A M nx) (rPost (none) nx M a sg wd cw 0 q fk fp)) args s 0 0 (x_A M nx)) 0 0 (nx) (x_up M (a) (.inr (3, [.ref (a + 1), .ref (a + 2), .int (nI (cw)), .int (nI (0)), .int (nI (q)), .int (fk), .int (fp)]))) 5 [(0, .ref (a))] []
  exact x_vret F hr dR_clear_5 (⟨rfl, rfl, ⟨x_up_s, (x_up_k h1 (by omega)), (x_up_k h2 (by omega)), by omega, by omega, by omega⟩, fun b hb => (x_up_n (by omega)).trans (rfl)⟩)
set_option maxHeartbeats 4000000 in
set_option maxRecDepth 100000 in
theorem cR_start (l : Launch) (nx : Nat) (M : xH) (a : Nat) (sg : Nat → Int32) (wd : Nat → Int64) (cw n q : Nat) (fk fp : Int32) (hT : rAt M a sg wd cw n q fk fp) : xC l xcl yR_start (xw (Cond.code yR_start bR_start 1 none)) ({ frames := 0, cells := 0, slots := 0, locals := 0 } : Room) [.ref (a)] nx M (rPost (none) nx M a sg wd cw n 0 (nI 0) ((-1))) := by
  obtain ⟨h0, h1, h2, hcw, hn4, hq4⟩ := id hT
  refine yC (by decide) (Nat.le_of_ble_eq_true rfl) ?_
  intro p e s m args below meth c D F hr hn
  refine x_aload_n F 0 dR_start_0 rfl rfl ?_
  refine x_iconst F (v := nI (0)) dR_start_1 (by decide) ?_
  refine x_put (ci := 3) (ty := .int) F 4 (x_in inR) tR tR_ok nR rfl (by decide) (x_m kfR_26) dR_start_2 rfl (by decide +kernel) rfl rfl h0 (Nat.le_of_ble_eq_true rfl) ?_
  show xW p l e ({ frames := 0, cells := 0, slots := 0, locals := 0 } : Room) s m args below meth c D xcl (x_A M nx) 1 (MQ below (x_Q D xcl (x_A M nx) (rPost (none) nx M a sg wd cw n 0 (nI 0) ((-1)))) args s 0 0 (x_A M nx)) 0 0 (nx) (x_up M (a) (.inr (3, [.ref (a + 1), .ref (a + 2), .int (nI (cw)), .int (nI (n)), .int (nI (0)), .int (fk), .int (fp)]))) 5 [(0, .ref (a))] []
  refine x_aload_n F 0 dR_start_5 rfl rfl ?_
  refine x_iconst F (v := nI (0)) dR_start_6 (by decide) ?_
  refine x_put (ci := 3) (ty := .int) F 5 (x_in inR) tR tR_ok nR rfl (by decide) (x_m kfR_29) dR_start_7 rfl (by decide +kernel) rfl rfl x_up_s (Nat.le_of_ble_eq_true rfl) ?_
  show xW p l e ({ frames := 0, cells := 0, slots := 0, locals := 0 } : Room) s m args below meth c D xcl (x_A M nx) 1 (MQ below (x_Q D xcl (x_A M nx) (rPost (none) nx M a sg wd cw n 0 (nI 0) ((-1)))) args s 0 0 (x_A M nx)) 0 0 (nx) (x_up (x_up M (a) (.inr (3, [.ref (a + 1), .ref (a + 2), .int (nI (cw)), .int (nI (n)), .int (nI (0)), .int (fk), .int (fp)]))) (a) (.inr (3, [.ref (a + 1), .ref (a + 2), .int (nI (cw)), .int (nI (n)), .int (nI (0)), .int (nI (0)), .int (fp)]))) 10 [(0, .ref (a))] []
  refine x_aload_n F 0 dR_start_10 rfl rfl ?_
  refine x_iconst F (v := (-1)) dR_start_11 (by decide) ?_
  refine x_put (ci := 3) (ty := .int) F 6 (x_in inR) tR tR_ok nR rfl (by decide) (x_m kfR_32) dR_start_12 rfl (by decide +kernel) rfl rfl x_up_s (Nat.le_of_ble_eq_true rfl) ?_
  show xW p l e ({ frames := 0, cells := 0, slots := 0, locals := 0 } : Room) s m args below meth c D xcl (x_A M nx) 1 (MQ below (x_Q D xcl (x_A M nx) (rPost (none) nx M a sg wd cw n 0 (nI 0) ((-1)))) args s 0 0 (x_A M nx)) 0 0 (nx) (x_up (x_up (x_up M (a) (.inr (3, [.ref (a + 1), .ref (a + 2), .int (nI (cw)), .int (nI (n)), .int (nI (0)), .int (fk), .int (fp)]))) (a) (.inr (3, [.ref (a + 1), .ref (a + 2), .int (nI (cw)), .int (nI (n)), .int (nI (0)), .int (nI (0)), .int (fp)]))) (a) (.inr (3, [.ref (a + 1), .ref (a + 2), .int (nI (cw)), .int (nI (n)), .int (nI (0)), .int (nI (0)), .int ((-1))]))) 15 [(0, .ref (a))] []
  exact x_vret F hr dR_start_15 (⟨rfl, rfl, ⟨x_up_s, (x_up_k (x_up_k (x_up_k h1 (by omega)) (by omega)) (by omega)), (x_up_k (x_up_k (x_up_k h2 (by omega)) (by omega)) (by omega)), by omega, by omega, by omega⟩, fun b hb => (x_up_n (by omega)).trans ((x_up_n (by omega)).trans ((x_up_n (by omega)).trans (rfl)))⟩)
set_option maxHeartbeats 4000000 in
set_option maxRecDepth 100000 in
theorem cR_fail (l : Launch) (nx : Nat) (M : xH) (a : Nat) (sg : Nat → Int32) (wd : Nat → Int64) (cw n q : Nat) (fk fp : Int32) (hT : rAt M a sg wd cw n q fk fp) (kd at_ : Int32) : xC l xcl yR_fail (xw (Cond.code yR_fail bR_fail 3 (some .boolean))) ({ frames := 0, cells := 0, slots := 0, locals := 0 } : Room) [.ref (a), .int (kd), .int (at_)] nx M (rPost (some (.int (nI 0))) nx M a sg wd cw n q kd at_) := by
  obtain ⟨h0, h1, h2, hcw, hn4, hq4⟩ := id hT
  refine yC (by decide) (Nat.le_of_ble_eq_true rfl) ?_
  intro p e s m args below meth c D F hr hn
  refine x_aload_n F 0 dR_fail_0 rfl rfl ?_
  refine x_iload_n F 1 dR_fail_1 rfl rfl ?_
  refine x_put (ci := 3) (ty := .int) F 5 (x_in inR) tR tR_ok nR rfl (by decide) (x_m kfR_29) dR_fail_2 rfl (by decide +kernel) rfl rfl h0 (Nat.le_of_ble_eq_true rfl) ?_
  show xW p l e ({ frames := 0, cells := 0, slots := 0, locals := 0 } : Room) s m args below meth c D xcl (x_A M nx) 3 (MQ below (x_Q D xcl (x_A M nx) (rPost (some (.int (nI 0))) nx M a sg wd cw n q kd at_)) args s 0 0 (x_A M nx)) 0 0 (nx) (x_up M (a) (.inr (3, [.ref (a + 1), .ref (a + 2), .int (nI (cw)), .int (nI (n)), .int (nI (q)), .int (kd), .int (fp)]))) 5 [(0, .ref (a)), (1, .int (kd)), (2, .int (at_))] []
  refine x_aload_n F 0 dR_fail_5 rfl rfl ?_
  refine x_iload_n F 2 dR_fail_6 rfl rfl ?_
  refine x_put (ci := 3) (ty := .int) F 6 (x_in inR) tR tR_ok nR rfl (by decide) (x_m kfR_32) dR_fail_7 rfl (by decide +kernel) rfl rfl x_up_s (Nat.le_of_ble_eq_true rfl) ?_
  show xW p l e ({ frames := 0, cells := 0, slots := 0, locals := 0 } : Room) s m args below meth c D xcl (x_A M nx) 3 (MQ below (x_Q D xcl (x_A M nx) (rPost (some (.int (nI 0))) nx M a sg wd cw n q kd at_)) args s 0 0 (x_A M nx)) 0 0 (nx) (x_up (x_up M (a) (.inr (3, [.ref (a + 1), .ref (a + 2), .int (nI (cw)), .int (nI (n)), .int (nI (q)), .int (kd), .int (fp)]))) (a) (.inr (3, [.ref (a + 1), .ref (a + 2), .int (nI (cw)), .int (nI (n)), .int (nI (q)), .int (kd), .int (at_)]))) 10 [(0, .ref (a)), (1, .int (kd)), (2, .int (at_))] []
  refine x_iconst F (v := nI (0)) dR_fail_10 (by decide) ?_
  exact x_zret F hr (by rfl) dR_fail_11 (⟨rfl, rfl, ⟨x_up_s, (x_up_k (x_up_k h1 (by omega)) (by omega)), (x_up_k (x_up_k h2 (by omega)) (by omega)), by omega, by omega, by omega⟩, fun b hb => (x_up_n (by omega)).trans ((x_up_n (by omega)).trans (rfl))⟩)
set_option maxHeartbeats 4000000 in
set_option maxRecDepth 100000 in
theorem cR_readCode (l : Launch) (nx : Nat) (M : xH) (a : Nat) (sg : Nat → Int32) (wd : Nat → Int64) (cw n q : Nat) (fk fp : Int32) (hT : rAt M a sg wd cw n q fk fp) (tx : Nat → Nat) (hX : sAt sg tx n) (hqn : q ≤ n) : xC l xcl yR_readCode (xw (Cond.code yR_readCode bR_readCode 5 (some .long))) ({ frames := 1, cells := 0, slots := 0, locals := 20 } : Room) [.ref (a)] nx M (rPost (some (.long (lN (rc tx n q)))) nx M a sg wd cw n (q + dN tx n q) fk fp) := by
  obtain ⟨h0, h1, h2, hcw, hn4, hq4⟩ := id hT
  refine yC (by decide) (Nat.le_of_ble_eq_true rfl) ?_
  intro p e s m args below meth c D F hr hn
  have loop : ∀ (k : Nat) (d : Nat) (M1 : xH), d + k = 10 → q + d ≤ n → rAt M1 a sg wd cw n (q + d) fk fp → (∀ b, (b < a ∨ a + 2 < b) → M1 b = M b) → hrun dig tx n 10 q = d + hrun dig tx n k (q + d) → xW p l e ({ frames := 1, cells := 0, slots := 0, locals := 20 } : Room) s m args below meth c D xcl (x_A M nx) 5 (MQ below (x_Q D xcl (x_A M nx) (rPost (some (.long (lN (rc tx n q)))) nx M a sg wd cw n (q + dN tx n q) fk fp)) args s 0 0 (x_A M nx)) 0 0 (nx) M1 4 [(3, .int (nI (d))), (1, .long (lN (cN tx q d))), (0, .ref (a))] [] := by
    intro k
    induction k with
    | zero =>
      intro d M1 hi hqd hR1 hfr hf
      obtain ⟨g0, g1, g2, g3, g4, g5⟩ := id hR1
      refine x_iload_n F 0 dR_readCode_4 rfl rfl ?_
      refine x_bipush F (v := nI (10)) dR_readCode_5 (by decide) ?_
      refine x_icmp_ge F (tgt := 51) dR_readCode_7 (by decide) (fun c1 => ?_) (fun c1 => ?_)
      · skip
        have c1 : 10 ≤ d := by
          exact (nI_leI (a := 10) (b := d) (by omega) (by omega)).mp c1
        have hD : dN tx n q = d := by rw [dN, hf]; rfl
        refine x_iload_n F 0 dR_readCode_51 rfl rfl ?_
        refine x_iconst F (v := nI (2)) dR_readCode_52 (by decide) ?_
        refine x_icmp_lt F (tgt := 76) dR_readCode_53 (by decide) (fun c2 => ?_) (fun c2 => ?_)
        · skip
          have c2 : d < 2 := by
            exact (nI_ltI (a := d) (b := 2) (by omega) (by omega)).mp c2
          refine x_iconst F (v := nI (0)) dR_readCode_76 (by decide) ?_
          refine x_istore F [(4, .int (nI (0))), (3, .int (nI (d))), (1, .long (lN (cN tx q d))), (0, .ref (a))] dR_readCode_77 (by decide) rfl ?_
          refine x_iload F 0 dR_readCode_79 rfl ?_
          refine x_if_eq F (tgt := 88) dR_readCode_81 (by decide) (fun c3 => ?_) (fun c3 => ?_)
          · skip
            have c3 : 0 = 0 := by
              exact (nI_eq (a := 0) (b := 0) (by omega) (by omega)).mp c3
            refine x_lconst F (v := 0) dR_readCode_88 (by decide) ?_
            exact x_lret F hr dR_readCode_89 (⟨by rw [show rc tx n q = 0 from by rw [rc, hD, if_neg (fun z => absurd z.1 (by omega))]]; try rfl, rfl, (by rw [hD]; exact ⟨g0, g1, g2, by omega, by omega, by omega⟩), fun b hb => (hfr _ hb).trans (rfl)⟩)
          · skip
            have c3 : 0 ≠ 0 := by
              have z : ¬ (0 = 0) := fun zz => c3 ((nI_eq (a := 0) (b := 0) (by omega) (by omega)).mpr zz)
              omega
            exact absurd c3 (by decide)
        · skip
          have c2 : 2 ≤ d := by
            have z : ¬ (d < 2) := fun zz => c2 ((nI_ltI (a := d) (b := 2) (by omega) (by omega)).mpr zz)
            omega
          refine x_iload_n F 0 dR_readCode_56 rfl rfl ?_
          refine x_iconst F (v := nI (2)) dR_readCode_57 (by decide) ?_
          refine x_irem F dR_readCode_58 (by decide) ?_
          refine xW.toi (nI ((d) % 2)) (pk_rem (by omega) (by omega) (by omega)) ?_
          refine x_if_ne F (tgt := 76) dR_readCode_59 (by decide) (fun c4 => ?_) (fun c4 => ?_)
          · skip
            have c4 : (d) % 2 ≠ 0 := by
              have z : ¬ ((d) % 2 = 0) := fun zz => c4 ((nI_eq (a := (d) % 2) (b := 0) (by omega) (by omega)).mpr zz)
              omega
            refine x_iconst F (v := nI (0)) dR_readCode_76 (by decide) ?_
            refine x_istore F [(4, .int (nI (0))), (3, .int (nI (d))), (1, .long (lN (cN tx q d))), (0, .ref (a))] dR_readCode_77 (by decide) rfl ?_
            refine x_iload F 0 dR_readCode_79 rfl ?_
            refine x_if_eq F (tgt := 88) dR_readCode_81 (by decide) (fun c5 => ?_) (fun c5 => ?_)
            · skip
              have c5 : 0 = 0 := by
                exact (nI_eq (a := 0) (b := 0) (by omega) (by omega)).mp c5
              refine x_lconst F (v := 0) dR_readCode_88 (by decide) ?_
              exact x_lret F hr dR_readCode_89 (⟨by rw [show rc tx n q = 0 from by rw [rc, hD, if_neg (fun z => absurd z.2.1 (by omega))]]; try rfl, rfl, (by rw [hD]; exact ⟨g0, g1, g2, by omega, by omega, by omega⟩), fun b hb => (hfr _ hb).trans (rfl)⟩)
            · skip
              have c5 : 0 ≠ 0 := by
                have z : ¬ (0 = 0) := fun zz => c5 ((nI_eq (a := 0) (b := 0) (by omega) (by omega)).mpr zz)
                omega
              exact absurd c5 (by decide)
          · skip
            have c4 : (d) % 2 = 0 := by
              exact (nI_eq (a := (d) % 2) (b := 0) (by omega) (by omega)).mp c4
            refine x_aload_n F 2 dR_readCode_62 rfl rfl ?_
            refine yV (n := 0) (As := []) (ci := 3) F kmR_53 kiR_here ksR_here knR kcR_here (by decide +kernel) dR_readCode_63 (cR_here l (nx) M1 (a) sg wd cw n (q + d) fk fp hR1 tx hX) rfl g0 rfl rfl (Nat.le_of_ble_eq_true rfl) ⟨Nat.le_of_ble_eq_true rfl, Nat.le_of_ble_eq_true rfl⟩ ⟨Nat.le_of_ble_eq_true rfl, Nat.le_of_ble_eq_true rfl⟩ ?_
            have hh63 := hx_lt (q := (q + d)) hX
            refine yS (n := 1) (As := [.int (nI (hx tx (n) ((q + d))))]) F kmR_57 ktR_isDigit knR kcR_isDigit (by decide +kernel) dR_readCode_66 (cR_isDigit l (nx) M1 (hx tx (n) ((q + d))) (by omega)) rfl rfl (Nat.le_of_ble_eq_true rfl) ⟨Nat.le_of_ble_eq_true rfl, Nat.le_of_ble_eq_true rfl⟩ ⟨Nat.le_of_ble_eq_true rfl, Nat.le_of_ble_eq_true rfl⟩ ?_
            refine x_if_ne F (tgt := 76) dR_readCode_69 (by decide) (fun c6 => ?_) (fun c6 => ?_)
            · skip
              have c6 : (dig (hx tx (n) ((q + d)))) = true := bI_1 c6
              refine x_iconst F (v := nI (0)) dR_readCode_76 (by decide) ?_
              refine x_istore F [(4, .int (nI (0))), (3, .int (nI (d))), (1, .long (lN (cN tx q d))), (0, .ref (a))] dR_readCode_77 (by decide) rfl ?_
              refine x_iload F 0 dR_readCode_79 rfl ?_
              refine x_if_eq F (tgt := 88) dR_readCode_81 (by decide) (fun c7 => ?_) (fun c7 => ?_)
              · skip
                have c7 : 0 = 0 := by
                  exact (nI_eq (a := 0) (b := 0) (by omega) (by omega)).mp c7
                refine x_lconst F (v := 0) dR_readCode_88 (by decide) ?_
                exact x_lret F hr dR_readCode_89 (⟨by rw [show rc tx n q = 0 from by rw [rc, hD, if_neg (fun z => by have z := z.2.2; rw [c6] at z; cases z)]]; try rfl, rfl, (by rw [hD]; exact ⟨g0, g1, g2, by omega, by omega, by omega⟩), fun b hb => (hfr _ hb).trans (rfl)⟩)
              · skip
                have c7 : 0 ≠ 0 := by
                  have z : ¬ (0 = 0) := fun zz => c7 ((nI_eq (a := 0) (b := 0) (by omega) (by omega)).mpr zz)
                  omega
                exact absurd c7 (by decide)
            · skip
              have c6 : (dig (hx tx (n) ((q + d)))) = false := bI_0 c6
              refine x_iconst F (v := nI (1)) dR_readCode_72 (by decide) ?_
              refine x_goto F (tgt := 77) dR_readCode_73 (by decide) ?_
              refine x_istore F [(4, .int (nI (1))), (3, .int (nI (d))), (1, .long (lN (cN tx q d))), (0, .ref (a))] dR_readCode_77 (by decide) rfl ?_
              refine x_iload F 0 dR_readCode_79 rfl ?_
              refine x_if_eq F (tgt := 88) dR_readCode_81 (by decide) (fun c8 => ?_) (fun c8 => ?_)
              · skip
                have c8 : 1 = 0 := by
                  exact (nI_eq (a := 1) (b := 0) (by omega) (by omega)).mp c8
                exact absurd c8 (by decide)
              · skip
                have c8 : 1 ≠ 0 := by
                  have z : ¬ (1 = 0) := fun zz => c8 ((nI_eq (a := 1) (b := 0) (by omega) (by omega)).mpr zz)
                  omega
                refine x_lload_n F 2 dR_readCode_84 rfl rfl ?_
                refine x_goto F (tgt := 89) dR_readCode_85 (by decide) ?_
                exact x_lret F hr dR_readCode_89 (⟨by rw [show rc tx n q = cN tx q d from by rw [rc, hD, if_pos ⟨by omega, by omega, c6⟩]]; try rfl, rfl, (by rw [hD]; exact ⟨g0, g1, g2, by omega, by omega, by omega⟩), fun b hb => (hfr _ hb).trans (rfl)⟩)
      · skip
        have c1 : d < 10 := by
          have z : ¬ (10 ≤ d) := fun zz => c1 ((nI_leI (a := 10) (b := d) (by omega) (by omega)).mpr zz)
          omega
        exact absurd c1 (by omega)
    | succ k ih =>
      intro d M1 hi hqd hR1 hfr hf
      obtain ⟨g0, g1, g2, g3, g4, g5⟩ := id hR1
      refine x_iload_n F 0 dR_readCode_4 rfl rfl ?_
      refine x_bipush F (v := nI (10)) dR_readCode_5 (by decide) ?_
      refine x_icmp_ge F (tgt := 51) dR_readCode_7 (by decide) (fun c9 => ?_) (fun c9 => ?_)
      · skip
        have c9 : 10 ≤ d := by
          exact (nI_leI (a := 10) (b := d) (by omega) (by omega)).mp c9
        exact absurd c9 (by omega)
      · skip
        have c9 : d < 10 := by
          have z : ¬ (10 ≤ d) := fun zz => c9 ((nI_leI (a := 10) (b := d) (by omega) (by omega)).mpr zz)
          omega
        refine x_aload_n F 2 dR_readCode_10 rfl rfl ?_
        refine yV (n := 0) (As := []) (ci := 3) F kmR_53 kiR_here ksR_here knR kcR_here (by decide +kernel) dR_readCode_11 (cR_here l (nx) M1 (a) sg wd cw n (q + d) fk fp hR1 tx hX) rfl g0 rfl rfl (Nat.le_of_ble_eq_true rfl) ⟨Nat.le_of_ble_eq_true rfl, Nat.le_of_ble_eq_true rfl⟩ ⟨Nat.le_of_ble_eq_true rfl, Nat.le_of_ble_eq_true rfl⟩ ?_
        have hh11 := hx_lt (q := (q + d)) hX
        refine yS (n := 1) (As := [.int (nI (hx tx (n) ((q + d))))]) F kmR_57 ktR_isDigit knR kcR_isDigit (by decide +kernel) dR_readCode_14 (cR_isDigit l (nx) M1 (hx tx (n) ((q + d))) (by omega)) rfl rfl (Nat.le_of_ble_eq_true rfl) ⟨Nat.le_of_ble_eq_true rfl, Nat.le_of_ble_eq_true rfl⟩ ⟨Nat.le_of_ble_eq_true rfl, Nat.le_of_ble_eq_true rfl⟩ ?_
        refine x_if_eq F (tgt := 51) dR_readCode_17 (by decide) (fun c10 => ?_) (fun c10 => ?_)
        · skip
          have c10 : (dig (hx tx (n) ((q + d)))) = false := bI_0 c10
          have hD : dN tx n q = d := by rw [dN, hf, hrun_s, if_neg (by simp [c10])]; rfl
          refine x_iload_n F 0 dR_readCode_51 rfl rfl ?_
          refine x_iconst F (v := nI (2)) dR_readCode_52 (by decide) ?_
          refine x_icmp_lt F (tgt := 76) dR_readCode_53 (by decide) (fun c11 => ?_) (fun c11 => ?_)
          · skip
            have c11 : d < 2 := by
              exact (nI_ltI (a := d) (b := 2) (by omega) (by omega)).mp c11
            refine x_iconst F (v := nI (0)) dR_readCode_76 (by decide) ?_
            refine x_istore F [(4, .int (nI (0))), (3, .int (nI (d))), (1, .long (lN (cN tx q d))), (0, .ref (a))] dR_readCode_77 (by decide) rfl ?_
            refine x_iload F 0 dR_readCode_79 rfl ?_
            refine x_if_eq F (tgt := 88) dR_readCode_81 (by decide) (fun c12 => ?_) (fun c12 => ?_)
            · skip
              have c12 : 0 = 0 := by
                exact (nI_eq (a := 0) (b := 0) (by omega) (by omega)).mp c12
              refine x_lconst F (v := 0) dR_readCode_88 (by decide) ?_
              exact x_lret F hr dR_readCode_89 (⟨by rw [show rc tx n q = 0 from by rw [rc, hD, if_neg (fun z => absurd z.1 (by omega))]]; try rfl, rfl, (by rw [hD]; exact ⟨g0, g1, g2, by omega, by omega, by omega⟩), fun b hb => (hfr _ hb).trans (rfl)⟩)
            · skip
              have c12 : 0 ≠ 0 := by
                have z : ¬ (0 = 0) := fun zz => c12 ((nI_eq (a := 0) (b := 0) (by omega) (by omega)).mpr zz)
                omega
              exact absurd c12 (by decide)
          · skip
            have c11 : 2 ≤ d := by
              have z : ¬ (d < 2) := fun zz => c11 ((nI_ltI (a := d) (b := 2) (by omega) (by omega)).mpr zz)
              omega
            refine x_iload_n F 0 dR_readCode_56 rfl rfl ?_
            refine x_iconst F (v := nI (2)) dR_readCode_57 (by decide) ?_
            refine x_irem F dR_readCode_58 (by decide) ?_
            refine xW.toi (nI ((d) % 2)) (pk_rem (by omega) (by omega) (by omega)) ?_
            refine x_if_ne F (tgt := 76) dR_readCode_59 (by decide) (fun c13 => ?_) (fun c13 => ?_)
            · skip
              have c13 : (d) % 2 ≠ 0 := by
                have z : ¬ ((d) % 2 = 0) := fun zz => c13 ((nI_eq (a := (d) % 2) (b := 0) (by omega) (by omega)).mpr zz)
                omega
              refine x_iconst F (v := nI (0)) dR_readCode_76 (by decide) ?_
              refine x_istore F [(4, .int (nI (0))), (3, .int (nI (d))), (1, .long (lN (cN tx q d))), (0, .ref (a))] dR_readCode_77 (by decide) rfl ?_
              refine x_iload F 0 dR_readCode_79 rfl ?_
              refine x_if_eq F (tgt := 88) dR_readCode_81 (by decide) (fun c14 => ?_) (fun c14 => ?_)
              · skip
                have c14 : 0 = 0 := by
                  exact (nI_eq (a := 0) (b := 0) (by omega) (by omega)).mp c14
                refine x_lconst F (v := 0) dR_readCode_88 (by decide) ?_
                exact x_lret F hr dR_readCode_89 (⟨by rw [show rc tx n q = 0 from by rw [rc, hD, if_neg (fun z => absurd z.2.1 (by omega))]]; try rfl, rfl, (by rw [hD]; exact ⟨g0, g1, g2, by omega, by omega, by omega⟩), fun b hb => (hfr _ hb).trans (rfl)⟩)
              · skip
                have c14 : 0 ≠ 0 := by
                  have z : ¬ (0 = 0) := fun zz => c14 ((nI_eq (a := 0) (b := 0) (by omega) (by omega)).mpr zz)
                  omega
                exact absurd c14 (by decide)
            · skip
              have c13 : (d) % 2 = 0 := by
                exact (nI_eq (a := (d) % 2) (b := 0) (by omega) (by omega)).mp c13
              refine x_aload_n F 2 dR_readCode_62 rfl rfl ?_
              refine yV (n := 0) (As := []) (ci := 3) F kmR_53 kiR_here ksR_here knR kcR_here (by decide +kernel) dR_readCode_63 (cR_here l (nx) M1 (a) sg wd cw n (q + d) fk fp hR1 tx hX) rfl g0 rfl rfl (Nat.le_of_ble_eq_true rfl) ⟨Nat.le_of_ble_eq_true rfl, Nat.le_of_ble_eq_true rfl⟩ ⟨Nat.le_of_ble_eq_true rfl, Nat.le_of_ble_eq_true rfl⟩ ?_
              have hh63 := hx_lt (q := (q + d)) hX
              refine yS (n := 1) (As := [.int (nI (hx tx (n) ((q + d))))]) F kmR_57 ktR_isDigit knR kcR_isDigit (by decide +kernel) dR_readCode_66 (cR_isDigit l (nx) M1 (hx tx (n) ((q + d))) (by omega)) rfl rfl (Nat.le_of_ble_eq_true rfl) ⟨Nat.le_of_ble_eq_true rfl, Nat.le_of_ble_eq_true rfl⟩ ⟨Nat.le_of_ble_eq_true rfl, Nat.le_of_ble_eq_true rfl⟩ ?_
              refine x_if_ne F (tgt := 76) dR_readCode_69 (by decide) (fun c15 => ?_) (fun c15 => ?_)
              · skip
                have c15 : (dig (hx tx (n) ((q + d)))) = true := bI_1 c15
                refine x_iconst F (v := nI (0)) dR_readCode_76 (by decide) ?_
                refine x_istore F [(4, .int (nI (0))), (3, .int (nI (d))), (1, .long (lN (cN tx q d))), (0, .ref (a))] dR_readCode_77 (by decide) rfl ?_
                refine x_iload F 0 dR_readCode_79 rfl ?_
                refine x_if_eq F (tgt := 88) dR_readCode_81 (by decide) (fun c16 => ?_) (fun c16 => ?_)
                · skip
                  have c16 : 0 = 0 := by
                    exact (nI_eq (a := 0) (b := 0) (by omega) (by omega)).mp c16
                  refine x_lconst F (v := 0) dR_readCode_88 (by decide) ?_
                  exact x_lret F hr dR_readCode_89 (⟨by rw [show rc tx n q = 0 from by rw [rc, hD, if_neg (fun z => by have z := z.2.2; rw [c15] at z; cases z)]]; try rfl, rfl, (by rw [hD]; exact ⟨g0, g1, g2, by omega, by omega, by omega⟩), fun b hb => (hfr _ hb).trans (rfl)⟩)
                · skip
                  have c16 : 0 ≠ 0 := by
                    have z : ¬ (0 = 0) := fun zz => c16 ((nI_eq (a := 0) (b := 0) (by omega) (by omega)).mpr zz)
                    omega
                  exact absurd c16 (by decide)
              · skip
                have c15 : (dig (hx tx (n) ((q + d)))) = false := bI_0 c15
                refine x_iconst F (v := nI (1)) dR_readCode_72 (by decide) ?_
                refine x_goto F (tgt := 77) dR_readCode_73 (by decide) ?_
                refine x_istore F [(4, .int (nI (1))), (3, .int (nI (d))), (1, .long (lN (cN tx q d))), (0, .ref (a))] dR_readCode_77 (by decide) rfl ?_
                refine x_iload F 0 dR_readCode_79 rfl ?_
                refine x_if_eq F (tgt := 88) dR_readCode_81 (by decide) (fun c17 => ?_) (fun c17 => ?_)
                · skip
                  have c17 : 1 = 0 := by
                    exact (nI_eq (a := 1) (b := 0) (by omega) (by omega)).mp c17
                  exact absurd c17 (by decide)
                · skip
                  have c17 : 1 ≠ 0 := by
                    have z : ¬ (1 = 0) := fun zz => c17 ((nI_eq (a := 1) (b := 0) (by omega) (by omega)).mpr zz)
                    omega
                  refine x_lload_n F 2 dR_readCode_84 rfl rfl ?_
                  refine x_goto F (tgt := 89) dR_readCode_85 (by decide) ?_
                  exact x_lret F hr dR_readCode_89 (⟨by rw [show rc tx n q = cN tx q d from by rw [rc, hD, if_pos ⟨by omega, by omega, c15⟩]]; try rfl, rfl, (by rw [hD]; exact ⟨g0, g1, g2, by omega, by omega, by omega⟩), fun b hb => (hfr _ hb).trans (rfl)⟩)
        · skip
          have c10 : (dig (hx tx (n) ((q + d)))) = true := bI_1 c10
          refine x_lload_n F 1 dR_readCode_20 rfl rfl ?_
          refine x_ldc2 F (x_m kjR_97) dR_readCode_21 ?_
          refine x_lmul F dR_readCode_24 ?_
          refine xW.tol (lN (cN tx q d * 10)) (lN_mul _ 10) ?_
          refine x_aload_n F 2 dR_readCode_25 rfl rfl ?_
          refine yV (n := 0) (As := []) (ci := 3) F kmR_53 kiR_here ksR_here knR kcR_here (by decide +kernel) dR_readCode_26 (cR_here l (nx) M1 (a) sg wd cw n (q + d) fk fp hR1 tx hX) rfl g0 rfl rfl (Nat.le_of_ble_eq_true rfl) ⟨Nat.le_of_ble_eq_true rfl, Nat.le_of_ble_eq_true rfl⟩ ⟨Nat.le_of_ble_eq_true rfl, Nat.le_of_ble_eq_true rfl⟩ ?_
          have hh26 := hx_lt (q := (q + d)) hX
          refine x_bipush F (v := nI (48)) dR_readCode_29 (by decide) ?_
          refine x_isub F dR_readCode_31 ?_
          refine xW.toi (nI (hx tx (n) ((q + d)) - 48)) (pk_sub (by simp [dig] at c10; omega)) ?_
          refine x_i2l F dR_readCode_32 ?_
          refine xW.tol (lN (hx tx (n) ((q + d)) - 48)) (nI_l (by omega)) ?_
          refine x_ladd F dR_readCode_33 ?_
          refine xW.tol (lN (cN tx q (d + 1))) (by rw [lN_add]; show _ = lN (cN tx q d * 10 + (tx (q + d) - 48)); rw [← (hx_in (K := dig) rfl c10).2]) ?_
          refine x_lstore_n F [(1, .long (lN (cN tx q (d + 1)))), (3, .int (nI (d))), (0, .ref (a))] dR_readCode_34 rfl (by decide) rfl ?_
          refine x_iinc F 1 [(3, .int (nI (d + 1))), (1, .long (lN (cN tx q (d + 1)))), (0, .ref (a))] dR_readCode_35 rfl (nI_add (d) 1) (by decide) rfl ?_
          refine x_aload_n F 2 dR_readCode_38 rfl rfl ?_
          refine x_dup F dR_readCode_39 rfl ?_
          refine x_get (ci := 3) F 4 (x_in inR) rfl (by decide) (x_m kfR_26) dR_readCode_40 g0 rfl ?_
          refine x_iconst F (v := nI (1)) dR_readCode_43 (by decide) ?_
          refine x_iadd F dR_readCode_44 ?_
          refine xW.toi (nI (q + d + 1)) (nI_add _ _) ?_
          refine x_put (ci := 3) (ty := .int) F 4 (x_in inR) tR tR_ok nR rfl (by decide) (x_m kfR_26) dR_readCode_45 rfl (by decide +kernel) rfl rfl g0 (Nat.le_of_ble_eq_true rfl) ?_
          show xW p l e ({ frames := 1, cells := 0, slots := 0, locals := 20 } : Room) s m args below meth c D xcl (x_A M nx) 5 (MQ below (x_Q D xcl (x_A M nx) (rPost (some (.long (lN (rc tx n q)))) nx M a sg wd cw n (q + dN tx n q) fk fp)) args s 0 0 (x_A M nx)) 0 0 (nx) (x_up M1 (a) (.inr (3, [.ref (a + 1), .ref (a + 2), .int (nI (cw)), .int (nI (n)), .int (nI (q + d + 1)), .int (fk), .int (fp)]))) 48 [(3, .int (nI (d + 1))), (1, .long (lN (cN tx q (d + 1)))), (0, .ref (a))] []
          refine x_goto F (tgt := 4) dR_readCode_48 (by decide) ?_
          exact ih (d + 1) _ (by omega) (by have := (hx_in (K := dig) rfl c10).1; omega) ⟨x_up_s, (x_up_k g1 (by omega)), (x_up_k g2 (by omega)), by omega, by omega, by have := (hx_in (K := dig) rfl c10).1; omega⟩ (fun b hb => (x_up_n (by omega)).trans ((hfr _ hb).trans (rfl))) (by rw [hf, hrun_s, if_pos c10]; show _ = d + 1 + hrun dig tx n k (q + d + 1); omega)
  refine x_lconst F (v := 1) dR_readCode_0 (by decide) ?_
  refine x_lstore_n F [(1, .long (1)), (0, .ref (a))] dR_readCode_1 rfl (by decide) rfl ?_
  refine x_iconst F (v := nI (0)) dR_readCode_2 (by decide) ?_
  refine x_istore_n F [(3, .int (nI (0))), (1, .long (1)), (0, .ref (a))] dR_readCode_3 rfl (by decide) rfl ?_
  exact loop 10 0 M rfl hqn hT (fun _ _ => rfl) (Nat.zero_add _).symm
set_option maxHeartbeats 4000000 in
set_option maxRecDepth 100000 in
theorem cR_readWord (l : Launch) (nx : Nat) (M : xH) (a : Nat) (sg : Nat → Int32) (wd : Nat → Int64) (cw n q : Nat) (fk fp : Int32) (hT : rAt M a sg wd cw n q fk fp) (tx : Nat → Nat) (hX : sAt sg tx n) (hqn : q ≤ n) : xC l xcl yR_readWord (xw (Cond.code yR_readWord bR_readWord 4 (some .long))) ({ frames := 1, cells := 0, slots := 0, locals := 20 } : Room) [.ref (a)] nx M (rPost (some (.long (lN (wN tx q (lNn tx n q))))) nx M a sg wd cw n (q + lNn tx n q) fk fp) := by
  obtain ⟨h0, h1, h2, hcw, hn4, hq4⟩ := id hT
  refine yC (by decide) (Nat.le_of_ble_eq_true rfl) ?_
  intro p e s m args below meth c D F hr hn
  have loop : ∀ (k : Nat) (d : Nat) (M1 : xH), d + k = 8 → q + d ≤ n → rAt M1 a sg wd cw n (q + d) fk fp → (∀ b, (b < a ∨ a + 2 < b) → M1 b = M b) → hrun let_ tx n 8 q = d + hrun let_ tx n k (q + d) → xW p l e ({ frames := 1, cells := 0, slots := 0, locals := 20 } : Room) s m args below meth c D xcl (x_A M nx) 4 (MQ below (x_Q D xcl (x_A M nx) (rPost (some (.long (lN (wN tx q (lNn tx n q))))) nx M a sg wd cw n (q + lNn tx n q) fk fp)) args s 0 0 (x_A M nx)) 0 0 (nx) M1 4 [(3, .int (nI (d))), (1, .long (lN (wN tx q d))), (0, .ref (a))] [] := by
    intro k
    induction k with
    | zero =>
      intro d M1 hi hqd hR1 hfr hf
      obtain ⟨g0, g1, g2, g3, g4, g5⟩ := id hR1
      refine x_iload_n F 0 dR_readWord_4 rfl rfl ?_
      refine x_bipush F (v := nI (8)) dR_readWord_5 (by decide) ?_
      refine x_icmp_ge F (tgt := 53) dR_readWord_7 (by decide) (fun c1 => ?_) (fun c1 => ?_)
      · skip
        have c1 : 8 ≤ d := by
          exact (nI_leI (a := 8) (b := d) (by omega) (by omega)).mp c1
        have hD : lNn tx n q = d := by rw [lNn, hf]; rfl
        refine x_lload_n F 1 dR_readWord_53 rfl rfl ?_
        exact x_lret F hr dR_readWord_54 (⟨by rw [hD], rfl, (by rw [hD]; exact ⟨g0, g1, g2, by omega, by omega, by omega⟩), fun b hb => (hfr _ hb).trans (rfl)⟩)
      · skip
        have c1 : d < 8 := by
          have z : ¬ (8 ≤ d) := fun zz => c1 ((nI_leI (a := 8) (b := d) (by omega) (by omega)).mpr zz)
          omega
        exact absurd c1 (by omega)
    | succ k ih =>
      intro d M1 hi hqd hR1 hfr hf
      obtain ⟨g0, g1, g2, g3, g4, g5⟩ := id hR1
      refine x_iload_n F 0 dR_readWord_4 rfl rfl ?_
      refine x_bipush F (v := nI (8)) dR_readWord_5 (by decide) ?_
      refine x_icmp_ge F (tgt := 53) dR_readWord_7 (by decide) (fun c2 => ?_) (fun c2 => ?_)
      · skip
        have c2 : 8 ≤ d := by
          exact (nI_leI (a := 8) (b := d) (by omega) (by omega)).mp c2
        exact absurd c2 (by omega)
      · skip
        have c2 : d < 8 := by
          have z : ¬ (8 ≤ d) := fun zz => c2 ((nI_leI (a := 8) (b := d) (by omega) (by omega)).mpr zz)
          omega
        refine x_aload_n F 2 dR_readWord_10 rfl rfl ?_
        refine yV (n := 0) (As := []) (ci := 3) F kmR_53 kiR_here ksR_here knR kcR_here (by decide +kernel) dR_readWord_11 (cR_here l (nx) M1 (a) sg wd cw n (q + d) fk fp hR1 tx hX) rfl g0 rfl rfl (Nat.le_of_ble_eq_true rfl) ⟨Nat.le_of_ble_eq_true rfl, Nat.le_of_ble_eq_true rfl⟩ ⟨Nat.le_of_ble_eq_true rfl, Nat.le_of_ble_eq_true rfl⟩ ?_
        have hh11 := hx_lt (q := (q + d)) hX
        refine yS (n := 1) (As := [.int (nI (hx tx (n) ((q + d))))]) F kmR_102 ktR_isLetter knR kcR_isLetter (by decide +kernel) dR_readWord_14 (cR_isLetter l (nx) M1 (hx tx (n) ((q + d))) (by omega)) rfl rfl (Nat.le_of_ble_eq_true rfl) ⟨Nat.le_of_ble_eq_true rfl, Nat.le_of_ble_eq_true rfl⟩ ⟨Nat.le_of_ble_eq_true rfl, Nat.le_of_ble_eq_true rfl⟩ ?_
        refine x_if_eq F (tgt := 53) dR_readWord_17 (by decide) (fun c3 => ?_) (fun c3 => ?_)
        · skip
          have c3 : (let_ (hx tx (n) ((q + d)))) = false := bI_0 c3
          have hD : lNn tx n q = d := by rw [lNn, hf, hrun_s, if_neg (by simp [c3])]; rfl
          refine x_lload_n F 1 dR_readWord_53 rfl rfl ?_
          exact x_lret F hr dR_readWord_54 (⟨by rw [hD], rfl, (by rw [hD]; exact ⟨g0, g1, g2, by omega, by omega, by omega⟩), fun b hb => (hfr _ hb).trans (rfl)⟩)
        · skip
          have c3 : (let_ (hx tx (n) ((q + d)))) = true := bI_1 c3
          refine x_lload_n F 1 dR_readWord_20 rfl rfl ?_
          refine x_ldc2 F (x_m kjR_105) dR_readWord_21 ?_
          refine x_lmul F dR_readWord_24 ?_
          refine xW.tol (lN (wN tx q d * 32)) (lN_mul _ 32) ?_
          refine x_aload_n F 2 dR_readWord_25 rfl rfl ?_
          refine yV (n := 0) (As := []) (ci := 3) F kmR_53 kiR_here ksR_here knR kcR_here (by decide +kernel) dR_readWord_26 (cR_here l (nx) M1 (a) sg wd cw n (q + d) fk fp hR1 tx hX) rfl g0 rfl rfl (Nat.le_of_ble_eq_true rfl) ⟨Nat.le_of_ble_eq_true rfl, Nat.le_of_ble_eq_true rfl⟩ ⟨Nat.le_of_ble_eq_true rfl, Nat.le_of_ble_eq_true rfl⟩ ?_
          have hh26 := hx_lt (q := (q + d)) hX
          refine x_bipush F (v := nI (97)) dR_readWord_29 (by decide) ?_
          refine x_isub F dR_readWord_31 ?_
          refine xW.toi (nI (hx tx (n) ((q + d)) - 97)) (pk_sub (by simp [let_] at c3; omega)) ?_
          refine x_iconst F (v := nI (1)) dR_readWord_32 (by decide) ?_
          refine x_iadd F dR_readWord_33 ?_
          refine xW.toi (nI (hx tx (n) ((q + d)) - 97 + 1)) (nI_add _ _) ?_
          refine x_i2l F dR_readWord_34 ?_
          refine xW.tol (lN (hx tx (n) ((q + d)) - 97 + 1)) (nI_l (by omega)) ?_
          refine x_ladd F dR_readWord_35 ?_
          refine xW.tol (lN (wN tx q (d + 1))) (by rw [lN_add]; show _ = lN (wN tx q d * 32 + (tx (q + d) - 97 + 1)); rw [← (hx_in (K := let_) rfl c3).2]) ?_
          refine x_lstore_n F [(1, .long (lN (wN tx q (d + 1)))), (3, .int (nI (d))), (0, .ref (a))] dR_readWord_36 rfl (by decide) rfl ?_
          refine x_aload_n F 2 dR_readWord_37 rfl rfl ?_
          refine x_dup F dR_readWord_38 rfl ?_
          refine x_get (ci := 3) F 4 (x_in inR) rfl (by decide) (x_m kfR_26) dR_readWord_39 g0 rfl ?_
          refine x_iconst F (v := nI (1)) dR_readWord_42 (by decide) ?_
          refine x_iadd F dR_readWord_43 ?_
          refine xW.toi (nI (q + d + 1)) (nI_add _ _) ?_
          refine x_put (ci := 3) (ty := .int) F 4 (x_in inR) tR tR_ok nR rfl (by decide) (x_m kfR_26) dR_readWord_44 rfl (by decide +kernel) rfl rfl g0 (Nat.le_of_ble_eq_true rfl) ?_
          show xW p l e ({ frames := 1, cells := 0, slots := 0, locals := 20 } : Room) s m args below meth c D xcl (x_A M nx) 4 (MQ below (x_Q D xcl (x_A M nx) (rPost (some (.long (lN (wN tx q (lNn tx n q))))) nx M a sg wd cw n (q + lNn tx n q) fk fp)) args s 0 0 (x_A M nx)) 0 0 (nx) (x_up M1 (a) (.inr (3, [.ref (a + 1), .ref (a + 2), .int (nI (cw)), .int (nI (n)), .int (nI (q + d + 1)), .int (fk), .int (fp)]))) 47 [(1, .long (lN (wN tx q (d + 1)))), (3, .int (nI (d))), (0, .ref (a))] []
          refine x_iinc F 1 [(3, .int (nI (d + 1))), (1, .long (lN (wN tx q (d + 1)))), (0, .ref (a))] dR_readWord_47 rfl (nI_add (d) 1) (by decide) rfl ?_
          refine x_goto F (tgt := 4) dR_readWord_50 (by decide) ?_
          exact ih (d + 1) _ (by omega) (by have := (hx_in (K := let_) rfl c3).1; omega) ⟨x_up_s, (x_up_k g1 (by omega)), (x_up_k g2 (by omega)), by omega, by omega, by have := (hx_in (K := let_) rfl c3).1; omega⟩ (fun b hb => (x_up_n (by omega)).trans ((hfr _ hb).trans (rfl))) (by rw [hf, hrun_s, if_pos c3]; show _ = d + 1 + hrun let_ tx n k (q + d + 1); omega)
  refine x_lconst F (v := 0) dR_readWord_0 (by decide) ?_
  refine x_lstore_n F [(1, .long (0)), (0, .ref (a))] dR_readWord_1 rfl (by decide) rfl ?_
  refine x_iconst F (v := nI (0)) dR_readWord_2 (by decide) ?_
  refine x_istore_n F [(3, .int (nI (0))), (1, .long (0)), (0, .ref (a))] dR_readWord_3 rfl (by decide) rfl ?_
  exact loop 8 0 M rfl hqn hT (fun _ _ => rfl) (Nat.zero_add _).symm
end
section
/-- words from q on: whether all is right, how many, where it stopped, the words -/
def wds (tx : Nat → Nat) (n mo : Nat) : Nat → Nat → Nat → (Nat → Int64) → Bool × Nat × Nat × (Nat → Int64)
  | 0, k, q, wd => (true, k, q, wd)
  | f + 1, k, q, wd => if lNn tx n q = 0 then (false, k, q, wd) else
      if hx tx n (q + lNn tx n q) = 46 ∧ k + 1 ≠ mo then wds tx n mo f (k + 1) (q + lNn tx n q + 1) (vp_updL wd k (lN (wN tx q (lNn tx n q)))) else (true, k + 1, q + lNn tx n q, vp_updL wd k (lN (wN tx q (lNn tx n q))))
theorem wds_s (tx : Nat → Nat) (n mo f k q : Nat) (wd : Nat → Int64) : wds tx n mo (f + 1) k q wd = if lNn tx n q = 0 then (false, k, q, wd) else
      if hx tx n (q + lNn tx n q) = 46 ∧ k + 1 ≠ mo then wds tx n mo f (k + 1) (q + lNn tx n q + 1) (vp_updL wd k (lN (wN tx q (lNn tx n q)))) else (true, k + 1, q + lNn tx n q, vp_updL wd k (lN (wN tx q (lNn tx n q)))) := rfl
theorem hrun_all {K : Nat → Bool} (h0 : K 0 = false) {tx : Nat → Nat} {n k q i : Nat} (h : i < hrun K tx n k q) : K (tx (q + i)) = true ∧ q + i < n := by
  induction k generalizing q i with
  | zero => exact absurd h (Nat.not_lt_zero _)
  | succ k ih =>
    rw [hrun_s] at h
    split at h
    · rename_i hk
      have := hx_in h0 hk
      cases i with
      | zero => exact ⟨by rw [Nat.add_zero, ← this.2]; exact hk, by omega⟩
      | succ i =>
        have := ih (q := q + 1) (i := i) (by omega)
        rw [show q + (i + 1) = q + 1 + i by omega]; exact this
    · omega
theorem wN_lt {tx : Nat → Nat} {q d : Nat} (h : ∀ i, i < d → tx (q + i) < 128) : wN tx q d < 32 ^ d := by
  induction d with
  | zero => show 0 < 1; omega
  | succ d ih =>
    have h1 := ih (fun i hi => h i (by omega))
    have h2 := h d (by omega)
    show wN tx q d * 32 + (tx (q + d) - 97 + 1) < 32 ^ (d + 1)
    rw [Nat.pow_succ]; omega
theorem wN_0 {tx : Nat → Nat} {q d : Nat} (h : wN tx q d = 0) : d = 0 := by
  cases d with
  | zero => rfl
  | succ d =>
    have h : wN tx q d * 32 + (tx (q + d) - 97 + 1) = 0 := h
    omega
theorem wN_n0 {sg : Nat → Int32} {tx : Nat → Nat} {n q : Nat} (hX : sAt sg tx n) : lN (wN tx q (lNn tx n q)) = 0 ↔ lNn tx n q = 0 := by
  have hb : wN tx q (lNn tx n q) < 32 ^ (lNn tx n q) := wN_lt (fun i hi => (hX _ (hrun_all (K := let_) rfl hi).2).2)
  have h8 : lNn tx n q ≤ 8 := hrun_k _ _ _ _ _
  have hp : 32 ^ (lNn tx n q) ≤ 32 ^ 8 := Nat.pow_le_pow_right (by omega) h8
  constructor
  · intro h
    have h : lN (wN tx q (lNn tx n q)) = lN 0 := h
    exact wN_0 ((pk_lEQ (by omega) (by omega)).mp h)
  · intro h
    rw [h]; rfl
/-- a large letter's small one -/
def sml (c : Int32) : Int32 := if nI 65 ≤ c ∧ c ≤ nI 90 then c - nI 65 + nI 97 else c
theorem i2c_n {t : Nat} (h : t < 65536) : ((nI t).toUInt32 % 65536).toInt32 = nI t := by
  rw [pk_char, pk_tn (by omega), Nat.mod_eq_of_lt h]
theorem nar_n {t : Nat} (h : t < 65536) : vp_nar .char (nI t) = nI t := by
  unfold vp_nar; rw [(pk_charN h).1]
set_option maxHeartbeats 4000000 in
set_option maxRecDepth 100000 in
theorem cR_readWords (l : Launch) (nx : Nat) (M : xH) (a : Nat) (sg : Nat → Int32) (wd : Nat → Int64) (cw n q : Nat) (fk fp : Int32) (hT : rAt M a sg wd cw n q fk fp) (tx : Nat → Nat) (hX : sAt sg tx n) (hqn : q ≤ n) (mo : Nat) (hmo : mo ≤ 6) : xC l xcl yR_readWords (xw (Cond.code yR_readWords bR_readWords 5 (some .boolean))) ({ frames := 2, cells := 0, slots := 0, locals := 43 } : Room) [.ref (a), .int (nI (mo))] nx M (rPost (some (.int (bI (wds tx n mo mo 0 q wd).1))) nx M a sg (wds tx n mo mo 0 q wd).2.2.2 (wds tx n mo mo 0 q wd).2.1 n (wds tx n mo mo 0 q wd).2.2.1 (if (wds tx n mo mo 0 q wd).1 then fk else nI 1) (if (wds tx n mo mo 0 q wd).1 then fp else nI (wds tx n mo mo 0 q wd).2.2.1)) := by
  obtain ⟨h0, h1, h2, hcw, hn4, hq4⟩ := id hT
  refine yC (by decide) (Nat.le_of_ble_eq_true rfl) ?_
  intro p e s m args below meth c D F hr hn
  have loop : ∀ (f : Nat) (k q1 : Nat) (w1 : Nat → Int64) (M1 : xH), k + f = mo → q1 ≤ n → rAt M1 a sg w1 k n q1 fk fp → (∀ b, (b < a ∨ a + 2 < b) → M1 b = M b) → wds tx n mo mo 0 q wd = wds tx n mo f k q1 w1 → xW p l e ({ frames := 2, cells := 0, slots := 0, locals := 43 } : Room) s m args below meth c D xcl (x_A M nx) 5 (MQ below (x_Q D xcl (x_A M nx) (rPost (some (.int (bI (wds tx n mo mo 0 q wd).1))) nx M a sg (wds tx n mo mo 0 q wd).2.2.2 (wds tx n mo mo 0 q wd).2.1 n (wds tx n mo mo 0 q wd).2.2.1 (if (wds tx n mo mo 0 q wd).1 then fk else nI 1) (if (wds tx n mo mo 0 q wd).1 then fp else nI (wds tx n mo mo 0 q wd).2.2.1))) args s 0 0 (x_A M nx)) 0 0 (nx) M1 7 [(2, .int (nI (k))), (0, .ref (a)), (1, .int (nI (mo)))] [] := by
    intro f
    induction f with
    | zero =>
      intro k q1 w1 M1 hi hqn1 hR1 hfr hf
      obtain ⟨g0, g1, g2, g3, g4, g5⟩ := id hR1
      have hl8 : lNn tx n q1 ≤ 8 := hrun_k _ _ _ _ _
      have hln : q1 + lNn tx n q1 ≤ n := hrun_n rfl _ _ _ _ (by omega)
      refine x_iload_n F 0 dR_readWords_7 rfl rfl ?_
      refine x_iload_n F 2 dR_readWords_8 rfl rfl ?_
      refine x_icmp_ge F (tgt := 91) dR_readWords_9 (by decide) (fun c1 => ?_) (fun c1 => ?_)
      · skip
        have c1 : mo ≤ k := by
          exact (nI_leI (a := mo) (b := k) (by omega) (by omega)).mp c1
        refine x_iconst F (v := nI (1)) dR_readWords_91 (by decide) ?_
        exact x_zret F hr (by rfl) dR_readWords_92 (by rw [show wds tx n mo mo 0 q wd = (true, k, q1, w1) from hf]; exact ⟨rfl, rfl, ⟨g0, g1, g2, (show k ≤ 6 by omega), (show n ≤ 400 by omega), (show q1 ≤ 400 by omega)⟩, fun b hb => (hfr _ hb).trans (rfl)⟩)
      · skip
        have c1 : k < mo := by
          have z : ¬ (mo ≤ k) := fun zz => c1 ((nI_leI (a := mo) (b := k) (by omega) (by omega)).mpr zz)
          omega
        exact absurd c1 (by omega)
    | succ f ih =>
      intro k q1 w1 M1 hi hqn1 hR1 hfr hf
      obtain ⟨g0, g1, g2, g3, g4, g5⟩ := id hR1
      have hl8 : lNn tx n q1 ≤ 8 := hrun_k _ _ _ _ _
      have hln : q1 + lNn tx n q1 ≤ n := hrun_n rfl _ _ _ _ (by omega)
      refine x_iload_n F 0 dR_readWords_7 rfl rfl ?_
      refine x_iload_n F 2 dR_readWords_8 rfl rfl ?_
      refine x_icmp_ge F (tgt := 91) dR_readWords_9 (by decide) (fun c2 => ?_) (fun c2 => ?_)
      · skip
        have c2 : mo ≤ k := by
          exact (nI_leI (a := mo) (b := k) (by omega) (by omega)).mp c2
        exact absurd c2 (by omega)
      · skip
        have c2 : k < mo := by
          have z : ¬ (mo ≤ k) := fun zz => c2 ((nI_leI (a := mo) (b := k) (by omega) (by omega)).mpr zz)
          omega
        refine x_iload_n F 0 dR_readWords_12 rfl rfl ?_
        refine x_aload_n F 1 dR_readWords_13 rfl rfl ?_
        refine x_get (ci := 3) F 1 (x_in inR) rfl (by decide) (x_m kfR_15) dR_readWords_14 g0 rfl ?_
        refine x_alen F (v := nI (6)) dR_readWords_17 g2 rfl ?_
        refine x_icmp_ge F (tgt := 91) dR_readWords_18 (by decide) (fun c3 => ?_) (fun c3 => ?_)
        · skip
          have c3 : 6 ≤ k := by
            exact (nI_leI (a := 6) (b := k) (by omega) (by omega)).mp c3
          exact absurd c3 (by omega)
        · skip
          have c3 : k < 6 := by
            have z : ¬ (6 ≤ k) := fun zz => c3 ((nI_leI (a := 6) (b := k) (by omega) (by omega)).mpr zz)
            omega
          refine x_aload_n F 1 dR_readWords_21 rfl rfl ?_
          refine yVr (n := 0) (As := []) (ci := 3) F kmR_99 kiR_readWord ksR_readWord knR kcR_readWord (by decide +kernel) dR_readWords_22 (cR_readWord l (nx) M1 (a) sg w1 k n q1 fk fp hR1 tx hX (by omega)) rfl g0 rfl rfl (Nat.le_of_ble_eq_true rfl) ⟨Nat.le_of_ble_eq_true rfl, Nat.le_of_ble_eq_true rfl⟩ ⟨Nat.le_of_ble_eq_true rfl, Nat.le_of_ble_eq_true rfl⟩ (fun r' n' M3 hp => ?_)
          obtain ⟨hr', hn', hR3, hf3⟩ := hp
          rw [hn', hr']
          obtain ⟨g3_0, g3_1, g3_2, g3_3, g3_4, g3_5⟩ := id hR3
          show xW p l e ({ frames := 2, cells := 0, slots := 0, locals := 43 } : Room) s m args below meth c D xcl (x_A M nx) 5 (MQ below (x_Q D xcl (x_A M nx) (rPost (some (.int (bI (wds tx n mo mo 0 q wd).1))) nx M a sg (wds tx n mo mo 0 q wd).2.2.2 (wds tx n mo mo 0 q wd).2.1 n (wds tx n mo mo 0 q wd).2.2.1 (if (wds tx n mo mo 0 q wd).1 then fk else nI 1) (if (wds tx n mo mo 0 q wd).1 then fp else nI (wds tx n mo mo 0 q wd).2.2.1))) args s 0 0 (x_A M nx)) 0 0 (nx) M3 25 [(2, .int (nI (k))), (0, .ref (a)), (1, .int (nI (mo)))] [.long (lN (wN tx (q1) (lNn tx (n) (q1))))]
          refine x_lstore_n F [(3, .long (lN (wN tx (q1) (lNn tx (n) (q1))))), (2, .int (nI (k))), (0, .ref (a)), (1, .int (nI (mo)))] dR_readWords_25 rfl (by decide) rfl ?_
          refine x_lload_n F 0 dR_readWords_26 rfl rfl ?_
          refine x_lconst F (v := 0) dR_readWords_27 (by decide) ?_
          refine x_lcmp F dR_readWords_28 ?_
          refine x_if_ne F (tgt := 42) dR_readWords_29 (by decide) (fun c4 => ?_) (fun c4 => ?_)
          · skip
            have c4 : ¬ lN (wN tx (q1) (lNn tx (n) (q1))) = 0 := fun z => c4 ((lg_cmp_eq (lN (wN tx (q1) (lNn tx (n) (q1)))) (0)).mpr z)
            refine x_aload_n F 2 dR_readWords_42 rfl rfl ?_
            refine x_get (ci := 3) F 1 (x_in inR) rfl (by decide) (x_m kfR_15) dR_readWords_43 g3_0 rfl ?_
            refine x_iload_n F 1 dR_readWords_46 rfl rfl ?_
            refine x_lload_n F 0 dR_readWords_47 rfl rfl ?_
            refine x_last F dR_readWords_48 g3_2 (pk_in (k) (6) (by omega)) ?_
            rw [nI_clamp (show k < 2 ^ 31 by omega)]
            show xW p l e ({ frames := 2, cells := 0, slots := 0, locals := 43 } : Room) s m args below meth c D xcl (x_A M nx) 5 (MQ below (x_Q D xcl (x_A M nx) (rPost (some (.int (bI (wds tx n mo mo 0 q wd).1))) nx M a sg (wds tx n mo mo 0 q wd).2.2.2 (wds tx n mo mo 0 q wd).2.1 n (wds tx n mo mo 0 q wd).2.2.1 (if (wds tx n mo mo 0 q wd).1 then fk else nI 1) (if (wds tx n mo mo 0 q wd).1 then fp else nI (wds tx n mo mo 0 q wd).2.2.1))) args s 0 0 (x_A M nx)) 0 0 (nx) (x_up M3 (a + 2) (.inl (.long, 6, .inr (.inl (vp_updL (w1) (k) (lN (wN tx (q1) (lNn tx (n) (q1))))))))) 49 [(3, .long (lN (wN tx (q1) (lNn tx (n) (q1))))), (2, .int (nI (k))), (0, .ref (a)), (1, .int (nI (mo)))] []
            refine x_aload_n F 2 dR_readWords_49 rfl rfl ?_
            refine x_iload_n F 1 dR_readWords_50 rfl rfl ?_
            refine x_iconst F (v := nI (1)) dR_readWords_51 (by decide) ?_
            refine x_iadd F dR_readWords_52 ?_
            refine xW.toi (nI (k + 1)) (nI_add _ _) ?_
            refine x_put (ci := 3) (ty := .int) F 2 (x_in inR) tR tR_ok nR rfl (by decide) (x_m kfR_19) dR_readWords_53 rfl (by decide +kernel) rfl rfl (x_up_k g3_0 (by omega)) (Nat.le_of_ble_eq_true rfl) ?_
            show xW p l e ({ frames := 2, cells := 0, slots := 0, locals := 43 } : Room) s m args below meth c D xcl (x_A M nx) 5 (MQ below (x_Q D xcl (x_A M nx) (rPost (some (.int (bI (wds tx n mo mo 0 q wd).1))) nx M a sg (wds tx n mo mo 0 q wd).2.2.2 (wds tx n mo mo 0 q wd).2.1 n (wds tx n mo mo 0 q wd).2.2.1 (if (wds tx n mo mo 0 q wd).1 then fk else nI 1) (if (wds tx n mo mo 0 q wd).1 then fp else nI (wds tx n mo mo 0 q wd).2.2.1))) args s 0 0 (x_A M nx)) 0 0 (nx) (x_up (x_up M3 (a + 2) (.inl (.long, 6, .inr (.inl (vp_updL (w1) (k) (lN (wN tx (q1) (lNn tx (n) (q1))))))))) (a) (.inr (3, [.ref (a + 1), .ref (a + 2), .int (nI (k + 1)), .int (nI (n)), .int (nI (q1 + lNn tx n q1)), .int (fk), .int (fp)]))) 56 [(3, .long (lN (wN tx (q1) (lNn tx (n) (q1))))), (2, .int (nI (k))), (0, .ref (a)), (1, .int (nI (mo)))] []
            refine x_aload_n F 2 dR_readWords_56 rfl rfl ?_
            refine yV (n := 0) (As := []) (ci := 3) F kmR_53 kiR_here ksR_here knR kcR_here (by decide +kernel) dR_readWords_57 (cR_here l (nx) (x_up (x_up M3 (a + 2) (.inl (.long, 6, .inr (.inl (vp_updL (w1) (k) (lN (wN tx (q1) (lNn tx (n) (q1))))))))) (a) (.inr (3, [.ref (a + 1), .ref (a + 2), .int (nI (k + 1)), .int (nI (n)), .int (nI (q1 + lNn tx n q1)), .int (fk), .int (fp)]))) (a) sg (vp_updL (w1) (k) (lN (wN tx (q1) (lNn tx (n) (q1))))) (k + 1) n (q1 + lNn tx n q1) fk fp ⟨x_up_s, (x_up_k (x_up_k g3_1 (by omega)) (by omega)), (x_up_k x_up_s (by omega)), by omega, by omega, by omega⟩ tx hX) rfl x_up_s rfl rfl (Nat.le_of_ble_eq_true rfl) ⟨Nat.le_of_ble_eq_true rfl, Nat.le_of_ble_eq_true rfl⟩ ⟨Nat.le_of_ble_eq_true rfl, Nat.le_of_ble_eq_true rfl⟩ ?_
            have hh57 := hx_lt (q := (q1 + lNn tx n q1)) hX
            refine x_bipush F (v := nI (46)) dR_readWords_60 (by decide) ?_
            refine x_icmp_ne F (tgt := 73) dR_readWords_62 (by decide) (fun c5 => ?_) (fun c5 => ?_)
            · skip
              have c5 : hx tx (n) ((q1 + lNn tx n q1)) ≠ 46 := by
                have z : ¬ (hx tx (n) ((q1 + lNn tx n q1)) = 46) := fun zz => c5 ((nI_eq (a := hx tx (n) ((q1 + lNn tx n q1))) (b := 46) (by omega) (by omega)).mpr zz)
                omega
              refine x_iconst F (v := nI (1)) dR_readWords_73 (by decide) ?_
              exact x_zret F hr (by rfl) dR_readWords_74 (by rw [show wds tx n mo mo 0 q wd = (true, k + 1, q1 + lNn tx n q1, vp_updL w1 k (lN (wN tx q1 (lNn tx n q1)))) from by rw [hf, wds_s, if_neg (fun e => c4 ((wN_n0 hX).mpr e)), if_neg (fun z => by have z1 := z.1; have z2 := z.2; omega)]]; exact ⟨rfl, rfl, ⟨x_up_s, (x_up_k (x_up_k g3_1 (by omega)) (by omega)), (x_up_k x_up_s (by omega)), (show k + 1 ≤ 6 by omega), (show n ≤ 400 by omega), (show q1 + lNn tx n q1 ≤ 400 by omega)⟩, fun b hb => (x_up_n (by omega)).trans ((x_up_n (by omega)).trans ((hf3 _ (by omega)).trans ((hfr _ hb).trans (rfl))))⟩)
            · skip
              have c5 : hx tx (n) ((q1 + lNn tx n q1)) = 46 := by
                exact (nI_eq (a := hx tx (n) ((q1 + lNn tx n q1))) (b := 46) (by omega) (by omega)).mp c5
              refine x_aload_n F 2 dR_readWords_65 rfl rfl ?_
              refine x_get (ci := 3) F 2 (x_in inR) rfl (by decide) (x_m kfR_19) dR_readWords_66 x_up_s rfl ?_
              refine x_iload_n F 3 dR_readWords_69 rfl rfl ?_
              refine x_icmp_ne F (tgt := 75) dR_readWords_70 (by decide) (fun c6 => ?_) (fun c6 => ?_)
              · skip
                have c6 : k + 1 ≠ mo := by
                  have z : ¬ (k + 1 = mo) := fun zz => c6 ((nI_eq (a := k + 1) (b := mo) (by omega) (by omega)).mpr zz)
                  omega
                refine x_aload_n F 2 dR_readWords_75 rfl rfl ?_
                refine x_dup F dR_readWords_76 rfl ?_
                refine x_get (ci := 3) F 4 (x_in inR) rfl (by decide) (x_m kfR_26) dR_readWords_77 x_up_s rfl ?_
                refine x_iconst F (v := nI (1)) dR_readWords_80 (by decide) ?_
                refine x_iadd F dR_readWords_81 ?_
                refine xW.toi (nI (q1 + lNn tx n q1 + 1)) (nI_add _ _) ?_
                refine x_put (ci := 3) (ty := .int) F 4 (x_in inR) tR tR_ok nR rfl (by decide) (x_m kfR_26) dR_readWords_82 rfl (by decide +kernel) rfl rfl x_up_s (Nat.le_of_ble_eq_true rfl) ?_
                show xW p l e ({ frames := 2, cells := 0, slots := 0, locals := 43 } : Room) s m args below meth c D xcl (x_A M nx) 5 (MQ below (x_Q D xcl (x_A M nx) (rPost (some (.int (bI (wds tx n mo mo 0 q wd).1))) nx M a sg (wds tx n mo mo 0 q wd).2.2.2 (wds tx n mo mo 0 q wd).2.1 n (wds tx n mo mo 0 q wd).2.2.1 (if (wds tx n mo mo 0 q wd).1 then fk else nI 1) (if (wds tx n mo mo 0 q wd).1 then fp else nI (wds tx n mo mo 0 q wd).2.2.1))) args s 0 0 (x_A M nx)) 0 0 (nx) (x_up (x_up (x_up M3 (a + 2) (.inl (.long, 6, .inr (.inl (vp_updL (w1) (k) (lN (wN tx (q1) (lNn tx (n) (q1))))))))) (a) (.inr (3, [.ref (a + 1), .ref (a + 2), .int (nI (k + 1)), .int (nI (n)), .int (nI (q1 + lNn tx n q1)), .int (fk), .int (fp)]))) (a) (.inr (3, [.ref (a + 1), .ref (a + 2), .int (nI (k + 1)), .int (nI (n)), .int (nI (q1 + lNn tx n q1 + 1)), .int (fk), .int (fp)]))) 85 [(3, .long (lN (wN tx (q1) (lNn tx (n) (q1))))), (2, .int (nI (k))), (0, .ref (a)), (1, .int (nI (mo)))] []
                refine x_iinc F 1 [(2, .int (nI (k + 1))), (3, .long (lN (wN tx (q1) (lNn tx (n) (q1))))), (0, .ref (a)), (1, .int (nI (mo)))] dR_readWords_85 rfl (nI_add (k) 1) (by decide) rfl ?_
                refine x_goto F (tgt := 7) dR_readWords_88 (by decide) ?_
                refine xW.sub [0, 2, 3] rfl ?_
                exact ih (k + 1) _ _ _ (by omega) (by have := (hx_in (K := fun c => decide (c = 46)) rfl (tx := tx) (n := n) (q := q1 + lNn tx n q1) (by simpa using c5)).1; omega) ⟨x_up_s, (x_up_k (x_up_k (x_up_k g3_1 (by omega)) (by omega)) (by omega)), (x_up_k (x_up_k x_up_s (by omega)) (by omega)), by omega, by omega, by have := (hx_in (K := fun c => decide (c = 46)) rfl (tx := tx) (n := n) (q := q1 + lNn tx n q1) (by simpa using c5)).1; omega⟩ (fun b hb => (x_up_n (by omega)).trans ((x_up_n (by omega)).trans ((x_up_n (by omega)).trans ((hf3 _ (by omega)).trans ((hfr _ hb).trans (rfl)))))) (by rw [hf, wds_s, if_neg (fun e => c4 ((wN_n0 hX).mpr e)), if_pos ⟨c5, c6⟩])
              · skip
                have c6 : k + 1 = mo := by
                  exact (nI_eq (a := k + 1) (b := mo) (by omega) (by omega)).mp c6
                refine x_iconst F (v := nI (1)) dR_readWords_73 (by decide) ?_
                exact x_zret F hr (by rfl) dR_readWords_74 (by rw [show wds tx n mo mo 0 q wd = (true, k + 1, q1 + lNn tx n q1, vp_updL w1 k (lN (wN tx q1 (lNn tx n q1)))) from by rw [hf, wds_s, if_neg (fun e => c4 ((wN_n0 hX).mpr e)), if_neg (fun z => by have z1 := z.1; have z2 := z.2; omega)]]; exact ⟨rfl, rfl, ⟨x_up_s, (x_up_k (x_up_k g3_1 (by omega)) (by omega)), (x_up_k x_up_s (by omega)), (show k + 1 ≤ 6 by omega), (show n ≤ 400 by omega), (show q1 + lNn tx n q1 ≤ 400 by omega)⟩, fun b hb => (x_up_n (by omega)).trans ((x_up_n (by omega)).trans ((hf3 _ (by omega)).trans ((hfr _ hb).trans (rfl))))⟩)
          · skip
            have c4 : lN (wN tx (q1) (lNn tx (n) (q1))) = 0 := (lg_cmp_eq (lN (wN tx (q1) (lNn tx (n) (q1)))) (0)).mp c4
            have hL0 : lNn tx n q1 = 0 := (wN_n0 hX).mp c4
            refine x_aload_n F 2 dR_readWords_32 rfl rfl ?_
            refine x_iconst F (v := nI (1)) dR_readWords_33 (by decide) ?_
            refine x_aload_n F 2 dR_readWords_34 rfl rfl ?_
            refine x_get (ci := 3) F 4 (x_in inR) rfl (by decide) (x_m kfR_26) dR_readWords_35 g3_0 rfl ?_
            refine yVr (n := 2) (As := [.int (nI (1)), .int (nI (q1 + lNn tx n q1))]) (ci := 3) F kmR_42 kiR_fail ksR_fail knR kcR_fail (by decide +kernel) dR_readWords_38 (cR_fail l (nx) M3 (a) sg w1 k n (q1 + lNn tx n q1) fk fp hR3 (nI (1)) (nI (q1 + lNn tx n q1))) rfl g3_0 rfl rfl (Nat.le_of_ble_eq_true rfl) ⟨Nat.le_of_ble_eq_true rfl, Nat.le_of_ble_eq_true rfl⟩ ⟨Nat.le_of_ble_eq_true rfl, Nat.le_of_ble_eq_true rfl⟩ (fun r' n' M4 hp => ?_)
            obtain ⟨hr', hn', hR4, hf4⟩ := hp
            rw [hn', hr']
            obtain ⟨g4_0, g4_1, g4_2, g4_3, g4_4, g4_5⟩ := id hR4
            show xW p l e ({ frames := 2, cells := 0, slots := 0, locals := 43 } : Room) s m args below meth c D xcl (x_A M nx) 5 (MQ below (x_Q D xcl (x_A M nx) (rPost (some (.int (bI (wds tx n mo mo 0 q wd).1))) nx M a sg (wds tx n mo mo 0 q wd).2.2.2 (wds tx n mo mo 0 q wd).2.1 n (wds tx n mo mo 0 q wd).2.2.1 (if (wds tx n mo mo 0 q wd).1 then fk else nI 1) (if (wds tx n mo mo 0 q wd).1 then fp else nI (wds tx n mo mo 0 q wd).2.2.1))) args s 0 0 (x_A M nx)) 0 0 (nx) M4 41 [(3, .long (lN (wN tx (q1) (lNn tx (n) (q1))))), (2, .int (nI (k))), (0, .ref (a)), (1, .int (nI (mo)))] [.int (nI (0))]
            exact x_zret F hr (by rfl) dR_readWords_41 (by rw [show wds tx n mo mo 0 q wd = (false, k, q1, w1) from by rw [hf, wds_s, if_pos ((wN_n0 hX).mp c4)]]; exact ⟨rfl, rfl, (by have z := hR4; rw [hL0] at z; exact z), fun b hb => (hf4 _ (by omega)).trans ((hf3 _ (by omega)).trans ((hfr _ hb).trans (rfl)))⟩)
  refine x_aload_n F 0 dR_readWords_0 rfl rfl ?_
  refine x_iconst F (v := nI (0)) dR_readWords_1 (by decide) ?_
  refine x_put (ci := 3) (ty := .int) F 2 (x_in inR) tR tR_ok nR rfl (by decide) (x_m kfR_19) dR_readWords_2 rfl (by decide +kernel) rfl rfl h0 (Nat.le_of_ble_eq_true rfl) ?_
  show xW p l e ({ frames := 2, cells := 0, slots := 0, locals := 43 } : Room) s m args below meth c D xcl (x_A M nx) 5 (MQ below (x_Q D xcl (x_A M nx) (rPost (some (.int (bI (wds tx n mo mo 0 q wd).1))) nx M a sg (wds tx n mo mo 0 q wd).2.2.2 (wds tx n mo mo 0 q wd).2.1 n (wds tx n mo mo 0 q wd).2.2.1 (if (wds tx n mo mo 0 q wd).1 then fk else nI 1) (if (wds tx n mo mo 0 q wd).1 then fp else nI (wds tx n mo mo 0 q wd).2.2.1))) args s 0 0 (x_A M nx)) 0 0 (nx) (x_up M (a) (.inr (3, [.ref (a + 1), .ref (a + 2), .int (nI (0)), .int (nI (n)), .int (nI (q)), .int (fk), .int (fp)]))) 5 [(0, .ref (a)), (1, .int (nI (mo)))] []
  refine x_iconst F (v := nI (0)) dR_readWords_5 (by decide) ?_
  refine x_istore_n F [(2, .int (nI (0))), (0, .ref (a)), (1, .int (nI (mo)))] dR_readWords_6 rfl (by decide) rfl ?_
  exact loop mo 0 q wd _ (by omega) hqn ⟨x_up_s, (x_up_k h1 (by omega)), (x_up_k h2 (by omega)), by omega, by omega, by omega⟩ (fun b hb => (x_up_n (by omega)).trans (rfl)) rfl
set_option maxHeartbeats 4000000 in
set_option maxRecDepth 100000 in
theorem cR_takeT (l : Launch) (nx : Nat) (M : xH) (a : Nat) (sg : Nat → Int32) (wd : Nat → Int64) (cw n q : Nat) (fk fp : Int32) (hT : rAt M a sg wd cw n q fk fp) (i : Int32) (t : Nat) (ht : t < 128) (hs : sml i = nI t) (hg : sgn (nI t) = true) (hn : n < 400) : xC l xcl yR_take (xw (Cond.code yR_take bR_take 3 (some .boolean))) ({ frames := 2, cells := 0, slots := 0, locals := 40 } : Room) [.ref (a), .int (i)] nx M (rPost (some (.int (nI 1))) nx M a (upd sg n (nI t)) wd cw (n + 1) q fk fp) := by
  obtain ⟨h0, h1, h2, hcw, hn4, hq4⟩ := id hT
  refine yC (by decide) (Nat.le_of_ble_eq_true rfl) ?_
  intro p e s m args below meth c D F hr hn
  refine x_iload_n F 1 dR_take_0 rfl rfl ?_
  refine x_bipush F (v := nI (65)) dR_take_1 (by decide) ?_
  refine x_icmp_lt F (tgt := 22) dR_take_3 (by decide) (fun c1 => ?_) (fun c1 => ?_)
  · skip
    refine x_iload_n F 1 dR_take_22 rfl rfl ?_
    refine xW.toi (nI (t)) ((show _ = sml i from by rw [sml, if_neg (fun z => absurd z.1 (Int32.not_le.mpr c1))]).trans hs) ?_
    refine x_istore_n F [(2, .int (nI (t))), (0, .ref (a)), (1, .int (i))] dR_take_23 rfl (by decide) rfl ?_
    refine x_iload_n F 0 dR_take_24 rfl rfl ?_
    refine yS (n := 1) (As := [.int (nI (t))]) F kmR_35 ktR_isSign knR kcR_isSign (by decide +kernel) dR_take_25 (cR_isSign l (nx) M (nI (t))) rfl rfl (Nat.le_of_ble_eq_true rfl) ⟨Nat.le_of_ble_eq_true rfl, Nat.le_of_ble_eq_true rfl⟩ ⟨Nat.le_of_ble_eq_true rfl, Nat.le_of_ble_eq_true rfl⟩ ?_
    refine x_if_eq F (tgt := 43) dR_take_28 (by decide) (fun c2 => ?_) (fun c2 => ?_)
    · skip
      have c2 : (sgn (nI (t))) = false := bI_0 c2
      rw [hg] at c2; cases c2
    · skip
      have c2 : (sgn (nI (t))) = true := bI_1 c2
      refine x_aload_n F 1 dR_take_31 rfl rfl ?_
      refine x_get (ci := 3) F 3 (x_in inR) rfl (by decide) (x_m kfR_23) dR_take_32 h0 rfl ?_
      refine x_aload_n F 1 dR_take_35 rfl rfl ?_
      refine x_get (ci := 3) F 0 (x_in inR) rfl (by decide) (x_m kfR_9) dR_take_36 h0 rfl ?_
      refine x_alen F (v := nI (400)) dR_take_39 h1 rfl ?_
      refine x_icmp_lt F (tgt := 45) dR_take_40 (by decide) (fun c3 => ?_) (fun c3 => ?_)
      · skip
        have c3 : n < 400 := by
          exact (nI_ltI (a := n) (b := 400) (by omega) (by omega)).mp c3
        refine x_aload_n F 1 dR_take_45 rfl rfl ?_
        refine x_get (ci := 3) F 0 (x_in inR) rfl (by decide) (x_m kfR_9) dR_take_46 h0 rfl ?_
        refine x_aload_n F 1 dR_take_49 rfl rfl ?_
        refine x_get (ci := 3) F 3 (x_in inR) rfl (by decide) (x_m kfR_23) dR_take_50 h0 rfl ?_
        refine x_iload_n F 0 dR_take_53 rfl rfl ?_
        refine x_i2c F dR_take_54 ?_
        refine xW.toi (nI (t)) (i2c_n (by omega)) ?_
        refine x_cast F dR_take_55 h1 (pk_in (n) (400) (by omega)) ?_
        rw [nI_clamp (show n < 2 ^ 31 by omega)]
        show xW p l e ({ frames := 2, cells := 0, slots := 0, locals := 40 } : Room) s m args below meth c D xcl (x_A M nx) 3 (MQ below (x_Q D xcl (x_A M nx) (rPost (some (.int (nI 1))) nx M a (upd sg n (nI t)) wd cw (n + 1) q fk fp)) args s 0 0 (x_A M nx)) 0 0 (nx) (x_up M (a + 1) (.inl (.char, 400, .inl (upd (sg) (n) (vp_nar .char (nI (t))))))) 56 [(2, .int (nI (t))), (0, .ref (a)), (1, .int (i))] []
        rw [nar_n (show t < 65536 by omega)]
        refine x_aload_n F 1 dR_take_56 rfl rfl ?_
        refine x_dup F dR_take_57 rfl ?_
        refine x_get (ci := 3) F 3 (x_in inR) rfl (by decide) (x_m kfR_23) dR_take_58 (x_up_k h0 (by omega)) rfl ?_
        refine x_iconst F (v := nI (1)) dR_take_61 (by decide) ?_
        refine x_iadd F dR_take_62 ?_
        refine xW.toi (nI (n + 1)) (nI_add _ _) ?_
        refine x_put (ci := 3) (ty := .int) F 3 (x_in inR) tR tR_ok nR rfl (by decide) (x_m kfR_23) dR_take_63 rfl (by decide +kernel) rfl rfl (x_up_k h0 (by omega)) (Nat.le_of_ble_eq_true rfl) ?_
        show xW p l e ({ frames := 2, cells := 0, slots := 0, locals := 40 } : Room) s m args below meth c D xcl (x_A M nx) 3 (MQ below (x_Q D xcl (x_A M nx) (rPost (some (.int (nI 1))) nx M a (upd sg n (nI t)) wd cw (n + 1) q fk fp)) args s 0 0 (x_A M nx)) 0 0 (nx) (x_up (x_up M (a + 1) (.inl (.char, 400, .inl (upd (sg) (n) (nI (t)))))) (a) (.inr (3, [.ref (a + 1), .ref (a + 2), .int (nI (cw)), .int (nI (n + 1)), .int (nI (q)), .int (fk), .int (fp)]))) 66 [(2, .int (nI (t))), (0, .ref (a)), (1, .int (i))] []
        refine x_iconst F (v := nI (1)) dR_take_66 (by decide) ?_
        exact x_zret F hr (by rfl) dR_take_67 (⟨rfl, rfl, ⟨x_up_s, (x_up_k x_up_s (by omega)), (x_up_k (x_up_k h2 (by omega)) (by omega)), by omega, by omega, by omega⟩, fun b hb => (x_up_n (by omega)).trans ((x_up_n (by omega)).trans (rfl))⟩)
      · skip
        have c3 : 400 ≤ n := by
          have z : ¬ (n < 400) := fun zz => c3 ((nI_ltI (a := n) (b := 400) (by omega) (by omega)).mpr zz)
          omega
        exact absurd c3 (by omega)
  · skip
    refine x_iload_n F 1 dR_take_6 rfl rfl ?_
    refine x_bipush F (v := nI (90)) dR_take_7 (by decide) ?_
    refine x_icmp_gt F (tgt := 22) dR_take_9 (by decide) (fun c4 => ?_) (fun c4 => ?_)
    · skip
      refine x_iload_n F 1 dR_take_22 rfl rfl ?_
      refine xW.toi (nI (t)) ((show _ = sml i from by rw [sml, if_neg (fun z => absurd z.2 (Int32.not_le.mpr c4))]).trans hs) ?_
      refine x_istore_n F [(2, .int (nI (t))), (0, .ref (a)), (1, .int (i))] dR_take_23 rfl (by decide) rfl ?_
      refine x_iload_n F 0 dR_take_24 rfl rfl ?_
      refine yS (n := 1) (As := [.int (nI (t))]) F kmR_35 ktR_isSign knR kcR_isSign (by decide +kernel) dR_take_25 (cR_isSign l (nx) M (nI (t))) rfl rfl (Nat.le_of_ble_eq_true rfl) ⟨Nat.le_of_ble_eq_true rfl, Nat.le_of_ble_eq_true rfl⟩ ⟨Nat.le_of_ble_eq_true rfl, Nat.le_of_ble_eq_true rfl⟩ ?_
      refine x_if_eq F (tgt := 43) dR_take_28 (by decide) (fun c5 => ?_) (fun c5 => ?_)
      · skip
        have c5 : (sgn (nI (t))) = false := bI_0 c5
        rw [hg] at c5; cases c5
      · skip
        have c5 : (sgn (nI (t))) = true := bI_1 c5
        refine x_aload_n F 1 dR_take_31 rfl rfl ?_
        refine x_get (ci := 3) F 3 (x_in inR) rfl (by decide) (x_m kfR_23) dR_take_32 h0 rfl ?_
        refine x_aload_n F 1 dR_take_35 rfl rfl ?_
        refine x_get (ci := 3) F 0 (x_in inR) rfl (by decide) (x_m kfR_9) dR_take_36 h0 rfl ?_
        refine x_alen F (v := nI (400)) dR_take_39 h1 rfl ?_
        refine x_icmp_lt F (tgt := 45) dR_take_40 (by decide) (fun c6 => ?_) (fun c6 => ?_)
        · skip
          have c6 : n < 400 := by
            exact (nI_ltI (a := n) (b := 400) (by omega) (by omega)).mp c6
          refine x_aload_n F 1 dR_take_45 rfl rfl ?_
          refine x_get (ci := 3) F 0 (x_in inR) rfl (by decide) (x_m kfR_9) dR_take_46 h0 rfl ?_
          refine x_aload_n F 1 dR_take_49 rfl rfl ?_
          refine x_get (ci := 3) F 3 (x_in inR) rfl (by decide) (x_m kfR_23) dR_take_50 h0 rfl ?_
          refine x_iload_n F 0 dR_take_53 rfl rfl ?_
          refine x_i2c F dR_take_54 ?_
          refine xW.toi (nI (t)) (i2c_n (by omega)) ?_
          refine x_cast F dR_take_55 h1 (pk_in (n) (400) (by omega)) ?_
          rw [nI_clamp (show n < 2 ^ 31 by omega)]
          show xW p l e ({ frames := 2, cells := 0, slots := 0, locals := 40 } : Room) s m args below meth c D xcl (x_A M nx) 3 (MQ below (x_Q D xcl (x_A M nx) (rPost (some (.int (nI 1))) nx M a (upd sg n (nI t)) wd cw (n + 1) q fk fp)) args s 0 0 (x_A M nx)) 0 0 (nx) (x_up M (a + 1) (.inl (.char, 400, .inl (upd (sg) (n) (vp_nar .char (nI (t))))))) 56 [(2, .int (nI (t))), (0, .ref (a)), (1, .int (i))] []
          rw [nar_n (show t < 65536 by omega)]
          refine x_aload_n F 1 dR_take_56 rfl rfl ?_
          refine x_dup F dR_take_57 rfl ?_
          refine x_get (ci := 3) F 3 (x_in inR) rfl (by decide) (x_m kfR_23) dR_take_58 (x_up_k h0 (by omega)) rfl ?_
          refine x_iconst F (v := nI (1)) dR_take_61 (by decide) ?_
          refine x_iadd F dR_take_62 ?_
          refine xW.toi (nI (n + 1)) (nI_add _ _) ?_
          refine x_put (ci := 3) (ty := .int) F 3 (x_in inR) tR tR_ok nR rfl (by decide) (x_m kfR_23) dR_take_63 rfl (by decide +kernel) rfl rfl (x_up_k h0 (by omega)) (Nat.le_of_ble_eq_true rfl) ?_
          show xW p l e ({ frames := 2, cells := 0, slots := 0, locals := 40 } : Room) s m args below meth c D xcl (x_A M nx) 3 (MQ below (x_Q D xcl (x_A M nx) (rPost (some (.int (nI 1))) nx M a (upd sg n (nI t)) wd cw (n + 1) q fk fp)) args s 0 0 (x_A M nx)) 0 0 (nx) (x_up (x_up M (a + 1) (.inl (.char, 400, .inl (upd (sg) (n) (nI (t)))))) (a) (.inr (3, [.ref (a + 1), .ref (a + 2), .int (nI (cw)), .int (nI (n + 1)), .int (nI (q)), .int (fk), .int (fp)]))) 66 [(2, .int (nI (t))), (0, .ref (a)), (1, .int (i))] []
          refine x_iconst F (v := nI (1)) dR_take_66 (by decide) ?_
          exact x_zret F hr (by rfl) dR_take_67 (⟨rfl, rfl, ⟨x_up_s, (x_up_k x_up_s (by omega)), (x_up_k (x_up_k h2 (by omega)) (by omega)), by omega, by omega, by omega⟩, fun b hb => (x_up_n (by omega)).trans ((x_up_n (by omega)).trans (rfl))⟩)
        · skip
          have c6 : 400 ≤ n := by
            have z : ¬ (n < 400) := fun zz => c6 ((nI_ltI (a := n) (b := 400) (by omega) (by omega)).mpr zz)
            omega
          exact absurd c6 (by omega)
    · skip
      refine x_iload_n F 1 dR_take_12 rfl rfl ?_
      refine x_bipush F (v := nI (65)) dR_take_13 (by decide) ?_
      refine x_isub F dR_take_15 ?_
      refine x_bipush F (v := nI (97)) dR_take_16 (by decide) ?_
      refine x_iadd F dR_take_18 ?_
      refine x_goto F (tgt := 23) dR_take_19 (by decide) ?_
      refine xW.toi (nI (t)) ((show _ = sml i from by rw [sml, if_pos ⟨Int32.not_lt.mp c1, Int32.not_lt.mp c4⟩]).trans hs) ?_
      refine x_istore_n F [(2, .int (nI (t))), (0, .ref (a)), (1, .int (i))] dR_take_23 rfl (by decide) rfl ?_
      refine x_iload_n F 0 dR_take_24 rfl rfl ?_
      refine yS (n := 1) (As := [.int (nI (t))]) F kmR_35 ktR_isSign knR kcR_isSign (by decide +kernel) dR_take_25 (cR_isSign l (nx) M (nI (t))) rfl rfl (Nat.le_of_ble_eq_true rfl) ⟨Nat.le_of_ble_eq_true rfl, Nat.le_of_ble_eq_true rfl⟩ ⟨Nat.le_of_ble_eq_true rfl, Nat.le_of_ble_eq_true rfl⟩ ?_
      refine x_if_eq F (tgt := 43) dR_take_28 (by decide) (fun c7 => ?_) (fun c7 => ?_)
      · skip
        have c7 : (sgn (nI (t))) = false := bI_0 c7
        rw [hg] at c7; cases c7
      · skip
        have c7 : (sgn (nI (t))) = true := bI_1 c7
        refine x_aload_n F 1 dR_take_31 rfl rfl ?_
        refine x_get (ci := 3) F 3 (x_in inR) rfl (by decide) (x_m kfR_23) dR_take_32 h0 rfl ?_
        refine x_aload_n F 1 dR_take_35 rfl rfl ?_
        refine x_get (ci := 3) F 0 (x_in inR) rfl (by decide) (x_m kfR_9) dR_take_36 h0 rfl ?_
        refine x_alen F (v := nI (400)) dR_take_39 h1 rfl ?_
        refine x_icmp_lt F (tgt := 45) dR_take_40 (by decide) (fun c8 => ?_) (fun c8 => ?_)
        · skip
          have c8 : n < 400 := by
            exact (nI_ltI (a := n) (b := 400) (by omega) (by omega)).mp c8
          refine x_aload_n F 1 dR_take_45 rfl rfl ?_
          refine x_get (ci := 3) F 0 (x_in inR) rfl (by decide) (x_m kfR_9) dR_take_46 h0 rfl ?_
          refine x_aload_n F 1 dR_take_49 rfl rfl ?_
          refine x_get (ci := 3) F 3 (x_in inR) rfl (by decide) (x_m kfR_23) dR_take_50 h0 rfl ?_
          refine x_iload_n F 0 dR_take_53 rfl rfl ?_
          refine x_i2c F dR_take_54 ?_
          refine xW.toi (nI (t)) (i2c_n (by omega)) ?_
          refine x_cast F dR_take_55 h1 (pk_in (n) (400) (by omega)) ?_
          rw [nI_clamp (show n < 2 ^ 31 by omega)]
          show xW p l e ({ frames := 2, cells := 0, slots := 0, locals := 40 } : Room) s m args below meth c D xcl (x_A M nx) 3 (MQ below (x_Q D xcl (x_A M nx) (rPost (some (.int (nI 1))) nx M a (upd sg n (nI t)) wd cw (n + 1) q fk fp)) args s 0 0 (x_A M nx)) 0 0 (nx) (x_up M (a + 1) (.inl (.char, 400, .inl (upd (sg) (n) (vp_nar .char (nI (t))))))) 56 [(2, .int (nI (t))), (0, .ref (a)), (1, .int (i))] []
          rw [nar_n (show t < 65536 by omega)]
          refine x_aload_n F 1 dR_take_56 rfl rfl ?_
          refine x_dup F dR_take_57 rfl ?_
          refine x_get (ci := 3) F 3 (x_in inR) rfl (by decide) (x_m kfR_23) dR_take_58 (x_up_k h0 (by omega)) rfl ?_
          refine x_iconst F (v := nI (1)) dR_take_61 (by decide) ?_
          refine x_iadd F dR_take_62 ?_
          refine xW.toi (nI (n + 1)) (nI_add _ _) ?_
          refine x_put (ci := 3) (ty := .int) F 3 (x_in inR) tR tR_ok nR rfl (by decide) (x_m kfR_23) dR_take_63 rfl (by decide +kernel) rfl rfl (x_up_k h0 (by omega)) (Nat.le_of_ble_eq_true rfl) ?_
          show xW p l e ({ frames := 2, cells := 0, slots := 0, locals := 40 } : Room) s m args below meth c D xcl (x_A M nx) 3 (MQ below (x_Q D xcl (x_A M nx) (rPost (some (.int (nI 1))) nx M a (upd sg n (nI t)) wd cw (n + 1) q fk fp)) args s 0 0 (x_A M nx)) 0 0 (nx) (x_up (x_up M (a + 1) (.inl (.char, 400, .inl (upd (sg) (n) (nI (t)))))) (a) (.inr (3, [.ref (a + 1), .ref (a + 2), .int (nI (cw)), .int (nI (n + 1)), .int (nI (q)), .int (fk), .int (fp)]))) 66 [(2, .int (nI (t))), (0, .ref (a)), (1, .int (i))] []
          refine x_iconst F (v := nI (1)) dR_take_66 (by decide) ?_
          exact x_zret F hr (by rfl) dR_take_67 (⟨rfl, rfl, ⟨x_up_s, (x_up_k x_up_s (by omega)), (x_up_k (x_up_k h2 (by omega)) (by omega)), by omega, by omega, by omega⟩, fun b hb => (x_up_n (by omega)).trans ((x_up_n (by omega)).trans (rfl))⟩)
        · skip
          have c8 : 400 ≤ n := by
            have z : ¬ (n < 400) := fun zz => c8 ((nI_ltI (a := n) (b := 400) (by omega) (by omega)).mpr zz)
            omega
          exact absurd c8 (by omega)
set_option maxHeartbeats 4000000 in
set_option maxRecDepth 100000 in
theorem cR_takeF (l : Launch) (nx : Nat) (M : xH) (a : Nat) (sg : Nat → Int32) (wd : Nat → Int64) (cw n q : Nat) (fk fp : Int32) (hT : rAt M a sg wd cw n q fk fp) (i : Int32) (hg : sgn (sml i) = true → n = 400) : xC l xcl yR_take (xw (Cond.code yR_take bR_take 3 (some .boolean))) ({ frames := 2, cells := 0, slots := 0, locals := 40 } : Room) [.ref (a), .int (i)] nx M (x_is (some (.int (nI (0)))) nx M) := by
  obtain ⟨h0, h1, h2, hcw, hn4, hq4⟩ := id hT
  refine yC (by decide) (Nat.le_of_ble_eq_true rfl) ?_
  intro p e s m args below meth c D F hr hn
  refine x_iload_n F 1 dR_take_0 rfl rfl ?_
  refine x_bipush F (v := nI (65)) dR_take_1 (by decide) ?_
  refine x_icmp_lt F (tgt := 22) dR_take_3 (by decide) (fun c1 => ?_) (fun c1 => ?_)
  · skip
    refine x_iload_n F 1 dR_take_22 rfl rfl ?_
    refine xW.toi (sml i) (show _ = sml i from by rw [sml, if_neg (fun z => absurd z.1 (Int32.not_le.mpr c1))]) ?_
    refine x_istore_n F [(2, .int (sml i)), (0, .ref (a)), (1, .int (i))] dR_take_23 rfl (by decide) rfl ?_
    refine x_iload_n F 0 dR_take_24 rfl rfl ?_
    refine yS (n := 1) (As := [.int (sml i)]) F kmR_35 ktR_isSign knR kcR_isSign (by decide +kernel) dR_take_25 (cR_isSign l (nx) M (sml i)) rfl rfl (Nat.le_of_ble_eq_true rfl) ⟨Nat.le_of_ble_eq_true rfl, Nat.le_of_ble_eq_true rfl⟩ ⟨Nat.le_of_ble_eq_true rfl, Nat.le_of_ble_eq_true rfl⟩ ?_
    refine x_if_eq F (tgt := 43) dR_take_28 (by decide) (fun c2 => ?_) (fun c2 => ?_)
    · skip
      have c2 : (sgn (sml i)) = false := bI_0 c2
      refine x_iconst F (v := nI (0)) dR_take_43 (by decide) ?_
      exact x_zret F hr (by rfl) dR_take_44 (x_is_i _ _ _)
    · skip
      have c2 : (sgn (sml i)) = true := bI_1 c2
      refine x_aload_n F 1 dR_take_31 rfl rfl ?_
      refine x_get (ci := 3) F 3 (x_in inR) rfl (by decide) (x_m kfR_23) dR_take_32 h0 rfl ?_
      refine x_aload_n F 1 dR_take_35 rfl rfl ?_
      refine x_get (ci := 3) F 0 (x_in inR) rfl (by decide) (x_m kfR_9) dR_take_36 h0 rfl ?_
      refine x_alen F (v := nI (400)) dR_take_39 h1 rfl ?_
      refine x_icmp_lt F (tgt := 45) dR_take_40 (by decide) (fun c3 => ?_) (fun c3 => ?_)
      · skip
        have c3 : n < 400 := by
          exact (nI_ltI (a := n) (b := 400) (by omega) (by omega)).mp c3
        exact absurd (hg c2) (by omega)
      · skip
        have c3 : 400 ≤ n := by
          have z : ¬ (n < 400) := fun zz => c3 ((nI_ltI (a := n) (b := 400) (by omega) (by omega)).mpr zz)
          omega
        refine x_iconst F (v := nI (0)) dR_take_43 (by decide) ?_
        exact x_zret F hr (by rfl) dR_take_44 (x_is_i _ _ _)
  · skip
    refine x_iload_n F 1 dR_take_6 rfl rfl ?_
    refine x_bipush F (v := nI (90)) dR_take_7 (by decide) ?_
    refine x_icmp_gt F (tgt := 22) dR_take_9 (by decide) (fun c4 => ?_) (fun c4 => ?_)
    · skip
      refine x_iload_n F 1 dR_take_22 rfl rfl ?_
      refine xW.toi (sml i) (show _ = sml i from by rw [sml, if_neg (fun z => absurd z.2 (Int32.not_le.mpr c4))]) ?_
      refine x_istore_n F [(2, .int (sml i)), (0, .ref (a)), (1, .int (i))] dR_take_23 rfl (by decide) rfl ?_
      refine x_iload_n F 0 dR_take_24 rfl rfl ?_
      refine yS (n := 1) (As := [.int (sml i)]) F kmR_35 ktR_isSign knR kcR_isSign (by decide +kernel) dR_take_25 (cR_isSign l (nx) M (sml i)) rfl rfl (Nat.le_of_ble_eq_true rfl) ⟨Nat.le_of_ble_eq_true rfl, Nat.le_of_ble_eq_true rfl⟩ ⟨Nat.le_of_ble_eq_true rfl, Nat.le_of_ble_eq_true rfl⟩ ?_
      refine x_if_eq F (tgt := 43) dR_take_28 (by decide) (fun c5 => ?_) (fun c5 => ?_)
      · skip
        have c5 : (sgn (sml i)) = false := bI_0 c5
        refine x_iconst F (v := nI (0)) dR_take_43 (by decide) ?_
        exact x_zret F hr (by rfl) dR_take_44 (x_is_i _ _ _)
      · skip
        have c5 : (sgn (sml i)) = true := bI_1 c5
        refine x_aload_n F 1 dR_take_31 rfl rfl ?_
        refine x_get (ci := 3) F 3 (x_in inR) rfl (by decide) (x_m kfR_23) dR_take_32 h0 rfl ?_
        refine x_aload_n F 1 dR_take_35 rfl rfl ?_
        refine x_get (ci := 3) F 0 (x_in inR) rfl (by decide) (x_m kfR_9) dR_take_36 h0 rfl ?_
        refine x_alen F (v := nI (400)) dR_take_39 h1 rfl ?_
        refine x_icmp_lt F (tgt := 45) dR_take_40 (by decide) (fun c6 => ?_) (fun c6 => ?_)
        · skip
          have c6 : n < 400 := by
            exact (nI_ltI (a := n) (b := 400) (by omega) (by omega)).mp c6
          exact absurd (hg c5) (by omega)
        · skip
          have c6 : 400 ≤ n := by
            have z : ¬ (n < 400) := fun zz => c6 ((nI_ltI (a := n) (b := 400) (by omega) (by omega)).mpr zz)
            omega
          refine x_iconst F (v := nI (0)) dR_take_43 (by decide) ?_
          exact x_zret F hr (by rfl) dR_take_44 (x_is_i _ _ _)
    · skip
      refine x_iload_n F 1 dR_take_12 rfl rfl ?_
      refine x_bipush F (v := nI (65)) dR_take_13 (by decide) ?_
      refine x_isub F dR_take_15 ?_
      refine x_bipush F (v := nI (97)) dR_take_16 (by decide) ?_
      refine x_iadd F dR_take_18 ?_
      refine x_goto F (tgt := 23) dR_take_19 (by decide) ?_
      refine xW.toi (sml i) (show _ = sml i from by rw [sml, if_pos ⟨Int32.not_lt.mp c1, Int32.not_lt.mp c4⟩]) ?_
      refine x_istore_n F [(2, .int (sml i)), (0, .ref (a)), (1, .int (i))] dR_take_23 rfl (by decide) rfl ?_
      refine x_iload_n F 0 dR_take_24 rfl rfl ?_
      refine yS (n := 1) (As := [.int (sml i)]) F kmR_35 ktR_isSign knR kcR_isSign (by decide +kernel) dR_take_25 (cR_isSign l (nx) M (sml i)) rfl rfl (Nat.le_of_ble_eq_true rfl) ⟨Nat.le_of_ble_eq_true rfl, Nat.le_of_ble_eq_true rfl⟩ ⟨Nat.le_of_ble_eq_true rfl, Nat.le_of_ble_eq_true rfl⟩ ?_
      refine x_if_eq F (tgt := 43) dR_take_28 (by decide) (fun c7 => ?_) (fun c7 => ?_)
      · skip
        have c7 : (sgn (sml i)) = false := bI_0 c7
        refine x_iconst F (v := nI (0)) dR_take_43 (by decide) ?_
        exact x_zret F hr (by rfl) dR_take_44 (x_is_i _ _ _)
      · skip
        have c7 : (sgn (sml i)) = true := bI_1 c7
        refine x_aload_n F 1 dR_take_31 rfl rfl ?_
        refine x_get (ci := 3) F 3 (x_in inR) rfl (by decide) (x_m kfR_23) dR_take_32 h0 rfl ?_
        refine x_aload_n F 1 dR_take_35 rfl rfl ?_
        refine x_get (ci := 3) F 0 (x_in inR) rfl (by decide) (x_m kfR_9) dR_take_36 h0 rfl ?_
        refine x_alen F (v := nI (400)) dR_take_39 h1 rfl ?_
        refine x_icmp_lt F (tgt := 45) dR_take_40 (by decide) (fun c8 => ?_) (fun c8 => ?_)
        · skip
          have c8 : n < 400 := by
            exact (nI_ltI (a := n) (b := 400) (by omega) (by omega)).mp c8
          exact absurd (hg c7) (by omega)
        · skip
          have c8 : 400 ≤ n := by
            have z : ¬ (n < 400) := fun zz => c8 ((nI_ltI (a := n) (b := 400) (by omega) (by omega)).mpr zz)
            omega
          refine x_iconst F (v := nI (0)) dR_take_43 (by decide) ?_
          exact x_zret F hr (by rfl) dR_take_44 (x_is_i _ _ _)
end
section
def tPost (v : Option Value) (nx : Nat) (M : xH) (a : Nat) (cd : Nat → Int64) (ds ps ch wc : Nat → Int32) (wd : Nat → Int64) (n cp : Nat) : xO → Nat → xH → Prop := fun r n' M' => r = v ∧ n' = nx ∧ tAt M' a cd ds ps ch wc wd n cp ∧ ∀ b, (b < a ∨ a + 6 < b) → M' b = M b
/-- k words laid from a base on -/
def wcp (w1 : Nat → Int64) (base : Nat) : Nat → (Nat → Int64) → (Nat → Int64)
  | 0, wd => wd
  | k + 1, wd => vp_updL (wcp w1 base k wd) (base + k) (w1 k)
/-- the row ahead which a next one with so many dashes is below -/
def par (ds : Nat → Int32) (dd : Int32) (n : Nat) : Option Nat := la (fun i => decide (ds i = dd - nI 1)) n
def chi (ch : Nat → Int32) (n : Nat) (r : Option Nat) : Nat → Int32 := match r with
  | none => upd ch n (nI 0)
  | some j => upd (upd ch n (nI 0)) j ((upd ch n (nI 0)) j + nI 1)
def chp (cp : Nat) (r : Option Nat) : Nat := match r with
  | none => cp + 1
  | some _ => cp
set_option maxHeartbeats 4000000 in
set_option maxRecDepth 100000 in
theorem cT_clear (l : Launch) (nx : Nat) (M : xH) (a : Nat) (cd : Nat → Int64) (ds ps ch wc : Nat → Int32) (wd : Nat → Int64) (n cp : Nat) (hT : tAt M a cd ds ps ch wc wd n cp) : xC l xcl yT_clear (xw (Cond.code yT_clear bT_clear 1 none)) ({ frames := 0, cells := 0, slots := 0, locals := 0 } : Room) [.ref (a)] nx M (tPost none nx M a cd ds ps ch wc wd 0 0) := by
  obtain ⟨h0, h1, h2, h3, h4, h5, h6, hz, hcp⟩ := id hT
  refine yC (by decide) (Nat.le_of_ble_eq_true rfl) ?_
  intro p e s m args below meth c D F hr hn
  refine x_aload_n F 0 dT_clear_0 rfl rfl ?_
  refine x_iconst F (v := nI (0)) dT_clear_1 (by decide) ?_
  refine x_put (ci := 4) (ty := .int) F 6 (x_in inT) tT tT_ok nT rfl (by decide) (x_m kfT_31) dT_clear_2 rfl (by decide +kernel) rfl rfl h0 (Nat.le_of_ble_eq_true rfl) ?_
  show xW p l e ({ frames := 0, cells := 0, slots := 0, locals := 0 } : Room) s m args below meth c D xcl (x_A M nx) 1 (MQ below (x_Q D xcl (x_A M nx) (tPost none nx M a cd ds ps ch wc wd 0 0)) args s 0 0 (x_A M nx)) 0 0 (nx) (x_up M (a) (.inr (4, [.ref (a + 1), .ref (a + 2), .ref (a + 3), .ref (a + 4), .ref (a + 5), .ref (a + 6), .int (nI (0)), .int (nI (cp))]))) 5 [(0, .ref (a))] []
  refine x_aload_n F 0 dT_clear_5 rfl rfl ?_
  refine x_iconst F (v := nI (0)) dT_clear_6 (by decide) ?_
  refine x_put (ci := 4) (ty := .int) F 7 (x_in inT) tT tT_ok nT rfl (by decide) (x_m kfT_35) dT_clear_7 rfl (by decide +kernel) rfl rfl x_up_s (Nat.le_of_ble_eq_true rfl) ?_
  show xW p l e ({ frames := 0, cells := 0, slots := 0, locals := 0 } : Room) s m args below meth c D xcl (x_A M nx) 1 (MQ below (x_Q D xcl (x_A M nx) (tPost none nx M a cd ds ps ch wc wd 0 0)) args s 0 0 (x_A M nx)) 0 0 (nx) (x_up (x_up M (a) (.inr (4, [.ref (a + 1), .ref (a + 2), .ref (a + 3), .ref (a + 4), .ref (a + 5), .ref (a + 6), .int (nI (0)), .int (nI (cp))]))) (a) (.inr (4, [.ref (a + 1), .ref (a + 2), .ref (a + 3), .ref (a + 4), .ref (a + 5), .ref (a + 6), .int (nI (0)), .int (nI (0))]))) 10 [(0, .ref (a))] []
  exact x_vret F hr dT_clear_10 (⟨rfl, rfl, ⟨x_up_s, (x_up_k (x_up_k h1 (by omega)) (by omega)), (x_up_k (x_up_k h2 (by omega)) (by omega)), (x_up_k (x_up_k h3 (by omega)) (by omega)), (x_up_k (x_up_k h4 (by omega)) (by omega)), (x_up_k (x_up_k h5 (by omega)) (by omega)), (x_up_k (x_up_k h6 (by omega)) (by omega)), by omega, by omega⟩, fun b hb => (x_up_n (by omega)).trans ((x_up_n (by omega)).trans (rfl))⟩)
set_option maxHeartbeats 4000000 in
set_option maxRecDepth 100000 in
theorem cT_add (l : Launch) (nx : Nat) (M : xH) (a : Nat) (cd : Nat → Int64) (ds ps ch wc : Nat → Int32) (wd : Nat → Int64) (n cp : Nat) (hT : tAt M a cd ds ps ch wc wd n cp) (r : Nat) (sg : Nat → Int32) (w1 : Nat → Int64) (cw rl rq : Nat) (fk fp : Int32) (hRd : rAt M r sg w1 cw rl rq fk fp) (hc4 : cw ≤ 4) (hdis : a + 6 < r ∨ r + 2 < a) (hn40 : n < 40) (hcn : cp ≤ n) (co : Int64) (dd : Int32) : xC l xcl yT_add (xw (Cond.code yT_add bT_add 7 none)) ({ frames := 1, cells := 0, slots := 0, locals := 22 } : Room) [.ref (a), .long (co), .int (dd), .ref (r)] nx M (tPost none nx M a (vp_updL cd n co) (upd ds n dd) (upd ps n (oi (par ds dd n))) (chi ch n (par ds dd n)) (upd wc n (nI cw)) (wcp w1 (n * 4) cw wd) (n + 1) (chp cp (par ds dd n))) := by
  obtain ⟨h0, h1, h2, h3, h4, h5, h6, hz, hcp⟩ := id hT
  obtain ⟨q0, q1, q2, q3, q4, q5⟩ := id hRd
  refine yC (by decide) (Nat.le_of_ble_eq_true rfl) ?_
  intro p e s m args below meth c D F hr hn
  have loop : ∀ (f : Nat) (k : Nat) (M1 : xH), k + f = cw → tAt M1 a (vp_updL cd n co) (upd ds n dd) (upd ps n (oi (par ds dd n))) (upd ch n (nI 0)) (upd wc n (nI cw)) (wcp w1 (n * 4) k wd) n cp → (∀ b, (b < a ∨ a + 6 < b) → M1 b = M b) → xW p l e ({ frames := 1, cells := 0, slots := 0, locals := 22 } : Room) s m args below meth c D xcl (x_A M nx) 7 (MQ below (x_Q D xcl (x_A M nx) (tPost none nx M a (vp_updL cd n co) (upd ds n dd) (upd ps n (oi (par ds dd n))) (chi ch n (par ds dd n)) (upd wc n (nI cw)) (wcp w1 (n * 4) cw wd) (n + 1) (chp cp (par ds dd n)))) args s 0 0 (x_A M nx)) 0 0 (nx) M1 77 [(6, .int (nI (k))), (5, .int (oi (par ds dd n))), (0, .ref (a)), (1, .long (co)), (3, .int (dd)), (4, .ref (r))] [] := by
    intro f
    induction f with
    | zero =>
      intro k M1 hi hT1 hfr
      obtain ⟨g0, g1, g2, g3, g4, g5, g6, g7, g8⟩ := id hT1
      have hR1 : rAt M1 r sg w1 cw rl rq fk fp := rAt_fr hRd (fun b _ _ => hfr b (by omega))
      obtain ⟨q0, q1, q2, q3, q4, q5⟩ := id hR1
      refine x_iload F 0 dT_add_77 rfl ?_
      refine x_aload_n F 2 dT_add_79 rfl rfl ?_
      refine x_get (ci := 4) F 4 (x_in inT) rfl (by decide) (x_m kfT_25) dT_add_80 g0 rfl ?_
      refine x_aload_n F 2 dT_add_83 rfl rfl ?_
      refine x_get (ci := 4) F 6 (x_in inT) rfl (by decide) (x_m kfT_31) dT_add_84 g0 rfl ?_
      refine x_iald F dT_add_87 g5 (pk_in (n) (40) (by omega)) ?_
      refine xW.toi (nI (cw)) (by rw [nI_clamp (by omega)]; exact pk_us) ?_
      refine x_icmp_ge F (tgt := 118) dT_add_88 (by decide) (fun c1 => ?_) (fun c1 => ?_)
      · skip
        have c1 : cw ≤ k := by
          exact (nI_leI (a := cw) (b := k) (by omega) (by omega)).mp c1
        have hk : k = cw := by omega
        have hw6 : wcp w1 (n * 4) k wd = wcp w1 (n * 4) cw wd := by rw [hk]
        rcases o_cases (par ds dd n) with hpj | ⟨j, hpj⟩
        · skip
          refine xW.lve (lv' := [(6, .int (nI (k))), (5, .int ((-1))), (0, .ref (a)), (1, .long (co)), (3, .int (dd)), (4, .ref (r))]) (by rw [hpj]; rfl) ?_
          refine x_aload_n F 2 dT_add_118 rfl rfl ?_
          refine x_iload F 1 dT_add_119 rfl ?_
          refine yV (n := 1) (As := [.int ((-1))]) (ci := 4) F kmT_38 kiT_has ksT_has knT kcT_has (by decide +kernel) dT_add_121 (cT_hasN l (nx) M1 (a) (vp_updL cd n co) (upd ds n dd) (upd ps n (oi (par ds dd n))) (upd ch n (nI 0)) (upd wc n (nI cw)) (wcp w1 (n * 4) k wd) n cp hT1 (-1) (m1_out _)) rfl g0 rfl rfl (Nat.le_of_ble_eq_true rfl) ⟨Nat.le_of_ble_eq_true rfl, Nat.le_of_ble_eq_true rfl⟩ ⟨Nat.le_of_ble_eq_true rfl, Nat.le_of_ble_eq_true rfl⟩ ?_
          refine x_if_eq F (tgt := 141) dT_add_124 (by decide) (fun c2 => ?_) (fun c2 => ?_)
          · skip
            have c2 : 0 = 0 := by
              exact (nI_eq (a := 0) (b := 0) (by omega) (by omega)).mp c2
            refine x_aload_n F 2 dT_add_141 rfl rfl ?_
            refine x_dup F dT_add_142 rfl ?_
            refine x_get (ci := 4) F 7 (x_in inT) rfl (by decide) (x_m kfT_35) dT_add_143 g0 rfl ?_
            refine x_iconst F (v := nI (1)) dT_add_146 (by decide) ?_
            refine x_iadd F dT_add_147 ?_
            refine xW.toi (nI (cp + 1)) (nI_add _ _) ?_
            refine x_put (ci := 4) (ty := .int) F 7 (x_in inT) tT tT_ok nT rfl (by decide) (x_m kfT_35) dT_add_148 rfl (by decide +kernel) rfl rfl g0 (Nat.le_of_ble_eq_true rfl) ?_
            show xW p l e ({ frames := 1, cells := 0, slots := 0, locals := 22 } : Room) s m args below meth c D xcl (x_A M nx) 7 (MQ below (x_Q D xcl (x_A M nx) (tPost none nx M a (vp_updL cd n co) (upd ds n dd) (upd ps n (oi (par ds dd n))) (chi ch n (par ds dd n)) (upd wc n (nI cw)) (wcp w1 (n * 4) cw wd) (n + 1) (chp cp (par ds dd n)))) args s 0 0 (x_A M nx)) 0 0 (nx) (x_up M1 (a) (.inr (4, [.ref (a + 1), .ref (a + 2), .ref (a + 3), .ref (a + 4), .ref (a + 5), .ref (a + 6), .int (nI (n)), .int (nI (cp + 1))]))) 151 [(6, .int (nI (k))), (5, .int ((-1))), (0, .ref (a)), (1, .long (co)), (3, .int (dd)), (4, .ref (r))] []
            refine x_aload_n F 2 dT_add_151 rfl rfl ?_
            refine x_dup F dT_add_152 rfl ?_
            refine x_get (ci := 4) F 6 (x_in inT) rfl (by decide) (x_m kfT_31) dT_add_153 x_up_s rfl ?_
            refine x_iconst F (v := nI (1)) dT_add_156 (by decide) ?_
            refine x_iadd F dT_add_157 ?_
            refine xW.toi (nI (n + 1)) (nI_add _ _) ?_
            refine x_put (ci := 4) (ty := .int) F 6 (x_in inT) tT tT_ok nT rfl (by decide) (x_m kfT_31) dT_add_158 rfl (by decide +kernel) rfl rfl x_up_s (Nat.le_of_ble_eq_true rfl) ?_
            show xW p l e ({ frames := 1, cells := 0, slots := 0, locals := 22 } : Room) s m args below meth c D xcl (x_A M nx) 7 (MQ below (x_Q D xcl (x_A M nx) (tPost none nx M a (vp_updL cd n co) (upd ds n dd) (upd ps n (oi (par ds dd n))) (chi ch n (par ds dd n)) (upd wc n (nI cw)) (wcp w1 (n * 4) cw wd) (n + 1) (chp cp (par ds dd n)))) args s 0 0 (x_A M nx)) 0 0 (nx) (x_up (x_up M1 (a) (.inr (4, [.ref (a + 1), .ref (a + 2), .ref (a + 3), .ref (a + 4), .ref (a + 5), .ref (a + 6), .int (nI (n)), .int (nI (cp + 1))]))) (a) (.inr (4, [.ref (a + 1), .ref (a + 2), .ref (a + 3), .ref (a + 4), .ref (a + 5), .ref (a + 6), .int (nI (n + 1)), .int (nI (cp + 1))]))) 161 [(6, .int (nI (k))), (5, .int ((-1))), (0, .ref (a)), (1, .long (co)), (3, .int (dd)), (4, .ref (r))] []
            exact x_vret F hr dT_add_161 (⟨rfl, rfl, by rw [show chi ch n (par ds dd n) = upd ch n (nI 0) from by rw [hpj]; rfl, show chp cp (par ds dd n) = cp + 1 from by rw [hpj]; rfl, ← hw6]; exact ⟨x_up_s, (x_up_k (x_up_k g1 (by omega)) (by omega)), (x_up_k (x_up_k g2 (by omega)) (by omega)), (x_up_k (x_up_k g3 (by omega)) (by omega)), (x_up_k (x_up_k g4 (by omega)) (by omega)), (x_up_k (x_up_k g5 (by omega)) (by omega)), (x_up_k (x_up_k g6 (by omega)) (by omega)), by omega, by omega⟩, fun b hb => (x_up_n (by omega)).trans ((x_up_n (by omega)).trans ((hfr _ hb).trans (rfl)))⟩)
          · skip
            have c2 : 0 ≠ 0 := by
              have z : ¬ (0 = 0) := fun zz => c2 ((nI_eq (a := 0) (b := 0) (by omega) (by omega)).mpr zz)
              omega
            exact absurd c2 (by decide)
        · skip
          have hj : j < n := (la_lt hpj).1
          refine xW.lve (lv' := [(6, .int (nI (k))), (5, .int (nI (j))), (0, .ref (a)), (1, .long (co)), (3, .int (dd)), (4, .ref (r))]) (by rw [hpj]; rfl) ?_
          refine x_aload_n F 2 dT_add_118 rfl rfl ?_
          refine x_iload F 1 dT_add_119 rfl ?_
          refine yV (n := 1) (As := [.int (nI (j))]) (ci := 4) F kmT_38 kiT_has ksT_has knT kcT_has (by decide +kernel) dT_add_121 (cT_has l (nx) M1 (a) (vp_updL cd n co) (upd ds n dd) (upd ps n (oi (par ds dd n))) (upd ch n (nI 0)) (upd wc n (nI cw)) (wcp w1 (n * 4) k wd) n cp hT1 j (by omega)) rfl g0 rfl rfl (Nat.le_of_ble_eq_true rfl) ⟨Nat.le_of_ble_eq_true rfl, Nat.le_of_ble_eq_true rfl⟩ ⟨Nat.le_of_ble_eq_true rfl, Nat.le_of_ble_eq_true rfl⟩ ?_
          refine x_if_eq F (tgt := 141) dT_add_124 (by decide) (fun c3 => ?_) (fun c3 => ?_)
          · skip
            have c3 : 1 = 0 := by
              exact (nI_eq (a := 1) (b := 0) (by omega) (by omega)).mp c3
            exact absurd c3 (by decide)
          · skip
            have c3 : 1 ≠ 0 := by
              have z : ¬ (1 = 0) := fun zz => c3 ((nI_eq (a := 1) (b := 0) (by omega) (by omega)).mpr zz)
              omega
            refine x_aload_n F 2 dT_add_127 rfl rfl ?_
            refine x_get (ci := 4) F 3 (x_in inT) rfl (by decide) (x_m kfT_22) dT_add_128 g0 rfl ?_
            refine x_iload F 1 dT_add_131 rfl ?_
            refine x_dup2 F dT_add_133 rfl rfl ?_
            refine x_iald F dT_add_134 g4 (pk_in (j) (40) (by omega)) ?_
            refine xW.toi (((upd ch n (nI 0))) (j)) (by rw [nI_clamp (by omega)]) ?_
            refine x_iconst F (v := nI (1)) dT_add_135 (by decide) ?_
            refine x_iadd F dT_add_136 ?_
            refine x_iast F dT_add_137 g4 (pk_in (j) (40) (by omega)) ?_
            rw [nI_clamp (show j < 2 ^ 31 by omega)]
            show xW p l e ({ frames := 1, cells := 0, slots := 0, locals := 22 } : Room) s m args below meth c D xcl (x_A M nx) 7 (MQ below (x_Q D xcl (x_A M nx) (tPost none nx M a (vp_updL cd n co) (upd ds n dd) (upd ps n (oi (par ds dd n))) (chi ch n (par ds dd n)) (upd wc n (nI cw)) (wcp w1 (n * 4) cw wd) (n + 1) (chp cp (par ds dd n)))) args s 0 0 (x_A M nx)) 0 0 (nx) (x_up M1 (a + 4) (.inl (.int, 40, .inl (upd ((upd ch n (nI 0))) (j) ((((upd ch n (nI 0))) (j)) + (nI (1))))))) 138 [(6, .int (nI (k))), (5, .int (nI (j))), (0, .ref (a)), (1, .long (co)), (3, .int (dd)), (4, .ref (r))] []
            refine x_goto F (tgt := 151) dT_add_138 (by decide) ?_
            refine x_aload_n F 2 dT_add_151 rfl rfl ?_
            refine x_dup F dT_add_152 rfl ?_
            refine x_get (ci := 4) F 6 (x_in inT) rfl (by decide) (x_m kfT_31) dT_add_153 (x_up_k g0 (by omega)) rfl ?_
            refine x_iconst F (v := nI (1)) dT_add_156 (by decide) ?_
            refine x_iadd F dT_add_157 ?_
            refine xW.toi (nI (n + 1)) (nI_add _ _) ?_
            refine x_put (ci := 4) (ty := .int) F 6 (x_in inT) tT tT_ok nT rfl (by decide) (x_m kfT_31) dT_add_158 rfl (by decide +kernel) rfl rfl (x_up_k g0 (by omega)) (Nat.le_of_ble_eq_true rfl) ?_
            show xW p l e ({ frames := 1, cells := 0, slots := 0, locals := 22 } : Room) s m args below meth c D xcl (x_A M nx) 7 (MQ below (x_Q D xcl (x_A M nx) (tPost none nx M a (vp_updL cd n co) (upd ds n dd) (upd ps n (oi (par ds dd n))) (chi ch n (par ds dd n)) (upd wc n (nI cw)) (wcp w1 (n * 4) cw wd) (n + 1) (chp cp (par ds dd n)))) args s 0 0 (x_A M nx)) 0 0 (nx) (x_up (x_up M1 (a + 4) (.inl (.int, 40, .inl (upd ((upd ch n (nI 0))) (j) ((((upd ch n (nI 0))) (j)) + (nI (1))))))) (a) (.inr (4, [.ref (a + 1), .ref (a + 2), .ref (a + 3), .ref (a + 4), .ref (a + 5), .ref (a + 6), .int (nI (n + 1)), .int (nI (cp))]))) 161 [(6, .int (nI (k))), (5, .int (nI (j))), (0, .ref (a)), (1, .long (co)), (3, .int (dd)), (4, .ref (r))] []
            exact x_vret F hr dT_add_161 (⟨rfl, rfl, by rw [show chi ch n (par ds dd n) = upd (upd ch n (nI 0)) j ((upd ch n (nI 0)) j + nI 1) from by rw [hpj]; rfl, show chp cp (par ds dd n) = cp from by rw [hpj]; rfl, ← hw6]; exact ⟨x_up_s, (x_up_k (x_up_k g1 (by omega)) (by omega)), (x_up_k (x_up_k g2 (by omega)) (by omega)), (x_up_k (x_up_k g3 (by omega)) (by omega)), (x_up_k x_up_s (by omega)), (x_up_k (x_up_k g5 (by omega)) (by omega)), (x_up_k (x_up_k g6 (by omega)) (by omega)), by omega, by omega⟩, fun b hb => (x_up_n (by omega)).trans ((x_up_n (by omega)).trans ((hfr _ hb).trans (rfl)))⟩)
      · skip
        have c1 : k < cw := by
          have z : ¬ (cw ≤ k) := fun zz => c1 ((nI_leI (a := cw) (b := k) (by omega) (by omega)).mpr zz)
          omega
        exact absurd c1 (by omega)
    | succ f ih =>
      intro k M1 hi hT1 hfr
      obtain ⟨g0, g1, g2, g3, g4, g5, g6, g7, g8⟩ := id hT1
      have hR1 : rAt M1 r sg w1 cw rl rq fk fp := rAt_fr hRd (fun b _ _ => hfr b (by omega))
      obtain ⟨q0, q1, q2, q3, q4, q5⟩ := id hR1
      refine x_iload F 0 dT_add_77 rfl ?_
      refine x_aload_n F 2 dT_add_79 rfl rfl ?_
      refine x_get (ci := 4) F 4 (x_in inT) rfl (by decide) (x_m kfT_25) dT_add_80 g0 rfl ?_
      refine x_aload_n F 2 dT_add_83 rfl rfl ?_
      refine x_get (ci := 4) F 6 (x_in inT) rfl (by decide) (x_m kfT_31) dT_add_84 g0 rfl ?_
      refine x_iald F dT_add_87 g5 (pk_in (n) (40) (by omega)) ?_
      refine xW.toi (nI (cw)) (by rw [nI_clamp (by omega)]; exact pk_us) ?_
      refine x_icmp_ge F (tgt := 118) dT_add_88 (by decide) (fun c4 => ?_) (fun c4 => ?_)
      · skip
        have c4 : cw ≤ k := by
          exact (nI_leI (a := cw) (b := k) (by omega) (by omega)).mp c4
        exact absurd c4 (by omega)
      · skip
        have c4 : k < cw := by
          have z : ¬ (cw ≤ k) := fun zz => c4 ((nI_leI (a := cw) (b := k) (by omega) (by omega)).mpr zz)
          omega
        refine x_aload_n F 2 dT_add_91 rfl rfl ?_
        refine x_get (ci := 4) F 5 (x_in inT) rfl (by decide) (x_m kfT_28) dT_add_92 g0 rfl ?_
        refine x_aload_n F 2 dT_add_95 rfl rfl ?_
        refine x_get (ci := 4) F 6 (x_in inT) rfl (by decide) (x_m kfT_31) dT_add_96 g0 rfl ?_
        refine x_iconst F (v := nI (4)) dT_add_99 (by decide) ?_
        refine x_imul F dT_add_100 ?_
        refine xW.toi (nI ((n) * (4))) (pk_mul _ _) ?_
        refine x_iload F 0 dT_add_101 rfl ?_
        refine x_iadd F dT_add_103 ?_
        refine xW.toi (nI ((n) * (4) + k)) (nI_add _ _) ?_
        refine x_aload F 5 dT_add_104 rfl ?_
        refine x_iload F 0 dT_add_106 rfl ?_
        refine yV (n := 1) (As := [.int (nI (k))]) (ci := 3) F kmT_82 kiR_wordAt ksR_wordAt knR kcR_wordAt (by decide +kernel) dT_add_108 (cR_wordAt l (nx) M1 (r) sg w1 cw rl rq fk fp hR1 (k) (by omega)) rfl q0 rfl rfl (Nat.le_of_ble_eq_true rfl) ⟨Nat.le_of_ble_eq_true rfl, Nat.le_of_ble_eq_true rfl⟩ ⟨Nat.le_of_ble_eq_true rfl, Nat.le_of_ble_eq_true rfl⟩ ?_
        refine x_last F dT_add_111 g6 (pk_in ((n) * (4) + k) (160) (by omega)) ?_
        rw [nI_clamp (show (n) * (4) + k < 2 ^ 31 by omega)]
        show xW p l e ({ frames := 1, cells := 0, slots := 0, locals := 22 } : Room) s m args below meth c D xcl (x_A M nx) 7 (MQ below (x_Q D xcl (x_A M nx) (tPost none nx M a (vp_updL cd n co) (upd ds n dd) (upd ps n (oi (par ds dd n))) (chi ch n (par ds dd n)) (upd wc n (nI cw)) (wcp w1 (n * 4) cw wd) (n + 1) (chp cp (par ds dd n)))) args s 0 0 (x_A M nx)) 0 0 (nx) (x_up M1 (a + 6) (.inl (.long, 160, .inr (.inl (vp_updL ((wcp w1 (n * 4) k wd)) ((n) * (4) + k) (w1 (k))))))) 112 [(6, .int (nI (k))), (5, .int (oi (par ds dd n))), (0, .ref (a)), (1, .long (co)), (3, .int (dd)), (4, .ref (r))] []
        refine x_iinc F 0 [(6, .int (nI (k + 1))), (5, .int (oi (par ds dd n))), (0, .ref (a)), (1, .long (co)), (3, .int (dd)), (4, .ref (r))] dT_add_112 rfl (nI_add (k) 1) (by decide) rfl ?_
        refine x_goto F (tgt := 77) dT_add_115 (by decide) ?_
        exact ih (k + 1) _ (by omega) ⟨(x_up_k g0 (by omega)), (x_up_k g1 (by omega)), (x_up_k g2 (by omega)), (x_up_k g3 (by omega)), (x_up_k g4 (by omega)), (x_up_k g5 (by omega)), x_up_s, by omega, by omega⟩ (fun b hb => (x_up_n (by omega)).trans ((hfr _ hb).trans (rfl)))
  refine x_aload_n F 0 dT_add_0 rfl rfl ?_
  refine yV (n := 0) (As := []) (ci := 4) F kmT_63 kiT_isFull ksT_isFull knT kcT_isFull (by decide +kernel) dT_add_1 (cT_isFull l (nx) M (a) cd ds ps ch wc wd n cp hT ) rfl h0 rfl rfl (Nat.le_of_ble_eq_true rfl) ⟨Nat.le_of_ble_eq_true rfl, Nat.le_of_ble_eq_true rfl⟩ ⟨Nat.le_of_ble_eq_true rfl, Nat.le_of_ble_eq_true rfl⟩ ?_
  refine x_if_eq F (tgt := 8) dT_add_4 (by decide) (fun c5 => ?_) (fun c5 => ?_)
  · skip
    have c5 : (decide (40 ≤ n)) = false := bI_0 c5
    refine x_aload_n F 0 dT_add_8 rfl rfl ?_
    refine x_iload_n F 2 dT_add_9 rfl rfl ?_
    refine yV (n := 1) (As := [.int (dd)]) (ci := 4) F kmT_67 kiT_parentFor ksT_parentFor knT kcT_parentFor (by decide +kernel) dT_add_10 (cT_parentFor l (nx) M (a) cd ds ps ch wc wd n cp hT (dd)) rfl h0 rfl rfl (Nat.le_of_ble_eq_true rfl) ⟨Nat.le_of_ble_eq_true rfl, Nat.le_of_ble_eq_true rfl⟩ ⟨Nat.le_of_ble_eq_true rfl, Nat.le_of_ble_eq_true rfl⟩ ?_
    refine x_istore F [(5, .int (oi (la (fun i => decide ((ds) i = (dd) - nI 1)) (n)))), (0, .ref (a)), (1, .long (co)), (3, .int (dd)), (4, .ref (r))] dT_add_13 (by decide) rfl ?_
    refine x_aload_n F 1 dT_add_15 rfl rfl ?_
    refine x_get (ci := 4) F 0 (x_in inT) rfl (by decide) (x_m kfT_9) dT_add_16 h0 rfl ?_
    refine x_aload_n F 1 dT_add_19 rfl rfl ?_
    refine x_get (ci := 4) F 6 (x_in inT) rfl (by decide) (x_m kfT_31) dT_add_20 h0 rfl ?_
    refine x_lload_n F 2 dT_add_23 rfl rfl ?_
    refine x_last F dT_add_24 h1 (pk_in (n) (40) (by omega)) ?_
    rw [nI_clamp (show n < 2 ^ 31 by omega)]
    show xW p l e ({ frames := 1, cells := 0, slots := 0, locals := 22 } : Room) s m args below meth c D xcl (x_A M nx) 7 (MQ below (x_Q D xcl (x_A M nx) (tPost none nx M a (vp_updL cd n co) (upd ds n dd) (upd ps n (oi (par ds dd n))) (chi ch n (par ds dd n)) (upd wc n (nI cw)) (wcp w1 (n * 4) cw wd) (n + 1) (chp cp (par ds dd n)))) args s 0 0 (x_A M nx)) 0 0 (nx) (x_up M (a + 1) (.inl (.long, 40, .inr (.inl (vp_updL (cd) (n) (co)))))) 25 [(5, .int (oi (la (fun i => decide ((ds) i = (dd) - nI 1)) (n)))), (0, .ref (a)), (1, .long (co)), (3, .int (dd)), (4, .ref (r))] []
    refine x_aload_n F 1 dT_add_25 rfl rfl ?_
    refine x_get (ci := 4) F 1 (x_in inT) rfl (by decide) (x_m kfT_15) dT_add_26 (x_up_k h0 (by omega)) rfl ?_
    refine x_aload_n F 1 dT_add_29 rfl rfl ?_
    refine x_get (ci := 4) F 6 (x_in inT) rfl (by decide) (x_m kfT_31) dT_add_30 (x_up_k h0 (by omega)) rfl ?_
    refine x_iload_n F 3 dT_add_33 rfl rfl ?_
    refine x_iast F dT_add_34 (x_up_k h2 (by omega)) (pk_in (n) (40) (by omega)) ?_
    rw [nI_clamp (show n < 2 ^ 31 by omega)]
    show xW p l e ({ frames := 1, cells := 0, slots := 0, locals := 22 } : Room) s m args below meth c D xcl (x_A M nx) 7 (MQ below (x_Q D xcl (x_A M nx) (tPost none nx M a (vp_updL cd n co) (upd ds n dd) (upd ps n (oi (par ds dd n))) (chi ch n (par ds dd n)) (upd wc n (nI cw)) (wcp w1 (n * 4) cw wd) (n + 1) (chp cp (par ds dd n)))) args s 0 0 (x_A M nx)) 0 0 (nx) (x_up (x_up M (a + 1) (.inl (.long, 40, .inr (.inl (vp_updL (cd) (n) (co)))))) (a + 2) (.inl (.int, 40, .inl (upd (ds) (n) (dd))))) 35 [(5, .int (oi (la (fun i => decide ((ds) i = (dd) - nI 1)) (n)))), (0, .ref (a)), (1, .long (co)), (3, .int (dd)), (4, .ref (r))] []
    refine x_aload_n F 1 dT_add_35 rfl rfl ?_
    refine x_get (ci := 4) F 2 (x_in inT) rfl (by decide) (x_m kfT_19) dT_add_36 (x_up_k (x_up_k h0 (by omega)) (by omega)) rfl ?_
    refine x_aload_n F 1 dT_add_39 rfl rfl ?_
    refine x_get (ci := 4) F 6 (x_in inT) rfl (by decide) (x_m kfT_31) dT_add_40 (x_up_k (x_up_k h0 (by omega)) (by omega)) rfl ?_
    refine x_iload F 0 dT_add_43 rfl ?_
    refine x_iast F dT_add_45 (x_up_k (x_up_k h3 (by omega)) (by omega)) (pk_in (n) (40) (by omega)) ?_
    rw [nI_clamp (show n < 2 ^ 31 by omega)]
    show xW p l e ({ frames := 1, cells := 0, slots := 0, locals := 22 } : Room) s m args below meth c D xcl (x_A M nx) 7 (MQ below (x_Q D xcl (x_A M nx) (tPost none nx M a (vp_updL cd n co) (upd ds n dd) (upd ps n (oi (par ds dd n))) (chi ch n (par ds dd n)) (upd wc n (nI cw)) (wcp w1 (n * 4) cw wd) (n + 1) (chp cp (par ds dd n)))) args s 0 0 (x_A M nx)) 0 0 (nx) (x_up (x_up (x_up M (a + 1) (.inl (.long, 40, .inr (.inl (vp_updL (cd) (n) (co)))))) (a + 2) (.inl (.int, 40, .inl (upd (ds) (n) (dd))))) (a + 3) (.inl (.int, 40, .inl (upd (ps) (n) (oi (la (fun i => decide ((ds) i = (dd) - nI 1)) (n))))))) 46 [(5, .int (oi (la (fun i => decide ((ds) i = (dd) - nI 1)) (n)))), (0, .ref (a)), (1, .long (co)), (3, .int (dd)), (4, .ref (r))] []
    refine x_aload_n F 1 dT_add_46 rfl rfl ?_
    refine x_get (ci := 4) F 3 (x_in inT) rfl (by decide) (x_m kfT_22) dT_add_47 (x_up_k (x_up_k (x_up_k h0 (by omega)) (by omega)) (by omega)) rfl ?_
    refine x_aload_n F 1 dT_add_50 rfl rfl ?_
    refine x_get (ci := 4) F 6 (x_in inT) rfl (by decide) (x_m kfT_31) dT_add_51 (x_up_k (x_up_k (x_up_k h0 (by omega)) (by omega)) (by omega)) rfl ?_
    refine x_iconst F (v := nI (0)) dT_add_54 (by decide) ?_
    refine x_iast F dT_add_55 (x_up_k (x_up_k (x_up_k h4 (by omega)) (by omega)) (by omega)) (pk_in (n) (40) (by omega)) ?_
    rw [nI_clamp (show n < 2 ^ 31 by omega)]
    show xW p l e ({ frames := 1, cells := 0, slots := 0, locals := 22 } : Room) s m args below meth c D xcl (x_A M nx) 7 (MQ below (x_Q D xcl (x_A M nx) (tPost none nx M a (vp_updL cd n co) (upd ds n dd) (upd ps n (oi (par ds dd n))) (chi ch n (par ds dd n)) (upd wc n (nI cw)) (wcp w1 (n * 4) cw wd) (n + 1) (chp cp (par ds dd n)))) args s 0 0 (x_A M nx)) 0 0 (nx) (x_up (x_up (x_up (x_up M (a + 1) (.inl (.long, 40, .inr (.inl (vp_updL (cd) (n) (co)))))) (a + 2) (.inl (.int, 40, .inl (upd (ds) (n) (dd))))) (a + 3) (.inl (.int, 40, .inl (upd (ps) (n) (oi (la (fun i => decide ((ds) i = (dd) - nI 1)) (n))))))) (a + 4) (.inl (.int, 40, .inl (upd (ch) (n) (nI (0)))))) 56 [(5, .int (oi (la (fun i => decide ((ds) i = (dd) - nI 1)) (n)))), (0, .ref (a)), (1, .long (co)), (3, .int (dd)), (4, .ref (r))] []
    refine x_aload_n F 1 dT_add_56 rfl rfl ?_
    refine x_get (ci := 4) F 4 (x_in inT) rfl (by decide) (x_m kfT_25) dT_add_57 (x_up_k (x_up_k (x_up_k (x_up_k h0 (by omega)) (by omega)) (by omega)) (by omega)) rfl ?_
    refine x_aload_n F 1 dT_add_60 rfl rfl ?_
    refine x_get (ci := 4) F 6 (x_in inT) rfl (by decide) (x_m kfT_31) dT_add_61 (x_up_k (x_up_k (x_up_k (x_up_k h0 (by omega)) (by omega)) (by omega)) (by omega)) rfl ?_
    refine x_aload F 4 dT_add_64 rfl ?_
    refine yV (n := 0) (As := []) (ci := 3) F kmT_70 kiR_wordCount ksR_wordCount knR kcR_wordCount (by decide +kernel) dT_add_66 (cR_wordCount l (nx) (x_up (x_up (x_up (x_up M (a + 1) (.inl (.long, 40, .inr (.inl (vp_updL (cd) (n) (co)))))) (a + 2) (.inl (.int, 40, .inl (upd (ds) (n) (dd))))) (a + 3) (.inl (.int, 40, .inl (upd (ps) (n) (oi (la (fun i => decide ((ds) i = (dd) - nI 1)) (n))))))) (a + 4) (.inl (.int, 40, .inl (upd (ch) (n) (nI (0)))))) (r) sg w1 cw rl rq fk fp (rAt_fr (rAt_fr (rAt_fr (rAt_fr hRd (fun b _ _ => x_up_n (by omega))) (fun b _ _ => x_up_n (by omega))) (fun b _ _ => x_up_n (by omega))) (fun b _ _ => x_up_n (by omega))) ) rfl (x_up_k (x_up_k (x_up_k (x_up_k q0 (by omega)) (by omega)) (by omega)) (by omega)) rfl rfl (Nat.le_of_ble_eq_true rfl) ⟨Nat.le_of_ble_eq_true rfl, Nat.le_of_ble_eq_true rfl⟩ ⟨Nat.le_of_ble_eq_true rfl, Nat.le_of_ble_eq_true rfl⟩ ?_
    refine x_iconst F (v := nI (4)) dT_add_69 (by decide) ?_
    refine x_mmin F (x_m kmT_76) (x_m ktJM_min) (x_m knJM) (x_m kcJM_min) dT_add_70 (Nat.le_of_ble_eq_true rfl) (Nat.le_of_ble_eq_true rfl) (Nat.le_of_ble_eq_true rfl) (Nat.le_of_ble_eq_true rfl) ?_
    refine xW.toi (nI (cw)) (if_neg (nI_nlt (by omega) (by omega))) ?_
    refine x_iast F dT_add_73 (x_up_k (x_up_k (x_up_k (x_up_k h5 (by omega)) (by omega)) (by omega)) (by omega)) (pk_in (n) (40) (by omega)) ?_
    rw [nI_clamp (show n < 2 ^ 31 by omega)]
    show xW p l e ({ frames := 1, cells := 0, slots := 0, locals := 22 } : Room) s m args below meth c D xcl (x_A M nx) 7 (MQ below (x_Q D xcl (x_A M nx) (tPost none nx M a (vp_updL cd n co) (upd ds n dd) (upd ps n (oi (par ds dd n))) (chi ch n (par ds dd n)) (upd wc n (nI cw)) (wcp w1 (n * 4) cw wd) (n + 1) (chp cp (par ds dd n)))) args s 0 0 (x_A M nx)) 0 0 (nx) (x_up (x_up (x_up (x_up (x_up M (a + 1) (.inl (.long, 40, .inr (.inl (vp_updL (cd) (n) (co)))))) (a + 2) (.inl (.int, 40, .inl (upd (ds) (n) (dd))))) (a + 3) (.inl (.int, 40, .inl (upd (ps) (n) (oi (la (fun i => decide ((ds) i = (dd) - nI 1)) (n))))))) (a + 4) (.inl (.int, 40, .inl (upd (ch) (n) (nI (0)))))) (a + 5) (.inl (.int, 40, .inl (upd (wc) (n) (nI (cw)))))) 74 [(5, .int (oi (la (fun i => decide ((ds) i = (dd) - nI 1)) (n)))), (0, .ref (a)), (1, .long (co)), (3, .int (dd)), (4, .ref (r))] []
    refine x_iconst F (v := nI (0)) dT_add_74 (by decide) ?_
    refine x_istore F [(6, .int (nI (0))), (5, .int (oi (la (fun i => decide ((ds) i = (dd) - nI 1)) (n)))), (0, .ref (a)), (1, .long (co)), (3, .int (dd)), (4, .ref (r))] dT_add_75 (by decide) rfl ?_
    exact loop cw 0 _ (by omega) ⟨(x_up_k (x_up_k (x_up_k (x_up_k (x_up_k h0 (by omega)) (by omega)) (by omega)) (by omega)) (by omega)), (x_up_k (x_up_k (x_up_k (x_up_k x_up_s (by omega)) (by omega)) (by omega)) (by omega)), (x_up_k (x_up_k (x_up_k x_up_s (by omega)) (by omega)) (by omega)), (x_up_k (x_up_k x_up_s (by omega)) (by omega)), (x_up_k x_up_s (by omega)), x_up_s, (x_up_k (x_up_k (x_up_k (x_up_k (x_up_k h6 (by omega)) (by omega)) (by omega)) (by omega)) (by omega)), by omega, by omega⟩ (fun b hb => (x_up_n (by omega)).trans ((x_up_n (by omega)).trans ((x_up_n (by omega)).trans ((x_up_n (by omega)).trans ((x_up_n (by omega)).trans (rfl))))))
  · skip
    have c5 : (decide (40 ≤ n)) = true := bI_1 c5
    simp at c5
    exact absurd hn40 (by omega)
end
section
theorem wds_b {tx : Nat → Nat} {n mo f k q : Nat} {wd : Nat → Int64} (hk : k + f = mo) (hq : q ≤ n) : (wds tx n mo f k q wd).2.1 ≤ mo ∧ (wds tx n mo f k q wd).2.2.1 ≤ n := by
  induction f generalizing k q wd with
  | zero => exact ⟨by show k ≤ mo; omega, hq⟩
  | succ f ih =>
    have hl : q + lNn tx n q ≤ n := hrun_n rfl _ _ _ _ hq
    rw [wds_s]
    split
    · exact ⟨by show k ≤ mo; omega, hq⟩
    · split
      · rename_i h
        have := (hx_in (K := fun c => decide (c = 46)) rfl (tx := tx) (n := n) (q := q + lNn tx n q) (by simpa using h.1)).1
        exact ih (by omega) (by omega)
      · exact ⟨by show k + 1 ≤ mo; omega, hl⟩
/-- whether the text is words, and where that ends -/
def ask (tx : Nat → Nat) (n : Nat) (wd : Nat → Int64) : Bool := (wds tx n 6 6 0 0 wd).1 && decide ((wds tx n 6 6 0 0 wd).2.2.1 = n)
/-- a code that fits below its row, that comes behind the one ahead -/
def fit (cd : Nat → Int64) (ds : Nat → Int32) (tn dd co : Nat) : Bool := match par ds (nI dd) tn with
  | none => decide (lN co < 200)
  | some j => (! decide (lN co = cd j)) && decide (bw (cd j) 10 (lN co) = cd j)
def bhd (cd : Nat → Int64) (tn co : Nat) : Bool := match tn with
  | 0 => true
  | k + 1 => cb (lN co) (cd k)
/-- the failure from a row's code on -/
def cwK (tx : Nat → Nat) (n : Nat) (w1 : Nat → Int64) (cd : Nat → Int64) (ds : Nat → Int32) (tn dd q : Nat) : Option (Nat × Nat) :=
  if rc tx n q = 0 then some (1, q + dN tx n q) else
  if fit cd ds tn dd (rc tx n q) = false then some (3, q) else
  if bhd cd tn (rc tx n q) = false then some (4, q) else
  if (wds tx n 4 4 0 (q + dN tx n q) w1).1 = false then some (1, (wds tx n 4 4 0 (q + dN tx n q) w1).2.2.1) else
  if hx tx n (wds tx n 4 4 0 (q + dN tx n q) w1).2.2.1 ≠ 59 then some (1, (wds tx n 4 4 0 (q + dN tx n q) w1).2.2.1) else none
/-- what a row leaves: a failure, told by the reader; or the row in the tree -/
def cwPost (nx : Nat) (M : xH) (r : Nat) (sg : Nat → Int32) (w1 : Nat → Int64) (n : Nat) (fk fp : Int32) (a : Nat) (cd : Nat → Int64) (ds ps ch wc : Nat → Int32) (wd : Nat → Int64) (tn cp : Nat) (tx : Nat → Nat) (dd q : Nat) (x : Option (Nat × Nat)) : xO → Nat → xH → Prop := fun o n' M' => n' = nx ∧ (∀ b, (b < r ∨ r + 2 < b) ∧ (b < a ∨ a + 6 < b) → M' b = M b) ∧ match x with
  | some f => o = some (.int (nI 0)) ∧ tAt M' a cd ds ps ch wc wd tn cp ∧ ∃ (w2 : Nat → Int64) (c2 q2 : Nat), rAt M' r sg w2 c2 n q2 (nI f.1) (nI f.2)
  | none => o = some (.int (nI 1)) ∧ tAt M' a (vp_updL cd tn (lN (rc tx n q))) (upd ds tn (nI dd)) (upd ps tn (oi (par ds (nI dd) tn))) (chi ch tn (par ds (nI dd) tn)) (upd wc tn (nI (wds tx n 4 4 0 (q + dN tx n q) w1).2.1)) (wcp (wds tx n 4 4 0 (q + dN tx n q) w1).2.2.2 (tn * 4) (wds tx n 4 4 0 (q + dN tx n q) w1).2.1 wd) (tn + 1) (chp cp (par ds (nI dd) tn)) ∧ rAt M' r sg (wds tx n 4 4 0 (q + dN tx n q) w1).2.2.2 (wds tx n 4 4 0 (q + dN tx n q) w1).2.1 n ((wds tx n 4 4 0 (q + dN tx n q) w1).2.2.1 + 1) fk fp
theorem rc_n0 {tx : Nat → Nat} {n q : Nat} : lN (rc tx n q) = 0 ↔ rc tx n q = 0 := by
  have hb : ∀ d, d ≤ dN tx n q → cN tx q d < 2 * 10 ^ d := by
    intro d
    induction d with
    | zero => intro _; show 1 < 2 * 1; omega
    | succ d ih =>
      intro hd
      have h1 := ih (by omega)
      have h2 := (hrun_all (K := dig) rfl (show d < hrun dig tx n 10 q from hd)).1
      simp [dig] at h2
      show cN tx q d * 10 + (tx (q + d) - 48) < 2 * 10 ^ (d + 1)
      rw [Nat.pow_succ]; omega
  have h10 : dN tx n q ≤ 10 := hrun_k _ _ _ _ _
  have hp : 10 ^ dN tx n q ≤ 10 ^ 10 := Nat.pow_le_pow_right (by omega) h10
  have h3 := hb _ (Nat.le_refl _)
  have h4 : rc tx n q < 2 ^ 62 := by
    unfold rc; split <;> omega
  constructor
  · intro h
    have h : lN (rc tx n q) = lN 0 := h
    exact (pk_lEQ (by omega) (by omega)).mp h
  · intro h; rw [h]; rfl
set_option maxHeartbeats 4000000 in
set_option maxRecDepth 100000 in
theorem cR_readAsked (l : Launch) (nx : Nat) (M : xH) (a : Nat) (sg : Nat → Int32) (wd : Nat → Int64) (cw n q : Nat) (fk fp : Int32) (hT : rAt M a sg wd cw n q fk fp) (tx : Nat → Nat) (hX : sAt sg tx n) : xC l xcl yR_readAsked (xw (Cond.code yR_readAsked bR_readAsked 1 (some .boolean))) ({ frames := 3, cells := 0, slots := 0, locals := 67 } : Room) [.ref (a)] nx M (rPost (some (.int (bI (ask tx n wd)))) nx M a sg (wds tx n 6 6 0 0 wd).2.2.2 (wds tx n 6 6 0 0 wd).2.1 n (wds tx n 6 6 0 0 wd).2.2.1 (if ask tx n wd then nI 0 else nI 1) (if ask tx n wd then (-1) else nI (wds tx n 6 6 0 0 wd).2.2.1)) := by
  obtain ⟨h0, h1, h2, hcw, hn4, hq4⟩ := id hT
  refine yC (by decide) (Nat.le_of_ble_eq_true rfl) ?_
  intro p e s m args below meth c D F hr hn
  refine x_aload_n F 0 dR_readAsked_0 rfl rfl ?_
  refine yVr (n := 0) (As := []) (ci := 3) F kmR_39 kiR_start ksR_start knR kcR_start (by decide +kernel) dR_readAsked_1 (cR_start l (nx) M (a) sg wd cw n q fk fp hT ) rfl h0 rfl rfl (Nat.le_of_ble_eq_true rfl) ⟨Nat.le_of_ble_eq_true rfl, Nat.le_of_ble_eq_true rfl⟩ ⟨Nat.le_of_ble_eq_true rfl, Nat.le_of_ble_eq_true rfl⟩ (fun r' n' M8 hp => ?_)
  obtain ⟨hr', hn', hR8, hf8⟩ := hp
  rw [hn', hr']
  obtain ⟨g8_0, g8_1, g8_2, g8_3, g8_4, g8_5⟩ := id hR8
  show xW p l e ({ frames := 3, cells := 0, slots := 0, locals := 67 } : Room) s m args below meth c D xcl (x_A M nx) 1 (MQ below (x_Q D xcl (x_A M nx) (rPost (some (.int (bI (ask tx n wd)))) nx M a sg (wds tx n 6 6 0 0 wd).2.2.2 (wds tx n 6 6 0 0 wd).2.1 n (wds tx n 6 6 0 0 wd).2.2.1 (if ask tx n wd then nI 0 else nI 1) (if ask tx n wd then (-1) else nI (wds tx n 6 6 0 0 wd).2.2.1))) args s 0 0 (x_A M nx)) 0 0 (nx) M8 4 [(0, .ref (a))] []
  refine x_aload_n F 0 dR_readAsked_4 rfl rfl ?_
  refine x_bipush F (v := nI (6)) dR_readAsked_5 (by decide) ?_
  refine yVr (n := 1) (As := [.int (nI (6))]) (ci := 3) F kmR_50 kiR_readWords ksR_readWords knR kcR_readWords (by decide +kernel) dR_readAsked_7 (cR_readWords l (nx) M8 (a) sg wd cw n 0 (nI (0)) ((-1)) hR8 tx hX (by omega) 6 (by omega)) rfl g8_0 rfl rfl (Nat.le_of_ble_eq_true rfl) ⟨Nat.le_of_ble_eq_true rfl, Nat.le_of_ble_eq_true rfl⟩ ⟨Nat.le_of_ble_eq_true rfl, Nat.le_of_ble_eq_true rfl⟩ (fun r' n' M9 hp => ?_)
  obtain ⟨hr', hn', hR9, hf9⟩ := hp
  rw [hn', hr']
  obtain ⟨g9_0, g9_1, g9_2, g9_3, g9_4, g9_5⟩ := id hR9
  show xW p l e ({ frames := 3, cells := 0, slots := 0, locals := 67 } : Room) s m args below meth c D xcl (x_A M nx) 1 (MQ below (x_Q D xcl (x_A M nx) (rPost (some (.int (bI (ask tx n wd)))) nx M a sg (wds tx n 6 6 0 0 wd).2.2.2 (wds tx n 6 6 0 0 wd).2.1 n (wds tx n 6 6 0 0 wd).2.2.1 (if ask tx n wd then nI 0 else nI 1) (if ask tx n wd then (-1) else nI (wds tx n 6 6 0 0 wd).2.2.1))) args s 0 0 (x_A M nx)) 0 0 (nx) M9 10 [(0, .ref (a))] [.int (bI ((wds tx n 6 6 0 0 wd).1))]
  refine x_if_eq F (tgt := 40) dR_readAsked_10 (by decide) (fun c1 => ?_) (fun c1 => ?_)
  · skip
    have c1 : ((wds tx n 6 6 0 0 wd).1) = false := bI_0 c1
    refine x_iconst F (v := nI (0)) dR_readAsked_40 (by decide) ?_
    exact x_zret F hr (by rfl) dR_readAsked_41 (by rw [show ask tx n wd = false from by simp only [ask, c1]; rfl]; refine ⟨rfl, rfl, ?_, fun b hb => (hf9 _ (by omega)).trans ((hf8 _ (by omega)).trans (rfl))⟩; have z := hR9; first | exact z | (rw [c1] at z; exact z))
  · skip
    have c1 : ((wds tx n 6 6 0 0 wd).1) = true := bI_1 c1
    have hb6 := wds_b (tx := tx) (n := n) (mo := 6) (f := 6) (k := 0) (q := 0) (wd := wd) (by omega) (by omega)
    refine x_aload_n F 0 dR_readAsked_13 rfl rfl ?_
    refine x_get (ci := 3) F 4 (x_in inR) rfl (by decide) (x_m kfR_26) dR_readAsked_14 g9_0 rfl ?_
    refine x_aload_n F 0 dR_readAsked_17 rfl rfl ?_
    refine x_get (ci := 3) F 3 (x_in inR) rfl (by decide) (x_m kfR_23) dR_readAsked_18 g9_0 rfl ?_
    refine x_icmp_eq F (tgt := 36) dR_readAsked_21 (by decide) (fun c2 => ?_) (fun c2 => ?_)
    · skip
      have c2 : (wds tx n 6 6 0 0 wd).2.2.1 = n := by
        exact (nI_eq (a := (wds tx n 6 6 0 0 wd).2.2.1) (b := n) (by omega) (by omega)).mp c2
      refine x_iconst F (v := nI (1)) dR_readAsked_36 (by decide) ?_
      refine x_goto F (tgt := 41) dR_readAsked_37 (by decide) ?_
      exact x_zret F hr (by rfl) dR_readAsked_41 (by rw [show ask tx n wd = true from by simp only [ask, c1]; simp; exact c2]; refine ⟨rfl, rfl, ?_, fun b hb => (hf9 _ (by omega)).trans ((hf8 _ (by omega)).trans (rfl))⟩; have z := hR9; first | exact z | (rw [c1] at z; exact z))
    · skip
      have c2 : (wds tx n 6 6 0 0 wd).2.2.1 ≠ n := by
        have z : ¬ ((wds tx n 6 6 0 0 wd).2.2.1 = n) := fun zz => c2 ((nI_eq (a := (wds tx n 6 6 0 0 wd).2.2.1) (b := n) (by omega) (by omega)).mpr zz)
        omega
      refine x_aload_n F 0 dR_readAsked_24 rfl rfl ?_
      refine x_iconst F (v := nI (1)) dR_readAsked_25 (by decide) ?_
      refine x_aload_n F 0 dR_readAsked_26 rfl rfl ?_
      refine x_get (ci := 3) F 4 (x_in inR) rfl (by decide) (x_m kfR_26) dR_readAsked_27 g9_0 rfl ?_
      refine yVr (n := 2) (As := [.int (nI (1)), .int (nI ((wds tx n 6 6 0 0 wd).2.2.1))]) (ci := 3) F kmR_42 kiR_fail ksR_fail knR kcR_fail (by decide +kernel) dR_readAsked_30 (cR_fail l (nx) M9 (a) sg ((wds tx n 6 6 0 0 wd).2.2.2) ((wds tx n 6 6 0 0 wd).2.1) n ((wds tx n 6 6 0 0 wd).2.2.1) (if (wds tx n 6 6 0 0 wd).1 then (nI (0)) else nI 1) (if (wds tx n 6 6 0 0 wd).1 then ((-1)) else nI (wds tx n 6 6 0 0 wd).2.2.1) hR9 (nI (1)) (nI ((wds tx n 6 6 0 0 wd).2.2.1))) rfl g9_0 rfl rfl (Nat.le_of_ble_eq_true rfl) ⟨Nat.le_of_ble_eq_true rfl, Nat.le_of_ble_eq_true rfl⟩ ⟨Nat.le_of_ble_eq_true rfl, Nat.le_of_ble_eq_true rfl⟩ (fun r' n' M10 hp => ?_)
      obtain ⟨hr', hn', hR10, hf10⟩ := hp
      rw [hn', hr']
      obtain ⟨g10_0, g10_1, g10_2, g10_3, g10_4, g10_5⟩ := id hR10
      show xW p l e ({ frames := 3, cells := 0, slots := 0, locals := 67 } : Room) s m args below meth c D xcl (x_A M nx) 1 (MQ below (x_Q D xcl (x_A M nx) (rPost (some (.int (bI (ask tx n wd)))) nx M a sg (wds tx n 6 6 0 0 wd).2.2.2 (wds tx n 6 6 0 0 wd).2.1 n (wds tx n 6 6 0 0 wd).2.2.1 (if ask tx n wd then nI 0 else nI 1) (if ask tx n wd then (-1) else nI (wds tx n 6 6 0 0 wd).2.2.1))) args s 0 0 (x_A M nx)) 0 0 (nx) M10 33 [(0, .ref (a))] [.int (nI (0))]
      refine x_if_eq F (tgt := 40) dR_readAsked_33 (by decide) (fun c3 => ?_) (fun c3 => ?_)
      · skip
        have c3 : 0 = 0 := by
          exact (nI_eq (a := 0) (b := 0) (by omega) (by omega)).mp c3
        refine x_iconst F (v := nI (0)) dR_readAsked_40 (by decide) ?_
        exact x_zret F hr (by rfl) dR_readAsked_41 (by rw [show ask tx n wd = false from by simp only [ask, c1]; simp; exact c2]; refine ⟨rfl, rfl, ?_, fun b hb => (hf10 _ (by omega)).trans ((hf9 _ (by omega)).trans ((hf8 _ (by omega)).trans (rfl)))⟩; have z := hR10; first | exact z | (rw [c1] at z; exact z))
      · skip
        have c3 : 0 ≠ 0 := by
          have z : ¬ (0 = 0) := fun zz => c3 ((nI_eq (a := 0) (b := 0) (by omega) (by omega)).mpr zz)
          omega
        exact absurd c3 (by decide)
end
section
def bhl (cd : Nat → Int64) (n : Nat) (co : Int64) : Bool := match n with
  | 0 => true
  | k + 1 => cb co (cd k)
def mds (ds : Nat → Int32) (n : Nat) : Int32 := match n with
  | 0 => nI 0
  | k + 1 => ds k + nI 1
set_option maxHeartbeats 4000000 in
set_option maxRecDepth 100000 in
theorem cT_behindLast_0 (l : Launch) (nx : Nat) (M : xH) (a : Nat) (cd : Nat → Int64) (ds ps ch wc : Nat → Int32) (wd : Nat → Int64) (cp : Nat) (hT : tAt M a cd ds ps ch wc wd 0 cp) (co : Int64) : xC l xcl yT_comesBehindLast (xw (Cond.code yT_comesBehindLast bT_comesBehindLast 3 (some .boolean))) ({ frames := 2, cells := 0, slots := 0, locals := 51 } : Room) [.ref (a), .long (co)] nx M (x_is (some (.int (nI (1)))) nx M) := by
  obtain ⟨h0, h1, h2, h3, h4, h5, h6, hz, hcp⟩ := id hT
  refine yC (by decide) (Nat.le_of_ble_eq_true rfl) ?_
  intro p e s m args below meth c D F hr hn
  refine x_aload_n F 0 dT_comesBehindLast_0 rfl rfl ?_
  refine x_get (ci := 4) F 6 (x_in inT) rfl (by decide) (x_m kfT_31) dT_comesBehindLast_1 h0 rfl ?_
  refine x_if_eq F (tgt := 24) dT_comesBehindLast_4 (by decide) (fun c1 => ?_) (fun c1 => ?_)
  · skip
    have c1 : 0 = 0 := by
      exact (nI_eq (a := 0) (b := 0) (by omega) (by omega)).mp c1
    refine x_iconst F (v := nI (1)) dT_comesBehindLast_24 (by decide) ?_
    refine x_goto F (tgt := 29) dT_comesBehindLast_25 (by decide) ?_
    exact x_zret F hr (by rfl) dT_comesBehindLast_29 (x_is_i _ _ _)
  · skip
    have c1 : 0 ≠ 0 := by
      have z : ¬ (0 = 0) := fun zz => c1 ((nI_eq (a := 0) (b := 0) (by omega) (by omega)).mpr zz)
      omega
    exact absurd c1 (by decide)
set_option maxHeartbeats 4000000 in
set_option maxRecDepth 100000 in
theorem cT_behindLast_S (l : Launch) (nx : Nat) (M : xH) (a : Nat) (cd : Nat → Int64) (ds ps ch wc : Nat → Int32) (wd : Nat → Int64) (k cp : Nat) (hT : tAt M a cd ds ps ch wc wd (k + 1) cp) (co : Int64) : xC l xcl yT_comesBehindLast (xw (Cond.code yT_comesBehindLast bT_comesBehindLast 3 (some .boolean))) ({ frames := 2, cells := 0, slots := 0, locals := 51 } : Room) [.ref (a), .long (co)] nx M (x_is (some (.int (bI (cb co (cd k))))) nx M) := by
  obtain ⟨h0, h1, h2, h3, h4, h5, h6, hz, hcp⟩ := id hT
  refine yC (by decide) (Nat.le_of_ble_eq_true rfl) ?_
  intro p e s m args below meth c D F hr hn
  refine x_aload_n F 0 dT_comesBehindLast_0 rfl rfl ?_
  refine x_get (ci := 4) F 6 (x_in inT) rfl (by decide) (x_m kfT_31) dT_comesBehindLast_1 h0 rfl ?_
  refine x_if_eq F (tgt := 24) dT_comesBehindLast_4 (by decide) (fun c1 => ?_) (fun c1 => ?_)
  · skip
    have c1 : k + 1 = 0 := by
      exact (nI_eq (a := k + 1) (b := 0) (by omega) (by omega)).mp c1
    exact absurd c1 (by omega)
  · skip
    have c1 : k + 1 ≠ 0 := by
      have z : ¬ (k + 1 = 0) := fun zz => c1 ((nI_eq (a := k + 1) (b := 0) (by omega) (by omega)).mpr zz)
      omega
    refine x_lload_n F 1 dT_comesBehindLast_7 rfl rfl ?_
    refine x_aload_n F 0 dT_comesBehindLast_8 rfl rfl ?_
    refine x_aload_n F 0 dT_comesBehindLast_9 rfl rfl ?_
    refine x_get (ci := 4) F 6 (x_in inT) rfl (by decide) (x_m kfT_31) dT_comesBehindLast_10 h0 rfl ?_
    refine x_iconst F (v := nI (1)) dT_comesBehindLast_13 (by decide) ?_
    refine x_isub F dT_comesBehindLast_14 ?_
    refine xW.toi (nI (k)) (nI_pred k) ?_
    refine yV (n := 1) (As := [.int (nI (k))]) (ci := 4) F kmT_56 kiT_codeOf ksT_codeOf knT kcT_codeOf (by decide +kernel) dT_comesBehindLast_15 (cT_codeOf l (nx) M (a) cd ds ps ch wc wd (k + 1) cp hT k (by omega)) rfl h0 rfl rfl (Nat.le_of_ble_eq_true rfl) ⟨Nat.le_of_ble_eq_true rfl, Nat.le_of_ble_eq_true rfl⟩ ⟨Nat.le_of_ble_eq_true rfl, Nat.le_of_ble_eq_true rfl⟩ ?_
    refine yS (n := 2) (As := [.long (co), .long (cd (k))]) F kmT_60 ktC_comesBehind knC kcC_comesBehind (by decide +kernel) dT_comesBehindLast_18 (cC_comesBehind l (nx) M (co) (cd (k))) rfl rfl (Nat.le_of_ble_eq_true rfl) ⟨Nat.le_of_ble_eq_true rfl, Nat.le_of_ble_eq_true rfl⟩ ⟨Nat.le_of_ble_eq_true rfl, Nat.le_of_ble_eq_true rfl⟩ ?_
    refine x_if_eq F (tgt := 28) dT_comesBehindLast_21 (by decide) (fun c2 => ?_) (fun c2 => ?_)
    · skip
      have c2 : (cb (co) (cd (k))) = false := bI_0 c2
      refine x_iconst F (v := nI (0)) dT_comesBehindLast_28 (by decide) ?_
      exact x_zret F hr (by rfl) dT_comesBehindLast_29 (x_f (c2))
    · skip
      have c2 : (cb (co) (cd (k))) = true := bI_1 c2
      refine x_iconst F (v := nI (1)) dT_comesBehindLast_24 (by decide) ?_
      refine x_goto F (tgt := 29) dT_comesBehindLast_25 (by decide) ?_
      exact x_zret F hr (by rfl) dT_comesBehindLast_29 (x_t (c2))
theorem cT_behindLast (l : Launch) (nx : Nat) (M : xH) (a : Nat) (cd : Nat → Int64) (ds ps ch wc : Nat → Int32) (wd : Nat → Int64) (n cp : Nat) (hT : tAt M a cd ds ps ch wc wd n cp) (co : Int64) : xC l xcl yT_comesBehindLast (xw (Cond.code yT_comesBehindLast bT_comesBehindLast 3 (some .boolean))) ({ frames := 2, cells := 0, slots := 0, locals := 51 } : Room) [.ref (a), .long (co)] nx M (x_is (some (.int (bI (bhl cd n co)))) nx M) := by
  cases n with
  | zero => exact cT_behindLast_0 l nx M a cd ds ps ch wc wd cp hT co
  | succ k => exact cT_behindLast_S l nx M a cd ds ps ch wc wd k cp hT co
set_option maxHeartbeats 4000000 in
set_option maxRecDepth 100000 in
theorem cT_most_0 (l : Launch) (nx : Nat) (M : xH) (a : Nat) (cd : Nat → Int64) (ds ps ch wc : Nat → Int32) (wd : Nat → Int64) (cp : Nat) (hT : tAt M a cd ds ps ch wc wd 0 cp) : xC l xcl yT_mostDashes (xw (Cond.code yT_mostDashes bT_mostDashes 1 (some .int))) ({ frames := 2, cells := 0, slots := 0, locals := 42 } : Room) [.ref (a)] nx M (x_is (some (.int (nI (0)))) nx M) := by
  obtain ⟨h0, h1, h2, h3, h4, h5, h6, hz, hcp⟩ := id hT
  refine yC (by decide) (Nat.le_of_ble_eq_true rfl) ?_
  intro p e s m args below meth c D F hr hn
  refine x_aload_n F 0 dT_mostDashes_0 rfl rfl ?_
  refine x_aload_n F 0 dT_mostDashes_1 rfl rfl ?_
  refine x_get (ci := 4) F 6 (x_in inT) rfl (by decide) (x_m kfT_31) dT_mostDashes_2 h0 rfl ?_
  refine x_iconst F (v := nI (1)) dT_mostDashes_5 (by decide) ?_
  refine x_isub F dT_mostDashes_6 ?_
  refine xW.toi ((-1)) (by decide) ?_
  refine yV (n := 1) (As := [.int ((-1))]) (ci := 4) F kmT_42 kiT_dashesOf ksT_dashesOf knT kcT_dashesOf (by decide +kernel) dT_mostDashes_7 (cT_dashesOfN l (nx) M (a) cd ds ps ch wc wd 0 cp hT (-1) (m1_out _)) rfl h0 rfl rfl (Nat.le_of_ble_eq_true rfl) ⟨Nat.le_of_ble_eq_true rfl, Nat.le_of_ble_eq_true rfl⟩ ⟨Nat.le_of_ble_eq_true rfl, Nat.le_of_ble_eq_true rfl⟩ ?_
  refine x_iconst F (v := nI (1)) dT_mostDashes_10 (by decide) ?_
  refine x_iadd F dT_mostDashes_11 ?_
  refine xW.toi (nI (0)) (by decide) ?_
  exact x_iret F hr dT_mostDashes_12 (x_is_i _ _ _)
set_option maxHeartbeats 4000000 in
set_option maxRecDepth 100000 in
theorem cT_most_S (l : Launch) (nx : Nat) (M : xH) (a : Nat) (cd : Nat → Int64) (ds ps ch wc : Nat → Int32) (wd : Nat → Int64) (k cp : Nat) (hT : tAt M a cd ds ps ch wc wd (k + 1) cp) : xC l xcl yT_mostDashes (xw (Cond.code yT_mostDashes bT_mostDashes 1 (some .int))) ({ frames := 2, cells := 0, slots := 0, locals := 42 } : Room) [.ref (a)] nx M (x_is (some (.int (ds (k) + nI (1)))) nx M) := by
  obtain ⟨h0, h1, h2, h3, h4, h5, h6, hz, hcp⟩ := id hT
  refine yC (by decide) (Nat.le_of_ble_eq_true rfl) ?_
  intro p e s m args below meth c D F hr hn
  refine x_aload_n F 0 dT_mostDashes_0 rfl rfl ?_
  refine x_aload_n F 0 dT_mostDashes_1 rfl rfl ?_
  refine x_get (ci := 4) F 6 (x_in inT) rfl (by decide) (x_m kfT_31) dT_mostDashes_2 h0 rfl ?_
  refine x_iconst F (v := nI (1)) dT_mostDashes_5 (by decide) ?_
  refine x_isub F dT_mostDashes_6 ?_
  refine xW.toi (nI (k)) (nI_pred k) ?_
  refine yV (n := 1) (As := [.int (nI (k))]) (ci := 4) F kmT_42 kiT_dashesOf ksT_dashesOf knT kcT_dashesOf (by decide +kernel) dT_mostDashes_7 (cT_dashesOf l (nx) M (a) cd ds ps ch wc wd (k + 1) cp hT k (by omega)) rfl h0 rfl rfl (Nat.le_of_ble_eq_true rfl) ⟨Nat.le_of_ble_eq_true rfl, Nat.le_of_ble_eq_true rfl⟩ ⟨Nat.le_of_ble_eq_true rfl, Nat.le_of_ble_eq_true rfl⟩ ?_
  refine x_iconst F (v := nI (1)) dT_mostDashes_10 (by decide) ?_
  refine x_iadd F dT_mostDashes_11 ?_
  exact x_iret F hr dT_mostDashes_12 (x_e rfl)
theorem cT_most (l : Launch) (nx : Nat) (M : xH) (a : Nat) (cd : Nat → Int64) (ds ps ch wc : Nat → Int32) (wd : Nat → Int64) (n cp : Nat) (hT : tAt M a cd ds ps ch wc wd n cp) : xC l xcl yT_mostDashes (xw (Cond.code yT_mostDashes bT_mostDashes 1 (some .int))) ({ frames := 2, cells := 0, slots := 0, locals := 42 } : Room) [.ref (a)] nx M (x_is (some (.int (mds ds n))) nx M) := by
  cases n with
  | zero => exact cT_most_0 l nx M a cd ds ps ch wc wd cp hT 
  | succ k => exact cT_most_S l nx M a cd ds ps ch wc wd k cp hT 
set_option maxHeartbeats 4000000 in
set_option maxRecDepth 100000 in
theorem cR_readCodeAndWords (l : Launch) (nx : Nat) (M : xH) (a : Nat) (sg : Nat → Int32) (wd : Nat → Int64) (cw n q : Nat) (fk fp : Int32) (hT : rAt M a sg wd cw n q fk fp) (tx : Nat → Nat) (hX : sAt sg tx n) (hqn : q ≤ n) (t : Nat) (cd : Nat → Int64) (ds ps ch wc : Nat → Int32) (tw : Nat → Int64) (tn cp : Nat) (hTr : tAt M t cd ds ps ch wc tw tn cp) (hdis : t + 6 < a ∨ a + 2 < t) (ht40 : tn < 40) (hcp : cp ≤ tn) (dd : Nat) (hdd : dd ≤ 4) : xC l xcl yR_readCodeAndWords (xw (Cond.code yR_readCodeAndWords bR_readCodeAndWords 6 (some .boolean))) ({ frames := 3, cells := 0, slots := 0, locals := 73 } : Room) [.ref (a), .ref (t), .int (nI (dd))] nx M (cwPost nx M a sg wd n fk fp t cd ds ps ch wc tw tn cp tx dd q (cwK tx n wd cd ds tn dd q)) := by
  obtain ⟨h0, h1, h2, hcw, hn4, hq4⟩ := id hT
  obtain ⟨u0, u1, u2, u3, u4, u5, u6, u7, u8⟩ := id hTr
  refine yC (by decide) (Nat.le_of_ble_eq_true rfl) ?_
  intro p e s m args below meth c D F hr hn
  refine x_aload_n F 0 dR_readCodeAndWords_0 rfl rfl ?_
  refine x_get (ci := 3) F 4 (x_in inR) rfl (by decide) (x_m kfR_26) dR_readCodeAndWords_1 h0 rfl ?_
  refine x_istore_n F [(3, .int (nI (q))), (0, .ref (a)), (1, .ref (t)), (2, .int (nI (dd)))] dR_readCodeAndWords_4 rfl (by decide) rfl ?_
  refine x_aload_n F 1 dR_readCodeAndWords_5 rfl rfl ?_
  refine yVr (n := 0) (As := []) (ci := 3) F kmR_77 kiR_readCode ksR_readCode knR kcR_readCode (by decide +kernel) dR_readCodeAndWords_6 (cR_readCode l (nx) M (a) sg wd cw n q fk fp hT tx hX (by omega)) rfl h0 rfl rfl (Nat.le_of_ble_eq_true rfl) ⟨Nat.le_of_ble_eq_true rfl, Nat.le_of_ble_eq_true rfl⟩ ⟨Nat.le_of_ble_eq_true rfl, Nat.le_of_ble_eq_true rfl⟩ (fun r' n' M21 hp => ?_)
  obtain ⟨hr', hn', hR21, hf21⟩ := hp
  rw [hn', hr']
  obtain ⟨g21_0, g21_1, g21_2, g21_3, g21_4, g21_5⟩ := id hR21
  show xW p l e ({ frames := 3, cells := 0, slots := 0, locals := 73 } : Room) s m args below meth c D xcl (x_A M nx) 6 (MQ below (x_Q D xcl (x_A M nx) (cwPost nx M a sg wd n fk fp t cd ds ps ch wc tw tn cp tx dd q (cwK tx n wd cd ds tn dd q))) args s 0 0 (x_A M nx)) 0 0 (nx) M21 9 [(3, .int (nI (q))), (0, .ref (a)), (1, .ref (t)), (2, .int (nI (dd)))] [.long (lN (rc tx (n) (q)))]
  refine x_lstore F [(4, .long (lN (rc tx (n) (q)))), (3, .int (nI (q))), (0, .ref (a)), (1, .ref (t)), (2, .int (nI (dd)))] dR_readCodeAndWords_9 (by decide) rfl ?_
  have hdn : q + dN tx n q ≤ n := hrun_n rfl _ _ _ _ hqn
  refine x_lload F 0 dR_readCodeAndWords_11 rfl ?_
  refine x_lconst F (v := 0) dR_readCodeAndWords_13 (by decide) ?_
  refine x_lcmp F dR_readCodeAndWords_14 ?_
  refine x_if_ne F (tgt := 28) dR_readCodeAndWords_15 (by decide) (fun c1 => ?_) (fun c1 => ?_)
  · skip
    have c1 : ¬ lN (rc tx (n) (q)) = 0 := fun z => c1 ((lg_cmp_eq (lN (rc tx (n) (q))) (0)).mpr z)
    refine x_aload_n F 3 dR_readCodeAndWords_28 rfl rfl ?_
    refine x_aload_n F 3 dR_readCodeAndWords_29 rfl rfl ?_
    refine x_iload_n F 4 dR_readCodeAndWords_30 rfl rfl ?_
    refine yV (n := 1) (As := [.int (nI (dd))]) (ci := 4) F kmR_81 kiT_parentFor ksT_parentFor knT kcT_parentFor (by decide +kernel) dR_readCodeAndWords_31 (cT_parentFor l (nx) M21 (t) cd ds ps ch wc tw tn cp (tAt_fr hTr (fun b _ _ => hf21 b (by omega))) (nI (dd))) rfl ((hf21 _ (by omega)).trans u0) rfl rfl (Nat.le_of_ble_eq_true rfl) ⟨Nat.le_of_ble_eq_true rfl, Nat.le_of_ble_eq_true rfl⟩ ⟨Nat.le_of_ble_eq_true rfl, Nat.le_of_ble_eq_true rfl⟩ ?_
    rcases o_cases (par ds (nI dd) tn) with hpj | ⟨j, hpj⟩
    · skip
      refine xW.ste (st' := [.int ((-1)), .ref (t)]) (by show ([.int (oi (par ds (nI (dd)) tn)), .ref (t)] : List Value) = _; rw [hpj]; rfl) ?_
      refine x_lload F 0 dR_readCodeAndWords_34 rfl ?_
      refine yV (n := 2) (As := [.int ((-1)), .long (lN (rc tx (n) (q)))]) (ci := 4) F kmR_85 kiT_fitsBelow ksT_fitsBelow knT kcT_fitsBelow (by decide +kernel) dR_readCodeAndWords_36 (cT_fitsBelowN l (nx) M21 (t) cd ds ps ch wc tw tn cp (tAt_fr hTr (fun b _ _ => hf21 b (by omega))) (-1) (m1_out _) (lN (rc tx (n) (q)))) rfl ((hf21 _ (by omega)).trans u0) rfl rfl (Nat.le_of_ble_eq_true rfl) ⟨Nat.le_of_ble_eq_true rfl, Nat.le_of_ble_eq_true rfl⟩ ⟨Nat.le_of_ble_eq_true rfl, Nat.le_of_ble_eq_true rfl⟩ ?_
      refine x_if_ne F (tgt := 49) dR_readCodeAndWords_39 (by decide) (fun c2 => ?_) (fun c2 => ?_)
      · skip
        have c2 : (decide ((lN (rc tx (n) (q))) < 200)) = true := bI_1 c2
        have hfit : fit cd ds tn dd (rc tx n q) = true := by rw [fit, hpj]; exact c2
        refine x_aload_n F 3 dR_readCodeAndWords_49 rfl rfl ?_
        refine x_lload F 0 dR_readCodeAndWords_50 rfl ?_
        refine yV (n := 1) (As := [.long (lN (rc tx (n) (q)))]) (ci := 4) F kmR_89 kiT_comesBehindLast ksT_comesBehindLast knT kcT_comesBehindLast (by decide +kernel) dR_readCodeAndWords_52 (cT_behindLast l (nx) M21 (t) cd ds ps ch wc tw tn cp (tAt_fr hTr (fun b _ _ => hf21 b (by omega))) (lN (rc tx (n) (q)))) rfl ((hf21 _ (by omega)).trans u0) rfl rfl (Nat.le_of_ble_eq_true rfl) ⟨Nat.le_of_ble_eq_true rfl, Nat.le_of_ble_eq_true rfl⟩ ⟨Nat.le_of_ble_eq_true rfl, Nat.le_of_ble_eq_true rfl⟩ ?_
        refine x_if_ne F (tgt := 65) dR_readCodeAndWords_55 (by decide) (fun c3 => ?_) (fun c3 => ?_)
        · skip
          have c3 : (bhl cd tn (lN (rc tx (n) (q)))) = true := bI_1 c3
          refine x_aload_n F 2 dR_readCodeAndWords_65 rfl rfl ?_
          refine x_iconst F (v := nI (4)) dR_readCodeAndWords_66 (by decide) ?_
          refine yVr (n := 1) (As := [.int (nI (4))]) (ci := 3) F kmR_50 kiR_readWords ksR_readWords knR kcR_readWords (by decide +kernel) dR_readCodeAndWords_67 (cR_readWords l (nx) M21 (a) sg wd cw n (q + dN tx n q) fk fp hR21 tx hX (by omega) 4 (by omega)) rfl g21_0 rfl rfl (Nat.le_of_ble_eq_true rfl) ⟨Nat.le_of_ble_eq_true rfl, Nat.le_of_ble_eq_true rfl⟩ ⟨Nat.le_of_ble_eq_true rfl, Nat.le_of_ble_eq_true rfl⟩ (fun r' n' M22 hp => ?_)
          obtain ⟨hr', hn', hR22, hf22⟩ := hp
          rw [hn', hr']
          obtain ⟨g22_0, g22_1, g22_2, g22_3, g22_4, g22_5⟩ := id hR22
          show xW p l e ({ frames := 3, cells := 0, slots := 0, locals := 73 } : Room) s m args below meth c D xcl (x_A M nx) 6 (MQ below (x_Q D xcl (x_A M nx) (cwPost nx M a sg wd n fk fp t cd ds ps ch wc tw tn cp tx dd q (cwK tx n wd cd ds tn dd q))) args s 0 0 (x_A M nx)) 0 0 (nx) M22 70 [(4, .long (lN (rc tx (n) (q)))), (3, .int (nI (q))), (0, .ref (a)), (1, .ref (t)), (2, .int (nI (dd)))] [.int (bI ((wds tx n 4 4 0 ((q + dN tx n q)) wd).1))]
          refine x_if_ne F (tgt := 75) dR_readCodeAndWords_70 (by decide) (fun c4 => ?_) (fun c4 => ?_)
          · skip
            have c4 : ((wds tx n 4 4 0 ((q + dN tx n q)) wd).1) = true := bI_1 c4
            have hb4 := wds_b (tx := tx) (n := n) (mo := 4) (f := 4) (k := 0) (q := q + dN tx n q) (wd := wd) (by omega) (by omega)
            refine x_aload_n F 2 dR_readCodeAndWords_75 rfl rfl ?_
            refine yV (n := 0) (As := []) (ci := 3) F kmR_53 kiR_here ksR_here knR kcR_here (by decide +kernel) dR_readCodeAndWords_76 (cR_here l (nx) M22 (a) sg ((wds tx n 4 4 0 ((q + dN tx n q)) wd).2.2.2) ((wds tx n 4 4 0 ((q + dN tx n q)) wd).2.1) n ((wds tx n 4 4 0 ((q + dN tx n q)) wd).2.2.1) (if (wds tx n 4 4 0 ((q + dN tx n q)) wd).1 then fk else nI 1) (if (wds tx n 4 4 0 ((q + dN tx n q)) wd).1 then fp else nI (wds tx n 4 4 0 ((q + dN tx n q)) wd).2.2.1) hR22 tx hX) rfl g22_0 rfl rfl (Nat.le_of_ble_eq_true rfl) ⟨Nat.le_of_ble_eq_true rfl, Nat.le_of_ble_eq_true rfl⟩ ⟨Nat.le_of_ble_eq_true rfl, Nat.le_of_ble_eq_true rfl⟩ ?_
            have hh76 := hx_lt (q := ((wds tx n 4 4 0 ((q + dN tx n q)) wd).2.2.1)) hX
            refine x_bipush F (v := nI (59)) dR_readCodeAndWords_79 (by decide) ?_
            refine x_icmp_eq F (tgt := 94) dR_readCodeAndWords_81 (by decide) (fun c5 => ?_) (fun c5 => ?_)
            · skip
              have c5 : hx tx (n) (((wds tx n 4 4 0 ((q + dN tx n q)) wd).2.2.1)) = 59 := by
                exact (nI_eq (a := hx tx (n) (((wds tx n 4 4 0 ((q + dN tx n q)) wd).2.2.1))) (b := 59) (by omega) (by omega)).mp c5
              have hS9 := (hx_in (K := fun c => decide (c = 59)) rfl (tx := tx) (n := n) (q := (wds tx n 4 4 0 (q + dN tx n q) wd).2.2.1) (by simpa using c5)).1
              refine x_aload_n F 2 dR_readCodeAndWords_94 rfl rfl ?_
              refine x_dup F dR_readCodeAndWords_95 rfl ?_
              refine x_get (ci := 3) F 4 (x_in inR) rfl (by decide) (x_m kfR_26) dR_readCodeAndWords_96 g22_0 rfl ?_
              refine x_iconst F (v := nI (1)) dR_readCodeAndWords_99 (by decide) ?_
              refine x_iadd F dR_readCodeAndWords_100 ?_
              refine xW.toi (nI ((wds tx n 4 4 0 ((q + dN tx n q)) wd).2.2.1 + 1)) (nI_add _ _) ?_
              refine x_put (ci := 3) (ty := .int) F 4 (x_in inR) tR tR_ok nR rfl (by decide) (x_m kfR_26) dR_readCodeAndWords_101 rfl (by decide +kernel) rfl rfl g22_0 (Nat.le_of_ble_eq_true rfl) ?_
              show xW p l e ({ frames := 3, cells := 0, slots := 0, locals := 73 } : Room) s m args below meth c D xcl (x_A M nx) 6 (MQ below (x_Q D xcl (x_A M nx) (cwPost nx M a sg wd n fk fp t cd ds ps ch wc tw tn cp tx dd q (cwK tx n wd cd ds tn dd q))) args s 0 0 (x_A M nx)) 0 0 (nx) (x_up M22 (a) (.inr (3, [.ref (a + 1), .ref (a + 2), .int (nI ((wds tx n 4 4 0 ((q + dN tx n q)) wd).2.1)), .int (nI (n)), .int (nI ((wds tx n 4 4 0 ((q + dN tx n q)) wd).2.2.1 + 1)), .int (if (wds tx n 4 4 0 ((q + dN tx n q)) wd).1 then fk else nI 1), .int (if (wds tx n 4 4 0 ((q + dN tx n q)) wd).1 then fp else nI (wds tx n 4 4 0 ((q + dN tx n q)) wd).2.2.1)]))) 104 [(4, .long (lN (rc tx (n) (q)))), (3, .int (nI (q))), (0, .ref (a)), (1, .ref (t)), (2, .int (nI (dd)))] []
              refine x_aload_n F 3 dR_readCodeAndWords_104 rfl rfl ?_
              refine x_lload F 0 dR_readCodeAndWords_105 rfl ?_
              refine x_iload_n F 4 dR_readCodeAndWords_107 rfl rfl ?_
              refine x_aload_n F 2 dR_readCodeAndWords_108 rfl rfl ?_
              refine yVr (n := 3) (As := [.long (lN (rc tx (n) (q))), .int (nI (dd)), .ref (a)]) (ci := 4) F kmR_93 kiT_add ksT_add knT kcT_add (by decide +kernel) dR_readCodeAndWords_109 (cT_add l (nx) (x_up M22 (a) (.inr (3, [.ref (a + 1), .ref (a + 2), .int (nI ((wds tx n 4 4 0 ((q + dN tx n q)) wd).2.1)), .int (nI (n)), .int (nI ((wds tx n 4 4 0 ((q + dN tx n q)) wd).2.2.1 + 1)), .int (if (wds tx n 4 4 0 ((q + dN tx n q)) wd).1 then fk else nI 1), .int (if (wds tx n 4 4 0 ((q + dN tx n q)) wd).1 then fp else nI (wds tx n 4 4 0 ((q + dN tx n q)) wd).2.2.1)]))) (t) cd ds ps ch wc tw tn cp (tAt_fr (tAt_fr (tAt_fr hTr (fun b _ _ => hf21 b (by omega))) (fun b _ _ => hf22 b (by omega))) (fun b _ _ => x_up_n (by omega))) (a) sg ((wds tx n 4 4 0 ((q + dN tx n q)) wd).2.2.2) ((wds tx n 4 4 0 ((q + dN tx n q)) wd).2.1) n ((wds tx n 4 4 0 ((q + dN tx n q)) wd).2.2.1 + 1) (if (wds tx n 4 4 0 ((q + dN tx n q)) wd).1 then fk else nI 1) (if (wds tx n 4 4 0 ((q + dN tx n q)) wd).1 then fp else nI (wds tx n 4 4 0 ((q + dN tx n q)) wd).2.2.1) ⟨x_up_s, (x_up_k g22_1 (by omega)), (x_up_k g22_2 (by omega)), by omega, by omega, by omega⟩ (by omega) (by omega) (by omega) (by omega) (lN (rc tx (n) (q))) (nI (dd))) rfl (x_up_k ((hf22 _ (by omega)).trans ((hf21 _ (by omega)).trans u0)) (by omega)) rfl rfl (Nat.le_of_ble_eq_true rfl) ⟨Nat.le_of_ble_eq_true rfl, Nat.le_of_ble_eq_true rfl⟩ ⟨Nat.le_of_ble_eq_true rfl, Nat.le_of_ble_eq_true rfl⟩ (fun r' n' M103 hp => ?_)
              obtain ⟨hr', hn', hT103, hf103⟩ := hp
              rw [hn', hr']
              obtain ⟨v103_0, v103_1, v103_2, v103_3, v103_4, v103_5, v103_6, v103_7, v103_8⟩ := id hT103
              show xW p l e ({ frames := 3, cells := 0, slots := 0, locals := 73 } : Room) s m args below meth c D xcl (x_A M nx) 6 (MQ below (x_Q D xcl (x_A M nx) (cwPost nx M a sg wd n fk fp t cd ds ps ch wc tw tn cp tx dd q (cwK tx n wd cd ds tn dd q))) args s 0 0 (x_A M nx)) 0 0 (nx) M103 112 [(4, .long (lN (rc tx (n) (q)))), (3, .int (nI (q))), (0, .ref (a)), (1, .ref (t)), (2, .int (nI (dd)))] []
              refine x_iconst F (v := nI (1)) dR_readCodeAndWords_112 (by decide) ?_
              exact x_zret F hr (by rfl) dR_readCodeAndWords_113 (by rw [show cwK tx n wd cd ds tn dd q = none from by rw [cwK, if_neg (fun z => c1 (rc_n0.mpr z)), if_neg (by rw [hfit]; decide), if_neg (by rw [show bhd cd tn (rc tx n q) = true from c3]; decide), if_neg (by rw [c4]; decide), if_neg (fun z => z c5)]]; have z := (rAt_fr ⟨x_up_s, (x_up_k g22_1 (by omega)), (x_up_k g22_2 (by omega)), by omega, by omega, by omega⟩ (fun b _ _ => hf103 b (by omega))); first | exact ⟨rfl, fun b hb => (hf103 _ (by omega)).trans ((x_up_n (by omega)).trans ((hf22 _ (by omega)).trans ((hf21 _ (by omega)).trans (rfl)))), rfl, hT103, z⟩ | (rw [c4] at z; exact ⟨rfl, fun b hb => (hf103 _ (by omega)).trans ((x_up_n (by omega)).trans ((hf22 _ (by omega)).trans ((hf21 _ (by omega)).trans (rfl)))), rfl, hT103, z⟩))
            · skip
              have c5 : hx tx (n) (((wds tx n 4 4 0 ((q + dN tx n q)) wd).2.2.1)) ≠ 59 := by
                have z : ¬ (hx tx (n) (((wds tx n 4 4 0 ((q + dN tx n q)) wd).2.2.1)) = 59) := fun zz => c5 ((nI_eq (a := hx tx (n) (((wds tx n 4 4 0 ((q + dN tx n q)) wd).2.2.1))) (b := 59) (by omega) (by omega)).mpr zz)
                omega
              refine x_aload_n F 2 dR_readCodeAndWords_84 rfl rfl ?_
              refine x_iconst F (v := nI (1)) dR_readCodeAndWords_85 (by decide) ?_
              refine x_aload_n F 2 dR_readCodeAndWords_86 rfl rfl ?_
              refine x_get (ci := 3) F 4 (x_in inR) rfl (by decide) (x_m kfR_26) dR_readCodeAndWords_87 g22_0 rfl ?_
              refine yVr (n := 2) (As := [.int (nI (1)), .int (nI ((wds tx n 4 4 0 ((q + dN tx n q)) wd).2.2.1))]) (ci := 3) F kmR_42 kiR_fail ksR_fail knR kcR_fail (by decide +kernel) dR_readCodeAndWords_90 (cR_fail l (nx) M22 (a) sg ((wds tx n 4 4 0 ((q + dN tx n q)) wd).2.2.2) ((wds tx n 4 4 0 ((q + dN tx n q)) wd).2.1) n ((wds tx n 4 4 0 ((q + dN tx n q)) wd).2.2.1) (if (wds tx n 4 4 0 ((q + dN tx n q)) wd).1 then fk else nI 1) (if (wds tx n 4 4 0 ((q + dN tx n q)) wd).1 then fp else nI (wds tx n 4 4 0 ((q + dN tx n q)) wd).2.2.1) hR22 (nI (1)) (nI ((wds tx n 4 4 0 ((q + dN tx n q)) wd).2.2.1))) rfl g22_0 rfl rfl (Nat.le_of_ble_eq_true rfl) ⟨Nat.le_of_ble_eq_true rfl, Nat.le_of_ble_eq_true rfl⟩ ⟨Nat.le_of_ble_eq_true rfl, Nat.le_of_ble_eq_true rfl⟩ (fun r' n' M23 hp => ?_)
              obtain ⟨hr', hn', hR23, hf23⟩ := hp
              rw [hn', hr']
              obtain ⟨g23_0, g23_1, g23_2, g23_3, g23_4, g23_5⟩ := id hR23
              show xW p l e ({ frames := 3, cells := 0, slots := 0, locals := 73 } : Room) s m args below meth c D xcl (x_A M nx) 6 (MQ below (x_Q D xcl (x_A M nx) (cwPost nx M a sg wd n fk fp t cd ds ps ch wc tw tn cp tx dd q (cwK tx n wd cd ds tn dd q))) args s 0 0 (x_A M nx)) 0 0 (nx) M23 93 [(4, .long (lN (rc tx (n) (q)))), (3, .int (nI (q))), (0, .ref (a)), (1, .ref (t)), (2, .int (nI (dd)))] [.int (nI (0))]
              exact x_zret F hr (by rfl) dR_readCodeAndWords_93 (by rw [show cwK tx n wd cd ds tn dd q = some (1, (wds tx n 4 4 0 (q + dN tx n q) wd).2.2.1) from by rw [cwK, if_neg (fun z => c1 (rc_n0.mpr z)), if_neg (by rw [hfit]; decide), if_neg (by rw [show bhd cd tn (rc tx n q) = true from c3]; decide), if_neg (by rw [c4]; decide), if_pos c5]]; have z := hR23; first | exact ⟨rfl, fun b hb => (hf23 _ (by omega)).trans ((hf22 _ (by omega)).trans ((hf21 _ (by omega)).trans (rfl))), rfl, (tAt_fr (tAt_fr (tAt_fr hTr (fun b _ _ => hf21 b (by omega))) (fun b _ _ => hf22 b (by omega))) (fun b _ _ => hf23 b (by omega))), _, _, _, z⟩ | (rw [c4] at z; exact ⟨rfl, fun b hb => (hf23 _ (by omega)).trans ((hf22 _ (by omega)).trans ((hf21 _ (by omega)).trans (rfl))), rfl, (tAt_fr (tAt_fr (tAt_fr hTr (fun b _ _ => hf21 b (by omega))) (fun b _ _ => hf22 b (by omega))) (fun b _ _ => hf23 b (by omega))), _, _, _, z⟩))
          · skip
            have c4 : ((wds tx n 4 4 0 ((q + dN tx n q)) wd).1) = false := bI_0 c4
            refine x_iconst F (v := nI (0)) dR_readCodeAndWords_73 (by decide) ?_
            exact x_zret F hr (by rfl) dR_readCodeAndWords_74 (by rw [show cwK tx n wd cd ds tn dd q = some (1, (wds tx n 4 4 0 (q + dN tx n q) wd).2.2.1) from by rw [cwK, if_neg (fun z => c1 (rc_n0.mpr z)), if_neg (by rw [hfit]; decide), if_neg (by rw [show bhd cd tn (rc tx n q) = true from c3]; decide), if_pos c4]]; have z := hR22; first | exact ⟨rfl, fun b hb => (hf22 _ (by omega)).trans ((hf21 _ (by omega)).trans (rfl)), rfl, (tAt_fr (tAt_fr hTr (fun b _ _ => hf21 b (by omega))) (fun b _ _ => hf22 b (by omega))), _, _, _, z⟩ | (rw [c4] at z; exact ⟨rfl, fun b hb => (hf22 _ (by omega)).trans ((hf21 _ (by omega)).trans (rfl)), rfl, (tAt_fr (tAt_fr hTr (fun b _ _ => hf21 b (by omega))) (fun b _ _ => hf22 b (by omega))), _, _, _, z⟩))
        · skip
          have c3 : (bhl cd tn (lN (rc tx (n) (q)))) = false := bI_0 c3
          refine x_aload_n F 2 dR_readCodeAndWords_58 rfl rfl ?_
          refine x_iconst F (v := nI (4)) dR_readCodeAndWords_59 (by decide) ?_
          refine x_iload_n F 1 dR_readCodeAndWords_60 rfl rfl ?_
          refine yVr (n := 2) (As := [.int (nI (4)), .int (nI (q))]) (ci := 3) F kmR_42 kiR_fail ksR_fail knR kcR_fail (by decide +kernel) dR_readCodeAndWords_61 (cR_fail l (nx) M21 (a) sg wd cw n (q + dN tx n q) fk fp hR21 (nI (4)) (nI (q))) rfl g21_0 rfl rfl (Nat.le_of_ble_eq_true rfl) ⟨Nat.le_of_ble_eq_true rfl, Nat.le_of_ble_eq_true rfl⟩ ⟨Nat.le_of_ble_eq_true rfl, Nat.le_of_ble_eq_true rfl⟩ (fun r' n' M24 hp => ?_)
          obtain ⟨hr', hn', hR24, hf24⟩ := hp
          rw [hn', hr']
          obtain ⟨g24_0, g24_1, g24_2, g24_3, g24_4, g24_5⟩ := id hR24
          show xW p l e ({ frames := 3, cells := 0, slots := 0, locals := 73 } : Room) s m args below meth c D xcl (x_A M nx) 6 (MQ below (x_Q D xcl (x_A M nx) (cwPost nx M a sg wd n fk fp t cd ds ps ch wc tw tn cp tx dd q (cwK tx n wd cd ds tn dd q))) args s 0 0 (x_A M nx)) 0 0 (nx) M24 64 [(4, .long (lN (rc tx (n) (q)))), (3, .int (nI (q))), (0, .ref (a)), (1, .ref (t)), (2, .int (nI (dd)))] [.int (nI (0))]
          exact x_zret F hr (by rfl) dR_readCodeAndWords_64 (by rw [show cwK tx n wd cd ds tn dd q = some (4, q) from by rw [cwK, if_neg (fun z => c1 (rc_n0.mpr z)), if_neg (by rw [hfit]; decide), if_pos (show bhd cd tn (rc tx n q) = false from c3)]]; have z := hR24; first | exact ⟨rfl, fun b hb => (hf24 _ (by omega)).trans ((hf21 _ (by omega)).trans (rfl)), rfl, (tAt_fr (tAt_fr hTr (fun b _ _ => hf21 b (by omega))) (fun b _ _ => hf24 b (by omega))), _, _, _, z⟩ | (rw [hdummy] at z; exact ⟨rfl, fun b hb => (hf24 _ (by omega)).trans ((hf21 _ (by omega)).trans (rfl)), rfl, (tAt_fr (tAt_fr hTr (fun b _ _ => hf21 b (by omega))) (fun b _ _ => hf24 b (by omega))), _, _, _, z⟩))
      · skip
        have c2 : (decide ((lN (rc tx (n) (q))) < 200)) = false := bI_0 c2
        have hfit : fit cd ds tn dd (rc tx n q) = false := by rw [fit, hpj]; exact c2
        refine x_aload_n F 2 dR_readCodeAndWords_42 rfl rfl ?_
        refine x_iconst F (v := nI (3)) dR_readCodeAndWords_43 (by decide) ?_
        refine x_iload_n F 1 dR_readCodeAndWords_44 rfl rfl ?_
        refine yVr (n := 2) (As := [.int (nI (3)), .int (nI (q))]) (ci := 3) F kmR_42 kiR_fail ksR_fail knR kcR_fail (by decide +kernel) dR_readCodeAndWords_45 (cR_fail l (nx) M21 (a) sg wd cw n (q + dN tx n q) fk fp hR21 (nI (3)) (nI (q))) rfl g21_0 rfl rfl (Nat.le_of_ble_eq_true rfl) ⟨Nat.le_of_ble_eq_true rfl, Nat.le_of_ble_eq_true rfl⟩ ⟨Nat.le_of_ble_eq_true rfl, Nat.le_of_ble_eq_true rfl⟩ (fun r' n' M25 hp => ?_)
        obtain ⟨hr', hn', hR25, hf25⟩ := hp
        rw [hn', hr']
        obtain ⟨g25_0, g25_1, g25_2, g25_3, g25_4, g25_5⟩ := id hR25
        show xW p l e ({ frames := 3, cells := 0, slots := 0, locals := 73 } : Room) s m args below meth c D xcl (x_A M nx) 6 (MQ below (x_Q D xcl (x_A M nx) (cwPost nx M a sg wd n fk fp t cd ds ps ch wc tw tn cp tx dd q (cwK tx n wd cd ds tn dd q))) args s 0 0 (x_A M nx)) 0 0 (nx) M25 48 [(4, .long (lN (rc tx (n) (q)))), (3, .int (nI (q))), (0, .ref (a)), (1, .ref (t)), (2, .int (nI (dd)))] [.int (nI (0))]
        exact x_zret F hr (by rfl) dR_readCodeAndWords_48 (by rw [show cwK tx n wd cd ds tn dd q = some (3, q) from by rw [cwK, if_neg (fun z => c1 (rc_n0.mpr z)), if_pos hfit]]; have z := hR25; first | exact ⟨rfl, fun b hb => (hf25 _ (by omega)).trans ((hf21 _ (by omega)).trans (rfl)), rfl, (tAt_fr (tAt_fr hTr (fun b _ _ => hf21 b (by omega))) (fun b _ _ => hf25 b (by omega))), _, _, _, z⟩ | (rw [hdummy] at z; exact ⟨rfl, fun b hb => (hf25 _ (by omega)).trans ((hf21 _ (by omega)).trans (rfl)), rfl, (tAt_fr (tAt_fr hTr (fun b _ _ => hf21 b (by omega))) (fun b _ _ => hf25 b (by omega))), _, _, _, z⟩))
    · skip
      have hj : j < tn := (la_lt hpj).1
      refine xW.ste (st' := [.int (nI (j)), .ref (t)]) (by show ([.int (oi (par ds (nI (dd)) tn)), .ref (t)] : List Value) = _; rw [hpj]; rfl) ?_
      refine x_lload F 0 dR_readCodeAndWords_34 rfl ?_
      refine yV (n := 2) (As := [.int (nI (j)), .long (lN (rc tx (n) (q)))]) (ci := 4) F kmR_85 kiT_fitsBelow ksT_fitsBelow knT kcT_fitsBelow (by decide +kernel) dR_readCodeAndWords_36 (cT_fitsBelow l (nx) M21 (t) cd ds ps ch wc tw tn cp (tAt_fr hTr (fun b _ _ => hf21 b (by omega))) j (by omega) (lN (rc tx (n) (q)))) rfl ((hf21 _ (by omega)).trans u0) rfl rfl (Nat.le_of_ble_eq_true rfl) ⟨Nat.le_of_ble_eq_true rfl, Nat.le_of_ble_eq_true rfl⟩ ⟨Nat.le_of_ble_eq_true rfl, Nat.le_of_ble_eq_true rfl⟩ ?_
      refine x_if_ne F (tgt := 49) dR_readCodeAndWords_39 (by decide) (fun c6 => ?_) (fun c6 => ?_)
      · skip
        have c6 : ((! decide ((lN (rc tx (n) (q))) = cd j)) && decide (bw (cd j) 10 (lN (rc tx (n) (q))) = cd j)) = true := bI_1 c6
        have hfit : fit cd ds tn dd (rc tx n q) = true := by rw [fit, hpj]; exact c6
        refine x_aload_n F 3 dR_readCodeAndWords_49 rfl rfl ?_
        refine x_lload F 0 dR_readCodeAndWords_50 rfl ?_
        refine yV (n := 1) (As := [.long (lN (rc tx (n) (q)))]) (ci := 4) F kmR_89 kiT_comesBehindLast ksT_comesBehindLast knT kcT_comesBehindLast (by decide +kernel) dR_readCodeAndWords_52 (cT_behindLast l (nx) M21 (t) cd ds ps ch wc tw tn cp (tAt_fr hTr (fun b _ _ => hf21 b (by omega))) (lN (rc tx (n) (q)))) rfl ((hf21 _ (by omega)).trans u0) rfl rfl (Nat.le_of_ble_eq_true rfl) ⟨Nat.le_of_ble_eq_true rfl, Nat.le_of_ble_eq_true rfl⟩ ⟨Nat.le_of_ble_eq_true rfl, Nat.le_of_ble_eq_true rfl⟩ ?_
        refine x_if_ne F (tgt := 65) dR_readCodeAndWords_55 (by decide) (fun c7 => ?_) (fun c7 => ?_)
        · skip
          have c7 : (bhl cd tn (lN (rc tx (n) (q)))) = true := bI_1 c7
          refine x_aload_n F 2 dR_readCodeAndWords_65 rfl rfl ?_
          refine x_iconst F (v := nI (4)) dR_readCodeAndWords_66 (by decide) ?_
          refine yVr (n := 1) (As := [.int (nI (4))]) (ci := 3) F kmR_50 kiR_readWords ksR_readWords knR kcR_readWords (by decide +kernel) dR_readCodeAndWords_67 (cR_readWords l (nx) M21 (a) sg wd cw n (q + dN tx n q) fk fp hR21 tx hX (by omega) 4 (by omega)) rfl g21_0 rfl rfl (Nat.le_of_ble_eq_true rfl) ⟨Nat.le_of_ble_eq_true rfl, Nat.le_of_ble_eq_true rfl⟩ ⟨Nat.le_of_ble_eq_true rfl, Nat.le_of_ble_eq_true rfl⟩ (fun r' n' M26 hp => ?_)
          obtain ⟨hr', hn', hR26, hf26⟩ := hp
          rw [hn', hr']
          obtain ⟨g26_0, g26_1, g26_2, g26_3, g26_4, g26_5⟩ := id hR26
          show xW p l e ({ frames := 3, cells := 0, slots := 0, locals := 73 } : Room) s m args below meth c D xcl (x_A M nx) 6 (MQ below (x_Q D xcl (x_A M nx) (cwPost nx M a sg wd n fk fp t cd ds ps ch wc tw tn cp tx dd q (cwK tx n wd cd ds tn dd q))) args s 0 0 (x_A M nx)) 0 0 (nx) M26 70 [(4, .long (lN (rc tx (n) (q)))), (3, .int (nI (q))), (0, .ref (a)), (1, .ref (t)), (2, .int (nI (dd)))] [.int (bI ((wds tx n 4 4 0 ((q + dN tx n q)) wd).1))]
          refine x_if_ne F (tgt := 75) dR_readCodeAndWords_70 (by decide) (fun c8 => ?_) (fun c8 => ?_)
          · skip
            have c8 : ((wds tx n 4 4 0 ((q + dN tx n q)) wd).1) = true := bI_1 c8
            have hb4 := wds_b (tx := tx) (n := n) (mo := 4) (f := 4) (k := 0) (q := q + dN tx n q) (wd := wd) (by omega) (by omega)
            refine x_aload_n F 2 dR_readCodeAndWords_75 rfl rfl ?_
            refine yV (n := 0) (As := []) (ci := 3) F kmR_53 kiR_here ksR_here knR kcR_here (by decide +kernel) dR_readCodeAndWords_76 (cR_here l (nx) M26 (a) sg ((wds tx n 4 4 0 ((q + dN tx n q)) wd).2.2.2) ((wds tx n 4 4 0 ((q + dN tx n q)) wd).2.1) n ((wds tx n 4 4 0 ((q + dN tx n q)) wd).2.2.1) (if (wds tx n 4 4 0 ((q + dN tx n q)) wd).1 then fk else nI 1) (if (wds tx n 4 4 0 ((q + dN tx n q)) wd).1 then fp else nI (wds tx n 4 4 0 ((q + dN tx n q)) wd).2.2.1) hR26 tx hX) rfl g26_0 rfl rfl (Nat.le_of_ble_eq_true rfl) ⟨Nat.le_of_ble_eq_true rfl, Nat.le_of_ble_eq_true rfl⟩ ⟨Nat.le_of_ble_eq_true rfl, Nat.le_of_ble_eq_true rfl⟩ ?_
            have hh76 := hx_lt (q := ((wds tx n 4 4 0 ((q + dN tx n q)) wd).2.2.1)) hX
            refine x_bipush F (v := nI (59)) dR_readCodeAndWords_79 (by decide) ?_
            refine x_icmp_eq F (tgt := 94) dR_readCodeAndWords_81 (by decide) (fun c9 => ?_) (fun c9 => ?_)
            · skip
              have c9 : hx tx (n) (((wds tx n 4 4 0 ((q + dN tx n q)) wd).2.2.1)) = 59 := by
                exact (nI_eq (a := hx tx (n) (((wds tx n 4 4 0 ((q + dN tx n q)) wd).2.2.1))) (b := 59) (by omega) (by omega)).mp c9
              have hS9 := (hx_in (K := fun c => decide (c = 59)) rfl (tx := tx) (n := n) (q := (wds tx n 4 4 0 (q + dN tx n q) wd).2.2.1) (by simpa using c9)).1
              refine x_aload_n F 2 dR_readCodeAndWords_94 rfl rfl ?_
              refine x_dup F dR_readCodeAndWords_95 rfl ?_
              refine x_get (ci := 3) F 4 (x_in inR) rfl (by decide) (x_m kfR_26) dR_readCodeAndWords_96 g26_0 rfl ?_
              refine x_iconst F (v := nI (1)) dR_readCodeAndWords_99 (by decide) ?_
              refine x_iadd F dR_readCodeAndWords_100 ?_
              refine xW.toi (nI ((wds tx n 4 4 0 ((q + dN tx n q)) wd).2.2.1 + 1)) (nI_add _ _) ?_
              refine x_put (ci := 3) (ty := .int) F 4 (x_in inR) tR tR_ok nR rfl (by decide) (x_m kfR_26) dR_readCodeAndWords_101 rfl (by decide +kernel) rfl rfl g26_0 (Nat.le_of_ble_eq_true rfl) ?_
              show xW p l e ({ frames := 3, cells := 0, slots := 0, locals := 73 } : Room) s m args below meth c D xcl (x_A M nx) 6 (MQ below (x_Q D xcl (x_A M nx) (cwPost nx M a sg wd n fk fp t cd ds ps ch wc tw tn cp tx dd q (cwK tx n wd cd ds tn dd q))) args s 0 0 (x_A M nx)) 0 0 (nx) (x_up M26 (a) (.inr (3, [.ref (a + 1), .ref (a + 2), .int (nI ((wds tx n 4 4 0 ((q + dN tx n q)) wd).2.1)), .int (nI (n)), .int (nI ((wds tx n 4 4 0 ((q + dN tx n q)) wd).2.2.1 + 1)), .int (if (wds tx n 4 4 0 ((q + dN tx n q)) wd).1 then fk else nI 1), .int (if (wds tx n 4 4 0 ((q + dN tx n q)) wd).1 then fp else nI (wds tx n 4 4 0 ((q + dN tx n q)) wd).2.2.1)]))) 104 [(4, .long (lN (rc tx (n) (q)))), (3, .int (nI (q))), (0, .ref (a)), (1, .ref (t)), (2, .int (nI (dd)))] []
              refine x_aload_n F 3 dR_readCodeAndWords_104 rfl rfl ?_
              refine x_lload F 0 dR_readCodeAndWords_105 rfl ?_
              refine x_iload_n F 4 dR_readCodeAndWords_107 rfl rfl ?_
              refine x_aload_n F 2 dR_readCodeAndWords_108 rfl rfl ?_
              refine yVr (n := 3) (As := [.long (lN (rc tx (n) (q))), .int (nI (dd)), .ref (a)]) (ci := 4) F kmR_93 kiT_add ksT_add knT kcT_add (by decide +kernel) dR_readCodeAndWords_109 (cT_add l (nx) (x_up M26 (a) (.inr (3, [.ref (a + 1), .ref (a + 2), .int (nI ((wds tx n 4 4 0 ((q + dN tx n q)) wd).2.1)), .int (nI (n)), .int (nI ((wds tx n 4 4 0 ((q + dN tx n q)) wd).2.2.1 + 1)), .int (if (wds tx n 4 4 0 ((q + dN tx n q)) wd).1 then fk else nI 1), .int (if (wds tx n 4 4 0 ((q + dN tx n q)) wd).1 then fp else nI (wds tx n 4 4 0 ((q + dN tx n q)) wd).2.2.1)]))) (t) cd ds ps ch wc tw tn cp (tAt_fr (tAt_fr (tAt_fr hTr (fun b _ _ => hf21 b (by omega))) (fun b _ _ => hf26 b (by omega))) (fun b _ _ => x_up_n (by omega))) (a) sg ((wds tx n 4 4 0 ((q + dN tx n q)) wd).2.2.2) ((wds tx n 4 4 0 ((q + dN tx n q)) wd).2.1) n ((wds tx n 4 4 0 ((q + dN tx n q)) wd).2.2.1 + 1) (if (wds tx n 4 4 0 ((q + dN tx n q)) wd).1 then fk else nI 1) (if (wds tx n 4 4 0 ((q + dN tx n q)) wd).1 then fp else nI (wds tx n 4 4 0 ((q + dN tx n q)) wd).2.2.1) ⟨x_up_s, (x_up_k g26_1 (by omega)), (x_up_k g26_2 (by omega)), by omega, by omega, by omega⟩ (by omega) (by omega) (by omega) (by omega) (lN (rc tx (n) (q))) (nI (dd))) rfl (x_up_k ((hf26 _ (by omega)).trans ((hf21 _ (by omega)).trans u0)) (by omega)) rfl rfl (Nat.le_of_ble_eq_true rfl) ⟨Nat.le_of_ble_eq_true rfl, Nat.le_of_ble_eq_true rfl⟩ ⟨Nat.le_of_ble_eq_true rfl, Nat.le_of_ble_eq_true rfl⟩ (fun r' n' M104 hp => ?_)
              obtain ⟨hr', hn', hT104, hf104⟩ := hp
              rw [hn', hr']
              obtain ⟨v104_0, v104_1, v104_2, v104_3, v104_4, v104_5, v104_6, v104_7, v104_8⟩ := id hT104
              show xW p l e ({ frames := 3, cells := 0, slots := 0, locals := 73 } : Room) s m args below meth c D xcl (x_A M nx) 6 (MQ below (x_Q D xcl (x_A M nx) (cwPost nx M a sg wd n fk fp t cd ds ps ch wc tw tn cp tx dd q (cwK tx n wd cd ds tn dd q))) args s 0 0 (x_A M nx)) 0 0 (nx) M104 112 [(4, .long (lN (rc tx (n) (q)))), (3, .int (nI (q))), (0, .ref (a)), (1, .ref (t)), (2, .int (nI (dd)))] []
              refine x_iconst F (v := nI (1)) dR_readCodeAndWords_112 (by decide) ?_
              exact x_zret F hr (by rfl) dR_readCodeAndWords_113 (by rw [show cwK tx n wd cd ds tn dd q = none from by rw [cwK, if_neg (fun z => c1 (rc_n0.mpr z)), if_neg (by rw [hfit]; decide), if_neg (by rw [show bhd cd tn (rc tx n q) = true from c7]; decide), if_neg (by rw [c8]; decide), if_neg (fun z => z c9)]]; have z := (rAt_fr ⟨x_up_s, (x_up_k g26_1 (by omega)), (x_up_k g26_2 (by omega)), by omega, by omega, by omega⟩ (fun b _ _ => hf104 b (by omega))); first | exact ⟨rfl, fun b hb => (hf104 _ (by omega)).trans ((x_up_n (by omega)).trans ((hf26 _ (by omega)).trans ((hf21 _ (by omega)).trans (rfl)))), rfl, hT104, z⟩ | (rw [c8] at z; exact ⟨rfl, fun b hb => (hf104 _ (by omega)).trans ((x_up_n (by omega)).trans ((hf26 _ (by omega)).trans ((hf21 _ (by omega)).trans (rfl)))), rfl, hT104, z⟩))
            · skip
              have c9 : hx tx (n) (((wds tx n 4 4 0 ((q + dN tx n q)) wd).2.2.1)) ≠ 59 := by
                have z : ¬ (hx tx (n) (((wds tx n 4 4 0 ((q + dN tx n q)) wd).2.2.1)) = 59) := fun zz => c9 ((nI_eq (a := hx tx (n) (((wds tx n 4 4 0 ((q + dN tx n q)) wd).2.2.1))) (b := 59) (by omega) (by omega)).mpr zz)
                omega
              refine x_aload_n F 2 dR_readCodeAndWords_84 rfl rfl ?_
              refine x_iconst F (v := nI (1)) dR_readCodeAndWords_85 (by decide) ?_
              refine x_aload_n F 2 dR_readCodeAndWords_86 rfl rfl ?_
              refine x_get (ci := 3) F 4 (x_in inR) rfl (by decide) (x_m kfR_26) dR_readCodeAndWords_87 g26_0 rfl ?_
              refine yVr (n := 2) (As := [.int (nI (1)), .int (nI ((wds tx n 4 4 0 ((q + dN tx n q)) wd).2.2.1))]) (ci := 3) F kmR_42 kiR_fail ksR_fail knR kcR_fail (by decide +kernel) dR_readCodeAndWords_90 (cR_fail l (nx) M26 (a) sg ((wds tx n 4 4 0 ((q + dN tx n q)) wd).2.2.2) ((wds tx n 4 4 0 ((q + dN tx n q)) wd).2.1) n ((wds tx n 4 4 0 ((q + dN tx n q)) wd).2.2.1) (if (wds tx n 4 4 0 ((q + dN tx n q)) wd).1 then fk else nI 1) (if (wds tx n 4 4 0 ((q + dN tx n q)) wd).1 then fp else nI (wds tx n 4 4 0 ((q + dN tx n q)) wd).2.2.1) hR26 (nI (1)) (nI ((wds tx n 4 4 0 ((q + dN tx n q)) wd).2.2.1))) rfl g26_0 rfl rfl (Nat.le_of_ble_eq_true rfl) ⟨Nat.le_of_ble_eq_true rfl, Nat.le_of_ble_eq_true rfl⟩ ⟨Nat.le_of_ble_eq_true rfl, Nat.le_of_ble_eq_true rfl⟩ (fun r' n' M27 hp => ?_)
              obtain ⟨hr', hn', hR27, hf27⟩ := hp
              rw [hn', hr']
              obtain ⟨g27_0, g27_1, g27_2, g27_3, g27_4, g27_5⟩ := id hR27
              show xW p l e ({ frames := 3, cells := 0, slots := 0, locals := 73 } : Room) s m args below meth c D xcl (x_A M nx) 6 (MQ below (x_Q D xcl (x_A M nx) (cwPost nx M a sg wd n fk fp t cd ds ps ch wc tw tn cp tx dd q (cwK tx n wd cd ds tn dd q))) args s 0 0 (x_A M nx)) 0 0 (nx) M27 93 [(4, .long (lN (rc tx (n) (q)))), (3, .int (nI (q))), (0, .ref (a)), (1, .ref (t)), (2, .int (nI (dd)))] [.int (nI (0))]
              exact x_zret F hr (by rfl) dR_readCodeAndWords_93 (by rw [show cwK tx n wd cd ds tn dd q = some (1, (wds tx n 4 4 0 (q + dN tx n q) wd).2.2.1) from by rw [cwK, if_neg (fun z => c1 (rc_n0.mpr z)), if_neg (by rw [hfit]; decide), if_neg (by rw [show bhd cd tn (rc tx n q) = true from c7]; decide), if_neg (by rw [c8]; decide), if_pos c9]]; have z := hR27; first | exact ⟨rfl, fun b hb => (hf27 _ (by omega)).trans ((hf26 _ (by omega)).trans ((hf21 _ (by omega)).trans (rfl))), rfl, (tAt_fr (tAt_fr (tAt_fr hTr (fun b _ _ => hf21 b (by omega))) (fun b _ _ => hf26 b (by omega))) (fun b _ _ => hf27 b (by omega))), _, _, _, z⟩ | (rw [c8] at z; exact ⟨rfl, fun b hb => (hf27 _ (by omega)).trans ((hf26 _ (by omega)).trans ((hf21 _ (by omega)).trans (rfl))), rfl, (tAt_fr (tAt_fr (tAt_fr hTr (fun b _ _ => hf21 b (by omega))) (fun b _ _ => hf26 b (by omega))) (fun b _ _ => hf27 b (by omega))), _, _, _, z⟩))
          · skip
            have c8 : ((wds tx n 4 4 0 ((q + dN tx n q)) wd).1) = false := bI_0 c8
            refine x_iconst F (v := nI (0)) dR_readCodeAndWords_73 (by decide) ?_
            exact x_zret F hr (by rfl) dR_readCodeAndWords_74 (by rw [show cwK tx n wd cd ds tn dd q = some (1, (wds tx n 4 4 0 (q + dN tx n q) wd).2.2.1) from by rw [cwK, if_neg (fun z => c1 (rc_n0.mpr z)), if_neg (by rw [hfit]; decide), if_neg (by rw [show bhd cd tn (rc tx n q) = true from c7]; decide), if_pos c8]]; have z := hR26; first | exact ⟨rfl, fun b hb => (hf26 _ (by omega)).trans ((hf21 _ (by omega)).trans (rfl)), rfl, (tAt_fr (tAt_fr hTr (fun b _ _ => hf21 b (by omega))) (fun b _ _ => hf26 b (by omega))), _, _, _, z⟩ | (rw [c8] at z; exact ⟨rfl, fun b hb => (hf26 _ (by omega)).trans ((hf21 _ (by omega)).trans (rfl)), rfl, (tAt_fr (tAt_fr hTr (fun b _ _ => hf21 b (by omega))) (fun b _ _ => hf26 b (by omega))), _, _, _, z⟩))
        · skip
          have c7 : (bhl cd tn (lN (rc tx (n) (q)))) = false := bI_0 c7
          refine x_aload_n F 2 dR_readCodeAndWords_58 rfl rfl ?_
          refine x_iconst F (v := nI (4)) dR_readCodeAndWords_59 (by decide) ?_
          refine x_iload_n F 1 dR_readCodeAndWords_60 rfl rfl ?_
          refine yVr (n := 2) (As := [.int (nI (4)), .int (nI (q))]) (ci := 3) F kmR_42 kiR_fail ksR_fail knR kcR_fail (by decide +kernel) dR_readCodeAndWords_61 (cR_fail l (nx) M21 (a) sg wd cw n (q + dN tx n q) fk fp hR21 (nI (4)) (nI (q))) rfl g21_0 rfl rfl (Nat.le_of_ble_eq_true rfl) ⟨Nat.le_of_ble_eq_true rfl, Nat.le_of_ble_eq_true rfl⟩ ⟨Nat.le_of_ble_eq_true rfl, Nat.le_of_ble_eq_true rfl⟩ (fun r' n' M28 hp => ?_)
          obtain ⟨hr', hn', hR28, hf28⟩ := hp
          rw [hn', hr']
          obtain ⟨g28_0, g28_1, g28_2, g28_3, g28_4, g28_5⟩ := id hR28
          show xW p l e ({ frames := 3, cells := 0, slots := 0, locals := 73 } : Room) s m args below meth c D xcl (x_A M nx) 6 (MQ below (x_Q D xcl (x_A M nx) (cwPost nx M a sg wd n fk fp t cd ds ps ch wc tw tn cp tx dd q (cwK tx n wd cd ds tn dd q))) args s 0 0 (x_A M nx)) 0 0 (nx) M28 64 [(4, .long (lN (rc tx (n) (q)))), (3, .int (nI (q))), (0, .ref (a)), (1, .ref (t)), (2, .int (nI (dd)))] [.int (nI (0))]
          exact x_zret F hr (by rfl) dR_readCodeAndWords_64 (by rw [show cwK tx n wd cd ds tn dd q = some (4, q) from by rw [cwK, if_neg (fun z => c1 (rc_n0.mpr z)), if_neg (by rw [hfit]; decide), if_pos (show bhd cd tn (rc tx n q) = false from c7)]]; have z := hR28; first | exact ⟨rfl, fun b hb => (hf28 _ (by omega)).trans ((hf21 _ (by omega)).trans (rfl)), rfl, (tAt_fr (tAt_fr hTr (fun b _ _ => hf21 b (by omega))) (fun b _ _ => hf28 b (by omega))), _, _, _, z⟩ | (rw [hdummy] at z; exact ⟨rfl, fun b hb => (hf28 _ (by omega)).trans ((hf21 _ (by omega)).trans (rfl)), rfl, (tAt_fr (tAt_fr hTr (fun b _ _ => hf21 b (by omega))) (fun b _ _ => hf28 b (by omega))), _, _, _, z⟩))
      · skip
        have c6 : ((! decide ((lN (rc tx (n) (q))) = cd j)) && decide (bw (cd j) 10 (lN (rc tx (n) (q))) = cd j)) = false := bI_0 c6
        have hfit : fit cd ds tn dd (rc tx n q) = false := by rw [fit, hpj]; exact c6
        refine x_aload_n F 2 dR_readCodeAndWords_42 rfl rfl ?_
        refine x_iconst F (v := nI (3)) dR_readCodeAndWords_43 (by decide) ?_
        refine x_iload_n F 1 dR_readCodeAndWords_44 rfl rfl ?_
        refine yVr (n := 2) (As := [.int (nI (3)), .int (nI (q))]) (ci := 3) F kmR_42 kiR_fail ksR_fail knR kcR_fail (by decide +kernel) dR_readCodeAndWords_45 (cR_fail l (nx) M21 (a) sg wd cw n (q + dN tx n q) fk fp hR21 (nI (3)) (nI (q))) rfl g21_0 rfl rfl (Nat.le_of_ble_eq_true rfl) ⟨Nat.le_of_ble_eq_true rfl, Nat.le_of_ble_eq_true rfl⟩ ⟨Nat.le_of_ble_eq_true rfl, Nat.le_of_ble_eq_true rfl⟩ (fun r' n' M29 hp => ?_)
        obtain ⟨hr', hn', hR29, hf29⟩ := hp
        rw [hn', hr']
        obtain ⟨g29_0, g29_1, g29_2, g29_3, g29_4, g29_5⟩ := id hR29
        show xW p l e ({ frames := 3, cells := 0, slots := 0, locals := 73 } : Room) s m args below meth c D xcl (x_A M nx) 6 (MQ below (x_Q D xcl (x_A M nx) (cwPost nx M a sg wd n fk fp t cd ds ps ch wc tw tn cp tx dd q (cwK tx n wd cd ds tn dd q))) args s 0 0 (x_A M nx)) 0 0 (nx) M29 48 [(4, .long (lN (rc tx (n) (q)))), (3, .int (nI (q))), (0, .ref (a)), (1, .ref (t)), (2, .int (nI (dd)))] [.int (nI (0))]
        exact x_zret F hr (by rfl) dR_readCodeAndWords_48 (by rw [show cwK tx n wd cd ds tn dd q = some (3, q) from by rw [cwK, if_neg (fun z => c1 (rc_n0.mpr z)), if_pos hfit]]; have z := hR29; first | exact ⟨rfl, fun b hb => (hf29 _ (by omega)).trans ((hf21 _ (by omega)).trans (rfl)), rfl, (tAt_fr (tAt_fr hTr (fun b _ _ => hf21 b (by omega))) (fun b _ _ => hf29 b (by omega))), _, _, _, z⟩ | (rw [hdummy] at z; exact ⟨rfl, fun b hb => (hf29 _ (by omega)).trans ((hf21 _ (by omega)).trans (rfl)), rfl, (tAt_fr (tAt_fr hTr (fun b _ _ => hf21 b (by omega))) (fun b _ _ => hf29 b (by omega))), _, _, _, z⟩))
  · skip
    have c1 : lN (rc tx (n) (q)) = 0 := (lg_cmp_eq (lN (rc tx (n) (q))) (0)).mp c1
    refine x_aload_n F 2 dR_readCodeAndWords_18 rfl rfl ?_
    refine x_iconst F (v := nI (1)) dR_readCodeAndWords_19 (by decide) ?_
    refine x_aload_n F 2 dR_readCodeAndWords_20 rfl rfl ?_
    refine x_get (ci := 3) F 4 (x_in inR) rfl (by decide) (x_m kfR_26) dR_readCodeAndWords_21 g21_0 rfl ?_
    refine yVr (n := 2) (As := [.int (nI (1)), .int (nI (q + dN tx n q))]) (ci := 3) F kmR_42 kiR_fail ksR_fail knR kcR_fail (by decide +kernel) dR_readCodeAndWords_24 (cR_fail l (nx) M21 (a) sg wd cw n (q + dN tx n q) fk fp hR21 (nI (1)) (nI (q + dN tx n q))) rfl g21_0 rfl rfl (Nat.le_of_ble_eq_true rfl) ⟨Nat.le_of_ble_eq_true rfl, Nat.le_of_ble_eq_true rfl⟩ ⟨Nat.le_of_ble_eq_true rfl, Nat.le_of_ble_eq_true rfl⟩ (fun r' n' M30 hp => ?_)
    obtain ⟨hr', hn', hR30, hf30⟩ := hp
    rw [hn', hr']
    obtain ⟨g30_0, g30_1, g30_2, g30_3, g30_4, g30_5⟩ := id hR30
    show xW p l e ({ frames := 3, cells := 0, slots := 0, locals := 73 } : Room) s m args below meth c D xcl (x_A M nx) 6 (MQ below (x_Q D xcl (x_A M nx) (cwPost nx M a sg wd n fk fp t cd ds ps ch wc tw tn cp tx dd q (cwK tx n wd cd ds tn dd q))) args s 0 0 (x_A M nx)) 0 0 (nx) M30 27 [(4, .long (lN (rc tx (n) (q)))), (3, .int (nI (q))), (0, .ref (a)), (1, .ref (t)), (2, .int (nI (dd)))] [.int (nI (0))]
    exact x_zret F hr (by rfl) dR_readCodeAndWords_27 (by rw [show cwK tx n wd cd ds tn dd q = some (1, q + dN tx n q) from by rw [cwK, if_pos (rc_n0.mp c1)]]; have z := hR30; first | exact ⟨rfl, fun b hb => (hf30 _ (by omega)).trans ((hf21 _ (by omega)).trans (rfl)), rfl, (tAt_fr (tAt_fr hTr (fun b _ _ => hf21 b (by omega))) (fun b _ _ => hf30 b (by omega))), _, _, _, z⟩ | (rw [hdummy] at z; exact ⟨rfl, fun b hb => (hf30 _ (by omega)).trans ((hf21 _ (by omega)).trans (rfl)), rfl, (tAt_fr (tAt_fr hTr (fun b _ _ => hf21 b (by omega))) (fun b _ _ => hf30 b (by omega))), _, _, _, z⟩))
end
section
theorem cw_r {nx : Nat} {M : xH} {r : Nat} {sg : Nat → Int32} {w1 : Nat → Int64} {n : Nat} {fk fp : Int32} {a : Nat} {cd : Nat → Int64} {ds ps ch wc : Nat → Int32} {wd : Nat → Int64} {tn cp : Nat} {tx : Nat → Nat} {dd q : Nat} {x : Option (Nat × Nat)} {o : xO} {n' : Nat} {M' : xH} (h : cwPost nx M r sg w1 n fk fp a cd ds ps ch wc wd tn cp tx dd q x o n' M') : ∃ v : Int32, o = some (.int v) ∧ narrow .boolean (.int v) = .int v := by
  obtain ⟨-, -, h⟩ := h
  cases x with
  | none => exact ⟨nI 1, h.1, rfl⟩
  | some f => exact ⟨nI 0, h.1, rfl⟩
theorem cw_fr {nx : Nat} {M M2 : xH} {r : Nat} {sg : Nat → Int32} {w1 : Nat → Int64} {n : Nat} {fk fp : Int32} {a : Nat} {cd : Nat → Int64} {ds ps ch wc : Nat → Int32} {wd : Nat → Int64} {tn cp : Nat} {tx : Nat → Nat} {dd q : Nat} {x : Option (Nat × Nat)} {o : xO} {n' : Nat} {M' : xH} (h : cwPost nx M2 r sg w1 n fk fp a cd ds ps ch wc wd tn cp tx dd q x o n' M') (hf : ∀ b, (b < r ∨ r + 2 < b) ∧ (b < a ∨ a + 6 < b) → M2 b = M b) : cwPost nx M r sg w1 n fk fp a cd ds ps ch wc wd tn cp tx dd q x o n' M' :=
  ⟨h.1, fun b hb => (h.2.1 b hb).trans (hf b hb), h.2.2⟩
/-- how many dashes stand there; the failure of a row -/
def dsh (tx : Nat → Nat) (n q : Nat) : Nat := rn (fun c => decide (c = 45)) tx (n - q) q
def rowK (tx : Nat → Nat) (n : Nat) (w1 : Nat → Int64) (cd : Nat → Int64) (ds : Nat → Int32) (tn q : Nat) : Option (Nat × Nat) :=
  if hx tx n q ≠ 45 ∧ dig (hx tx n q) = false then some (1, q) else
  if mds ds tn < nI (dsh tx n q) then some (2, q) else
  if 40 ≤ tn then some (5, q) else
  if 4 < dsh tx n q then some (1, q + 4) else cwK tx n w1 cd ds tn (dsh tx n q) (q + dsh tx n q)
/-- a tree's state; the one with a row more -/
abbrev tS : Type := (Nat → Int64) × (Nat → Int32) × (Nat → Int32) × (Nat → Int32) × (Nat → Int32) × (Nat → Int64) × Nat × Nat
def tIs (M : xH) (a : Nat) (τ : tS) : Prop := tAt M a τ.1 τ.2.1 τ.2.2.1 τ.2.2.2.1 τ.2.2.2.2.1 τ.2.2.2.2.2.1 τ.2.2.2.2.2.2.1 τ.2.2.2.2.2.2.2
abbrev tRow (tx : Nat → Nat) (n : Nat) (w1 : Nat → Int64) (τ : tS) (dd q : Nat) : tS :=
  (vp_updL τ.1 τ.2.2.2.2.2.2.1 (lN (rc tx n q)), upd τ.2.1 τ.2.2.2.2.2.2.1 (nI dd), upd τ.2.2.1 τ.2.2.2.2.2.2.1 (oi (par τ.2.1 (nI dd) τ.2.2.2.2.2.2.1)), chi τ.2.2.2.1 τ.2.2.2.2.2.2.1 (par τ.2.1 (nI dd) τ.2.2.2.2.2.2.1), upd τ.2.2.2.2.1 τ.2.2.2.2.2.2.1 (nI (wds tx n 4 4 0 (q + dN tx n q) w1).2.1), wcp (wds tx n 4 4 0 (q + dN tx n q) w1).2.2.2 (τ.2.2.2.2.2.2.1 * 4) (wds tx n 4 4 0 (q + dN tx n q) w1).2.1 τ.2.2.2.2.2.1, τ.2.2.2.2.2.2.1 + 1, chp τ.2.2.2.2.2.2.2 (par τ.2.1 (nI dd) τ.2.2.2.2.2.2.1))
/-- k rows at most from q on: the failure, or none and the tree -/
def rows (tx : Nat → Nat) (n : Nat) : Nat → (Nat → Int64) → tS → Nat → Option (Nat × Nat) × tS
  | 0, _, τ, _ => (none, τ)
  | k + 1, w1, τ, q => if q < n then (match rowK tx n w1 τ.1 τ.2.1 τ.2.2.2.2.2.2.1 q with
      | some f => (some f, τ)
      | none => rows tx n k (wds tx n 4 4 0 (q + dsh tx n q + dN tx n (q + dsh tx n q)) w1).2.2.2 (tRow tx n w1 τ (dsh tx n q) (q + dsh tx n q)) ((wds tx n 4 4 0 (q + dsh tx n q + dN tx n (q + dsh tx n q)) w1).2.2.1 + 1)) else (none, τ)
theorem rows_s (tx : Nat → Nat) (n k : Nat) (w1 : Nat → Int64) (τ : tS) (q : Nat) : rows tx n (k + 1) w1 τ q = if q < n then (match rowK tx n w1 τ.1 τ.2.1 τ.2.2.2.2.2.2.1 q with
      | some f => (some f, τ)
      | none => rows tx n k (wds tx n 4 4 0 (q + dsh tx n q + dN tx n (q + dsh tx n q)) w1).2.2.2 (tRow tx n w1 τ (dsh tx n q) (q + dsh tx n q)) ((wds tx n 4 4 0 (q + dsh tx n q + dN tx n (q + dsh tx n q)) w1).2.2.1 + 1)) else (none, τ) := rfl
def rdx (tx : Nat → Nat) (n : Nat) (w1 : Nat → Int64) (τ : tS) : Option (Nat × Nat) × tS := if n = 0 then (some (1, 0), τ) else rows tx n 41 w1 τ 0
def rwPost (nx : Nat) (M : xH) (r : Nat) (sg : Nat → Int32) (n : Nat) (a : Nat) (x : Option (Nat × Nat) × tS) : xO → Nat → xH → Prop := fun o n' M' => n' = nx ∧ (∀ b, (b < r ∨ r + 2 < b) ∧ (b < a ∨ a + 6 < b) → M' b = M b) ∧ match x.1 with
  | some f => o = some (.int (nI 0)) ∧ (∃ τ : tS, tIs M' a τ) ∧ ∃ (w2 : Nat → Int64) (c2 q2 : Nat), rAt M' r sg w2 c2 n q2 (nI f.1) (nI f.2)
  | none => o = some (.int (nI 1)) ∧ tIs M' a x.2 ∧ ∃ (w2 : Nat → Int64) (c2 q2 : Nat), rAt M' r sg w2 c2 n q2 (nI 0) (-1)
theorem chp_le {cp tn : Nat} (r : Option Nat) (h : cp ≤ tn) : chp cp r ≤ tn + 1 := by
  cases r with
  | none => show cp + 1 ≤ tn + 1; omega
  | some j => show cp ≤ tn + 1; omega
theorem q1n {n : Nat} {tx : Nat → Nat} {w1 cd : Nat → Int64} {ds : Nat → Int32} {tn q : Nat} (hk : rowK tx n w1 cd ds tn q = none) : (wds tx n 4 4 0 (q + dsh tx n q + dN tx n (q + dsh tx n q)) w1).2.2.1 + 1 ≤ n := by
  unfold rowK at hk
  split at hk; · cases hk
  split at hk; · cases hk
  split at hk; · cases hk
  split at hk; · cases hk
  unfold cwK at hk
  split at hk; · cases hk
  split at hk; · cases hk
  split at hk; · cases hk
  split at hk; · cases hk
  split at hk; · cases hk
  rename_i h
  exact (hx_in (K := fun c => decide (c = 59)) rfl (tx := tx) (n := n) (by simpa using h)).1
set_option maxHeartbeats 4000000 in
set_option maxRecDepth 100000 in
theorem cR_readRow (l : Launch) (nx : Nat) (M : xH) (a : Nat) (sg : Nat → Int32) (wd : Nat → Int64) (cw n q : Nat) (fk fp : Int32) (hT : rAt M a sg wd cw n q fk fp) (tx : Nat → Nat) (hX : sAt sg tx n) (hqn : q ≤ n) (t : Nat) (cd : Nat → Int64) (ds ps ch wc : Nat → Int32) (tw : Nat → Int64) (tn cp : Nat) (hTr : tAt M t cd ds ps ch wc tw tn cp) (hdis : t + 6 < a ∨ a + 2 < t) (hcp : cp ≤ tn) : xC l xcl yR_readRow (xw (Cond.code yR_readRow bR_readRow 4 (some .boolean))) ({ frames := 4, cells := 0, slots := 0, locals := 98 } : Room) [.ref (a), .ref (t)] nx M (cwPost nx M a sg wd n fk fp t cd ds ps ch wc tw tn cp tx (dsh tx n q) (q + dsh tx n q) (rowK tx n wd cd ds tn q)) := by
  obtain ⟨h0, h1, h2, hcw, hn4, hq4⟩ := id hT
  obtain ⟨u0, u1, u2, u3, u4, u5, u6, u7, u8⟩ := id hTr
  refine yC (by decide) (Nat.le_of_ble_eq_true rfl) ?_
  intro p e s m args below meth c D F hr hn
  refine x_aload_n F 0 dR_readRow_0 rfl rfl ?_
  refine x_get (ci := 3) F 4 (x_in inR) rfl (by decide) (x_m kfR_26) dR_readRow_1 h0 rfl ?_
  refine x_istore_n F [(2, .int (nI (q))), (0, .ref (a)), (1, .ref (t))] dR_readRow_4 rfl (by decide) rfl ?_
  refine x_aload_n F 1 dR_readRow_5 rfl rfl ?_
  refine yV (n := 0) (As := []) (ci := 3) F kmR_53 kiR_here ksR_here knR kcR_here (by decide +kernel) dR_readRow_6 (cR_here l (nx) M (a) sg wd cw n q fk fp hT tx hX) rfl h0 rfl rfl (Nat.le_of_ble_eq_true rfl) ⟨Nat.le_of_ble_eq_true rfl, Nat.le_of_ble_eq_true rfl⟩ ⟨Nat.le_of_ble_eq_true rfl, Nat.le_of_ble_eq_true rfl⟩ ?_
  have hh6 := hx_lt (q := q) hX
  refine x_bipush F (v := nI (45)) dR_readRow_9 (by decide) ?_
  refine x_icmp_eq F (tgt := 31) dR_readRow_11 (by decide) (fun c1 => ?_) (fun c1 => ?_)
  · skip
    have c1 : hx tx (n) (q) = 45 := by
      exact (nI_eq (a := hx tx (n) (q)) (b := 45) (by omega) (by omega)).mp c1
    refine x_aload_n F 1 dR_readRow_31 rfl rfl ?_
    refine yV (n := 0) (As := []) (ci := 3) F kmR_60 kiR_countDashes ksR_countDashes knR kcR_countDashes (by decide +kernel) dR_readRow_32 (cR_countDashes l (nx) M (a) sg wd cw n q fk fp hT tx hX hqn) rfl h0 rfl rfl (Nat.le_of_ble_eq_true rfl) ⟨Nat.le_of_ble_eq_true rfl, Nat.le_of_ble_eq_true rfl⟩ ⟨Nat.le_of_ble_eq_true rfl, Nat.le_of_ble_eq_true rfl⟩ ?_
    refine x_istore_n F [(3, .int (nI (dsh tx n q))), (2, .int (nI (q))), (0, .ref (a)), (1, .ref (t))] dR_readRow_35 rfl (by decide) rfl ?_
    have hd4 : dsh tx n q ≤ n - q := rn_le _ _ _ _
    refine x_iload_n F 0 dR_readRow_36 rfl rfl ?_
    refine x_aload_n F 3 dR_readRow_37 rfl rfl ?_
    refine yV (n := 0) (As := []) (ci := 4) F kmR_64 kiT_mostDashes ksT_mostDashes knT kcT_mostDashes (by decide +kernel) dR_readRow_38 (cT_most l (nx) M (t) cd ds ps ch wc tw tn cp hTr) rfl u0 rfl rfl (Nat.le_of_ble_eq_true rfl) ⟨Nat.le_of_ble_eq_true rfl, Nat.le_of_ble_eq_true rfl⟩ ⟨Nat.le_of_ble_eq_true rfl, Nat.le_of_ble_eq_true rfl⟩ ?_
    refine x_icmp_le F (tgt := 51) dR_readRow_41 (by decide) (fun c2 => ?_) (fun c2 => ?_)
    · skip
      refine x_aload_n F 3 dR_readRow_51 rfl rfl ?_
      refine yV (n := 0) (As := []) (ci := 4) F kmR_69 kiT_isFull ksT_isFull knT kcT_isFull (by decide +kernel) dR_readRow_52 (cT_isFull l (nx) M (t) cd ds ps ch wc tw tn cp hTr ) rfl u0 rfl rfl (Nat.le_of_ble_eq_true rfl) ⟨Nat.le_of_ble_eq_true rfl, Nat.le_of_ble_eq_true rfl⟩ ⟨Nat.le_of_ble_eq_true rfl, Nat.le_of_ble_eq_true rfl⟩ ?_
      refine x_if_eq F (tgt := 65) dR_readRow_55 (by decide) (fun c3 => ?_) (fun c3 => ?_)
      · skip
        have c3 : (decide (40 ≤ tn)) = false := bI_0 c3
        refine x_iload_n F 0 dR_readRow_65 rfl rfl ?_
        refine x_iconst F (v := nI (4)) dR_readRow_66 (by decide) ?_
        refine x_icmp_le F (tgt := 79) dR_readRow_67 (by decide) (fun c4 => ?_) (fun c4 => ?_)
        · skip
          have c4 : dsh tx n q ≤ 4 := by
            exact (nI_leI (a := dsh tx n q) (b := 4) (by omega) (by omega)).mp c4
          refine x_aload_n F 2 dR_readRow_79 rfl rfl ?_
          refine x_iload_n F 1 dR_readRow_80 rfl rfl ?_
          refine x_iload_n F 0 dR_readRow_81 rfl rfl ?_
          refine x_iadd F dR_readRow_82 ?_
          refine xW.toi (nI (q + dsh tx n q)) (nI_add _ _) ?_
          refine x_put (ci := 3) (ty := .int) F 4 (x_in inR) tR tR_ok nR rfl (by decide) (x_m kfR_26) dR_readRow_83 rfl (by decide +kernel) rfl rfl h0 (Nat.le_of_ble_eq_true rfl) ?_
          show xW p l e ({ frames := 4, cells := 0, slots := 0, locals := 98 } : Room) s m args below meth c D xcl (x_A M nx) 4 (MQ below (x_Q D xcl (x_A M nx) (cwPost nx M a sg wd n fk fp t cd ds ps ch wc tw tn cp tx (dsh tx n q) (q + dsh tx n q) (rowK tx n wd cd ds tn q))) args s 0 0 (x_A M nx)) 0 0 (nx) (x_up M (a) (.inr (3, [.ref (a + 1), .ref (a + 2), .int (nI (cw)), .int (nI (n)), .int (nI (q + dsh tx n q)), .int (fk), .int (fp)]))) 86 [(3, .int (nI (dsh tx n q))), (2, .int (nI (q))), (0, .ref (a)), (1, .ref (t))] []
          refine x_aload_n F 2 dR_readRow_86 rfl rfl ?_
          refine x_aload_n F 3 dR_readRow_87 rfl rfl ?_
          refine x_iload_n F 0 dR_readRow_88 rfl rfl ?_
          refine yVr (n := 2) (As := [.ref (t), .int (nI (dsh tx n q))]) (ci := 3) F kmR_73 kiR_readCodeAndWords ksR_readCodeAndWords knR kcR_readCodeAndWords (by decide +kernel) dR_readRow_89 (cR_readCodeAndWords l (nx) (x_up M (a) (.inr (3, [.ref (a + 1), .ref (a + 2), .int (nI (cw)), .int (nI (n)), .int (nI (q + dsh tx n q)), .int (fk), .int (fp)]))) (a) sg wd cw n (q + dsh tx n q) fk fp ⟨x_up_s, (x_up_k h1 (by omega)), (x_up_k h2 (by omega)), by omega, by omega, by omega⟩ tx hX (by omega) (t) cd ds ps ch wc tw tn cp (tAt_fr hTr (fun b _ _ => x_up_n (by omega))) hdis (by simpa using c3) hcp (dsh tx n q) (by omega)) rfl x_up_s rfl rfl (Nat.le_of_ble_eq_true rfl) ⟨Nat.le_of_ble_eq_true rfl, Nat.le_of_ble_eq_true rfl⟩ ⟨Nat.le_of_ble_eq_true rfl, Nat.le_of_ble_eq_true rfl⟩ (fun r' n' M' hp => ?_)
          obtain ⟨v, hv, hnv⟩ := cw_r hp
          subst hv
          obtain ⟨hn', -⟩ := id hp
          rw [hn'] at hp ⊢
          exact x_zret F hr hnv dR_readRow_92 (by rw [show rowK tx n wd cd ds tn q = cwK tx n wd cd ds tn (dsh tx n q) (q + dsh tx n q) from by rw [rowK, if_neg (fun z => z.1 c1), if_neg (Int32.not_lt.mpr c2), if_neg (by simpa using c3), if_neg (by omega)]]; exact cw_fr hp (fun b hb => (x_up_n (by omega)).trans (rfl)))
        · skip
          have c4 : 4 < dsh tx n q := by
            have z : ¬ (dsh tx n q ≤ 4) := fun zz => c4 ((nI_leI (a := dsh tx n q) (b := 4) (by omega) (by omega)).mpr zz)
            omega
          refine x_aload_n F 2 dR_readRow_70 rfl rfl ?_
          refine x_iconst F (v := nI (1)) dR_readRow_71 (by decide) ?_
          refine x_iload_n F 1 dR_readRow_72 rfl rfl ?_
          refine x_iconst F (v := nI (4)) dR_readRow_73 (by decide) ?_
          refine x_iadd F dR_readRow_74 ?_
          refine xW.toi (nI (q + 4)) (nI_add _ _) ?_
          refine yVr (n := 2) (As := [.int (nI (1)), .int (nI (q + 4))]) (ci := 3) F kmR_42 kiR_fail ksR_fail knR kcR_fail (by decide +kernel) dR_readRow_75 (cR_fail l (nx) M (a) sg wd cw n q fk fp hT (nI (1)) (nI (q + 4))) rfl h0 rfl rfl (Nat.le_of_ble_eq_true rfl) ⟨Nat.le_of_ble_eq_true rfl, Nat.le_of_ble_eq_true rfl⟩ ⟨Nat.le_of_ble_eq_true rfl, Nat.le_of_ble_eq_true rfl⟩ (fun r' n' M38 hp => ?_)
          obtain ⟨hr', hn', hR38, hf38⟩ := hp
          rw [hn', hr']
          obtain ⟨g38_0, g38_1, g38_2, g38_3, g38_4, g38_5⟩ := id hR38
          show xW p l e ({ frames := 4, cells := 0, slots := 0, locals := 98 } : Room) s m args below meth c D xcl (x_A M nx) 4 (MQ below (x_Q D xcl (x_A M nx) (cwPost nx M a sg wd n fk fp t cd ds ps ch wc tw tn cp tx (dsh tx n q) (q + dsh tx n q) (rowK tx n wd cd ds tn q))) args s 0 0 (x_A M nx)) 0 0 (nx) M38 78 [(3, .int (nI (dsh tx n q))), (2, .int (nI (q))), (0, .ref (a)), (1, .ref (t))] [.int (nI (0))]
          exact x_zret F hr (by rfl) dR_readRow_78 (by rw [show rowK tx n wd cd ds tn q = some (1, q + 4) from by rw [rowK, if_neg (fun z => z.1 c1), if_neg (Int32.not_lt.mpr c2), if_neg (by simpa using c3), if_pos c4]]; exact ⟨rfl, fun b hb => (hf38 _ (by omega)).trans (rfl), rfl, (tAt_fr hTr (fun b _ _ => hf38 b (by omega))), _, _, _, hR38⟩)
      · skip
        have c3 : (decide (40 ≤ tn)) = true := bI_1 c3
        refine x_aload_n F 2 dR_readRow_58 rfl rfl ?_
        refine x_iconst F (v := nI (5)) dR_readRow_59 (by decide) ?_
        refine x_iload_n F 1 dR_readRow_60 rfl rfl ?_
        refine yVr (n := 2) (As := [.int (nI (5)), .int (nI (q))]) (ci := 3) F kmR_42 kiR_fail ksR_fail knR kcR_fail (by decide +kernel) dR_readRow_61 (cR_fail l (nx) M (a) sg wd cw n q fk fp hT (nI (5)) (nI (q))) rfl h0 rfl rfl (Nat.le_of_ble_eq_true rfl) ⟨Nat.le_of_ble_eq_true rfl, Nat.le_of_ble_eq_true rfl⟩ ⟨Nat.le_of_ble_eq_true rfl, Nat.le_of_ble_eq_true rfl⟩ (fun r' n' M39 hp => ?_)
        obtain ⟨hr', hn', hR39, hf39⟩ := hp
        rw [hn', hr']
        obtain ⟨g39_0, g39_1, g39_2, g39_3, g39_4, g39_5⟩ := id hR39
        show xW p l e ({ frames := 4, cells := 0, slots := 0, locals := 98 } : Room) s m args below meth c D xcl (x_A M nx) 4 (MQ below (x_Q D xcl (x_A M nx) (cwPost nx M a sg wd n fk fp t cd ds ps ch wc tw tn cp tx (dsh tx n q) (q + dsh tx n q) (rowK tx n wd cd ds tn q))) args s 0 0 (x_A M nx)) 0 0 (nx) M39 64 [(3, .int (nI (dsh tx n q))), (2, .int (nI (q))), (0, .ref (a)), (1, .ref (t))] [.int (nI (0))]
        exact x_zret F hr (by rfl) dR_readRow_64 (by rw [show rowK tx n wd cd ds tn q = some (5, q) from by rw [rowK, if_neg (fun z => z.1 c1), if_neg (Int32.not_lt.mpr c2), if_pos (by simpa using c3)]]; exact ⟨rfl, fun b hb => (hf39 _ (by omega)).trans (rfl), rfl, (tAt_fr hTr (fun b _ _ => hf39 b (by omega))), _, _, _, hR39⟩)
    · skip
      refine x_aload_n F 2 dR_readRow_44 rfl rfl ?_
      refine x_iconst F (v := nI (2)) dR_readRow_45 (by decide) ?_
      refine x_iload_n F 1 dR_readRow_46 rfl rfl ?_
      refine yVr (n := 2) (As := [.int (nI (2)), .int (nI (q))]) (ci := 3) F kmR_42 kiR_fail ksR_fail knR kcR_fail (by decide +kernel) dR_readRow_47 (cR_fail l (nx) M (a) sg wd cw n q fk fp hT (nI (2)) (nI (q))) rfl h0 rfl rfl (Nat.le_of_ble_eq_true rfl) ⟨Nat.le_of_ble_eq_true rfl, Nat.le_of_ble_eq_true rfl⟩ ⟨Nat.le_of_ble_eq_true rfl, Nat.le_of_ble_eq_true rfl⟩ (fun r' n' M40 hp => ?_)
      obtain ⟨hr', hn', hR40, hf40⟩ := hp
      rw [hn', hr']
      obtain ⟨g40_0, g40_1, g40_2, g40_3, g40_4, g40_5⟩ := id hR40
      show xW p l e ({ frames := 4, cells := 0, slots := 0, locals := 98 } : Room) s m args below meth c D xcl (x_A M nx) 4 (MQ below (x_Q D xcl (x_A M nx) (cwPost nx M a sg wd n fk fp t cd ds ps ch wc tw tn cp tx (dsh tx n q) (q + dsh tx n q) (rowK tx n wd cd ds tn q))) args s 0 0 (x_A M nx)) 0 0 (nx) M40 50 [(3, .int (nI (dsh tx n q))), (2, .int (nI (q))), (0, .ref (a)), (1, .ref (t))] [.int (nI (0))]
      exact x_zret F hr (by rfl) dR_readRow_50 (by rw [show rowK tx n wd cd ds tn q = some (2, q) from by rw [rowK, if_neg (fun z => z.1 c1), if_pos (Int32.not_le.mp c2)]]; exact ⟨rfl, fun b hb => (hf40 _ (by omega)).trans (rfl), rfl, (tAt_fr hTr (fun b _ _ => hf40 b (by omega))), _, _, _, hR40⟩)
  · skip
    have c1 : hx tx (n) (q) ≠ 45 := by
      have z : ¬ (hx tx (n) (q) = 45) := fun zz => c1 ((nI_eq (a := hx tx (n) (q)) (b := 45) (by omega) (by omega)).mpr zz)
      omega
    refine x_aload_n F 1 dR_readRow_14 rfl rfl ?_
    refine yV (n := 0) (As := []) (ci := 3) F kmR_53 kiR_here ksR_here knR kcR_here (by decide +kernel) dR_readRow_15 (cR_here l (nx) M (a) sg wd cw n q fk fp hT tx hX) rfl h0 rfl rfl (Nat.le_of_ble_eq_true rfl) ⟨Nat.le_of_ble_eq_true rfl, Nat.le_of_ble_eq_true rfl⟩ ⟨Nat.le_of_ble_eq_true rfl, Nat.le_of_ble_eq_true rfl⟩ ?_
    have hh15 := hx_lt (q := q) hX
    refine yS (n := 1) (As := [.int (nI (hx tx (n) (q)))]) F kmR_57 ktR_isDigit knR kcR_isDigit (by decide +kernel) dR_readRow_18 (cR_isDigit l (nx) M (hx tx (n) (q)) (by omega)) rfl rfl (Nat.le_of_ble_eq_true rfl) ⟨Nat.le_of_ble_eq_true rfl, Nat.le_of_ble_eq_true rfl⟩ ⟨Nat.le_of_ble_eq_true rfl, Nat.le_of_ble_eq_true rfl⟩ ?_
    refine x_if_ne F (tgt := 31) dR_readRow_21 (by decide) (fun c5 => ?_) (fun c5 => ?_)
    · skip
      have c5 : (dig (hx tx (n) (q))) = true := bI_1 c5
      refine x_aload_n F 1 dR_readRow_31 rfl rfl ?_
      refine yV (n := 0) (As := []) (ci := 3) F kmR_60 kiR_countDashes ksR_countDashes knR kcR_countDashes (by decide +kernel) dR_readRow_32 (cR_countDashes l (nx) M (a) sg wd cw n q fk fp hT tx hX hqn) rfl h0 rfl rfl (Nat.le_of_ble_eq_true rfl) ⟨Nat.le_of_ble_eq_true rfl, Nat.le_of_ble_eq_true rfl⟩ ⟨Nat.le_of_ble_eq_true rfl, Nat.le_of_ble_eq_true rfl⟩ ?_
      refine x_istore_n F [(3, .int (nI (dsh tx n q))), (2, .int (nI (q))), (0, .ref (a)), (1, .ref (t))] dR_readRow_35 rfl (by decide) rfl ?_
      have hd4 : dsh tx n q ≤ n - q := rn_le _ _ _ _
      refine x_iload_n F 0 dR_readRow_36 rfl rfl ?_
      refine x_aload_n F 3 dR_readRow_37 rfl rfl ?_
      refine yV (n := 0) (As := []) (ci := 4) F kmR_64 kiT_mostDashes ksT_mostDashes knT kcT_mostDashes (by decide +kernel) dR_readRow_38 (cT_most l (nx) M (t) cd ds ps ch wc tw tn cp hTr) rfl u0 rfl rfl (Nat.le_of_ble_eq_true rfl) ⟨Nat.le_of_ble_eq_true rfl, Nat.le_of_ble_eq_true rfl⟩ ⟨Nat.le_of_ble_eq_true rfl, Nat.le_of_ble_eq_true rfl⟩ ?_
      refine x_icmp_le F (tgt := 51) dR_readRow_41 (by decide) (fun c6 => ?_) (fun c6 => ?_)
      · skip
        refine x_aload_n F 3 dR_readRow_51 rfl rfl ?_
        refine yV (n := 0) (As := []) (ci := 4) F kmR_69 kiT_isFull ksT_isFull knT kcT_isFull (by decide +kernel) dR_readRow_52 (cT_isFull l (nx) M (t) cd ds ps ch wc tw tn cp hTr ) rfl u0 rfl rfl (Nat.le_of_ble_eq_true rfl) ⟨Nat.le_of_ble_eq_true rfl, Nat.le_of_ble_eq_true rfl⟩ ⟨Nat.le_of_ble_eq_true rfl, Nat.le_of_ble_eq_true rfl⟩ ?_
        refine x_if_eq F (tgt := 65) dR_readRow_55 (by decide) (fun c7 => ?_) (fun c7 => ?_)
        · skip
          have c7 : (decide (40 ≤ tn)) = false := bI_0 c7
          refine x_iload_n F 0 dR_readRow_65 rfl rfl ?_
          refine x_iconst F (v := nI (4)) dR_readRow_66 (by decide) ?_
          refine x_icmp_le F (tgt := 79) dR_readRow_67 (by decide) (fun c8 => ?_) (fun c8 => ?_)
          · skip
            have c8 : dsh tx n q ≤ 4 := by
              exact (nI_leI (a := dsh tx n q) (b := 4) (by omega) (by omega)).mp c8
            refine x_aload_n F 2 dR_readRow_79 rfl rfl ?_
            refine x_iload_n F 1 dR_readRow_80 rfl rfl ?_
            refine x_iload_n F 0 dR_readRow_81 rfl rfl ?_
            refine x_iadd F dR_readRow_82 ?_
            refine xW.toi (nI (q + dsh tx n q)) (nI_add _ _) ?_
            refine x_put (ci := 3) (ty := .int) F 4 (x_in inR) tR tR_ok nR rfl (by decide) (x_m kfR_26) dR_readRow_83 rfl (by decide +kernel) rfl rfl h0 (Nat.le_of_ble_eq_true rfl) ?_
            show xW p l e ({ frames := 4, cells := 0, slots := 0, locals := 98 } : Room) s m args below meth c D xcl (x_A M nx) 4 (MQ below (x_Q D xcl (x_A M nx) (cwPost nx M a sg wd n fk fp t cd ds ps ch wc tw tn cp tx (dsh tx n q) (q + dsh tx n q) (rowK tx n wd cd ds tn q))) args s 0 0 (x_A M nx)) 0 0 (nx) (x_up M (a) (.inr (3, [.ref (a + 1), .ref (a + 2), .int (nI (cw)), .int (nI (n)), .int (nI (q + dsh tx n q)), .int (fk), .int (fp)]))) 86 [(3, .int (nI (dsh tx n q))), (2, .int (nI (q))), (0, .ref (a)), (1, .ref (t))] []
            refine x_aload_n F 2 dR_readRow_86 rfl rfl ?_
            refine x_aload_n F 3 dR_readRow_87 rfl rfl ?_
            refine x_iload_n F 0 dR_readRow_88 rfl rfl ?_
            refine yVr (n := 2) (As := [.ref (t), .int (nI (dsh tx n q))]) (ci := 3) F kmR_73 kiR_readCodeAndWords ksR_readCodeAndWords knR kcR_readCodeAndWords (by decide +kernel) dR_readRow_89 (cR_readCodeAndWords l (nx) (x_up M (a) (.inr (3, [.ref (a + 1), .ref (a + 2), .int (nI (cw)), .int (nI (n)), .int (nI (q + dsh tx n q)), .int (fk), .int (fp)]))) (a) sg wd cw n (q + dsh tx n q) fk fp ⟨x_up_s, (x_up_k h1 (by omega)), (x_up_k h2 (by omega)), by omega, by omega, by omega⟩ tx hX (by omega) (t) cd ds ps ch wc tw tn cp (tAt_fr hTr (fun b _ _ => x_up_n (by omega))) hdis (by simpa using c7) hcp (dsh tx n q) (by omega)) rfl x_up_s rfl rfl (Nat.le_of_ble_eq_true rfl) ⟨Nat.le_of_ble_eq_true rfl, Nat.le_of_ble_eq_true rfl⟩ ⟨Nat.le_of_ble_eq_true rfl, Nat.le_of_ble_eq_true rfl⟩ (fun r' n' M' hp => ?_)
            obtain ⟨v, hv, hnv⟩ := cw_r hp
            subst hv
            obtain ⟨hn', -⟩ := id hp
            rw [hn'] at hp ⊢
            exact x_zret F hr hnv dR_readRow_92 (by rw [show rowK tx n wd cd ds tn q = cwK tx n wd cd ds tn (dsh tx n q) (q + dsh tx n q) from by rw [rowK, if_neg (fun z => by have z := z.2; rw [c5] at z; cases z), if_neg (Int32.not_lt.mpr c6), if_neg (by simpa using c7), if_neg (by omega)]]; exact cw_fr hp (fun b hb => (x_up_n (by omega)).trans (rfl)))
          · skip
            have c8 : 4 < dsh tx n q := by
              have z : ¬ (dsh tx n q ≤ 4) := fun zz => c8 ((nI_leI (a := dsh tx n q) (b := 4) (by omega) (by omega)).mpr zz)
              omega
            refine x_aload_n F 2 dR_readRow_70 rfl rfl ?_
            refine x_iconst F (v := nI (1)) dR_readRow_71 (by decide) ?_
            refine x_iload_n F 1 dR_readRow_72 rfl rfl ?_
            refine x_iconst F (v := nI (4)) dR_readRow_73 (by decide) ?_
            refine x_iadd F dR_readRow_74 ?_
            refine xW.toi (nI (q + 4)) (nI_add _ _) ?_
            refine yVr (n := 2) (As := [.int (nI (1)), .int (nI (q + 4))]) (ci := 3) F kmR_42 kiR_fail ksR_fail knR kcR_fail (by decide +kernel) dR_readRow_75 (cR_fail l (nx) M (a) sg wd cw n q fk fp hT (nI (1)) (nI (q + 4))) rfl h0 rfl rfl (Nat.le_of_ble_eq_true rfl) ⟨Nat.le_of_ble_eq_true rfl, Nat.le_of_ble_eq_true rfl⟩ ⟨Nat.le_of_ble_eq_true rfl, Nat.le_of_ble_eq_true rfl⟩ (fun r' n' M41 hp => ?_)
            obtain ⟨hr', hn', hR41, hf41⟩ := hp
            rw [hn', hr']
            obtain ⟨g41_0, g41_1, g41_2, g41_3, g41_4, g41_5⟩ := id hR41
            show xW p l e ({ frames := 4, cells := 0, slots := 0, locals := 98 } : Room) s m args below meth c D xcl (x_A M nx) 4 (MQ below (x_Q D xcl (x_A M nx) (cwPost nx M a sg wd n fk fp t cd ds ps ch wc tw tn cp tx (dsh tx n q) (q + dsh tx n q) (rowK tx n wd cd ds tn q))) args s 0 0 (x_A M nx)) 0 0 (nx) M41 78 [(3, .int (nI (dsh tx n q))), (2, .int (nI (q))), (0, .ref (a)), (1, .ref (t))] [.int (nI (0))]
            exact x_zret F hr (by rfl) dR_readRow_78 (by rw [show rowK tx n wd cd ds tn q = some (1, q + 4) from by rw [rowK, if_neg (fun z => by have z := z.2; rw [c5] at z; cases z), if_neg (Int32.not_lt.mpr c6), if_neg (by simpa using c7), if_pos c8]]; exact ⟨rfl, fun b hb => (hf41 _ (by omega)).trans (rfl), rfl, (tAt_fr hTr (fun b _ _ => hf41 b (by omega))), _, _, _, hR41⟩)
        · skip
          have c7 : (decide (40 ≤ tn)) = true := bI_1 c7
          refine x_aload_n F 2 dR_readRow_58 rfl rfl ?_
          refine x_iconst F (v := nI (5)) dR_readRow_59 (by decide) ?_
          refine x_iload_n F 1 dR_readRow_60 rfl rfl ?_
          refine yVr (n := 2) (As := [.int (nI (5)), .int (nI (q))]) (ci := 3) F kmR_42 kiR_fail ksR_fail knR kcR_fail (by decide +kernel) dR_readRow_61 (cR_fail l (nx) M (a) sg wd cw n q fk fp hT (nI (5)) (nI (q))) rfl h0 rfl rfl (Nat.le_of_ble_eq_true rfl) ⟨Nat.le_of_ble_eq_true rfl, Nat.le_of_ble_eq_true rfl⟩ ⟨Nat.le_of_ble_eq_true rfl, Nat.le_of_ble_eq_true rfl⟩ (fun r' n' M42 hp => ?_)
          obtain ⟨hr', hn', hR42, hf42⟩ := hp
          rw [hn', hr']
          obtain ⟨g42_0, g42_1, g42_2, g42_3, g42_4, g42_5⟩ := id hR42
          show xW p l e ({ frames := 4, cells := 0, slots := 0, locals := 98 } : Room) s m args below meth c D xcl (x_A M nx) 4 (MQ below (x_Q D xcl (x_A M nx) (cwPost nx M a sg wd n fk fp t cd ds ps ch wc tw tn cp tx (dsh tx n q) (q + dsh tx n q) (rowK tx n wd cd ds tn q))) args s 0 0 (x_A M nx)) 0 0 (nx) M42 64 [(3, .int (nI (dsh tx n q))), (2, .int (nI (q))), (0, .ref (a)), (1, .ref (t))] [.int (nI (0))]
          exact x_zret F hr (by rfl) dR_readRow_64 (by rw [show rowK tx n wd cd ds tn q = some (5, q) from by rw [rowK, if_neg (fun z => by have z := z.2; rw [c5] at z; cases z), if_neg (Int32.not_lt.mpr c6), if_pos (by simpa using c7)]]; exact ⟨rfl, fun b hb => (hf42 _ (by omega)).trans (rfl), rfl, (tAt_fr hTr (fun b _ _ => hf42 b (by omega))), _, _, _, hR42⟩)
      · skip
        refine x_aload_n F 2 dR_readRow_44 rfl rfl ?_
        refine x_iconst F (v := nI (2)) dR_readRow_45 (by decide) ?_
        refine x_iload_n F 1 dR_readRow_46 rfl rfl ?_
        refine yVr (n := 2) (As := [.int (nI (2)), .int (nI (q))]) (ci := 3) F kmR_42 kiR_fail ksR_fail knR kcR_fail (by decide +kernel) dR_readRow_47 (cR_fail l (nx) M (a) sg wd cw n q fk fp hT (nI (2)) (nI (q))) rfl h0 rfl rfl (Nat.le_of_ble_eq_true rfl) ⟨Nat.le_of_ble_eq_true rfl, Nat.le_of_ble_eq_true rfl⟩ ⟨Nat.le_of_ble_eq_true rfl, Nat.le_of_ble_eq_true rfl⟩ (fun r' n' M43 hp => ?_)
        obtain ⟨hr', hn', hR43, hf43⟩ := hp
        rw [hn', hr']
        obtain ⟨g43_0, g43_1, g43_2, g43_3, g43_4, g43_5⟩ := id hR43
        show xW p l e ({ frames := 4, cells := 0, slots := 0, locals := 98 } : Room) s m args below meth c D xcl (x_A M nx) 4 (MQ below (x_Q D xcl (x_A M nx) (cwPost nx M a sg wd n fk fp t cd ds ps ch wc tw tn cp tx (dsh tx n q) (q + dsh tx n q) (rowK tx n wd cd ds tn q))) args s 0 0 (x_A M nx)) 0 0 (nx) M43 50 [(3, .int (nI (dsh tx n q))), (2, .int (nI (q))), (0, .ref (a)), (1, .ref (t))] [.int (nI (0))]
        exact x_zret F hr (by rfl) dR_readRow_50 (by rw [show rowK tx n wd cd ds tn q = some (2, q) from by rw [rowK, if_neg (fun z => by have z := z.2; rw [c5] at z; cases z), if_pos (Int32.not_le.mp c6)]]; exact ⟨rfl, fun b hb => (hf43 _ (by omega)).trans (rfl), rfl, (tAt_fr hTr (fun b _ _ => hf43 b (by omega))), _, _, _, hR43⟩)
    · skip
      have c5 : (dig (hx tx (n) (q))) = false := bI_0 c5
      refine x_aload_n F 1 dR_readRow_24 rfl rfl ?_
      refine x_iconst F (v := nI (1)) dR_readRow_25 (by decide) ?_
      refine x_iload_n F 0 dR_readRow_26 rfl rfl ?_
      refine yVr (n := 2) (As := [.int (nI (1)), .int (nI (q))]) (ci := 3) F kmR_42 kiR_fail ksR_fail knR kcR_fail (by decide +kernel) dR_readRow_27 (cR_fail l (nx) M (a) sg wd cw n q fk fp hT (nI (1)) (nI (q))) rfl h0 rfl rfl (Nat.le_of_ble_eq_true rfl) ⟨Nat.le_of_ble_eq_true rfl, Nat.le_of_ble_eq_true rfl⟩ ⟨Nat.le_of_ble_eq_true rfl, Nat.le_of_ble_eq_true rfl⟩ (fun r' n' M44 hp => ?_)
      obtain ⟨hr', hn', hR44, hf44⟩ := hp
      rw [hn', hr']
      obtain ⟨g44_0, g44_1, g44_2, g44_3, g44_4, g44_5⟩ := id hR44
      show xW p l e ({ frames := 4, cells := 0, slots := 0, locals := 98 } : Room) s m args below meth c D xcl (x_A M nx) 4 (MQ below (x_Q D xcl (x_A M nx) (cwPost nx M a sg wd n fk fp t cd ds ps ch wc tw tn cp tx (dsh tx n q) (q + dsh tx n q) (rowK tx n wd cd ds tn q))) args s 0 0 (x_A M nx)) 0 0 (nx) M44 30 [(2, .int (nI (q))), (0, .ref (a)), (1, .ref (t))] [.int (nI (0))]
      exact x_zret F hr (by rfl) dR_readRow_30 (by rw [show rowK tx n wd cd ds tn q = some (1, q) from by rw [rowK, if_pos ⟨c1, c5⟩]]; exact ⟨rfl, fun b hb => (hf44 _ (by omega)).trans (rfl), rfl, (tAt_fr hTr (fun b _ _ => hf44 b (by omega))), _, _, _, hR44⟩)
set_option maxHeartbeats 4000000 in
set_option maxRecDepth 100000 in
theorem cR_readRows (l : Launch) (nx : Nat) (M : xH) (a : Nat) (sg : Nat → Int32) (wd : Nat → Int64) (cw n q : Nat) (fk fp : Int32) (hT : rAt M a sg wd cw n q fk fp) (tx : Nat → Nat) (hX : sAt sg tx n) (t : Nat) (τ0 : tS) (hTr : tIs M t τ0) (hcp : τ0.2.2.2.2.2.2.2 ≤ τ0.2.2.2.2.2.2.1) (hdis : t + 6 < a ∨ a + 2 < t) : xC l xcl yR_readRows (xw (Cond.code yR_readRows bR_readRows 3 (some .boolean))) ({ frames := 5, cells := 0, slots := 0, locals := 121 } : Room) [.ref (a), .ref (t)] nx M (rwPost nx M a sg n t (rdx tx n wd τ0)) := by
  obtain ⟨h0, h1, h2, hcw, hn4, hq4⟩ := id hT
  obtain ⟨u0, u1, u2, u3, u4, u5, u6, u7, u8⟩ := id hTr
  refine yC (by decide) (Nat.le_of_ble_eq_true rfl) ?_
  intro p e s m args below meth c D F hr hn
  refine x_aload_n F 0 dR_readRows_0 rfl rfl ?_
  refine yVr (n := 0) (As := []) (ci := 3) F kmR_39 kiR_start ksR_start knR kcR_start (by decide +kernel) dR_readRows_1 (cR_start l (nx) M (a) sg wd cw n q fk fp hT ) rfl h0 rfl rfl (Nat.le_of_ble_eq_true rfl) ⟨Nat.le_of_ble_eq_true rfl, Nat.le_of_ble_eq_true rfl⟩ ⟨Nat.le_of_ble_eq_true rfl, Nat.le_of_ble_eq_true rfl⟩ (fun r' n' M47 hp => ?_)
  obtain ⟨hr', hn', hR47, hf47⟩ := hp
  rw [hn', hr']
  obtain ⟨g47_0, g47_1, g47_2, g47_3, g47_4, g47_5⟩ := id hR47
  show xW p l e ({ frames := 5, cells := 0, slots := 0, locals := 121 } : Room) s m args below meth c D xcl (x_A M nx) 3 (MQ below (x_Q D xcl (x_A M nx) (rwPost nx M a sg n t (rdx tx n wd τ0))) args s 0 0 (x_A M nx)) 0 0 (nx) M47 4 [(0, .ref (a)), (1, .ref (t))] []
  refine x_aload_n F 0 dR_readRows_4 rfl rfl ?_
  refine x_get (ci := 3) F 3 (x_in inR) rfl (by decide) (x_m kfR_23) dR_readRows_5 g47_0 rfl ?_
  refine x_if_ne F (tgt := 18) dR_readRows_8 (by decide) (fun c1 => ?_) (fun c1 => ?_)
  · skip
    have c1 : n ≠ 0 := by
      have z : ¬ (n = 0) := fun zz => c1 ((nI_eq (a := n) (b := 0) (by omega) (by omega)).mpr zz)
      omega
    have hn0 : ¬ n = 0 := c1
    have loop : ∀ (k : Nat) (i q1 c1 : Nat) (τ : tS) (w1 : Nat → Int64) (M1 : xH), i + k = 41 → q1 ≤ n → τ.2.2.2.2.2.2.2 ≤ τ.2.2.2.2.2.2.1 → rAt M1 a sg w1 c1 n q1 (nI 0) (-1) → tIs M1 t τ → (∀ b, (b < a ∨ a + 2 < b) ∧ (b < t ∨ t + 6 < b) → M1 b = M b) → rows tx n 41 wd τ0 0 = rows tx n k w1 τ q1 → xW p l e ({ frames := 5, cells := 0, slots := 0, locals := 121 } : Room) s m args below meth c D xcl (x_A M nx) 3 (MQ below (x_Q D xcl (x_A M nx) (rwPost nx M a sg n t (rdx tx n wd τ0))) args s 0 0 (x_A M nx)) 0 0 (nx) M1 20 [(2, .int (nI (i))), (0, .ref (a)), (1, .ref (t))] [] := by
      intro k
      induction k with
      | zero =>
        intro i q1 c1 τ w1 M1 hi hqn1 hcp1 hR1 hT1 hfr hf
        obtain ⟨g0, g1, g2, g3, g4, g5⟩ := id hR1
        obtain ⟨v0, v1, v2, v3, v4, v5, v6, v7, v8⟩ := id hT1
        refine x_iload_n F 0 dR_readRows_20 rfl rfl ?_
        refine x_bipush F (v := nI (40)) dR_readRows_21 (by decide) ?_
        refine x_icmp_gt F (tgt := 53) dR_readRows_23 (by decide) (fun c2 => ?_) (fun c2 => ?_)
        · skip
          have c2 : 40 < i := by
            exact (nI_ltI (a := 40) (b := i) (by omega) (by omega)).mp c2
          refine x_iconst F (v := nI (1)) dR_readRows_53 (by decide) ?_
          exact x_zret F hr (by rfl) dR_readRows_54 (by rw [rdx, if_neg hn0, show rows tx n 41 wd τ0 0 = (none, τ) from hf]; exact ⟨rfl, fun b hb => (hfr _ hb).trans (rfl), rfl, hT1, _, _, _, hR1⟩)
        · skip
          have c2 : i ≤ 40 := by
            have z : ¬ (40 < i) := fun zz => c2 ((nI_ltI (a := 40) (b := i) (by omega) (by omega)).mpr zz)
            omega
          exact absurd c2 (by omega)
      | succ k ih =>
        intro i q1 c1 τ w1 M1 hi hqn1 hcp1 hR1 hT1 hfr hf
        obtain ⟨g0, g1, g2, g3, g4, g5⟩ := id hR1
        obtain ⟨v0, v1, v2, v3, v4, v5, v6, v7, v8⟩ := id hT1
        refine x_iload_n F 0 dR_readRows_20 rfl rfl ?_
        refine x_bipush F (v := nI (40)) dR_readRows_21 (by decide) ?_
        refine x_icmp_gt F (tgt := 53) dR_readRows_23 (by decide) (fun c3 => ?_) (fun c3 => ?_)
        · skip
          have c3 : 40 < i := by
            exact (nI_ltI (a := 40) (b := i) (by omega) (by omega)).mp c3
          exact absurd c3 (by omega)
        · skip
          have c3 : i ≤ 40 := by
            have z : ¬ (40 < i) := fun zz => c3 ((nI_ltI (a := 40) (b := i) (by omega) (by omega)).mpr zz)
            omega
          refine x_aload_n F 1 dR_readRows_26 rfl rfl ?_
          refine x_get (ci := 3) F 4 (x_in inR) rfl (by decide) (x_m kfR_26) dR_readRows_27 g0 rfl ?_
          refine x_aload_n F 1 dR_readRows_30 rfl rfl ?_
          refine x_get (ci := 3) F 3 (x_in inR) rfl (by decide) (x_m kfR_23) dR_readRows_31 g0 rfl ?_
          refine x_icmp_ge F (tgt := 53) dR_readRows_34 (by decide) (fun c4 => ?_) (fun c4 => ?_)
          · skip
            have c4 : n ≤ q1 := by
              exact (nI_leI (a := n) (b := q1) (by omega) (by omega)).mp c4
            refine x_iconst F (v := nI (1)) dR_readRows_53 (by decide) ?_
            exact x_zret F hr (by rfl) dR_readRows_54 (by rw [rdx, if_neg hn0, show rows tx n 41 wd τ0 0 = (none, τ) from by rw [hf, rows_s, if_neg (by omega)]]; exact ⟨rfl, fun b hb => (hfr _ hb).trans (rfl), rfl, hT1, _, _, _, hR1⟩)
          · skip
            have c4 : q1 < n := by
              have z : ¬ (n ≤ q1) := fun zz => c4 ((nI_leI (a := n) (b := q1) (by omega) (by omega)).mpr zz)
              omega
            refine x_aload_n F 1 dR_readRows_37 rfl rfl ?_
            refine x_aload_n F 2 dR_readRows_38 rfl rfl ?_
            refine yVr (n := 1) (As := [.ref (t)]) (ci := 3) F kmR_46 kiR_readRow ksR_readRow knR kcR_readRow (by decide +kernel) dR_readRows_39 (cR_readRow l (nx) M1 (a) sg w1 c1 n q1 (nI 0) (-1) hR1 tx hX (by omega) (t) τ.1 τ.2.1 τ.2.2.1 τ.2.2.2.1 τ.2.2.2.2.1 τ.2.2.2.2.2.1 τ.2.2.2.2.2.2.1 τ.2.2.2.2.2.2.2 hT1 hdis hcp1) rfl g0 rfl rfl (Nat.le_of_ble_eq_true rfl) ⟨Nat.le_of_ble_eq_true rfl, Nat.le_of_ble_eq_true rfl⟩ ⟨Nat.le_of_ble_eq_true rfl, Nat.le_of_ble_eq_true rfl⟩ (fun r' n' M' hp => ?_)
            obtain ⟨hn', hfr2, hx2⟩ := id hp
            rw [hn']
            have hdq : q1 + dsh tx n q1 ≤ n := by have := rn_le (fun c => decide (c = 45)) tx (n - q1) q1; show q1 + rn _ _ _ _ ≤ n; omega
            have hb4 := wds_b (tx := tx) (n := n) (mo := 4) (f := 4) (k := 0) (q := q1 + dsh tx n q1 + dN tx n (q1 + dsh tx n q1)) (wd := w1) (by omega) (hrun_n rfl _ _ _ _ hdq)
            cases hrk : rowK tx n w1 τ.1 τ.2.1 τ.2.2.2.2.2.2.1 q1 with
            | some f =>
              rw [hrk] at hx2
              obtain ⟨rfl, hT2, w2, c2, q2, hR2⟩ := hx2
              refine x_if_ne F (tgt := 47) dR_readRows_42 (by decide) (fun z => absurd rfl z) (fun _ => ?_)
              refine x_iconst F (v := nI (0)) dR_readRows_45 (by decide) ?_
              exact x_zret F hr (by rfl) dR_readRows_46 (by rw [rdx, if_neg hn0, show rows tx n 41 wd τ0 0 = (some f, τ) from by rw [hf, rows_s, if_pos c4, hrk]]; exact ⟨rfl, fun b hb => (hfr2 b hb).trans (hfr b hb), rfl, ⟨τ, hT2⟩, _, _, _, hR2⟩)
            | none =>
              rw [hrk] at hx2
              obtain ⟨rfl, hT2, hR2⟩ := hx2
              refine x_if_ne F (tgt := 47) dR_readRows_42 (by decide) (fun _ => ?_) (fun z => absurd z (by decide))
              refine x_iinc F 0 [(2, .int (nI (i + 1))), (0, .ref (a)), (1, .ref (t))] dR_readRows_47 rfl (nI_add (i) 1) (by decide) rfl ?_
              refine x_goto F (tgt := 20) dR_readRows_50 (by decide) ?_
              exact ih (i + 1) _ _ (tRow tx n w1 τ (dsh tx n q1) (q1 + dsh tx n q1)) _ _ (by omega) (q1n hrk) (chp_le _ hcp1) hR2 hT2 (fun b hb => (hfr2 b hb).trans (hfr b hb)) (by rw [hf, rows_s, if_pos c4, hrk])
    refine x_iconst F (v := nI (0)) dR_readRows_18 (by decide) ?_
    refine x_istore_n F [(2, .int (nI (0))), (0, .ref (a)), (1, .ref (t))] dR_readRows_19 rfl (by decide) rfl ?_
    exact loop 41 0 0 _ τ0 _ _ (by omega) (by omega) hcp hR47 (tAt_fr hTr (fun b _ _ => hf47 b (by omega))) (fun b hb => (hf47 _ (by omega)).trans (rfl)) rfl
  · skip
    have c1 : n = 0 := by
      exact (nI_eq (a := n) (b := 0) (by omega) (by omega)).mp c1
    refine x_aload_n F 0 dR_readRows_11 rfl rfl ?_
    refine x_iconst F (v := nI (1)) dR_readRows_12 (by decide) ?_
    refine x_iconst F (v := nI (0)) dR_readRows_13 (by decide) ?_
    refine yVr (n := 2) (As := [.int (nI (1)), .int (nI (0))]) (ci := 3) F kmR_42 kiR_fail ksR_fail knR kcR_fail (by decide +kernel) dR_readRows_14 (cR_fail l (nx) M47 (a) sg wd cw n 0 (nI (0)) ((-1)) hR47 (nI (1)) (nI (0))) rfl g47_0 rfl rfl (Nat.le_of_ble_eq_true rfl) ⟨Nat.le_of_ble_eq_true rfl, Nat.le_of_ble_eq_true rfl⟩ ⟨Nat.le_of_ble_eq_true rfl, Nat.le_of_ble_eq_true rfl⟩ (fun r' n' M48 hp => ?_)
    obtain ⟨hr', hn', hR48, hf48⟩ := hp
    rw [hn', hr']
    obtain ⟨g48_0, g48_1, g48_2, g48_3, g48_4, g48_5⟩ := id hR48
    show xW p l e ({ frames := 5, cells := 0, slots := 0, locals := 121 } : Room) s m args below meth c D xcl (x_A M nx) 3 (MQ below (x_Q D xcl (x_A M nx) (rwPost nx M a sg n t (rdx tx n wd τ0))) args s 0 0 (x_A M nx)) 0 0 (nx) M48 17 [(0, .ref (a)), (1, .ref (t))] [.int (nI (0))]
    exact x_zret F hr (by rfl) dR_readRows_17 (by rw [rdx, if_pos c1]; exact ⟨rfl, fun b hb => (hf48 _ (by omega)).trans ((hf47 _ (by omega)).trans (rfl)), rfl, ⟨τ0, (tAt_fr (tAt_fr hTr (fun b _ _ => hf47 b (by omega))) (fun b _ _ => hf48 b (by omega)))⟩, _, _, _, hR48⟩)
end
section
abbrev pS : Type := (Nat → Int32) × (Nat → Int64) × (Nat → Int32) × (Nat → Int64) × Nat
def pIs (M : xH) (a cap : Nat) (σ : pS) : Prop := pAt M a cap σ.1 σ.2.1 σ.2.2.1 σ.2.2.2.1 σ.2.2.2.2
def pPost (v : Option Value) (nx : Nat) (M : xH) (a cap : Nat) (σ : pS) : xO → Nat → xH → Prop := fun r n' M' => r = v ∧ n' = nx ∧ pIs M' a cap σ ∧ ∀ b, (b < a ∨ a + 4 < b) → M' b = M b
/-- from g on up to i each place has what the next one had -/
def sh {α : Type} (f : Nat → α) (g i : Nat) : Nat → α := fun j => if g ≤ j ∧ j < i then f (j + 1) else f j
theorem sh_0 {α : Type} (f : Nat → α) (g : Nat) : sh f g g = f := by
  funext j; unfold sh; rw [if_neg (by omega)]
theorem sh_n {α : Type} (f : Nat → α) (g i : Nat) : sh f g i (i + 1) = f (i + 1) := by unfold sh; rw [if_neg (by omega)]
theorem sh_i (f : Nat → Int32) (g i : Nat) (h : g ≤ i) : upd (sh f g i) i (f (i + 1)) = sh f g (i + 1) := by
  funext j
  unfold upd sh
  by_cases hj : j = i
  · subst hj; rw [if_pos rfl, if_pos (by omega)]
  · rw [if_neg hj]
    by_cases h2 : g ≤ j ∧ j < i
    · rw [if_pos h2, if_pos (by omega)]
    · rw [if_neg h2, if_neg (by omega)]
theorem sh_l (f : Nat → Int64) (g i : Nat) (h : g ≤ i) : vp_updL (sh f g i) i (f (i + 1)) = sh f g (i + 1) := by
  funext j
  unfold vp_updL sh
  by_cases hj : j = i
  · subst hj; rw [if_pos rfl, if_pos (by omega)]
  · rw [if_neg hj]
    by_cases h2 : g ≤ j ∧ j < i
    · rw [if_pos h2, if_pos (by omega)]
    · rw [if_neg h2, if_neg (by omega)]
def dp (σ : pS) (g : Nat) : pS := (sh σ.1 g (σ.2.2.2.2 - 1), sh σ.2.1 g (σ.2.2.2.2 - 1), sh σ.2.2.1 g (σ.2.2.2.2 - 1), sh σ.2.2.2.1 g (σ.2.2.2.2 - 1), σ.2.2.2.2 - 1)
/-- from the k-th down, those with P are dropped -/
def dpa (P : pS → Nat → Bool) : Nat → pS → pS
  | 0, σ => σ
  | k + 1, σ => if P σ k then dpa P k (dp σ k) else dpa P k σ
theorem dpa_s (P : pS → Nat → Bool) (k : Nat) (σ : pS) : dpa P (k + 1) σ = if P σ k then dpa P k (dp σ k) else dpa P k σ := rfl
def padd (σ : pS) (e : Int32) (c : Int64) (m : Int32) (o : Int64) : pS := (upd σ.1 σ.2.2.2.2 e, vp_updL σ.2.1 σ.2.2.2.2 c, upd σ.2.2.1 σ.2.2.2.2 m, vp_updL σ.2.2.2.1 σ.2.2.2.2 o, σ.2.2.2.2 + 1)
set_option maxHeartbeats 4000000 in
set_option maxRecDepth 100000 in
theorem cP_add (l : Launch) (nx : Nat) (M : xH) (a cap : Nat) (σ : pS) (hT : pIs M a cap σ) (hc : σ.2.2.2.2 < cap) (ee : Int32) (co : Int64) (mm : Int32) (oo : Int64) : xC l xcl yP_add (xw (Cond.code yP_add bP_add 7 none)) ({ frames := 1, cells := 0, slots := 0, locals := 20 } : Room) [.ref (a), .int (ee), .long (co), .int (mm), .long (oo)] nx M (pPost none nx M a cap (padd σ ee co mm oo)) := by
  obtain ⟨h0, h1, h2, h3, h4, hz, hcp⟩ := id hT
  refine yC (by decide) (Nat.le_of_ble_eq_true rfl) ?_
  intro p e s m args below meth c D F hr hn
  refine x_aload_n F 0 dP_add_0 rfl rfl ?_
  refine yV (n := 0) (As := []) (ci := 2) F kmP_39 kiP_isFull ksP_isFull knP kcP_isFull (by decide +kernel) dP_add_1 (cP_isFull l (nx) M (a) cap σ.1 σ.2.1 σ.2.2.1 σ.2.2.2.1 σ.2.2.2.2 hT ) rfl h0 rfl rfl (Nat.le_of_ble_eq_true rfl) ⟨Nat.le_of_ble_eq_true rfl, Nat.le_of_ble_eq_true rfl⟩ ⟨Nat.le_of_ble_eq_true rfl, Nat.le_of_ble_eq_true rfl⟩ ?_
  refine x_if_eq F (tgt := 8) dP_add_4 (by decide) (fun c1 => ?_) (fun c1 => ?_)
  · skip
    have c1 : (decide (cap ≤ σ.2.2.2.2)) = false := bI_0 c1
    refine x_aload_n F 0 dP_add_8 rfl rfl ?_
    refine x_get (ci := 2) F 0 (x_in inP) rfl (by decide) (x_m kfP_21) dP_add_9 h0 rfl ?_
    refine x_aload_n F 0 dP_add_12 rfl rfl ?_
    refine x_get (ci := 2) F 4 (x_in inP) rfl (by decide) (x_m kfP_9) dP_add_13 h0 rfl ?_
    refine x_iload_n F 1 dP_add_16 rfl rfl ?_
    refine x_iast F dP_add_17 h1 (pk_in (σ.2.2.2.2) (cap) (by omega)) ?_
    rw [nI_clamp (show σ.2.2.2.2 < 2 ^ 31 by omega)]
    show xW p l e ({ frames := 1, cells := 0, slots := 0, locals := 20 } : Room) s m args below meth c D xcl (x_A M nx) 7 (MQ below (x_Q D xcl (x_A M nx) (pPost none nx M a cap (padd σ ee co mm oo))) args s 0 0 (x_A M nx)) 0 0 (nx) (x_up M (a + 1) (.inl (.int, cap, .inl (upd (σ.1) (σ.2.2.2.2) (ee))))) 18 [(0, .ref (a)), (1, .int (ee)), (2, .long (co)), (4, .int (mm)), (5, .long (oo))] []
    refine x_aload_n F 0 dP_add_18 rfl rfl ?_
    refine x_get (ci := 2) F 1 (x_in inP) rfl (by decide) (x_m kfP_25) dP_add_19 (x_up_k h0 (by omega)) rfl ?_
    refine x_aload_n F 0 dP_add_22 rfl rfl ?_
    refine x_get (ci := 2) F 4 (x_in inP) rfl (by decide) (x_m kfP_9) dP_add_23 (x_up_k h0 (by omega)) rfl ?_
    refine x_lload_n F 2 dP_add_26 rfl rfl ?_
    refine x_last F dP_add_27 (x_up_k h2 (by omega)) (pk_in (σ.2.2.2.2) (cap) (by omega)) ?_
    rw [nI_clamp (show σ.2.2.2.2 < 2 ^ 31 by omega)]
    show xW p l e ({ frames := 1, cells := 0, slots := 0, locals := 20 } : Room) s m args below meth c D xcl (x_A M nx) 7 (MQ below (x_Q D xcl (x_A M nx) (pPost none nx M a cap (padd σ ee co mm oo))) args s 0 0 (x_A M nx)) 0 0 (nx) (x_up (x_up M (a + 1) (.inl (.int, cap, .inl (upd (σ.1) (σ.2.2.2.2) (ee))))) (a + 2) (.inl (.long, cap, .inr (.inl (vp_updL (σ.2.1) (σ.2.2.2.2) (co)))))) 28 [(0, .ref (a)), (1, .int (ee)), (2, .long (co)), (4, .int (mm)), (5, .long (oo))] []
    refine x_aload_n F 0 dP_add_28 rfl rfl ?_
    refine x_get (ci := 2) F 2 (x_in inP) rfl (by decide) (x_m kfP_29) dP_add_29 (x_up_k (x_up_k h0 (by omega)) (by omega)) rfl ?_
    refine x_aload_n F 0 dP_add_32 rfl rfl ?_
    refine x_get (ci := 2) F 4 (x_in inP) rfl (by decide) (x_m kfP_9) dP_add_33 (x_up_k (x_up_k h0 (by omega)) (by omega)) rfl ?_
    refine x_iload F 3 dP_add_36 rfl ?_
    refine x_iast F dP_add_38 (x_up_k (x_up_k h3 (by omega)) (by omega)) (pk_in (σ.2.2.2.2) (cap) (by omega)) ?_
    rw [nI_clamp (show σ.2.2.2.2 < 2 ^ 31 by omega)]
    show xW p l e ({ frames := 1, cells := 0, slots := 0, locals := 20 } : Room) s m args below meth c D xcl (x_A M nx) 7 (MQ below (x_Q D xcl (x_A M nx) (pPost none nx M a cap (padd σ ee co mm oo))) args s 0 0 (x_A M nx)) 0 0 (nx) (x_up (x_up (x_up M (a + 1) (.inl (.int, cap, .inl (upd (σ.1) (σ.2.2.2.2) (ee))))) (a + 2) (.inl (.long, cap, .inr (.inl (vp_updL (σ.2.1) (σ.2.2.2.2) (co)))))) (a + 3) (.inl (.int, cap, .inl (upd (σ.2.2.1) (σ.2.2.2.2) (mm))))) 39 [(0, .ref (a)), (1, .int (ee)), (2, .long (co)), (4, .int (mm)), (5, .long (oo))] []
    refine x_aload_n F 0 dP_add_39 rfl rfl ?_
    refine x_get (ci := 2) F 3 (x_in inP) rfl (by decide) (x_m kfP_32) dP_add_40 (x_up_k (x_up_k (x_up_k h0 (by omega)) (by omega)) (by omega)) rfl ?_
    refine x_aload_n F 0 dP_add_43 rfl rfl ?_
    refine x_get (ci := 2) F 4 (x_in inP) rfl (by decide) (x_m kfP_9) dP_add_44 (x_up_k (x_up_k (x_up_k h0 (by omega)) (by omega)) (by omega)) rfl ?_
    refine x_lload F 4 dP_add_47 rfl ?_
    refine x_last F dP_add_49 (x_up_k (x_up_k (x_up_k h4 (by omega)) (by omega)) (by omega)) (pk_in (σ.2.2.2.2) (cap) (by omega)) ?_
    rw [nI_clamp (show σ.2.2.2.2 < 2 ^ 31 by omega)]
    show xW p l e ({ frames := 1, cells := 0, slots := 0, locals := 20 } : Room) s m args below meth c D xcl (x_A M nx) 7 (MQ below (x_Q D xcl (x_A M nx) (pPost none nx M a cap (padd σ ee co mm oo))) args s 0 0 (x_A M nx)) 0 0 (nx) (x_up (x_up (x_up (x_up M (a + 1) (.inl (.int, cap, .inl (upd (σ.1) (σ.2.2.2.2) (ee))))) (a + 2) (.inl (.long, cap, .inr (.inl (vp_updL (σ.2.1) (σ.2.2.2.2) (co)))))) (a + 3) (.inl (.int, cap, .inl (upd (σ.2.2.1) (σ.2.2.2.2) (mm))))) (a + 4) (.inl (.long, cap, .inr (.inl (vp_updL (σ.2.2.2.1) (σ.2.2.2.2) (oo)))))) 50 [(0, .ref (a)), (1, .int (ee)), (2, .long (co)), (4, .int (mm)), (5, .long (oo))] []
    refine x_aload_n F 0 dP_add_50 rfl rfl ?_
    refine x_dup F dP_add_51 rfl ?_
    refine x_get (ci := 2) F 4 (x_in inP) rfl (by decide) (x_m kfP_9) dP_add_52 (x_up_k (x_up_k (x_up_k (x_up_k h0 (by omega)) (by omega)) (by omega)) (by omega)) rfl ?_
    refine x_iconst F (v := nI (1)) dP_add_55 (by decide) ?_
    refine x_iadd F dP_add_56 ?_
    refine xW.toi (nI (σ.2.2.2.2 + 1)) (nI_add _ _) ?_
    refine x_put (ci := 2) (ty := .int) F 4 (x_in inP) tP tP_ok nP rfl (by decide) (x_m kfP_9) dP_add_57 rfl (by decide +kernel) rfl rfl (x_up_k (x_up_k (x_up_k (x_up_k h0 (by omega)) (by omega)) (by omega)) (by omega)) (Nat.le_of_ble_eq_true rfl) ?_
    show xW p l e ({ frames := 1, cells := 0, slots := 0, locals := 20 } : Room) s m args below meth c D xcl (x_A M nx) 7 (MQ below (x_Q D xcl (x_A M nx) (pPost none nx M a cap (padd σ ee co mm oo))) args s 0 0 (x_A M nx)) 0 0 (nx) (x_up (x_up (x_up (x_up (x_up M (a + 1) (.inl (.int, cap, .inl (upd (σ.1) (σ.2.2.2.2) (ee))))) (a + 2) (.inl (.long, cap, .inr (.inl (vp_updL (σ.2.1) (σ.2.2.2.2) (co)))))) (a + 3) (.inl (.int, cap, .inl (upd (σ.2.2.1) (σ.2.2.2.2) (mm))))) (a + 4) (.inl (.long, cap, .inr (.inl (vp_updL (σ.2.2.2.1) (σ.2.2.2.2) (oo)))))) (a) (.inr (2, [.ref (a + 1), .ref (a + 2), .ref (a + 3), .ref (a + 4), .int (nI (σ.2.2.2.2 + 1))]))) 60 [(0, .ref (a)), (1, .int (ee)), (2, .long (co)), (4, .int (mm)), (5, .long (oo))] []
    exact x_vret F hr dP_add_60 (⟨rfl, rfl, ⟨x_up_s, (x_up_k (x_up_k (x_up_k (x_up_k x_up_s (by omega)) (by omega)) (by omega)) (by omega)), (x_up_k (x_up_k (x_up_k x_up_s (by omega)) (by omega)) (by omega)), (x_up_k (x_up_k x_up_s (by omega)) (by omega)), (x_up_k x_up_s (by omega)), (show σ.2.2.2.2 + 1 ≤ cap by omega), by omega⟩, fun b hb => (x_up_n (by omega)).trans ((x_up_n (by omega)).trans ((x_up_n (by omega)).trans ((x_up_n (by omega)).trans ((x_up_n (by omega)).trans (rfl)))))⟩)
  · skip
    have c1 : (decide (cap ≤ σ.2.2.2.2)) = true := bI_1 c1
    simp at c1
    exact absurd hc (by omega)
set_option maxHeartbeats 4000000 in
set_option maxRecDepth 100000 in
theorem cP_drop (l : Launch) (nx : Nat) (M : xH) (a cap : Nat) (σ : pS) (hT : pIs M a cap σ) (g : Nat) (hg : g < σ.2.2.2.2) : xC l xcl yP_drop (xw (Cond.code yP_drop bP_drop 3 none)) ({ frames := 0, cells := 0, slots := 0, locals := 0 } : Room) [.ref (a), .int (nI (g))] nx M (pPost none nx M a cap (dp σ g)) := by
  obtain ⟨h0, h1, h2, h3, h4, hz, hcp⟩ := id hT
  refine yC (by decide) (Nat.le_of_ble_eq_true rfl) ?_
  intro p e s m args below meth c D F hr hn
  have loop : ∀ (k : Nat) (i : Nat) (M1 : xH), i + k = σ.2.2.2.2 - 1 → g ≤ i → pAt M1 a cap (sh σ.1 g i) (sh σ.2.1 g i) (sh σ.2.2.1 g i) (sh σ.2.2.2.1 g i) σ.2.2.2.2 → (∀ b, (b < a ∨ a + 4 < b) → M1 b = M b) → xW p l e ({ frames := 0, cells := 0, slots := 0, locals := 0 } : Room) s m args below meth c D xcl (x_A M nx) 3 (MQ below (x_Q D xcl (x_A M nx) (pPost none nx M a cap (dp σ g))) args s 0 0 (x_A M nx)) 0 0 (nx) M1 2 [(2, .int (nI (i))), (0, .ref (a)), (1, .int (nI (g)))] [] := by
    intro k
    induction k with
    | zero =>
      intro i M1 hi hgi hP1 hfr
      obtain ⟨g0, g1, g2, g3, g4, g5, g6⟩ := id hP1
      refine x_iload_n F 0 dP_drop_2 rfl rfl ?_
      refine x_if_lt F (tgt := 78) dP_drop_3 (by decide) (fun c1 => ?_) (fun c1 => ?_)
      · skip
        have c1 : i < 0 := by
          exact (nI_ltI (a := i) (b := 0) (by omega) (by omega)).mp c1
        exact absurd c1 (by omega)
      · skip
        have c1 : 0 ≤ i := by
          have z : ¬ (i < 0) := fun zz => c1 ((nI_ltI (a := i) (b := 0) (by omega) (by omega)).mpr zz)
          omega
        refine x_iload_n F 0 dP_drop_6 rfl rfl ?_
        refine x_aload_n F 1 dP_drop_7 rfl rfl ?_
        refine x_get (ci := 2) F 4 (x_in inP) rfl (by decide) (x_m kfP_9) dP_drop_8 g0 rfl ?_
        refine x_iconst F (v := nI (1)) dP_drop_11 (by decide) ?_
        refine x_isub F dP_drop_12 ?_
        refine xW.toi (nI (σ.2.2.2.2 - 1)) (pk_sub (by omega)) ?_
        refine x_icmp_ge F (tgt := 78) dP_drop_13 (by decide) (fun c2 => ?_) (fun c2 => ?_)
        · skip
          have c2 : σ.2.2.2.2 - 1 ≤ i := by
            exact (nI_leI (a := σ.2.2.2.2 - 1) (b := i) (by omega) (by omega)).mp c2
          have hz1 : i = σ.2.2.2.2 - 1 := by omega
          refine x_aload_n F 1 dP_drop_78 rfl rfl ?_
          refine x_dup F dP_drop_79 rfl ?_
          refine x_get (ci := 2) F 4 (x_in inP) rfl (by decide) (x_m kfP_9) dP_drop_80 g0 rfl ?_
          refine x_iconst F (v := nI (1)) dP_drop_83 (by decide) ?_
          refine x_isub F dP_drop_84 ?_
          refine xW.toi (nI (σ.2.2.2.2 - 1)) (pk_sub (by omega)) ?_
          refine x_put (ci := 2) (ty := .int) F 4 (x_in inP) tP tP_ok nP rfl (by decide) (x_m kfP_9) dP_drop_85 rfl (by decide +kernel) rfl rfl g0 (Nat.le_of_ble_eq_true rfl) ?_
          show xW p l e ({ frames := 0, cells := 0, slots := 0, locals := 0 } : Room) s m args below meth c D xcl (x_A M nx) 3 (MQ below (x_Q D xcl (x_A M nx) (pPost none nx M a cap (dp σ g))) args s 0 0 (x_A M nx)) 0 0 (nx) (x_up M1 (a) (.inr (2, [.ref (a + 1), .ref (a + 2), .ref (a + 3), .ref (a + 4), .int (nI (σ.2.2.2.2 - 1))]))) 88 [(2, .int (nI (i))), (0, .ref (a)), (1, .int (nI (g)))] []
          exact x_vret F hr dP_drop_88 (⟨rfl, rfl, (by have e : pAt _ a cap (sh σ.1 g i) (sh σ.2.1 g i) (sh σ.2.2.1 g i) (sh σ.2.2.2.1 g i) (σ.2.2.2.2 - 1) := ⟨x_up_s, (x_up_k g1 (by omega)), (x_up_k g2 (by omega)), (x_up_k g3 (by omega)), (x_up_k g4 (by omega)), (by omega), (by omega)⟩; rw [hz1] at e; exact e), fun b hb => (x_up_n (by omega)).trans ((hfr _ hb).trans (rfl))⟩)
        · skip
          have c2 : i < σ.2.2.2.2 - 1 := by
            have z : ¬ (σ.2.2.2.2 - 1 ≤ i) := fun zz => c2 ((nI_leI (a := σ.2.2.2.2 - 1) (b := i) (by omega) (by omega)).mpr zz)
            omega
          exact absurd c2 (by omega)
    | succ k ih =>
      intro i M1 hi hgi hP1 hfr
      obtain ⟨g0, g1, g2, g3, g4, g5, g6⟩ := id hP1
      refine x_iload_n F 0 dP_drop_2 rfl rfl ?_
      refine x_if_lt F (tgt := 78) dP_drop_3 (by decide) (fun c3 => ?_) (fun c3 => ?_)
      · skip
        have c3 : i < 0 := by
          exact (nI_ltI (a := i) (b := 0) (by omega) (by omega)).mp c3
        exact absurd c3 (by omega)
      · skip
        have c3 : 0 ≤ i := by
          have z : ¬ (i < 0) := fun zz => c3 ((nI_ltI (a := i) (b := 0) (by omega) (by omega)).mpr zz)
          omega
        refine x_iload_n F 0 dP_drop_6 rfl rfl ?_
        refine x_aload_n F 1 dP_drop_7 rfl rfl ?_
        refine x_get (ci := 2) F 4 (x_in inP) rfl (by decide) (x_m kfP_9) dP_drop_8 g0 rfl ?_
        refine x_iconst F (v := nI (1)) dP_drop_11 (by decide) ?_
        refine x_isub F dP_drop_12 ?_
        refine xW.toi (nI (σ.2.2.2.2 - 1)) (pk_sub (by omega)) ?_
        refine x_icmp_ge F (tgt := 78) dP_drop_13 (by decide) (fun c4 => ?_) (fun c4 => ?_)
        · skip
          have c4 : σ.2.2.2.2 - 1 ≤ i := by
            exact (nI_leI (a := σ.2.2.2.2 - 1) (b := i) (by omega) (by omega)).mp c4
          exact absurd c4 (by omega)
        · skip
          have c4 : i < σ.2.2.2.2 - 1 := by
            have z : ¬ (σ.2.2.2.2 - 1 ≤ i) := fun zz => c4 ((nI_leI (a := σ.2.2.2.2 - 1) (b := i) (by omega) (by omega)).mpr zz)
            omega
          refine x_aload_n F 1 dP_drop_16 rfl rfl ?_
          refine x_get (ci := 2) F 0 (x_in inP) rfl (by decide) (x_m kfP_21) dP_drop_17 g0 rfl ?_
          refine x_iload_n F 0 dP_drop_20 rfl rfl ?_
          refine x_aload_n F 1 dP_drop_21 rfl rfl ?_
          refine x_get (ci := 2) F 0 (x_in inP) rfl (by decide) (x_m kfP_21) dP_drop_22 g0 rfl ?_
          refine x_iload_n F 0 dP_drop_25 rfl rfl ?_
          refine x_iconst F (v := nI (1)) dP_drop_26 (by decide) ?_
          refine x_iadd F dP_drop_27 ?_
          refine xW.toi (nI (i + 1)) (nI_add _ _) ?_
          refine x_iald F dP_drop_28 g1 (pk_in (i + 1) (cap) (by omega)) ?_
          refine xW.toi (σ.1 (i + 1)) (by rw [nI_clamp (by omega)]; exact sh_n σ.1 g i) ?_
          refine x_iast F dP_drop_29 g1 (pk_in (i) (cap) (by omega)) ?_
          rw [nI_clamp (show i < 2 ^ 31 by omega)]
          show xW p l e ({ frames := 0, cells := 0, slots := 0, locals := 0 } : Room) s m args below meth c D xcl (x_A M nx) 3 (MQ below (x_Q D xcl (x_A M nx) (pPost none nx M a cap (dp σ g))) args s 0 0 (x_A M nx)) 0 0 (nx) (x_up M1 (a + 1) (.inl (.int, cap, .inl (upd ((sh σ.1 g i)) (i) (σ.1 (i + 1)))))) 30 [(2, .int (nI (i))), (0, .ref (a)), (1, .int (nI (g)))] []
          refine x_aload_n F 1 dP_drop_30 rfl rfl ?_
          refine x_get (ci := 2) F 1 (x_in inP) rfl (by decide) (x_m kfP_25) dP_drop_31 (x_up_k g0 (by omega)) rfl ?_
          refine x_iload_n F 0 dP_drop_34 rfl rfl ?_
          refine x_aload_n F 1 dP_drop_35 rfl rfl ?_
          refine x_get (ci := 2) F 1 (x_in inP) rfl (by decide) (x_m kfP_25) dP_drop_36 (x_up_k g0 (by omega)) rfl ?_
          refine x_iload_n F 0 dP_drop_39 rfl rfl ?_
          refine x_iconst F (v := nI (1)) dP_drop_40 (by decide) ?_
          refine x_iadd F dP_drop_41 ?_
          refine xW.toi (nI (i + 1)) (nI_add _ _) ?_
          refine x_lald F dP_drop_42 (x_up_k g2 (by omega)) (pk_in (i + 1) (cap) (by omega)) ?_
          refine xW.tol (σ.2.1 (i + 1)) (by rw [nI_clamp (by omega)]; exact sh_n σ.2.1 g i) ?_
          refine x_last F dP_drop_43 (x_up_k g2 (by omega)) (pk_in (i) (cap) (by omega)) ?_
          rw [nI_clamp (show i < 2 ^ 31 by omega)]
          show xW p l e ({ frames := 0, cells := 0, slots := 0, locals := 0 } : Room) s m args below meth c D xcl (x_A M nx) 3 (MQ below (x_Q D xcl (x_A M nx) (pPost none nx M a cap (dp σ g))) args s 0 0 (x_A M nx)) 0 0 (nx) (x_up (x_up M1 (a + 1) (.inl (.int, cap, .inl (upd ((sh σ.1 g i)) (i) (σ.1 (i + 1)))))) (a + 2) (.inl (.long, cap, .inr (.inl (vp_updL ((sh σ.2.1 g i)) (i) (σ.2.1 (i + 1))))))) 44 [(2, .int (nI (i))), (0, .ref (a)), (1, .int (nI (g)))] []
          refine x_aload_n F 1 dP_drop_44 rfl rfl ?_
          refine x_get (ci := 2) F 2 (x_in inP) rfl (by decide) (x_m kfP_29) dP_drop_45 (x_up_k (x_up_k g0 (by omega)) (by omega)) rfl ?_
          refine x_iload_n F 0 dP_drop_48 rfl rfl ?_
          refine x_aload_n F 1 dP_drop_49 rfl rfl ?_
          refine x_get (ci := 2) F 2 (x_in inP) rfl (by decide) (x_m kfP_29) dP_drop_50 (x_up_k (x_up_k g0 (by omega)) (by omega)) rfl ?_
          refine x_iload_n F 0 dP_drop_53 rfl rfl ?_
          refine x_iconst F (v := nI (1)) dP_drop_54 (by decide) ?_
          refine x_iadd F dP_drop_55 ?_
          refine xW.toi (nI (i + 1)) (nI_add _ _) ?_
          refine x_iald F dP_drop_56 (x_up_k (x_up_k g3 (by omega)) (by omega)) (pk_in (i + 1) (cap) (by omega)) ?_
          refine xW.toi (σ.2.2.1 (i + 1)) (by rw [nI_clamp (by omega)]; exact sh_n σ.2.2.1 g i) ?_
          refine x_iast F dP_drop_57 (x_up_k (x_up_k g3 (by omega)) (by omega)) (pk_in (i) (cap) (by omega)) ?_
          rw [nI_clamp (show i < 2 ^ 31 by omega)]
          show xW p l e ({ frames := 0, cells := 0, slots := 0, locals := 0 } : Room) s m args below meth c D xcl (x_A M nx) 3 (MQ below (x_Q D xcl (x_A M nx) (pPost none nx M a cap (dp σ g))) args s 0 0 (x_A M nx)) 0 0 (nx) (x_up (x_up (x_up M1 (a + 1) (.inl (.int, cap, .inl (upd ((sh σ.1 g i)) (i) (σ.1 (i + 1)))))) (a + 2) (.inl (.long, cap, .inr (.inl (vp_updL ((sh σ.2.1 g i)) (i) (σ.2.1 (i + 1))))))) (a + 3) (.inl (.int, cap, .inl (upd ((sh σ.2.2.1 g i)) (i) (σ.2.2.1 (i + 1)))))) 58 [(2, .int (nI (i))), (0, .ref (a)), (1, .int (nI (g)))] []
          refine x_aload_n F 1 dP_drop_58 rfl rfl ?_
          refine x_get (ci := 2) F 3 (x_in inP) rfl (by decide) (x_m kfP_32) dP_drop_59 (x_up_k (x_up_k (x_up_k g0 (by omega)) (by omega)) (by omega)) rfl ?_
          refine x_iload_n F 0 dP_drop_62 rfl rfl ?_
          refine x_aload_n F 1 dP_drop_63 rfl rfl ?_
          refine x_get (ci := 2) F 3 (x_in inP) rfl (by decide) (x_m kfP_32) dP_drop_64 (x_up_k (x_up_k (x_up_k g0 (by omega)) (by omega)) (by omega)) rfl ?_
          refine x_iload_n F 0 dP_drop_67 rfl rfl ?_
          refine x_iconst F (v := nI (1)) dP_drop_68 (by decide) ?_
          refine x_iadd F dP_drop_69 ?_
          refine xW.toi (nI (i + 1)) (nI_add _ _) ?_
          refine x_lald F dP_drop_70 (x_up_k (x_up_k (x_up_k g4 (by omega)) (by omega)) (by omega)) (pk_in (i + 1) (cap) (by omega)) ?_
          refine xW.tol (σ.2.2.2.1 (i + 1)) (by rw [nI_clamp (by omega)]; exact sh_n σ.2.2.2.1 g i) ?_
          refine x_last F dP_drop_71 (x_up_k (x_up_k (x_up_k g4 (by omega)) (by omega)) (by omega)) (pk_in (i) (cap) (by omega)) ?_
          rw [nI_clamp (show i < 2 ^ 31 by omega)]
          show xW p l e ({ frames := 0, cells := 0, slots := 0, locals := 0 } : Room) s m args below meth c D xcl (x_A M nx) 3 (MQ below (x_Q D xcl (x_A M nx) (pPost none nx M a cap (dp σ g))) args s 0 0 (x_A M nx)) 0 0 (nx) (x_up (x_up (x_up (x_up M1 (a + 1) (.inl (.int, cap, .inl (upd ((sh σ.1 g i)) (i) (σ.1 (i + 1)))))) (a + 2) (.inl (.long, cap, .inr (.inl (vp_updL ((sh σ.2.1 g i)) (i) (σ.2.1 (i + 1))))))) (a + 3) (.inl (.int, cap, .inl (upd ((sh σ.2.2.1 g i)) (i) (σ.2.2.1 (i + 1)))))) (a + 4) (.inl (.long, cap, .inr (.inl (vp_updL ((sh σ.2.2.2.1 g i)) (i) (σ.2.2.2.1 (i + 1))))))) 72 [(2, .int (nI (i))), (0, .ref (a)), (1, .int (nI (g)))] []
          refine x_iinc F 0 [(2, .int (nI (i + 1))), (0, .ref (a)), (1, .int (nI (g)))] dP_drop_72 rfl (nI_add (i) 1) (by decide) rfl ?_
          refine x_goto F (tgt := 2) dP_drop_75 (by decide) ?_
          exact ih (i + 1) _ (by omega) (by omega) ⟨(x_up_k (x_up_k (x_up_k (x_up_k g0 (by omega)) (by omega)) (by omega)) (by omega)), (by rw [← sh_i σ.1 g i (by omega)]; exact (x_up_k (x_up_k (x_up_k x_up_s (by omega)) (by omega)) (by omega))), (by rw [← sh_l σ.2.1 g i (by omega)]; exact (x_up_k (x_up_k x_up_s (by omega)) (by omega))), (by rw [← sh_i σ.2.2.1 g i (by omega)]; exact (x_up_k x_up_s (by omega))), (by rw [← sh_l σ.2.2.2.1 g i (by omega)]; exact x_up_s), by omega, by omega⟩ (fun b hb => (x_up_n (by omega)).trans ((x_up_n (by omega)).trans ((x_up_n (by omega)).trans ((x_up_n (by omega)).trans ((hfr _ hb).trans (rfl))))))
  refine x_iload_n F 1 dP_drop_0 rfl rfl ?_
  refine x_istore_n F [(2, .int (nI (g))), (0, .ref (a)), (1, .int (nI (g)))] dP_drop_1 rfl (by decide) rfl ?_
  exact loop (σ.2.2.2.2 - 1 - g) g M (by omega) (by omega) (by rw [sh_0, sh_0, sh_0, sh_0]; exact hT) (fun _ _ => rfl)
set_option maxHeartbeats 4000000 in
set_option maxRecDepth 100000 in
theorem cP_dropFrom (l : Launch) (nx : Nat) (M : xH) (a cap : Nat) (σ : pS) (hT : pIs M a cap σ) (ee : Int32) : xC l xcl yP_dropFrom (xw (Cond.code yP_dropFrom bP_dropFrom 3 none)) ({ frames := 1, cells := 0, slots := 0, locals := 22 } : Room) [.ref (a), .int (ee)] nx M (pPost none nx M a cap (dpa (fun (s : pS) (j : Nat) => decide (s.1 j = ee)) σ.2.2.2.2 σ)) := by
  obtain ⟨h0, h1, h2, h3, h4, hz, hcp⟩ := id hT
  refine yC (by decide) (Nat.le_of_ble_eq_true rfl) ?_
  intro p e s m args below meth c D F hr hn
  have loop : ∀ (k : Nat) (σ1 : pS) (M1 : xH), k ≤ σ1.2.2.2.2 → pIs M1 a cap σ1 → (∀ b, (b < a ∨ a + 4 < b) → M1 b = M b) → dpa (fun (s : pS) (j : Nat) => decide (s.1 j = ee)) σ.2.2.2.2 σ = dpa (fun (s : pS) (j : Nat) => decide (s.1 j = ee)) k σ1 → xW p l e ({ frames := 1, cells := 0, slots := 0, locals := 22 } : Room) s m args below meth c D xcl (x_A M nx) 3 (MQ below (x_Q D xcl (x_A M nx) (pPost none nx M a cap (dpa (fun (s : pS) (j : Nat) => decide (s.1 j = ee)) σ.2.2.2.2 σ))) args s 0 0 (x_A M nx)) 0 0 (nx) M1 7 [(2, .int (pd (k))), (0, .ref (a)), (1, .int (ee))] [] := by
    intro k
    induction k with
    | zero =>
      intro σ1 M1 hk hP1 hfr hf
      show xW p l e ({ frames := 1, cells := 0, slots := 0, locals := 22 } : Room) s m args below meth c D xcl (x_A M nx) 3 (MQ below (x_Q D xcl (x_A M nx) (pPost none nx M a cap (dpa (fun (s : pS) (j : Nat) => decide (s.1 j = ee)) σ.2.2.2.2 σ))) args s 0 0 (x_A M nx)) 0 0 (nx) M1 7 [(2, .int ((-1))), (0, .ref (a)), (1, .int (ee))] []
      obtain ⟨g0, g1, g2, g3, g4, g5, g6⟩ := id hP1
      refine x_iload_n F 0 dP_dropFrom_7 rfl rfl ?_
      refine x_if_lt F (tgt := 32) dP_dropFrom_8 (by decide) (fun c1 => ?_) (fun c1 => ?_)
      · skip
        exact x_vret F hr dP_dropFrom_32 (by rw [show dpa (fun (s : pS) (j : Nat) => decide (s.1 j = ee)) σ.2.2.2.2 σ = σ1 from hf]; exact ⟨rfl, rfl, hP1, hfr⟩)
      · skip
        exact absurd (by decide) c1
    | succ k ih =>
      intro σ1 M1 hk hP1 hfr hf
      show xW p l e ({ frames := 1, cells := 0, slots := 0, locals := 22 } : Room) s m args below meth c D xcl (x_A M nx) 3 (MQ below (x_Q D xcl (x_A M nx) (pPost none nx M a cap (dpa (fun (s : pS) (j : Nat) => decide (s.1 j = ee)) σ.2.2.2.2 σ))) args s 0 0 (x_A M nx)) 0 0 (nx) M1 7 [(2, .int (nI (k))), (0, .ref (a)), (1, .int (ee))] []
      obtain ⟨g0, g1, g2, g3, g4, g5, g6⟩ := id hP1
      refine x_iload_n F 0 dP_dropFrom_7 rfl rfl ?_
      refine x_if_lt F (tgt := 32) dP_dropFrom_8 (by decide) (fun c2 => ?_) (fun c2 => ?_)
      · skip
        have c2 : k < 0 := by
          exact (nI_ltI (a := k) (b := 0) (by omega) (by omega)).mp c2
        exact absurd c2 (by omega)
      · skip
        have c2 : 0 ≤ k := by
          have z : ¬ (k < 0) := fun zz => c2 ((nI_ltI (a := k) (b := 0) (by omega) (by omega)).mpr zz)
          omega
        refine x_aload_n F 1 dP_dropFrom_11 rfl rfl ?_
        refine x_get (ci := 2) F 0 (x_in inP) rfl (by decide) (x_m kfP_21) dP_dropFrom_12 g0 rfl ?_
        refine x_iload_n F 0 dP_dropFrom_15 rfl rfl ?_
        refine x_iald F dP_dropFrom_16 g1 (pk_in (k) (cap) (by omega)) ?_
        refine xW.toi ((σ1.1) (k)) (by rw [nI_clamp (by omega)]) ?_
        refine x_iload_n F 2 dP_dropFrom_17 rfl rfl ?_
        refine x_icmp_ne F (tgt := 26) dP_dropFrom_18 (by decide) (fun c3 => ?_) (fun c3 => ?_)
        · skip
          refine x_iinc F 0 [(2, .int (pd (k))), (0, .ref (a)), (1, .int (ee))] dP_dropFrom_26 rfl (pd_dec (k)) (by decide) rfl ?_
          refine x_goto F (tgt := 7) dP_dropFrom_29 (by decide) ?_
          exact ih _ _ (by omega) hP1 hfr (by rw [hf, dpa_s, if_neg (by simpa using c3)])
        · skip
          refine x_aload_n F 1 dP_dropFrom_21 rfl rfl ?_
          refine x_iload_n F 0 dP_dropFrom_22 rfl rfl ?_
          refine yVr (n := 1) (As := [.int (nI (k))]) (ci := 2) F kmP_47 kiP_drop ksP_drop knP kcP_drop (by decide +kernel) dP_dropFrom_23 (cP_drop l (nx) M1 (a) cap σ1 hP1 (k) (by omega)) rfl g0 rfl rfl (Nat.le_of_ble_eq_true rfl) ⟨Nat.le_of_ble_eq_true rfl, Nat.le_of_ble_eq_true rfl⟩ ⟨Nat.le_of_ble_eq_true rfl, Nat.le_of_ble_eq_true rfl⟩ (fun r' n' M202 hp => ?_)
          obtain ⟨hr', hn', hP202, hf202⟩ := hp
          rw [hn', hr']
          obtain ⟨v202_0, v202_1, v202_2, v202_3, v202_4, v202_5, v202_6⟩ := id hP202
          show xW p l e ({ frames := 1, cells := 0, slots := 0, locals := 22 } : Room) s m args below meth c D xcl (x_A M nx) 3 (MQ below (x_Q D xcl (x_A M nx) (pPost none nx M a cap (dpa (fun (s : pS) (j : Nat) => decide (s.1 j = ee)) σ.2.2.2.2 σ))) args s 0 0 (x_A M nx)) 0 0 (nx) M202 26 [(2, .int (nI (k))), (0, .ref (a)), (1, .int (ee))] []
          refine x_iinc F 0 [(2, .int (pd (k))), (0, .ref (a)), (1, .int (ee))] dP_dropFrom_26 rfl (pd_dec (k)) (by decide) rfl ?_
          refine x_goto F (tgt := 7) dP_dropFrom_29 (by decide) ?_
          exact ih _ _ (by show k ≤ σ1.2.2.2.2 - 1; omega) hP202 (fun b hb => (hf202 _ (by omega)).trans ((hfr _ hb).trans (rfl))) (by rw [hf, dpa_s, if_pos (by simpa using c3)])
  refine x_aload_n F 0 dP_dropFrom_0 rfl rfl ?_
  refine x_get (ci := 2) F 4 (x_in inP) rfl (by decide) (x_m kfP_9) dP_dropFrom_1 h0 rfl ?_
  refine x_iconst F (v := nI (1)) dP_dropFrom_4 (by decide) ?_
  refine x_isub F dP_dropFrom_5 ?_
  refine xW.toi (pd (σ.2.2.2.2)) (pd_of (σ.2.2.2.2)) ?_
  refine x_istore_n F [(2, .int (pd (σ.2.2.2.2))), (0, .ref (a)), (1, .int (ee))] dP_dropFrom_6 rfl (by decide) rfl ?_
  exact loop σ.2.2.2.2 σ M (Nat.le_refl _) hT (fun _ _ => rfl) rfl
set_option maxHeartbeats 4000000 in
set_option maxRecDepth 100000 in
theorem cP_dropMarked (l : Launch) (nx : Nat) (M : xH) (a cap : Nat) (σ : pS) (hT : pIs M a cap σ) (ee : Int32) : xC l xcl yP_dropMarked (xw (Cond.code yP_dropMarked bP_dropMarked 3 none)) ({ frames := 1, cells := 0, slots := 0, locals := 22 } : Room) [.ref (a), .int (ee)] nx M (pPost none nx M a cap (dpa (fun (s : pS) (j : Nat) => decide (s.2.2.1 j = ee)) σ.2.2.2.2 σ)) := by
  obtain ⟨h0, h1, h2, h3, h4, hz, hcp⟩ := id hT
  refine yC (by decide) (Nat.le_of_ble_eq_true rfl) ?_
  intro p e s m args below meth c D F hr hn
  have loop : ∀ (k : Nat) (σ1 : pS) (M1 : xH), k ≤ σ1.2.2.2.2 → pIs M1 a cap σ1 → (∀ b, (b < a ∨ a + 4 < b) → M1 b = M b) → dpa (fun (s : pS) (j : Nat) => decide (s.2.2.1 j = ee)) σ.2.2.2.2 σ = dpa (fun (s : pS) (j : Nat) => decide (s.2.2.1 j = ee)) k σ1 → xW p l e ({ frames := 1, cells := 0, slots := 0, locals := 22 } : Room) s m args below meth c D xcl (x_A M nx) 3 (MQ below (x_Q D xcl (x_A M nx) (pPost none nx M a cap (dpa (fun (s : pS) (j : Nat) => decide (s.2.2.1 j = ee)) σ.2.2.2.2 σ))) args s 0 0 (x_A M nx)) 0 0 (nx) M1 7 [(2, .int (pd (k))), (0, .ref (a)), (1, .int (ee))] [] := by
    intro k
    induction k with
    | zero =>
      intro σ1 M1 hk hP1 hfr hf
      show xW p l e ({ frames := 1, cells := 0, slots := 0, locals := 22 } : Room) s m args below meth c D xcl (x_A M nx) 3 (MQ below (x_Q D xcl (x_A M nx) (pPost none nx M a cap (dpa (fun (s : pS) (j : Nat) => decide (s.2.2.1 j = ee)) σ.2.2.2.2 σ))) args s 0 0 (x_A M nx)) 0 0 (nx) M1 7 [(2, .int ((-1))), (0, .ref (a)), (1, .int (ee))] []
      obtain ⟨g0, g1, g2, g3, g4, g5, g6⟩ := id hP1
      refine x_iload_n F 0 dP_dropMarked_7 rfl rfl ?_
      refine x_if_lt F (tgt := 32) dP_dropMarked_8 (by decide) (fun c1 => ?_) (fun c1 => ?_)
      · skip
        exact x_vret F hr dP_dropMarked_32 (by rw [show dpa (fun (s : pS) (j : Nat) => decide (s.2.2.1 j = ee)) σ.2.2.2.2 σ = σ1 from hf]; exact ⟨rfl, rfl, hP1, hfr⟩)
      · skip
        exact absurd (by decide) c1
    | succ k ih =>
      intro σ1 M1 hk hP1 hfr hf
      show xW p l e ({ frames := 1, cells := 0, slots := 0, locals := 22 } : Room) s m args below meth c D xcl (x_A M nx) 3 (MQ below (x_Q D xcl (x_A M nx) (pPost none nx M a cap (dpa (fun (s : pS) (j : Nat) => decide (s.2.2.1 j = ee)) σ.2.2.2.2 σ))) args s 0 0 (x_A M nx)) 0 0 (nx) M1 7 [(2, .int (nI (k))), (0, .ref (a)), (1, .int (ee))] []
      obtain ⟨g0, g1, g2, g3, g4, g5, g6⟩ := id hP1
      refine x_iload_n F 0 dP_dropMarked_7 rfl rfl ?_
      refine x_if_lt F (tgt := 32) dP_dropMarked_8 (by decide) (fun c2 => ?_) (fun c2 => ?_)
      · skip
        have c2 : k < 0 := by
          exact (nI_ltI (a := k) (b := 0) (by omega) (by omega)).mp c2
        exact absurd c2 (by omega)
      · skip
        have c2 : 0 ≤ k := by
          have z : ¬ (k < 0) := fun zz => c2 ((nI_ltI (a := k) (b := 0) (by omega) (by omega)).mpr zz)
          omega
        refine x_aload_n F 1 dP_dropMarked_11 rfl rfl ?_
        refine x_get (ci := 2) F 2 (x_in inP) rfl (by decide) (x_m kfP_29) dP_dropMarked_12 g0 rfl ?_
        refine x_iload_n F 0 dP_dropMarked_15 rfl rfl ?_
        refine x_iald F dP_dropMarked_16 g3 (pk_in (k) (cap) (by omega)) ?_
        refine xW.toi ((σ1.2.2.1) (k)) (by rw [nI_clamp (by omega)]) ?_
        refine x_iload_n F 2 dP_dropMarked_17 rfl rfl ?_
        refine x_icmp_ne F (tgt := 26) dP_dropMarked_18 (by decide) (fun c3 => ?_) (fun c3 => ?_)
        · skip
          refine x_iinc F 0 [(2, .int (pd (k))), (0, .ref (a)), (1, .int (ee))] dP_dropMarked_26 rfl (pd_dec (k)) (by decide) rfl ?_
          refine x_goto F (tgt := 7) dP_dropMarked_29 (by decide) ?_
          exact ih _ _ (by omega) hP1 hfr (by rw [hf, dpa_s, if_neg (by simpa using c3)])
        · skip
          refine x_aload_n F 1 dP_dropMarked_21 rfl rfl ?_
          refine x_iload_n F 0 dP_dropMarked_22 rfl rfl ?_
          refine yVr (n := 1) (As := [.int (nI (k))]) (ci := 2) F kmP_47 kiP_drop ksP_drop knP kcP_drop (by decide +kernel) dP_dropMarked_23 (cP_drop l (nx) M1 (a) cap σ1 hP1 (k) (by omega)) rfl g0 rfl rfl (Nat.le_of_ble_eq_true rfl) ⟨Nat.le_of_ble_eq_true rfl, Nat.le_of_ble_eq_true rfl⟩ ⟨Nat.le_of_ble_eq_true rfl, Nat.le_of_ble_eq_true rfl⟩ (fun r' n' M204 hp => ?_)
          obtain ⟨hr', hn', hP204, hf204⟩ := hp
          rw [hn', hr']
          obtain ⟨v204_0, v204_1, v204_2, v204_3, v204_4, v204_5, v204_6⟩ := id hP204
          show xW p l e ({ frames := 1, cells := 0, slots := 0, locals := 22 } : Room) s m args below meth c D xcl (x_A M nx) 3 (MQ below (x_Q D xcl (x_A M nx) (pPost none nx M a cap (dpa (fun (s : pS) (j : Nat) => decide (s.2.2.1 j = ee)) σ.2.2.2.2 σ))) args s 0 0 (x_A M nx)) 0 0 (nx) M204 26 [(2, .int (nI (k))), (0, .ref (a)), (1, .int (ee))] []
          refine x_iinc F 0 [(2, .int (pd (k))), (0, .ref (a)), (1, .int (ee))] dP_dropMarked_26 rfl (pd_dec (k)) (by decide) rfl ?_
          refine x_goto F (tgt := 7) dP_dropMarked_29 (by decide) ?_
          exact ih _ _ (by show k ≤ σ1.2.2.2.2 - 1; omega) hP204 (fun b hb => (hf204 _ (by omega)).trans ((hfr _ hb).trans (rfl))) (by rw [hf, dpa_s, if_pos (by simpa using c3)])
  refine x_aload_n F 0 dP_dropMarked_0 rfl rfl ?_
  refine x_get (ci := 2) F 4 (x_in inP) rfl (by decide) (x_m kfP_9) dP_dropMarked_1 h0 rfl ?_
  refine x_iconst F (v := nI (1)) dP_dropMarked_4 (by decide) ?_
  refine x_isub F dP_dropMarked_5 ?_
  refine xW.toi (pd (σ.2.2.2.2)) (pd_of (σ.2.2.2.2)) ?_
  refine x_istore_n F [(2, .int (pd (σ.2.2.2.2))), (0, .ref (a)), (1, .int (ee))] dP_dropMarked_6 rfl (by decide) rfl ?_
  exact loop σ.2.2.2.2 σ M (Nat.le_refl _) hT (fun _ _ => rfl) rfl
end
section
def fPost (v : Option Value) (nx : Nat) (M : xH) (a : Nat) (cd : Nat → Int64) (pt : Nat → Int32) (n : Nat) : xO → Nat → xH → Prop := fun r n' M' => r = v ∧ n' = nx ∧ fAt M' a cd pt n ∧ ∀ b, (b < a ∨ a + 2 < b) → M' b = M b
/-- those with fewer points go one place on -/
def fsh (g : Int32) : Nat → (Nat → Int64) → (Nat → Int32) → (Nat → Int64) × (Nat → Int32) × Nat
  | 0, cd, pt => (cd, pt, 0)
  | k + 1, cd, pt => if pt k < g then fsh g k (vp_updL cd (k + 1) (cd k)) (upd pt (k + 1) (pt k)) else (cd, pt, k + 1)
theorem fsh_s (g : Int32) (k : Nat) (cd : Nat → Int64) (pt : Nat → Int32) : fsh g (k + 1) cd pt = if pt k < g then fsh g k (vp_updL cd (k + 1) (cd k)) (upd pt (k + 1) (pt k)) else (cd, pt, k + 1) := rfl
abbrev fS : Type := (Nat → Int64) × (Nat → Int32) × Nat
def fIs (M : xH) (a : Nat) (φ : fS) : Prop := fAt M a φ.1 φ.2.1 φ.2.2
def fins (φ : fS) (co : Int64) (g : Int32) : fS := (vp_updL (fsh g φ.2.2 φ.1 φ.2.1).1 (fsh g φ.2.2 φ.1 φ.2.1).2.2 co, upd (fsh g φ.2.2 φ.1 φ.2.1).2.1 (fsh g φ.2.2 φ.1 φ.2.1).2.2 g, φ.2.2 + 1)
/-- one more, if it has points -/
def fadd (φ : fS) (co : Int64) (g : Int32) : fS := if g ≤ 0 then φ else fins φ co g
set_option maxHeartbeats 4000000 in
set_option maxRecDepth 100000 in
theorem cF_clear (l : Launch) (nx : Nat) (M : xH) (a : Nat) (cd : Nat → Int64) (pt : Nat → Int32) (n : Nat) (hT : fAt M a cd pt n) : xC l xcl yF_clear (xw (Cond.code yF_clear bF_clear 1 none)) ({ frames := 0, cells := 0, slots := 0, locals := 0 } : Room) [.ref (a)] nx M (fPost none nx M a cd pt 0) := by
  obtain ⟨h0, h1, h2, hz⟩ := id hT
  refine yC (by decide) (Nat.le_of_ble_eq_true rfl) ?_
  intro p e s m args below meth c D F hr hn
  refine x_aload_n F 0 dF_clear_0 rfl rfl ?_
  refine x_iconst F (v := nI (0)) dF_clear_1 (by decide) ?_
  refine x_put (ci := 1) (ty := .int) F 2 (x_in inF) tF tF_ok nF rfl (by decide) (x_m kfF_19) dF_clear_2 rfl (by decide +kernel) rfl rfl h0 (Nat.le_of_ble_eq_true rfl) ?_
  show xW p l e ({ frames := 0, cells := 0, slots := 0, locals := 0 } : Room) s m args below meth c D xcl (x_A M nx) 1 (MQ below (x_Q D xcl (x_A M nx) (fPost none nx M a cd pt 0)) args s 0 0 (x_A M nx)) 0 0 (nx) (x_up M (a) (.inr (1, [.ref (a + 1), .ref (a + 2), .int (nI (0))]))) 5 [(0, .ref (a))] []
  exact x_vret F hr dF_clear_5 (⟨rfl, rfl, ⟨x_up_s, (x_up_k h1 (by omega)), (x_up_k h2 (by omega)), by omega⟩, fun b hb => (x_up_n (by omega)).trans (rfl)⟩)
set_option maxHeartbeats 4000000 in
set_option maxRecDepth 100000 in
theorem cF_add (l : Launch) (nx : Nat) (M : xH) (a : Nat) (cd : Nat → Int64) (pt : Nat → Int32) (n : Nat) (hT : fAt M a cd pt n) (hn40 : n < 40) (co : Int64) (g : Int32) : xC l xcl yF_add (xw (Cond.code yF_add bF_add 5 none)) ({ frames := 0, cells := 0, slots := 0, locals := 0 } : Room) [.ref (a), .long (co), .int (g)] nx M (fPost none nx M a (fadd (cd, pt, n) co g).1 (fadd (cd, pt, n) co g).2.1 (fadd (cd, pt, n) co g).2.2) := by
  obtain ⟨h0, h1, h2, hz⟩ := id hT
  refine yC (by decide) (Nat.le_of_ble_eq_true rfl) ?_
  intro p e s m args below meth c D F hr hn
  refine x_iload_n F 2 dF_add_0 rfl rfl ?_
  refine x_if_le F (tgt := 13) dF_add_1 (by decide) (fun c1 => ?_) (fun c1 => ?_)
  · skip
    exact x_vret F hr dF_add_13 (by rw [fadd, if_pos c1]; exact ⟨rfl, rfl, hT, fun _ _ => rfl⟩)
  · skip
    refine x_aload_n F 0 dF_add_4 rfl rfl ?_
    refine x_get (ci := 1) F 2 (x_in inF) rfl (by decide) (x_m kfF_19) dF_add_5 h0 rfl ?_
    refine x_bipush F (v := nI (40)) dF_add_8 (by decide) ?_
    refine x_icmp_lt F (tgt := 14) dF_add_10 (by decide) (fun c2 => ?_) (fun c2 => ?_)
    · skip
      have c2 : n < 40 := by
        exact (nI_ltI (a := n) (b := 40) (by omega) (by omega)).mp c2
      have hg0 : ¬ g ≤ 0 := c1
      have loop : ∀ (k : Nat) (cd1 : Nat → Int64) (pt1 : Nat → Int32) (M1 : xH), k ≤ n → fAt M1 a cd1 pt1 n → (∀ b, (b < a ∨ a + 2 < b) → M1 b = M b) → fsh g n cd pt = fsh g k cd1 pt1 → xW p l e ({ frames := 0, cells := 0, slots := 0, locals := 0 } : Room) s m args below meth c D xcl (x_A M nx) 5 (MQ below (x_Q D xcl (x_A M nx) (fPost none nx M a (fadd (cd, pt, n) co g).1 (fadd (cd, pt, n) co g).2.1 (fadd (cd, pt, n) co g).2.2)) args s 0 0 (x_A M nx)) 0 0 (nx) M1 20 [(4, .int (nI (k))), (0, .ref (a)), (1, .long (co)), (3, .int (g))] [] := by
        intro k
        induction k with
        | zero =>
          intro cd1 pt1 M1 hk hF1 hfr hf
          show xW p l e ({ frames := 0, cells := 0, slots := 0, locals := 0 } : Room) s m args below meth c D xcl (x_A M nx) 5 (MQ below (x_Q D xcl (x_A M nx) (fPost none nx M a (fadd (cd, pt, n) co g).1 (fadd (cd, pt, n) co g).2.1 (fadd (cd, pt, n) co g).2.2)) args s 0 0 (x_A M nx)) 0 0 (nx) M1 20 [(4, .int (nI (0))), (0, .ref (a)), (1, .long (co)), (3, .int (g))] []
          obtain ⟨g0, g1, g2, g3⟩ := id hF1
          refine x_iload F 0 dF_add_20 rfl ?_
          refine x_if_le F (tgt := 76) dF_add_22 (by decide) (fun c3 => ?_) (fun c3 => ?_)
          · skip
            have c3 : 0 ≤ 0 := by
              exact (nI_leI (a := 0) (b := 0) (by omega) (by omega)).mp c3
            have hS : fsh g n cd pt = (cd1, pt1, 0) := hf
            refine x_aload_n F 1 dF_add_76 rfl rfl ?_
            refine x_get (ci := 1) F 0 (x_in inF) rfl (by decide) (x_m kfF_9) dF_add_77 g0 rfl ?_
            refine x_iload F 0 dF_add_80 rfl ?_
            refine x_lload_n F 2 dF_add_82 rfl rfl ?_
            refine x_last F dF_add_83 g1 (pk_in (0) (40) (by omega)) ?_
            rw [nI_clamp (show 0 < 2 ^ 31 by omega)]
            show xW p l e ({ frames := 0, cells := 0, slots := 0, locals := 0 } : Room) s m args below meth c D xcl (x_A M nx) 5 (MQ below (x_Q D xcl (x_A M nx) (fPost none nx M a (fadd (cd, pt, n) co g).1 (fadd (cd, pt, n) co g).2.1 (fadd (cd, pt, n) co g).2.2)) args s 0 0 (x_A M nx)) 0 0 (nx) (x_up M1 (a + 1) (.inl (.long, 40, .inr (.inl (vp_updL (cd1) (0) (co)))))) 84 [(4, .int (nI (0))), (0, .ref (a)), (1, .long (co)), (3, .int (g))] []
            refine x_aload_n F 1 dF_add_84 rfl rfl ?_
            refine x_get (ci := 1) F 1 (x_in inF) rfl (by decide) (x_m kfF_15) dF_add_85 (x_up_k g0 (by omega)) rfl ?_
            refine x_iload F 0 dF_add_88 rfl ?_
            refine x_iload_n F 3 dF_add_90 rfl rfl ?_
            refine x_iast F dF_add_91 (x_up_k g2 (by omega)) (pk_in (0) (40) (by omega)) ?_
            rw [nI_clamp (show 0 < 2 ^ 31 by omega)]
            show xW p l e ({ frames := 0, cells := 0, slots := 0, locals := 0 } : Room) s m args below meth c D xcl (x_A M nx) 5 (MQ below (x_Q D xcl (x_A M nx) (fPost none nx M a (fadd (cd, pt, n) co g).1 (fadd (cd, pt, n) co g).2.1 (fadd (cd, pt, n) co g).2.2)) args s 0 0 (x_A M nx)) 0 0 (nx) (x_up (x_up M1 (a + 1) (.inl (.long, 40, .inr (.inl (vp_updL (cd1) (0) (co)))))) (a + 2) (.inl (.int, 40, .inl (upd (pt1) (0) (g))))) 92 [(4, .int (nI (0))), (0, .ref (a)), (1, .long (co)), (3, .int (g))] []
            refine x_aload_n F 1 dF_add_92 rfl rfl ?_
            refine x_dup F dF_add_93 rfl ?_
            refine x_get (ci := 1) F 2 (x_in inF) rfl (by decide) (x_m kfF_19) dF_add_94 (x_up_k (x_up_k g0 (by omega)) (by omega)) rfl ?_
            refine x_iconst F (v := nI (1)) dF_add_97 (by decide) ?_
            refine x_iadd F dF_add_98 ?_
            refine xW.toi (nI (n + 1)) (nI_add _ _) ?_
            refine x_put (ci := 1) (ty := .int) F 2 (x_in inF) tF tF_ok nF rfl (by decide) (x_m kfF_19) dF_add_99 rfl (by decide +kernel) rfl rfl (x_up_k (x_up_k g0 (by omega)) (by omega)) (Nat.le_of_ble_eq_true rfl) ?_
            show xW p l e ({ frames := 0, cells := 0, slots := 0, locals := 0 } : Room) s m args below meth c D xcl (x_A M nx) 5 (MQ below (x_Q D xcl (x_A M nx) (fPost none nx M a (fadd (cd, pt, n) co g).1 (fadd (cd, pt, n) co g).2.1 (fadd (cd, pt, n) co g).2.2)) args s 0 0 (x_A M nx)) 0 0 (nx) (x_up (x_up (x_up M1 (a + 1) (.inl (.long, 40, .inr (.inl (vp_updL (cd1) (0) (co)))))) (a + 2) (.inl (.int, 40, .inl (upd (pt1) (0) (g))))) (a) (.inr (1, [.ref (a + 1), .ref (a + 2), .int (nI (n + 1))]))) 102 [(4, .int (nI (0))), (0, .ref (a)), (1, .long (co)), (3, .int (g))] []
            exact x_vret F hr dF_add_102 (by rw [fadd, if_neg hg0, fins, hS]; exact ⟨rfl, rfl, ⟨x_up_s, (x_up_k (x_up_k x_up_s (by omega)) (by omega)), (x_up_k x_up_s (by omega)), (show n + 1 ≤ 40 by omega)⟩, fun b hb => (x_up_n (by omega)).trans ((x_up_n (by omega)).trans ((x_up_n (by omega)).trans ((hfr _ hb).trans (rfl))))⟩)
          · skip
            have c3 : 0 < 0 := by
              have z : ¬ (0 ≤ 0) := fun zz => c3 ((nI_leI (a := 0) (b := 0) (by omega) (by omega)).mpr zz)
              omega
            exact absurd c3 (by decide)
        | succ k ih =>
          intro cd1 pt1 M1 hk hF1 hfr hf
          show xW p l e ({ frames := 0, cells := 0, slots := 0, locals := 0 } : Room) s m args below meth c D xcl (x_A M nx) 5 (MQ below (x_Q D xcl (x_A M nx) (fPost none nx M a (fadd (cd, pt, n) co g).1 (fadd (cd, pt, n) co g).2.1 (fadd (cd, pt, n) co g).2.2)) args s 0 0 (x_A M nx)) 0 0 (nx) M1 20 [(4, .int (nI (k + 1))), (0, .ref (a)), (1, .long (co)), (3, .int (g))] []
          obtain ⟨g0, g1, g2, g3⟩ := id hF1
          refine x_iload F 0 dF_add_20 rfl ?_
          refine x_if_le F (tgt := 76) dF_add_22 (by decide) (fun c4 => ?_) (fun c4 => ?_)
          · skip
            have c4 : k + 1 ≤ 0 := by
              exact (nI_leI (a := k + 1) (b := 0) (by omega) (by omega)).mp c4
            exact absurd c4 (by omega)
          · skip
            have c4 : 0 < k + 1 := by
              have z : ¬ (k + 1 ≤ 0) := fun zz => c4 ((nI_leI (a := k + 1) (b := 0) (by omega) (by omega)).mpr zz)
              omega
            refine x_aload_n F 1 dF_add_25 rfl rfl ?_
            refine x_get (ci := 1) F 1 (x_in inF) rfl (by decide) (x_m kfF_15) dF_add_26 g0 rfl ?_
            refine x_iload F 0 dF_add_29 rfl ?_
            refine x_iconst F (v := nI (1)) dF_add_31 (by decide) ?_
            refine x_isub F dF_add_32 ?_
            refine xW.toi (nI (k)) (nI_pred k) ?_
            refine x_iald F dF_add_33 g2 (pk_in (k) (40) (by omega)) ?_
            refine xW.toi ((pt1) (k)) (by rw [nI_clamp (by omega)]) ?_
            refine x_iload_n F 3 dF_add_34 rfl rfl ?_
            refine x_icmp_ge F (tgt := 76) dF_add_35 (by decide) (fun c5 => ?_) (fun c5 => ?_)
            · skip
              have hS : fsh g n cd pt = (cd1, pt1, k + 1) := by rw [hf, fsh_s, if_neg (Int32.not_lt.mpr c5)]
              refine x_aload_n F 1 dF_add_76 rfl rfl ?_
              refine x_get (ci := 1) F 0 (x_in inF) rfl (by decide) (x_m kfF_9) dF_add_77 g0 rfl ?_
              refine x_iload F 0 dF_add_80 rfl ?_
              refine x_lload_n F 2 dF_add_82 rfl rfl ?_
              refine x_last F dF_add_83 g1 (pk_in (k + 1) (40) (by omega)) ?_
              rw [nI_clamp (show k + 1 < 2 ^ 31 by omega)]
              show xW p l e ({ frames := 0, cells := 0, slots := 0, locals := 0 } : Room) s m args below meth c D xcl (x_A M nx) 5 (MQ below (x_Q D xcl (x_A M nx) (fPost none nx M a (fadd (cd, pt, n) co g).1 (fadd (cd, pt, n) co g).2.1 (fadd (cd, pt, n) co g).2.2)) args s 0 0 (x_A M nx)) 0 0 (nx) (x_up M1 (a + 1) (.inl (.long, 40, .inr (.inl (vp_updL (cd1) (k + 1) (co)))))) 84 [(4, .int (nI (k + 1))), (0, .ref (a)), (1, .long (co)), (3, .int (g))] []
              refine x_aload_n F 1 dF_add_84 rfl rfl ?_
              refine x_get (ci := 1) F 1 (x_in inF) rfl (by decide) (x_m kfF_15) dF_add_85 (x_up_k g0 (by omega)) rfl ?_
              refine x_iload F 0 dF_add_88 rfl ?_
              refine x_iload_n F 3 dF_add_90 rfl rfl ?_
              refine x_iast F dF_add_91 (x_up_k g2 (by omega)) (pk_in (k + 1) (40) (by omega)) ?_
              rw [nI_clamp (show k + 1 < 2 ^ 31 by omega)]
              show xW p l e ({ frames := 0, cells := 0, slots := 0, locals := 0 } : Room) s m args below meth c D xcl (x_A M nx) 5 (MQ below (x_Q D xcl (x_A M nx) (fPost none nx M a (fadd (cd, pt, n) co g).1 (fadd (cd, pt, n) co g).2.1 (fadd (cd, pt, n) co g).2.2)) args s 0 0 (x_A M nx)) 0 0 (nx) (x_up (x_up M1 (a + 1) (.inl (.long, 40, .inr (.inl (vp_updL (cd1) (k + 1) (co)))))) (a + 2) (.inl (.int, 40, .inl (upd (pt1) (k + 1) (g))))) 92 [(4, .int (nI (k + 1))), (0, .ref (a)), (1, .long (co)), (3, .int (g))] []
              refine x_aload_n F 1 dF_add_92 rfl rfl ?_
              refine x_dup F dF_add_93 rfl ?_
              refine x_get (ci := 1) F 2 (x_in inF) rfl (by decide) (x_m kfF_19) dF_add_94 (x_up_k (x_up_k g0 (by omega)) (by omega)) rfl ?_
              refine x_iconst F (v := nI (1)) dF_add_97 (by decide) ?_
              refine x_iadd F dF_add_98 ?_
              refine xW.toi (nI (n + 1)) (nI_add _ _) ?_
              refine x_put (ci := 1) (ty := .int) F 2 (x_in inF) tF tF_ok nF rfl (by decide) (x_m kfF_19) dF_add_99 rfl (by decide +kernel) rfl rfl (x_up_k (x_up_k g0 (by omega)) (by omega)) (Nat.le_of_ble_eq_true rfl) ?_
              show xW p l e ({ frames := 0, cells := 0, slots := 0, locals := 0 } : Room) s m args below meth c D xcl (x_A M nx) 5 (MQ below (x_Q D xcl (x_A M nx) (fPost none nx M a (fadd (cd, pt, n) co g).1 (fadd (cd, pt, n) co g).2.1 (fadd (cd, pt, n) co g).2.2)) args s 0 0 (x_A M nx)) 0 0 (nx) (x_up (x_up (x_up M1 (a + 1) (.inl (.long, 40, .inr (.inl (vp_updL (cd1) (k + 1) (co)))))) (a + 2) (.inl (.int, 40, .inl (upd (pt1) (k + 1) (g))))) (a) (.inr (1, [.ref (a + 1), .ref (a + 2), .int (nI (n + 1))]))) 102 [(4, .int (nI (k + 1))), (0, .ref (a)), (1, .long (co)), (3, .int (g))] []
              exact x_vret F hr dF_add_102 (by rw [fadd, if_neg hg0, fins, hS]; exact ⟨rfl, rfl, ⟨x_up_s, (x_up_k (x_up_k x_up_s (by omega)) (by omega)), (x_up_k x_up_s (by omega)), (show n + 1 ≤ 40 by omega)⟩, fun b hb => (x_up_n (by omega)).trans ((x_up_n (by omega)).trans ((x_up_n (by omega)).trans ((hfr _ hb).trans (rfl))))⟩)
            · skip
              refine x_aload_n F 1 dF_add_38 rfl rfl ?_
              refine x_get (ci := 1) F 0 (x_in inF) rfl (by decide) (x_m kfF_9) dF_add_39 g0 rfl ?_
              refine x_iload F 0 dF_add_42 rfl ?_
              refine x_aload_n F 1 dF_add_44 rfl rfl ?_
              refine x_get (ci := 1) F 0 (x_in inF) rfl (by decide) (x_m kfF_9) dF_add_45 g0 rfl ?_
              refine x_iload F 0 dF_add_48 rfl ?_
              refine x_iconst F (v := nI (1)) dF_add_50 (by decide) ?_
              refine x_isub F dF_add_51 ?_
              refine xW.toi (nI (k)) (nI_pred k) ?_
              refine x_lald F dF_add_52 g1 (pk_in (k) (40) (by omega)) ?_
              refine xW.tol ((cd1) (k)) (by rw [nI_clamp (by omega)]) ?_
              refine x_last F dF_add_53 g1 (pk_in (k + 1) (40) (by omega)) ?_
              rw [nI_clamp (show k + 1 < 2 ^ 31 by omega)]
              show xW p l e ({ frames := 0, cells := 0, slots := 0, locals := 0 } : Room) s m args below meth c D xcl (x_A M nx) 5 (MQ below (x_Q D xcl (x_A M nx) (fPost none nx M a (fadd (cd, pt, n) co g).1 (fadd (cd, pt, n) co g).2.1 (fadd (cd, pt, n) co g).2.2)) args s 0 0 (x_A M nx)) 0 0 (nx) (x_up M1 (a + 1) (.inl (.long, 40, .inr (.inl (vp_updL (cd1) (k + 1) ((cd1) (k))))))) 54 [(4, .int (nI (k + 1))), (0, .ref (a)), (1, .long (co)), (3, .int (g))] []
              refine x_aload_n F 1 dF_add_54 rfl rfl ?_
              refine x_get (ci := 1) F 1 (x_in inF) rfl (by decide) (x_m kfF_15) dF_add_55 (x_up_k g0 (by omega)) rfl ?_
              refine x_iload F 0 dF_add_58 rfl ?_
              refine x_aload_n F 1 dF_add_60 rfl rfl ?_
              refine x_get (ci := 1) F 1 (x_in inF) rfl (by decide) (x_m kfF_15) dF_add_61 (x_up_k g0 (by omega)) rfl ?_
              refine x_iload F 0 dF_add_64 rfl ?_
              refine x_iconst F (v := nI (1)) dF_add_66 (by decide) ?_
              refine x_isub F dF_add_67 ?_
              refine xW.toi (nI (k)) (nI_pred k) ?_
              refine x_iald F dF_add_68 (x_up_k g2 (by omega)) (pk_in (k) (40) (by omega)) ?_
              refine xW.toi ((pt1) (k)) (by rw [nI_clamp (by omega)]) ?_
              refine x_iast F dF_add_69 (x_up_k g2 (by omega)) (pk_in (k + 1) (40) (by omega)) ?_
              rw [nI_clamp (show k + 1 < 2 ^ 31 by omega)]
              show xW p l e ({ frames := 0, cells := 0, slots := 0, locals := 0 } : Room) s m args below meth c D xcl (x_A M nx) 5 (MQ below (x_Q D xcl (x_A M nx) (fPost none nx M a (fadd (cd, pt, n) co g).1 (fadd (cd, pt, n) co g).2.1 (fadd (cd, pt, n) co g).2.2)) args s 0 0 (x_A M nx)) 0 0 (nx) (x_up (x_up M1 (a + 1) (.inl (.long, 40, .inr (.inl (vp_updL (cd1) (k + 1) ((cd1) (k))))))) (a + 2) (.inl (.int, 40, .inl (upd (pt1) (k + 1) ((pt1) (k)))))) 70 [(4, .int (nI (k + 1))), (0, .ref (a)), (1, .long (co)), (3, .int (g))] []
              refine x_iinc F 0 [(4, .int (nI (k))), (0, .ref (a)), (1, .long (co)), (3, .int (g))] dF_add_70 rfl (pk_m1 (k)) (by decide) rfl ?_
              refine x_goto F (tgt := 20) dF_add_73 (by decide) ?_
              exact ih _ _ _ (by omega) ⟨(x_up_k (x_up_k g0 (by omega)) (by omega)), (x_up_k x_up_s (by omega)), x_up_s, by omega⟩ (fun b hb => (x_up_n (by omega)).trans ((x_up_n (by omega)).trans ((hfr _ hb).trans (rfl)))) (by rw [hf, fsh_s, if_pos (Int32.not_le.mp c5)])
      refine x_aload_n F 0 dF_add_14 rfl rfl ?_
      refine x_get (ci := 1) F 2 (x_in inF) rfl (by decide) (x_m kfF_19) dF_add_15 h0 rfl ?_
      refine x_istore F [(4, .int (nI (n))), (0, .ref (a)), (1, .long (co)), (3, .int (g))] dF_add_18 (by decide) rfl ?_
      exact loop n cd pt M (Nat.le_refl _) hT (fun _ _ => rfl) rfl
    · skip
      have c2 : 40 ≤ n := by
        have z : ¬ (n < 40) := fun zz => c2 ((nI_ltI (a := n) (b := 40) (by omega) (by omega)).mpr zz)
        omega
      exact absurd c2 (by omega)
end
section
/-! GoodsTree at g: reader g + 1, the array of trees g + 4, notes g + 5, links g + 10, findings g + 15; the tree of edition i at g + 18 + 7 * π i, the spare one is number 3 -/
def gObj (M : xH) (g : Nat) (π : Nat → Nat) (pr : Nat) (f : Nat → Option Nat) : Prop :=
  M g = some (.inr (5, [.ref (g + 1), .ref (g + 4), .ref (g + 5), .ref (g + 10), .ref (g + 15), .ref (g + 18 + 7 * π 3), .int (nI pr)])) ∧ M (g + 4) = some (.inl (.object "GoodsTree$Tree", 3, .inr (.inr (.inr (.inr f))))) ∧ (∀ i, i < 3 → f i = some (g + 18 + 7 * π i)) ∧ pr < 3 ∧ (∀ i, i < 4 → π i < 4) ∧ ∀ i j, i < 4 → j < 4 → π i = π j → i = j
abbrev rS : Type := (Nat → Int32) × (Nat → Int64) × Nat × Nat × Nat × Int32 × Int32
def rIs (M : xH) (a : Nat) (ρ : rS) : Prop := rAt M a ρ.1 ρ.2.1 ρ.2.2.1 ρ.2.2.2.1 ρ.2.2.2.2.1 ρ.2.2.2.2.2.1 ρ.2.2.2.2.2.2
/-- the whole state: which tree is where, the present edition, the reader, the trees, notes, links, findings -/
abbrev gS : Type := (Nat → Nat) × Nat × rS × (Nat → tS) × pS × pS × fS
def gIs (M : xH) (g : Nat) (γ : gS) : Prop := (∃ f, gObj M g γ.1 γ.2.1 f) ∧ rIs M (g + 1) γ.2.2.1 ∧ (∀ i, i < 4 → tIs M (g + 18 + 7 * γ.1 i) (γ.2.2.2.1 i)) ∧ pIs M (g + 5) 20 γ.2.2.2.2.1 ∧ pIs M (g + 10) 60 γ.2.2.2.2.2.1 ∧ fIs M (g + 15) γ.2.2.2.2.2.2
/-- the row of a code in a tree -/
def tFind (τ : tS) (co : Int64) : Option Nat := fi (fun j => decide (τ.1 j = co)) τ.2.2.2.2.2.2.1 0
theorem tFind_lt {M : xH} {a : Nat} {τ : tS} (h : tIs M a τ) {co : Int64} {j : Nat} (hj : tFind τ co = some j) : j < τ.2.2.2.2.2.2.1 ∧ τ.2.2.2.2.2.2.1 ≤ 40 := by
  have h1 := fi_lt hj
  obtain ⟨-, -, -, -, -, -, -, h2, -⟩ := h
  exact ⟨by omega, h2⟩
theorem dG_init_0 : decode bG_init 0 = .ok (.aload_n 0, 1) := by decide +kernel
theorem dG_init_1 : decode bG_init 1 = .ok (.invokespecial 1, 3) := by decide +kernel
theorem dG_init_4 : decode bG_init 4 = .ok (.aload_n 0, 1) := by decide +kernel
theorem dG_init_5 : decode bG_init 5 = .ok (.new 7, 3) := by decide +kernel
theorem dG_init_8 : decode bG_init 8 = .ok (.dup, 1) := by decide +kernel
theorem dG_init_9 : decode bG_init 9 = .ok (.invokespecial 9, 3) := by decide +kernel
theorem dG_init_12 : decode bG_init 12 = .ok (.putfield 10, 3) := by decide +kernel
theorem dG_init_15 : decode bG_init 15 = .ok (.aload_n 0, 1) := by decide +kernel
theorem dG_init_16 : decode bG_init 16 = .ok (.iconst 3, 1) := by decide +kernel
theorem dG_init_17 : decode bG_init 17 = .ok (.anewarray 16, 3) := by decide +kernel
theorem dG_init_20 : decode bG_init 20 = .ok (.putfield 18, 3) := by decide +kernel
theorem dG_init_23 : decode bG_init 23 = .ok (.aload_n 0, 1) := by decide +kernel
theorem dG_init_24 : decode bG_init 24 = .ok (.new 22, 3) := by decide +kernel
theorem dG_init_27 : decode bG_init 27 = .ok (.dup, 1) := by decide +kernel
theorem dG_init_28 : decode bG_init 28 = .ok (.bipush 20, 2) := by decide +kernel
theorem dG_init_30 : decode bG_init 30 = .ok (.invokespecial 24, 3) := by decide +kernel
theorem dG_init_33 : decode bG_init 33 = .ok (.putfield 27, 3) := by decide +kernel
theorem dG_init_36 : decode bG_init 36 = .ok (.aload_n 0, 1) := by decide +kernel
theorem dG_init_37 : decode bG_init 37 = .ok (.new 22, 3) := by decide +kernel
theorem dG_init_40 : decode bG_init 40 = .ok (.dup, 1) := by decide +kernel
theorem dG_init_41 : decode bG_init 41 = .ok (.bipush 60, 2) := by decide +kernel
theorem dG_init_43 : decode bG_init 43 = .ok (.invokespecial 24, 3) := by decide +kernel
theorem dG_init_46 : decode bG_init 46 = .ok (.putfield 31, 3) := by decide +kernel
theorem dG_init_49 : decode bG_init 49 = .ok (.aload_n 0, 1) := by decide +kernel
theorem dG_init_50 : decode bG_init 50 = .ok (.new 34, 3) := by decide +kernel
theorem dG_init_53 : decode bG_init 53 = .ok (.dup, 1) := by decide +kernel
theorem dG_init_54 : decode bG_init 54 = .ok (.invokespecial 36, 3) := by decide +kernel
theorem dG_init_57 : decode bG_init 57 = .ok (.putfield 37, 3) := by decide +kernel
theorem dG_init_60 : decode bG_init 60 = .ok (.aload_n 0, 1) := by decide +kernel
theorem dG_init_61 : decode bG_init 61 = .ok (.new 16, 3) := by decide +kernel
theorem dG_init_64 : decode bG_init 64 = .ok (.dup, 1) := by decide +kernel
theorem dG_init_65 : decode bG_init 65 = .ok (.invokespecial 41, 3) := by decide +kernel
theorem dG_init_68 : decode bG_init 68 = .ok (.putfield 42, 3) := by decide +kernel
theorem dG_init_71 : decode bG_init 71 = .ok (.aload_n 0, 1) := by decide +kernel
theorem dG_init_72 : decode bG_init 72 = .ok (.iconst 0, 1) := by decide +kernel
theorem dG_init_73 : decode bG_init 73 = .ok (.putfield 46, 3) := by decide +kernel
theorem dG_init_76 : decode bG_init 76 = .ok (.iconst 0, 1) := by decide +kernel
theorem dG_init_77 : decode bG_init 77 = .ok (.istore_n 1, 1) := by decide +kernel
theorem dG_init_78 : decode bG_init 78 = .ok (.iload_n 1, 1) := by decide +kernel
theorem dG_init_79 : decode bG_init 79 = .ok (.iconst 3, 1) := by decide +kernel
theorem dG_init_80 : decode bG_init 80 = .ok (.if_icmp .ge 22, 3) := by decide +kernel
theorem dG_init_83 : decode bG_init 83 = .ok (.aload_n 0, 1) := by decide +kernel
theorem dG_init_84 : decode bG_init 84 = .ok (.getfield 18, 3) := by decide +kernel
theorem dG_init_87 : decode bG_init 87 = .ok (.iload_n 1, 1) := by decide +kernel
theorem dG_init_88 : decode bG_init 88 = .ok (.new 16, 3) := by decide +kernel
theorem dG_init_91 : decode bG_init 91 = .ok (.dup, 1) := by decide +kernel
theorem dG_init_92 : decode bG_init 92 = .ok (.invokespecial 41, 3) := by decide +kernel
theorem dG_init_95 : decode bG_init 95 = .ok (.aastore, 1) := by decide +kernel
theorem dG_init_96 : decode bG_init 96 = .ok (.iinc 1 1, 3) := by decide +kernel
theorem dG_init_99 : decode bG_init 99 = .ok (.goto (-21), 3) := by decide +kernel
theorem dG_init_102 : decode bG_init 102 = .ok (.return_, 1) := by decide +kernel
theorem dG_sign_0 : decode bG_sign 0 = .ok (.aload_n 0, 1) := by decide +kernel
theorem dG_sign_1 : decode bG_sign 1 = .ok (.getfield 10, 3) := by decide +kernel
theorem dG_sign_4 : decode bG_sign 4 = .ok (.iload_n 1, 1) := by decide +kernel
theorem dG_sign_5 : decode bG_sign 5 = .ok (.invokevirtual 50, 3) := by decide +kernel
theorem dG_sign_8 : decode bG_sign 8 = .ok (.ireturn, 1) := by decide +kernel
theorem dG_read_0 : decode bG_read 0 = .ok (.aload_n 0, 1) := by decide +kernel
theorem dG_read_1 : decode bG_read 1 = .ok (.getfield 42, 3) := by decide +kernel
theorem dG_read_4 : decode bG_read 4 = .ok (.invokevirtual 54, 3) := by decide +kernel
theorem dG_read_7 : decode bG_read 7 = .ok (.aload_n 0, 1) := by decide +kernel
theorem dG_read_8 : decode bG_read 8 = .ok (.getfield 10, 3) := by decide +kernel
theorem dG_read_11 : decode bG_read 11 = .ok (.aload_n 0, 1) := by decide +kernel
theorem dG_read_12 : decode bG_read 12 = .ok (.getfield 42, 3) := by decide +kernel
theorem dG_read_15 : decode bG_read 15 = .ok (.invokevirtual 57, 3) := by decide +kernel
theorem dG_read_18 : decode bG_read 18 = .ok (.istore_n 1, 1) := by decide +kernel
theorem dG_read_19 : decode bG_read 19 = .ok (.aload_n 0, 1) := by decide +kernel
theorem dG_read_20 : decode bG_read 20 = .ok (.getfield 10, 3) := by decide +kernel
theorem dG_read_23 : decode bG_read 23 = .ok (.invokevirtual 61, 3) := by decide +kernel
theorem dG_read_26 : decode bG_read 26 = .ok (.iload_n 1, 1) := by decide +kernel
theorem dG_read_27 : decode bG_read 27 = .ok (.ifCond .ne 13, 3) := by decide +kernel
theorem dG_read_30 : decode bG_read 30 = .ok (.new 62, 3) := by decide +kernel
theorem dG_read_33 : decode bG_read 33 = .ok (.dup, 1) := by decide +kernel
theorem dG_read_34 : decode bG_read 34 = .ok (.ldc 64, 2) := by decide +kernel
theorem dG_read_36 : decode bG_read 36 = .ok (.invokespecial 66, 3) := by decide +kernel
theorem dG_read_39 : decode bG_read 39 = .ok (.athrow, 1) := by decide +kernel
theorem dG_read_40 : decode bG_read 40 = .ok (.aload_n 0, 1) := by decide +kernel
theorem dG_read_41 : decode bG_read 41 = .ok (.getfield 18, 3) := by decide +kernel
theorem dG_read_44 : decode bG_read 44 = .ok (.aload_n 0, 1) := by decide +kernel
theorem dG_read_45 : decode bG_read 45 = .ok (.getfield 46, 3) := by decide +kernel
theorem dG_read_48 : decode bG_read 48 = .ok (.aaload, 1) := by decide +kernel
theorem dG_read_49 : decode bG_read 49 = .ok (.astore_n 2, 1) := by decide +kernel
theorem dG_read_50 : decode bG_read 50 = .ok (.aload_n 0, 1) := by decide +kernel
theorem dG_read_51 : decode bG_read 51 = .ok (.getfield 18, 3) := by decide +kernel
theorem dG_read_54 : decode bG_read 54 = .ok (.aload_n 0, 1) := by decide +kernel
theorem dG_read_55 : decode bG_read 55 = .ok (.getfield 46, 3) := by decide +kernel
theorem dG_read_58 : decode bG_read 58 = .ok (.aload_n 0, 1) := by decide +kernel
theorem dG_read_59 : decode bG_read 59 = .ok (.getfield 42, 3) := by decide +kernel
theorem dG_read_62 : decode bG_read 62 = .ok (.aastore, 1) := by decide +kernel
theorem dG_read_63 : decode bG_read 63 = .ok (.aload_n 0, 1) := by decide +kernel
theorem dG_read_64 : decode bG_read 64 = .ok (.aload_n 2, 1) := by decide +kernel
theorem dG_read_65 : decode bG_read 65 = .ok (.putfield 42, 3) := by decide +kernel
theorem dG_read_68 : decode bG_read 68 = .ok (.aload_n 0, 1) := by decide +kernel
theorem dG_read_69 : decode bG_read 69 = .ok (.getfield 27, 3) := by decide +kernel
theorem dG_read_72 : decode bG_read 72 = .ok (.aload_n 0, 1) := by decide +kernel
theorem dG_read_73 : decode bG_read 73 = .ok (.getfield 46, 3) := by decide +kernel
theorem dG_read_76 : decode bG_read 76 = .ok (.invokevirtual 69, 3) := by decide +kernel
theorem dG_read_79 : decode bG_read 79 = .ok (.aload_n 0, 1) := by decide +kernel
theorem dG_read_80 : decode bG_read 80 = .ok (.getfield 31, 3) := by decide +kernel
theorem dG_read_83 : decode bG_read 83 = .ok (.aload_n 0, 1) := by decide +kernel
theorem dG_read_84 : decode bG_read 84 = .ok (.getfield 46, 3) := by decide +kernel
theorem dG_read_87 : decode bG_read 87 = .ok (.invokevirtual 69, 3) := by decide +kernel
theorem dG_read_90 : decode bG_read 90 = .ok (.aload_n 0, 1) := by decide +kernel
theorem dG_read_91 : decode bG_read 91 = .ok (.getfield 31, 3) := by decide +kernel
theorem dG_read_94 : decode bG_read 94 = .ok (.aload_n 0, 1) := by decide +kernel
theorem dG_read_95 : decode bG_read 95 = .ok (.getfield 46, 3) := by decide +kernel
theorem dG_read_98 : decode bG_read 98 = .ok (.invokevirtual 72, 3) := by decide +kernel
theorem dG_read_101 : decode bG_read 101 = .ok (.aload_n 0, 1) := by decide +kernel
theorem dG_read_102 : decode bG_read 102 = .ok (.getfield 18, 3) := by decide +kernel
theorem dG_read_105 : decode bG_read 105 = .ok (.aload_n 0, 1) := by decide +kernel
theorem dG_read_106 : decode bG_read 106 = .ok (.getfield 46, 3) := by decide +kernel
theorem dG_read_109 : decode bG_read 109 = .ok (.aaload, 1) := by decide +kernel
theorem dG_read_110 : decode bG_read 110 = .ok (.invokevirtual 75, 3) := by decide +kernel
theorem dG_read_113 : decode bG_read 113 = .ok (.ireturn, 1) := by decide +kernel
theorem dG_failure_0 : decode bG_failure 0 = .ok (.iload_n 1, 1) := by decide +kernel
theorem dG_failure_1 : decode bG_failure 1 = .ok (.lookupswitch 43 #[(0, 27), (1, 35)], 27) := by decide +kernel
theorem dG_failure_28 : decode bG_failure 28 = .ok (.aload_n 0, 1) := by decide +kernel
theorem dG_failure_29 : decode bG_failure 29 = .ok (.getfield 10, 3) := by decide +kernel
theorem dG_failure_32 : decode bG_failure 32 = .ok (.invokevirtual 79, 3) := by decide +kernel
theorem dG_failure_35 : decode bG_failure 35 = .ok (.ireturn, 1) := by decide +kernel
theorem dG_failure_36 : decode bG_failure 36 = .ok (.aload_n 0, 1) := by decide +kernel
theorem dG_failure_37 : decode bG_failure 37 = .ok (.getfield 10, 3) := by decide +kernel
theorem dG_failure_40 : decode bG_failure 40 = .ok (.invokevirtual 82, 3) := by decide +kernel
theorem dG_failure_43 : decode bG_failure 43 = .ok (.ireturn, 1) := by decide +kernel
theorem dG_failure_44 : decode bG_failure 44 = .ok (.iconst (-1), 1) := by decide +kernel
theorem dG_failure_45 : decode bG_failure 45 = .ok (.ireturn, 1) := by decide +kernel
theorem dG_edition_0 : decode bG_edition 0 = .ok (.iload_n 1, 1) := by decide +kernel
theorem dG_edition_1 : decode bG_edition 1 = .ok (.invokestatic 85, 3) := by decide +kernel
theorem dG_edition_4 : decode bG_edition 4 = .ok (.ifCond .eq 11, 3) := by decide +kernel
theorem dG_edition_7 : decode bG_edition 7 = .ok (.iload_n 1, 1) := by decide +kernel
theorem dG_edition_8 : decode bG_edition 8 = .ok (.aload_n 0, 1) := by decide +kernel
theorem dG_edition_9 : decode bG_edition 9 = .ok (.getfield 46, 3) := by decide +kernel
theorem dG_edition_12 : decode bG_edition 12 = .ok (.if_icmp .ne 5, 3) := by decide +kernel
theorem dG_edition_15 : decode bG_edition 15 = .ok (.iconst 0, 1) := by decide +kernel
theorem dG_edition_16 : decode bG_edition 16 = .ok (.ireturn, 1) := by decide +kernel
theorem dG_edition_17 : decode bG_edition 17 = .ok (.aload_n 0, 1) := by decide +kernel
theorem dG_edition_18 : decode bG_edition 18 = .ok (.iload_n 1, 1) := by decide +kernel
theorem dG_edition_19 : decode bG_edition 19 = .ok (.putfield 46, 3) := by decide +kernel
theorem dG_edition_22 : decode bG_edition 22 = .ok (.iconst 1, 1) := by decide +kernel
theorem dG_edition_23 : decode bG_edition 23 = .ok (.ireturn, 1) := by decide +kernel
theorem dG_row_0 : decode bG_row 0 = .ok (.aload_n 0, 1) := by decide +kernel
theorem dG_row_1 : decode bG_row 1 = .ok (.getfield 18, 3) := by decide +kernel
theorem dG_row_4 : decode bG_row 4 = .ok (.aload_n 0, 1) := by decide +kernel
theorem dG_row_5 : decode bG_row 5 = .ok (.getfield 46, 3) := by decide +kernel
theorem dG_row_8 : decode bG_row 8 = .ok (.aaload, 1) := by decide +kernel
theorem dG_row_9 : decode bG_row 9 = .ok (.astore_n 3, 1) := by decide +kernel
theorem dG_row_10 : decode bG_row 10 = .ok (.aload_n 3, 1) := by decide +kernel
theorem dG_row_11 : decode bG_row 11 = .ok (.iload_n 1, 1) := by decide +kernel
theorem dG_row_12 : decode bG_row 12 = .ok (.invokevirtual 88, 3) := by decide +kernel
theorem dG_row_15 : decode bG_row 15 = .ok (.ifCond .ne 13, 3) := by decide +kernel
theorem dG_row_18 : decode bG_row 18 = .ok (.new 91, 3) := by decide +kernel
theorem dG_row_21 : decode bG_row 21 = .ok (.dup, 1) := by decide +kernel
theorem dG_row_22 : decode bG_row 22 = .ok (.ldc 93, 2) := by decide +kernel
theorem dG_row_24 : decode bG_row 24 = .ok (.invokespecial 95, 3) := by decide +kernel
theorem dG_row_27 : decode bG_row 27 = .ok (.athrow, 1) := by decide +kernel
theorem dG_row_28 : decode bG_row 28 = .ok (.iload_n 2, 1) := by decide +kernel
theorem dG_row_29 : decode bG_row 29 = .ok (.tableswitch 72 0 4 #[35, 41, 48, 55, 65], 35) := by decide +kernel
theorem dG_row_64 : decode bG_row 64 = .ok (.aload_n 3, 1) := by decide +kernel
theorem dG_row_65 : decode bG_row 65 = .ok (.iload_n 1, 1) := by decide +kernel
theorem dG_row_66 : decode bG_row 66 = .ok (.invokevirtual 96, 3) := by decide +kernel
theorem dG_row_69 : decode bG_row 69 = .ok (.lreturn, 1) := by decide +kernel
theorem dG_row_70 : decode bG_row 70 = .ok (.aload_n 3, 1) := by decide +kernel
theorem dG_row_71 : decode bG_row 71 = .ok (.iload_n 1, 1) := by decide +kernel
theorem dG_row_72 : decode bG_row 72 = .ok (.invokevirtual 100, 3) := by decide +kernel
theorem dG_row_75 : decode bG_row 75 = .ok (.i2l, 1) := by decide +kernel
theorem dG_row_76 : decode bG_row 76 = .ok (.lreturn, 1) := by decide +kernel
theorem dG_row_77 : decode bG_row 77 = .ok (.aload_n 3, 1) := by decide +kernel
theorem dG_row_78 : decode bG_row 78 = .ok (.iload_n 1, 1) := by decide +kernel
theorem dG_row_79 : decode bG_row 79 = .ok (.invokevirtual 104, 3) := by decide +kernel
theorem dG_row_82 : decode bG_row 82 = .ok (.i2l, 1) := by decide +kernel
theorem dG_row_83 : decode bG_row 83 = .ok (.lreturn, 1) := by decide +kernel
theorem dG_row_84 : decode bG_row 84 = .ok (.aload_n 3, 1) := by decide +kernel
theorem dG_row_85 : decode bG_row 85 = .ok (.aload_n 3, 1) := by decide +kernel
theorem dG_row_86 : decode bG_row 86 = .ok (.iload_n 1, 1) := by decide +kernel
theorem dG_row_87 : decode bG_row 87 = .ok (.invokevirtual 107, 3) := by decide +kernel
theorem dG_row_90 : decode bG_row 90 = .ok (.invokevirtual 96, 3) := by decide +kernel
theorem dG_row_93 : decode bG_row 93 = .ok (.lreturn, 1) := by decide +kernel
theorem dG_row_94 : decode bG_row 94 = .ok (.aload_n 3, 1) := by decide +kernel
theorem dG_row_95 : decode bG_row 95 = .ok (.iload_n 1, 1) := by decide +kernel
theorem dG_row_96 : decode bG_row 96 = .ok (.invokevirtual 110, 3) := by decide +kernel
theorem dG_row_99 : decode bG_row 99 = .ok (.i2l, 1) := by decide +kernel
theorem dG_row_100 : decode bG_row 100 = .ok (.lreturn, 1) := by decide +kernel
theorem dG_row_101 : decode bG_row 101 = .ok (.new 91, 3) := by decide +kernel
theorem dG_row_104 : decode bG_row 104 = .ok (.dup, 1) := by decide +kernel
theorem dG_row_105 : decode bG_row 105 = .ok (.ldc 113, 2) := by decide +kernel
theorem dG_row_107 : decode bG_row 107 = .ok (.invokespecial 95, 3) := by decide +kernel
theorem dG_row_110 : decode bG_row 110 = .ok (.athrow, 1) := by decide +kernel
theorem dG_find_0 : decode bG_find 0 = .ok (.aload_n 0, 1) := by decide +kernel
theorem dG_find_1 : decode bG_find 1 = .ok (.getfield 18, 3) := by decide +kernel
theorem dG_find_4 : decode bG_find 4 = .ok (.aload_n 0, 1) := by decide +kernel
theorem dG_find_5 : decode bG_find 5 = .ok (.getfield 46, 3) := by decide +kernel
theorem dG_find_8 : decode bG_find 8 = .ok (.aaload, 1) := by decide +kernel
theorem dG_find_9 : decode bG_find 9 = .ok (.lload_n 1, 1) := by decide +kernel
theorem dG_find_10 : decode bG_find 10 = .ok (.invokevirtual 115, 3) := by decide +kernel
theorem dG_find_13 : decode bG_find 13 = .ok (.ireturn, 1) := by decide +kernel
theorem dG_note_0 : decode bG_note 0 = .ok (.aload_n 0, 1) := by decide +kernel
theorem dG_note_1 : decode bG_note 1 = .ok (.aload_n 0, 1) := by decide +kernel
theorem dG_note_2 : decode bG_note 2 = .ok (.getfield 46, 3) := by decide +kernel
theorem dG_note_5 : decode bG_note 5 = .ok (.lload_n 1, 1) := by decide +kernel
theorem dG_note_6 : decode bG_note 6 = .ok (.invokevirtual 119, 3) := by decide +kernel
theorem dG_note_9 : decode bG_note 9 = .ok (.ifCond .eq 20, 3) := by decide +kernel
theorem dG_note_12 : decode bG_note 12 = .ok (.aload_n 0, 1) := by decide +kernel
theorem dG_note_13 : decode bG_note 13 = .ok (.aload_n 0, 1) := by decide +kernel
theorem dG_note_14 : decode bG_note 14 = .ok (.getfield 46, 3) := by decide +kernel
theorem dG_note_17 : decode bG_note 17 = .ok (.lload 4, 2) := by decide +kernel
theorem dG_note_19 : decode bG_note 19 = .ok (.invokevirtual 119, 3) := by decide +kernel
theorem dG_note_22 : decode bG_note 22 = .ok (.ifCond .eq 7, 3) := by decide +kernel
theorem dG_note_25 : decode bG_note 25 = .ok (.iconst 1, 1) := by decide +kernel
theorem dG_note_26 : decode bG_note 26 = .ok (.goto 4, 3) := by decide +kernel
theorem dG_note_29 : decode bG_note 29 = .ok (.iconst 0, 1) := by decide +kernel
theorem dG_note_30 : decode bG_note 30 = .ok (.istore 6, 2) := by decide +kernel
theorem dG_note_32 : decode bG_note 32 = .ok (.iload 6, 2) := by decide +kernel
theorem dG_note_34 : decode bG_note 34 = .ok (.ifCond .eq 19, 3) := by decide +kernel
theorem dG_note_37 : decode bG_note 37 = .ok (.lload_n 1, 1) := by decide +kernel
theorem dG_note_38 : decode bG_note 38 = .ok (.lload 4, 2) := by decide +kernel
theorem dG_note_40 : decode bG_note 40 = .ok (.lcmp, 1) := by decide +kernel
theorem dG_note_41 : decode bG_note 41 = .ok (.ifCond .eq 12, 3) := by decide +kernel
theorem dG_note_44 : decode bG_note 44 = .ok (.iload_n 3, 1) := by decide +kernel
theorem dG_note_45 : decode bG_note 45 = .ok (.ifCond .eq 18, 3) := by decide +kernel
theorem dG_note_48 : decode bG_note 48 = .ok (.iload_n 3, 1) := by decide +kernel
theorem dG_note_49 : decode bG_note 49 = .ok (.iconst 1, 1) := by decide +kernel
theorem dG_note_50 : decode bG_note 50 = .ok (.if_icmp .eq 13, 3) := by decide +kernel
theorem dG_note_53 : decode bG_note 53 = .ok (.new 123, 3) := by decide +kernel
theorem dG_note_56 : decode bG_note 56 = .ok (.dup, 1) := by decide +kernel
theorem dG_note_57 : decode bG_note 57 = .ok (.ldc 125, 2) := by decide +kernel
theorem dG_note_59 : decode bG_note 59 = .ok (.invokespecial 127, 3) := by decide +kernel
theorem dG_note_62 : decode bG_note 62 = .ok (.athrow, 1) := by decide +kernel
theorem dG_note_63 : decode bG_note 63 = .ok (.aload_n 0, 1) := by decide +kernel
theorem dG_note_64 : decode bG_note 64 = .ok (.getfield 27, 3) := by decide +kernel
theorem dG_note_67 : decode bG_note 67 = .ok (.invokevirtual 128, 3) := by decide +kernel
theorem dG_note_70 : decode bG_note 70 = .ok (.ifCond .ne 21, 3) := by decide +kernel
theorem dG_note_73 : decode bG_note 73 = .ok (.aload_n 0, 1) := by decide +kernel
theorem dG_note_74 : decode bG_note 74 = .ok (.getfield 27, 3) := by decide +kernel
theorem dG_note_77 : decode bG_note 77 = .ok (.aload_n 0, 1) := by decide +kernel
theorem dG_note_78 : decode bG_note 78 = .ok (.getfield 46, 3) := by decide +kernel
theorem dG_note_81 : decode bG_note 81 = .ok (.lload_n 1, 1) := by decide +kernel
theorem dG_note_82 : decode bG_note 82 = .ok (.iload_n 3, 1) := by decide +kernel
theorem dG_note_83 : decode bG_note 83 = .ok (.lload 4, 2) := by decide +kernel
theorem dG_note_85 : decode bG_note 85 = .ok (.invokevirtual 132, 3) := by decide +kernel
theorem dG_note_88 : decode bG_note 88 = .ok (.ifCond .eq 13, 3) := by decide +kernel
theorem dG_note_91 : decode bG_note 91 = .ok (.new 62, 3) := by decide +kernel
theorem dG_note_94 : decode bG_note 94 = .ok (.dup, 1) := by decide +kernel
theorem dG_note_95 : decode bG_note 95 = .ok (.ldc 136, 2) := by decide +kernel
theorem dG_note_97 : decode bG_note 97 = .ok (.invokespecial 66, 3) := by decide +kernel
theorem dG_note_100 : decode bG_note 100 = .ok (.athrow, 1) := by decide +kernel
theorem dG_note_101 : decode bG_note 101 = .ok (.aload_n 0, 1) := by decide +kernel
theorem dG_note_102 : decode bG_note 102 = .ok (.getfield 27, 3) := by decide +kernel
theorem dG_note_105 : decode bG_note 105 = .ok (.aload_n 0, 1) := by decide +kernel
theorem dG_note_106 : decode bG_note 106 = .ok (.getfield 46, 3) := by decide +kernel
theorem dG_note_109 : decode bG_note 109 = .ok (.lload_n 1, 1) := by decide +kernel
theorem dG_note_110 : decode bG_note 110 = .ok (.iload_n 3, 1) := by decide +kernel
theorem dG_note_111 : decode bG_note 111 = .ok (.lload 4, 2) := by decide +kernel
theorem dG_note_113 : decode bG_note 113 = .ok (.invokevirtual 138, 3) := by decide +kernel
theorem dG_note_116 : decode bG_note 116 = .ok (.aload_n 0, 1) := by decide +kernel
theorem dG_note_117 : decode bG_note 117 = .ok (.getfield 27, 3) := by decide +kernel
theorem dG_note_120 : decode bG_note 120 = .ok (.aload_n 0, 1) := by decide +kernel
theorem dG_note_121 : decode bG_note 121 = .ok (.getfield 46, 3) := by decide +kernel
theorem dG_note_124 : decode bG_note 124 = .ok (.invokevirtual 142, 3) := by decide +kernel
theorem dG_note_127 : decode bG_note 127 = .ok (.ireturn, 1) := by decide +kernel
theorem dG_noted_0 : decode bG_noted 0 = .ok (.aload_n 0, 1) := by decide +kernel
theorem dG_noted_1 : decode bG_noted 1 = .ok (.aload_n 0, 1) := by decide +kernel
theorem dG_noted_2 : decode bG_noted 2 = .ok (.getfield 46, 3) := by decide +kernel
theorem dG_noted_5 : decode bG_noted 5 = .ok (.lload_n 1, 1) := by decide +kernel
theorem dG_noted_6 : decode bG_noted 6 = .ok (.invokevirtual 119, 3) := by decide +kernel
theorem dG_noted_9 : decode bG_noted 9 = .ok (.ifCond .ne 13, 3) := by decide +kernel
theorem dG_noted_12 : decode bG_noted 12 = .ok (.new 123, 3) := by decide +kernel
theorem dG_noted_15 : decode bG_noted 15 = .ok (.dup, 1) := by decide +kernel
theorem dG_noted_16 : decode bG_noted 16 = .ok (.ldc 145, 2) := by decide +kernel
theorem dG_noted_18 : decode bG_noted 18 = .ok (.invokespecial 127, 3) := by decide +kernel
theorem dG_noted_21 : decode bG_noted 21 = .ok (.athrow, 1) := by decide +kernel
theorem dG_noted_22 : decode bG_noted 22 = .ok (.aload_n 0, 1) := by decide +kernel
theorem dG_noted_23 : decode bG_noted 23 = .ok (.getfield 27, 3) := by decide +kernel
theorem dG_noted_26 : decode bG_noted 26 = .ok (.aload_n 0, 1) := by decide +kernel
theorem dG_noted_27 : decode bG_noted 27 = .ok (.getfield 46, 3) := by decide +kernel
theorem dG_noted_30 : decode bG_noted 30 = .ok (.lload_n 1, 1) := by decide +kernel
theorem dG_noted_31 : decode bG_noted 31 = .ok (.iconst (-1), 1) := by decide +kernel
theorem dG_noted_32 : decode bG_noted 32 = .ok (.iload_n 3, 1) := by decide +kernel
theorem dG_noted_33 : decode bG_noted 33 = .ok (.invokevirtual 147, 3) := by decide +kernel
theorem dG_noted_36 : decode bG_noted 36 = .ok (.istore 4, 2) := by decide +kernel
theorem dG_noted_38 : decode bG_noted 38 = .ok (.iload 4, 2) := by decide +kernel
theorem dG_noted_40 : decode bG_noted 40 = .ok (.iconst (-1), 1) := by decide +kernel
theorem dG_noted_41 : decode bG_noted 41 = .ok (.if_icmp .ne 5, 3) := by decide +kernel
theorem dG_noted_44 : decode bG_noted 44 = .ok (.iconst (-1), 1) := by decide +kernel
theorem dG_noted_45 : decode bG_noted 45 = .ok (.ireturn, 1) := by decide +kernel
theorem dG_noted_46 : decode bG_noted 46 = .ok (.iconst 2, 1) := by decide +kernel
theorem dG_noted_47 : decode bG_noted 47 = .ok (.aload_n 0, 1) := by decide +kernel
theorem dG_noted_48 : decode bG_noted 48 = .ok (.getfield 18, 3) := by decide +kernel
theorem dG_noted_51 : decode bG_noted 51 = .ok (.aload_n 0, 1) := by decide +kernel
theorem dG_noted_52 : decode bG_noted 52 = .ok (.getfield 46, 3) := by decide +kernel
theorem dG_noted_55 : decode bG_noted 55 = .ok (.aaload, 1) := by decide +kernel
theorem dG_noted_56 : decode bG_noted 56 = .ok (.aload_n 0, 1) := by decide +kernel
theorem dG_noted_57 : decode bG_noted 57 = .ok (.getfield 27, 3) := by decide +kernel
theorem dG_noted_60 : decode bG_noted 60 = .ok (.iload 4, 2) := by decide +kernel
theorem dG_noted_62 : decode bG_noted 62 = .ok (.invokevirtual 151, 3) := by decide +kernel
theorem dG_noted_65 : decode bG_noted 65 = .ok (.invokevirtual 115, 3) := by decide +kernel
theorem dG_noted_68 : decode bG_noted 68 = .ok (.imul, 1) := by decide +kernel
theorem dG_noted_69 : decode bG_noted 69 = .ok (.aload_n 0, 1) := by decide +kernel
theorem dG_noted_70 : decode bG_noted 70 = .ok (.getfield 27, 3) := by decide +kernel
theorem dG_noted_73 : decode bG_noted 73 = .ok (.iload 4, 2) := by decide +kernel
theorem dG_noted_75 : decode bG_noted 75 = .ok (.invokevirtual 154, 3) := by decide +kernel
theorem dG_noted_78 : decode bG_noted 78 = .ok (.iadd, 1) := by decide +kernel
theorem dG_noted_79 : decode bG_noted 79 = .ok (.ireturn, 1) := by decide +kernel
theorem dG_link_0 : decode bG_link 0 = .ok (.iload_n 1, 1) := by decide +kernel
theorem dG_link_1 : decode bG_link 1 = .ok (.iload 4, 2) := by decide +kernel
theorem dG_link_3 : decode bG_link 3 = .ok (.if_icmp .eq 23, 3) := by decide +kernel
theorem dG_link_6 : decode bG_link 6 = .ok (.aload_n 0, 1) := by decide +kernel
theorem dG_link_7 : decode bG_link 7 = .ok (.iload_n 1, 1) := by decide +kernel
theorem dG_link_8 : decode bG_link 8 = .ok (.lload_n 2, 1) := by decide +kernel
theorem dG_link_9 : decode bG_link 9 = .ok (.invokevirtual 119, 3) := by decide +kernel
theorem dG_link_12 : decode bG_link 12 = .ok (.ifCond .eq 14, 3) := by decide +kernel
theorem dG_link_15 : decode bG_link 15 = .ok (.aload_n 0, 1) := by decide +kernel
theorem dG_link_16 : decode bG_link 16 = .ok (.iload 4, 2) := by decide +kernel
theorem dG_link_18 : decode bG_link 18 = .ok (.lload 5, 2) := by decide +kernel
theorem dG_link_20 : decode bG_link 20 = .ok (.invokevirtual 119, 3) := by decide +kernel
theorem dG_link_23 : decode bG_link 23 = .ok (.ifCond .ne 5, 3) := by decide +kernel
theorem dG_link_26 : decode bG_link 26 = .ok (.iconst 0, 1) := by decide +kernel
theorem dG_link_27 : decode bG_link 27 = .ok (.ireturn, 1) := by decide +kernel
theorem dG_link_28 : decode bG_link 28 = .ok (.aload_n 0, 1) := by decide +kernel
theorem dG_link_29 : decode bG_link 29 = .ok (.getfield 31, 3) := by decide +kernel
theorem dG_link_32 : decode bG_link 32 = .ok (.invokevirtual 128, 3) := by decide +kernel
theorem dG_link_35 : decode bG_link 35 = .ok (.ifCond .ne 19, 3) := by decide +kernel
theorem dG_link_38 : decode bG_link 38 = .ok (.aload_n 0, 1) := by decide +kernel
theorem dG_link_39 : decode bG_link 39 = .ok (.getfield 31, 3) := by decide +kernel
theorem dG_link_42 : decode bG_link 42 = .ok (.iload_n 1, 1) := by decide +kernel
theorem dG_link_43 : decode bG_link 43 = .ok (.lload_n 2, 1) := by decide +kernel
theorem dG_link_44 : decode bG_link 44 = .ok (.iload 4, 2) := by decide +kernel
theorem dG_link_46 : decode bG_link 46 = .ok (.lload 5, 2) := by decide +kernel
theorem dG_link_48 : decode bG_link 48 = .ok (.invokevirtual 132, 3) := by decide +kernel
theorem dG_link_51 : decode bG_link 51 = .ok (.ifCond .eq 5, 3) := by decide +kernel
theorem dG_link_54 : decode bG_link 54 = .ok (.iconst 0, 1) := by decide +kernel
theorem dG_link_55 : decode bG_link 55 = .ok (.ireturn, 1) := by decide +kernel
theorem dG_link_56 : decode bG_link 56 = .ok (.aload_n 0, 1) := by decide +kernel
theorem dG_link_57 : decode bG_link 57 = .ok (.getfield 31, 3) := by decide +kernel
theorem dG_link_60 : decode bG_link 60 = .ok (.iload_n 1, 1) := by decide +kernel
theorem dG_link_61 : decode bG_link 61 = .ok (.lload_n 2, 1) := by decide +kernel
theorem dG_link_62 : decode bG_link 62 = .ok (.iload 4, 2) := by decide +kernel
theorem dG_link_64 : decode bG_link 64 = .ok (.lload 5, 2) := by decide +kernel
theorem dG_link_66 : decode bG_link 66 = .ok (.invokevirtual 138, 3) := by decide +kernel
theorem dG_link_69 : decode bG_link 69 = .ok (.iconst 1, 1) := by decide +kernel
theorem dG_link_70 : decode bG_link 70 = .ok (.ireturn, 1) := by decide +kernel
theorem dG_became_0 : decode bG_became 0 = .ok (.iload_n 1, 1) := by decide +kernel
theorem dG_became_1 : decode bG_became 1 = .ok (.iload 4, 2) := by decide +kernel
theorem dG_became_3 : decode bG_became 3 = .ok (.invokestatic 157, 3) := by decide +kernel
theorem dG_became_6 : decode bG_became 6 = .ok (.aload_n 0, 1) := by decide +kernel
theorem dG_became_7 : decode bG_became 7 = .ok (.iload_n 1, 1) := by decide +kernel
theorem dG_became_8 : decode bG_became 8 = .ok (.lload_n 2, 1) := by decide +kernel
theorem dG_became_9 : decode bG_became 9 = .ok (.invokevirtual 161, 3) := by decide +kernel
theorem dG_became_12 : decode bG_became 12 = .ok (.iconst 0, 1) := by decide +kernel
theorem dG_became_13 : decode bG_became 13 = .ok (.istore 5, 2) := by decide +kernel
theorem dG_became_15 : decode bG_became 15 = .ok (.iconst 0, 1) := by decide +kernel
theorem dG_became_16 : decode bG_became 16 = .ok (.istore 6, 2) := by decide +kernel
theorem dG_became_18 : decode bG_became 18 = .ok (.iconst 0, 1) := by decide +kernel
theorem dG_became_19 : decode bG_became 19 = .ok (.istore 7, 2) := by decide +kernel
theorem dG_became_21 : decode bG_became 21 = .ok (.iload 7, 2) := by decide +kernel
theorem dG_became_23 : decode bG_became 23 = .ok (.aload_n 0, 1) := by decide +kernel
theorem dG_became_24 : decode bG_became 24 = .ok (.getfield 31, 3) := by decide +kernel
theorem dG_became_27 : decode bG_became 27 = .ok (.invokevirtual 165, 3) := by decide +kernel
theorem dG_became_30 : decode bG_became 30 = .ok (.if_icmp .ge 63, 3) := by decide +kernel
theorem dG_became_33 : decode bG_became 33 = .ok (.aload_n 0, 1) := by decide +kernel
theorem dG_became_34 : decode bG_became 34 = .ok (.getfield 31, 3) := by decide +kernel
theorem dG_became_37 : decode bG_became 37 = .ok (.iload 7, 2) := by decide +kernel
theorem dG_became_39 : decode bG_became 39 = .ok (.iload_n 1, 1) := by decide +kernel
theorem dG_became_40 : decode bG_became 40 = .ok (.lload_n 2, 1) := by decide +kernel
theorem dG_became_41 : decode bG_became 41 = .ok (.iload 4, 2) := by decide +kernel
theorem dG_became_43 : decode bG_became 43 = .ok (.invokevirtual 166, 3) := by decide +kernel
theorem dG_became_46 : decode bG_became 46 = .ok (.ifCond .eq 41, 3) := by decide +kernel
theorem dG_became_49 : decode bG_became 49 = .ok (.iinc 5 1, 3) := by decide +kernel
theorem dG_became_52 : decode bG_became 52 = .ok (.iload 6, 2) := by decide +kernel
theorem dG_became_54 : decode bG_became 54 = .ok (.ifCond .ne 26, 3) := by decide +kernel
theorem dG_became_57 : decode bG_became 57 = .ok (.aload_n 0, 1) := by decide +kernel
theorem dG_became_58 : decode bG_became 58 = .ok (.getfield 31, 3) := by decide +kernel
theorem dG_became_61 : decode bG_became 61 = .ok (.iload_n 1, 1) := by decide +kernel
theorem dG_became_62 : decode bG_became 62 = .ok (.iload 4, 2) := by decide +kernel
theorem dG_became_64 : decode bG_became 64 = .ok (.aload_n 0, 1) := by decide +kernel
theorem dG_became_65 : decode bG_became 65 = .ok (.getfield 31, 3) := by decide +kernel
theorem dG_became_68 : decode bG_became 68 = .ok (.iload 7, 2) := by decide +kernel
theorem dG_became_70 : decode bG_became 70 = .ok (.invokevirtual 151, 3) := by decide +kernel
theorem dG_became_73 : decode bG_became 73 = .ok (.invokevirtual 170, 3) := by decide +kernel
theorem dG_became_76 : decode bG_became 76 = .ok (.iconst 1, 1) := by decide +kernel
theorem dG_became_77 : decode bG_became 77 = .ok (.if_icmp .le 7, 3) := by decide +kernel
theorem dG_became_80 : decode bG_became 80 = .ok (.iconst 1, 1) := by decide +kernel
theorem dG_became_81 : decode bG_became 81 = .ok (.goto 4, 3) := by decide +kernel
theorem dG_became_84 : decode bG_became 84 = .ok (.iconst 0, 1) := by decide +kernel
theorem dG_became_85 : decode bG_became 85 = .ok (.istore 6, 2) := by decide +kernel
theorem dG_became_87 : decode bG_became 87 = .ok (.iinc 7 1, 3) := by decide +kernel
theorem dG_became_90 : decode bG_became 90 = .ok (.goto (-69), 3) := by decide +kernel
theorem dG_became_93 : decode bG_became 93 = .ok (.iload 5, 2) := by decide +kernel
theorem dG_became_95 : decode bG_became 95 = .ok (.ifCond .ne 5, 3) := by decide +kernel
theorem dG_became_98 : decode bG_became 98 = .ok (.iconst 0, 1) := by decide +kernel
theorem dG_became_99 : decode bG_became 99 = .ok (.ireturn, 1) := by decide +kernel
theorem dG_became_100 : decode bG_became 100 = .ok (.iload 5, 2) := by decide +kernel
theorem dG_became_102 : decode bG_became 102 = .ok (.iconst 1, 1) := by decide +kernel
theorem dG_became_103 : decode bG_became 103 = .ok (.if_icmp .ne 14, 3) := by decide +kernel
theorem dG_became_106 : decode bG_became 106 = .ok (.iload 6, 2) := by decide +kernel
theorem dG_became_108 : decode bG_became 108 = .ok (.ifCond .eq 7, 3) := by decide +kernel
theorem dG_became_111 : decode bG_became 111 = .ok (.iconst 3, 1) := by decide +kernel
theorem dG_became_112 : decode bG_became 112 = .ok (.goto 4, 3) := by decide +kernel
theorem dG_became_115 : decode bG_became 115 = .ok (.iconst 1, 1) := by decide +kernel
theorem dG_became_116 : decode bG_became 116 = .ok (.ireturn, 1) := by decide +kernel
theorem dG_became_117 : decode bG_became 117 = .ok (.iload 6, 2) := by decide +kernel
theorem dG_became_119 : decode bG_became 119 = .ok (.ifCond .eq 7, 3) := by decide +kernel
theorem dG_became_122 : decode bG_became 122 = .ok (.iconst 4, 1) := by decide +kernel
theorem dG_became_123 : decode bG_became 123 = .ok (.goto 4, 3) := by decide +kernel
theorem dG_became_126 : decode bG_became 126 = .ok (.iconst 2, 1) := by decide +kernel
theorem dG_became_127 : decode bG_became 127 = .ok (.ireturn, 1) := by decide +kernel
theorem dG_linked_0 : decode bG_linked 0 = .ok (.iload_n 1, 1) := by decide +kernel
theorem dG_linked_1 : decode bG_linked 1 = .ok (.iload 4, 2) := by decide +kernel
theorem dG_linked_3 : decode bG_linked 3 = .ok (.invokestatic 157, 3) := by decide +kernel
theorem dG_linked_6 : decode bG_linked 6 = .ok (.aload_n 0, 1) := by decide +kernel
theorem dG_linked_7 : decode bG_linked 7 = .ok (.iload_n 1, 1) := by decide +kernel
theorem dG_linked_8 : decode bG_linked 8 = .ok (.lload_n 2, 1) := by decide +kernel
theorem dG_linked_9 : decode bG_linked 9 = .ok (.invokevirtual 161, 3) := by decide +kernel
theorem dG_linked_12 : decode bG_linked 12 = .ok (.aload_n 0, 1) := by decide +kernel
theorem dG_linked_13 : decode bG_linked 13 = .ok (.getfield 31, 3) := by decide +kernel
theorem dG_linked_16 : decode bG_linked 16 = .ok (.aload_n 0, 1) := by decide +kernel
theorem dG_linked_17 : decode bG_linked 17 = .ok (.getfield 31, 3) := by decide +kernel
theorem dG_linked_20 : decode bG_linked 20 = .ok (.iload_n 1, 1) := by decide +kernel
theorem dG_linked_21 : decode bG_linked 21 = .ok (.lload_n 2, 1) := by decide +kernel
theorem dG_linked_22 : decode bG_linked 22 = .ok (.iload 4, 2) := by decide +kernel
theorem dG_linked_24 : decode bG_linked 24 = .ok (.iload 5, 2) := by decide +kernel
theorem dG_linked_26 : decode bG_linked 26 = .ok (.invokevirtual 147, 3) := by decide +kernel
theorem dG_linked_29 : decode bG_linked 29 = .ok (.invokevirtual 151, 3) := by decide +kernel
theorem dG_linked_32 : decode bG_linked 32 = .ok (.lreturn, 1) := by decide +kernel
theorem dG_lost_0 : decode bG_lost 0 = .ok (.iload_n 1, 1) := by decide +kernel
theorem dG_lost_1 : decode bG_lost 1 = .ok (.iload_n 2, 1) := by decide +kernel
theorem dG_lost_2 : decode bG_lost 2 = .ok (.invokestatic 157, 3) := by decide +kernel
theorem dG_lost_5 : decode bG_lost 5 = .ok (.aload_n 0, 1) := by decide +kernel
theorem dG_lost_6 : decode bG_lost 6 = .ok (.getfield 18, 3) := by decide +kernel
theorem dG_lost_9 : decode bG_lost 9 = .ok (.iload_n 1, 1) := by decide +kernel
theorem dG_lost_10 : decode bG_lost 10 = .ok (.aaload, 1) := by decide +kernel
theorem dG_lost_11 : decode bG_lost 11 = .ok (.astore_n 3, 1) := by decide +kernel
theorem dG_lost_12 : decode bG_lost 12 = .ok (.iconst 0, 1) := by decide +kernel
theorem dG_lost_13 : decode bG_lost 13 = .ok (.istore 4, 2) := by decide +kernel
theorem dG_lost_15 : decode bG_lost 15 = .ok (.iconst 0, 1) := by decide +kernel
theorem dG_lost_16 : decode bG_lost 16 = .ok (.istore 5, 2) := by decide +kernel
theorem dG_lost_18 : decode bG_lost 18 = .ok (.iload 5, 2) := by decide +kernel
theorem dG_lost_20 : decode bG_lost 20 = .ok (.aload_n 3, 1) := by decide +kernel
theorem dG_lost_21 : decode bG_lost 21 = .ok (.invokevirtual 75, 3) := by decide +kernel
theorem dG_lost_24 : decode bG_lost 24 = .ok (.if_icmp .ge 41, 3) := by decide +kernel
theorem dG_lost_27 : decode bG_lost 27 = .ok (.aload_n 3, 1) := by decide +kernel
theorem dG_lost_28 : decode bG_lost 28 = .ok (.iload 5, 2) := by decide +kernel
theorem dG_lost_30 : decode bG_lost 30 = .ok (.invokevirtual 110, 3) := by decide +kernel
theorem dG_lost_33 : decode bG_lost 33 = .ok (.ifCond .ne 26, 3) := by decide +kernel
theorem dG_lost_36 : decode bG_lost 36 = .ok (.aload_n 0, 1) := by decide +kernel
theorem dG_lost_37 : decode bG_lost 37 = .ok (.getfield 31, 3) := by decide +kernel
theorem dG_lost_40 : decode bG_lost 40 = .ok (.iload_n 1, 1) := by decide +kernel
theorem dG_lost_41 : decode bG_lost 41 = .ok (.aload_n 3, 1) := by decide +kernel
theorem dG_lost_42 : decode bG_lost 42 = .ok (.iload 5, 2) := by decide +kernel
theorem dG_lost_44 : decode bG_lost 44 = .ok (.invokevirtual 96, 3) := by decide +kernel
theorem dG_lost_47 : decode bG_lost 47 = .ok (.iload_n 2, 1) := by decide +kernel
theorem dG_lost_48 : decode bG_lost 48 = .ok (.iconst 0, 1) := by decide +kernel
theorem dG_lost_49 : decode bG_lost 49 = .ok (.invokevirtual 147, 3) := by decide +kernel
theorem dG_lost_52 : decode bG_lost 52 = .ok (.iconst (-1), 1) := by decide +kernel
theorem dG_lost_53 : decode bG_lost 53 = .ok (.if_icmp .ne 6, 3) := by decide +kernel
theorem dG_lost_56 : decode bG_lost 56 = .ok (.iinc 4 1, 3) := by decide +kernel
theorem dG_lost_59 : decode bG_lost 59 = .ok (.iinc 5 1, 3) := by decide +kernel
theorem dG_lost_62 : decode bG_lost 62 = .ok (.goto (-44), 3) := by decide +kernel
theorem dG_lost_65 : decode bG_lost 65 = .ok (.iload 4, 2) := by decide +kernel
theorem dG_lost_67 : decode bG_lost 67 = .ok (.ireturn, 1) := by decide +kernel
theorem dG_search_0 : decode bG_search 0 = .ok (.aload_n 0, 1) := by decide +kernel
theorem dG_search_1 : decode bG_search 1 = .ok (.getfield 10, 3) := by decide +kernel
theorem dG_search_4 : decode bG_search 4 = .ok (.invokevirtual 174, 3) := by decide +kernel
theorem dG_search_7 : decode bG_search 7 = .ok (.istore_n 1, 1) := by decide +kernel
theorem dG_search_8 : decode bG_search 8 = .ok (.aload_n 0, 1) := by decide +kernel
theorem dG_search_9 : decode bG_search 9 = .ok (.getfield 10, 3) := by decide +kernel
theorem dG_search_12 : decode bG_search 12 = .ok (.invokevirtual 61, 3) := by decide +kernel
theorem dG_search_15 : decode bG_search 15 = .ok (.iload_n 1, 1) := by decide +kernel
theorem dG_search_16 : decode bG_search 16 = .ok (.ifCond .ne 13, 3) := by decide +kernel
theorem dG_search_19 : decode bG_search 19 = .ok (.new 62, 3) := by decide +kernel
theorem dG_search_22 : decode bG_search 22 = .ok (.dup, 1) := by decide +kernel
theorem dG_search_23 : decode bG_search 23 = .ok (.ldc 177, 2) := by decide +kernel
theorem dG_search_25 : decode bG_search 25 = .ok (.invokespecial 66, 3) := by decide +kernel
theorem dG_search_28 : decode bG_search 28 = .ok (.athrow, 1) := by decide +kernel
theorem dG_search_29 : decode bG_search 29 = .ok (.aload_n 0, 1) := by decide +kernel
theorem dG_search_30 : decode bG_search 30 = .ok (.getfield 18, 3) := by decide +kernel
theorem dG_search_33 : decode bG_search 33 = .ok (.aload_n 0, 1) := by decide +kernel
theorem dG_search_34 : decode bG_search 34 = .ok (.getfield 46, 3) := by decide +kernel
theorem dG_search_37 : decode bG_search 37 = .ok (.aaload, 1) := by decide +kernel
theorem dG_search_38 : decode bG_search 38 = .ok (.astore_n 2, 1) := by decide +kernel
theorem dG_search_39 : decode bG_search 39 = .ok (.aload_n 0, 1) := by decide +kernel
theorem dG_search_40 : decode bG_search 40 = .ok (.getfield 37, 3) := by decide +kernel
theorem dG_search_43 : decode bG_search 43 = .ok (.invokevirtual 179, 3) := by decide +kernel
theorem dG_search_46 : decode bG_search 46 = .ok (.iconst 0, 1) := by decide +kernel
theorem dG_search_47 : decode bG_search 47 = .ok (.istore_n 3, 1) := by decide +kernel
theorem dG_search_48 : decode bG_search 48 = .ok (.iload_n 3, 1) := by decide +kernel
theorem dG_search_49 : decode bG_search 49 = .ok (.aload_n 2, 1) := by decide +kernel
theorem dG_search_50 : decode bG_search 50 = .ok (.invokevirtual 75, 3) := by decide +kernel
theorem dG_search_53 : decode bG_search 53 = .ok (.if_icmp .ge 27, 3) := by decide +kernel
theorem dG_search_56 : decode bG_search 56 = .ok (.aload_n 0, 1) := by decide +kernel
theorem dG_search_57 : decode bG_search 57 = .ok (.getfield 37, 3) := by decide +kernel
theorem dG_search_60 : decode bG_search 60 = .ok (.aload_n 2, 1) := by decide +kernel
theorem dG_search_61 : decode bG_search 61 = .ok (.iload_n 3, 1) := by decide +kernel
theorem dG_search_62 : decode bG_search 62 = .ok (.invokevirtual 96, 3) := by decide +kernel
theorem dG_search_65 : decode bG_search 65 = .ok (.aload_n 0, 1) := by decide +kernel
theorem dG_search_66 : decode bG_search 66 = .ok (.aload_n 2, 1) := by decide +kernel
theorem dG_search_67 : decode bG_search 67 = .ok (.iload_n 3, 1) := by decide +kernel
theorem dG_search_68 : decode bG_search 68 = .ok (.invokevirtual 180, 3) := by decide +kernel
theorem dG_search_71 : decode bG_search 71 = .ok (.invokevirtual 184, 3) := by decide +kernel
theorem dG_search_74 : decode bG_search 74 = .ok (.iinc 3 1, 3) := by decide +kernel
theorem dG_search_77 : decode bG_search 77 = .ok (.goto (-29), 3) := by decide +kernel
theorem dG_search_80 : decode bG_search 80 = .ok (.aload_n 0, 1) := by decide +kernel
theorem dG_search_81 : decode bG_search 81 = .ok (.getfield 37, 3) := by decide +kernel
theorem dG_search_84 : decode bG_search 84 = .ok (.invokevirtual 187, 3) := by decide +kernel
theorem dG_search_87 : decode bG_search 87 = .ok (.ireturn, 1) := by decide +kernel
theorem dG_found_0 : decode bG_found 0 = .ok (.aload_n 0, 1) := by decide +kernel
theorem dG_found_1 : decode bG_found 1 = .ok (.getfield 37, 3) := by decide +kernel
theorem dG_found_4 : decode bG_found 4 = .ok (.iload_n 1, 1) := by decide +kernel
theorem dG_found_5 : decode bG_found 5 = .ok (.invokevirtual 188, 3) := by decide +kernel
theorem dG_found_8 : decode bG_found 8 = .ok (.ifCond .eq 12, 3) := by decide +kernel
theorem dG_found_11 : decode bG_found 11 = .ok (.iload_n 2, 1) := by decide +kernel
theorem dG_found_12 : decode bG_found 12 = .ok (.ifCond .eq 18, 3) := by decide +kernel
theorem dG_found_15 : decode bG_found 15 = .ok (.iload_n 2, 1) := by decide +kernel
theorem dG_found_16 : decode bG_found 16 = .ok (.iconst 1, 1) := by decide +kernel
theorem dG_found_17 : decode bG_found 17 = .ok (.if_icmp .eq 13, 3) := by decide +kernel
theorem dG_found_20 : decode bG_found 20 = .ok (.new 91, 3) := by decide +kernel
theorem dG_found_23 : decode bG_found 23 = .ok (.dup, 1) := by decide +kernel
theorem dG_found_24 : decode bG_found 24 = .ok (.ldc 189, 2) := by decide +kernel
theorem dG_found_26 : decode bG_found 26 = .ok (.invokespecial 95, 3) := by decide +kernel
theorem dG_found_29 : decode bG_found 29 = .ok (.athrow, 1) := by decide +kernel
theorem dG_found_30 : decode bG_found 30 = .ok (.iload_n 2, 1) := by decide +kernel
theorem dG_found_31 : decode bG_found 31 = .ok (.ifCond .ne 14, 3) := by decide +kernel
theorem dG_found_34 : decode bG_found 34 = .ok (.aload_n 0, 1) := by decide +kernel
theorem dG_found_35 : decode bG_found 35 = .ok (.getfield 37, 3) := by decide +kernel
theorem dG_found_38 : decode bG_found 38 = .ok (.iload_n 1, 1) := by decide +kernel
theorem dG_found_39 : decode bG_found 39 = .ok (.invokevirtual 191, 3) := by decide +kernel
theorem dG_found_42 : decode bG_found 42 = .ok (.goto 12, 3) := by decide +kernel
theorem dG_found_45 : decode bG_found 45 = .ok (.aload_n 0, 1) := by decide +kernel
theorem dG_found_46 : decode bG_found 46 = .ok (.getfield 37, 3) := by decide +kernel
theorem dG_found_49 : decode bG_found 49 = .ok (.iload_n 1, 1) := by decide +kernel
theorem dG_found_50 : decode bG_found 50 = .ok (.invokevirtual 192, 3) := by decide +kernel
theorem dG_found_53 : decode bG_found 53 = .ok (.i2l, 1) := by decide +kernel
theorem dG_found_54 : decode bG_found 54 = .ok (.lreturn, 1) := by decide +kernel
theorem dG_count_0 : decode bG_count 0 = .ok (.iload_n 1, 1) := by decide +kernel
theorem dG_count_1 : decode bG_count 1 = .ok (.tableswitch 72 0 4 #[35, 43, 48, 56, 64], 35) := by decide +kernel
theorem dG_count_36 : decode bG_count 36 = .ok (.aload_n 0, 1) := by decide +kernel
theorem dG_count_37 : decode bG_count 37 = .ok (.getfield 10, 3) := by decide +kernel
theorem dG_count_40 : decode bG_count 40 = .ok (.invokevirtual 195, 3) := by decide +kernel
theorem dG_count_43 : decode bG_count 43 = .ok (.ireturn, 1) := by decide +kernel
theorem dG_count_44 : decode bG_count 44 = .ok (.aload_n 0, 1) := by decide +kernel
theorem dG_count_45 : decode bG_count 45 = .ok (.getfield 46, 3) := by decide +kernel
theorem dG_count_48 : decode bG_count 48 = .ok (.ireturn, 1) := by decide +kernel
theorem dG_count_49 : decode bG_count 49 = .ok (.aload_n 0, 1) := by decide +kernel
theorem dG_count_50 : decode bG_count 50 = .ok (.getfield 27, 3) := by decide +kernel
theorem dG_count_53 : decode bG_count 53 = .ok (.invokevirtual 165, 3) := by decide +kernel
theorem dG_count_56 : decode bG_count 56 = .ok (.ireturn, 1) := by decide +kernel
theorem dG_count_57 : decode bG_count 57 = .ok (.aload_n 0, 1) := by decide +kernel
theorem dG_count_58 : decode bG_count 58 = .ok (.getfield 31, 3) := by decide +kernel
theorem dG_count_61 : decode bG_count 61 = .ok (.invokevirtual 165, 3) := by decide +kernel
theorem dG_count_64 : decode bG_count 64 = .ok (.ireturn, 1) := by decide +kernel
theorem dG_count_65 : decode bG_count 65 = .ok (.aload_n 0, 1) := by decide +kernel
theorem dG_count_66 : decode bG_count 66 = .ok (.getfield 37, 3) := by decide +kernel
theorem dG_count_69 : decode bG_count 69 = .ok (.invokevirtual 187, 3) := by decide +kernel
theorem dG_count_72 : decode bG_count 72 = .ok (.ireturn, 1) := by decide +kernel
theorem dG_count_73 : decode bG_count 73 = .ok (.aload_n 0, 1) := by decide +kernel
theorem dG_count_74 : decode bG_count 74 = .ok (.iload_n 1, 1) := by decide +kernel
theorem dG_count_75 : decode bG_count 75 = .ok (.invokevirtual 198, 3) := by decide +kernel
theorem dG_count_78 : decode bG_count 78 = .ok (.ireturn, 1) := by decide +kernel
theorem dG_countInEdition_0 : decode bG_countInEdition 0 = .ok (.iload_n 1, 1) := by decide +kernel
theorem dG_countInEdition_1 : decode bG_countInEdition 1 = .ok (.bipush 10, 2) := by decide +kernel
theorem dG_countInEdition_3 : decode bG_countInEdition 3 = .ok (.isub, 1) := by decide +kernel
theorem dG_countInEdition_4 : decode bG_countInEdition 4 = .ok (.invokestatic 85, 3) := by decide +kernel
theorem dG_countInEdition_7 : decode bG_countInEdition 7 = .ok (.ifCond .eq 16, 3) := by decide +kernel
theorem dG_countInEdition_10 : decode bG_countInEdition 10 = .ok (.aload_n 0, 1) := by decide +kernel
theorem dG_countInEdition_11 : decode bG_countInEdition 11 = .ok (.getfield 18, 3) := by decide +kernel
theorem dG_countInEdition_14 : decode bG_countInEdition 14 = .ok (.iload_n 1, 1) := by decide +kernel
theorem dG_countInEdition_15 : decode bG_countInEdition 15 = .ok (.bipush 10, 2) := by decide +kernel
theorem dG_countInEdition_17 : decode bG_countInEdition 17 = .ok (.isub, 1) := by decide +kernel
theorem dG_countInEdition_18 : decode bG_countInEdition 18 = .ok (.aaload, 1) := by decide +kernel
theorem dG_countInEdition_19 : decode bG_countInEdition 19 = .ok (.invokevirtual 75, 3) := by decide +kernel
theorem dG_countInEdition_22 : decode bG_countInEdition 22 = .ok (.ireturn, 1) := by decide +kernel
theorem dG_countInEdition_23 : decode bG_countInEdition 23 = .ok (.iload_n 1, 1) := by decide +kernel
theorem dG_countInEdition_24 : decode bG_countInEdition 24 = .ok (.bipush 20, 2) := by decide +kernel
theorem dG_countInEdition_26 : decode bG_countInEdition 26 = .ok (.isub, 1) := by decide +kernel
theorem dG_countInEdition_27 : decode bG_countInEdition 27 = .ok (.invokestatic 85, 3) := by decide +kernel
theorem dG_countInEdition_30 : decode bG_countInEdition 30 = .ok (.ifCond .eq 16, 3) := by decide +kernel
theorem dG_countInEdition_33 : decode bG_countInEdition 33 = .ok (.aload_n 0, 1) := by decide +kernel
theorem dG_countInEdition_34 : decode bG_countInEdition 34 = .ok (.getfield 18, 3) := by decide +kernel
theorem dG_countInEdition_37 : decode bG_countInEdition 37 = .ok (.iload_n 1, 1) := by decide +kernel
theorem dG_countInEdition_38 : decode bG_countInEdition 38 = .ok (.bipush 20, 2) := by decide +kernel
theorem dG_countInEdition_40 : decode bG_countInEdition 40 = .ok (.isub, 1) := by decide +kernel
theorem dG_countInEdition_41 : decode bG_countInEdition 41 = .ok (.aaload, 1) := by decide +kernel
theorem dG_countInEdition_42 : decode bG_countInEdition 42 = .ok (.invokevirtual 201, 3) := by decide +kernel
theorem dG_countInEdition_45 : decode bG_countInEdition 45 = .ok (.ireturn, 1) := by decide +kernel
theorem dG_countInEdition_46 : decode bG_countInEdition 46 = .ok (.iconst (-1), 1) := by decide +kernel
theorem dG_countInEdition_47 : decode bG_countInEdition 47 = .ok (.ireturn, 1) := by decide +kernel
theorem dG_isEdition_0 : decode bG_isEdition 0 = .ok (.iload_n 0, 1) := by decide +kernel
theorem dG_isEdition_1 : decode bG_isEdition 1 = .ok (.ifCond .lt 12, 3) := by decide +kernel
theorem dG_isEdition_4 : decode bG_isEdition 4 = .ok (.iload_n 0, 1) := by decide +kernel
theorem dG_isEdition_5 : decode bG_isEdition 5 = .ok (.iconst 3, 1) := by decide +kernel
theorem dG_isEdition_6 : decode bG_isEdition 6 = .ok (.if_icmp .ge 7, 3) := by decide +kernel
theorem dG_isEdition_9 : decode bG_isEdition 9 = .ok (.iconst 1, 1) := by decide +kernel
theorem dG_isEdition_10 : decode bG_isEdition 10 = .ok (.goto 4, 3) := by decide +kernel
theorem dG_isEdition_13 : decode bG_isEdition 13 = .ok (.iconst 0, 1) := by decide +kernel
theorem dG_isEdition_14 : decode bG_isEdition 14 = .ok (.ireturn, 1) := by decide +kernel
theorem dG_hasCode_0 : decode bG_hasCode 0 = .ok (.iload_n 1, 1) := by decide +kernel
theorem dG_hasCode_1 : decode bG_hasCode 1 = .ok (.invokestatic 85, 3) := by decide +kernel
theorem dG_hasCode_4 : decode bG_hasCode 4 = .ok (.ifCond .eq 21, 3) := by decide +kernel
theorem dG_hasCode_7 : decode bG_hasCode 7 = .ok (.aload_n 0, 1) := by decide +kernel
theorem dG_hasCode_8 : decode bG_hasCode 8 = .ok (.getfield 18, 3) := by decide +kernel
theorem dG_hasCode_11 : decode bG_hasCode 11 = .ok (.iload_n 1, 1) := by decide +kernel
theorem dG_hasCode_12 : decode bG_hasCode 12 = .ok (.aaload, 1) := by decide +kernel
theorem dG_hasCode_13 : decode bG_hasCode 13 = .ok (.lload_n 2, 1) := by decide +kernel
theorem dG_hasCode_14 : decode bG_hasCode 14 = .ok (.invokevirtual 115, 3) := by decide +kernel
theorem dG_hasCode_17 : decode bG_hasCode 17 = .ok (.iconst (-1), 1) := by decide +kernel
theorem dG_hasCode_18 : decode bG_hasCode 18 = .ok (.if_icmp .eq 7, 3) := by decide +kernel
theorem dG_hasCode_21 : decode bG_hasCode 21 = .ok (.iconst 1, 1) := by decide +kernel
theorem dG_hasCode_22 : decode bG_hasCode 22 = .ok (.goto 4, 3) := by decide +kernel
theorem dG_hasCode_25 : decode bG_hasCode 25 = .ok (.iconst 0, 1) := by decide +kernel
theorem dG_hasCode_26 : decode bG_hasCode 26 = .ok (.ireturn, 1) := by decide +kernel
theorem dG_checkEditions_0 : decode bG_checkEditions 0 = .ok (.iload_n 0, 1) := by decide +kernel
theorem dG_checkEditions_1 : decode bG_checkEditions 1 = .ok (.invokestatic 85, 3) := by decide +kernel
theorem dG_checkEditions_4 : decode bG_checkEditions 4 = .ok (.ifCond .eq 15, 3) := by decide +kernel
theorem dG_checkEditions_7 : decode bG_checkEditions 7 = .ok (.iload_n 1, 1) := by decide +kernel
theorem dG_checkEditions_8 : decode bG_checkEditions 8 = .ok (.invokestatic 85, 3) := by decide +kernel
theorem dG_checkEditions_11 : decode bG_checkEditions 11 = .ok (.ifCond .eq 8, 3) := by decide +kernel
theorem dG_checkEditions_14 : decode bG_checkEditions 14 = .ok (.iload_n 0, 1) := by decide +kernel
theorem dG_checkEditions_15 : decode bG_checkEditions 15 = .ok (.iload_n 1, 1) := by decide +kernel
theorem dG_checkEditions_16 : decode bG_checkEditions 16 = .ok (.if_icmp .ne 13, 3) := by decide +kernel
theorem dG_checkEditions_19 : decode bG_checkEditions 19 = .ok (.new 123, 3) := by decide +kernel
theorem dG_checkEditions_22 : decode bG_checkEditions 22 = .ok (.dup, 1) := by decide +kernel
theorem dG_checkEditions_23 : decode bG_checkEditions 23 = .ok (.ldc 204, 2) := by decide +kernel
theorem dG_checkEditions_25 : decode bG_checkEditions 25 = .ok (.invokespecial 127, 3) := by decide +kernel
theorem dG_checkEditions_28 : decode bG_checkEditions 28 = .ok (.athrow, 1) := by decide +kernel
theorem dG_checkEditions_29 : decode bG_checkEditions 29 = .ok (.return_, 1) := by decide +kernel
theorem dG_checkCode_0 : decode bG_checkCode 0 = .ok (.aload_n 0, 1) := by decide +kernel
theorem dG_checkCode_1 : decode bG_checkCode 1 = .ok (.iload_n 1, 1) := by decide +kernel
theorem dG_checkCode_2 : decode bG_checkCode 2 = .ok (.lload_n 2, 1) := by decide +kernel
theorem dG_checkCode_3 : decode bG_checkCode 3 = .ok (.invokevirtual 119, 3) := by decide +kernel
theorem dG_checkCode_6 : decode bG_checkCode 6 = .ok (.ifCond .ne 13, 3) := by decide +kernel
theorem dG_checkCode_9 : decode bG_checkCode 9 = .ok (.new 123, 3) := by decide +kernel
theorem dG_checkCode_12 : decode bG_checkCode 12 = .ok (.dup, 1) := by decide +kernel
theorem dG_checkCode_13 : decode bG_checkCode 13 = .ok (.ldc 206, 2) := by decide +kernel
theorem dG_checkCode_15 : decode bG_checkCode 15 = .ok (.invokespecial 127, 3) := by decide +kernel
theorem dG_checkCode_18 : decode bG_checkCode 18 = .ok (.athrow, 1) := by decide +kernel
theorem dG_checkCode_19 : decode bG_checkCode 19 = .ok (.return_, 1) := by decide +kernel
theorem dG_pointsOf_0 : decode bG_pointsOf 0 = .ok (.iconst 0, 1) := by decide +kernel
theorem dG_pointsOf_1 : decode bG_pointsOf 1 = .ok (.istore_n 3, 1) := by decide +kernel
theorem dG_pointsOf_2 : decode bG_pointsOf 2 = .ok (.iconst 0, 1) := by decide +kernel
theorem dG_pointsOf_3 : decode bG_pointsOf 3 = .ok (.istore 4, 2) := by decide +kernel
theorem dG_pointsOf_5 : decode bG_pointsOf 5 = .ok (.iload 4, 2) := by decide +kernel
theorem dG_pointsOf_7 : decode bG_pointsOf 7 = .ok (.aload_n 0, 1) := by decide +kernel
theorem dG_pointsOf_8 : decode bG_pointsOf 8 = .ok (.getfield 10, 3) := by decide +kernel
theorem dG_pointsOf_11 : decode bG_pointsOf 11 = .ok (.invokevirtual 208, 3) := by decide +kernel
theorem dG_pointsOf_14 : decode bG_pointsOf 14 = .ok (.if_icmp .ge 26, 3) := by decide +kernel
theorem dG_pointsOf_17 : decode bG_pointsOf 17 = .ok (.iload_n 3, 1) := by decide +kernel
theorem dG_pointsOf_18 : decode bG_pointsOf 18 = .ok (.aload_n 1, 1) := by decide +kernel
theorem dG_pointsOf_19 : decode bG_pointsOf 19 = .ok (.iload_n 2, 1) := by decide +kernel
theorem dG_pointsOf_20 : decode bG_pointsOf 20 = .ok (.aload_n 0, 1) := by decide +kernel
theorem dG_pointsOf_21 : decode bG_pointsOf 21 = .ok (.getfield 10, 3) := by decide +kernel
theorem dG_pointsOf_24 : decode bG_pointsOf 24 = .ok (.iload 4, 2) := by decide +kernel
theorem dG_pointsOf_26 : decode bG_pointsOf 26 = .ok (.invokevirtual 211, 3) := by decide +kernel
theorem dG_pointsOf_29 : decode bG_pointsOf 29 = .ok (.invokevirtual 214, 3) := by decide +kernel
theorem dG_pointsOf_32 : decode bG_pointsOf 32 = .ok (.iadd, 1) := by decide +kernel
theorem dG_pointsOf_33 : decode bG_pointsOf 33 = .ok (.istore_n 3, 1) := by decide +kernel
theorem dG_pointsOf_34 : decode bG_pointsOf 34 = .ok (.iinc 4 1, 3) := by decide +kernel
theorem dG_pointsOf_37 : decode bG_pointsOf 37 = .ok (.goto (-32), 3) := by decide +kernel
theorem dG_pointsOf_40 : decode bG_pointsOf 40 = .ok (.aload_n 0, 1) := by decide +kernel
theorem dG_pointsOf_41 : decode bG_pointsOf 41 = .ok (.aload_n 1, 1) := by decide +kernel
theorem dG_pointsOf_42 : decode bG_pointsOf 42 = .ok (.iload_n 2, 1) := by decide +kernel
theorem dG_pointsOf_43 : decode bG_pointsOf 43 = .ok (.invokevirtual 218, 3) := by decide +kernel
theorem dG_pointsOf_46 : decode bG_pointsOf 46 = .ok (.ifCond .eq 9, 3) := by decide +kernel
theorem dG_pointsOf_49 : decode bG_pointsOf 49 = .ok (.iload_n 3, 1) := by decide +kernel
theorem dG_pointsOf_50 : decode bG_pointsOf 50 = .ok (.iconst 2, 1) := by decide +kernel
theorem dG_pointsOf_51 : decode bG_pointsOf 51 = .ok (.idiv, 1) := by decide +kernel
theorem dG_pointsOf_52 : decode bG_pointsOf 52 = .ok (.goto 4, 3) := by decide +kernel
theorem dG_pointsOf_55 : decode bG_pointsOf 55 = .ok (.iload_n 3, 1) := by decide +kernel
theorem dG_pointsOf_56 : decode bG_pointsOf 56 = .ok (.ireturn, 1) := by decide +kernel
theorem dG_isLeftOut_0 : decode bG_isLeftOut 0 = .ok (.aload_n 1, 1) := by decide +kernel
theorem dG_isLeftOut_1 : decode bG_isLeftOut 1 = .ok (.iload_n 2, 1) := by decide +kernel
theorem dG_isLeftOut_2 : decode bG_isLeftOut 2 = .ok (.invokevirtual 107, 3) := by decide +kernel
theorem dG_isLeftOut_5 : decode bG_isLeftOut 5 = .ok (.istore_n 3, 1) := by decide +kernel
theorem dG_isLeftOut_6 : decode bG_isLeftOut 6 = .ok (.iconst 0, 1) := by decide +kernel
theorem dG_isLeftOut_7 : decode bG_isLeftOut 7 = .ok (.istore 4, 2) := by decide +kernel
theorem dG_isLeftOut_9 : decode bG_isLeftOut 9 = .ok (.iload 4, 2) := by decide +kernel
theorem dG_isLeftOut_11 : decode bG_isLeftOut 11 = .ok (.iconst 4, 1) := by decide +kernel
theorem dG_isLeftOut_12 : decode bG_isLeftOut 12 = .ok (.if_icmp .ge 47, 3) := by decide +kernel
theorem dG_isLeftOut_15 : decode bG_isLeftOut 15 = .ok (.iload_n 3, 1) := by decide +kernel
theorem dG_isLeftOut_16 : decode bG_isLeftOut 16 = .ok (.iconst (-1), 1) := by decide +kernel
theorem dG_isLeftOut_17 : decode bG_isLeftOut 17 = .ok (.if_icmp .eq 42, 3) := by decide +kernel
theorem dG_isLeftOut_20 : decode bG_isLeftOut 20 = .ok (.aload_n 0, 1) := by decide +kernel
theorem dG_isLeftOut_21 : decode bG_isLeftOut 21 = .ok (.getfield 27, 3) := by decide +kernel
theorem dG_isLeftOut_24 : decode bG_isLeftOut 24 = .ok (.aload_n 0, 1) := by decide +kernel
theorem dG_isLeftOut_25 : decode bG_isLeftOut 25 = .ok (.getfield 46, 3) := by decide +kernel
theorem dG_isLeftOut_28 : decode bG_isLeftOut 28 = .ok (.aload_n 1, 1) := by decide +kernel
theorem dG_isLeftOut_29 : decode bG_isLeftOut 29 = .ok (.iload_n 3, 1) := by decide +kernel
theorem dG_isLeftOut_30 : decode bG_isLeftOut 30 = .ok (.invokevirtual 96, 3) := by decide +kernel
theorem dG_isLeftOut_33 : decode bG_isLeftOut 33 = .ok (.iconst 1, 1) := by decide +kernel
theorem dG_isLeftOut_34 : decode bG_isLeftOut 34 = .ok (.aload_n 1, 1) := by decide +kernel
theorem dG_isLeftOut_35 : decode bG_isLeftOut 35 = .ok (.iload_n 2, 1) := by decide +kernel
theorem dG_isLeftOut_36 : decode bG_isLeftOut 36 = .ok (.invokevirtual 96, 3) := by decide +kernel
theorem dG_isLeftOut_39 : decode bG_isLeftOut 39 = .ok (.invokevirtual 132, 3) := by decide +kernel
theorem dG_isLeftOut_42 : decode bG_isLeftOut 42 = .ok (.ifCond .eq 5, 3) := by decide +kernel
theorem dG_isLeftOut_45 : decode bG_isLeftOut 45 = .ok (.iconst 1, 1) := by decide +kernel
theorem dG_isLeftOut_46 : decode bG_isLeftOut 46 = .ok (.ireturn, 1) := by decide +kernel
theorem dG_isLeftOut_47 : decode bG_isLeftOut 47 = .ok (.aload_n 1, 1) := by decide +kernel
theorem dG_isLeftOut_48 : decode bG_isLeftOut 48 = .ok (.iload_n 3, 1) := by decide +kernel
theorem dG_isLeftOut_49 : decode bG_isLeftOut 49 = .ok (.invokevirtual 107, 3) := by decide +kernel
theorem dG_isLeftOut_52 : decode bG_isLeftOut 52 = .ok (.istore_n 3, 1) := by decide +kernel
theorem dG_isLeftOut_53 : decode bG_isLeftOut 53 = .ok (.iinc 4 1, 3) := by decide +kernel
theorem dG_isLeftOut_56 : decode bG_isLeftOut 56 = .ok (.goto (-47), 3) := by decide +kernel
theorem dG_isLeftOut_59 : decode bG_isLeftOut 59 = .ok (.iconst 0, 1) := by decide +kernel
theorem dG_isLeftOut_60 : decode bG_isLeftOut 60 = .ok (.ireturn, 1) := by decide +kernel
set_option maxHeartbeats 4000000 in
set_option maxRecDepth 100000 in
theorem cG_isEdition (l : Launch) (nx : Nat) (M : xH) (k : Nat) (hk : k < 3) : xC l xcl yG_isEdition (xw (Cond.code yG_isEdition bG_isEdition 1 (some .boolean))) ({ frames := 0, cells := 0, slots := 0, locals := 0 } : Room) [.int (nI (k))] nx M (x_is (some (.int (nI (1)))) nx M) := by
  refine yC (by decide) (Nat.le_of_ble_eq_true rfl) ?_
  intro p e s m args below meth c D F hr hn
  refine x_iload_n F 0 dG_isEdition_0 rfl rfl ?_
  refine x_if_lt F (tgt := 13) dG_isEdition_1 (by decide) (fun c1 => ?_) (fun c1 => ?_)
  · skip
    have c1 : k < 0 := by
      exact (nI_ltI (a := k) (b := 0) (by omega) (by omega)).mp c1
    exact absurd c1 (by omega)
  · skip
    have c1 : 0 ≤ k := by
      have z : ¬ (k < 0) := fun zz => c1 ((nI_ltI (a := k) (b := 0) (by omega) (by omega)).mpr zz)
      omega
    refine x_iload_n F 0 dG_isEdition_4 rfl rfl ?_
    refine x_iconst F (v := nI (3)) dG_isEdition_5 (by decide) ?_
    refine x_icmp_ge F (tgt := 13) dG_isEdition_6 (by decide) (fun c2 => ?_) (fun c2 => ?_)
    · skip
      have c2 : 3 ≤ k := by
        exact (nI_leI (a := 3) (b := k) (by omega) (by omega)).mp c2
      exact absurd c2 (by omega)
    · skip
      have c2 : k < 3 := by
        have z : ¬ (3 ≤ k) := fun zz => c2 ((nI_leI (a := 3) (b := k) (by omega) (by omega)).mpr zz)
        omega
      refine x_iconst F (v := nI (1)) dG_isEdition_9 (by decide) ?_
      refine x_goto F (tgt := 14) dG_isEdition_10 (by decide) ?_
      exact x_zret F hr (by rfl) dG_isEdition_14 (x_is_i _ _ _)
set_option maxHeartbeats 4000000 in
set_option maxRecDepth 100000 in
theorem cG_isEditionN (l : Launch) (nx : Nat) (M : xH) (i : Int32) (hi : ¬ vp_in i 3) : xC l xcl yG_isEdition (xw (Cond.code yG_isEdition bG_isEdition 1 (some .boolean))) ({ frames := 0, cells := 0, slots := 0, locals := 0 } : Room) [.int (i)] nx M (x_is (some (.int (nI (0)))) nx M) := by
  refine yC (by decide) (Nat.le_of_ble_eq_true rfl) ?_
  intro p e s m args below meth c D F hr hn
  refine x_iload_n F 0 dG_isEdition_0 rfl rfl ?_
  refine x_if_lt F (tgt := 13) dG_isEdition_1 (by decide) (fun c1 => ?_) (fun c1 => ?_)
  · skip
    refine x_iconst F (v := nI (0)) dG_isEdition_13 (by decide) ?_
    exact x_zret F hr (by rfl) dG_isEdition_14 (x_is_i _ _ _)
  · skip
    refine x_iload_n F 0 dG_isEdition_4 rfl rfl ?_
    refine x_iconst F (v := nI (3)) dG_isEdition_5 (by decide) ?_
    refine x_icmp_ge F (tgt := 13) dG_isEdition_6 (by decide) (fun c2 => ?_) (fun c2 => ?_)
    · skip
      refine x_iconst F (v := nI (0)) dG_isEdition_13 (by decide) ?_
      exact x_zret F hr (by rfl) dG_isEdition_14 (x_is_i _ _ _)
    · skip
      exact absurd (x_out (by omega) hi c1 c2) id
set_option maxHeartbeats 4000000 in
set_option maxRecDepth 100000 in
theorem cG_find (l : Launch) (nx : Nat) (M : xH) (g : Nat) (γ : gS) (hG : gIs M g γ) (co : Int64) : xC l xcl yG_find (xw (Cond.code yG_find bG_find 3 (some .int))) ({ frames := 1, cells := 0, slots := 0, locals := 23 } : Room) [.ref (g), .long (co)] nx M (x_is (some (.int (oi (tFind (γ.2.2.2.1 γ.2.1) co)))) nx M) := by
  obtain ⟨⟨fT, h0, h4, hfT, hpr, hπ, hπi⟩, hRd, hTr, hNo, hLi, hFi⟩ := id hG
  have hpp := hπ γ.2.1 (by omega)
  obtain ⟨r0, r1, r2, r3, r4, r5⟩ := id hRd
  obtain ⟨n0, n1, n2, n3, n4, n5, n6⟩ := id hNo
  obtain ⟨k0, k1, k2, k3, k4, k5, k6⟩ := id hLi
  obtain ⟨f0, f1, f2, f3⟩ := id hFi
  refine yC (by decide) (Nat.le_of_ble_eq_true rfl) ?_
  intro p e s m args below meth c D F hr hn
  refine x_aload_n F 0 dG_find_0 rfl rfl ?_
  refine x_get (ci := 5) F 1 (x_in inG) rfl (by decide) (x_m kfG_18) dG_find_1 h0 rfl ?_
  refine x_aload_n F 0 dG_find_4 rfl rfl ?_
  refine x_get (ci := 5) F 6 (x_in inG) rfl (by decide) (x_m kfG_46) dG_find_5 h0 rfl ?_
  refine x_aald F dG_find_8 h4 (pk_in (γ.2.1) (3) (by omega)) ?_
  rw [nI_clamp (show γ.2.1 < 2 ^ 31 by omega), hfT _ (by omega)]
  show xW p l e ({ frames := 1, cells := 0, slots := 0, locals := 23 } : Room) s m args below meth c D xcl (x_A M nx) 3 (MQ below (x_Q D xcl (x_A M nx) (x_is (some (.int (oi (tFind (γ.2.2.2.1 γ.2.1) co)))) nx M)) args s 0 0 (x_A M nx)) 0 0 (nx) M 9 [(0, .ref (g)), (1, .long (co))] [.ref (g + 18 + 7 * γ.1 γ.2.1)]
  refine x_lload_n F 1 dG_find_9 rfl rfl ?_
  refine yV (n := 1) (As := [.long (co)]) (ci := 4) F kmG_115 kiT_rowOf ksT_rowOf knT kcT_rowOf (by decide +kernel) dG_find_10 (cT_rowOf l (nx) M (g + 18 + 7 * γ.1 γ.2.1) (γ.2.2.2.1 γ.2.1).1 (γ.2.2.2.1 γ.2.1).2.1 (γ.2.2.2.1 γ.2.1).2.2.1 (γ.2.2.2.1 γ.2.1).2.2.2.1 (γ.2.2.2.1 γ.2.1).2.2.2.2.1 (γ.2.2.2.1 γ.2.1).2.2.2.2.2.1 (γ.2.2.2.1 γ.2.1).2.2.2.2.2.2.1 (γ.2.2.2.1 γ.2.1).2.2.2.2.2.2.2 (hTr γ.2.1 (by omega)) (co)) rfl (hTr γ.2.1 (by omega)).1 rfl rfl (Nat.le_of_ble_eq_true rfl) ⟨Nat.le_of_ble_eq_true rfl, Nat.le_of_ble_eq_true rfl⟩ ⟨Nat.le_of_ble_eq_true rfl, Nat.le_of_ble_eq_true rfl⟩ ?_
  exact x_iret F hr dG_find_13 (x_is_i _ _ _)
set_option maxHeartbeats 4000000 in
set_option maxRecDepth 100000 in
theorem cG_hasCode (l : Launch) (nx : Nat) (M : xH) (g : Nat) (γ : gS) (hG : gIs M g γ) (k : Nat) (hk : k < 3) (co : Int64) : xC l xcl yG_hasCode (xw (Cond.code yG_hasCode bG_hasCode 4 (some .boolean))) ({ frames := 1, cells := 0, slots := 0, locals := 23 } : Room) [.ref (g), .int (nI (k)), .long (co)] nx M (x_is (some (.int (bI ((tFind (γ.2.2.2.1 k) co).isSome)))) nx M) := by
  obtain ⟨⟨fT, h0, h4, hfT, hpr, hπ, hπi⟩, hRd, hTr, hNo, hLi, hFi⟩ := id hG
  have hpp := hπ γ.2.1 (by omega)
  obtain ⟨r0, r1, r2, r3, r4, r5⟩ := id hRd
  obtain ⟨n0, n1, n2, n3, n4, n5, n6⟩ := id hNo
  obtain ⟨k0, k1, k2, k3, k4, k5, k6⟩ := id hLi
  obtain ⟨f0, f1, f2, f3⟩ := id hFi
  refine yC (by decide) (Nat.le_of_ble_eq_true rfl) ?_
  intro p e s m args below meth c D F hr hn
  refine x_iload_n F 1 dG_hasCode_0 rfl rfl ?_
  refine yS (n := 1) (As := [.int (nI (k))]) F kmG_85 ktG_isEdition knG kcG_isEdition (by decide +kernel) dG_hasCode_1 (cG_isEdition l (nx) M (k) (by omega)) rfl rfl (Nat.le_of_ble_eq_true rfl) ⟨Nat.le_of_ble_eq_true rfl, Nat.le_of_ble_eq_true rfl⟩ ⟨Nat.le_of_ble_eq_true rfl, Nat.le_of_ble_eq_true rfl⟩ ?_
  refine x_if_eq F (tgt := 25) dG_hasCode_4 (by decide) (fun c1 => ?_) (fun c1 => ?_)
  · skip
    have c1 : 1 = 0 := by
      exact (nI_eq (a := 1) (b := 0) (by omega) (by omega)).mp c1
    exact absurd c1 (by decide)
  · skip
    have c1 : 1 ≠ 0 := by
      have z : ¬ (1 = 0) := fun zz => c1 ((nI_eq (a := 1) (b := 0) (by omega) (by omega)).mpr zz)
      omega
    refine x_aload_n F 0 dG_hasCode_7 rfl rfl ?_
    refine x_get (ci := 5) F 1 (x_in inG) rfl (by decide) (x_m kfG_18) dG_hasCode_8 h0 rfl ?_
    refine x_iload_n F 1 dG_hasCode_11 rfl rfl ?_
    refine x_aald F dG_hasCode_12 h4 (pk_in (k) (3) (by omega)) ?_
    rw [nI_clamp (show k < 2 ^ 31 by omega), hfT _ (by omega)]
    show xW p l e ({ frames := 1, cells := 0, slots := 0, locals := 23 } : Room) s m args below meth c D xcl (x_A M nx) 4 (MQ below (x_Q D xcl (x_A M nx) (x_is (some (.int (bI ((tFind (γ.2.2.2.1 k) co).isSome)))) nx M)) args s 0 0 (x_A M nx)) 0 0 (nx) M 13 [(0, .ref (g)), (1, .int (nI (k))), (2, .long (co))] [.ref (g + 18 + 7 * γ.1 k)]
    refine x_lload_n F 2 dG_hasCode_13 rfl rfl ?_
    refine yV (n := 1) (As := [.long (co)]) (ci := 4) F kmG_115 kiT_rowOf ksT_rowOf knT kcT_rowOf (by decide +kernel) dG_hasCode_14 (cT_rowOf l (nx) M (g + 18 + 7 * γ.1 k) (γ.2.2.2.1 k).1 (γ.2.2.2.1 k).2.1 (γ.2.2.2.1 k).2.2.1 (γ.2.2.2.1 k).2.2.2.1 (γ.2.2.2.1 k).2.2.2.2.1 (γ.2.2.2.1 k).2.2.2.2.2.1 (γ.2.2.2.1 k).2.2.2.2.2.2.1 (γ.2.2.2.1 k).2.2.2.2.2.2.2 (hTr k (by omega)) (co)) rfl (hTr k (by omega)).1 rfl rfl (Nat.le_of_ble_eq_true rfl) ⟨Nat.le_of_ble_eq_true rfl, Nat.le_of_ble_eq_true rfl⟩ ⟨Nat.le_of_ble_eq_true rfl, Nat.le_of_ble_eq_true rfl⟩ ?_
    rcases o_cases (tFind (γ.2.2.2.1 k) co) with hrw | ⟨j, hrw⟩
    · skip
      refine xW.ste (st' := [.int ((-1))]) (by show ([.int (oi (tFind (γ.2.2.2.1 k) (co)))] : List Value) = _; rw [hrw]; rfl) ?_
      refine x_iconst F (v := (-1)) dG_hasCode_17 (by decide) ?_
      refine x_icmp_eq F (tgt := 25) dG_hasCode_18 (by decide) (fun c2 => ?_) (fun c2 => ?_)
      · skip
        refine x_iconst F (v := nI (0)) dG_hasCode_25 (by decide) ?_
        exact x_zret F hr (by rfl) dG_hasCode_26 (x_f (by rw [hrw]; rfl))
      · skip
        exact absurd rfl c2
    · skip
      have hj := tFind_lt (hTr _ (by omega)) hrw
      refine xW.ste (st' := [.int (nI (j))]) (by show ([.int (oi (tFind (γ.2.2.2.1 k) (co)))] : List Value) = _; rw [hrw]; rfl) ?_
      refine x_iconst F (v := (-1)) dG_hasCode_17 (by decide) ?_
      refine x_icmp_eq F (tgt := 25) dG_hasCode_18 (by decide) (fun c3 => ?_) (fun c3 => ?_)
      · skip
        exact absurd c3 (nI_m1 (by omega))
      · skip
        refine x_iconst F (v := nI (1)) dG_hasCode_21 (by decide) ?_
        refine x_goto F (tgt := 26) dG_hasCode_22 (by decide) ?_
        exact x_zret F hr (by rfl) dG_hasCode_26 (x_t (by rw [hrw]; rfl))
set_option maxHeartbeats 4000000 in
set_option maxRecDepth 100000 in
theorem cG_hasCodeN (l : Launch) (nx : Nat) (M : xH) (g : Nat) (γ : gS) (hG : gIs M g γ) (i : Int32) (hi : ¬ vp_in i 3) (co : Int64) : xC l xcl yG_hasCode (xw (Cond.code yG_hasCode bG_hasCode 4 (some .boolean))) ({ frames := 1, cells := 0, slots := 0, locals := 20 } : Room) [.ref (g), .int (i), .long (co)] nx M (x_is (some (.int (nI (0)))) nx M) := by
  obtain ⟨⟨fT, h0, h4, hfT, hpr, hπ, hπi⟩, hRd, hTr, hNo, hLi, hFi⟩ := id hG
  have hpp := hπ γ.2.1 (by omega)
  obtain ⟨r0, r1, r2, r3, r4, r5⟩ := id hRd
  obtain ⟨n0, n1, n2, n3, n4, n5, n6⟩ := id hNo
  obtain ⟨k0, k1, k2, k3, k4, k5, k6⟩ := id hLi
  obtain ⟨f0, f1, f2, f3⟩ := id hFi
  refine yC (by decide) (Nat.le_of_ble_eq_true rfl) ?_
  intro p e s m args below meth c D F hr hn
  refine x_iload_n F 1 dG_hasCode_0 rfl rfl ?_
  refine yS (n := 1) (As := [.int (i)]) F kmG_85 ktG_isEdition knG kcG_isEdition (by decide +kernel) dG_hasCode_1 (cG_isEditionN l (nx) M i hi) rfl rfl (Nat.le_of_ble_eq_true rfl) ⟨Nat.le_of_ble_eq_true rfl, Nat.le_of_ble_eq_true rfl⟩ ⟨Nat.le_of_ble_eq_true rfl, Nat.le_of_ble_eq_true rfl⟩ ?_
  refine x_if_eq F (tgt := 25) dG_hasCode_4 (by decide) (fun c1 => ?_) (fun c1 => ?_)
  · skip
    have c1 : 0 = 0 := by
      exact (nI_eq (a := 0) (b := 0) (by omega) (by omega)).mp c1
    refine x_iconst F (v := nI (0)) dG_hasCode_25 (by decide) ?_
    exact x_zret F hr (by rfl) dG_hasCode_26 (x_is_i _ _ _)
  · skip
    have c1 : 0 ≠ 0 := by
      have z : ¬ (0 = 0) := fun zz => c1 ((nI_eq (a := 0) (b := 0) (by omega) (by omega)).mpr zz)
      omega
    exact absurd c1 (by decide)
set_option maxHeartbeats 4000000 in
set_option maxRecDepth 100000 in
theorem cG_signF (l : Launch) (nx : Nat) (M : xH) (g : Nat) (γ : gS) (hG : gIs M g γ) (i : Int32) (hg : sgn (sml i) = true → γ.2.2.1.2.2.2.1 = 400) : xC l xcl yG_sign (xw (Cond.code yG_sign bG_sign 2 (some .boolean))) ({ frames := 3, cells := 0, slots := 0, locals := 62 } : Room) [.ref (g), .int (i)] nx M (x_is (some (.int (nI (0)))) nx M) := by
  obtain ⟨⟨fT, h0, h4, hfT, hpr, hπ, hπi⟩, hRd, hTr, hNo, hLi, hFi⟩ := id hG
  have hpp := hπ γ.2.1 (by omega)
  obtain ⟨r0, r1, r2, r3, r4, r5⟩ := id hRd
  obtain ⟨n0, n1, n2, n3, n4, n5, n6⟩ := id hNo
  obtain ⟨k0, k1, k2, k3, k4, k5, k6⟩ := id hLi
  obtain ⟨f0, f1, f2, f3⟩ := id hFi
  refine yC (by decide) (Nat.le_of_ble_eq_true rfl) ?_
  intro p e s m args below meth c D F hr hn
  refine x_aload_n F 0 dG_sign_0 rfl rfl ?_
  refine x_get (ci := 5) F 0 (x_in inG) rfl (by decide) (x_m kfG_10) dG_sign_1 h0 rfl ?_
  refine x_iload_n F 1 dG_sign_4 rfl rfl ?_
  refine yV (n := 1) (As := [.int (i)]) (ci := 3) F kmG_50 kiR_take ksR_take knR kcR_take (by decide +kernel) dG_sign_5 (cR_takeF l (nx) M (g + 1) (γ.2.2.1).1 (γ.2.2.1).2.1 (γ.2.2.1).2.2.1 (γ.2.2.1).2.2.2.1 (γ.2.2.1).2.2.2.2.1 (γ.2.2.1).2.2.2.2.2.1 (γ.2.2.1).2.2.2.2.2.2 hRd i hg) rfl r0 rfl rfl (Nat.le_of_ble_eq_true rfl) ⟨Nat.le_of_ble_eq_true rfl, Nat.le_of_ble_eq_true rfl⟩ ⟨Nat.le_of_ble_eq_true rfl, Nat.le_of_ble_eq_true rfl⟩ ?_
  exact x_zret F hr (by rfl) dG_sign_8 (x_is_i _ _ _)
end
section
/-! the atoms of a throw out of the table and of x_E -/
abbrev x_RE : List String := ["java/lang/RuntimeException", "java/lang/Exception"]
def x_sp : List Cond := [Cond.castable "java/lang/IllegalStateException" "java/lang/IllegalStateException", Cond.castable "java/lang/IndexOutOfBoundsException" "java/lang/IndexOutOfBoundsException", Cond.castable "java/lang/IllegalArgumentException" "java/lang/IllegalArgumentException",
  Cond.declares ⟨"java/lang/RuntimeException", "<init>", "(Ljava/lang/String;)V"⟩, Cond.declares ⟨"java/lang/Exception", "<init>", "(Ljava/lang/String;)V"⟩, Cond.declares ⟨"java/lang/Throwable", "<init>", "(Ljava/lang/String;)V"⟩]
def x_ok (a : Cond) : Bool := (decide (a ∈ tables_1) && goodWord a) || decide (a ∈ x_sp) || decide (a ∈ [Cond.laysStatic x_TN "UNASSIGNED_STACK" x_UD, Cond.laysStatic x_TN "SUPPRESSED_SENTINEL" x_LD, Cond.isRef (.static x_TN "UNASSIGNED_STACK" x_UD), Cond.isRef (.static x_TN "SUPPRESSED_SENTINEL" x_LD)])
theorem x_ok1 : (Bundle.ownAtoms "GoodsTree" 66 "java/lang/IllegalStateException" x_RE).all x_ok = true := by decide +kernel
theorem x_ok2 : (Bundle.ownAtoms "GoodsTree" 95 "java/lang/IndexOutOfBoundsException" x_RE).all x_ok = true := by decide +kernel
theorem x_ok3 : (Bundle.ownAtoms "GoodsTree" 127 "java/lang/IllegalArgumentException" x_RE).all x_ok = true := by decide +kernel
theorem x_hat {c0 : Cond} {ic : Nat} {X : String} (hX : (Bundle.ownAtoms "GoodsTree" ic X x_RE).all x_ok = true) (A : Nat → Prop) (args : Array Value) (U : State) (hE : x_E A U U.heap) (hT : ∀ w ∈ xw c0, w.before args U = true) : ∀ a ∈ Bundle.ownAtoms "GoodsTree" ic X x_RE, a.before args U = true := by
  intro a ha
  have h := List.all_eq_true.mp hX a ha
  unfold x_ok at h
  rw [Bool.or_eq_true, Bool.or_eq_true, Bool.and_eq_true, decide_eq_true_eq, decide_eq_true_eq, decide_eq_true_eq] at h
  rcases h with (⟨h1, h2⟩ | h) | h
  · exact hT a (x_m (xT_of (List.mem_append_right _ h1) h2))
  · obtain ⟨⟨-, -, -, e1, e2, e3, -, e4, -, e5, -, e6⟩, -⟩ := hE
    simp only [x_sp, List.mem_cons, List.not_mem_nil, or_false] at h
    rcases h with rfl | rfl | rfl | rfl | rfl | rfl
    · exact va_Nw.use rfl e1
    · exact va_Nw.use rfl e2
    · exact va_Nw.use rfl e3
    · exact va_Nw.use rfl e4
    · exact va_Nw.use rfl e5
    · exact va_Nw.use rfl e6
  · obtain ⟨-, -, -, z1, z2⟩ := hE
    simp only [List.mem_cons, List.not_mem_nil, or_false] at h
    rcases h with rfl | rfl | rfl | rfl
    · exact z1.lays args
    · exact z2.lays args
    · exact z1.isRef args
    · exact z2.isRef args
theorem xw_good {c1 : Cond} (h : c1 ∈ xT) : ∀ w ∈ xw c1, (w.onTables && w.keeps) = true ∨ ∃ ty, w = .arrayClass ty := fun w hw => by
  rcases List.mem_cons.mp hw with rfl | hw
  · exact xT_good h
  · exact xT_good hw
/-- the flags under which nothing is traced -/
abbrev x_fl (l : Launch) : Prop := l.flags = pinnedFlags ++ [noTraceFlag]
section XTH
variable {p : Program} {l : Launch} {e : Env} {R : Room} {s : State} {m : MethodId} {args : Array Value} {below : List Frame} {meth : Method} {c : Code} {D : va_G} {A : Nat → Prop} {nL : Nat} {cells slots nx : Nat} {M : xH} {pc : Nat} {lv : List (Nat × Value)} {st : List Value}
variable {cc : ByteArray} {c0 : Cond}
/-- 'throw new X("..")' in GoodsTree -/
theorem yT {post : Nat → xH → Prop} {rc rs ia ib ic : Nat} {X tx : String} (F : xF p s m args meth c D xcl A cc nL "GoodsTree" (xw c0)) (hfl : x_fl l) (hex : c.exceptionTable.isEmpty = true) (hX : (Bundle.ownAtoms "GoodsTree" ic X x_RE).all x_ok = true) (hcl : Cond.classLink "GoodsTree" ia X ∈ xT) (hins : Cond.instantiable X 6 ∈ xT) (hini : Cond.initialized X ∈ xT) (h0 : c0 ∈ xT) (hS : (ib, tx) ∈ x_St) (hfit : Bundle.fit X = true)
    (d0 : decode cc pc = .ok (.new ia, 3)) (d3 : decode cc (pc + 3) = .ok (.dup, 1)) (d4 : decode cc (pc + 3 + 1) = .ok (.ldc ib, 2)) (d6 : decode cc (pc + 3 + 1 + 2) = .ok (.invokespecial ic, 3)) (d9 : decode cc (pc + 3 + 1 + 2 + 3) = .ok (.athrow, 1))
    (hc : cells + 1 ≤ R.cells) (hsl : slots + 6 ≤ R.slots) (hfr : 6 ≤ R.frames) (hlo : ((st.map fun v => v.category).sum + 1) + 81 ≤ R.locals) (hrc : cells + 1 ≤ rc) (hrs : slots + 6 ≤ rs) (hp : ∀ n', nx ≤ n' → post n' M) :
    xW p l e R s m args below meth c D xcl A nL (x_MQT below D xcl A X post s rc rs) cells slots nx M pc lv st :=
  x_throw F rfl hfl hex (x_m hcl) (x_m hins) (x_m hini) (xw_good h0) (F.2.2.2.2.2.2.1 (ib, tx) hS) (fun args' U hE hT => x_hat hX A args' U hE hT) hfit (by decide) d0 d3 d4 d6 d9 hc hsl hfr hlo hrc hrs hp
theorem yVT (F : xF p s m args meth c D xcl A cc nL "GoodsTree" (xw c0)) {y : MethodName} {bytes : ByteArray} {maxL index : Nat} {ret : Option FieldType} {rm : Room} {n : Nat} {As stk : List Value} {post0 post : Nat → xH → Prop} {C : String} {T : u_T} {N ci a : Nat} {fs : List Value} {E : String} {rc rs : Nat} (hli : Cond.methodLink "GoodsTree" index y ∈ xT) (him : Cond.instanceMethod y ∈ xT) (hse : Cond.selects C y y ∈ xT) (hini : Cond.initialized C ∈ xT) (hco : Cond.code y bytes maxL ret ∈ xT) (hd : y.cls = C ∧ y.cls ≠ "java/lang/invoke/MethodHandle" ∧ y.cls ≠ "java/lang/invoke/VarHandle" ∧ (parseMethodDescriptor y.desc).map (fun d => d.parameters.length) = some n) (hdg : decode cc pc = .ok (.invokevirtual index, 3)) (hM : xT_ l xcl y (xw (Cond.code y bytes maxL ret)) rm (.ref a :: As) nx M E post0) (hc : xcl[ci]? = some (C, T, N)) (he : M a = some (.inr (ci, fs))) (hn : As.length = n) (hstk : stk = As.reverse ++ .ref a :: st) (hst8 : (st.map fun v => v.category).sum ≤ 8) (hRm : rm.frames + 1 ≤ R.frames ∧ 8 + (maxL + 11) + rm.locals ≤ R.locals) (hf : cells + rm.cells ≤ R.cells ∧ slots + rm.slots ≤ R.slots) (hex : c.exceptionTable.isEmpty = true) (hrc : cells + rm.cells ≤ rc) (hrs : slots + rm.slots ≤ rs) (hp : ∀ n' M', post0 n' M' → post n' M') :
    xW p l e R s m args below meth c D xcl A nL (x_MQT below D xcl A E post s rc rs) cells slots nx M pc lv stk :=
  x_invVT F (x_gV hli him hse hini hco) rfl hd hc hdg hRm hM he hn hstk hst8 hf hex hrc hrs hp
theorem yST (F : xF p s m args meth c D xcl A cc nL "GoodsTree" (xw c0)) {y : MethodName} {bytes : ByteArray} {maxL index : Nat} {ret : Option FieldType} {rm : Room} {n : Nat} {As stk : List Value} {post0 post : Nat → xH → Prop} {E : String} {rc rs : Nat} (hy : y.cls = "GoodsTree") (hli : Cond.methodLink "GoodsTree" index y ∈ xT) (hst : Cond.static y ∈ xT) (hini : Cond.initialized "GoodsTree" ∈ xT) (hco : Cond.code y bytes maxL ret ∈ xT) (hd : y.cls = "GoodsTree" ∧ y.cls ≠ "java/lang/invoke/MethodHandle" ∧ y.cls ≠ "java/lang/invoke/VarHandle" ∧ (parseMethodDescriptor y.desc).map (fun d => d.parameters.length) = some n) (hdg : decode cc pc = .ok (.invokestatic index, 3)) (hM : xT_ l xcl y (xw (Cond.code y bytes maxL ret)) rm As nx M E post0) (hn : As.length = n) (hstk : stk = As.reverse ++ st) (hst8 : (st.map fun v => v.category).sum ≤ 8) (hRm : rm.frames + 1 ≤ R.frames ∧ 8 + (maxL + 11) + rm.locals ≤ R.locals) (hf : cells + rm.cells ≤ R.cells ∧ slots + rm.slots ≤ R.slots) (hex : c.exceptionTable.isEmpty = true) (hrc : cells + rm.cells ≤ rc) (hrs : slots + rm.slots ≤ rs) (hp : ∀ n' M', post0 n' M' → post n' M') :
    xW p l e R s m args below meth c D xcl A nL (x_MQT below D xcl A E post s rc rs) cells slots nx M pc lv stk := by
  refine x_invST F ?_ rfl hd hdg hRm hM hn hstk hst8 hf hex hrc hrs hp
  intro w hw
  unfold wsS at hw
  rcases List.mem_append.mp hw with hw | hw
  · simp only [List.mem_cons, List.not_mem_nil, or_false] at hw
    rcases hw with rfl | rfl | rfl
    all_goals first | exact ⟨x_m hli, xT_good hli⟩ | exact ⟨x_m hst, xT_good hst⟩ | exact ⟨x_m (by rw [hy]; exact hini), xT_good (by rw [hy]; exact hini)⟩ | exact ⟨x_m hini, xT_good hini⟩
  · exact x_good hco w hw
end XTH
theorem yCT {l : Launch} {y : MethodName} {rm : Room} {As : List Value} {nx : Nat} {M : xH} {E : String} {post : Nat → xH → Prop} {cc : ByteArray} {maxL : Nat} {ret : Option FieldType} (hy : plainName y.cls = true) (hlen : (lg_sl As).length ≤ maxL)
    (body : ∀ (p : Program) (e : Env) (s : State) (m : MethodId) (args : Array Value) (below : List Frame) (meth : Method) (c : Code) (D : va_G), xF p s m args meth c D xcl (x_A M nx) cc maxL y.cls (xw (Cond.code y cc maxL ret)) → meth.sig.returnType = ret → c.exceptionTable.isEmpty = true →
      xW p l e rm s m args below meth c D xcl (x_A M nx) maxL (x_MQT below D xcl (x_A M nx) E post s rm.cells rm.slots) 0 0 nx M 0 (lv_args 0 As) []) : xT_ l xcl y (xw (Cond.code y cc maxL ret)) rm As nx M E post := xT_.of hy rfl hlen body
end
section
/-! an edition's number; a code of an edition; two editions -/
def inE (e : Int32) : Bool := (! decide (e < 0)) && (! decide (nI 3 ≤ e))
theorem inE_n {e : Int32} (h : inE e = true) : ∃ k, k < 3 ∧ e = nI k := by
  simp only [inE, Bool.and_eq_true, Bool.not_eq_true', decide_eq_false_iff_not] at h
  rcases pk_ix e (n := 3) (by decide) with q | q | ⟨j, hj, rfl⟩
  · exact absurd q h.1
  · exact absurd q h.2
  · exact ⟨j, hj, rfl⟩
theorem inE_k {k : Nat} (h : k < 3) : inE (nI k) = true := by
  rcases k with _ | _ | _ | k
  · decide
  · decide
  · decide
  · omega
def gHas (γ : gS) (e : Int32) (co : Int64) : Bool := inE e && (tFind (γ.2.2.2.1 e.toNatClampNeg) co).isSome
theorem gHas_n (γ : gS) {k : Nat} (h : k < 3) (co : Int64) : gHas γ (nI k) co = (tFind (γ.2.2.2.1 k) co).isSome := by
  rw [gHas, inE_k h, nI_clamp (by omega)]; rfl
theorem gHas_f {γ : gS} {e : Int32} {co : Int64} (h : inE e = false) : gHas γ e co = false := by rw [gHas, h]; rfl
def edOk (a b : Int32) : Bool := inE a && (inE b && ! decide (a = b))
def gPost (v : Option Value) (nx : Nat) (M : xH) (g : Nat) (γ : gS) : xO → Nat → xH → Prop := fun r n' M' => r = v ∧ n' = nx ∧ gIs M' g γ ∧ ∀ b, (b < g ∨ g + 45 < b) → M' b = M b
def gPostT (nx : Nat) (M : xH) (g : Nat) (γ : gS) : Nat → xH → Prop := fun n' M' => nx ≤ n' ∧ gIs M' g γ ∧ ∀ b, (b < g ∨ g + 45 < b) → M' b = M b
theorem gFix {nx : Nat} {M : xH} {n' : Nat} (h : nx ≤ n') : (fun (n' : Nat) (M' : xH) => nx ≤ n' ∧ M' = M) n' M := ⟨h, rfl⟩
/-- nothing is changed but how many cells there are -/
def kPost (nx : Nat) (M : xH) : Nat → xH → Prop := fun n' M' => nx ≤ n' ∧ M' = M
/-- a pair of these -/
def pHas (σ : pS) (e : Int32) (co : Int64) (mm : Int32) (oo : Int64) : Bool := (fi (fun j => decide (σ.2.2.2.1 j = oo) && pMt σ.1 σ.2.1 σ.2.2.1 e co mm j) σ.2.2.2.2 0).isSome
def lkOk (γ : gS) (a : Int32) (co : Int64) (b : Int32) (oo : Int64) : Bool := (! decide (a = b)) && (gHas γ a co && (gHas γ b oo && ((! decide (60 ≤ γ.2.2.2.2.2.1.2.2.2.2)) && ! pHas γ.2.2.2.2.2.1 a co b oo)))
def ntA (γ : gS) (co : Int64) (kd : Int32) (oo : Int64) : Bool := (! (gHas γ (nI γ.2.1) co && gHas γ (nI γ.2.1) oo)) || (decide (co = oo) || ((! decide (kd = nI 0)) && ! decide (kd = nI 1)))
def ntS (γ : gS) (co : Int64) (kd : Int32) (oo : Int64) : Bool := decide (20 ≤ γ.2.2.2.2.1.2.2.2.2) || pHas γ.2.2.2.2.1 (nI γ.2.1) co kd oo
def gLk (γ : gS) (σ : pS) : gS := (γ.1, γ.2.1, γ.2.2.1, γ.2.2.2.1, γ.2.2.2.2.1, σ, γ.2.2.2.2.2.2)
def gNt (γ : gS) (σ : pS) : gS := (γ.1, γ.2.1, γ.2.2.1, γ.2.2.2.1, σ, γ.2.2.2.2.2)
def gRd (γ : gS) (ρ : rS) : gS := (γ.1, γ.2.1, ρ, γ.2.2.2)
def gPr (γ : gS) (k : Nat) : gS := (γ.1, k, γ.2.2)
def gFn (γ : gS) (φ : fS) : gS := (γ.1, γ.2.1, γ.2.2.1, γ.2.2.2.1, γ.2.2.2.2.1, γ.2.2.2.2.2.1, φ)
theorem toInt_in {x : Int32} {n : Nat} (hn : n < 2 ^ 31) (h : ¬ vp_in x n) {lo hi : Int} (hl : lo = 0) (hh : hi = (n : Int) - 1) : x.toInt < lo ∨ hi < x.toInt := by
  rw [vp_in_iff] at h
  omega
/-- what a code was noted with, the i-th -/
def ndd (γ : gS) (co : Int64) (i : Int32) : Int32 := match nt (pMt γ.2.2.2.2.1.1 γ.2.2.2.2.1.2.1 γ.2.2.2.2.1.2.2.1 (nI γ.2.1) co (-1)) i γ.2.2.2.2.1.2.2.2.2 0 0 with
  | none => -1
  | some j => nI 2 * oi (tFind (γ.2.2.2.1 γ.2.1) (γ.2.2.2.2.1.2.2.2.1 j)) + γ.2.2.2.2.1.2.2.1 j
def lkd (γ : gS) (a : Int32) (co : Int64) (b i : Int32) : Int64 := match nt (pMt γ.2.2.2.2.2.1.1 γ.2.2.2.2.2.1.2.1 γ.2.2.2.2.2.1.2.2.1 a co b) i γ.2.2.2.2.2.1.2.2.2.2 0 0 with
  | none => 0
  | some j => γ.2.2.2.2.2.1.2.2.2.1 j
set_option maxHeartbeats 4000000 in
set_option maxRecDepth 100000 in
theorem cG_isEd (l : Launch) (nx : Nat) (M : xH) (e0 : Int32) : xC l xcl yG_isEdition (xw (Cond.code yG_isEdition bG_isEdition 1 (some .boolean))) ({ frames := 0, cells := 0, slots := 0, locals := 0 } : Room) [.int (e0)] nx M (x_is (some (.int (bI (inE e0)))) nx M) := by
  refine yC (by decide) (Nat.le_of_ble_eq_true rfl) ?_
  intro p e s m args below meth c D F hr hn
  refine x_iload_n F 0 dG_isEdition_0 rfl rfl ?_
  refine x_if_lt F (tgt := 13) dG_isEdition_1 (by decide) (fun c1 => ?_) (fun c1 => ?_)
  · skip
    refine x_iconst F (v := nI (0)) dG_isEdition_13 (by decide) ?_
    exact x_zret F hr (by rfl) dG_isEdition_14 (x_f (by simp [inE, c1]))
  · skip
    refine x_iload_n F 0 dG_isEdition_4 rfl rfl ?_
    refine x_iconst F (v := nI (3)) dG_isEdition_5 (by decide) ?_
    refine x_icmp_ge F (tgt := 13) dG_isEdition_6 (by decide) (fun c2 => ?_) (fun c2 => ?_)
    · skip
      refine x_iconst F (v := nI (0)) dG_isEdition_13 (by decide) ?_
      exact x_zret F hr (by rfl) dG_isEdition_14 (x_f (by simp [inE, c2]))
    · skip
      refine x_iconst F (v := nI (1)) dG_isEdition_9 (by decide) ?_
      refine x_goto F (tgt := 14) dG_isEdition_10 (by decide) ?_
      exact x_zret F hr (by rfl) dG_isEdition_14 (x_t (by simp [inE, c1, c2]))
set_option maxHeartbeats 4000000 in
set_option maxRecDepth 100000 in
theorem cG_hasC (l : Launch) (nx : Nat) (M : xH) (g : Nat) (γ : gS) (hG : gIs M g γ) (e0 : Int32) (co : Int64) : xC l xcl yG_hasCode (xw (Cond.code yG_hasCode bG_hasCode 4 (some .boolean))) ({ frames := 1, cells := 0, slots := 0, locals := 23 } : Room) [.ref (g), .int (e0), .long (co)] nx M (x_is (some (.int (bI (gHas γ e0 co)))) nx M) := by
  obtain ⟨⟨fT, h0, h4, hfT, hpr, hπ, hπi⟩, hRd, hTr, hNo, hLi, hFi⟩ := id hG
  have hpp := hπ γ.2.1 (by omega)
  refine yC (by decide) (Nat.le_of_ble_eq_true rfl) ?_
  intro p e s m args below meth c D F hr hn
  refine x_iload_n F 1 dG_hasCode_0 rfl rfl ?_
  refine yS (n := 1) (As := [.int (e0)]) F kmG_85 ktG_isEdition knG kcG_isEdition (by decide +kernel) dG_hasCode_1 (cG_isEd l (nx) M (e0)) rfl rfl (Nat.le_of_ble_eq_true rfl) ⟨Nat.le_of_ble_eq_true rfl, Nat.le_of_ble_eq_true rfl⟩ ⟨Nat.le_of_ble_eq_true rfl, Nat.le_of_ble_eq_true rfl⟩ ?_
  refine x_if_eq F (tgt := 25) dG_hasCode_4 (by decide) (fun c1 => ?_) (fun c1 => ?_)
  · skip
    have c1 : (inE (e0)) = false := bI_0 c1
    refine x_iconst F (v := nI (0)) dG_hasCode_25 (by decide) ?_
    exact x_zret F hr (by rfl) dG_hasCode_26 (x_f (gHas_f c1))
  · skip
    have c1 : (inE (e0)) = true := bI_1 c1
    obtain ⟨k, hk, rfl⟩ := inE_n c1
    refine x_aload_n F 0 dG_hasCode_7 rfl rfl ?_
    refine x_get (ci := 5) F 1 (x_in inG) rfl (by decide) (x_m kfG_18) dG_hasCode_8 h0 rfl ?_
    refine x_iload_n F 1 dG_hasCode_11 rfl rfl ?_
    refine x_aald F dG_hasCode_12 h4 (pk_in (k) (3) (by omega)) ?_
    rw [nI_clamp (show k < 2 ^ 31 by omega), hfT _ (by omega)]
    show xW p l e ({ frames := 1, cells := 0, slots := 0, locals := 23 } : Room) s m args below meth c D xcl (x_A M nx) 4 (MQ below (x_Q D xcl (x_A M nx) (x_is (some (.int (bI (gHas γ (nI k) co)))) nx M)) args s 0 0 (x_A M nx)) 0 0 (nx) M 13 [(0, .ref (g)), (1, .int (nI (k))), (2, .long (co))] [.ref (g + 18 + 7 * γ.1 k)]
    refine x_lload_n F 2 dG_hasCode_13 rfl rfl ?_
    refine yV (n := 1) (As := [.long (co)]) (ci := 4) F kmG_115 kiT_rowOf ksT_rowOf knT kcT_rowOf (by decide +kernel) dG_hasCode_14 (cT_rowOf l (nx) M (g + 18 + 7 * γ.1 k) (γ.2.2.2.1 k).1 (γ.2.2.2.1 k).2.1 (γ.2.2.2.1 k).2.2.1 (γ.2.2.2.1 k).2.2.2.1 (γ.2.2.2.1 k).2.2.2.2.1 (γ.2.2.2.1 k).2.2.2.2.2.1 (γ.2.2.2.1 k).2.2.2.2.2.2.1 (γ.2.2.2.1 k).2.2.2.2.2.2.2 (hTr k (by omega)) (co)) rfl (hTr k (by omega)).1 rfl rfl (Nat.le_of_ble_eq_true rfl) ⟨Nat.le_of_ble_eq_true rfl, Nat.le_of_ble_eq_true rfl⟩ ⟨Nat.le_of_ble_eq_true rfl, Nat.le_of_ble_eq_true rfl⟩ ?_
    rcases o_cases (tFind (γ.2.2.2.1 k) co) with hrw | ⟨j, hrw⟩
    · skip
      refine xW.ste (st' := [.int ((-1))]) (by show ([.int (oi (tFind (γ.2.2.2.1 k) (co)))] : List Value) = _; rw [hrw]; rfl) ?_
      refine x_iconst F (v := (-1)) dG_hasCode_17 (by decide) ?_
      refine x_icmp_eq F (tgt := 25) dG_hasCode_18 (by decide) (fun c2 => ?_) (fun c2 => ?_)
      · skip
        refine x_iconst F (v := nI (0)) dG_hasCode_25 (by decide) ?_
        exact x_zret F hr (by rfl) dG_hasCode_26 (x_f (by rw [gHas_n γ hk, hrw]; rfl))
      · skip
        exact absurd rfl c2
    · skip
      have hj := tFind_lt (hTr _ (by omega)) hrw
      refine xW.ste (st' := [.int (nI (j))]) (by show ([.int (oi (tFind (γ.2.2.2.1 k) (co)))] : List Value) = _; rw [hrw]; rfl) ?_
      refine x_iconst F (v := (-1)) dG_hasCode_17 (by decide) ?_
      refine x_icmp_eq F (tgt := 25) dG_hasCode_18 (by decide) (fun c3 => ?_) (fun c3 => ?_)
      · skip
        exact absurd c3 (nI_m1 (by omega))
      · skip
        refine x_iconst F (v := nI (1)) dG_hasCode_21 (by decide) ?_
        refine x_goto F (tgt := 26) dG_hasCode_22 (by decide) ?_
        exact x_zret F hr (by rfl) dG_hasCode_26 (x_t (by rw [gHas_n γ hk, hrw]; rfl))
set_option maxHeartbeats 4000000 in
set_option maxRecDepth 100000 in
theorem cG_editionF (l : Launch) (nx : Nat) (M : xH) (g : Nat) (γ : gS) (hG : gIs M g γ) (i : Int32) (hi : inE i = false ∨ i = nI γ.2.1) : xC l xcl yG_edition (xw (Cond.code yG_edition bG_edition 2 (some .boolean))) ({ frames := 1, cells := 0, slots := 0, locals := 20 } : Room) [.ref (g), .int (i)] nx M (x_is (some (.int (nI (0)))) nx M) := by
  obtain ⟨⟨fT, h0, h4, hfT, hpr, hπ, hπi⟩, hRd, hTr, hNo, hLi, hFi⟩ := id hG
  have hpp := hπ γ.2.1 (by omega)
  refine yC (by decide) (Nat.le_of_ble_eq_true rfl) ?_
  intro p e s m args below meth c D F hr hn
  refine x_iload_n F 1 dG_edition_0 rfl rfl ?_
  refine yS (n := 1) (As := [.int (i)]) F kmG_85 ktG_isEdition knG kcG_isEdition (by decide +kernel) dG_edition_1 (cG_isEd l (nx) M (i)) rfl rfl (Nat.le_of_ble_eq_true rfl) ⟨Nat.le_of_ble_eq_true rfl, Nat.le_of_ble_eq_true rfl⟩ ⟨Nat.le_of_ble_eq_true rfl, Nat.le_of_ble_eq_true rfl⟩ ?_
  refine x_if_eq F (tgt := 15) dG_edition_4 (by decide) (fun c1 => ?_) (fun c1 => ?_)
  · skip
    have c1 : (inE (i)) = false := bI_0 c1
    refine x_iconst F (v := nI (0)) dG_edition_15 (by decide) ?_
    exact x_zret F hr (by rfl) dG_edition_16 (x_is_i _ _ _)
  · skip
    have c1 : (inE (i)) = true := bI_1 c1
    refine x_iload_n F 1 dG_edition_7 rfl rfl ?_
    refine x_aload_n F 0 dG_edition_8 rfl rfl ?_
    refine x_get (ci := 5) F 6 (x_in inG) rfl (by decide) (x_m kfG_46) dG_edition_9 h0 rfl ?_
    refine x_icmp_ne F (tgt := 17) dG_edition_12 (by decide) (fun c2 => ?_) (fun c2 => ?_)
    · skip
      rcases hi with z | z
      · rw [c1] at z; cases z
      · exact absurd z c2
    · skip
      refine x_iconst F (v := nI (0)) dG_edition_15 (by decide) ?_
      exact x_zret F hr (by rfl) dG_edition_16 (x_is_i _ _ _)
set_option maxHeartbeats 4000000 in
set_option maxRecDepth 100000 in
theorem cG_editionT (l : Launch) (nx : Nat) (M : xH) (g : Nat) (γ : gS) (hG : gIs M g γ) (k : Nat) (hk : k < 3) (hne : k ≠ γ.2.1) : xC l xcl yG_edition (xw (Cond.code yG_edition bG_edition 2 (some .boolean))) ({ frames := 1, cells := 0, slots := 0, locals := 20 } : Room) [.ref (g), .int (nI (k))] nx M (gPost (some (.int (nI 1))) nx M g (gPr γ k)) := by
  obtain ⟨⟨fT, h0, h4, hfT, hpr, hπ, hπi⟩, hRd, hTr, hNo, hLi, hFi⟩ := id hG
  have hpp := hπ γ.2.1 (by omega)
  refine yC (by decide) (Nat.le_of_ble_eq_true rfl) ?_
  intro p e s m args below meth c D F hr hn
  refine x_iload_n F 1 dG_edition_0 rfl rfl ?_
  refine yS (n := 1) (As := [.int (nI (k))]) F kmG_85 ktG_isEdition knG kcG_isEdition (by decide +kernel) dG_edition_1 (cG_isEd l (nx) M (nI (k))) rfl rfl (Nat.le_of_ble_eq_true rfl) ⟨Nat.le_of_ble_eq_true rfl, Nat.le_of_ble_eq_true rfl⟩ ⟨Nat.le_of_ble_eq_true rfl, Nat.le_of_ble_eq_true rfl⟩ ?_
  refine x_if_eq F (tgt := 15) dG_edition_4 (by decide) (fun c1 => ?_) (fun c1 => ?_)
  · skip
    have c1 : (inE (nI (k))) = false := bI_0 c1
    rw [inE_k hk] at c1
    cases c1
  · skip
    have c1 : (inE (nI (k))) = true := bI_1 c1
    refine x_iload_n F 1 dG_edition_7 rfl rfl ?_
    refine x_aload_n F 0 dG_edition_8 rfl rfl ?_
    refine x_get (ci := 5) F 6 (x_in inG) rfl (by decide) (x_m kfG_46) dG_edition_9 h0 rfl ?_
    refine x_icmp_ne F (tgt := 17) dG_edition_12 (by decide) (fun c2 => ?_) (fun c2 => ?_)
    · skip
      have c2 : k ≠ γ.2.1 := by
        have z : ¬ (k = γ.2.1) := fun zz => c2 ((nI_eq (a := k) (b := γ.2.1) (by omega) (by omega)).mpr zz)
        omega
      refine x_aload_n F 0 dG_edition_17 rfl rfl ?_
      refine x_iload_n F 1 dG_edition_18 rfl rfl ?_
      refine x_put (ci := 5) (ty := .int) F 6 (x_in inG) tG tG_ok nG rfl (by decide) (x_m kfG_46) dG_edition_19 rfl (by decide +kernel) rfl rfl h0 (Nat.le_of_ble_eq_true rfl) ?_
      show xW p l e ({ frames := 1, cells := 0, slots := 0, locals := 20 } : Room) s m args below meth c D xcl (x_A M nx) 2 (MQ below (x_Q D xcl (x_A M nx) (gPost (some (.int (nI 1))) nx M g (gPr γ k))) args s 0 0 (x_A M nx)) 0 0 (nx) (x_up M (g) (.inr (5, [.ref (g + 1), .ref (g + 4), .ref (g + 5), .ref (g + 10), .ref (g + 15), .ref (g + 18 + 7 * γ.1 3), .int (nI (k))]))) 22 [(0, .ref (g)), (1, .int (nI (k)))] []
      refine x_iconst F (v := nI (1)) dG_edition_22 (by decide) ?_
      exact x_zret F hr (by rfl) dG_edition_23 (⟨rfl, rfl, ⟨⟨fT, x_up_s, (x_up_k h4 (by omega)), hfT, hk, hπ, hπi⟩, (rAt_fr hRd (fun b _ _ => x_up_n (by omega))), (fun i hi => tAt_fr (hTr i hi) (fun b hb hb2 =>  (x_up_n (by omega)).trans (rfl))), (pAt_fr hNo (fun b _ _ => x_up_n (by omega))), (pAt_fr hLi (fun b _ _ => x_up_n (by omega))), (fAt_fr hFi (fun b _ _ => x_up_n (by omega)))⟩, fun b hb => (x_up_n (by omega)).trans (rfl)⟩)
    · skip
      have c2 : k = γ.2.1 := by
        exact (nI_eq (a := k) (b := γ.2.1) (by omega) (by omega)).mp c2
      exact absurd c2 (by omega)
set_option maxHeartbeats 4000000 in
set_option maxRecDepth 100000 in
theorem cG_fail0 (l : Launch) (nx : Nat) (M : xH) (g : Nat) (γ : gS) (hG : gIs M g γ) : xC l xcl yG_failure (xw (Cond.code yG_failure bG_failure 2 (some .int))) ({ frames := 1, cells := 0, slots := 0, locals := 20 } : Room) [.ref (g), .int (nI (0))] nx M (x_is (some (.int ((γ.2.2.1).2.2.2.2.2.1))) nx M) := by
  obtain ⟨⟨fT, h0, h4, hfT, hpr, hπ, hπi⟩, hRd, hTr, hNo, hLi, hFi⟩ := id hG
  have hpp := hπ γ.2.1 (by omega)
  refine yC (by decide) (Nat.le_of_ble_eq_true rfl) ?_
  intro p e s m args below meth c D F hr hn
  refine x_iload_n F 1 dG_failure_0 rfl rfl ?_
  refine x_lookup F (tgt := 28) dG_failure_1 (by decide) (by rfl) (by decide) ?_
  refine x_aload_n F 0 dG_failure_28 rfl rfl ?_
  refine x_get (ci := 5) F 0 (x_in inG) rfl (by decide) (x_m kfG_10) dG_failure_29 h0 rfl ?_
  refine yV (n := 0) (As := []) (ci := 3) F kmG_79 kiR_failureKind ksR_failureKind knR kcR_failureKind (by decide +kernel) dG_failure_32 (cR_failureKind l (nx) M (g + 1) (γ.2.2.1).1 (γ.2.2.1).2.1 (γ.2.2.1).2.2.1 (γ.2.2.1).2.2.2.1 (γ.2.2.1).2.2.2.2.1 (γ.2.2.1).2.2.2.2.2.1 (γ.2.2.1).2.2.2.2.2.2 hRd ) rfl hRd.1 rfl rfl (Nat.le_of_ble_eq_true rfl) ⟨Nat.le_of_ble_eq_true rfl, Nat.le_of_ble_eq_true rfl⟩ ⟨Nat.le_of_ble_eq_true rfl, Nat.le_of_ble_eq_true rfl⟩ ?_
  exact x_iret F hr dG_failure_35 (x_is_i _ _ _)
set_option maxHeartbeats 4000000 in
set_option maxRecDepth 100000 in
theorem cG_fail1 (l : Launch) (nx : Nat) (M : xH) (g : Nat) (γ : gS) (hG : gIs M g γ) : xC l xcl yG_failure (xw (Cond.code yG_failure bG_failure 2 (some .int))) ({ frames := 1, cells := 0, slots := 0, locals := 20 } : Room) [.ref (g), .int (nI (1))] nx M (x_is (some (.int ((γ.2.2.1).2.2.2.2.2.2))) nx M) := by
  obtain ⟨⟨fT, h0, h4, hfT, hpr, hπ, hπi⟩, hRd, hTr, hNo, hLi, hFi⟩ := id hG
  have hpp := hπ γ.2.1 (by omega)
  refine yC (by decide) (Nat.le_of_ble_eq_true rfl) ?_
  intro p e s m args below meth c D F hr hn
  refine x_iload_n F 1 dG_failure_0 rfl rfl ?_
  refine x_lookup F (tgt := 36) dG_failure_1 (by decide) (by rfl) (by decide) ?_
  refine x_aload_n F 0 dG_failure_36 rfl rfl ?_
  refine x_get (ci := 5) F 0 (x_in inG) rfl (by decide) (x_m kfG_10) dG_failure_37 h0 rfl ?_
  refine yV (n := 0) (As := []) (ci := 3) F kmG_82 kiR_failurePlace ksR_failurePlace knR kcR_failurePlace (by decide +kernel) dG_failure_40 (cR_failurePlace l (nx) M (g + 1) (γ.2.2.1).1 (γ.2.2.1).2.1 (γ.2.2.1).2.2.1 (γ.2.2.1).2.2.2.1 (γ.2.2.1).2.2.2.2.1 (γ.2.2.1).2.2.2.2.2.1 (γ.2.2.1).2.2.2.2.2.2 hRd ) rfl hRd.1 rfl rfl (Nat.le_of_ble_eq_true rfl) ⟨Nat.le_of_ble_eq_true rfl, Nat.le_of_ble_eq_true rfl⟩ ⟨Nat.le_of_ble_eq_true rfl, Nat.le_of_ble_eq_true rfl⟩ ?_
  exact x_iret F hr dG_failure_43 (x_is_i _ _ _)
set_option maxHeartbeats 4000000 in
set_option maxRecDepth 100000 in
theorem cG_failN (l : Launch) (nx : Nat) (M : xH) (g : Nat) (γ : gS) (hG : gIs M g γ) (i : Int32) (hi0 : i ≠ nI 0) (hi1 : i ≠ nI 1) : xC l xcl yG_failure (xw (Cond.code yG_failure bG_failure 2 (some .int))) ({ frames := 0, cells := 0, slots := 0, locals := 0 } : Room) [.ref (g), .int (i)] nx M (x_is (some (.int ((-1)))) nx M) := by
  obtain ⟨⟨fT, h0, h4, hfT, hpr, hπ, hπi⟩, hRd, hTr, hNo, hLi, hFi⟩ := id hG
  have hpp := hπ γ.2.1 (by omega)
  refine yC (by decide) (Nat.le_of_ble_eq_true rfl) ?_
  intro p e s m args below meth c D F hr hn
  refine x_iload_n F 1 dG_failure_0 rfl rfl ?_
  refine x_lookup F (tgt := 44) dG_failure_1 (by decide) (by have h0 : ¬ (0 : Int) = i.toInt := fun z => hi0 (Int32.toInt_inj.mp (by rw [← z]; rfl)); have h1 : ¬ (1 : Int) = i.toInt := fun z => hi1 (Int32.toInt_inj.mp (by rw [← z]; rfl)); simp only [List.toList_toArray, Op.lookupswitch.offset_cons, Op.lookupswitch.offset_nil, if_neg h0, if_neg h1]; rfl) (by decide) ?_
  refine x_iconst F (v := (-1)) dG_failure_44 (by decide) ?_
  exact x_iret F hr dG_failure_45 (x_is_i _ _ _)
set_option maxHeartbeats 4000000 in
set_option maxRecDepth 100000 in
theorem cG_cnt10 (l : Launch) (nx : Nat) (M : xH) (g : Nat) (γ : gS) (hG : gIs M g γ) (i : Int32) (k : Nat) (hk : k < 3) (hi : i - nI 10 = nI k) : xC l xcl yG_countInEdition (xw (Cond.code yG_countInEdition bG_countInEdition 2 (some .int))) ({ frames := 1, cells := 0, slots := 0, locals := 22 } : Room) [.ref (g), .int (i)] nx M (x_is (some (.int (nI ((γ.2.2.2.1 k).2.2.2.2.2.2.1)))) nx M) := by
  obtain ⟨⟨fT, h0, h4, hfT, hpr, hπ, hπi⟩, hRd, hTr, hNo, hLi, hFi⟩ := id hG
  have hpp := hπ γ.2.1 (by omega)
  refine yC (by decide) (Nat.le_of_ble_eq_true rfl) ?_
  intro p e s m args below meth c D F hr hn
  refine x_iload_n F 1 dG_countInEdition_0 rfl rfl ?_
  refine x_bipush F (v := nI (10)) dG_countInEdition_1 (by decide) ?_
  refine x_isub F dG_countInEdition_3 ?_
  refine xW.toi (nI (k)) (hi) ?_
  refine yS (n := 1) (As := [.int (nI (k))]) F kmG_85 ktG_isEdition knG kcG_isEdition (by decide +kernel) dG_countInEdition_4 (cG_isEd l (nx) M (nI (k))) rfl rfl (Nat.le_of_ble_eq_true rfl) ⟨Nat.le_of_ble_eq_true rfl, Nat.le_of_ble_eq_true rfl⟩ ⟨Nat.le_of_ble_eq_true rfl, Nat.le_of_ble_eq_true rfl⟩ ?_
  refine x_if_eq F (tgt := 23) dG_countInEdition_7 (by decide) (fun c1 => ?_) (fun c1 => ?_)
  · skip
    have c1 : (inE (nI (k))) = false := bI_0 c1
    rw [inE_k hk] at c1
    cases c1
  · skip
    have c1 : (inE (nI (k))) = true := bI_1 c1
    refine x_aload_n F 0 dG_countInEdition_10 rfl rfl ?_
    refine x_get (ci := 5) F 1 (x_in inG) rfl (by decide) (x_m kfG_18) dG_countInEdition_11 h0 rfl ?_
    refine x_iload_n F 1 dG_countInEdition_14 rfl rfl ?_
    refine x_bipush F (v := nI (10)) dG_countInEdition_15 (by decide) ?_
    refine x_isub F dG_countInEdition_17 ?_
    refine xW.toi (nI (k)) (hi) ?_
    refine x_aald F dG_countInEdition_18 h4 (pk_in (k) (3) (by omega)) ?_
    rw [nI_clamp (show k < 2 ^ 31 by omega), hfT _ (by omega)]
    show xW p l e ({ frames := 1, cells := 0, slots := 0, locals := 22 } : Room) s m args below meth c D xcl (x_A M nx) 2 (MQ below (x_Q D xcl (x_A M nx) (x_is (some (.int (nI ((γ.2.2.2.1 k).2.2.2.2.2.2.1)))) nx M)) args s 0 0 (x_A M nx)) 0 0 (nx) M 19 [(0, .ref (g)), (1, .int (i))] [.ref (g + 18 + 7 * γ.1 k)]
    refine yV (n := 0) (As := []) (ci := 4) F kmG_75 kiT_size ksT_size knT kcT_size (by decide +kernel) dG_countInEdition_19 (cT_size l (nx) M (g + 18 + 7 * γ.1 k) (γ.2.2.2.1 k).1 (γ.2.2.2.1 k).2.1 (γ.2.2.2.1 k).2.2.1 (γ.2.2.2.1 k).2.2.2.1 (γ.2.2.2.1 k).2.2.2.2.1 (γ.2.2.2.1 k).2.2.2.2.2.1 (γ.2.2.2.1 k).2.2.2.2.2.2.1 (γ.2.2.2.1 k).2.2.2.2.2.2.2 (hTr k (by omega)) ) rfl (hTr k (by omega)).1 rfl rfl (Nat.le_of_ble_eq_true rfl) ⟨Nat.le_of_ble_eq_true rfl, Nat.le_of_ble_eq_true rfl⟩ ⟨Nat.le_of_ble_eq_true rfl, Nat.le_of_ble_eq_true rfl⟩ ?_
    exact x_iret F hr dG_countInEdition_22 (x_is_i _ _ _)
set_option maxHeartbeats 4000000 in
set_option maxRecDepth 100000 in
theorem cG_cnt20 (l : Launch) (nx : Nat) (M : xH) (g : Nat) (γ : gS) (hG : gIs M g γ) (i : Int32) (hz : inE (i - nI 10) = false) (k : Nat) (hk : k < 3) (hi : i - nI 20 = nI k) : xC l xcl yG_countInEdition (xw (Cond.code yG_countInEdition bG_countInEdition 2 (some .int))) ({ frames := 1, cells := 0, slots := 0, locals := 22 } : Room) [.ref (g), .int (i)] nx M (x_is (some (.int (nI ((γ.2.2.2.1 k).2.2.2.2.2.2.2)))) nx M) := by
  obtain ⟨⟨fT, h0, h4, hfT, hpr, hπ, hπi⟩, hRd, hTr, hNo, hLi, hFi⟩ := id hG
  have hpp := hπ γ.2.1 (by omega)
  refine yC (by decide) (Nat.le_of_ble_eq_true rfl) ?_
  intro p e s m args below meth c D F hr hn
  refine x_iload_n F 1 dG_countInEdition_0 rfl rfl ?_
  refine x_bipush F (v := nI (10)) dG_countInEdition_1 (by decide) ?_
  refine x_isub F dG_countInEdition_3 ?_
  refine xW.toi (i - nI 10) (rfl) ?_
  refine yS (n := 1) (As := [.int (i - nI 10)]) F kmG_85 ktG_isEdition knG kcG_isEdition (by decide +kernel) dG_countInEdition_4 (cG_isEd l (nx) M (i - nI 10)) rfl rfl (Nat.le_of_ble_eq_true rfl) ⟨Nat.le_of_ble_eq_true rfl, Nat.le_of_ble_eq_true rfl⟩ ⟨Nat.le_of_ble_eq_true rfl, Nat.le_of_ble_eq_true rfl⟩ ?_
  refine x_if_eq F (tgt := 23) dG_countInEdition_7 (by decide) (fun c1 => ?_) (fun c1 => ?_)
  · skip
    have c1 : (inE (i - nI 10)) = false := bI_0 c1
    refine x_iload_n F 1 dG_countInEdition_23 rfl rfl ?_
    refine x_bipush F (v := nI (20)) dG_countInEdition_24 (by decide) ?_
    refine x_isub F dG_countInEdition_26 ?_
    refine xW.toi (nI (k)) (hi) ?_
    refine yS (n := 1) (As := [.int (nI (k))]) F kmG_85 ktG_isEdition knG kcG_isEdition (by decide +kernel) dG_countInEdition_27 (cG_isEd l (nx) M (nI (k))) rfl rfl (Nat.le_of_ble_eq_true rfl) ⟨Nat.le_of_ble_eq_true rfl, Nat.le_of_ble_eq_true rfl⟩ ⟨Nat.le_of_ble_eq_true rfl, Nat.le_of_ble_eq_true rfl⟩ ?_
    refine x_if_eq F (tgt := 46) dG_countInEdition_30 (by decide) (fun c2 => ?_) (fun c2 => ?_)
    · skip
      have c2 : (inE (nI (k))) = false := bI_0 c2
      rw [inE_k hk] at c2
      cases c2
    · skip
      have c2 : (inE (nI (k))) = true := bI_1 c2
      refine x_aload_n F 0 dG_countInEdition_33 rfl rfl ?_
      refine x_get (ci := 5) F 1 (x_in inG) rfl (by decide) (x_m kfG_18) dG_countInEdition_34 h0 rfl ?_
      refine x_iload_n F 1 dG_countInEdition_37 rfl rfl ?_
      refine x_bipush F (v := nI (20)) dG_countInEdition_38 (by decide) ?_
      refine x_isub F dG_countInEdition_40 ?_
      refine xW.toi (nI (k)) (hi) ?_
      refine x_aald F dG_countInEdition_41 h4 (pk_in (k) (3) (by omega)) ?_
      rw [nI_clamp (show k < 2 ^ 31 by omega), hfT _ (by omega)]
      show xW p l e ({ frames := 1, cells := 0, slots := 0, locals := 22 } : Room) s m args below meth c D xcl (x_A M nx) 2 (MQ below (x_Q D xcl (x_A M nx) (x_is (some (.int (nI ((γ.2.2.2.1 k).2.2.2.2.2.2.2)))) nx M)) args s 0 0 (x_A M nx)) 0 0 (nx) M 42 [(0, .ref (g)), (1, .int (i))] [.ref (g + 18 + 7 * γ.1 k)]
      refine yV (n := 0) (As := []) (ci := 4) F kmG_201 kiT_chapters ksT_chapters knT kcT_chapters (by decide +kernel) dG_countInEdition_42 (cT_chapters l (nx) M (g + 18 + 7 * γ.1 k) (γ.2.2.2.1 k).1 (γ.2.2.2.1 k).2.1 (γ.2.2.2.1 k).2.2.1 (γ.2.2.2.1 k).2.2.2.1 (γ.2.2.2.1 k).2.2.2.2.1 (γ.2.2.2.1 k).2.2.2.2.2.1 (γ.2.2.2.1 k).2.2.2.2.2.2.1 (γ.2.2.2.1 k).2.2.2.2.2.2.2 (hTr k (by omega)) ) rfl (hTr k (by omega)).1 rfl rfl (Nat.le_of_ble_eq_true rfl) ⟨Nat.le_of_ble_eq_true rfl, Nat.le_of_ble_eq_true rfl⟩ ⟨Nat.le_of_ble_eq_true rfl, Nat.le_of_ble_eq_true rfl⟩ ?_
      exact x_iret F hr dG_countInEdition_45 (x_is_i _ _ _)
  · skip
    have c1 : (inE (i - nI 10)) = true := bI_1 c1
    rw [hz] at c1
    cases c1
set_option maxHeartbeats 4000000 in
set_option maxRecDepth 100000 in
theorem cG_cntN (l : Launch) (nx : Nat) (M : xH) (g : Nat) (γ : gS) (hG : gIs M g γ) (i : Int32) (hz : inE (i - nI 10) = false) (hz2 : inE (i - nI 20) = false) : xC l xcl yG_countInEdition (xw (Cond.code yG_countInEdition bG_countInEdition 2 (some .int))) ({ frames := 1, cells := 0, slots := 0, locals := 22 } : Room) [.ref (g), .int (i)] nx M (x_is (some (.int ((-1)))) nx M) := by
  obtain ⟨⟨fT, h0, h4, hfT, hpr, hπ, hπi⟩, hRd, hTr, hNo, hLi, hFi⟩ := id hG
  have hpp := hπ γ.2.1 (by omega)
  refine yC (by decide) (Nat.le_of_ble_eq_true rfl) ?_
  intro p e s m args below meth c D F hr hn
  refine x_iload_n F 1 dG_countInEdition_0 rfl rfl ?_
  refine x_bipush F (v := nI (10)) dG_countInEdition_1 (by decide) ?_
  refine x_isub F dG_countInEdition_3 ?_
  refine xW.toi (i - nI 10) (rfl) ?_
  refine yS (n := 1) (As := [.int (i - nI 10)]) F kmG_85 ktG_isEdition knG kcG_isEdition (by decide +kernel) dG_countInEdition_4 (cG_isEd l (nx) M (i - nI 10)) rfl rfl (Nat.le_of_ble_eq_true rfl) ⟨Nat.le_of_ble_eq_true rfl, Nat.le_of_ble_eq_true rfl⟩ ⟨Nat.le_of_ble_eq_true rfl, Nat.le_of_ble_eq_true rfl⟩ ?_
  refine x_if_eq F (tgt := 23) dG_countInEdition_7 (by decide) (fun c1 => ?_) (fun c1 => ?_)
  · skip
    have c1 : (inE (i - nI 10)) = false := bI_0 c1
    refine x_iload_n F 1 dG_countInEdition_23 rfl rfl ?_
    refine x_bipush F (v := nI (20)) dG_countInEdition_24 (by decide) ?_
    refine x_isub F dG_countInEdition_26 ?_
    refine xW.toi (i - nI 20) (rfl) ?_
    refine yS (n := 1) (As := [.int (i - nI 20)]) F kmG_85 ktG_isEdition knG kcG_isEdition (by decide +kernel) dG_countInEdition_27 (cG_isEd l (nx) M (i - nI 20)) rfl rfl (Nat.le_of_ble_eq_true rfl) ⟨Nat.le_of_ble_eq_true rfl, Nat.le_of_ble_eq_true rfl⟩ ⟨Nat.le_of_ble_eq_true rfl, Nat.le_of_ble_eq_true rfl⟩ ?_
    refine x_if_eq F (tgt := 46) dG_countInEdition_30 (by decide) (fun c2 => ?_) (fun c2 => ?_)
    · skip
      have c2 : (inE (i - nI 20)) = false := bI_0 c2
      refine x_iconst F (v := (-1)) dG_countInEdition_46 (by decide) ?_
      exact x_iret F hr dG_countInEdition_47 (x_is_i _ _ _)
    · skip
      have c2 : (inE (i - nI 20)) = true := bI_1 c2
      rw [hz2] at c2
      cases c2
  · skip
    have c1 : (inE (i - nI 10)) = true := bI_1 c1
    rw [hz] at c1
    cases c1
set_option maxHeartbeats 4000000 in
set_option maxRecDepth 100000 in
theorem cG_count0 (l : Launch) (nx : Nat) (M : xH) (g : Nat) (γ : gS) (hG : gIs M g γ) : xC l xcl yG_count (xw (Cond.code yG_count bG_count 2 (some .int))) ({ frames := 1, cells := 0, slots := 0, locals := 20 } : Room) [.ref (g), .int (nI (0))] nx M (x_is (some (.int (nI ((γ.2.2.1).2.2.2.1)))) nx M) := by
  obtain ⟨⟨fT, h0, h4, hfT, hpr, hπ, hπi⟩, hRd, hTr, hNo, hLi, hFi⟩ := id hG
  have hpp := hπ γ.2.1 (by omega)
  refine yC (by decide) (Nat.le_of_ble_eq_true rfl) ?_
  intro p e s m args below meth c D F hr hn
  refine x_iload_n F 1 dG_count_0 rfl rfl ?_
  refine x_tableIn F (tgt := 36) dG_count_1 (by decide) (by decide) (by rfl) (by decide) ?_
  refine x_aload_n F 0 dG_count_36 rfl rfl ?_
  refine x_get (ci := 5) F 0 (x_in inG) rfl (by decide) (x_m kfG_10) dG_count_37 h0 rfl ?_
  refine yV (n := 0) (As := []) (ci := 3) F kmG_195 kiR_length ksR_length knR kcR_length (by decide +kernel) dG_count_40 (cR_length l (nx) M (g + 1) (γ.2.2.1).1 (γ.2.2.1).2.1 (γ.2.2.1).2.2.1 (γ.2.2.1).2.2.2.1 (γ.2.2.1).2.2.2.2.1 (γ.2.2.1).2.2.2.2.2.1 (γ.2.2.1).2.2.2.2.2.2 hRd ) rfl hRd.1 rfl rfl (Nat.le_of_ble_eq_true rfl) ⟨Nat.le_of_ble_eq_true rfl, Nat.le_of_ble_eq_true rfl⟩ ⟨Nat.le_of_ble_eq_true rfl, Nat.le_of_ble_eq_true rfl⟩ ?_
  exact x_iret F hr dG_count_43 (x_is_i _ _ _)
set_option maxHeartbeats 4000000 in
set_option maxRecDepth 100000 in
theorem cG_count1 (l : Launch) (nx : Nat) (M : xH) (g : Nat) (γ : gS) (hG : gIs M g γ) : xC l xcl yG_count (xw (Cond.code yG_count bG_count 2 (some .int))) ({ frames := 0, cells := 0, slots := 0, locals := 0 } : Room) [.ref (g), .int (nI (1))] nx M (x_is (some (.int (nI (γ.2.1)))) nx M) := by
  obtain ⟨⟨fT, h0, h4, hfT, hpr, hπ, hπi⟩, hRd, hTr, hNo, hLi, hFi⟩ := id hG
  have hpp := hπ γ.2.1 (by omega)
  refine yC (by decide) (Nat.le_of_ble_eq_true rfl) ?_
  intro p e s m args below meth c D F hr hn
  refine x_iload_n F 1 dG_count_0 rfl rfl ?_
  refine x_tableIn F (tgt := 44) dG_count_1 (by decide) (by decide) (by rfl) (by decide) ?_
  refine x_aload_n F 0 dG_count_44 rfl rfl ?_
  refine x_get (ci := 5) F 6 (x_in inG) rfl (by decide) (x_m kfG_46) dG_count_45 h0 rfl ?_
  exact x_iret F hr dG_count_48 (x_is_i _ _ _)
set_option maxHeartbeats 4000000 in
set_option maxRecDepth 100000 in
theorem cG_count2 (l : Launch) (nx : Nat) (M : xH) (g : Nat) (γ : gS) (hG : gIs M g γ) : xC l xcl yG_count (xw (Cond.code yG_count bG_count 2 (some .int))) ({ frames := 1, cells := 0, slots := 0, locals := 20 } : Room) [.ref (g), .int (nI (2))] nx M (x_is (some (.int (nI ((γ.2.2.2.2.1).2.2.2.2)))) nx M) := by
  obtain ⟨⟨fT, h0, h4, hfT, hpr, hπ, hπi⟩, hRd, hTr, hNo, hLi, hFi⟩ := id hG
  have hpp := hπ γ.2.1 (by omega)
  refine yC (by decide) (Nat.le_of_ble_eq_true rfl) ?_
  intro p e s m args below meth c D F hr hn
  refine x_iload_n F 1 dG_count_0 rfl rfl ?_
  refine x_tableIn F (tgt := 49) dG_count_1 (by decide) (by decide) (by rfl) (by decide) ?_
  refine x_aload_n F 0 dG_count_49 rfl rfl ?_
  refine x_get (ci := 5) F 2 (x_in inG) rfl (by decide) (x_m kfG_27) dG_count_50 h0 rfl ?_
  refine yV (n := 0) (As := []) (ci := 2) F kmG_165 kiP_size ksP_size knP kcP_size (by decide +kernel) dG_count_53 (cP_size l (nx) M (g + 5) 20 (γ.2.2.2.2.1).1 (γ.2.2.2.2.1).2.1 (γ.2.2.2.2.1).2.2.1 (γ.2.2.2.2.1).2.2.2.1 (γ.2.2.2.2.1).2.2.2.2 hNo ) rfl hNo.1 rfl rfl (Nat.le_of_ble_eq_true rfl) ⟨Nat.le_of_ble_eq_true rfl, Nat.le_of_ble_eq_true rfl⟩ ⟨Nat.le_of_ble_eq_true rfl, Nat.le_of_ble_eq_true rfl⟩ ?_
  exact x_iret F hr dG_count_56 (x_is_i _ _ _)
set_option maxHeartbeats 4000000 in
set_option maxRecDepth 100000 in
theorem cG_count3 (l : Launch) (nx : Nat) (M : xH) (g : Nat) (γ : gS) (hG : gIs M g γ) : xC l xcl yG_count (xw (Cond.code yG_count bG_count 2 (some .int))) ({ frames := 1, cells := 0, slots := 0, locals := 20 } : Room) [.ref (g), .int (nI (3))] nx M (x_is (some (.int (nI ((γ.2.2.2.2.2.1).2.2.2.2)))) nx M) := by
  obtain ⟨⟨fT, h0, h4, hfT, hpr, hπ, hπi⟩, hRd, hTr, hNo, hLi, hFi⟩ := id hG
  have hpp := hπ γ.2.1 (by omega)
  refine yC (by decide) (Nat.le_of_ble_eq_true rfl) ?_
  intro p e s m args below meth c D F hr hn
  refine x_iload_n F 1 dG_count_0 rfl rfl ?_
  refine x_tableIn F (tgt := 57) dG_count_1 (by decide) (by decide) (by rfl) (by decide) ?_
  refine x_aload_n F 0 dG_count_57 rfl rfl ?_
  refine x_get (ci := 5) F 3 (x_in inG) rfl (by decide) (x_m kfG_31) dG_count_58 h0 rfl ?_
  refine yV (n := 0) (As := []) (ci := 2) F kmG_165 kiP_size ksP_size knP kcP_size (by decide +kernel) dG_count_61 (cP_size l (nx) M (g + 10) 60 (γ.2.2.2.2.2.1).1 (γ.2.2.2.2.2.1).2.1 (γ.2.2.2.2.2.1).2.2.1 (γ.2.2.2.2.2.1).2.2.2.1 (γ.2.2.2.2.2.1).2.2.2.2 hLi ) rfl hLi.1 rfl rfl (Nat.le_of_ble_eq_true rfl) ⟨Nat.le_of_ble_eq_true rfl, Nat.le_of_ble_eq_true rfl⟩ ⟨Nat.le_of_ble_eq_true rfl, Nat.le_of_ble_eq_true rfl⟩ ?_
  exact x_iret F hr dG_count_64 (x_is_i _ _ _)
set_option maxHeartbeats 4000000 in
set_option maxRecDepth 100000 in
theorem cG_count4 (l : Launch) (nx : Nat) (M : xH) (g : Nat) (γ : gS) (hG : gIs M g γ) : xC l xcl yG_count (xw (Cond.code yG_count bG_count 2 (some .int))) ({ frames := 1, cells := 0, slots := 0, locals := 20 } : Room) [.ref (g), .int (nI (4))] nx M (x_is (some (.int (nI ((γ.2.2.2.2.2.2).2.2)))) nx M) := by
  obtain ⟨⟨fT, h0, h4, hfT, hpr, hπ, hπi⟩, hRd, hTr, hNo, hLi, hFi⟩ := id hG
  have hpp := hπ γ.2.1 (by omega)
  refine yC (by decide) (Nat.le_of_ble_eq_true rfl) ?_
  intro p e s m args below meth c D F hr hn
  refine x_iload_n F 1 dG_count_0 rfl rfl ?_
  refine x_tableIn F (tgt := 65) dG_count_1 (by decide) (by decide) (by rfl) (by decide) ?_
  refine x_aload_n F 0 dG_count_65 rfl rfl ?_
  refine x_get (ci := 5) F 4 (x_in inG) rfl (by decide) (x_m kfG_37) dG_count_66 h0 rfl ?_
  refine yV (n := 0) (As := []) (ci := 1) F kmG_187 kiF_size ksF_size knF kcF_size (by decide +kernel) dG_count_69 (cF_size l (nx) M (g + 15) (γ.2.2.2.2.2.2).1 (γ.2.2.2.2.2.2).2.1 (γ.2.2.2.2.2.2).2.2 hFi ) rfl hFi.1 rfl rfl (Nat.le_of_ble_eq_true rfl) ⟨Nat.le_of_ble_eq_true rfl, Nat.le_of_ble_eq_true rfl⟩ ⟨Nat.le_of_ble_eq_true rfl, Nat.le_of_ble_eq_true rfl⟩ ?_
  exact x_iret F hr dG_count_72 (x_is_i _ _ _)
set_option maxHeartbeats 4000000 in
set_option maxRecDepth 100000 in
theorem cG_count10 (l : Launch) (nx : Nat) (M : xH) (g : Nat) (γ : gS) (hG : gIs M g γ) (i : Int32) (h5 : ¬ vp_in i 5) (k : Nat) (hk : k < 3) (hi : i - nI 10 = nI k) : xC l xcl yG_count (xw (Cond.code yG_count bG_count 2 (some .int))) ({ frames := 2, cells := 0, slots := 0, locals := 43 } : Room) [.ref (g), .int (i)] nx M (x_is (some (.int (nI ((γ.2.2.2.1 k).2.2.2.2.2.2.1)))) nx M) := by
  obtain ⟨⟨fT, h0, h4, hfT, hpr, hπ, hπi⟩, hRd, hTr, hNo, hLi, hFi⟩ := id hG
  have hpp := hπ γ.2.1 (by omega)
  refine yC (by decide) (Nat.le_of_ble_eq_true rfl) ?_
  intro p e s m args below meth c D F hr hn
  refine x_iload_n F 1 dG_count_0 rfl rfl ?_
  refine x_tableOut F (tgt := 73) dG_count_1 (toInt_in (n := 5) (by decide) h5 rfl rfl) (by decide) ?_
  refine x_aload_n F 0 dG_count_73 rfl rfl ?_
  refine x_iload_n F 1 dG_count_74 rfl rfl ?_
  refine yV (n := 1) (As := [.int (i)]) (ci := 5) F kmG_198 kiG_countInEdition ksG_countInEdition knG kcG_countInEdition (by decide +kernel) dG_count_75 (cG_cnt10 l (nx) M g γ hG i k hk hi) rfl h0 rfl rfl (Nat.le_of_ble_eq_true rfl) ⟨Nat.le_of_ble_eq_true rfl, Nat.le_of_ble_eq_true rfl⟩ ⟨Nat.le_of_ble_eq_true rfl, Nat.le_of_ble_eq_true rfl⟩ ?_
  exact x_iret F hr dG_count_78 (x_is_i _ _ _)
set_option maxHeartbeats 4000000 in
set_option maxRecDepth 100000 in
theorem cG_count20 (l : Launch) (nx : Nat) (M : xH) (g : Nat) (γ : gS) (hG : gIs M g γ) (i : Int32) (h5 : ¬ vp_in i 5) (hz : inE (i - nI 10) = false) (k : Nat) (hk : k < 3) (hi : i - nI 20 = nI k) : xC l xcl yG_count (xw (Cond.code yG_count bG_count 2 (some .int))) ({ frames := 2, cells := 0, slots := 0, locals := 43 } : Room) [.ref (g), .int (i)] nx M (x_is (some (.int (nI ((γ.2.2.2.1 k).2.2.2.2.2.2.2)))) nx M) := by
  obtain ⟨⟨fT, h0, h4, hfT, hpr, hπ, hπi⟩, hRd, hTr, hNo, hLi, hFi⟩ := id hG
  have hpp := hπ γ.2.1 (by omega)
  refine yC (by decide) (Nat.le_of_ble_eq_true rfl) ?_
  intro p e s m args below meth c D F hr hn
  refine x_iload_n F 1 dG_count_0 rfl rfl ?_
  refine x_tableOut F (tgt := 73) dG_count_1 (toInt_in (n := 5) (by decide) h5 rfl rfl) (by decide) ?_
  refine x_aload_n F 0 dG_count_73 rfl rfl ?_
  refine x_iload_n F 1 dG_count_74 rfl rfl ?_
  refine yV (n := 1) (As := [.int (i)]) (ci := 5) F kmG_198 kiG_countInEdition ksG_countInEdition knG kcG_countInEdition (by decide +kernel) dG_count_75 (cG_cnt20 l (nx) M g γ hG i hz k hk hi) rfl h0 rfl rfl (Nat.le_of_ble_eq_true rfl) ⟨Nat.le_of_ble_eq_true rfl, Nat.le_of_ble_eq_true rfl⟩ ⟨Nat.le_of_ble_eq_true rfl, Nat.le_of_ble_eq_true rfl⟩ ?_
  exact x_iret F hr dG_count_78 (x_is_i _ _ _)
set_option maxHeartbeats 4000000 in
set_option maxRecDepth 100000 in
theorem cG_countN (l : Launch) (nx : Nat) (M : xH) (g : Nat) (γ : gS) (hG : gIs M g γ) (i : Int32) (h5 : ¬ vp_in i 5) (hz : inE (i - nI 10) = false) (hz2 : inE (i - nI 20) = false) : xC l xcl yG_count (xw (Cond.code yG_count bG_count 2 (some .int))) ({ frames := 2, cells := 0, slots := 0, locals := 43 } : Room) [.ref (g), .int (i)] nx M (x_is (some (.int ((-1)))) nx M) := by
  obtain ⟨⟨fT, h0, h4, hfT, hpr, hπ, hπi⟩, hRd, hTr, hNo, hLi, hFi⟩ := id hG
  have hpp := hπ γ.2.1 (by omega)
  refine yC (by decide) (Nat.le_of_ble_eq_true rfl) ?_
  intro p e s m args below meth c D F hr hn
  refine x_iload_n F 1 dG_count_0 rfl rfl ?_
  refine x_tableOut F (tgt := 73) dG_count_1 (toInt_in (n := 5) (by decide) h5 rfl rfl) (by decide) ?_
  refine x_aload_n F 0 dG_count_73 rfl rfl ?_
  refine x_iload_n F 1 dG_count_74 rfl rfl ?_
  refine yV (n := 1) (As := [.int (i)]) (ci := 5) F kmG_198 kiG_countInEdition ksG_countInEdition knG kcG_countInEdition (by decide +kernel) dG_count_75 (cG_cntN l (nx) M g γ hG i hz hz2) rfl h0 rfl rfl (Nat.le_of_ble_eq_true rfl) ⟨Nat.le_of_ble_eq_true rfl, Nat.le_of_ble_eq_true rfl⟩ ⟨Nat.le_of_ble_eq_true rfl, Nat.le_of_ble_eq_true rfl⟩ ?_
  exact x_iret F hr dG_count_78 (x_is_i _ _ _)
set_option maxHeartbeats 4000000 in
set_option maxRecDepth 100000 in
theorem cG_link (l : Launch) (nx : Nat) (M : xH) (g : Nat) (γ : gS) (hG : gIs M g γ) (aa : Int32) (co : Int64) (bb : Int32) (oo : Int64) : xC l xcl yG_link (xw (Cond.code yG_link bG_link 7 (some .boolean))) ({ frames := 3, cells := 0, slots := 0, locals := 73 } : Room) [.ref (g), .int (aa), .long (co), .int (bb), .long (oo)] nx M (gPost (some (.int (bI (lkOk γ aa co bb oo)))) nx M g (if lkOk γ aa co bb oo then gLk γ (padd γ.2.2.2.2.2.1 aa co bb oo) else γ)) := by
  obtain ⟨⟨fT, h0, h4, hfT, hpr, hπ, hπi⟩, hRd, hTr, hNo, hLi, hFi⟩ := id hG
  have hpp := hπ γ.2.1 (by omega)
  refine yC (by decide) (Nat.le_of_ble_eq_true rfl) ?_
  intro p e s m args below meth c D F hr hn
  refine x_iload_n F 1 dG_link_0 rfl rfl ?_
  refine x_iload F 3 dG_link_1 rfl ?_
  refine x_icmp_eq F (tgt := 26) dG_link_3 (by decide) (fun c1 => ?_) (fun c1 => ?_)
  · skip
    refine x_iconst F (v := nI (0)) dG_link_26 (by decide) ?_
    exact x_zret F hr (by rfl) dG_link_27 (by rw [show lkOk γ aa co bb oo = false from by simp [lkOk, c1]]; exact ⟨rfl, rfl, hG, fun _ _ => rfl⟩)
  · skip
    refine x_aload_n F 0 dG_link_6 rfl rfl ?_
    refine x_iload_n F 1 dG_link_7 rfl rfl ?_
    refine x_lload_n F 2 dG_link_8 rfl rfl ?_
    refine yV (n := 2) (As := [.int (aa), .long (co)]) (ci := 5) F kmG_119 kiG_hasCode ksG_hasCode knG kcG_hasCode (by decide +kernel) dG_link_9 (cG_hasC l (nx) M g γ hG (aa) (co)) rfl h0 rfl rfl (Nat.le_of_ble_eq_true rfl) ⟨Nat.le_of_ble_eq_true rfl, Nat.le_of_ble_eq_true rfl⟩ ⟨Nat.le_of_ble_eq_true rfl, Nat.le_of_ble_eq_true rfl⟩ ?_
    refine x_if_eq F (tgt := 26) dG_link_12 (by decide) (fun c2 => ?_) (fun c2 => ?_)
    · skip
      have c2 : (gHas γ (aa) (co)) = false := bI_0 c2
      refine x_iconst F (v := nI (0)) dG_link_26 (by decide) ?_
      exact x_zret F hr (by rfl) dG_link_27 (by rw [show lkOk γ aa co bb oo = false from by simp [lkOk, c1, c2]]; exact ⟨rfl, rfl, hG, fun _ _ => rfl⟩)
    · skip
      have c2 : (gHas γ (aa) (co)) = true := bI_1 c2
      refine x_aload_n F 0 dG_link_15 rfl rfl ?_
      refine x_iload F 3 dG_link_16 rfl ?_
      refine x_lload F 4 dG_link_18 rfl ?_
      refine yV (n := 2) (As := [.int (bb), .long (oo)]) (ci := 5) F kmG_119 kiG_hasCode ksG_hasCode knG kcG_hasCode (by decide +kernel) dG_link_20 (cG_hasC l (nx) M g γ hG (bb) (oo)) rfl h0 rfl rfl (Nat.le_of_ble_eq_true rfl) ⟨Nat.le_of_ble_eq_true rfl, Nat.le_of_ble_eq_true rfl⟩ ⟨Nat.le_of_ble_eq_true rfl, Nat.le_of_ble_eq_true rfl⟩ ?_
      refine x_if_ne F (tgt := 28) dG_link_23 (by decide) (fun c3 => ?_) (fun c3 => ?_)
      · skip
        have c3 : (gHas γ (bb) (oo)) = true := bI_1 c3
        refine x_aload_n F 0 dG_link_28 rfl rfl ?_
        refine x_get (ci := 5) F 3 (x_in inG) rfl (by decide) (x_m kfG_31) dG_link_29 h0 rfl ?_
        refine yV (n := 0) (As := []) (ci := 2) F kmG_128 kiP_isFull ksP_isFull knP kcP_isFull (by decide +kernel) dG_link_32 (cP_isFull l (nx) M (g + 10) 60 (γ.2.2.2.2.2.1).1 (γ.2.2.2.2.2.1).2.1 (γ.2.2.2.2.2.1).2.2.1 (γ.2.2.2.2.2.1).2.2.2.1 (γ.2.2.2.2.2.1).2.2.2.2 hLi ) rfl hLi.1 rfl rfl (Nat.le_of_ble_eq_true rfl) ⟨Nat.le_of_ble_eq_true rfl, Nat.le_of_ble_eq_true rfl⟩ ⟨Nat.le_of_ble_eq_true rfl, Nat.le_of_ble_eq_true rfl⟩ ?_
        refine x_if_ne F (tgt := 54) dG_link_35 (by decide) (fun c4 => ?_) (fun c4 => ?_)
        · skip
          have c4 : (decide (60 ≤ (γ.2.2.2.2.2.1).2.2.2.2)) = true := bI_1 c4
          refine x_iconst F (v := nI (0)) dG_link_54 (by decide) ?_
          exact x_zret F hr (by rfl) dG_link_55 (by rw [show lkOk γ aa co bb oo = false from by simp [lkOk, c1, c2, c3, c4]]; exact ⟨rfl, rfl, hG, fun _ _ => rfl⟩)
        · skip
          have c4 : (decide (60 ≤ (γ.2.2.2.2.2.1).2.2.2.2)) = false := bI_0 c4
          refine x_aload_n F 0 dG_link_38 rfl rfl ?_
          refine x_get (ci := 5) F 3 (x_in inG) rfl (by decide) (x_m kfG_31) dG_link_39 h0 rfl ?_
          refine x_iload_n F 1 dG_link_42 rfl rfl ?_
          refine x_lload_n F 2 dG_link_43 rfl rfl ?_
          refine x_iload F 3 dG_link_44 rfl ?_
          refine x_lload F 4 dG_link_46 rfl ?_
          refine yV (n := 4) (As := [.int (aa), .long (co), .int (bb), .long (oo)]) (ci := 2) F kmG_132 kiP_holds ksP_holds knP kcP_holds (by decide +kernel) dG_link_48 (cP_holds l (nx) M (g + 10) 60 (γ.2.2.2.2.2.1).1 (γ.2.2.2.2.2.1).2.1 (γ.2.2.2.2.2.1).2.2.1 (γ.2.2.2.2.2.1).2.2.2.1 (γ.2.2.2.2.2.1).2.2.2.2 hLi (aa) (co) (bb) (oo)) rfl hLi.1 rfl rfl (Nat.le_of_ble_eq_true rfl) ⟨Nat.le_of_ble_eq_true rfl, Nat.le_of_ble_eq_true rfl⟩ ⟨Nat.le_of_ble_eq_true rfl, Nat.le_of_ble_eq_true rfl⟩ ?_
          refine x_if_eq F (tgt := 56) dG_link_51 (by decide) (fun c5 => ?_) (fun c5 => ?_)
          · skip
            have c5 : (pHas (γ.2.2.2.2.2.1) (aa) (co) (bb) (oo)) = false := bI_0 c5
            refine x_aload_n F 0 dG_link_56 rfl rfl ?_
            refine x_get (ci := 5) F 3 (x_in inG) rfl (by decide) (x_m kfG_31) dG_link_57 h0 rfl ?_
            refine x_iload_n F 1 dG_link_60 rfl rfl ?_
            refine x_lload_n F 2 dG_link_61 rfl rfl ?_
            refine x_iload F 3 dG_link_62 rfl ?_
            refine x_lload F 4 dG_link_64 rfl ?_
            have hroom : γ.2.2.2.2.2.1.2.2.2.2 < 60 := by have z := c4; simp at z; exact z
            refine yVr (n := 4) (As := [.int (aa), .long (co), .int (bb), .long (oo)]) (ci := 2) F kmG_138 kiP_add ksP_add knP kcP_add (by decide +kernel) dG_link_66 (cP_add l (nx) M (g + 10) 60 (γ.2.2.2.2.2.1) hLi hroom (aa) (co) (bb) (oo)) rfl hLi.1 rfl rfl (Nat.le_of_ble_eq_true rfl) ⟨Nat.le_of_ble_eq_true rfl, Nat.le_of_ble_eq_true rfl⟩ ⟨Nat.le_of_ble_eq_true rfl, Nat.le_of_ble_eq_true rfl⟩ (fun r' n' M302 hp => ?_)
            obtain ⟨hr', hn', hP302, hf302⟩ := hp
            rw [hn', hr']
            show xW p l e ({ frames := 3, cells := 0, slots := 0, locals := 73 } : Room) s m args below meth c D xcl (x_A M nx) 7 (MQ below (x_Q D xcl (x_A M nx) (gPost (some (.int (bI (lkOk γ aa co bb oo)))) nx M g (if lkOk γ aa co bb oo then gLk γ (padd γ.2.2.2.2.2.1 aa co bb oo) else γ))) args s 0 0 (x_A M nx)) 0 0 (nx) M302 69 [(0, .ref (g)), (1, .int (aa)), (2, .long (co)), (4, .int (bb)), (5, .long (oo))] []
            refine x_iconst F (v := nI (1)) dG_link_69 (by decide) ?_
            exact x_zret F hr (by rfl) dG_link_70 (by rw [show lkOk γ aa co bb oo = true from by simp [lkOk, c1, c2, c3, c4, c5]]; exact ⟨rfl, rfl, ⟨⟨fT, ((hf302 _ (by omega)).trans h0), ((hf302 _ (by omega)).trans h4), hfT, hpr, hπ, hπi⟩, (rAt_fr hRd (fun b _ _ => hf302 b (by omega))), (fun i hi => tAt_fr (hTr i hi) (fun b hb hb2 =>  (hf302 _ (by omega)).trans (rfl))), (pAt_fr hNo (fun b _ _ => hf302 b (by omega))), hP302, (fAt_fr hFi (fun b _ _ => hf302 b (by omega)))⟩, fun b hb => (hf302 _ (by omega)).trans (rfl)⟩)
          · skip
            have c5 : (pHas (γ.2.2.2.2.2.1) (aa) (co) (bb) (oo)) = true := bI_1 c5
            refine x_iconst F (v := nI (0)) dG_link_54 (by decide) ?_
            exact x_zret F hr (by rfl) dG_link_55 (by rw [show lkOk γ aa co bb oo = false from by simp [lkOk, c1, c2, c3, c4, c5]]; exact ⟨rfl, rfl, hG, fun _ _ => rfl⟩)
      · skip
        have c3 : (gHas γ (bb) (oo)) = false := bI_0 c3
        refine x_iconst F (v := nI (0)) dG_link_26 (by decide) ?_
        exact x_zret F hr (by rfl) dG_link_27 (by rw [show lkOk γ aa co bb oo = false from by simp [lkOk, c1, c2, c3]]; exact ⟨rfl, rfl, hG, fun _ _ => rfl⟩)
set_option maxHeartbeats 4000000 in
set_option maxRecDepth 100000 in
theorem cG_checkE (l : Launch) (nx : Nat) (M : xH) (aa bb : Int32) (hok : edOk aa bb = true) : xC l xcl yG_checkEditions (xw (Cond.code yG_checkEditions bG_checkEditions 2 none)) ({ frames := 1, cells := 0, slots := 0, locals := 20 } : Room) [.int (aa), .int (bb)] nx M (x_is none nx M) := by
  refine yC (by decide) (Nat.le_of_ble_eq_true rfl) ?_
  intro p e s m args below meth c D F hr hn
  refine x_iload_n F 0 dG_checkEditions_0 rfl rfl ?_
  refine yS (n := 1) (As := [.int (aa)]) F kmG_85 ktG_isEdition knG kcG_isEdition (by decide +kernel) dG_checkEditions_1 (cG_isEd l (nx) M (aa)) rfl rfl (Nat.le_of_ble_eq_true rfl) ⟨Nat.le_of_ble_eq_true rfl, Nat.le_of_ble_eq_true rfl⟩ ⟨Nat.le_of_ble_eq_true rfl, Nat.le_of_ble_eq_true rfl⟩ ?_
  refine x_if_eq F (tgt := 19) dG_checkEditions_4 (by decide) (fun c1 => ?_) (fun c1 => ?_)
  · skip
    have c1 : (inE (aa)) = false := bI_0 c1
    simp [edOk, c1] at hok
  · skip
    have c1 : (inE (aa)) = true := bI_1 c1
    refine x_iload_n F 1 dG_checkEditions_7 rfl rfl ?_
    refine yS (n := 1) (As := [.int (bb)]) F kmG_85 ktG_isEdition knG kcG_isEdition (by decide +kernel) dG_checkEditions_8 (cG_isEd l (nx) M (bb)) rfl rfl (Nat.le_of_ble_eq_true rfl) ⟨Nat.le_of_ble_eq_true rfl, Nat.le_of_ble_eq_true rfl⟩ ⟨Nat.le_of_ble_eq_true rfl, Nat.le_of_ble_eq_true rfl⟩ ?_
    refine x_if_eq F (tgt := 19) dG_checkEditions_11 (by decide) (fun c2 => ?_) (fun c2 => ?_)
    · skip
      have c2 : (inE (bb)) = false := bI_0 c2
      simp [edOk, c2] at hok
    · skip
      have c2 : (inE (bb)) = true := bI_1 c2
      refine x_iload_n F 0 dG_checkEditions_14 rfl rfl ?_
      refine x_iload_n F 1 dG_checkEditions_15 rfl rfl ?_
      refine x_icmp_ne F (tgt := 29) dG_checkEditions_16 (by decide) (fun c3 => ?_) (fun c3 => ?_)
      · skip
        exact x_vret F hr dG_checkEditions_29 (x_is_i _ _ _)
      · skip
        simp [edOk, c3] at hok
set_option maxHeartbeats 4000000 in
set_option maxRecDepth 100000 in
theorem cG_checkET (l : Launch) (hfl : x_fl l) (nx : Nat) (M : xH) (aa bb : Int32) (hok : edOk aa bb = false) : xT_ l xcl yG_checkEditions (xw (Cond.code yG_checkEditions bG_checkEditions 2 none)) ({ frames := 6, cells := 1, slots := 6, locals := 90 } : Room) [.int (aa), .int (bb)] nx M "java/lang/IllegalArgumentException" (kPost nx M) := by
  refine yCT (by decide) (Nat.le_of_ble_eq_true rfl) ?_
  intro p e s m args below meth c D F hr hex
  refine x_iload_n F 0 dG_checkEditions_0 rfl rfl ?_
  refine yS (n := 1) (As := [.int (aa)]) F kmG_85 ktG_isEdition knG kcG_isEdition (by decide +kernel) dG_checkEditions_1 (cG_isEd l (nx) M (aa)) rfl rfl (Nat.le_of_ble_eq_true rfl) ⟨Nat.le_of_ble_eq_true rfl, Nat.le_of_ble_eq_true rfl⟩ ⟨Nat.le_of_ble_eq_true rfl, Nat.le_of_ble_eq_true rfl⟩ ?_
  refine x_if_eq F (tgt := 19) dG_checkEditions_4 (by decide) (fun c1 => ?_) (fun c1 => ?_)
  · skip
    have c1 : (inE (aa)) = false := bI_0 c1
    exact yT (tx := "no two editions") F hfl hex x_ok3 klG_123 kqJA knJA kcG_checkEditions (by decide) (by decide) dG_checkEditions_19 dG_checkEditions_22 dG_checkEditions_23 dG_checkEditions_25 dG_checkEditions_28 (Nat.le_of_ble_eq_true rfl) (Nat.le_of_ble_eq_true rfl) (Nat.le_of_ble_eq_true rfl) (Nat.le_of_ble_eq_true rfl) (Nat.le_of_ble_eq_true rfl) (Nat.le_of_ble_eq_true rfl) (fun n' hn' => ⟨hn', rfl⟩)
  · skip
    have c1 : (inE (aa)) = true := bI_1 c1
    refine x_iload_n F 1 dG_checkEditions_7 rfl rfl ?_
    refine yS (n := 1) (As := [.int (bb)]) F kmG_85 ktG_isEdition knG kcG_isEdition (by decide +kernel) dG_checkEditions_8 (cG_isEd l (nx) M (bb)) rfl rfl (Nat.le_of_ble_eq_true rfl) ⟨Nat.le_of_ble_eq_true rfl, Nat.le_of_ble_eq_true rfl⟩ ⟨Nat.le_of_ble_eq_true rfl, Nat.le_of_ble_eq_true rfl⟩ ?_
    refine x_if_eq F (tgt := 19) dG_checkEditions_11 (by decide) (fun c2 => ?_) (fun c2 => ?_)
    · skip
      have c2 : (inE (bb)) = false := bI_0 c2
      exact yT (tx := "no two editions") F hfl hex x_ok3 klG_123 kqJA knJA kcG_checkEditions (by decide) (by decide) dG_checkEditions_19 dG_checkEditions_22 dG_checkEditions_23 dG_checkEditions_25 dG_checkEditions_28 (Nat.le_of_ble_eq_true rfl) (Nat.le_of_ble_eq_true rfl) (Nat.le_of_ble_eq_true rfl) (Nat.le_of_ble_eq_true rfl) (Nat.le_of_ble_eq_true rfl) (Nat.le_of_ble_eq_true rfl) (fun n' hn' => ⟨hn', rfl⟩)
    · skip
      have c2 : (inE (bb)) = true := bI_1 c2
      refine x_iload_n F 0 dG_checkEditions_14 rfl rfl ?_
      refine x_iload_n F 1 dG_checkEditions_15 rfl rfl ?_
      refine x_icmp_ne F (tgt := 29) dG_checkEditions_16 (by decide) (fun c3 => ?_) (fun c3 => ?_)
      · skip
        simp [edOk, c1, c2, c3] at hok
      · skip
        exact yT (tx := "no two editions") F hfl hex x_ok3 klG_123 kqJA knJA kcG_checkEditions (by decide) (by decide) dG_checkEditions_19 dG_checkEditions_22 dG_checkEditions_23 dG_checkEditions_25 dG_checkEditions_28 (Nat.le_of_ble_eq_true rfl) (Nat.le_of_ble_eq_true rfl) (Nat.le_of_ble_eq_true rfl) (Nat.le_of_ble_eq_true rfl) (Nat.le_of_ble_eq_true rfl) (Nat.le_of_ble_eq_true rfl) (fun n' hn' => ⟨hn', rfl⟩)
set_option maxHeartbeats 4000000 in
set_option maxRecDepth 100000 in
theorem cG_checkC (l : Launch) (nx : Nat) (M : xH) (g : Nat) (γ : gS) (hG : gIs M g γ) (e0 : Int32) (co : Int64) (hok : gHas γ e0 co = true) : xC l xcl yG_checkCode (xw (Cond.code yG_checkCode bG_checkCode 4 none)) ({ frames := 2, cells := 0, slots := 0, locals := 46 } : Room) [.ref (g), .int (e0), .long (co)] nx M (x_is none nx M) := by
  obtain ⟨⟨fT, h0, h4, hfT, hpr, hπ, hπi⟩, hRd, hTr, hNo, hLi, hFi⟩ := id hG
  have hpp := hπ γ.2.1 (by omega)
  refine yC (by decide) (Nat.le_of_ble_eq_true rfl) ?_
  intro p e s m args below meth c D F hr hn
  refine x_aload_n F 0 dG_checkCode_0 rfl rfl ?_
  refine x_iload_n F 1 dG_checkCode_1 rfl rfl ?_
  refine x_lload_n F 2 dG_checkCode_2 rfl rfl ?_
  refine yV (n := 2) (As := [.int (e0), .long (co)]) (ci := 5) F kmG_119 kiG_hasCode ksG_hasCode knG kcG_hasCode (by decide +kernel) dG_checkCode_3 (cG_hasC l (nx) M g γ hG (e0) (co)) rfl h0 rfl rfl (Nat.le_of_ble_eq_true rfl) ⟨Nat.le_of_ble_eq_true rfl, Nat.le_of_ble_eq_true rfl⟩ ⟨Nat.le_of_ble_eq_true rfl, Nat.le_of_ble_eq_true rfl⟩ ?_
  refine x_if_ne F (tgt := 19) dG_checkCode_6 (by decide) (fun c1 => ?_) (fun c1 => ?_)
  · skip
    have c1 : (gHas γ (e0) (co)) = true := bI_1 c1
    exact x_vret F hr dG_checkCode_19 (x_is_i _ _ _)
  · skip
    have c1 : (gHas γ (e0) (co)) = false := bI_0 c1
    rw [hok] at c1
    cases c1
set_option maxHeartbeats 4000000 in
set_option maxRecDepth 100000 in
theorem cG_checkCT (l : Launch) (hfl : x_fl l) (nx : Nat) (M : xH) (g : Nat) (γ : gS) (hG : gIs M g γ) (e0 : Int32) (co : Int64) (hok : gHas γ e0 co = false) : xT_ l xcl yG_checkCode (xw (Cond.code yG_checkCode bG_checkCode 4 none)) ({ frames := 6, cells := 1, slots := 6, locals := 90 } : Room) [.ref (g), .int (e0), .long (co)] nx M "java/lang/IllegalArgumentException" (kPost nx M) := by
  obtain ⟨⟨fT, h0, h4, hfT, hpr, hπ, hπi⟩, hRd, hTr, hNo, hLi, hFi⟩ := id hG
  have hpp := hπ γ.2.1 (by omega)
  refine yCT (by decide) (Nat.le_of_ble_eq_true rfl) ?_
  intro p e s m args below meth c D F hr hex
  refine x_aload_n F 0 dG_checkCode_0 rfl rfl ?_
  refine x_iload_n F 1 dG_checkCode_1 rfl rfl ?_
  refine x_lload_n F 2 dG_checkCode_2 rfl rfl ?_
  refine yV (n := 2) (As := [.int (e0), .long (co)]) (ci := 5) F kmG_119 kiG_hasCode ksG_hasCode knG kcG_hasCode (by decide +kernel) dG_checkCode_3 (cG_hasC l (nx) M g γ hG (e0) (co)) rfl h0 rfl rfl (Nat.le_of_ble_eq_true rfl) ⟨Nat.le_of_ble_eq_true rfl, Nat.le_of_ble_eq_true rfl⟩ ⟨Nat.le_of_ble_eq_true rfl, Nat.le_of_ble_eq_true rfl⟩ ?_
  refine x_if_ne F (tgt := 19) dG_checkCode_6 (by decide) (fun c1 => ?_) (fun c1 => ?_)
  · skip
    have c1 : (gHas γ (e0) (co)) = true := bI_1 c1
    rw [hok] at c1
    cases c1
  · skip
    have c1 : (gHas γ (e0) (co)) = false := bI_0 c1
    exact yT (tx := "no code of the edition") F hfl hex x_ok3 klG_123 kqJA knJA kcG_checkCode (by decide) (by decide) dG_checkCode_9 dG_checkCode_12 dG_checkCode_13 dG_checkCode_15 dG_checkCode_18 (Nat.le_of_ble_eq_true rfl) (Nat.le_of_ble_eq_true rfl) (Nat.le_of_ble_eq_true rfl) (Nat.le_of_ble_eq_true rfl) (Nat.le_of_ble_eq_true rfl) (Nat.le_of_ble_eq_true rfl) (fun n' hn' => ⟨hn', rfl⟩)
end
