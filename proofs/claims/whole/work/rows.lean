section
-- ===== PART A: goes FIRST, ahead of the names: the tables' words, and 'selects' of the private methods out of them =====
/-- a private method of a class that the tables say can be made, by its rows of tables_1 -/
def lw_okq (q : MethodName × Nat) : Prop := (q.1.cls ≠ "java/lang/invoke/MethodHandle" ∧ q.1.cls ≠ "java/lang/invoke/VarHandle") ∧ Cond.instantiable q.1.cls q.2 ∈ tables_1 ∧ Cond.privateMethod q.1 ∈ tables_1 ∧ Cond.instanceMethod q.1 ∈ tables_1
theorem lw_p0 : lw_okq (⟨"GoodsTree", "hasCode", "(IJ)Z"⟩, 7) := ⟨⟨by decide +kernel, by decide +kernel⟩, List.mem_of_getElem? (i := 16) (by decide +kernel), List.mem_of_getElem? (i := 198) (by decide +kernel), List.mem_of_getElem? (i := 199) (by decide +kernel)⟩
theorem lw_p1 : lw_okq (⟨"GoodsTree$Pairs", "has", "(I)Z"⟩, 5) := ⟨⟨by decide +kernel, by decide +kernel⟩, List.mem_of_getElem? (i := 56) (by decide +kernel), List.mem_of_getElem? (i := 214) (by decide +kernel), List.mem_of_getElem? (i := 215) (by decide +kernel)⟩
theorem lw_p2 : lw_okq (⟨"GoodsTree", "countInEdition", "(I)I"⟩, 7) := ⟨⟨by decide +kernel, by decide +kernel⟩, List.mem_of_getElem? (i := 16) (by decide +kernel), List.mem_of_getElem? (i := 239) (by decide +kernel), List.mem_of_getElem? (i := 240) (by decide +kernel)⟩
theorem lw_p3 : lw_okq (⟨"GoodsTree$TextReader", "start", "()V"⟩, 7) := ⟨⟨by decide +kernel, by decide +kernel⟩, List.mem_of_getElem? (i := 24) (by decide +kernel), List.mem_of_getElem? (i := 267) (by decide +kernel), List.mem_of_getElem? (i := 268) (by decide +kernel)⟩
theorem lw_p4 : lw_okq (⟨"GoodsTree$TextReader", "fail", "(II)Z"⟩, 7) := ⟨⟨by decide +kernel, by decide +kernel⟩, List.mem_of_getElem? (i := 24) (by decide +kernel), List.mem_of_getElem? (i := 271) (by decide +kernel), List.mem_of_getElem? (i := 272) (by decide +kernel)⟩
theorem lw_p5 : lw_okq (⟨"GoodsTree$TextReader", "readRow", "(LGoodsTree$Tree;)Z"⟩, 7) := ⟨⟨by decide +kernel, by decide +kernel⟩, List.mem_of_getElem? (i := 24) (by decide +kernel), List.mem_of_getElem? (i := 275) (by decide +kernel), List.mem_of_getElem? (i := 276) (by decide +kernel)⟩
theorem lw_p6 : lw_okq (⟨"GoodsTree$TextReader", "here", "()C"⟩, 7) := ⟨⟨by decide +kernel, by decide +kernel⟩, List.mem_of_getElem? (i := 24) (by decide +kernel), List.mem_of_getElem? (i := 279) (by decide +kernel), List.mem_of_getElem? (i := 280) (by decide +kernel)⟩
theorem lw_p7 : lw_okq (⟨"GoodsTree$TextReader", "countDashes", "()I"⟩, 7) := ⟨⟨by decide +kernel, by decide +kernel⟩, List.mem_of_getElem? (i := 24) (by decide +kernel), List.mem_of_getElem? (i := 283) (by decide +kernel), List.mem_of_getElem? (i := 284) (by decide +kernel)⟩
theorem lw_p8 : lw_okq (⟨"GoodsTree$TextReader", "readCodeAndWords", "(LGoodsTree$Tree;I)Z"⟩, 7) := ⟨⟨by decide +kernel, by decide +kernel⟩, List.mem_of_getElem? (i := 24) (by decide +kernel), List.mem_of_getElem? (i := 303) (by decide +kernel), List.mem_of_getElem? (i := 304) (by decide +kernel)⟩
theorem lw_p9 : lw_okq (⟨"GoodsTree$TextReader", "readCode", "()J"⟩, 7) := ⟨⟨by decide +kernel, by decide +kernel⟩, List.mem_of_getElem? (i := 24) (by decide +kernel), List.mem_of_getElem? (i := 307) (by decide +kernel), List.mem_of_getElem? (i := 308) (by decide +kernel)⟩
theorem lw_p10 : lw_okq (⟨"GoodsTree$TextReader", "readWords", "(I)Z"⟩, 7) := ⟨⟨by decide +kernel, by decide +kernel⟩, List.mem_of_getElem? (i := 24) (by decide +kernel), List.mem_of_getElem? (i := 343) (by decide +kernel), List.mem_of_getElem? (i := 344) (by decide +kernel)⟩
theorem lw_p11 : lw_okq (⟨"GoodsTree$TextReader", "readWord", "()J"⟩, 7) := ⟨⟨by decide +kernel, by decide +kernel⟩, List.mem_of_getElem? (i := 24) (by decide +kernel), List.mem_of_getElem? (i := 347) (by decide +kernel), List.mem_of_getElem? (i := 348) (by decide +kernel)⟩
theorem lw_p12 : lw_okq (⟨"java/lang/Throwable", "fillInStackTrace", "(I)Ljava/lang/Throwable;"⟩, 6) := ⟨⟨by decide +kernel, by decide +kernel⟩, List.mem_of_getElem? (i := 411) (by decide +kernel), List.mem_of_getElem? (i := 409) (by decide +kernel), List.mem_of_getElem? (i := 410) (by decide +kernel)⟩
theorem lw_p13 : lw_okq (⟨"GoodsTree$Pairs", "drop", "(I)V"⟩, 5) := ⟨⟨by decide +kernel, by decide +kernel⟩, List.mem_of_getElem? (i := 56) (by decide +kernel), List.mem_of_getElem? (i := 445) (by decide +kernel), List.mem_of_getElem? (i := 446) (by decide +kernel)⟩
theorem lw_p14 : lw_okq (⟨"GoodsTree", "checkCode", "(IJ)V"⟩, 7) := ⟨⟨by decide +kernel, by decide +kernel⟩, List.mem_of_getElem? (i := 16) (by decide +kernel), List.mem_of_getElem? (i := 553) (by decide +kernel), List.mem_of_getElem? (i := 554) (by decide +kernel)⟩
theorem lw_p15 : lw_okq (⟨"GoodsTree", "pointsOf", "(LGoodsTree$Tree;I)I"⟩, 7) := ⟨⟨by decide +kernel, by decide +kernel⟩, List.mem_of_getElem? (i := 16) (by decide +kernel), List.mem_of_getElem? (i := 593) (by decide +kernel), List.mem_of_getElem? (i := 594) (by decide +kernel)⟩
def lw_privs_1 : List (MethodName × Nat) := [(⟨"GoodsTree", "hasCode", "(IJ)Z"⟩, 7), (⟨"GoodsTree$Pairs", "has", "(I)Z"⟩, 5), (⟨"GoodsTree", "countInEdition", "(I)I"⟩, 7), (⟨"GoodsTree$TextReader", "start", "()V"⟩, 7), (⟨"GoodsTree$TextReader", "fail", "(II)Z"⟩, 7), (⟨"GoodsTree$TextReader", "readRow", "(LGoodsTree$Tree;)Z"⟩, 7), (⟨"GoodsTree$TextReader", "here", "()C"⟩, 7), (⟨"GoodsTree$TextReader", "countDashes", "()I"⟩, 7), (⟨"GoodsTree$TextReader", "readCodeAndWords", "(LGoodsTree$Tree;I)Z"⟩, 7), (⟨"GoodsTree$TextReader", "readCode", "()J"⟩, 7), (⟨"GoodsTree$TextReader", "readWords", "(I)Z"⟩, 7), (⟨"GoodsTree$TextReader", "readWord", "()J"⟩, 7), (⟨"java/lang/Throwable", "fillInStackTrace", "(I)Ljava/lang/Throwable;"⟩, 6), (⟨"GoodsTree$Pairs", "drop", "(I)V"⟩, 5), (⟨"GoodsTree", "checkCode", "(IJ)V"⟩, 7), (⟨"GoodsTree", "pointsOf", "(LGoodsTree$Tree;I)I"⟩, 7)]
theorem lw_r1 : ∀ q ∈ lw_privs_1, lw_okq q := List.forall_mem_cons.mpr ⟨lw_p0, List.forall_mem_cons.mpr ⟨lw_p1, List.forall_mem_cons.mpr ⟨lw_p2, List.forall_mem_cons.mpr ⟨lw_p3, List.forall_mem_cons.mpr ⟨lw_p4, List.forall_mem_cons.mpr ⟨lw_p5, List.forall_mem_cons.mpr ⟨lw_p6, List.forall_mem_cons.mpr ⟨lw_p7, List.forall_mem_cons.mpr ⟨lw_p8, List.forall_mem_cons.mpr ⟨lw_p9, List.forall_mem_cons.mpr ⟨lw_p10, List.forall_mem_cons.mpr ⟨lw_p11, List.forall_mem_cons.mpr ⟨lw_p12, List.forall_mem_cons.mpr ⟨lw_p13, List.forall_mem_cons.mpr ⟨lw_p14, List.forall_mem_cons.mpr ⟨lw_p15, fun _ h => absurd h List.not_mem_nil⟩⟩⟩⟩⟩⟩⟩⟩⟩⟩⟩⟩⟩⟩⟩⟩
theorem lw_p16 : lw_okq (⟨"GoodsTree$Tree", "hasWord", "(IJ)Z"⟩, 8) := ⟨⟨by decide +kernel, by decide +kernel⟩, List.mem_of_getElem? (i := 97) (by decide +kernel), List.mem_of_getElem? (i := 603) (by decide +kernel), List.mem_of_getElem? (i := 604) (by decide +kernel)⟩
theorem lw_p17 : lw_okq (⟨"GoodsTree", "isLeftOut", "(LGoodsTree$Tree;I)Z"⟩, 7) := ⟨⟨by decide +kernel, by decide +kernel⟩, List.mem_of_getElem? (i := 16) (by decide +kernel), List.mem_of_getElem? (i := 609) (by decide +kernel), List.mem_of_getElem? (i := 610) (by decide +kernel)⟩
theorem lw_p18 : lw_okq (⟨"GoodsTreeModel", "reads", "()Z"⟩, 27) := ⟨⟨by decide +kernel, by decide +kernel⟩, List.mem_of_getElem? (i := 638) (by decide +kernel), List.mem_of_getElem? (i := 747) (by decide +kernel), List.mem_of_getElem? (i := 748) (by decide +kernel)⟩
theorem lw_p19 : lw_okq (⟨"GoodsTreeModel", "readsCode", "(I)Z"⟩, 27) := ⟨⟨by decide +kernel, by decide +kernel⟩, List.mem_of_getElem? (i := 638) (by decide +kernel), List.mem_of_getElem? (i := 751) (by decide +kernel), List.mem_of_getElem? (i := 752) (by decide +kernel)⟩
theorem lw_p20 : lw_okq (⟨"GoodsTreeModel", "run", "(II)I"⟩, 27) := ⟨⟨by decide +kernel, by decide +kernel⟩, List.mem_of_getElem? (i := 638) (by decide +kernel), List.mem_of_getElem? (i := 755) (by decide +kernel), List.mem_of_getElem? (i := 756) (by decide +kernel)⟩
theorem lw_p21 : lw_okq (⟨"GoodsTreeModel", "fails", "(II)Z"⟩, 27) := ⟨⟨by decide +kernel, by decide +kernel⟩, List.mem_of_getElem? (i := 638) (by decide +kernel), List.mem_of_getElem? (i := 759) (by decide +kernel), List.mem_of_getElem? (i := 760) (by decide +kernel)⟩
theorem lw_p22 : lw_okq (⟨"GoodsTreeModel", "codeAt", "(II)J"⟩, 27) := ⟨⟨by decide +kernel, by decide +kernel⟩, List.mem_of_getElem? (i := 638) (by decide +kernel), List.mem_of_getElem? (i := 763) (by decide +kernel), List.mem_of_getElem? (i := 764) (by decide +kernel)⟩
theorem lw_p23 : lw_okq (⟨"GoodsTreeModel", "above", "(II)I"⟩, 27) := ⟨⟨by decide +kernel, by decide +kernel⟩, List.mem_of_getElem? (i := 638) (by decide +kernel), List.mem_of_getElem? (i := 769) (by decide +kernel), List.mem_of_getElem? (i := 770) (by decide +kernel)⟩
theorem lw_p24 : lw_okq (⟨"GoodsTreeModel", "readsWords", "(III)I"⟩, 27) := ⟨⟨by decide +kernel, by decide +kernel⟩, List.mem_of_getElem? (i := 638) (by decide +kernel), List.mem_of_getElem? (i := 786) (by decide +kernel), List.mem_of_getElem? (i := 787) (by decide +kernel)⟩
theorem lw_p25 : lw_okq (⟨"GoodsTreeModel", "wordAt", "(II)J"⟩, 27) := ⟨⟨by decide +kernel, by decide +kernel⟩, List.mem_of_getElem? (i := 638) (by decide +kernel), List.mem_of_getElem? (i := 790) (by decide +kernel), List.mem_of_getElem? (i := 791) (by decide +kernel)⟩
theorem lw_p26 : lw_okq (⟨"GoodsTreeModel", "refuse", "(I)I"⟩, 27) := ⟨⟨by decide +kernel, by decide +kernel⟩, List.mem_of_getElem? (i := 638) (by decide +kernel), List.mem_of_getElem? (i := 796) (by decide +kernel), List.mem_of_getElem? (i := 797) (by decide +kernel)⟩
theorem lw_p27 : lw_okq (⟨"GoodsTreeModel", "forget", "(I)V"⟩, 27) := ⟨⟨by decide +kernel, by decide +kernel⟩, List.mem_of_getElem? (i := 638) (by decide +kernel), List.mem_of_getElem? (i := 800) (by decide +kernel), List.mem_of_getElem? (i := 801) (by decide +kernel)⟩
theorem lw_p28 : lw_okq (⟨"GoodsTreeModel", "below", "(II)I"⟩, 27) := ⟨⟨by decide +kernel, by decide +kernel⟩, List.mem_of_getElem? (i := 638) (by decide +kernel), List.mem_of_getElem? (i := 819) (by decide +kernel), List.mem_of_getElem? (i := 820) (by decide +kernel)⟩
theorem lw_p29 : lw_okq (⟨"GoodsTreeModel", "rowOf", "(IJ)I"⟩, 27) := ⟨⟨by decide +kernel, by decide +kernel⟩, List.mem_of_getElem? (i := 638) (by decide +kernel), List.mem_of_getElem? (i := 827) (by decide +kernel), List.mem_of_getElem? (i := 828) (by decide +kernel)⟩
theorem lw_p30 : lw_okq (⟨"GoodsTreeModel", "hasNote", "(JIJ)Z"⟩, 27) := ⟨⟨by decide +kernel, by decide +kernel⟩, List.mem_of_getElem? (i := 638) (by decide +kernel), List.mem_of_getElem? (i := 835) (by decide +kernel), List.mem_of_getElem? (i := 836) (by decide +kernel)⟩
theorem lw_p31 : lw_okq (⟨"GoodsTreeModel", "isNote", "(IJIJ)Z"⟩, 27) := ⟨⟨by decide +kernel, by decide +kernel⟩, List.mem_of_getElem? (i := 638) (by decide +kernel), List.mem_of_getElem? (i := 839) (by decide +kernel), List.mem_of_getElem? (i := 840) (by decide +kernel)⟩
def lw_privs_2 : List (MethodName × Nat) := [(⟨"GoodsTree$Tree", "hasWord", "(IJ)Z"⟩, 8), (⟨"GoodsTree", "isLeftOut", "(LGoodsTree$Tree;I)Z"⟩, 7), (⟨"GoodsTreeModel", "reads", "()Z"⟩, 27), (⟨"GoodsTreeModel", "readsCode", "(I)Z"⟩, 27), (⟨"GoodsTreeModel", "run", "(II)I"⟩, 27), (⟨"GoodsTreeModel", "fails", "(II)Z"⟩, 27), (⟨"GoodsTreeModel", "codeAt", "(II)J"⟩, 27), (⟨"GoodsTreeModel", "above", "(II)I"⟩, 27), (⟨"GoodsTreeModel", "readsWords", "(III)I"⟩, 27), (⟨"GoodsTreeModel", "wordAt", "(II)J"⟩, 27), (⟨"GoodsTreeModel", "refuse", "(I)I"⟩, 27), (⟨"GoodsTreeModel", "forget", "(I)V"⟩, 27), (⟨"GoodsTreeModel", "below", "(II)I"⟩, 27), (⟨"GoodsTreeModel", "rowOf", "(IJ)I"⟩, 27), (⟨"GoodsTreeModel", "hasNote", "(JIJ)Z"⟩, 27), (⟨"GoodsTreeModel", "isNote", "(IJIJ)Z"⟩, 27)]
theorem lw_r2 : ∀ q ∈ lw_privs_2, lw_okq q := List.forall_mem_cons.mpr ⟨lw_p16, List.forall_mem_cons.mpr ⟨lw_p17, List.forall_mem_cons.mpr ⟨lw_p18, List.forall_mem_cons.mpr ⟨lw_p19, List.forall_mem_cons.mpr ⟨lw_p20, List.forall_mem_cons.mpr ⟨lw_p21, List.forall_mem_cons.mpr ⟨lw_p22, List.forall_mem_cons.mpr ⟨lw_p23, List.forall_mem_cons.mpr ⟨lw_p24, List.forall_mem_cons.mpr ⟨lw_p25, List.forall_mem_cons.mpr ⟨lw_p26, List.forall_mem_cons.mpr ⟨lw_p27, List.forall_mem_cons.mpr ⟨lw_p28, List.forall_mem_cons.mpr ⟨lw_p29, List.forall_mem_cons.mpr ⟨lw_p30, List.forall_mem_cons.mpr ⟨lw_p31, fun _ h => absurd h List.not_mem_nil⟩⟩⟩⟩⟩⟩⟩⟩⟩⟩⟩⟩⟩⟩⟩⟩
theorem lw_p32 : lw_okq (⟨"GoodsTreeModel", "notesOf", "(I)I"⟩, 27) := ⟨⟨by decide +kernel, by decide +kernel⟩, List.mem_of_getElem? (i := 638) (by decide +kernel), List.mem_of_getElem? (i := 843) (by decide +kernel), List.mem_of_getElem? (i := 844) (by decide +kernel)⟩
theorem lw_p33 : lw_okq (⟨"GoodsTreeModel", "isLink", "(IIJI)Z"⟩, 27) := ⟨⟨by decide +kernel, by decide +kernel⟩, List.mem_of_getElem? (i := 638) (by decide +kernel), List.mem_of_getElem? (i := 855) (by decide +kernel), List.mem_of_getElem? (i := 856) (by decide +kernel)⟩
theorem lw_p34 : lw_okq (⟨"GoodsTreeModel", "isOf", "(IJI)Z"⟩, 27) := ⟨⟨by decide +kernel, by decide +kernel⟩, List.mem_of_getElem? (i := 638) (by decide +kernel), List.mem_of_getElem? (i := 863) (by decide +kernel), List.mem_of_getElem? (i := 864) (by decide +kernel)⟩
theorem lw_p35 : lw_okq (⟨"GoodsTreeModel", "linksOf", "(IJI)I"⟩, 27) := ⟨⟨by decide +kernel, by decide +kernel⟩, List.mem_of_getElem? (i := 638) (by decide +kernel), List.mem_of_getElem? (i := 867) (by decide +kernel), List.mem_of_getElem? (i := 868) (by decide +kernel)⟩
theorem lw_p36 : lw_okq (⟨"GoodsTreeModel", "linksTo", "(IIJ)I"⟩, 27) := ⟨⟨by decide +kernel, by decide +kernel⟩, List.mem_of_getElem? (i := 638) (by decide +kernel), List.mem_of_getElem? (i := 871) (by decide +kernel), List.mem_of_getElem? (i := 872) (by decide +kernel)⟩
theorem lw_p37 : lw_okq (⟨"GoodsTreeModel", "pointsOf", "(I)I"⟩, 27) := ⟨⟨by decide +kernel, by decide +kernel⟩, List.mem_of_getElem? (i := 638) (by decide +kernel), List.mem_of_getElem? (i := 887) (by decide +kernel), List.mem_of_getElem? (i := 888) (by decide +kernel)⟩
theorem lw_p38 : lw_okq (⟨"GoodsTreeModel", "has", "(IJ)Z"⟩, 27) := ⟨⟨by decide +kernel, by decide +kernel⟩, List.mem_of_getElem? (i := 638) (by decide +kernel), List.mem_of_getElem? (i := 891) (by decide +kernel), List.mem_of_getElem? (i := 892) (by decide +kernel)⟩
def lw_privs_3 : List (MethodName × Nat) := [(⟨"GoodsTreeModel", "notesOf", "(I)I"⟩, 27), (⟨"GoodsTreeModel", "isLink", "(IIJI)Z"⟩, 27), (⟨"GoodsTreeModel", "isOf", "(IJI)Z"⟩, 27), (⟨"GoodsTreeModel", "linksOf", "(IJI)I"⟩, 27), (⟨"GoodsTreeModel", "linksTo", "(IIJ)I"⟩, 27), (⟨"GoodsTreeModel", "pointsOf", "(I)I"⟩, 27), (⟨"GoodsTreeModel", "has", "(IJ)Z"⟩, 27)]
theorem lw_r3 : ∀ q ∈ lw_privs_3, lw_okq q := List.forall_mem_cons.mpr ⟨lw_p32, List.forall_mem_cons.mpr ⟨lw_p33, List.forall_mem_cons.mpr ⟨lw_p34, List.forall_mem_cons.mpr ⟨lw_p35, List.forall_mem_cons.mpr ⟨lw_p36, List.forall_mem_cons.mpr ⟨lw_p37, List.forall_mem_cons.mpr ⟨lw_p38, fun _ h => absurd h List.not_mem_nil⟩⟩⟩⟩⟩⟩⟩
def lw_privs : List (MethodName × Nat) := lw_privs_1 ++ (lw_privs_2 ++ (lw_privs_3))
def lw_tbl : List Cond := k2_sels lw_privs ++ tables_1
theorem lw_privs_ok : ∀ q ∈ lw_privs, lw_okq q := by
  show ∀ q ∈ lw_privs_1 ++ (lw_privs_2 ++ (lw_privs_3)), lw_okq q
  exact List.forall_mem_append.mpr ⟨lw_r1, List.forall_mem_append.mpr ⟨lw_r2, lw_r3⟩⟩
end
section
/-! what the tables and the statics say beside the words: calls of nest mates, the array of trees, what a throw needs -/
def x_St : List (Nat × String) := [(64, "the text is no nomenclature"), (93, "no such row"), (113, "no such what"), (125, "no such codes or kind for a note"), (136, "no room for the note, or it is there"), (145, "no code of the present edition"), (204, "no two editions"), (206, "no code of the edition"), (177, "the text is no words"), (189, "no such row found, or no such what")]
abbrev x_TN : String := "java/lang/Throwable"
abbrev x_UD : String := "[Ljava/lang/StackTraceElement;"
abbrev x_LD : String := "Ljava/util/List;"
/-- a static of Throwable that holds a reference or null, in a cell that isn't written -/
def x_Zs (n d : String) (A : Nat → Prop) (U : State) (H : Heap) : Prop := ∃ (cf : ClassId) (kf : Class) (fi : Nat) (f : Field) (a : Nat) (cell : Cell) (v : Value), U.vm.findClass x_TN = some cf ∧ U.fieldFound? x_TN n d = some (cf, kf, fi, f) ∧ f.isStatic = true ∧ kf.statics = some a ∧ H[a]? = some cell ∧ cell.vm.isStatics = true ∧ cell.cls = cf ∧ f.slot < cell.slots.size ∧ kf.staticTypes[f.slot]? = some f.type ∧ cell.slots[f.slot]? = some v ∧ (v = .null ∨ ∃ r, v = .ref r) ∧ ¬ A a
theorem x_Zs.step {n d : String} {A B : Nat → Prop} {s U : State} {H0 H : Heap} (h : x_Zs n d A s H0) (hal : s.vm.Alike U.vm) (hk : ∀ q : Nat, q < H0.size → ¬ A q → H[q]? = H0[q]?) (hB : ∀ q, B q → A q) : x_Zs n d B U H := by
  obtain ⟨cf, kf, fi, f, a, cell, v, h0, h1, h2, h3, h4, h5, h6, h7, h8, h9, h10, h11⟩ := h
  obtain ⟨k', hi', he⟩ := State.fieldFound?_setVm hal h1
  exact ⟨cf, k', fi, f, a, cell, v, by rw [hal.findClass]; exact h0, hi', h2, by rw [he]; exact h3, by rw [hk a (Array.getElem?_eq_some_iff.mp h4).1 h11]; exact h4, h5, h6, h7, by rw [he]; exact h8, h9, h10, fun z => h11 (hB a z)⟩
theorem x_Zs.lays {n d : String} {A : Nat → Prop} {U : State} (h : x_Zs n d A U U.heap) (args : Array Value) : (Cond.laysStatic x_TN n d).before args U = true := by
  obtain ⟨cf, kf, fi, f, a, cell, v, h0, h1, h2, h3, h4, h5, h6, h7, h8, h9, h10, h11⟩ := h
  simp [Cond.before, Cond.holds, Cond.value, h0, h1, h2, h3, h4, h5, h6, h7, h8]
theorem x_Zs.isRef {n d : String} {A : Nat → Prop} {U : State} (h : x_Zs n d A U U.heap) (args : Array Value) : (Cond.isRef (.static x_TN n d)).before args U = true := by
  obtain ⟨cf, kf, fi, f, a, cell, v, h0, h1, h2, h3, h4, h5, h6, h7, h8, h9, h10, h11⟩ := h
  have he : (Term.static x_TN n d).eval args U none [] U = some v := by
    simp [Term.eval, State.fieldNamed?, h1, h2, h3, h4, h5, h9]
  rcases h10 with rfl | ⟨r, rfl⟩ <;> simp [Cond.before, Cond.holds, Cond.value, he]
theorem x_Zs.of {n d : String} {A : Nat → Prop} {args : Array Value} {s : State} (hl : (Cond.laysStatic x_TN n d).before args s = true) (hr : (Cond.isRef (.static x_TN n d)).before args s = true) (hA : ∀ a : Nat, a < s.heap.size → ¬ A a) : x_Zs n d A s s.heap := by
  obtain ⟨c, k, i, f, a, cell, hc, hi, hst, ha, hcell, hs, hcls, hlt, hty⟩ := Cond.laysStatic_spec hl
  cases hv : (Term.static x_TN n d).eval args s none [] s with
  | none => simp [Cond.before, Cond.holds, Cond.value, hv] at hr
  | some v =>
    obtain ⟨hst', a', cell', ha', hcell', -, hslot⟩ := Term.static_spec hi hv
    cases ha.symm.trans ha'
    cases hcell.symm.trans hcell'
    refine ⟨c, k, i, f, a, cell, v, hc, hi, hst, ha, hcell, hs, hcls, hlt, hty, hslot, ?_, hA a (Array.getElem?_eq_some_iff.mp hcell).1⟩
    cases v <;> first | exact Or.inl rfl | exact Or.inr ⟨_, rfl⟩ | (simp [Cond.before, Cond.holds, Cond.value, hv] at hr)
def x_E (A : Nat → Prop) (U : State) (H : Heap) : Prop :=
  (va_Nw (Jvm.Cond.methodLinkNest "GoodsTree" (9 : Nat) ({ cls := "GoodsTree$TextReader", name := "<init>", desc := "()V" } : Jvm.MethodName) "GoodsTree") U ∧ va_Nw (Jvm.Cond.methodLinkNest "GoodsTree" (36 : Nat) ({ cls := "GoodsTree$Findings", name := "<init>", desc := "()V" } : Jvm.MethodName) "GoodsTree") U ∧ va_Nw (Jvm.Cond.methodLinkNest "GoodsTree" (41 : Nat) ({ cls := "GoodsTree$Tree", name := "<init>", desc := "()V" } : Jvm.MethodName) "GoodsTree") U ∧ va_Nw (Jvm.Cond.castable "java/lang/IllegalStateException" "java/lang/IllegalStateException") U ∧ va_Nw (Jvm.Cond.castable "java/lang/IndexOutOfBoundsException" "java/lang/IndexOutOfBoundsException") U ∧ va_Nw (Jvm.Cond.castable "java/lang/IllegalArgumentException" "java/lang/IllegalArgumentException") U ∧ va_Nw (Jvm.Cond.declares ({ cls := "java/lang/RuntimeException", name := "<init>", desc := "()V" } : Jvm.MethodName)) U ∧ va_Nw (Jvm.Cond.declares ({ cls := "java/lang/RuntimeException", name := "<init>", desc := "(Ljava/lang/String;)V" } : Jvm.MethodName)) U ∧ va_Nw (Jvm.Cond.declares ({ cls := "java/lang/Exception", name := "<init>", desc := "()V" } : Jvm.MethodName)) U ∧ va_Nw (Jvm.Cond.declares ({ cls := "java/lang/Exception", name := "<init>", desc := "(Ljava/lang/String;)V" } : Jvm.MethodName)) U ∧ va_Nw (Jvm.Cond.declares ({ cls := "java/lang/Throwable", name := "<init>", desc := "()V" } : Jvm.MethodName)) U ∧ va_Nw (Jvm.Cond.declares ({ cls := "java/lang/Throwable", name := "<init>", desc := "(Ljava/lang/String;)V" } : Jvm.MethodName)) U) ∧ va_AO "GoodsTree$Tree" U ∧ (∀ q ∈ x_St, ∃ a, vk_R "GoodsTree" q.1 q.2 a U) ∧ x_Zs "UNASSIGNED_STACK" x_UD A U H ∧ x_Zs "SUPPRESSED_SENTINEL" x_LD A U H
theorem x_E.step {A B : Nat → Prop} {s U : State} {H0 H : Heap} (h : x_E A s H0) (hW : s.WarmedH U.vm) (hk : ∀ q : Nat, q < H0.size → ¬ A q → H[q]? = H0[q]?) (hB : ∀ q, B q → A q) : x_E B U H := by
  obtain ⟨⟨h0, h1, h2, h3, h4, h5, h6, h7, h8, h9, h10, h11⟩, ha, hs, z1, z2⟩ := h
  exact ⟨⟨va_Nw.warmM hW h0, va_Nw.warmM hW h1, va_Nw.warmM hW h2, va_Nw.warmC hW h3, va_Nw.warmC hW h4, va_Nw.warmC hW h5, va_Nw.warmD hW h6, va_Nw.warmD hW h7, va_Nw.warmD hW h8, va_Nw.warmD hW h9, va_Nw.warmD hW h10, va_Nw.warmD hW h11⟩, va_AO.moved hW.alike ha, fun q hq => by obtain ⟨a, h⟩ := hs q hq; exact ⟨a, h.warm hW⟩, z1.step hW.alike hk hB, z2.step hW.alike hk hB⟩
theorem x_E.same {A : Nat → Prop} {s U : State} {H : Heap} (h : x_E A s H) (hv : U.vm = s.vm) : x_E A U H := by
  obtain ⟨⟨h0, h1, h2, h3, h4, h5, h6, h7, h8, h9, h10, h11⟩, ha, hs, z1, z2⟩ := h
  have hal : s.vm.Alike U.vm := by rw [hv]; exact Vm.Alike.refl s.vm
  exact ⟨⟨va_Nw.same rfl hv.symm h0, va_Nw.same rfl hv.symm h1, va_Nw.same rfl hv.symm h2, va_Nw.same rfl hv.symm h3, va_Nw.same rfl hv.symm h4, va_Nw.same rfl hv.symm h5, va_Nw.same rfl hv.symm h6, va_Nw.same rfl hv.symm h7, va_Nw.same rfl hv.symm h8, va_Nw.same rfl hv.symm h9, va_Nw.same rfl hv.symm h10, va_Nw.same rfl hv.symm h11⟩, va_AO.moved hal ha, fun q hq => by obtain ⟨a, h⟩ := hs q hq; exact ⟨a, vk_R.same hv h⟩, z1.step hal (fun _ _ _ => rfl) (fun _ h => h), z2.step hal (fun _ _ _ => rfl) (fun _ h => h)⟩
end
section
/-! THE V-KIT: the machine over one world M: what lies at which address (an array's entry has its type instead of its class's number); nx: how many cells there are. -/
abbrev xE : Type := (FieldType × vp_A) ⊕ (Nat × List Value)
abbrev xH : Type := Nat → Option xE
def x_up (M : xH) (a : Nat) (e : xE) : xH := fun b => if b = a then some e else M b
theorem x_up_s {M : xH} {a : Nat} {e : xE} : x_up M a e a = some e := if_pos rfl
theorem x_up_n {M : xH} {a b : Nat} {e : xE} (h : b ≠ a) : x_up M a e b = M b := if_neg h
theorem x_up_k {M : xH} {a b : Nat} {e f : xE} (hM : M b = some f) (h : b ≠ a) : x_up M a e b = some f := (x_up_n h).trans hM
def x_at (D : va_G) (cl : List vw_C) (U : State) (H : Heap) (a : Nat) (e : xE) : Prop := match e with
  | .inl q => ∃ cA : ClassId, (ArrOfT U cA q.1 ∧ va_RA U cA q.1) ∧ H[a]? = some (vp_cell cA q.2)
  | .inr o => va_at D cl (a, .inr o) H
theorem x_at.kept {D : va_G} {cl : List vw_C} {U : State} {H H1 : Heap} {a : Nat} {e : xE} (h : x_at D cl U H a e) (hq : H1[a]? = H[a]?) : x_at D cl U H1 a e := by
  cases e with
  | inl q =>
    obtain ⟨cA, h1, h2⟩ := h
    exact ⟨cA, h1, hq.trans h2⟩
  | inr o => exact va_at.kept (q := (a, .inr o)) h hq
theorem x_at.lt {D : va_G} {cl : List vw_C} {U : State} {H : Heap} {a : Nat} {e : xE} (h : x_at D cl U H a e) : a < H.size := by
  cases e with
  | inl q =>
    obtain ⟨cA, h1, h2⟩ := h
    exact (Array.getElem?_eq_some_iff.mp h2).1
  | inr o => exact va_at.lt (q := (a, .inr o)) h
theorem x_at.moved {D : va_G} {cl : List vw_C} {u U : State} (hvm : u.vm.Alike U.vm) {H : Heap} {a : Nat} {e : xE} (h : x_at D cl u H a e) : x_at D cl U H a e := by
  cases e with
  | inl q =>
    obtain ⟨cA, h1, h2⟩ := h
    exact ⟨cA, ⟨arrOfT_moved hvm h1.1, h1.2.moved hvm⟩, h2⟩
  | inr o => exact h
def x_R (D : va_G) (cl : List vw_C) (U : State) (A : Nat → Prop) (M : xH) (H : Heap) : Prop :=
  ∀ (a : Nat) (e : xE), M a = some e → x_at D cl U H a e ∧ A a
theorem x_R.set {D : va_G} {cl : List vw_C} {U : State} {A : Nat → Prop} {M : xH} {H H1 : Heap} (h : x_R D cl U A M H) {a : Nat} {e : xE} (hA : A a) (h1 : x_at D cl U H1 a e) (oq : ∀ q : Nat, q ≠ a → H1[q]? = H[q]?) : x_R D cl U A (x_up M a e) H1 := by
  intro b f hb
  by_cases hab : b = a
  · subst hab
    rw [x_up_s] at hb
    cases hb
    exact ⟨h1, hA⟩
  · rw [x_up_n hab] at hb
    exact ⟨(h b f hb).1.kept (oq b hab), (h b f hb).2⟩
theorem x_R.new {D : va_G} {cl : List vw_C} {U : State} {A : Nat → Prop} {M : xH} {H H1 : Heap} (h : x_R D cl U A M H) {e : xE} (hA : A H.size) (h1 : x_at D cl U H1 H.size e) (oq : ∀ q : Nat, q < H.size → H1[q]? = H[q]?) : x_R D cl U A (x_up M H.size e) H1 := by
  intro b f hb
  by_cases hab : b = H.size
  · subst hab
    rw [x_up_s] at hb
    cases hb
    exact ⟨h1, hA⟩
  · rw [x_up_n hab] at hb
    exact ⟨(h b f hb).1.kept (oq b ((h b f hb).1.lt)), (h b f hb).2⟩
theorem x_R.moved {D : va_G} {cl : List vw_C} {u U : State} (hvm : u.vm.Alike U.vm) {A : Nat → Prop} {M : xH} {H : Heap} (h : x_R D cl u A M H) : x_R D cl U A M H := fun a e ha => ⟨(h a e ha).1.moved hvm, (h a e ha).2⟩
theorem x_R.weaken {D : va_G} {cl : List vw_C} {U : State} {A B : Nat → Prop} {M : xH} {H : Heap} (h : x_R D cl U A M H) (hB : ∀ a e, M a = some e → A a → B a) : x_R D cl U B M H := fun a e ha => ⟨(h a e ha).1, hB a e ha (h a e ha).2⟩
/-- which cells a method may write: its world's, and those that it makes -/
def x_A (M : xH) (nx : Nat) : Nat → Prop := fun q => (∃ e : xE, M q = some e) ∨ nx ≤ q
theorem x_one {D : va_G} {cl : List vw_C} {q : Nat × va_E} {H : Heap} (h : va_at D cl q H) : va_P D cl [q] H := fun k q' hk => by
  cases k with
  | zero => cases hk; exact h
  | succ k => simp at hk
theorem x_K1 {D : va_G} {cl : List vw_C} {U : State} (hK : va_K D cl [] U) {cA : ClassId} {ty : FieldType} (h : ArrOfT U cA ty ∧ va_RA U cA ty) : va_K D cl [(cA, ty)] U := ⟨hK.1, fun k q hk => by
  cases k with
  | zero => cases hk; exact h
  | succ k => simp at hk⟩
def xF (p : Program) (s : State) (m : MethodId) (args : Array Value) (meth : Method) (c : Code) (D : va_G) (cl : List vw_C) (A : Nat → Prop) (cc : ByteArray) (nL : Nat) (own : String) (Ts : List Cond) : Prop :=
  CallFix p m c cc nL s args Ts own ∧ va_K D cl [] s ∧ (∀ q : Nat, s.heap.size ≤ q → A q) ∧ meth.locks = false ∧ x_E A s s.heap
def xW (p : Program) (l : Launch) (e : Env) (R : Room) (s : State) (m : MethodId) (args : Array Value) (below : List Frame) (meth : Method) (c : Code) (D : va_G) (cl : List vw_C) (A : Nat → Prop) (nL : Nat) (Q : State → Prop) (cells slots nx : Nat) (M : xH) (pc : Nat) (lv : List (Nat × Value)) (st : List Value) : Prop :=
  ∀ (H : Heap) (locs : List Loc) (ls : Array Slot), H.size = nx → va_S A s.heap H locs → x_R D cl s A M H → lv_has ls nL lv → W p l e R s m args below meth c H locs cells slots Q (F0 m pc ls st)
end
section
section XW
variable {p : Program} {l : Launch} {e : Env} {R : Room} {s : State} {m : MethodId} {args : Array Value} {below : List Frame} {meth : Method} {c : Code} {D : va_G} {cl : List vw_C} {A : Nat → Prop} {nL : Nat} {Q : State → Prop} {cells slots nx : Nat} {M : xH} {pc : Nat} {lv : List (Nat × Value)} {st : List Value}
variable {cc : ByteArray} {own : String} {Ts : List Cond}
theorem xW.widen {k n : Nat} (h1 : cells ≤ k) (h2 : slots ≤ n) (kk : xW p l e R s m args below meth c D cl A nL Q k n nx M pc lv st) : xW p l e R s m args below meth c D cl A nL Q cells slots nx M pc lv st :=
  fun H locs ls hz hS hR hl => W.widen h1 h2 (kk H locs ls hz hS hR hl)
theorem xW.sub {lv' : List (Nat × Value)} (ks : List Nat) (hk : lv_pick lv ks = lv') (k : xW p l e R s m args below meth c D cl A nL Q cells slots nx M pc lv' st) : xW p l e R s m args below meth c D cl A nL Q cells slots nx M pc lv st :=
  fun H locs ls hz hS hR hl => k H locs ls hz hS hR (lv_sub hl ks hk)
theorem xW.topi {x : Int32} (k : ∀ y : Int32, y = x → xW p l e R s m args below meth c D cl A nL Q cells slots nx M pc lv (.int y :: st)) : xW p l e R s m args below meth c D cl A nL Q cells slots nx M pc lv (.int x :: st) := k x rfl
theorem xW.topl {x : Int64} (k : ∀ y : Int64, y = x → xW p l e R s m args below meth c D cl A nL Q cells slots nx M pc lv (.long y :: st)) : xW p l e R s m args below meth c D cl A nL Q cells slots nx M pc lv (.long x :: st) := k x rfl
theorem xW.toi {x : Int32} (y : Int32) (h : x = y) (k : xW p l e R s m args below meth c D cl A nL Q cells slots nx M pc lv (.int y :: st)) : xW p l e R s m args below meth c D cl A nL Q cells slots nx M pc lv (.int x :: st) := h ▸ k
theorem xW.tol {x : Int64} (y : Int64) (h : x = y) (k : xW p l e R s m args below meth c D cl A nL Q cells slots nx M pc lv (.long y :: st)) : xW p l e R s m args below meth c D cl A nL Q cells slots nx M pc lv (.long x :: st) := h ▸ k
theorem x_iconst (F : xF p s m args meth c D cl A cc nL own Ts) {n : Int} {v : Int32} (hdg : decode cc pc = .ok (.iconst n, 1)) (hv : Int32.ofInt n = v) (k : xW p l e R s m args below meth c D cl A nL Q cells slots nx M (pc + 1) lv (.int v :: st)) : xW p l e R s m args below meth c D cl A nL Q cells slots nx M pc lv (st) :=
  fun H locs ls hz hS hR hl => lv_iconst F.1.1 F.1.2.1 hdg hv (k H locs ls hz hS hR hl)
theorem x_bipush (F : xF p s m args meth c D cl A cc nL own Ts) {n : Int} {v : Int32} (hdg : decode cc pc = .ok (.bipush n, 2)) (hv : (Int8.ofInt n).toInt32 = v) (k : xW p l e R s m args below meth c D cl A nL Q cells slots nx M (pc + 2) lv (.int v :: st)) : xW p l e R s m args below meth c D cl A nL Q cells slots nx M pc lv (st) :=
  fun H locs ls hz hS hR hl => lv_bipush F.1.1 F.1.2.1 hdg hv (k H locs ls hz hS hR hl)
theorem x_sipush (F : xF p s m args meth c D cl A cc nL own Ts) {n : Int} {v : Int32} (hdg : decode cc pc = .ok (.sipush n, 3)) (hv : (Int16.ofInt n).toInt32 = v) (k : xW p l e R s m args below meth c D cl A nL Q cells slots nx M (pc + 3) lv (.int v :: st)) : xW p l e R s m args below meth c D cl A nL Q cells slots nx M pc lv (st) :=
  fun H locs ls hz hS hR hl => lv_sipush F.1.1 F.1.2.1 hdg hv (k H locs ls hz hS hR hl)
theorem x_lconst (F : xF p s m args meth c D cl A cc nL own Ts) {n : Fin 2} {v : Int64} (hdg : decode cc pc = .ok (.lconst n, 1)) (hv : Int64.ofNat (n : Nat) = v) (k : xW p l e R s m args below meth c D cl A nL Q cells slots nx M (pc + 1) lv (.long v :: st)) : xW p l e R s m args below meth c D cl A nL Q cells slots nx M pc lv (st) :=
  fun H locs ls hz hS hR hl => lv_lconst F.1.1 F.1.2.1 hdg hv (k H locs ls hz hS hR hl)
theorem x_null (F : xF p s m args meth c D cl A cc nL own Ts)  (hdg : decode cc pc = .ok (.aconst_null, 1)) (k : xW p l e R s m args below meth c D cl A nL Q cells slots nx M (pc + 1) lv (.null :: st)) : xW p l e R s m args below meth c D cl A nL Q cells slots nx M pc lv (st) :=
  fun H locs ls hz hS hR hl => lv_null F.1.1 F.1.2.1 hdg (k H locs ls hz hS hR hl)
theorem x_ldc (F : xF p s m args meth c D cl A cc nL own Ts) {index : Nat} {v : Int32} (hc : Jvm.Cond.constant own index v ∈ Ts) (hdg : decode cc pc = .ok (.ldc index, 2)) (k : xW p l e R s m args below meth c D cl A nL Q cells slots nx M (pc + 2) lv (.int v :: st)) : xW p l e R s m args below meth c D cl A nL Q cells slots nx M pc lv (st) :=
  fun H locs ls hz hS hR hl => lv_ldc F.1.1 F.1.2.1 F.1.2.2.2.1 (F.1.2.2.2.2 _ hc) hdg (k H locs ls hz hS hR hl)
theorem x_ldc2 (F : xF p s m args meth c D cl A cc nL own Ts) {index : Nat} {v : Int64} (hc : Jvm.Cond.constantLong own index v ∈ Ts) (hdg : decode cc pc = .ok (.ldc2_w index, 3)) (k : xW p l e R s m args below meth c D cl A nL Q cells slots nx M (pc + 3) lv (.long v :: st)) : xW p l e R s m args below meth c D cl A nL Q cells slots nx M pc lv (st) :=
  fun H locs ls hz hS hR hl => lv_ldc2 F.1.1 F.1.2.1 F.1.2.2.2.1 (F.1.2.2.2.2 _ hc) hdg (k H locs ls hz hS hR hl)
theorem x_iload_n (F : xF p s m args meth c D cl A cc nL own Ts) {j : Fin 4} {i : Nat} {x : Int32} (q : Nat) (hdg : decode cc pc = .ok (.iload_n j, 1)) (hi : (j : Nat) = i) (hq : lv[q]? = some (i, .int x)) (k : xW p l e R s m args below meth c D cl A nL Q cells slots nx M (pc + 1) lv (.int x :: st)) : xW p l e R s m args below meth c D cl A nL Q cells slots nx M pc lv (st) :=
  fun H locs ls hz hS hR hl => lv_iload_n F.1.1 F.1.2.1 hdg hi (lv_at hl q hq) (k H locs ls hz hS hR hl)
theorem x_iload (F : xF p s m args meth c D cl A cc nL own Ts) {i : Nat} {x : Int32} (q : Nat) (hdg : decode cc pc = .ok (.iload i, 2)) (hq : lv[q]? = some (i, .int x)) (k : xW p l e R s m args below meth c D cl A nL Q cells slots nx M (pc + 2) lv (.int x :: st)) : xW p l e R s m args below meth c D cl A nL Q cells slots nx M pc lv (st) :=
  fun H locs ls hz hS hR hl => lv_iload F.1.1 F.1.2.1 hdg (lv_at hl q hq) (k H locs ls hz hS hR hl)
theorem x_istore_n (F : xF p s m args meth c D cl A cc nL own Ts) {j : Fin 4} {i : Nat} {x : Int32} (lv' : List (Nat × Value)) (hdg : decode cc pc = .ok (.istore_n j, 1)) (hi : (j : Nat) = i) (hn : i < nL) (hl' : (i, Value.int x) :: lv.filter (fun q => !(q.1 == i) && !(q.1 + 1 == i && q.2.category == 2)) = lv') (k : xW p l e R s m args below meth c D cl A nL Q cells slots nx M (pc + 1) lv' st) : xW p l e R s m args below meth c D cl A nL Q cells slots nx M pc lv (.int x :: st) :=
  fun H locs ls hz hS hR hl => lv_istore_n F.1.1 F.1.2.1 hdg hi hl hn hl' (fun ls' h' => k H locs ls' hz hS hR h')
theorem x_istore (F : xF p s m args meth c D cl A cc nL own Ts) {i : Nat} {x : Int32} (lv' : List (Nat × Value)) (hdg : decode cc pc = .ok (.istore i, 2)) (hn : i < nL) (hl' : (i, Value.int x) :: lv.filter (fun q => !(q.1 == i) && !(q.1 + 1 == i && q.2.category == 2)) = lv') (k : xW p l e R s m args below meth c D cl A nL Q cells slots nx M (pc + 2) lv' st) : xW p l e R s m args below meth c D cl A nL Q cells slots nx M pc lv (.int x :: st) :=
  fun H locs ls hz hS hR hl => lv_istore F.1.1 F.1.2.1 hdg hl hn hl' (fun ls' h' => k H locs ls' hz hS hR h')
theorem x_lload_n (F : xF p s m args meth c D cl A cc nL own Ts) {j : Fin 4} {i : Nat} {x : Int64} (q : Nat) (hdg : decode cc pc = .ok (.lload_n j, 1)) (hi : (j : Nat) = i) (hq : lv[q]? = some (i, .long x)) (k : xW p l e R s m args below meth c D cl A nL Q cells slots nx M (pc + 1) lv (.long x :: st)) : xW p l e R s m args below meth c D cl A nL Q cells slots nx M pc lv (st) :=
  fun H locs ls hz hS hR hl => lv_lload_n F.1.1 F.1.2.1 hdg hi (lv_at hl q hq) (k H locs ls hz hS hR hl)
theorem x_lload (F : xF p s m args meth c D cl A cc nL own Ts) {i : Nat} {x : Int64} (q : Nat) (hdg : decode cc pc = .ok (.lload i, 2)) (hq : lv[q]? = some (i, .long x)) (k : xW p l e R s m args below meth c D cl A nL Q cells slots nx M (pc + 2) lv (.long x :: st)) : xW p l e R s m args below meth c D cl A nL Q cells slots nx M pc lv (st) :=
  fun H locs ls hz hS hR hl => lv_lload F.1.1 F.1.2.1 hdg (lv_at hl q hq) (k H locs ls hz hS hR hl)
theorem x_lstore_n (F : xF p s m args meth c D cl A cc nL own Ts) {j : Fin 4} {i : Nat} {x : Int64} (lv' : List (Nat × Value)) (hdg : decode cc pc = .ok (.lstore_n j, 1)) (hi : (j : Nat) = i) (hn : i + 1 < nL) (hl' : (i, Value.long x) :: lv.filter (fun q => !(q.1 == i) && (!(q.1 == i + 1) && !(q.1 + 1 == i && q.2.category == 2))) = lv') (k : xW p l e R s m args below meth c D cl A nL Q cells slots nx M (pc + 1) lv' st) : xW p l e R s m args below meth c D cl A nL Q cells slots nx M pc lv (.long x :: st) :=
  fun H locs ls hz hS hR hl => lv_lstore_n F.1.1 F.1.2.1 hdg hi hl hn hl' (fun ls' h' => k H locs ls' hz hS hR h')
theorem x_lstore (F : xF p s m args meth c D cl A cc nL own Ts) {i : Nat} {x : Int64} (lv' : List (Nat × Value)) (hdg : decode cc pc = .ok (.lstore i, 2)) (hn : i + 1 < nL) (hl' : (i, Value.long x) :: lv.filter (fun q => !(q.1 == i) && (!(q.1 == i + 1) && !(q.1 + 1 == i && q.2.category == 2))) = lv') (k : xW p l e R s m args below meth c D cl A nL Q cells slots nx M (pc + 2) lv' st) : xW p l e R s m args below meth c D cl A nL Q cells slots nx M pc lv (.long x :: st) :=
  fun H locs ls hz hS hR hl => lv_lstore F.1.1 F.1.2.1 hdg hl hn hl' (fun ls' h' => k H locs ls' hz hS hR h')
theorem x_aload_n (F : xF p s m args meth c D cl A cc nL own Ts) {j : Fin 4} {i : Nat} {x : Nat} (q : Nat) (hdg : decode cc pc = .ok (.aload_n j, 1)) (hi : (j : Nat) = i) (hq : lv[q]? = some (i, .ref x)) (k : xW p l e R s m args below meth c D cl A nL Q cells slots nx M (pc + 1) lv (.ref x :: st)) : xW p l e R s m args below meth c D cl A nL Q cells slots nx M pc lv (st) :=
  fun H locs ls hz hS hR hl => lv_aload_n F.1.1 F.1.2.1 hdg hi (lv_at hl q hq) (k H locs ls hz hS hR hl)
theorem x_aload (F : xF p s m args meth c D cl A cc nL own Ts) {i : Nat} {x : Nat} (q : Nat) (hdg : decode cc pc = .ok (.aload i, 2)) (hq : lv[q]? = some (i, .ref x)) (k : xW p l e R s m args below meth c D cl A nL Q cells slots nx M (pc + 2) lv (.ref x :: st)) : xW p l e R s m args below meth c D cl A nL Q cells slots nx M pc lv (st) :=
  fun H locs ls hz hS hR hl => lv_aload F.1.1 F.1.2.1 hdg (lv_at hl q hq) (k H locs ls hz hS hR hl)
theorem x_astore_n (F : xF p s m args meth c D cl A cc nL own Ts) {j : Fin 4} {i : Nat} {x : Nat} (lv' : List (Nat × Value)) (hdg : decode cc pc = .ok (.astore_n j, 1)) (hi : (j : Nat) = i) (hn : i < nL) (hl' : (i, Value.ref x) :: lv.filter (fun q => !(q.1 == i) && !(q.1 + 1 == i && q.2.category == 2)) = lv') (k : xW p l e R s m args below meth c D cl A nL Q cells slots nx M (pc + 1) lv' st) : xW p l e R s m args below meth c D cl A nL Q cells slots nx M pc lv (.ref x :: st) :=
  fun H locs ls hz hS hR hl => lv_astore_n F.1.1 F.1.2.1 hdg hi hl hn hl' (fun ls' h' => k H locs ls' hz hS hR h')
theorem x_astore (F : xF p s m args meth c D cl A cc nL own Ts) {i : Nat} {x : Nat} (lv' : List (Nat × Value)) (hdg : decode cc pc = .ok (.astore i, 2)) (hn : i < nL) (hl' : (i, Value.ref x) :: lv.filter (fun q => !(q.1 == i) && !(q.1 + 1 == i && q.2.category == 2)) = lv') (k : xW p l e R s m args below meth c D cl A nL Q cells slots nx M (pc + 2) lv' st) : xW p l e R s m args below meth c D cl A nL Q cells slots nx M pc lv (.ref x :: st) :=
  fun H locs ls hz hS hR hl => lv_astore F.1.1 F.1.2.1 hdg hl hn hl' (fun ls' h' => k H locs ls' hz hS hR h')
theorem x_iinc (F : xF p s m args meth c D cl A cc nL own Ts) {i : Nat} {n : Int} {x v : Int32} (q : Nat) (lv' : List (Nat × Value)) (hdg : decode cc pc = .ok (.iinc i n, 3)) (hq : lv[q]? = some (i, .int x)) (hv : x + Int32.ofInt n = v) (hn : i < nL) (hl' : (i, Value.int v) :: lv.filter (fun q => !(q.1 == i) && !(q.1 + 1 == i && q.2.category == 2)) = lv') (k : xW p l e R s m args below meth c D cl A nL Q cells slots nx M (pc + 3) lv' st) : xW p l e R s m args below meth c D cl A nL Q cells slots nx M pc lv st :=
  fun H locs ls hz hS hR hl => lv_iinc F.1.1 F.1.2.1 hdg hl (k := q) hq hv hn hl' (fun ls' h' => k H locs ls' hz hS hR h')
theorem x_iadd (F : xF p s m args meth c D cl A cc nL own Ts) {x y : Int32} (hdg : decode cc pc = .ok (.iadd, 1))  (k : xW p l e R s m args below meth c D cl A nL Q cells slots nx M (pc + 1) lv (.int (x + y) :: st)) : xW p l e R s m args below meth c D cl A nL Q cells slots nx M pc lv (.int y :: .int x :: st) :=
  fun H locs ls hz hS hR hl => lv_iadd F.1.1 F.1.2.1 hdg (k H locs ls hz hS hR hl)
theorem x_isub (F : xF p s m args meth c D cl A cc nL own Ts) {x y : Int32} (hdg : decode cc pc = .ok (.isub, 1))  (k : xW p l e R s m args below meth c D cl A nL Q cells slots nx M (pc + 1) lv (.int (x - y) :: st)) : xW p l e R s m args below meth c D cl A nL Q cells slots nx M pc lv (.int y :: .int x :: st) :=
  fun H locs ls hz hS hR hl => lv_isub F.1.1 F.1.2.1 hdg (k H locs ls hz hS hR hl)
theorem x_imul (F : xF p s m args meth c D cl A cc nL own Ts) {x y : Int32} (hdg : decode cc pc = .ok (.imul, 1))  (k : xW p l e R s m args below meth c D cl A nL Q cells slots nx M (pc + 1) lv (.int (x * y) :: st)) : xW p l e R s m args below meth c D cl A nL Q cells slots nx M pc lv (.int y :: .int x :: st) :=
  fun H locs ls hz hS hR hl => lv_imul F.1.1 F.1.2.1 hdg (k H locs ls hz hS hR hl)
theorem x_iand (F : xF p s m args meth c D cl A cc nL own Ts) {x y : Int32} (hdg : decode cc pc = .ok (.iand, 1))  (k : xW p l e R s m args below meth c D cl A nL Q cells slots nx M (pc + 1) lv (.int (x &&& y) :: st)) : xW p l e R s m args below meth c D cl A nL Q cells slots nx M pc lv (.int y :: .int x :: st) :=
  fun H locs ls hz hS hR hl => lv_iand F.1.1 F.1.2.1 hdg (k H locs ls hz hS hR hl)
theorem x_ior (F : xF p s m args meth c D cl A cc nL own Ts) {x y : Int32} (hdg : decode cc pc = .ok (.ior, 1))  (k : xW p l e R s m args below meth c D cl A nL Q cells slots nx M (pc + 1) lv (.int (x ||| y) :: st)) : xW p l e R s m args below meth c D cl A nL Q cells slots nx M pc lv (.int y :: .int x :: st) :=
  fun H locs ls hz hS hR hl => lv_ior F.1.1 F.1.2.1 hdg (k H locs ls hz hS hR hl)
theorem x_ixor (F : xF p s m args meth c D cl A cc nL own Ts) {x y : Int32} (hdg : decode cc pc = .ok (.ixor, 1))  (k : xW p l e R s m args below meth c D cl A nL Q cells slots nx M (pc + 1) lv (.int (x ^^^ y) :: st)) : xW p l e R s m args below meth c D cl A nL Q cells slots nx M pc lv (.int y :: .int x :: st) :=
  fun H locs ls hz hS hR hl => lv_ixor F.1.1 F.1.2.1 hdg (k H locs ls hz hS hR hl)
theorem x_idiv (F : xF p s m args meth c D cl A cc nL own Ts) {x y : Int32} (hdg : decode cc pc = .ok (.idiv, 1)) (hne : ¬ y = 0)  (k : xW p l e R s m args below meth c D cl A nL Q cells slots nx M (pc + 1) lv (.int (x / y) :: st)) : xW p l e R s m args below meth c D cl A nL Q cells slots nx M pc lv (.int y :: .int x :: st) :=
  fun H locs ls hz hS hR hl => lv_idiv F.1.1 F.1.2.1 hdg hne (k H locs ls hz hS hR hl)
theorem x_irem (F : xF p s m args meth c D cl A cc nL own Ts) {x y : Int32} (hdg : decode cc pc = .ok (.irem, 1)) (hne : ¬ y = 0)  (k : xW p l e R s m args below meth c D cl A nL Q cells slots nx M (pc + 1) lv (.int (x - x / y * y) :: st)) : xW p l e R s m args below meth c D cl A nL Q cells slots nx M pc lv (.int y :: .int x :: st) :=
  fun H locs ls hz hS hR hl => lv_irem F.1.1 F.1.2.1 hdg hne (k H locs ls hz hS hR hl)
theorem x_ineg (F : xF p s m args meth c D cl A cc nL own Ts) {x : Int32} (hdg : decode cc pc = .ok (.ineg, 1)) (k : xW p l e R s m args below meth c D cl A nL Q cells slots nx M (pc + 1) lv (.int (-x) :: st)) : xW p l e R s m args below meth c D cl A nL Q cells slots nx M pc lv (.int x :: st) :=
  fun H locs ls hz hS hR hl => lv_ineg F.1.1 F.1.2.1 hdg (k H locs ls hz hS hR hl)
theorem x_ladd (F : xF p s m args meth c D cl A cc nL own Ts) {x y : Int64} (hdg : decode cc pc = .ok (.ladd, 1))  (k : xW p l e R s m args below meth c D cl A nL Q cells slots nx M (pc + 1) lv (.long (x + y) :: st)) : xW p l e R s m args below meth c D cl A nL Q cells slots nx M pc lv (.long y :: .long x :: st) :=
  fun H locs ls hz hS hR hl => lv_ladd F.1.1 F.1.2.1 hdg (k H locs ls hz hS hR hl)
theorem x_lsub (F : xF p s m args meth c D cl A cc nL own Ts) {x y : Int64} (hdg : decode cc pc = .ok (.lsub, 1))  (k : xW p l e R s m args below meth c D cl A nL Q cells slots nx M (pc + 1) lv (.long (x - y) :: st)) : xW p l e R s m args below meth c D cl A nL Q cells slots nx M pc lv (.long y :: .long x :: st) :=
  fun H locs ls hz hS hR hl => lv_lsub F.1.1 F.1.2.1 hdg (k H locs ls hz hS hR hl)
theorem x_lmul (F : xF p s m args meth c D cl A cc nL own Ts) {x y : Int64} (hdg : decode cc pc = .ok (.lmul, 1))  (k : xW p l e R s m args below meth c D cl A nL Q cells slots nx M (pc + 1) lv (.long (x * y) :: st)) : xW p l e R s m args below meth c D cl A nL Q cells slots nx M pc lv (.long y :: .long x :: st) :=
  fun H locs ls hz hS hR hl => lv_lmul F.1.1 F.1.2.1 hdg (k H locs ls hz hS hR hl)
theorem x_ldiv (F : xF p s m args meth c D cl A cc nL own Ts) {x y : Int64} (hdg : decode cc pc = .ok (.ldiv, 1)) (hne : ¬ y = 0)  (k : xW p l e R s m args below meth c D cl A nL Q cells slots nx M (pc + 1) lv (.long (x / y) :: st)) : xW p l e R s m args below meth c D cl A nL Q cells slots nx M pc lv (.long y :: .long x :: st) :=
  fun H locs ls hz hS hR hl => lv_ldiv F.1.1 F.1.2.1 hdg hne (k H locs ls hz hS hR hl)
theorem x_lrem (F : xF p s m args meth c D cl A cc nL own Ts) {x y : Int64} (hdg : decode cc pc = .ok (.lrem, 1)) (hne : ¬ y = 0)  (k : xW p l e R s m args below meth c D cl A nL Q cells slots nx M (pc + 1) lv (.long (x - x / y * y) :: st)) : xW p l e R s m args below meth c D cl A nL Q cells slots nx M pc lv (.long y :: .long x :: st) :=
  fun H locs ls hz hS hR hl => lv_lrem F.1.1 F.1.2.1 hdg hne (k H locs ls hz hS hR hl)
theorem x_lcmp (F : xF p s m args meth c D cl A cc nL own Ts) {x y : Int64} (hdg : decode cc pc = .ok (.lcmp, 1)) (k : xW p l e R s m args below meth c D cl A nL Q cells slots nx M (pc + 1) lv (.int (lg_cmp x y) :: st)) : xW p l e R s m args below meth c D cl A nL Q cells slots nx M pc lv (.long y :: .long x :: st) :=
  fun H locs ls hz hS hR hl => W.lcmp F.1.1 F.1.2.1 hdg (k H locs ls hz hS hR hl)
theorem x_i2l (F : xF p s m args meth c D cl A cc nL own Ts) {x : Int32} (hdg : decode cc pc = .ok (.i2l, 1)) (k : xW p l e R s m args below meth c D cl A nL Q cells slots nx M (pc + 1) lv (.long x.toInt64 :: st)) : xW p l e R s m args below meth c D cl A nL Q cells slots nx M pc lv (.int x :: st) :=
  fun H locs ls hz hS hR hl => lv_i2l F.1.1 F.1.2.1 hdg rfl (k H locs ls hz hS hR hl)
theorem x_l2i (F : xF p s m args meth c D cl A cc nL own Ts) {x : Int64} (hdg : decode cc pc = .ok (.l2i, 1)) (k : xW p l e R s m args below meth c D cl A nL Q cells slots nx M (pc + 1) lv (.int x.toInt32 :: st)) : xW p l e R s m args below meth c D cl A nL Q cells slots nx M pc lv (.long x :: st) :=
  fun H locs ls hz hS hR hl => lv_l2i F.1.1 F.1.2.1 hdg rfl (k H locs ls hz hS hR hl)
theorem x_i2c (F : xF p s m args meth c D cl A cc nL own Ts) {x : Int32} (hdg : decode cc pc = .ok (.i2c, 1)) (k : xW p l e R s m args below meth c D cl A nL Q cells slots nx M (pc + 1) lv (.int (x.toUInt32 % 65536).toInt32 :: st)) : xW p l e R s m args below meth c D cl A nL Q cells slots nx M pc lv (.int x :: st) :=
  fun H locs ls hz hS hR hl => lv_i2c F.1.1 F.1.2.1 hdg rfl (k H locs ls hz hS hR hl)
theorem x_dup (F : xF p s m args meth c D cl A cc nL own Ts) {va : Value} (hdg : decode cc pc = .ok (.dup, 1)) (hc : va.category = 1) (k : xW p l e R s m args below meth c D cl A nL Q cells slots nx M (pc + 1) lv (va :: va :: st)) : xW p l e R s m args below meth c D cl A nL Q cells slots nx M pc lv (va :: st) :=
  fun H locs ls hz hS hR hl => lv_dup F.1.1 F.1.2.1 hdg hc (k H locs ls hz hS hR hl)
theorem x_pop (F : xF p s m args meth c D cl A cc nL own Ts) {va : Value} (hdg : decode cc pc = .ok (.pop, 1)) (hc : va.category = 1) (k : xW p l e R s m args below meth c D cl A nL Q cells slots nx M (pc + 1) lv (st)) : xW p l e R s m args below meth c D cl A nL Q cells slots nx M pc lv (va :: st) :=
  fun H locs ls hz hS hR hl => lv_pop F.1.1 F.1.2.1 hdg hc (k H locs ls hz hS hR hl)
theorem x_pop2 (F : xF p s m args meth c D cl A cc nL own Ts) {va : Value} (hdg : decode cc pc = .ok (.pop2, 1)) (hc : va.category = 2) (k : xW p l e R s m args below meth c D cl A nL Q cells slots nx M (pc + 1) lv (st)) : xW p l e R s m args below meth c D cl A nL Q cells slots nx M pc lv (va :: st) :=
  fun H locs ls hz hS hR hl => lv_pop2_2 F.1.1 F.1.2.1 hdg hc (k H locs ls hz hS hR hl)
theorem x_dup2 (F : xF p s m args meth c D cl A cc nL own Ts) {va vb : Value} (hdg : decode cc pc = .ok (.dup2, 1)) (hc : va.category = 1) (hd : vb.category = 1) (k : xW p l e R s m args below meth c D cl A nL Q cells slots nx M (pc + 1) lv (va :: vb :: va :: vb :: st)) : xW p l e R s m args below meth c D cl A nL Q cells slots nx M pc lv (va :: vb :: st) :=
  fun H locs ls hz hS hR hl => lv_dup2_11 F.1.1 F.1.2.1 hdg hc hd (k H locs ls hz hS hR hl)
theorem x_dup_x1 (F : xF p s m args meth c D cl A cc nL own Ts) {va vb : Value} (hdg : decode cc pc = .ok (.dup_x1, 1)) (hc : va.category = 1) (hd : vb.category = 1) (k : xW p l e R s m args below meth c D cl A nL Q cells slots nx M (pc + 1) lv (va :: vb :: va :: st)) : xW p l e R s m args below meth c D cl A nL Q cells slots nx M pc lv (va :: vb :: st) :=
  fun H locs ls hz hS hR hl => lv_dup_x1 F.1.1 F.1.2.1 hdg hc hd (k H locs ls hz hS hR hl)
theorem x_dup_x2 (F : xF p s m args meth c D cl A cc nL own Ts) {va vb vd : Value} (hdg : decode cc pc = .ok (.dup_x2, 1)) (hc : va.category = 1) (hd : vb.category = 1) (he : vd.category = 1) (k : xW p l e R s m args below meth c D cl A nL Q cells slots nx M (pc + 1) lv (va :: vb :: vd :: va :: st)) : xW p l e R s m args below meth c D cl A nL Q cells slots nx M pc lv (va :: vb :: vd :: st) :=
  fun H locs ls hz hS hR hl => lv_dup_x2 F.1.1 F.1.2.1 hdg hc hd he (k H locs ls hz hS hR hl)
theorem x_goto (F : xF p s m args meth c D cl A cc nL own Ts) {off : Int} {tgt : Nat} (hdg : decode cc pc = .ok (.goto off, 3)) (ht : (pc : Int) + off = (tgt : Int)) (k : xW p l e R s m args below meth c D cl A nL Q cells slots nx M (tgt) lv (st)) : xW p l e R s m args below meth c D cl A nL Q cells slots nx M pc lv (st) :=
  fun H locs ls hz hS hR hl => lv_goto F.1.1 F.1.2.1 hdg ht (k H locs ls hz hS hR hl)
theorem x_ifnull (F : xF p s m args meth c D cl A cc nL own Ts) {x : Nat} {off : Int} (hdg : decode cc pc = .ok (.ifnull off, 3)) (k : xW p l e R s m args below meth c D cl A nL Q cells slots nx M (pc + 3) lv (st)) : xW p l e R s m args below meth c D cl A nL Q cells slots nx M pc lv (.ref x :: st) :=
  fun H locs ls hz hS hR hl => lv_ifnull F.1.1 F.1.2.1 hdg (k H locs ls hz hS hR hl)
theorem x_ifnonnull (F : xF p s m args meth c D cl A cc nL own Ts) {x : Nat} {off : Int} {tgt : Nat} (hdg : decode cc pc = .ok (.ifnonnull off, 3)) (ht : (pc : Int) + off = (tgt : Int)) (k : xW p l e R s m args below meth c D cl A nL Q cells slots nx M (tgt) lv (st)) : xW p l e R s m args below meth c D cl A nL Q cells slots nx M pc lv (.ref x :: st) :=
  fun H locs ls hz hS hR hl => lv_ifnonnull F.1.1 F.1.2.1 hdg ht (k H locs ls hz hS hR hl)
theorem x_ifnullN (F : xF p s m args meth c D cl A cc nL own Ts) {off : Int} {tgt : Nat} (hdg : decode cc pc = .ok (.ifnull off, 3)) (ht : (pc : Int) + off = (tgt : Int)) (k : xW p l e R s m args below meth c D cl A nL Q cells slots nx M (tgt) lv (st)) : xW p l e R s m args below meth c D cl A nL Q cells slots nx M pc lv (.null :: st) :=
  fun H locs ls hz hS hR hl => lv_ifnullN F.1.1 F.1.2.1 hdg ht (k H locs ls hz hS hR hl)
theorem x_ifnonnullN (F : xF p s m args meth c D cl A cc nL own Ts) {off : Int} (hdg : decode cc pc = .ok (.ifnonnull off, 3)) (k : xW p l e R s m args below meth c D cl A nL Q cells slots nx M (pc + 3) lv (st)) : xW p l e R s m args below meth c D cl A nL Q cells slots nx M pc lv (.null :: st) :=
  fun H locs ls hz hS hR hl => lv_ifnonnullN F.1.1 F.1.2.1 hdg (k H locs ls hz hS hR hl)
theorem x_if_eq (F : xF p s m args meth c D cl A cc nL own Ts) {x : Int32} {off : Int} {tgt : Nat} (hdg : decode cc pc = .ok (.ifCond .eq off, 3)) (ht : (pc : Int) + off = (tgt : Int)) (kt : x = 0 → xW p l e R s m args below meth c D cl A nL Q cells slots nx M tgt lv st) (kf : ¬ x = 0 → xW p l e R s m args below meth c D cl A nL Q cells slots nx M (pc + 3) lv st) : xW p l e R s m args below meth c D cl A nL Q cells slots nx M pc lv (.int x :: st) :=
  fun H locs ls hz hS hR hl => lv_if_eq F.1.1 F.1.2.1 hdg ht (fun h => kt h H locs ls hz hS hR hl) (fun h => kf h H locs ls hz hS hR hl)
theorem x_icmp_eq (F : xF p s m args meth c D cl A cc nL own Ts) {x y : Int32} {off : Int} {tgt : Nat} (hdg : decode cc pc = .ok (.if_icmp .eq off, 3)) (ht : (pc : Int) + off = (tgt : Int)) (kt : x = y → xW p l e R s m args below meth c D cl A nL Q cells slots nx M tgt lv st) (kf : ¬ x = y → xW p l e R s m args below meth c D cl A nL Q cells slots nx M (pc + 3) lv st) : xW p l e R s m args below meth c D cl A nL Q cells slots nx M pc lv (.int y :: .int x :: st) :=
  fun H locs ls hz hS hR hl => lv_icmp_eq F.1.1 F.1.2.1 hdg ht (fun h => kt h H locs ls hz hS hR hl) (fun h => kf h H locs ls hz hS hR hl)
theorem x_if_ne (F : xF p s m args meth c D cl A cc nL own Ts) {x : Int32} {off : Int} {tgt : Nat} (hdg : decode cc pc = .ok (.ifCond .ne off, 3)) (ht : (pc : Int) + off = (tgt : Int)) (kt : ¬ x = 0 → xW p l e R s m args below meth c D cl A nL Q cells slots nx M tgt lv st) (kf : x = 0 → xW p l e R s m args below meth c D cl A nL Q cells slots nx M (pc + 3) lv st) : xW p l e R s m args below meth c D cl A nL Q cells slots nx M pc lv (.int x :: st) :=
  fun H locs ls hz hS hR hl => lv_if_ne F.1.1 F.1.2.1 hdg ht (fun h => kt h H locs ls hz hS hR hl) (fun h => kf h H locs ls hz hS hR hl)
theorem x_icmp_ne (F : xF p s m args meth c D cl A cc nL own Ts) {x y : Int32} {off : Int} {tgt : Nat} (hdg : decode cc pc = .ok (.if_icmp .ne off, 3)) (ht : (pc : Int) + off = (tgt : Int)) (kt : ¬ x = y → xW p l e R s m args below meth c D cl A nL Q cells slots nx M tgt lv st) (kf : x = y → xW p l e R s m args below meth c D cl A nL Q cells slots nx M (pc + 3) lv st) : xW p l e R s m args below meth c D cl A nL Q cells slots nx M pc lv (.int y :: .int x :: st) :=
  fun H locs ls hz hS hR hl => lv_icmp_ne F.1.1 F.1.2.1 hdg ht (fun h => kt h H locs ls hz hS hR hl) (fun h => kf h H locs ls hz hS hR hl)
theorem x_if_lt (F : xF p s m args meth c D cl A cc nL own Ts) {x : Int32} {off : Int} {tgt : Nat} (hdg : decode cc pc = .ok (.ifCond .lt off, 3)) (ht : (pc : Int) + off = (tgt : Int)) (kt : x < 0 → xW p l e R s m args below meth c D cl A nL Q cells slots nx M tgt lv st) (kf : ¬ x < 0 → xW p l e R s m args below meth c D cl A nL Q cells slots nx M (pc + 3) lv st) : xW p l e R s m args below meth c D cl A nL Q cells slots nx M pc lv (.int x :: st) :=
  fun H locs ls hz hS hR hl => lv_if_lt F.1.1 F.1.2.1 hdg ht (fun h => kt h H locs ls hz hS hR hl) (fun h => kf h H locs ls hz hS hR hl)
theorem x_icmp_lt (F : xF p s m args meth c D cl A cc nL own Ts) {x y : Int32} {off : Int} {tgt : Nat} (hdg : decode cc pc = .ok (.if_icmp .lt off, 3)) (ht : (pc : Int) + off = (tgt : Int)) (kt : x < y → xW p l e R s m args below meth c D cl A nL Q cells slots nx M tgt lv st) (kf : ¬ x < y → xW p l e R s m args below meth c D cl A nL Q cells slots nx M (pc + 3) lv st) : xW p l e R s m args below meth c D cl A nL Q cells slots nx M pc lv (.int y :: .int x :: st) :=
  fun H locs ls hz hS hR hl => lv_icmp_lt F.1.1 F.1.2.1 hdg ht (fun h => kt h H locs ls hz hS hR hl) (fun h => kf h H locs ls hz hS hR hl)
theorem x_if_ge (F : xF p s m args meth c D cl A cc nL own Ts) {x : Int32} {off : Int} {tgt : Nat} (hdg : decode cc pc = .ok (.ifCond .ge off, 3)) (ht : (pc : Int) + off = (tgt : Int)) (kt : 0 ≤ x → xW p l e R s m args below meth c D cl A nL Q cells slots nx M tgt lv st) (kf : ¬ 0 ≤ x → xW p l e R s m args below meth c D cl A nL Q cells slots nx M (pc + 3) lv st) : xW p l e R s m args below meth c D cl A nL Q cells slots nx M pc lv (.int x :: st) :=
  fun H locs ls hz hS hR hl => lv_if_ge F.1.1 F.1.2.1 hdg ht (fun h => kt h H locs ls hz hS hR hl) (fun h => kf h H locs ls hz hS hR hl)
theorem x_icmp_ge (F : xF p s m args meth c D cl A cc nL own Ts) {x y : Int32} {off : Int} {tgt : Nat} (hdg : decode cc pc = .ok (.if_icmp .ge off, 3)) (ht : (pc : Int) + off = (tgt : Int)) (kt : y ≤ x → xW p l e R s m args below meth c D cl A nL Q cells slots nx M tgt lv st) (kf : ¬ y ≤ x → xW p l e R s m args below meth c D cl A nL Q cells slots nx M (pc + 3) lv st) : xW p l e R s m args below meth c D cl A nL Q cells slots nx M pc lv (.int y :: .int x :: st) :=
  fun H locs ls hz hS hR hl => lv_icmp_ge F.1.1 F.1.2.1 hdg ht (fun h => kt h H locs ls hz hS hR hl) (fun h => kf h H locs ls hz hS hR hl)
theorem x_if_gt (F : xF p s m args meth c D cl A cc nL own Ts) {x : Int32} {off : Int} {tgt : Nat} (hdg : decode cc pc = .ok (.ifCond .gt off, 3)) (ht : (pc : Int) + off = (tgt : Int)) (kt : 0 < x → xW p l e R s m args below meth c D cl A nL Q cells slots nx M tgt lv st) (kf : ¬ 0 < x → xW p l e R s m args below meth c D cl A nL Q cells slots nx M (pc + 3) lv st) : xW p l e R s m args below meth c D cl A nL Q cells slots nx M pc lv (.int x :: st) :=
  fun H locs ls hz hS hR hl => lv_if_gt F.1.1 F.1.2.1 hdg ht (fun h => kt h H locs ls hz hS hR hl) (fun h => kf h H locs ls hz hS hR hl)
theorem x_icmp_gt (F : xF p s m args meth c D cl A cc nL own Ts) {x y : Int32} {off : Int} {tgt : Nat} (hdg : decode cc pc = .ok (.if_icmp .gt off, 3)) (ht : (pc : Int) + off = (tgt : Int)) (kt : y < x → xW p l e R s m args below meth c D cl A nL Q cells slots nx M tgt lv st) (kf : ¬ y < x → xW p l e R s m args below meth c D cl A nL Q cells slots nx M (pc + 3) lv st) : xW p l e R s m args below meth c D cl A nL Q cells slots nx M pc lv (.int y :: .int x :: st) :=
  fun H locs ls hz hS hR hl => lv_icmp_gt F.1.1 F.1.2.1 hdg ht (fun h => kt h H locs ls hz hS hR hl) (fun h => kf h H locs ls hz hS hR hl)
theorem x_if_le (F : xF p s m args meth c D cl A cc nL own Ts) {x : Int32} {off : Int} {tgt : Nat} (hdg : decode cc pc = .ok (.ifCond .le off, 3)) (ht : (pc : Int) + off = (tgt : Int)) (kt : x ≤ 0 → xW p l e R s m args below meth c D cl A nL Q cells slots nx M tgt lv st) (kf : ¬ x ≤ 0 → xW p l e R s m args below meth c D cl A nL Q cells slots nx M (pc + 3) lv st) : xW p l e R s m args below meth c D cl A nL Q cells slots nx M pc lv (.int x :: st) :=
  fun H locs ls hz hS hR hl => lv_if_le F.1.1 F.1.2.1 hdg ht (fun h => kt h H locs ls hz hS hR hl) (fun h => kf h H locs ls hz hS hR hl)
theorem x_icmp_le (F : xF p s m args meth c D cl A cc nL own Ts) {x y : Int32} {off : Int} {tgt : Nat} (hdg : decode cc pc = .ok (.if_icmp .le off, 3)) (ht : (pc : Int) + off = (tgt : Int)) (kt : x ≤ y → xW p l e R s m args below meth c D cl A nL Q cells slots nx M tgt lv st) (kf : ¬ x ≤ y → xW p l e R s m args below meth c D cl A nL Q cells slots nx M (pc + 3) lv st) : xW p l e R s m args below meth c D cl A nL Q cells slots nx M pc lv (.int y :: .int x :: st) :=
  fun H locs ls hz hS hR hl => lv_icmp_le F.1.1 F.1.2.1 hdg ht (fun h => kt h H locs ls hz hS hR hl) (fun h => kf h H locs ls hz hS hR hl)
theorem x_tableIn (F : xF p s m args meth c D cl A cc nL own Ts) {dflt lo hi : Int} {offs : Array Int} {len : Nat} {x : Int32} {off : Int} {tgt : Nat} (hdg : decode cc pc = .ok (.tableswitch dflt lo hi offs, len)) (h1 : ¬ x.toInt < lo) (h2 : ¬ hi < x.toInt) (ho : offs[(x.toInt - lo).toNat]? = some off) (ht : (pc : Int) + off = (tgt : Int)) (k : xW p l e R s m args below meth c D cl A nL Q cells slots nx M tgt lv st) : xW p l e R s m args below meth c D cl A nL Q cells slots nx M pc lv (.int x :: st) :=
  fun H locs ls hz hS hR hl => lv_tableIn F.1.1 F.1.2.1 hdg h1 h2 ho ht (k H locs ls hz hS hR hl)
theorem x_tableOut (F : xF p s m args meth c D cl A cc nL own Ts) {dflt lo hi : Int} {offs : Array Int} {len : Nat} {x : Int32} {tgt : Nat} (hdg : decode cc pc = .ok (.tableswitch dflt lo hi offs, len)) (h : x.toInt < lo ∨ hi < x.toInt) (ht : (pc : Int) + dflt = (tgt : Int)) (k : xW p l e R s m args below meth c D cl A nL Q cells slots nx M tgt lv st) : xW p l e R s m args below meth c D cl A nL Q cells slots nx M pc lv (.int x :: st) :=
  fun H locs ls hz hS hR hl => lv_tableOut F.1.1 F.1.2.1 hdg h ht (k H locs ls hz hS hR hl)
theorem x_lookup (F : xF p s m args meth c D cl A cc nL own Ts) {dflt : Int} {ps : Array (Int × Int)} {len : Nat} {x : Int32} {off : Int} {tgt : Nat} (hdg : decode cc pc = .ok (.lookupswitch dflt ps, len)) (hp : (ps.toList.zip (ps.toList.drop 1)).all (fun (a, next) => a.1 < next.1) = true) (ho : Op.lookupswitch.offset ps.toList dflt x.toInt = off) (ht : (pc : Int) + off = (tgt : Int)) (k : xW p l e R s m args below meth c D cl A nL Q cells slots nx M tgt lv st) : xW p l e R s m args below meth c D cl A nL Q cells slots nx M pc lv (.int x :: st) :=
  fun H locs ls hz hS hR hl => lv_lookup F.1.1 F.1.2.1 hdg hp ho ht (k H locs ls hz hS hR hl)
end XW
end
section
section XH
variable {p : Program} {l : Launch} {e : Env} {R : Room} {s : State} {m : MethodId} {args : Array Value} {below : List Frame} {meth : Method} {c : Code} {D : va_G} {cl : List vw_C} {A : Nat → Prop} {nL : Nat} {Q : State → Prop} {cells slots nx : Nat} {M : xH} {pc : Nat} {lv : List (Nat × Value)} {st : List Value}
variable {cc : ByteArray} {own : String} {Ts : List Cond}
theorem x_get (F : xF p s m args meth c D cl A cc nL own Ts) {C : String} {T : u_T} {N ci index a : Nat} {fs : List Value} {v : Value} (k : Nat) (hin : ∀ w ∈ u_ws C T N, w ∈ Ts) (hc : cl[ci]? = some (C, T, N)) (hk : k < N) (hlink : Cond.fieldLink own index (T k).1 (T k).2.1 (T k).2.2.1 ∈ Ts) (hdg : decode cc pc = .ok (.getfield index, 3)) (he : M a = some (.inr (ci, fs))) (hv : fs[k]? = some v) (kk : xW p l e R s m args below meth c D cl A nL Q cells slots nx M (pc + 3) lv (v :: st)) : xW p l e R s m args below meth c D cl A nL Q cells slots nx M pc lv (.ref a :: st) :=
  fun H locs ls hz hS hR hl => va_get (D := D) (ws := [(a, .inr (ci, fs))]) (tys := []) F.1.1 F.1.2.1 F.1.2.2.2.2 hin F.1.2.2.2.1 F.2.1 (x_one (hR a _ he).1) 0 rfl hc k hk (F.1.2.2.2.2 _ hlink) (fun _ h => h) hv hdg (kk H locs ls hz hS hR hl)
theorem x_put (F : xF p s m args meth c D cl A cc nL own Ts) {C : String} {T : u_T} {N ci index a : Nat} {fs : List Value} {v : Value} {ty : FieldType} (k : Nat) (hin : ∀ w ∈ u_ws C T N, w ∈ Ts) (ty0 : Nat → FieldType) (hty : ∀ k, k < N → parseFieldDescriptor (T k).2.2.1 = some (ty0 k)) (hnm : ∀ a, a < N → ∀ b, b < N → a ≠ b → (T a).2.1 ≠ (T b).2.1) (hc : cl[ci]? = some (C, T, N)) (hk : k < N) (hlink : Cond.fieldLink own index (T k).1 (T k).2.1 (T k).2.2.1 ∈ Ts) (hdg : decode cc pc = .ok (.putfield index, 3)) (hfin : (T k).2.2.2 = false) (hd : parseFieldDescriptor (T k).2.2.1 = some ty) (hn : narrow ty v = v) (hfit : fits ty v = true) (he : M a = some (.inr (ci, fs))) (hl' : k < fs.length) (kk : xW p l e R s m args below meth c D cl A nL Q cells slots nx (x_up M a (.inr (ci, fs.set k v))) (pc + 3) lv st) : xW p l e R s m args below meth c D cl A nL Q cells slots nx M pc lv (v :: .ref a :: st) := by
  intro H locs ls hz hS hR hl
  have hap := va_apart (own := own) F.1.2.2.2.2 hin ty0 hty hnm F.2.1 hc
  obtain ⟨⟨r, h1, cell, q1, q2, q3, q4⟩, hAa⟩ := hR a _ he
  have hr : r = (C, T, N) := Option.some.inj (h1.symm.trans hc)
  subst hr
  obtain ⟨hSl, hfc, kC, hkC, hkind⟩ := F.2.1.1 ci _ hc
  obtain ⟨cf, kf, fi, f, hi, hsl⟩ := hSl k hk
  have hlay := F.1.2.2.2.2 _ (hin _ (u_in_lay hk))
  unfold u_lay at hlay
  rw [if_neg (by rw [hfin]; decide)] at hlay
  have hst := (u_facts hfc hkC (u_lays F.1.2.2.2.2 hin hk) hi).1
  have h6 := u_store hfc hkC hkind hlay hi hd hn hfit
  refine W.putK F.1.1 F.1.2.1 (f := f) ⟨F.1.2.2.2.1, F.1.2.2.2.2 _ hlink, ⟨_, _, _, hi⟩, hst⟩ (by rw [q2]; exact h6) q1 q3 (by rw [hsl]; exact k2_hasslot (q4 k hk)) rfl rfl hdg fun H' e1 e2 e3 => ?_
  rw [hsl] at e1 ⊢
  exact kk H' _ ls (e2.trans hz) (hS.put e2 e3 hAa) (hR.set hAa ⟨_, hc, t_OB.to (V := updV (vp_V fs) k v) ⟨_, e1, q2, q3, t_set q4 hap hk v⟩ (fun j _ => vp_updV_set hl' v j)⟩ e3) hl
theorem x_putF (F : xF p s m args meth c D cl A cc nL own Ts) {C : String} {T : u_T} {N ci index a : Nat} {fs : List Value} {v : Value} {ty : FieldType} (k : Nat) (hin : ∀ w ∈ u_ws C T N, w ∈ Ts) (ty0 : Nat → FieldType) (hty : ∀ k, k < N → parseFieldDescriptor (T k).2.2.1 = some (ty0 k)) (hnm : ∀ a, a < N → ∀ b, b < N → a ≠ b → (T a).2.1 ≠ (T b).2.1) (hc : cl[ci]? = some (C, T, N)) (hk : k < N) (hlink : Cond.fieldLink own index (T k).1 (T k).2.1 (T k).2.2.1 ∈ Ts) (hdg : decode cc pc = .ok (.putfield index, 3)) (hfin : (T k).2.2.2 = true) (hin2 : meth.name = "<init>") (hdecl : (T k).1 = own) (hd : parseFieldDescriptor (T k).2.2.1 = some ty) (hn : narrow ty v = v) (hfit : fits ty v = true) (he : M a = some (.inr (ci, fs))) (hl' : k < fs.length) (kk : xW p l e R s m args below meth c D cl A nL Q cells slots nx (x_up M a (.inr (ci, fs.set k v))) (pc + 3) lv st) : xW p l e R s m args below meth c D cl A nL Q cells slots nx M pc lv (v :: .ref a :: st) := by
  intro H locs ls hz hS hR hl
  have hap := va_apart (own := own) F.1.2.2.2.2 hin ty0 hty hnm F.2.1 hc
  obtain ⟨⟨r, h1, cell, q1, q2, q3, q4⟩, hAa⟩ := hR a _ he
  have hr : r = (C, T, N) := Option.some.inj (h1.symm.trans hc)
  subst hr
  obtain ⟨hSl, hfc, kC, hkC, hkind⟩ := F.2.1.1 ci _ hc
  obtain ⟨cf, kf, fi, f, hi, hsl⟩ := hSl k hk
  have hlay := F.1.2.2.2.2 _ (hin _ (u_in_lay hk))
  unfold u_lay at hlay
  rw [if_pos hfin] at hlay
  have hst := (u_facts hfc hkC (u_lays F.1.2.2.2.2 hin hk) hi).1
  have hcf : m.cls = cf := by
    obtain ⟨_, _, c', _, _, _, -, -, hf', -, -, -, hown2, -⟩ := Cond.laysFinal_spec hlay
    have e1 : c' = cf := by have := hi.symm.trans hf'; simp at this; exact this.1.symm
    rw [hdecl] at hown2
    rw [← e1]; exact Option.some.inj (F.1.2.2.2.1.symm.trans hown2)
  have h6 := u_fits hfc hkC hkind (Or.inr hlay) hi hd hn hfit
  refine W.putFinK F.1.1 F.1.2.1 F.1.2.2.2.1 (F.1.2.2.2.2 _ hlink) hi hst hcf hin2 (by rw [q2]; exact h6) q1 q3 (by rw [hsl]; exact k2_hasslot (q4 k hk)) rfl rfl hdg fun H' e1 e2 e3 => ?_
  rw [hsl] at e1 ⊢
  exact kk H' _ ls (e2.trans hz) (hS.put e2 e3 hAa) (hR.set hAa ⟨_, hc, t_OB.to (V := updV (vp_V fs) k v) ⟨_, e1, q2, q3, t_set q4 hap hk v⟩ (fun j _ => vp_updV_set hl' v j)⟩ e3) hl
theorem x_iald (F : xF p s m args meth c D cl A cc nL own Ts) {a n : Nat} {f : Nat → Int32} {i : Int32} (hdg : decode cc pc = .ok (.iaload, 1)) (he : M a = some (.inl (.int, n, .inl f))) (hin : vp_in i n) (k : xW p l e R s m args below meth c D cl A nL Q cells slots nx M (pc + 1) lv (.int (f i.toNatClampNeg) :: st)) : xW p l e R s m args below meth c D cl A nL Q cells slots nx M pc lv (.int i :: .ref a :: st) := by
  intro H locs ls hz hS hR hl
  obtain ⟨⟨cA, hA, hh⟩, -⟩ := hR a _ he
  exact va_iald (ws := [(a, .inl (cA, n, .inl f))]) (tys := [(cA, .int)]) F.1.1 F.1.2.1 (x_K1 F.2.1 hA) (x_one hh) 0 0 rfl rfl hin hdg (k H locs ls hz hS hR hl)
theorem x_cald (F : xF p s m args meth c D cl A cc nL own Ts) {a n : Nat} {f : Nat → Int32} {i : Int32} (hdg : decode cc pc = .ok (.caload, 1)) (he : M a = some (.inl (.char, n, .inl f))) (hin : vp_in i n) (k : xW p l e R s m args below meth c D cl A nL Q cells slots nx M (pc + 1) lv (.int (f i.toNatClampNeg) :: st)) : xW p l e R s m args below meth c D cl A nL Q cells slots nx M pc lv (.int i :: .ref a :: st) := by
  intro H locs ls hz hS hR hl
  obtain ⟨⟨cA, hA, hh⟩, -⟩ := hR a _ he
  exact va_cald (ws := [(a, .inl (cA, n, .inl f))]) (tys := [(cA, .char)]) F.1.1 F.1.2.1 (x_K1 F.2.1 hA) (x_one hh) 0 0 rfl rfl hin hdg (k H locs ls hz hS hR hl)
theorem x_bald (F : xF p s m args meth c D cl A cc nL own Ts) {a n : Nat} {f : Nat → Int32} {i : Int32} (hdg : decode cc pc = .ok (.baload, 1)) (he : M a = some (.inl (.byte, n, .inl f))) (hin : vp_in i n) (k : xW p l e R s m args below meth c D cl A nL Q cells slots nx M (pc + 1) lv (.int (f i.toNatClampNeg) :: st)) : xW p l e R s m args below meth c D cl A nL Q cells slots nx M pc lv (.int i :: .ref a :: st) := by
  intro H locs ls hz hS hR hl
  obtain ⟨⟨cA, hA, hh⟩, -⟩ := hR a _ he
  exact va_bald (ws := [(a, .inl (cA, n, .inl f))]) (tys := [(cA, .byte)]) F.1.1 F.1.2.1 (x_K1 F.2.1 hA) (x_one hh) 0 0 rfl rfl hin hdg (k H locs ls hz hS hR hl)
theorem x_lald (F : xF p s m args meth c D cl A cc nL own Ts) {a n : Nat} {f : Nat → Int64} {i : Int32} (hdg : decode cc pc = .ok (.laload, 1)) (he : M a = some (.inl (.long, n, .inr (.inl f)))) (hin : vp_in i n) (k : xW p l e R s m args below meth c D cl A nL Q cells slots nx M (pc + 1) lv (.long (f i.toNatClampNeg) :: st)) : xW p l e R s m args below meth c D cl A nL Q cells slots nx M pc lv (.int i :: .ref a :: st) := by
  intro H locs ls hz hS hR hl
  obtain ⟨⟨cA, hA, hh⟩, -⟩ := hR a _ he
  exact va_lald (ws := [(a, .inl (cA, n, .inr (.inl f)))]) (tys := [(cA, .long)]) F.1.1 F.1.2.1 (x_K1 F.2.1 hA) (x_one hh) 0 0 rfl rfl hin hdg (k H locs ls hz hS hR hl)
theorem x_zald (F : xF p s m args meth c D cl A cc nL own Ts) {a n : Nat} {f : Nat → Int32} {i : Int32} (hdg : decode cc pc = .ok (.baload, 1)) (he : M a = some (.inl (.boolean, n, .inl f))) (hin : vp_in i n) (k : xW p l e R s m args below meth c D cl A nL Q cells slots nx M (pc + 1) lv (.int (f i.toNatClampNeg) :: st)) : xW p l e R s m args below meth c D cl A nL Q cells slots nx M pc lv (.int i :: .ref a :: st) := by
  intro H locs ls hz hS hR hl
  obtain ⟨⟨cA, hA, hh⟩, -⟩ := hR a _ he
  exact va_zald (ws := [(a, .inl (cA, n, .inl f))]) (tys := [(cA, .boolean)]) F.1.1 F.1.2.1 (x_K1 F.2.1 hA) (x_one hh) 0 0 rfl rfl hin hdg (k H locs ls hz hS hR hl)
theorem x_aald (F : xF p s m args meth c D cl A cc nL own Ts) {a n : Nat} {C : String} {f : Nat → Option Nat} {i : Int32} (hdg : decode cc pc = .ok (.aaload, 1)) (he : M a = some (.inl (.object C, n, .inr (.inr (.inr (.inr f)))))) (hin : vp_in i n) (k : xW p l e R s m args below meth c D cl A nL Q cells slots nx M (pc + 1) lv (va_rf (f i.toNatClampNeg) :: st)) : xW p l e R s m args below meth c D cl A nL Q cells slots nx M pc lv (.int i :: .ref a :: st) := by
  intro H locs ls hz hS hR hl
  obtain ⟨⟨cA, hA, hh⟩, -⟩ := hR a _ he
  exact va_aldq (ws := [(a, .inl (cA, n, .inr (.inr (.inr (.inr f)))))]) (tys := [(cA, .object C)]) F.1.1 F.1.2.1 (x_K1 F.2.1 hA) (x_one hh) 0 0 rfl rfl hin hdg (k H locs ls hz hS hR hl)
theorem x_iast (F : xF p s m args meth c D cl A cc nL own Ts) {a n : Nat} {f : Nat → Int32} {i : Int32} {x : Int32} (hdg : decode cc pc = .ok (.iastore, 1)) (he : M a = some (.inl (.int, n, .inl f))) (hin : vp_in i n) (k : xW p l e R s m args below meth c D cl A nL Q cells slots nx (x_up M a (.inl (.int, n, .inl (upd f i.toNatClampNeg x)))) (pc + 1) lv st) : xW p l e R s m args below meth c D cl A nL Q cells slots nx M pc lv (.int x :: .int i :: .ref a :: st) := by
  intro H locs ls hz hS hR hl
  obtain ⟨⟨cA, hA, hh⟩, hAa⟩ := hR a _ he
  have hh : H[a]? = some (vp_cell cA (n, .inl f)) := hh
  refine W.iast F.1.1 F.1.2.1 hh (hA.1 n (fun j => .int (f j))) (fun q => by cases q) (by show ¬ (i < 0 ∨ (arrV _ _ _).slots.size ≤ _); rw [arrV_size]; exact hin) rfl rfl hdg fun H1 e z oq => ?_
  refine k H1 _ ls (z.trans hz) (hS.put z oq hAa) (hR.set hAa ⟨cA, hA, ?_⟩ oq) hl
  show H1[a]? = some (vp_cell cA (n, .inl (upd f i.toNatClampNeg x)))
  rw [e, vp_cell_i, vp_cell_i, arrV_store]
  congr 2
  funext q
  by_cases hq : q = i.toNatClampNeg
  · subst hq
    simp [updV, upd, vp_nar]
    try rfl
  · simp [updV, upd, vp_nar, hq]
theorem x_cast (F : xF p s m args meth c D cl A cc nL own Ts) {a n : Nat} {f : Nat → Int32} {i : Int32} {x : Int32} (hdg : decode cc pc = .ok (.castore, 1)) (he : M a = some (.inl (.char, n, .inl f))) (hin : vp_in i n) (k : xW p l e R s m args below meth c D cl A nL Q cells slots nx (x_up M a (.inl (.char, n, .inl (upd f i.toNatClampNeg (vp_nar .char x))))) (pc + 1) lv st) : xW p l e R s m args below meth c D cl A nL Q cells slots nx M pc lv (.int x :: .int i :: .ref a :: st) := by
  intro H locs ls hz hS hR hl
  obtain ⟨⟨cA, hA, hh⟩, hAa⟩ := hR a _ he
  have hh : H[a]? = some (vp_cell cA (n, .inl f)) := hh
  refine W.cast F.1.1 F.1.2.1 hh (hA.1 n (fun j => .int (f j))) (fun q => by cases q) (by show ¬ (i < 0 ∨ (arrV _ _ _).slots.size ≤ _); rw [arrV_size]; exact hin) rfl rfl hdg fun H1 e z oq => ?_
  refine k H1 _ ls (z.trans hz) (hS.put z oq hAa) (hR.set hAa ⟨cA, hA, ?_⟩ oq) hl
  show H1[a]? = some (vp_cell cA (n, .inl (upd f i.toNatClampNeg (vp_nar .char x))))
  rw [e, vp_cell_i, vp_cell_i, arrV_store]
  congr 2
  funext q
  by_cases hq : q = i.toNatClampNeg
  · subst hq
    simp [updV, upd, vp_nar]
    try rfl
  · simp [updV, upd, vp_nar, hq]
theorem x_last (F : xF p s m args meth c D cl A cc nL own Ts) {a n : Nat} {f : Nat → Int64} {i : Int32} {x : Int64} (hdg : decode cc pc = .ok (.lastore, 1)) (he : M a = some (.inl (.long, n, .inr (.inl f)))) (hin : vp_in i n) (k : xW p l e R s m args below meth c D cl A nL Q cells slots nx (x_up M a (.inl (.long, n, .inr (.inl (vp_updL f i.toNatClampNeg x))))) (pc + 1) lv st) : xW p l e R s m args below meth c D cl A nL Q cells slots nx M pc lv (.long x :: .int i :: .ref a :: st) := by
  intro H locs ls hz hS hR hl
  obtain ⟨⟨cA, hA, hh⟩, hAa⟩ := hR a _ he
  have hh : H[a]? = some (vp_cell cA (n, .inr (.inl f))) := hh
  refine W.last F.1.1 F.1.2.1 hh (hA.1 n (fun j => .long (f j))) (fun q => by cases q) (by show ¬ (i < 0 ∨ (arrV _ _ _).slots.size ≤ _); rw [arrV_size]; exact hin) rfl rfl hdg fun H1 e z oq => ?_
  refine k H1 _ ls (z.trans hz) (hS.put z oq hAa) (hR.set hAa ⟨cA, hA, ?_⟩ oq) hl
  show H1[a]? = some (vp_cell cA (n, .inr (.inl (vp_updL f i.toNatClampNeg x))))
  rw [e, vp_cell_l, vp_cell_l, arrV_store]
  congr 2
  funext q
  by_cases hq : q = i.toNatClampNeg
  · subst hq
    simp [updV, vp_updL]
    try rfl
  · simp [updV, vp_updL, hq]
theorem x_bast (F : xF p s m args meth c D cl A cc nL own Ts) {a n : Nat} {f : Nat → Int32} {i : Int32} {x : Int32} (hdg : decode cc pc = .ok (.bastore, 1)) (he : M a = some (.inl (.byte, n, .inl f))) (hin : vp_in i n) (k : xW p l e R s m args below meth c D cl A nL Q cells slots nx (x_up M a (.inl (.byte, n, .inl (upd f i.toNatClampNeg (vp_nar .byte x))))) (pc + 1) lv st) : xW p l e R s m args below meth c D cl A nL Q cells slots nx M pc lv (.int x :: .int i :: .ref a :: st) := by
  intro H locs ls hz hS hR hl
  obtain ⟨⟨cA, hA, hh⟩, hAa⟩ := hR a _ he
  have hh : H[a]? = some (vp_cell cA (n, .inl f)) := hh
  refine W.bast F.1.1 F.1.2.1 hh (hA.1 n (fun j => .int (f j))) (fun q => by cases q) (by show ¬ (i < 0 ∨ (arrV _ _ _).slots.size ≤ _); rw [arrV_size]; exact hin) rfl rfl hdg fun H1 e z oq => ?_
  refine k H1 _ ls (z.trans hz) (hS.put z oq hAa) (hR.set hAa ⟨cA, hA, ?_⟩ oq) hl
  show H1[a]? = some (vp_cell cA (n, .inl (upd f i.toNatClampNeg (vp_nar .byte x))))
  rw [e, vp_cell_i, vp_cell_i, arrV_store]
  congr 2
  funext q
  by_cases hq : q = i.toNatClampNeg
  · subst hq
    simp [updV, upd, vp_nar]
    try rfl
  · simp [updV, upd, vp_nar, hq]
theorem x_zast (F : xF p s m args meth c D cl A cc nL own Ts) {a n : Nat} {f : Nat → Int32} {i : Int32} {x : Int32} (hdg : decode cc pc = .ok (.bastore, 1)) (he : M a = some (.inl (.boolean, n, .inl f))) (hin : vp_in i n) (k : xW p l e R s m args below meth c D cl A nL Q cells slots nx (x_up M a (.inl (.boolean, n, .inl (upd f i.toNatClampNeg (vp_nar .boolean x))))) (pc + 1) lv st) : xW p l e R s m args below meth c D cl A nL Q cells slots nx M pc lv (.int x :: .int i :: .ref a :: st) := by
  intro H locs ls hz hS hR hl
  obtain ⟨⟨cA, hA, hh⟩, hAa⟩ := hR a _ he
  have hh : H[a]? = some (vp_cell cA (n, .inl f)) := hh
  refine W.zast F.1.1 F.1.2.1 hh (hA.1 n (fun j => .int (f j))) (fun q => by cases q) (by show ¬ (i < 0 ∨ (arrV _ _ _).slots.size ≤ _); rw [arrV_size]; exact hin) rfl rfl hdg fun H1 e z oq => ?_
  refine k H1 _ ls (z.trans hz) (hS.put z oq hAa) (hR.set hAa ⟨cA, hA, ?_⟩ oq) hl
  show H1[a]? = some (vp_cell cA (n, .inl (upd f i.toNatClampNeg (vp_nar .boolean x))))
  rw [e, vp_cell_i, vp_cell_i, arrV_store]
  congr 2
  funext q
  by_cases hq : q = i.toNatClampNeg
  · subst hq
    simp [updV, upd, vp_nar]
    try rfl
  · simp [updV, upd, vp_nar, hq]
theorem x_aast (F : xF p s m args meth c D cl A cc nL own Ts) {a n v ci : Nat} {r : vw_C} {vs : List Value} {f : Nat → Option Nat} {i : Int32} (hc : cl[ci]? = some r) (hdg : decode cc pc = .ok (.aastore, 1)) (he : M a = some (.inl (.object r.1, n, .inr (.inr (.inr (.inr f)))))) (hv : M v = some (.inr (ci, vs))) (hin : vp_in i n) (k : xW p l e R s m args below meth c D cl A nL Q cells slots nx (x_up M a (.inl (.object r.1, n, .inr (.inr (.inr (.inr (va_up f i.toNatClampNeg (some v)))))))) (pc + 1) lv st) : xW p l e R s m args below meth c D cl A nL Q cells slots nx M pc lv (.ref v :: .int i :: .ref a :: st) := by
  intro H locs ls hz hS hR hl
  have hlt : i.toNatClampNeg < n := Nat.not_le.mp fun q => hin (Or.inr q)
  have h0 : ¬ i < 0 := fun q => hin (Or.inl q)
  obtain ⟨⟨r', hr', cellV, g1, g2, g3, -⟩, -⟩ := hR v _ hv
  obtain ⟨⟨cA, hA, hh⟩, hAa⟩ := hR a _ he
  have hh : H[a]? = some (vp_cell cA (n, .inr (.inr (.inr (.inr f))))) := hh
  have hcls := (F.2.1.1 ci r hc).2
  obtain ⟨kA, comp, k1, k2, k3, -⟩ := hA.2
  have hcomp : comp = D.1 ci := Option.some.inj (k3.symm.trans hcls.1)
  subst hcomp
  obtain ⟨kC, hkC, hkk⟩ := hcls.2
  refine W.aast F.1.1 F.1.2.1 hh (fun q h => by cases h) (fun h => by cases h) k1 k2 rfl hkC ⟨h0, by show _ < (arrV _ _ _).slots.size; rw [arrV_size]; exact hlt⟩ g1 (fun q h => by rw [g3] at h; cases h) (by rw [g2]; exact hkC) (by rw [g2]; exact va_assign ⟨hcls.1, kC, hkC, hkk⟩) rfl rfl hdg fun H1 e z oq => ?_
  refine k H1 _ ls (z.trans hz) (hS.put z oq hAa) (hR.set hAa ⟨cA, hA, ?_⟩ oq) hl
  show H1[a]? = some (vp_cell cA (n, .inr (.inr (.inr (.inr (va_up f i.toNatClampNeg (some v)))))))
  rw [e, vp_cell_q, vp_cell_q, arrV_store]
  congr 2
  funext q
  by_cases hq : q = i.toNatClampNeg
  · subst hq
    simp [updV, va_up, va_rf]
  · simp [updV, va_up, hq]
theorem x_alen (F : xF p s m args meth c D cl A cc nL own Ts) {a : Nat} {ty : FieldType} {x : vp_A} {v : Int32} (hdg : decode cc pc = .ok (.arraylength, 1)) (he : M a = some (.inl (ty, x))) (hv : Int32.ofNat x.1 = v) (k : xW p l e R s m args below meth c D cl A nL Q cells slots nx M (pc + 1) lv (.int v :: st)) : xW p l e R s m args below meth c D cl A nL Q cells slots nx M pc lv (.ref a :: st) := by
  intro H locs ls hz hS hR hl
  obtain ⟨⟨cA, hA, hh⟩, -⟩ := hR a _ he
  exact va_alen (ws := [(a, .inl (cA, x))]) (tys := [(cA, ty)]) F.1.1 F.1.2.1 (x_K1 F.2.1 hA) (x_one hh) 0 0 rfl rfl hv hdg (k H locs ls hz hS hR hl)
theorem x_newa (F : xF p s m args meth c D cl A cc nL own Ts) {atype : ArrayType} {ty : FieldType} {n : Int32} {N' : Nat} {a0 : vp_A} (harr : Cond.arrayClass (newarray.typeOf atype) ∈ Ts) (hty : newarray.typeOf atype = ty) (hdg : decode cc pc = .ok (.newarray atype, 2)) (ha : ∀ cA : ClassId, vp_cell cA a0 = arrV cA N' (fun _ => defaultValue ty)) (hn : ¬ n < 0) (hN : n.toNatClampNeg = N') (hbytes : N' * componentBytes ty ≤ 536870912) (hcells : cells + 1 ≤ R.cells) (hslots : slots + N' ≤ R.slots) (k : xW p l e R s m args below meth c D cl A nL Q (cells + 1) (slots + N') (nx + 1) (x_up M nx (.inl (ty, a0))) (pc + 2) lv (.ref nx :: st)) : xW p l e R s m args below meth c D cl A nL Q cells slots nx M pc lv (.int n :: st) := by
  intro H locs ls hz hS hR hl
  subst hty
  subst hz
  refine va_newaK F.1.1 F.1.2.1 (F.1.2.2.2.2 _ harr) rfl hdg rfl hn hN hbytes hcells hslots rfl fun H1 cA e1 z1 o1 hAr hNm => ?_
  refine k H1 locs ls z1 ⟨Nat.le_trans hS.1 (by omega), fun x h1 h2 => (o1 x (Nat.lt_of_lt_of_le h1 hS.1)).trans (hS.2.1 x h1 h2), hS.2.2⟩ (hR.new (F.2.2.1 _ hS.1) ⟨cA, ⟨hAr, by cases atype <;> exact hNm⟩, ?_⟩ o1) hl
  show H1[H.size]? = some (vp_cell _ _)
  rw [ha]
  exact e1
theorem x_new (F : xF p s m args meth c D cl A cc nL own Ts) {C : String} {T : u_T} {N ci index : Nat} {fs : List Value} (hin : ∀ w ∈ u_ws C T N, w ∈ Ts) (ty : Nat → FieldType) (hty : ∀ k, k < N → parseFieldDescriptor (T k).2.2.1 = some (ty k)) (hcl : Cond.classLink own index C ∈ Ts) (hinst : Cond.instantiable C N ∈ Ts) (hini : Cond.initialized C ∈ Ts) (hc : cl[ci]? = some (C, T, N)) (hdg : decode cc pc = .ok (.new index, 3)) (hfs : ∀ j, j < N → defaultValue (ty j) = vp_V fs j) (hcells : cells + 1 ≤ R.cells) (hslots : slots + N ≤ R.slots) (k : xW p l e R s m args below meth c D cl A nL Q (cells + 1) (slots + N) (nx + 1) (x_up M nx (.inr (ci, fs))) (pc + 3) lv (.ref nx :: st)) : xW p l e R s m args below meth c D cl A nL Q cells slots nx M pc lv st := by
  intro H locs ls hz hS hR hl
  subst hz
  have hKn := F.2.1.1 ci _ hc
  refine W.newcK F.1.1 F.1.2.1 F.1.2.2.2.1 (F.1.2.2.2.2 _ hcl) (F.1.2.2.2.2 _ hinst) (F.1.2.2.2.2 _ hini) rfl hdg hcells hslots hKn.2.1 rfl fun H1 kC hkC e1 z1 o1 => ?_
  exact k H1 locs ls z1 ⟨Nat.le_trans hS.1 (by omega), fun x h1 h2 => (o1 x (Nat.lt_of_lt_of_le h1 hS.1)).trans (hS.2.1 x h1 h2), hS.2.2⟩ (hR.new (F.2.2.1 _ hS.1) ⟨_, hc, (u_born ty F.1.2.2.2.2 hin hKn hkC e1 hty).to hfs⟩ o1) hl
end XH
end
section
/-! CONTRACTS: the answer (or the name of the class of what is thrown), the cells behind it, the world behind it -/
abbrev xO : Type := Option Value
def x_Q (D : va_G) (cl : List vw_C) (A : Nat → Prop) (post : xO → Nat → xH → Prop) : Array Value → State → Outcome → State → Prop := fun _ st oc t =>
  (∃ (o : xO) (nx : Nat) (M : xH), oc = .returned o ∧ post o nx M ∧ t.heap.size = nx ∧ x_R D cl t A M t.heap) ∧ va_F A st t
def x_Pc (D : va_G) (cl : List vw_C) (As : List Value) (nx : Nat) (M : xH) : Array Value → State → Prop := va_Pc As (fun U => U.heap.size = nx ∧ va_K D cl [] U ∧ x_R D cl U (fun _ => True) M U.heap ∧ x_E (x_A M nx) U U.heap)
def xC (l : Launch) (cl : List vw_C) (y : MethodName) (ws : List Cond) (rm : Room) (As : List Value) (nx : Nat) (M : xH) (post : xO → Nat → xH → Prop) : Prop :=
  ∀ D : va_G, Met l y ws rm (x_Pc D cl As nx M) (x_Q D cl (x_A M nx) post) rm.cells rm.slots (x_A M nx)
theorem x_blind {D : va_G} {cl : List vw_C} {As : List Value} {nx : Nat} {M : xH} : FrameBlind (x_Pc D cl As nx M) := fun a U g mk q => by
  obtain ⟨q0, q1, q2, q3, q4⟩ := q
  exact ⟨q0, q1, va_K.moved (u := U) (U := U.calling g mk a) (Vm.Alike.refl U.vm) q2, x_R.moved (u := U) (U := U.calling g mk a) (Vm.Alike.refl U.vm) q3, x_E.same (s := U) (U := U.calling g mk a) q4 rfl⟩
theorem x_sub {p : Program} {s : State} {m : MethodId} {args : Array Value} {meth : Method} {c : Code} {D : va_G} {cl : List vw_C} {A : Nat → Prop} {cc : ByteArray} {nL : Nat} {own : String} {Ts : List Cond} (F : xF p s m args meth c D cl A cc nL own Ts) {nx : Nat} {M : xH} {H : Heap} {locs : List Loc} (hz : H.size = nx) (hS : va_S A s.heap H locs) (hR : x_R D cl s A M H) : ∀ q, x_A M nx q → A q := fun q h => by
  rcases h with ⟨f, h⟩ | h
  · exact (hR q f h).2
  · exact F.2.2.1 q (Nat.le_trans hS.1 (by omega))
theorem x_pre {p : Program} {s : State} {m : MethodId} {args : Array Value} {meth : Method} {c : Code} {D : va_G} {cl : List vw_C} {A : Nat → Prop} {cc : ByteArray} {nL : Nat} {own : String} {Ts : List Cond} (F : xF p s m args meth c D cl A cc nL own Ts) {As : List Value} {nx : Nat} {M : xH} {H : Heap} {locs : List Loc} (hz : H.size = nx) (hS : va_S A s.heap H locs) (hR : x_R D cl s A M H) : ∀ U : State, U.heap = H → s.WarmedH U.vm → x_Pc D cl As nx M As.toArray U := fun U hU hW =>
  ⟨rfl, by rw [hU]; exact hz, va_K.moved hW.alike F.2.1, by rw [hU]; exact (hR.moved hW.alike).weaken (fun _ _ _ _ => trivial), by rw [hU]; exact F.2.2.2.2.step hW hS.2.1 (x_sub F hz hS hR)⟩
theorem xC.of {l : Launch} {cl : List vw_C} {y : MethodName} {ws ws' : List Cond} {rm : Room} {As : List Value} {nx : Nat} {M : xH} {post : xO → Nat → xH → Prop} {cc : ByteArray} {maxL : Nat} {ret : Option FieldType} (hy : plainName y.cls = true) (hw : ws = Cond.code y cc maxL ret :: ws') (hlen : (lg_sl As).length ≤ maxL)
    (body : ∀ (p : Program) (e : Env) (s : State) (m : MethodId) (args : Array Value) (below : List Frame) (meth : Method) (c : Code) (D : va_G), xF p s m args meth c D cl (x_A M nx) cc maxL y.cls ws → meth.sig.returnType = ret → meth.name = y.name →
      xW p l e rm s m args below meth c D cl (x_A M nx) maxL (MQ below (x_Q D cl (x_A M nx) post) args s rm.cells rm.slots (x_A M nx)) 0 0 nx M 0 (lv_args 0 As) []) : xC l cl y ws rm As nx M post := by
  intro D
  refine Met.ofW hy hw ?_
  intro p e s m args below meth c s₁ B hml hv
  obtain ⟨rfl, hsz, hK, hR, hE⟩ := hv
  have hts := atoms_spec (ws := ws) B.pre
  have hown : s.vm.findClass y.cls = some m.cls := findClass_of_methodNamed B.named
  have K := body p e s m As.toArray below meth c D ⟨⟨B.exec, B.bytes, hml, hown, hts⟩, hK, fun q h => Or.inr (by omega), B.notSynchronized, hE⟩ B.returns (name_of_methodNamed B.named B.method).1
  rw [lg_entry_eq]
  exact K s.heap [] _ hsz va_S.rf (fun a e ha => ⟨(hR a e ha).1, Or.inl ⟨e, ha⟩⟩) (lv_entry As hlen)
section XC
variable {p : Program} {l : Launch} {e : Env} {R : Room} {s : State} {m : MethodId} {args : Array Value} {below : List Frame} {meth : Method} {c : Code} {D : va_G} {cl : List vw_C} {A : Nat → Prop} {nL : Nat} {Q : State → Prop} {cells slots nx : Nat} {M : xH} {pc : Nat} {lv : List (Nat × Value)} {st : List Value}
variable {cc : ByteArray} {own : String} {Ts : List Cond}
variable {post : xO → Nat → xH → Prop}
theorem x_iret (F : xF p s m args meth c D cl A cc nL own Ts) {v : Int32} (hr : meth.sig.returnType = some .int) (hdg : decode cc pc = .ok (.ireturn, 1)) (hp : post (some (.int v)) nx M) : xW p l e R s m args below meth c D cl A nL (MQ below (x_Q D cl A post) args s cells slots A) cells slots nx M pc lv [.int v] :=
  fun H locs ls hz hS hR hl => W.iret F.1.1 F.1.2.1 hr (fun t ht hW => ⟨⟨_, _, _, rfl, hp, by rw [ht]; exact hz, by rw [ht]; exact hR.moved hW.alike⟩, hS.F ht⟩) hS.2.2 hdg F.2.2.2.1
theorem x_zret (F : xF p s m args meth c D cl A cc nL own Ts) {v : Int32} {ty : FieldType} (hr : meth.sig.returnType = some ty) (hn : narrow ty (.int v) = .int v) (hdg : decode cc pc = .ok (.ireturn, 1)) (hp : post (some (.int v)) nx M) : xW p l e R s m args below meth c D cl A nL (MQ below (x_Q D cl A post) args s cells slots A) cells slots nx M pc lv [.int v] :=
  fun H locs ls hz hS hR hl => W.zret F.1.1 F.1.2.1 hr hn (fun t ht hW => ⟨⟨_, _, _, rfl, hp, by rw [ht]; exact hz, by rw [ht]; exact hR.moved hW.alike⟩, hS.F ht⟩) hS.2.2 hdg F.2.2.2.1
theorem x_lret (F : xF p s m args meth c D cl A cc nL own Ts) {v : Int64} (hr : meth.sig.returnType = some .long) (hdg : decode cc pc = .ok (.lreturn, 1)) (hp : post (some (.long v)) nx M) : xW p l e R s m args below meth c D cl A nL (MQ below (x_Q D cl A post) args s cells slots A) cells slots nx M pc lv [.long v] :=
  fun H locs ls hz hS hR hl => W.lret F.1.1 F.1.2.1 hr (fun t ht hW => ⟨⟨_, _, _, rfl, hp, by rw [ht]; exact hz, by rw [ht]; exact hR.moved hW.alike⟩, hS.F ht⟩) hS.2.2 hdg F.2.2.2.1
theorem x_vret (F : xF p s m args meth c D cl A cc nL own Ts) (hr : meth.sig.returnType = none) (hdg : decode cc pc = .ok (.return_, 1)) (hp : post none nx M) : xW p l e R s m args below meth c D cl A nL (MQ below (x_Q D cl A post) args s cells slots A) cells slots nx M pc lv [] :=
  fun H locs ls hz hS hR hl => W.vret F.1.1 F.1.2.1 hr (fun t ht hW => ⟨⟨_, _, _, rfl, hp, by rw [ht]; exact hz, by rw [ht]; exact hR.moved hW.alike⟩, hS.F ht⟩) hS.2.2 hdg F.2.2.2.1
theorem x_aret (F : xF p s m args meth c D cl A cc nL own Ts) {v : Value} {rt : FieldType} (hr : meth.sig.returnType = some rt) (hrt : (∃ n, rt = .object n) ∨ ∃ t, rt = .array t) (hv : v = .null ∨ ∃ a, v = .ref a) (hdg : decode cc pc = .ok (.areturn, 1)) (hp : post (some v) nx M) : xW p l e R s m args below meth c D cl A nL (MQ below (x_Q D cl A post) args s cells slots A) cells slots nx M pc lv [v] :=
  fun H locs ls hz hS hR hl => W.aret F.1.1 F.1.2.1 hr hrt hv (fun t ht hW => ⟨⟨_, _, _, rfl, hp, by rw [ht]; exact hz, by rw [ht]; exact hR.moved hW.alike⟩, hS.F ht⟩) hS.2.2 hdg F.2.2.2.1
theorem x_objInit (F : xF p s m args meth c D cl A cc nL own Ts) {idx a : Nat} (hlink : Cond.methodLink own idx Lib.objectInit ∈ Ts) (hinst : Cond.instanceMethod Lib.objectInit ∈ Ts) (hcode : Cond.code Lib.objectInit ⟨#[0xb1]⟩ 1 none ∈ Ts) (hdg : decode cc pc = .ok (.invokespecial idx, 3)) (hframes : 1 ≤ R.frames) (hlocals : (st.map fun v => v.category).sum + 12 ≤ R.locals) (k : xW p l e R s m args below meth c D cl A nL Q cells slots nx M (pc + 3) lv st) : xW p l e R s m args below meth c D cl A nL Q cells slots nx M pc lv (.ref a :: st) :=
  fun H locs ls hz hS hR hl => W.objInit F.1.1 F.1.2.1 F.1.2.2.2.1 (F.1.2.2.2.2 _ hlink) (F.1.2.2.2.2 _ hinst) (F.1.2.2.2.2 _ hcode) rfl (by rw [F.1.2.2.1]; exact hl.1) rfl hdg hframes (by show 2 * 0 + _ + 12 ≤ _; omega) (k H locs ls hz hS hR hl)
theorem x_back (F : xF p s m args meth c D cl A cc nL own Ts) {mc ms : Nat} {st0 rest : List Value} {a : Array Value} {H : Heap} {locs : List Loc} {ls : Array Slot} (hz : H.size = nx) (hS : va_S A s.heap H locs) (hR : x_R D cl s A M H) (hl : lv_has ls nL lv) (hr : va_Run p l e R s m args below meth c H locs cells slots mc ms (F0 m pc ls st0) rest (x_Q D cl (x_A M nx) post a) (x_A M nx))
    (kk : ∀ (r : Option Value) (nx' : Nat) (M' : xH), post r nx' M' → xW p l e R s m args below meth c D cl A nL Q (cells + mc) (slots + ms) nx' M' (pc + 3) lv (r.toList ++ rest)) : W p l e R s m args below meth c H locs cells slots Q (F0 m pc ls st0) := by
  intro T hT X
  obtain ⟨v, st₀, t, T', L, h0, X', hL, e1, e2, ⟨⟨o, nx', M', ho, hp, hz1, hR1⟩, hzz, hk⟩, stp⟩ := hr T hT X
  have hA1 : ∀ q, x_A M nx q → A q := x_sub F hz hS hR
  cases ho
  rw [h0] at hzz hk
  obtain ⟨t2, a1, b1⟩ := kk v nx' M' hp T'.heap (locs ++ L) ls (by rw [e1]; exact hz1)
    ⟨Nat.le_trans hS.1 (by rw [e1]; exact hzz), fun q h1 h2 => by rw [e1, hk q (Nat.lt_of_lt_of_le h1 hS.1) (fun z => h2 (hA1 q z))]; exact hS.2.1 q h1 h2, fun q hq => by
      rcases List.mem_append.mp hq with h | h
      · exact hS.2.2 q h
      · exact hA1 _ (hL q h)⟩
    (by rw [e1]; exact (hR1.moved (by rw [← e2]; exact X'.warmed.alike.symm)).weaken (fun q _ _ h => hA1 q h)) hl T' rfl X'
  exact ⟨t2, stp t2 a1, b1⟩
theorem x_invV (F : xF p s m args meth c D cl A cc nL own Ts) {y : MethodName} {bytes : ByteArray} {maxL index n : Nat} {ret : Option FieldType} {ws ws' : List Cond} {rm : Room} {As stk : List Value} {C : String} {T : u_T} {N ci a : Nat} {fs : List Value} (hG : GoodIn Ts (wsV own index C y ws)) (hw : ws = Cond.code y bytes maxL ret :: ws') (hd : y.cls = C ∧ y.cls ≠ "java/lang/invoke/MethodHandle" ∧ y.cls ≠ "java/lang/invoke/VarHandle" ∧ (parseMethodDescriptor y.desc).map (fun d => d.parameters.length) = some n) (hc : cl[ci]? = some (C, T, N)) (hdg : decode cc pc = .ok (.invokevirtual index, 3)) (hRm : rm.frames + 1 ≤ R.frames ∧ 8 + (maxL + 11) + rm.locals ≤ R.locals) (hM : xC l cl y ws rm (.ref a :: As) nx M post) (he : M a = some (.inr (ci, fs))) (hn : As.length = n) (hstk : stk = As.reverse ++ .ref a :: st) (hst8 : (st.map fun v => v.category).sum ≤ 8) (hf : cells + rm.cells ≤ R.cells ∧ slots + rm.slots ≤ R.slots) (kk : ∀ (r : Option Value) (nx' : Nat) (M' : xH), post r nx' M' → xW p l e R s m args below meth c D cl A nL Q (cells + rm.cells) (slots + rm.slots) nx' M' (pc + 3) lv (r.toList ++ st)) : xW p l e R s m args below meth c D cl A nL Q cells slots nx M pc lv stk := by
  intro H locs ls hz hS hR hl
  subst hstk
  exact x_back F hz hS hR hl (va_runV (As := As) (rest := st) F.1 (hM D) (cwV n F.1.2.2.2.2 hG hw rfl rfl hd hRm) ⟨x_blind, va_recv F.2.1 (x_one (q := (a, .inr (ci, fs))) (hR a _ he).1) (q0 := 0) hc rfl, x_pre F hz hS hR⟩ rfl hn hl.1 rfl (lv_room hst8) hdg hf) kk
theorem x_invS (F : xF p s m args meth c D cl A cc nL own Ts) {y : MethodName} {bytes : ByteArray} {maxL index n : Nat} {ret : Option FieldType} {ws ws' : List Cond} {rm : Room} {As stk : List Value} (hG : GoodIn Ts (wsS own index y ws)) (hw : ws = Cond.code y bytes maxL ret :: ws') (hd : y.cls = own ∧ y.cls ≠ "java/lang/invoke/MethodHandle" ∧ y.cls ≠ "java/lang/invoke/VarHandle" ∧ (parseMethodDescriptor y.desc).map (fun d => d.parameters.length) = some n) (hdg : decode cc pc = .ok (.invokestatic index, 3)) (hRm : rm.frames + 1 ≤ R.frames ∧ 8 + (maxL + 11) + rm.locals ≤ R.locals) (hM : xC l cl y ws rm As nx M post) (hn : As.length = n) (hstk : stk = As.reverse ++ st) (hst8 : (st.map fun v => v.category).sum ≤ 8) (hf : cells + rm.cells ≤ R.cells ∧ slots + rm.slots ≤ R.slots) (kk : ∀ (r : Option Value) (nx' : Nat) (M' : xH), post r nx' M' → xW p l e R s m args below meth c D cl A nL Q (cells + rm.cells) (slots + rm.slots) nx' M' (pc + 3) lv (r.toList ++ st)) : xW p l e R s m args below meth c D cl A nL Q cells slots nx M pc lv stk := by
  intro H locs ls hz hS hR hl
  subst hstk
  exact x_back F hz hS hR hl (va_runS (As := As) (rest := st) F.1 (hM D) (cwS n F.1.2.2.2.2 hG hw rfl rfl hd hRm) ⟨x_blind, x_pre F hz hS hR⟩ rfl hn hl.1 rfl (lv_room hst8) hdg hf) kk
theorem x_invI (F : xF p s m args meth c D cl A cc nL own Ts) {y : MethodName} {bytes : ByteArray} {maxL index n : Nat} {ret : Option FieldType} {ws ws' : List Cond} {rm : Room} {As stk : List Value} {a : Nat} (hG : GoodIn Ts ws) (hw : ws = Cond.code y bytes maxL none :: ws') (hini : Cond.initialized y.cls ∈ Ts) (hli : Cond.methodLink own index y ∈ Ts) (him : Cond.instanceMethod y ∈ Ts) (hy : y.name = "<init>") (hd : y.cls ≠ "java/lang/invoke/MethodHandle" ∧ y.cls ≠ "java/lang/invoke/VarHandle" ∧ (parseMethodDescriptor y.desc).map (fun d => d.parameters.length) = some n) (hdg : decode cc pc = .ok (.invokespecial index, 3)) (hRm : rm.frames + 1 ≤ R.frames ∧ 8 + (maxL + 11) + rm.locals ≤ R.locals) (hM : xC l cl y ws rm (.ref a :: As) nx M post) (hn : As.length = n) (hstk : stk = As.reverse ++ .ref a :: st) (hst8 : (st.map fun v => v.category).sum ≤ 8) (hf : cells + rm.cells ≤ R.cells ∧ slots + rm.slots ≤ R.slots) (kk : ∀ (r : Option Value) (nx' : Nat) (M' : xH), post r nx' M' → xW p l e R s m args below meth c D cl A nL Q (cells + rm.cells) (slots + rm.slots) nx' M' (pc + 3) lv (r.toList ++ st)) : xW p l e R s m args below meth c D cl A nL Q cells slots nx M pc lv stk := by
  intro H locs ls hz hS hR hl
  subst hstk
  exact x_back F hz hS hR hl (va_runI (As := As) (rest := st) F.1 (hM D) (cwI n F.1.2.2.2.2 hG hw rfl rfl (F.1.2.2.2.2 _ hini) (F.1.2.2.2.2 _ hli) (F.1.2.2.2.2 _ him) hy hd hRm) ⟨x_blind, x_pre F hz hS hR⟩ rfl hn hl.1 rfl (lv_room hst8) hdg hf) kk
end XC
end
section
/-! THROWS: a point of a walk seen as an entry of its own -/
theorem x_rebase {p : Program} {l : Launch} {e : Env} {R : Room} {s : State} {m : MethodId} {args : Array Value} {below : List Frame} {meth : Method} {c : Code} {T : State} {locs : List Loc} {cells slots : Nat} (X : Stand p l e R s m args below meth c T locs cells slots) {R' : Room} (h1 : R'.frames ≤ R.frames) (h2 : R'.locals ≤ R.locals) (h3 : cells + R'.cells ≤ R.cells) (h4 : slots + R'.slots ≤ R.slots) :
    Stand p l e R' (T.setFrames (.invoking m args :: below)) m args below meth c T [] 0 0 := by
  obtain ⟨g₀, hfr⟩ := X.frames_eq
  have hcur : T.cur < T.threads.size := State.cur_lt_of_frames hfr
  obtain ⟨th, hth, -⟩ := State.frames_cons hfr
  have hf' : (T.setFrames (.invoking m args :: below)).frames = .invoking m args :: below := State.frames_setFrames _ hcur
  have hm' : (T.setFrames (.invoking m args :: below)).vm.method? m = some meth := X.method'
  have hroom : (T.setFrames (.invoking m args :: below)).hasRoom e.platform R' = true := by
    have h := X.room
    simp only [State.hasRoom, Bool.and_eq_true, decide_eq_true_eq] at h ⊢
    obtain ⟨⟨⟨⟨a1, a2, a3, a4, a5, a6⟩, a7⟩, a8⟩, a9⟩ := h
    rw [State.localsInUse_invoking X.frames X.method X.code] at a1 a4 a5
    rw [X.frames, List.length_cons] at a2 a3
    rw [State.localsInUse_invoking hf' hm' X.code, hf', List.length_cons, State.stackLimits_setFrames, State.stackBytes_setFrames, X.limits, X.bytes]
    have hs := X.heapSize
    have hu := X.used
    refine ⟨⟨⟨⟨by omega, by omega, by omega, by omega, by omega, a6⟩, ?_⟩, ?_⟩, X.book⟩
    · show T.heap.size + R'.cells ≤ _; omega
    · show T.slotsUsed + R'.slots ≤ _; omega
  have hhears : (T.setFrames (.invoking m args :: below)).hears m below = true := by
    have h := X.hears
    have hme : ∀ q, T.vm.method? q = s.vm.method? q := X.warmed.alike.method?
    cases below with
    | nil => simpa [State.hears, hme] using h
    | cons f r =>
      cases f <;> simp_all [State.hears, State.code?_eq]
  refine ⟨X.admits, X.cas, X.clock, hf', hroom, hhears, hm', X.code, X.here, X.tail, State.WarmedH.refl _, by rw [State.stackLimits_setFrames], by rw [State.stackBytes_setFrames], ?_⟩
  obtain ⟨th', hth', -⟩ := State.frames_cons hf'
  have hc' : (T.setFrames (.invoking m args :: below)).cur < (T.setFrames (.invoking m args :: below)).threads.size := State.cur_lt_of_frames hf'
  have h := (State.sameButNew.refl (T.setFrames (.invoking m args :: below)) hth').setFrames T.frames hc'
  rw [State.setFrames_setFrames, State.setFrames_self hth] at h
  exact h
/-- nothing that was there has changed, where no slot is named -/
theorem x_kept {s t : State} {k n : Nat} (h : s.sameButNew t [] k n) : ∀ (q : Nat) (cell : Cell), s.heap[q]? = some cell → t.heap[q]? = some cell := by
  intro q cell hq
  obtain ⟨c', h1, h2, h3, h4⟩ := h.2.2.2.2.2 q cell hq
  rw [h1, h2]
  congr 1
  have : c'.slots = cell.slots := by
    apply Array.ext_getElem?
    intro i
    exact h4 i (fun z => by cases z)
  rw [this]
end
section
theorem x_off {l : Launch} {e : Env} (hf : l.flags = pinnedFlags ++ [noTraceFlag]) (ha : l.admits e) : e.platform.stackTraces = false := by
  obtain ⟨-, -, -, -, hp, -⟩ := ha
  rw [hp]
  show l.stackTraces = false
  unfold Launch.stackTraces; rw [hf]; decide
/-- 'throw new X("..")' from a method's entry heap on -/
theorem x_throwW {p : Program} {l : Launch} {e : Env} {R : Room} {s : State} {m : MethodId} {args : Array Value} {below : List Frame} {meth : Method} {c : Code} {cc : ByteArray} {own X tx : String} {ia ib ic q pc : Nat} {names : List String} {ls : Array Slot} {st : List Value}
    (hfl : l.flags = pinnedFlags ++ [noTraceFlag]) (hx : p.tables.exec = Jvm.exec) (hb : c.code = cc) (hown : s.vm.findClass own = some m.cls) (hml : c.maxLocals = ls.size) (hex : c.exceptionTable.isEmpty = true) (hlocks : meth.locks = false)
    (hcl : (Cond.classLink own ia X).before args s = true) (hins : (Cond.instantiable X 6).before args s = true) (hini : (Cond.initialized X).before args s = true) (hZ : vk_R own ib tx q s)
    (hat : ∀ a ∈ Bundle.ownAtoms own ic X names, a.before args s = true) (hcls : Bundle.fit X = true) (hnames : ∀ n ∈ names, Bundle.fit n = true)
    (d0 : decode cc pc = .ok (.new ia, 3)) (d3 : decode cc (pc + 3) = .ok (.dup, 1)) (d4 : decode cc (pc + 3 + 1) = .ok (.ldc ib, 2)) (d6 : decode cc (pc + 3 + 1 + 2) = .ok (.invokespecial ic, 3)) (d9 : decode cc (pc + 3 + 1 + 2 + 3) = .ok (.athrow, 1))
    (hc : 1 ≤ R.cells) (hsl : 6 ≤ R.slots) (hfr : names.length + 3 < R.frames) (hlo : ((st.map fun v => v.category).sum + 1) + (13 * (names.length + 1) + 42) ≤ R.locals) :
    W p l e R s m args below meth c s.heap [] 0 0 (fun t => ∃ (a : Addr) (ce : Cell), t.status = .running ∧ Ended t below (.threw a) ∧ s.WarmedH t.vm ∧ s.sameButNew ({ t with vm := s.vm } : State) [] 1 6 ∧ t.heap[a]? = some ce ∧ ce.vm = .none ∧ s.vm.findClass X = some ce.cls) (F0 m pc ls st) := by
  obtain ⟨cX, kX, hfX, hkX, -⟩ := Cond.instantiable_spec hins
  refine W.newcK hx hb hown hcl hins hini rfl d0 (by omega) (by omega) hfX rfl fun H' kC hkC e1 z1 o1 => ?_
  cases hkX.symm.trans hkC
  refine lv_dup hx hb d3 rfl ?_
  refine va_ldcS hx hb hown hZ d4 ?_
  intro T hT X0
  have htr := x_off hfl X0.admits
  obtain ⟨U, h1, h2, h3, h4, h5, ce, h6, h7⟩ := X0.ctorThrowS hx htr (cls := X) (names := names) (ic := ic) hown hcls hnames hat (fun x hx => by cases hx) (a := s.heap.size) hfX hkX (by rw [hT]; exact e1) (Nat.le_refl _) (msg := .ref q) rfl
    (g := F0 m (pc + 3 + 1 + 2) ls (.ref q :: .ref s.heap.size :: .ref s.heap.size :: st)) rfl (by rw [hml]) rfl rfl rfl (by rw [hb]; exact d6) (by rw [hb]; exact d9) (fun x hx => by
      have : c.exceptionTable.toList = [] := by simpa using hex
      rw [this] at hx; cases hx) hfr (by show 2 * 0 + (1 + (st.map fun v => v.category).sum) + _ ≤ _; omega) hlocks
  exact ⟨U, h1, s.heap.size, ce, h2, h3, h4, h5, h6, h7.vm, h7.cls⟩
/-! contracts of methods that throw: the name of the class of what is thrown, the cells behind it, the world behind it -/
def x_QT (D : va_G) (cl : List vw_C) (A : Nat → Prop) (E : String) (post : Nat → xH → Prop) (st : State) (o : Outcome) (t : State) : Prop :=
  (∃ (x : Addr) (ce : Cell) (nx : Nat) (M : xH), o = .threw x ∧ t.heap[x]? = some ce ∧ ce.vm = .none ∧ t.vm.findClass E = some ce.cls ∧ post nx M ∧ t.heap.size = nx ∧ x_R D cl t A M t.heap) ∧ va_F A st t
def x_ET (A : Nat → Prop) (st : State) (t : State) (mc ms : Nat) : Prop := ∃ L : List Loc, (st.WarmedH t.vm ∧ st.sameButNew ({ t with vm := st.vm } : State) L mc ms) ∧ ∀ q ∈ L, A q.base
def x_MQT (below : List Frame) (D : va_G) (cl : List vw_C) (A : Nat → Prop) (E : String) (post : Nat → xH → Prop) (s : State) (mc ms : Nat) : State → Prop := fun t => ∃ o, t.status = .running ∧ Ended t below o ∧ x_QT D cl A E post s o t ∧ x_ET A s t mc ms
def xT_ (l : Launch) (cl : List vw_C) (y : MethodName) (ws : List Cond) (rm : Room) (As : List Value) (nx : Nat) (M : xH) (E : String) (post : Nat → xH → Prop) : Prop :=
  ∀ D : va_G, MetFree l y (headSpec ws rm) (x_Pc D cl As nx M) (fun _ _ _ _ _ => True) (fun _ st o t => x_QT D cl (x_A M nx) E post st o t ∧ x_ET (x_A M nx) st t rm.cells rm.slots)
theorem xT_.of {l : Launch} {cl : List vw_C} {y : MethodName} {ws ws' : List Cond} {rm : Room} {As : List Value} {nx : Nat} {M : xH} {E : String} {post : Nat → xH → Prop} {cc : ByteArray} {maxL : Nat} {ret : Option FieldType} (hy : plainName y.cls = true) (hw : ws = Cond.code y cc maxL ret :: ws') (hlen : (lg_sl As).length ≤ maxL)
    (body : ∀ (p : Program) (e : Env) (s : State) (m : MethodId) (args : Array Value) (below : List Frame) (meth : Method) (c : Code) (D : va_G), xF p s m args meth c D cl (x_A M nx) cc maxL y.cls ws → meth.sig.returnType = ret → c.exceptionTable.isEmpty = true →
      xW p l e rm s m args below meth c D cl (x_A M nx) maxL (x_MQT below D cl (x_A M nx) E post s rm.cells rm.slots) 0 0 nx M 0 (lv_args 0 As) []) : xT_ l cl y ws rm As nx M E post := by
  intro D
  refine MetFree.of_bodyS (code := cc) (maxLocals := maxL) (ret := ret) hy ?_ ?_
  · intro args s m h hn
    obtain ⟨meth, c, h1, h2, h3, h4, h5, h6, -, -⟩ := Cond.code_spec hn (atoms_spec (ws := ws) h _ (by rw [hw]; exact List.mem_cons_self))
    exact ⟨meth, c, h1, h2, h3, h4, h5, h6⟩
  · intro p e s m args below meth c s₁ B hml hv _
    obtain ⟨rfl, hsz, hK, hR, hE⟩ := hv
    have hts := atoms_spec (ws := ws) B.pre
    have hown : s.vm.findClass y.cls = some m.cls := findClass_of_methodNamed B.named
    have hexc : c.exceptionTable.isEmpty = true := B.noHandlers (hts _ (by rw [hw]; exact List.mem_cons_self))
    have K := body p e s m As.toArray below meth c D ⟨⟨B.exec, B.bytes, hml, hown, hts⟩, hK, fun q h => Or.inr (by omega), B.notSynchronized, hE⟩ B.returns hexc
    have hh0 : s₁.heap = s.heap := by rw [B.state]; rfl
    have K2 : W p l e rm s m As.toArray below meth c s.heap [] 0 0 (x_MQT below D cl (x_A M nx) E post s rm.cells rm.slots) (entryFrame m As.toArray maxL) := by
      rw [lg_entry_eq]
      exact K s.heap [] _ hsz va_S.rf (fun a e ha => ⟨(hR a e ha).1, Or.inl ⟨e, ha⟩⟩) (lv_entry As hlen)
    obtain ⟨t, a1, o, b1, b2, b3⟩ := K2 s₁ hh0 (Stand.of_body B)
    exact ⟨t, o, a1, b1, b2, b3⟩
section XTHR
variable {p : Program} {l : Launch} {e : Env} {R : Room} {s : State} {m : MethodId} {args : Array Value} {below : List Frame} {meth : Method} {c : Code} {D : va_G} {cl : List vw_C} {A : Nat → Prop} {nL : Nat} {Q : State → Prop} {cells slots nx : Nat} {M : xH} {pc : Nat} {lv : List (Nat × Value)} {st : List Value}
variable {cc : ByteArray} {own : String} {Ts : List Cond}
theorem x_same {T t : State} {m : MethodId} {args : Array Value} {below : List Frame} {k n : Nat} (h : (T.setFrames (.invoking m args :: below)).sameButNew ({ t with vm := T.vm } : State) [] k n) : T.sameButNew ({ t with vm := T.vm } : State) [] k n := by
  obtain ⟨h1, h2⟩ := h
  rw [State.setFrames_setFrames] at h1
  exact ⟨h1, h2⟩
/-- the throw, over the world: E is thrown, the world is as it was -/
theorem x_throw (F : xF p s m args meth c D cl A cc nL own Ts) {X tx : String} {ia ib ic : Nat} {names : List String} {E : String} {post : Nat → xH → Prop} {rc rs : Nat} (hE : E = X)
    (hfl : l.flags = pinnedFlags ++ [noTraceFlag]) (hex : c.exceptionTable.isEmpty = true)
    (hcl : Cond.classLink own ia X ∈ Ts) (hins : Cond.instantiable X 6 ∈ Ts) (hini : Cond.initialized X ∈ Ts) (hg : ∀ w ∈ Ts, (w.onTables && w.keeps) = true ∨ ∃ ty, w = .arrayClass ty) (hZ : ∃ q, vk_R own ib tx q s)
    (hat : ∀ (args' : Array Value) (U : State), x_E A U U.heap → (∀ w ∈ Ts, w.before args' U = true) → ∀ a ∈ Bundle.ownAtoms own ic X names, a.before args' U = true) (hcls : Bundle.fit X = true) (hnames : ∀ n ∈ names, Bundle.fit n = true)
    (d0 : decode cc pc = .ok (.new ia, 3)) (d3 : decode cc (pc + 3) = .ok (.dup, 1)) (d4 : decode cc (pc + 3 + 1) = .ok (.ldc ib, 2)) (d6 : decode cc (pc + 3 + 1 + 2) = .ok (.invokespecial ic, 3)) (d9 : decode cc (pc + 3 + 1 + 2 + 3) = .ok (.athrow, 1))
    (hc : cells + 1 ≤ R.cells) (hsl : slots + 6 ≤ R.slots) (hfr : names.length + 3 < R.frames) (hlo : ((st.map fun v => v.category).sum + 1) + (13 * (names.length + 1) + 42) ≤ R.locals) (hrc : cells + 1 ≤ rc) (hrs : slots + 6 ≤ rs) (hp : ∀ n', nx ≤ n' → post n' M) :
    xW p l e R s m args below meth c D cl A nL (x_MQT below D cl A E post s rc rs) cells slots nx M pc lv st := by
  intro H locs ls hz hS hR hl T hT X0
  subst hE
  have X1 := x_rebase X0 (R' := { frames := R.frames, cells := 1, slots := 6, locals := R.locals }) (Nat.le_refl _) (Nat.le_refl _) hc hsl
  have hW0 : s.WarmedH (T.setFrames (.invoking m args :: below)).vm := X0.warmed
  have hts : ∀ w ∈ Ts, w.before args (T.setFrames (.invoking m args :: below)) = true := fun w hw => word_at hW0 (hg w hw) (F.1.2.2.2.2 w hw)
  have hEE : x_E A (T.setFrames (.invoking m args :: below)) (T.setFrames (.invoking m args :: below)).heap := F.2.2.2.2.step hW0 (fun q h1 h2 => by show T.heap[q]? = _; rw [hT]; exact hS.2.1 q h1 h2) (fun _ h => h)
  obtain ⟨q, hq⟩ := hZ
  have K := x_throwW (R := { frames := R.frames, cells := 1, slots := 6, locals := R.locals }) (p := p) (l := l) (e := e) (s := T.setFrames (.invoking m args :: below)) (below := below) (meth := meth) (c := c) (ls := ls) (st := st) (pc := pc) hfl F.1.1 F.1.2.1 (by show T.vm.findClass own = _; rw [X0.warmed.alike.findClass]; exact F.1.2.2.2.1) (by rw [F.1.2.2.1]; exact hl.1.symm) hex F.2.2.2.1 (hts _ hcl) (hts _ hins) (hts _ hini) (hq.warm hW0) (hat args _ hEE hts) hcls hnames d0 d3 d4 d6 d9 (Nat.le_refl 1) (Nat.le_refl 6) hfr hlo
  obtain ⟨t, a1, a, ce, b1, b2, b3, b4, b5, b6, b7⟩ := K T rfl X1
  have hWt : s.WarmedH t.vm := State.WarmedH.trans X0.warmed b3
  have hk := x_kept b4
  have hkH : ∀ (q : Nat) (cell : Cell), H[q]? = some cell → t.heap[q]? = some cell := fun q cell h => hk q cell (by show T.heap[q]? = _; rw [hT]; exact h)
  have hkq : ∀ q : Nat, q < H.size → t.heap[q]? = H[q]? := fun q h => by
    have := Array.getElem?_eq_getElem h
    rw [this, hkH q _ this]
  have hzt : H.size ≤ t.heap.size := by
    have h : T.heap.size ≤ t.heap.size := b4.2.1
    rw [hT] at h; exact h
  refine ⟨t, a1, .threw a, b1, b2, ⟨⟨a, ce, t.heap.size, M, rfl, b5, b6, ?_, hp _ (by omega), rfl, fun b f hb => ⟨((hR b f hb).1.kept (hkq b ((hR b f hb).1.lt))).moved hWt.alike, (hR b f hb).2⟩⟩, ?_⟩, ?_⟩
  · rw [b3.alike.findClass]; exact b7
  · exact ⟨Nat.le_trans hS.1 hzt, fun q h1 h2 => (hkq q (Nat.lt_of_lt_of_le h1 hS.1)).trans (hS.2.1 q h1 h2)⟩
  · refine ⟨locs ++ [], ⟨hWt, ?_⟩, fun q hq => hS.2.2 q (by simpa using hq)⟩
    exact (X0.same.trans ((x_same b4).setVm s.vm)).mono hrc hrs
end XTHR
end
section
section XCT
variable {p : Program} {l : Launch} {e : Env} {R : Room} {s : State} {m : MethodId} {args : Array Value} {below : List Frame} {meth : Method} {c : Code} {D : va_G} {cl : List vw_C} {A : Nat → Prop} {nL : Nat} {Q : State → Prop} {cells slots nx : Nat} {M : xH} {pc : Nat} {lv : List (Nat × Value)} {st : List Value}
variable {cc : ByteArray} {own : String} {Ts : List Cond}
/-- a call, from its making on, to its end -/
theorem x_go {T : State} {locs : List Loc} (X : Stand p l e R s m args below meth c T locs cells slots) {g : JFrame} (hg : g.method = m) (hsize : g.locals.size = c.maxLocals) {ig : Instr} {len : Nat} (hdg : decode c.code g.pc = .ok (ig, len)) (hW : 2 * g.monitorRoom + (g.stack.map fun v => v.category).sum ≤ 8)
    {mk : MethodId} {a : Array Value} {y : MethodName} {bytes : ByteArray} {maxL : Nat} {ret : Option FieldType} {ws : List Cond} {rm : Room} {P : Array Value → State → Prop} {Qm : Array Value → State → Outcome → State → Prop} (hn : T.methodNamed? y = some mk) (hM : MetFree l y (headSpec ws rm) P (fun _ _ _ _ _ => True) Qm)
    (hws : ∀ w ∈ ws, w.before a T = true) (hcode : Cond.code y bytes maxL ret ∈ ws) (hini : (Cond.initialized y.cls).before a T = true) (hfr : rm.frames + 1 ≤ R.frames) (hlo : 8 + (maxL + 11) + rm.locals ≤ R.locals) (hc : cells + rm.cells ≤ R.cells) (hs : slots + rm.slots ≤ R.slots) (hP : P a (T.calling g mk a)) :
    ∃ o s₂, Steps p.tables e below (doInvoke e (T.setTop g) [] mk a).1 s₂ ∧ Ended s₂ (.java g :: below) o ∧ Qm a (T.calling g mk a) o s₂ := by
  obtain ⟨methY, cY, hmY, hcY, -, hlY, -, -, -, -⟩ := Cond.code_spec hn (hws _ hcode)
  obtain ⟨kY, hkY, -⟩ := className_of_methodNamed hn
  have hinitY : kY.init = .initialized := Cond.initialized_spec (findClass_of_methodNamed hn) hkY hini
  have h : At T g.method c below := by rw [hg]; exact X.here
  have happ : (headSpec ws rm).appliesLoose y e.platform (T.calling g mk a) = true :=
    Spec.appliesLoose_calling (g := g) h hdg hn hkY hinitY (X.room_calling (g := g) (R' := rm) hsize hmY hcY hfr (by rw [hlY]; omega) hc hs) (atoms_intro hws)
  obtain ⟨mid, hmid⟩ := h.above
  have hfrs : (T.setTop g).frames = (.java g :: mid) ++ below := by rw [State.frames_setTop' g h.top, hmid]; rfl
  obtain ⟨o, s₂, hsteps, -, hend, hq⟩ := Steps.callFree hM p X.admits X.cas X.clock (acts := []) hfrs happ hP trivial
  rw [State.frames_setTop' g h.top, X.tail] at hend
  exact ⟨o, s₂, hsteps, hend, hq⟩
/-- what a call that throws leaves in the caller: the walk stands, with the note of the throw over its frame -/
theorem x_outT {T : State} {H : Heap} {locs : List Loc} (F : xF p s m args meth c D cl A cc nL own Ts) (hT : T.heap = H) (hz : H.size = nx) (hS : va_S A s.heap H locs) (hR : x_R D cl s A M H) (X : Stand p l e R s m args below meth c T locs cells slots) {g : JFrame} (hg : g.method = m) {mk : MethodId} {a : Array Value} {rm : Room} {E : String} {post : Nat → xH → Prop} {o : Outcome} {s₂ : State}
    (hend : Ended s₂ (.java g :: below) o) (hq : x_QT D cl (x_A M nx) E post (T.calling g mk a) o s₂ ∧ x_ET (x_A M nx) (T.calling g mk a) s₂ rm.cells rm.slots) :
    ∃ (x : Addr) (ce : Cell) (T' : State) (locs' : List Loc) (nx' : Nat) (M' : xH), Stand p l e R s m args below meth c T' locs' (cells + rm.cells) (slots + rm.slots) ∧ T'.heap[x]? = some ce ∧ ce.vm = .none ∧ s.vm.findClass E = some ce.cls ∧ post nx' M' ∧ T'.heap.size = nx' ∧ x_R D cl s A M' T'.heap ∧ va_S A s.heap T'.heap locs' ∧ s₂ = (T'.setTop g).pushFrame (.throwing x) := by
  obtain ⟨⟨⟨x, ce, nx', M', rfl, q1, q2, q3, q4, q5, q6⟩, qf⟩, L, ⟨hW2, hsame⟩, hL⟩ := hq
  obtain ⟨T', X', hW', -, ht⟩ := X.outOfThrown hg hend hW2 hsame
  have hvm : s₂.vm = T'.vm := by rw [ht]; exact throwing_vm T' g x
  have hhp : s₂.heap = T'.heap := by rw [ht]; exact throwing_heap T' g x
  have hal : s.vm.Alike s₂.vm := by rw [hvm]; exact X'.warmed.alike
  have hA1 := x_sub F hz hS hR
  have h1 : H.size ≤ s₂.heap.size := by have h : T.heap.size ≤ s₂.heap.size := qf.1; rw [hT] at h; exact h
  have h2 : ∀ q : Nat, q < H.size → ¬ x_A M nx q → s₂.heap[q]? = H[q]? := fun q hq hn => by
    have h : s₂.heap[q]? = T.heap[q]? := qf.2 q (by show q < T.heap.size; rw [hT]; exact hq) hn
    rw [hT] at h; exact h
  refine ⟨x, ce, T', locs ++ L, nx', M', X', by rw [← hhp]; exact q1, q2, by rw [← hal.findClass]; exact q3, q4, by rw [← hhp]; exact q5, by rw [← hhp]; exact (q6.moved hal.symm).weaken (fun q _ _ h => hA1 q h), ?_, ht⟩
  rw [← hhp]
  exact ⟨Nat.le_trans hS.1 h1, fun q g1 g2 => (h2 q (Nat.lt_of_lt_of_le g1 hS.1) (fun z => g2 (hA1 q z))).trans (hS.2.1 q g1 g2), fun q hq => by
    rcases List.mem_append.mp hq with h | h
    · exact hS.2.2 q h
    · exact hA1 _ (hL q h)⟩
/-- ... and if it has no handler, the caller throws it on -/
theorem x_on {T' : State} {locs' : List Loc} (F : xF p s m args meth c D cl A cc nL own Ts) {g : JFrame} (hg : g.method = m) (hlk : g.locked = none) (hen : g.entered = []) (hex : c.exceptionTable.isEmpty = true) {x : Addr} {ce : Cell} {nx' : Nat} {M' : xH} {E : String} {post : Nat → xH → Prop} {rc rs : Nat} (hrc : cells ≤ rc) (hrs : slots ≤ rs)
    (X' : Stand p l e R s m args below meth c T' locs' cells slots) (h1 : T'.heap[x]? = some ce) (h2 : ce.vm = .none) (h3 : s.vm.findClass E = some ce.cls) (h4 : post nx' M') (h5 : T'.heap.size = nx') (h6 : x_R D cl s A M' T'.heap) (h7 : va_S A s.heap T'.heap locs') :
    ∃ t, Steps p.tables e below ((T'.setTop g).pushFrame (.throwing x)) t ∧ x_MQT below D cl A E post s rc rs t := by
  obtain ⟨a1, a2, a3, a4, a5⟩ := X'.leaveThrown x hg hlk hen (fun z hz => by
    have : c.exceptionTable.toList = [] := by simpa using hex
    rw [this] at hz; cases hz) F.2.2.2.1
  refine ⟨_, a1, .threw x, a2, a3, ⟨⟨x, ce, nx', M', rfl, h1, h2, by rw [a4.alike.findClass]; exact h3, h4, h5, h6.moved a4.alike⟩, h7.1, h7.2.1⟩, locs', ⟨a4, a5.mono hrc hrs⟩, h7.2.2⟩
theorem x_invVT (F : xF p s m args meth c D cl A cc nL own Ts) {y : MethodName} {bytes : ByteArray} {maxL index n : Nat} {ret : Option FieldType} {ws ws' : List Cond} {rm : Room} {As stk : List Value} {C : String} {T0 : u_T} {N ci a : Nat} {fs : List Value} {E : String} {post0 post : Nat → xH → Prop} {rc rs : Nat}
    (hG : GoodIn Ts (wsV own index C y ws)) (hw : ws = Cond.code y bytes maxL ret :: ws') (hd : y.cls = C ∧ y.cls ≠ "java/lang/invoke/MethodHandle" ∧ y.cls ≠ "java/lang/invoke/VarHandle" ∧ (parseMethodDescriptor y.desc).map (fun d => d.parameters.length) = some n) (hc : cl[ci]? = some (C, T0, N)) (hdg : decode cc pc = .ok (.invokevirtual index, 3)) (hRm : rm.frames + 1 ≤ R.frames ∧ 8 + (maxL + 11) + rm.locals ≤ R.locals)
    (hM : xT_ l cl y ws rm (.ref a :: As) nx M E post0) (he : M a = some (.inr (ci, fs))) (hn : As.length = n) (hstk : stk = As.reverse ++ .ref a :: st) (hst8 : (st.map fun v => v.category).sum ≤ 8) (hf : cells + rm.cells ≤ R.cells ∧ slots + rm.slots ≤ R.slots) (hex : c.exceptionTable.isEmpty = true) (hrc : cells + rm.cells ≤ rc) (hrs : slots + rm.slots ≤ rs) (hp : ∀ n' M', post0 n' M' → post n' M') :
    xW p l e R s m args below meth c D cl A nL (x_MQT below D cl A E post s rc rs) cells slots nx M pc lv stk := by
  intro H locs ls hz hS hR hl T hT X
  subst hstk
  obtain ⟨⟨-, -, -, -, hws, hcw, hcode, hini, hy, hlen, hlk⟩, hin, hse⟩ := cwV (R := R) n F.1.2.2.2.2 hG hw (rfl : rm.cells = rm.cells) rfl hd hRm
  obtain ⟨cellB, hcB, hoB, hclB⟩ := va_recv F.2.1 (x_one (q := (a, .inr (ci, fs))) (hR a _ he).1) (q0 := 0) hc rfl
  obtain ⟨mk, methM, hnamed, hmethM, hstM, habM⟩ := Cond.instanceMethod_spec hin
  obtain ⟨methM', cM, hmethM', -, -, -, -, -, -, hsigM⟩ := Cond.code_spec hnamed hcode
  cases hmethM.symm.trans hmethM'
  obtain ⟨c2, r2, m2, q1, q2, q3, q4, kP, hkP, hkPi⟩ := Cond.selects_spec hse
  cases hclB.symm.trans q1
  cases (State.methodFound?_of_named hnamed hy).symm.trans q2
  cases hnamed.symm.trans q3
  have hselP : selectMethod e.platform s.vm cellB.cls mk = .method mk := by rw [Launch.admits_selectMethod X.admits]; exact q4
  obtain ⟨vm₁, X₁, hstep₁⟩ := X.invokevirtual F.1.1 F.1.2.2.2.1 hlk hnamed hmethM hstM hkP hkPi hy (a := a) (cell := cellB) (by rw [hT]; exact hcB)
    (fun z h => by rw [h] at hoB; cases hoB) hselP hmethM habM hkP hkPi (g := F0 m pc ls (As.reverse ++ .ref a :: st)) rfl (argsL := As) (rest := st) (hn.trans (hlen _ hsigM)) rfl (by rw [F.1.2.1]; exact hdg)
  have hml : (F0 m pc ls st).locals.size = c.maxLocals := by rw [F.1.2.2.1]; exact hl.1
  obtain ⟨o, s₂, hsteps, hend, hq⟩ := x_go X₁ (g := F0 m pc ls st) rfl hml (by rw [F.1.2.1]; exact hdg) (lv_room hst8) (X₁.named hnamed) (hM D) (fun w hw2 => hws w hw2 _ _ X₁.warmed) hcw (word_at X₁.warmed (Or.inl (by first | rfl | simp [Cond.onTables, Cond.keeps, Cond.steady])) hini) hRm.1 hRm.2 hf.1 hf.2
    (x_blind _ _ _ _ (x_pre F (As := .ref a :: As) hz hS hR (T.setVm vm₁) hT X₁.warmed))
  obtain ⟨x, ce, T', locs', nx', M', X', b1, b2, b3, b4, b5, b6, b7, rfl⟩ := x_outT F (T := T.setVm vm₁) hT hz hS hR X₁ (g := F0 m pc ls st) rfl hend hq
  obtain ⟨t, c1, c2⟩ := x_on F (g := F0 m pc ls st) rfl rfl rfl hex hrc hrs X' b1 b2 b3 (hp _ _ b4) b5 b6 b7
  exact ⟨t, hstep₁ _ fun acts => by rw [doInvoke_state]; exact hsteps.trans c1, c2⟩
theorem x_invST (F : xF p s m args meth c D cl A cc nL own Ts) {y : MethodName} {bytes : ByteArray} {maxL index n : Nat} {ret : Option FieldType} {ws ws' : List Cond} {rm : Room} {As stk : List Value} {E : String} {post0 post : Nat → xH → Prop} {rc rs : Nat}
    (hG : GoodIn Ts (wsS own index y ws)) (hw : ws = Cond.code y bytes maxL ret :: ws') (hd : y.cls = own ∧ y.cls ≠ "java/lang/invoke/MethodHandle" ∧ y.cls ≠ "java/lang/invoke/VarHandle" ∧ (parseMethodDescriptor y.desc).map (fun d => d.parameters.length) = some n) (hdg : decode cc pc = .ok (.invokestatic index, 3)) (hRm : rm.frames + 1 ≤ R.frames ∧ 8 + (maxL + 11) + rm.locals ≤ R.locals)
    (hM : xT_ l cl y ws rm As nx M E post0) (hn : As.length = n) (hstk : stk = As.reverse ++ st) (hst8 : (st.map fun v => v.category).sum ≤ 8) (hf : cells + rm.cells ≤ R.cells ∧ slots + rm.slots ≤ R.slots) (hex : c.exceptionTable.isEmpty = true) (hrc : cells + rm.cells ≤ rc) (hrs : slots + rm.slots ≤ rs) (hp : ∀ n' M', post0 n' M' → post n' M') :
    xW p l e R s m args below meth c D cl A nL (x_MQT below D cl A E post s rc rs) cells slots nx M pc lv stk := by
  intro H locs ls hz hS hR hl T hT X
  subst hstk
  obtain ⟨⟨-, -, -, -, hws, hcw, hcode, hini, hy, hlen, hlk⟩, hstt⟩ := cwS (R := R) n F.1.2.2.2.2 hG hw (rfl : rm.cells = rm.cells) rfl hd hRm
  obtain ⟨mk, hnamed⟩ := Cond.code_named hcode
  obtain ⟨methM, cM, hmethM, -, -, -, -, -, -, hsigM⟩ := Cond.code_spec hnamed hcode
  have hstatic : methM.isStatic = true := Cond.static_spec hnamed hmethM hstt
  obtain ⟨kP, hkP, -⟩ := className_of_methodNamed hnamed
  have hinitP : kP.init = .initialized := Cond.initialized_spec (findClass_of_methodNamed hnamed) hkP hini
  obtain ⟨vm₁, X₁, hstep₁⟩ := X.invokestatic F.1.1 F.1.2.2.2.1 hlk hnamed hmethM hstatic hkP hinitP hy (g := F0 m pc ls (As.reverse ++ st)) rfl (argsL := As) (rest := st) (hn.trans (hlen _ hsigM)) rfl (by rw [F.1.2.1]; exact hdg)
  have hml : (F0 m pc ls st).locals.size = c.maxLocals := by rw [F.1.2.2.1]; exact hl.1
  obtain ⟨o, s₂, hsteps, hend, hq⟩ := x_go X₁ (g := F0 m pc ls st) rfl hml (by rw [F.1.2.1]; exact hdg) (lv_room hst8) (X₁.named hnamed) (hM D) (fun w hw2 => hws w hw2 _ _ X₁.warmed) hcw (word_at X₁.warmed (Or.inl (by first | rfl | simp [Cond.onTables, Cond.keeps, Cond.steady])) hini) hRm.1 hRm.2 hf.1 hf.2
    (x_blind _ _ _ _ (x_pre F (As := As) hz hS hR (T.setVm vm₁) hT X₁.warmed))
  obtain ⟨x, ce, T', locs', nx', M', X', b1, b2, b3, b4, b5, b6, b7, rfl⟩ := x_outT F (T := T.setVm vm₁) hT hz hS hR X₁ (g := F0 m pc ls st) rfl hend hq
  obtain ⟨t, c1, c2⟩ := x_on F (g := F0 m pc ls st) rfl rfl rfl hex hrc hrs X' b1 b2 b3 (hp _ _ b4) b5 b6 b7
  exact ⟨t, hstep₁ _ fun acts => by rw [doInvoke_state]; exact hsteps.trans c1, c2⟩
end XCT
end
