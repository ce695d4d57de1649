/-! GoodsTree at g: reader g + 1, the array of trees g + 4, notes g + 5, links g + 10, findings g + 15; the tree of edition i at g + 18 + 7 * π i, the spare one is number 3 -/
def gObj (M : xH) (g : Nat) (π : Nat → Nat) (pr : Nat) (f : Nat → Option Nat) : Prop :=
  M g = some (.inr (5, [.ref (g + 1), .ref (g + 4), .ref (g + 5), .ref (g + 10), .ref (g + 15), .ref (g + 18 + 7 * π 3), .int (nI pr)])) ∧ M (g + 4) = some (.inl (.object "GoodsTree$Tree", 3, .inr (.inr (.inr (.inr f))))) ∧ (∀ i, i < 3 → f i = some (g + 18 + 7 * π i)) ∧ pr < 3 ∧ (∀ i, i < 4 → π i < 4) ∧ ∀ i j, i < 4 → j < 4 → π i = π j → i = j
abbrev rS : Type := (Nat → Int32) × (Nat → Int64) × Nat × Nat × Nat × Int32 × Int32
def rIs (M : xH) (a : Nat) (ρ : rS) : Prop := rAt M a ρ.1 ρ.2.1 ρ.2.2.1 ρ.2.2.2.1 ρ.2.2.2.2.1 ρ.2.2.2.2.2.1 ρ.2.2.2.2.2.2
/-- the whole state: which tree is where, the present edition, the reader, the trees, notes, links, findings -/
abbrev gS : Type := (Nat → Nat) × Nat × rS × (Nat → tS) × pS × pS × fS
def gIs (M : xH) (g : Nat) (γ : gS) : Prop := (∃ f, gObj M g γ.1 γ.2.1 f) ∧ rIs M (g + 1) γ.2.2.1 ∧ (∀ i, i < 4 → tIs M (g + 18 + 7 * γ.1 i) (γ.2.2.2.1 i)) ∧ pIs M (g + 5) 20 γ.2.2.2.2.1 ∧ pIs M (g + 10) 60 γ.2.2.2.2.2.1 ∧ fIs M (g + 15) γ.2.2.2.2.2.2
/-- the row of a code in a tree -/
def tFind (τ : tS) (co : Int64) : Option Nat := fi (fun j => decide (τ.1 j = co)) τ.2.2.2.2.2.2.1 0
theorem tFind_lt {M : xH} {a : Nat} {τ : tS} (h : tIs M a τ) {co : Int64} {j : Nat} (hj : tFind τ co = some j) : j < τ.2.2.2.2.2.2.1 ∧ τ.2.2.2.2.2.2.1 ≤ 40 := by
  have h1 := fi_lt hj
  obtain ⟨-, -, -, -, -, -, -, h2, -⟩ := h
  exact ⟨by omega, h2⟩
theorem dG_init_0 : decode bG_init 0 = .ok (.aload_n 0, 1) := by decide +kernel
theorem dG_init_1 : decode bG_init 1 = .ok (.invokespecial 1, 3) := by decide +kernel
theorem dG_init_4 : decode bG_init 4 = .ok (.aload_n 0, 1) := by decide +kernel
theorem dG_init_5 : decode bG_init 5 = .ok (.new 7, 3) := by decide +kernel
theorem dG_init_8 : decode bG_init 8 = .ok (.dup, 1) := by decide +kernel
theorem dG_init_9 : decode bG_init 9 = .ok (.invokespecial 9, 3) := by decide +kernel
theorem dG_init_12 : decode bG_init 12 = .ok (.putfield 10, 3) := by decide +kernel
theorem dG_init_15 : decode bG_init 15 = .ok (.aload_n 0, 1) := by decide +kernel
theorem dG_init_16 : decode bG_init 16 = .ok (.iconst 3, 1) := by decide +kernel
theorem dG_init_17 : decode bG_init 17 = .ok (.anewarray 16, 3) := by decide +kernel
theorem dG_init_20 : decode bG_init 20 = .ok (.putfield 18, 3) := by decide +kernel
theorem dG_init_23 : decode bG_init 23 = .ok (.aload_n 0, 1) := by decide +kernel
theorem dG_init_24 : decode bG_init 24 = .ok (.new 22, 3) := by decide +kernel
theorem dG_init_27 : decode bG_init 27 = .ok (.dup, 1) := by decide +kernel
theorem dG_init_28 : decode bG_init 28 = .ok (.bipush 20, 2) := by decide +kernel
theorem dG_init_30 : decode bG_init 30 = .ok (.invokespecial 24, 3) := by decide +kernel
theorem dG_init_33 : decode bG_init 33 = .ok (.putfield 27, 3) := by decide +kernel
theorem dG_init_36 : decode bG_init 36 = .ok (.aload_n 0, 1) := by decide +kernel
theorem dG_init_37 : decode bG_init 37 = .ok (.new 22, 3) := by decide +kernel
theorem dG_init_40 : decode bG_init 40 = .ok (.dup, 1) := by decide +kernel
theorem dG_init_41 : decode bG_init 41 = .ok (.bipush 60, 2) := by decide +kernel
theorem dG_init_43 : decode bG_init 43 = .ok (.invokespecial 24, 3) := by decide +kernel
theorem dG_init_46 : decode bG_init 46 = .ok (.putfield 31, 3) := by decide +kernel
theorem dG_init_49 : decode bG_init 49 = .ok (.aload_n 0, 1) := by decide +kernel
theorem dG_init_50 : decode bG_init 50 = .ok (.new 34, 3) := by decide +kernel
theorem dG_init_53 : decode bG_init 53 = .ok (.dup, 1) := by decide +kernel
theorem dG_init_54 : decode bG_init 54 = .ok (.invokespecial 36, 3) := by decide +kernel
theorem dG_init_57 : decode bG_init 57 = .ok (.putfield 37, 3) := by decide +kernel
theorem dG_init_60 : decode bG_init 60 = .ok (.aload_n 0, 1) := by decide +kernel
theorem dG_init_61 : decode bG_init 61 = .ok (.new 16, 3) := by decide +kernel
theorem dG_init_64 : decode bG_init 64 = .ok (.dup, 1) := by decide +kernel
theorem dG_init_65 : decode bG_init 65 = .ok (.invokespecial 41, 3) := by decide +kernel
theorem dG_init_68 : decode bG_init 68 = .ok (.putfield 42, 3) := by decide +kernel
theorem dG_init_71 : decode bG_init 71 = .ok (.aload_n 0, 1) := by decide +kernel
theorem dG_init_72 : decode bG_init 72 = .ok (.iconst 0, 1) := by decide +kernel
theorem dG_init_73 : decode bG_init 73 = .ok (.putfield 46, 3) := by decide +kernel
theorem dG_init_76 : decode bG_init 76 = .ok (.iconst 0, 1) := by decide +kernel
theorem dG_init_77 : decode bG_init 77 = .ok (.istore_n 1, 1) := by decide +kernel
theorem dG_init_78 : decode bG_init 78 = .ok (.iload_n 1, 1) := by decide +kernel
theorem dG_init_79 : decode bG_init 79 = .ok (.iconst 3, 1) := by decide +kernel
theorem dG_init_80 : decode bG_init 80 = .ok (.if_icmp .ge 22, 3) := by decide +kernel
theorem dG_init_83 : decode bG_init 83 = .ok (.aload_n 0, 1) := by decide +kernel
theorem dG_init_84 : decode bG_init 84 = .ok (.getfield 18, 3) := by decide +kernel
theorem dG_init_87 : decode bG_init 87 = .ok (.iload_n 1, 1) := by decide +kernel
theorem dG_init_88 : decode bG_init 88 = .ok (.new 16, 3) := by decide +kernel
theorem dG_init_91 : decode bG_init 91 = .ok (.dup, 1) := by decide +kernel
theorem dG_init_92 : decode bG_init 92 = .ok (.invokespecial 41, 3) := by decide +kernel
theorem dG_init_95 : decode bG_init 95 = .ok (.aastore, 1) := by decide +kernel
theorem dG_init_96 : decode bG_init 96 = .ok (.iinc 1 1, 3) := by decide +kernel
theorem dG_init_99 : decode bG_init 99 = .ok (.goto (-21), 3) := by decide +kernel
theorem dG_init_102 : decode bG_init 102 = .ok (.return_, 1) := by decide +kernel
theorem dG_sign_0 : decode bG_sign 0 = .ok (.aload_n 0, 1) := by decide +kernel
theorem dG_sign_1 : decode bG_sign 1 = .ok (.getfield 10, 3) := by decide +kernel
theorem dG_sign_4 : decode bG_sign 4 = .ok (.iload_n 1, 1) := by decide +kernel
theorem dG_sign_5 : decode bG_sign 5 = .ok (.invokevirtual 50, 3) := by decide +kernel
theorem dG_sign_8 : decode bG_sign 8 = .ok (.ireturn, 1) := by decide +kernel
theorem dG_read_0 : decode bG_read 0 = .ok (.aload_n 0, 1) := by decide +kernel
theorem dG_read_1 : decode bG_read 1 = .ok (.getfield 42, 3) := by decide +kernel
theorem dG_read_4 : decode bG_read 4 = .ok (.invokevirtual 54, 3) := by decide +kernel
theorem dG_read_7 : decode bG_read 7 = .ok (.aload_n 0, 1) := by decide +kernel
theorem dG_read_8 : decode bG_read 8 = .ok (.getfield 10, 3) := by decide +kernel
theorem dG_read_11 : decode bG_read 11 = .ok (.aload_n 0, 1) := by decide +kernel
theorem dG_read_12 : decode bG_read 12 = .ok (.getfield 42, 3) := by decide +kernel
theorem dG_read_15 : decode bG_read 15 = .ok (.invokevirtual 57, 3) := by decide +kernel
theorem dG_read_18 : decode bG_read 18 = .ok (.istore_n 1, 1) := by decide +kernel
theorem dG_read_19 : decode bG_read 19 = .ok (.aload_n 0, 1) := by decide +kernel
theorem dG_read_20 : decode bG_read 20 = .ok (.getfield 10, 3) := by decide +kernel
theorem dG_read_23 : decode bG_read 23 = .ok (.invokevirtual 61, 3) := by decide +kernel
theorem dG_read_26 : decode bG_read 26 = .ok (.iload_n 1, 1) := by decide +kernel
theorem dG_read_27 : decode bG_read 27 = .ok (.ifCond .ne 13, 3) := by decide +kernel
theorem dG_read_30 : decode bG_read 30 = .ok (.new 62, 3) := by decide +kernel
theorem dG_read_33 : decode bG_read 33 = .ok (.dup, 1) := by decide +kernel
theorem dG_read_34 : decode bG_read 34 = .ok (.ldc 64, 2) := by decide +kernel
theorem dG_read_36 : decode bG_read 36 = .ok (.invokespecial 66, 3) := by decide +kernel
theorem dG_read_39 : decode bG_read 39 = .ok (.athrow, 1) := by decide +kernel
theorem dG_read_40 : decode bG_read 40 = .ok (.aload_n 0, 1) := by decide +kernel
theorem dG_read_41 : decode bG_read 41 = .ok (.getfield 18, 3) := by decide +kernel
theorem dG_read_44 : decode bG_read 44 = .ok (.aload_n 0, 1) := by decide +kernel
theorem dG_read_45 : decode bG_read 45 = .ok (.getfield 46, 3) := by decide +kernel
theorem dG_read_48 : decode bG_read 48 = .ok (.aaload, 1) := by decide +kernel
theorem dG_read_49 : decode bG_read 49 = .ok (.astore_n 2, 1) := by decide +kernel
theorem dG_read_50 : decode bG_read 50 = .ok (.aload_n 0, 1) := by decide +kernel
theorem dG_read_51 : decode bG_read 51 = .ok (.getfield 18, 3) := by decide +kernel
theorem dG_read_54 : decode bG_read 54 = .ok (.aload_n 0, 1) := by decide +kernel
theorem dG_read_55 : decode bG_read 55 = .ok (.getfield 46, 3) := by decide +kernel
theorem dG_read_58 : decode bG_read 58 = .ok (.aload_n 0, 1) := by decide +kernel
theorem dG_read_59 : decode bG_read 59 = .ok (.getfield 42, 3) := by decide +kernel
theorem dG_read_62 : decode bG_read 62 = .ok (.aastore, 1) := by decide +kernel
theorem dG_read_63 : decode bG_read 63 = .ok (.aload_n 0, 1) := by decide +kernel
theorem dG_read_64 : decode bG_read 64 = .ok (.aload_n 2, 1) := by decide +kernel
theorem dG_read_65 : decode bG_read 65 = .ok (.putfield 42, 3) := by decide +kernel
theorem dG_read_68 : decode bG_read 68 = .ok (.aload_n 0, 1) := by decide +kernel
theorem dG_read_69 : decode bG_read 69 = .ok (.getfield 27, 3) := by decide +kernel
theorem dG_read_72 : decode bG_read 72 = .ok (.aload_n 0, 1) := by decide +kernel
theorem dG_read_73 : decode bG_read 73 = .ok (.getfield 46, 3) := by decide +kernel
theorem dG_read_76 : decode bG_read 76 = .ok (.invokevirtual 69, 3) := by decide +kernel
theorem dG_read_79 : decode bG_read 79 = .ok (.aload_n 0, 1) := by decide +kernel
theorem dG_read_80 : decode bG_read 80 = .ok (.getfield 31, 3) := by decide +kernel
theorem dG_read_83 : decode bG_read 83 = .ok (.aload_n 0, 1) := by decide +kernel
theorem dG_read_84 : decode bG_read 84 = .ok (.getfield 46, 3) := by decide +kernel
theorem dG_read_87 : decode bG_read 87 = .ok (.invokevirtual 69, 3) := by decide +kernel
theorem dG_read_90 : decode bG_read 90 = .ok (.aload_n 0, 1) := by decide +kernel
theorem dG_read_91 : decode bG_read 91 = .ok (.getfield 31, 3) := by decide +kernel
theorem dG_read_94 : decode bG_read 94 = .ok (.aload_n 0, 1) := by decide +kernel
theorem dG_read_95 : decode bG_read 95 = .ok (.getfield 46, 3) := by decide +kernel
theorem dG_read_98 : decode bG_read 98 = .ok (.invokevirtual 72, 3) := by decide +kernel
theorem dG_read_101 : decode bG_read 101 = .ok (.aload_n 0, 1) := by decide +kernel
theorem dG_read_102 : decode bG_read 102 = .ok (.getfield 18, 3) := by decide +kernel
theorem dG_read_105 : decode bG_read 105 = .ok (.aload_n 0, 1) := by decide +kernel
theorem dG_read_106 : decode bG_read 106 = .ok (.getfield 46, 3) := by decide +kernel
theorem dG_read_109 : decode bG_read 109 = .ok (.aaload, 1) := by decide +kernel
theorem dG_read_110 : decode bG_read 110 = .ok (.invokevirtual 75, 3) := by decide +kernel
theorem dG_read_113 : decode bG_read 113 = .ok (.ireturn, 1) := by decide +kernel
theorem dG_failure_0 : decode bG_failure 0 = .ok (.iload_n 1, 1) := by decide +kernel
theorem dG_failure_1 : decode bG_failure 1 = .ok (.lookupswitch 43 #[(0, 27), (1, 35)], 27) := by decide +kernel
theorem dG_failure_28 : decode bG_failure 28 = .ok (.aload_n 0, 1) := by decide +kernel
theorem dG_failure_29 : decode bG_failure 29 = .ok (.getfield 10, 3) := by decide +kernel
theorem dG_failure_32 : decode bG_failure 32 = .ok (.invokevirtual 79, 3) := by decide +kernel
theorem dG_failure_35 : decode bG_failure 35 = .ok (.ireturn, 1) := by decide +kernel
theorem dG_failure_36 : decode bG_failure 36 = .ok (.aload_n 0, 1) := by decide +kernel
theorem dG_failure_37 : decode bG_failure 37 = .ok (.getfield 10, 3) := by decide +kernel
theorem dG_failure_40 : decode bG_failure 40 = .ok (.invokevirtual 82, 3) := by decide +kernel
theorem dG_failure_43 : decode bG_failure 43 = .ok (.ireturn, 1) := by decide +kernel
theorem dG_failure_44 : decode bG_failure 44 = .ok (.iconst (-1), 1) := by decide +kernel
theorem dG_failure_45 : decode bG_failure 45 = .ok (.ireturn, 1) := by decide +kernel
theorem dG_edition_0 : decode bG_edition 0 = .ok (.iload_n 1, 1) := by decide +kernel
theorem dG_edition_1 : decode bG_edition 1 = .ok (.invokestatic 85, 3) := by decide +kernel
theorem dG_edition_4 : decode bG_edition 4 = .ok (.ifCond .eq 11, 3) := by decide +kernel
theorem dG_edition_7 : decode bG_edition 7 = .ok (.iload_n 1, 1) := by decide +kernel
theorem dG_edition_8 : decode bG_edition 8 = .ok (.aload_n 0, 1) := by decide +kernel
theorem dG_edition_9 : decode bG_edition 9 = .ok (.getfield 46, 3) := by decide +kernel
theorem dG_edition_12 : decode bG_edition 12 = .ok (.if_icmp .ne 5, 3) := by decide +kernel
theorem dG_edition_15 : decode bG_edition 15 = .ok (.iconst 0, 1) := by decide +kernel
theorem dG_edition_16 : decode bG_edition 16 = .ok (.ireturn, 1) := by decide +kernel
theorem dG_edition_17 : decode bG_edition 17 = .ok (.aload_n 0, 1) := by decide +kernel
theorem dG_edition_18 : decode bG_edition 18 = .ok (.iload_n 1, 1) := by decide +kernel
theorem dG_edition_19 : decode bG_edition 19 = .ok (.putfield 46, 3) := by decide +kernel
theorem dG_edition_22 : decode bG_edition 22 = .ok (.iconst 1, 1) := by decide +kernel
theorem dG_edition_23 : decode bG_edition 23 = .ok (.ireturn, 1) := by decide +kernel
theorem dG_row_0 : decode bG_row 0 = .ok (.aload_n 0, 1) := by decide +kernel
theorem dG_row_1 : decode bG_row 1 = .ok (.getfield 18, 3) := by decide +kernel
theorem dG_row_4 : decode bG_row 4 = .ok (.aload_n 0, 1) := by decide +kernel
theorem dG_row_5 : decode bG_row 5 = .ok (.getfield 46, 3) := by decide +kernel
theorem dG_row_8 : decode bG_row 8 = .ok (.aaload, 1) := by decide +kernel
theorem dG_row_9 : decode bG_row 9 = .ok (.astore_n 3, 1) := by decide +kernel
theorem dG_row_10 : decode bG_row 10 = .ok (.aload_n 3, 1) := by decide +kernel
theorem dG_row_11 : decode bG_row 11 = .ok (.iload_n 1, 1) := by decide +kernel
theorem dG_row_12 : decode bG_row 12 = .ok (.invokevirtual 88, 3) := by decide +kernel
theorem dG_row_15 : decode bG_row 15 = .ok (.ifCond .ne 13, 3) := by decide +kernel
theorem dG_row_18 : decode bG_row 18 = .ok (.new 91, 3) := by decide +kernel
theorem dG_row_21 : decode bG_row 21 = .ok (.dup, 1) := by decide +kernel
theorem dG_row_22 : decode bG_row 22 = .ok (.ldc 93, 2) := by decide +kernel
theorem dG_row_24 : decode bG_row 24 = .ok (.invokespecial 95, 3) := by decide +kernel
theorem dG_row_27 : decode bG_row 27 = .ok (.athrow, 1) := by decide +kernel
theorem dG_row_28 : decode bG_row 28 = .ok (.iload_n 2, 1) := by decide +kernel
theorem dG_row_29 : decode bG_row 29 = .ok (.tableswitch 72 0 4 #[35, 41, 48, 55, 65], 35) := by decide +kernel
theorem dG_row_64 : decode bG_row 64 = .ok (.aload_n 3, 1) := by decide +kernel
theorem dG_row_65 : decode bG_row 65 = .ok (.iload_n 1, 1) := by decide +kernel
theorem dG_row_66 : decode bG_row 66 = .ok (.invokevirtual 96, 3) := by decide +kernel
theorem dG_row_69 : decode bG_row 69 = .ok (.lreturn, 1) := by decide +kernel
theorem dG_row_70 : decode bG_row 70 = .ok (.aload_n 3, 1) := by decide +kernel
theorem dG_row_71 : decode bG_row 71 = .ok (.iload_n 1, 1) := by decide +kernel
theorem dG_row_72 : decode bG_row 72 = .ok (.invokevirtual 100, 3) := by decide +kernel
theorem dG_row_75 : decode bG_row 75 = .ok (.i2l, 1) := by decide +kernel
theorem dG_row_76 : decode bG_row 76 = .ok (.lreturn, 1) := by decide +kernel
theorem dG_row_77 : decode bG_row 77 = .ok (.aload_n 3, 1) := by decide +kernel
theorem dG_row_78 : decode bG_row 78 = .ok (.iload_n 1, 1) := by decide +kernel
theorem dG_row_79 : decode bG_row 79 = .ok (.invokevirtual 104, 3) := by decide +kernel
theorem dG_row_82 : decode bG_row 82 = .ok (.i2l, 1) := by decide +kernel
theorem dG_row_83 : decode bG_row 83 = .ok (.lreturn, 1) := by decide +kernel
theorem dG_row_84 : decode bG_row 84 = .ok (.aload_n 3, 1) := by decide +kernel
theorem dG_row_85 : decode bG_row 85 = .ok (.aload_n 3, 1) := by decide +kernel
theorem dG_row_86 : decode bG_row 86 = .ok (.iload_n 1, 1) := by decide +kernel
theorem dG_row_87 : decode bG_row 87 = .ok (.invokevirtual 107, 3) := by decide +kernel
theorem dG_row_90 : decode bG_row 90 = .ok (.invokevirtual 96, 3) := by decide +kernel
theorem dG_row_93 : decode bG_row 93 = .ok (.lreturn, 1) := by decide +kernel
theorem dG_row_94 : decode bG_row 94 = .ok (.aload_n 3, 1) := by decide +kernel
theorem dG_row_95 : decode bG_row 95 = .ok (.iload_n 1, 1) := by decide +kernel
theorem dG_row_96 : decode bG_row 96 = .ok (.invokevirtual 110, 3) := by decide +kernel
theorem dG_row_99 : decode bG_row 99 = .ok (.i2l, 1) := by decide +kernel
theorem dG_row_100 : decode bG_row 100 = .ok (.lreturn, 1) := by decide +kernel
theorem dG_row_101 : decode bG_row 101 = .ok (.new 91, 3) := by decide +kernel
theorem dG_row_104 : decode bG_row 104 = .ok (.dup, 1) := by decide +kernel
theorem dG_row_105 : decode bG_row 105 = .ok (.ldc 113, 2) := by decide +kernel
theorem dG_row_107 : decode bG_row 107 = .ok (.invokespecial 95, 3) := by decide +kernel
theorem dG_row_110 : decode bG_row 110 = .ok (.athrow, 1) := by decide +kernel
theorem dG_find_0 : decode bG_find 0 = .ok (.aload_n 0, 1) := by decide +kernel
theorem dG_find_1 : decode bG_find 1 = .ok (.getfield 18, 3) := by decide +kernel
theorem dG_find_4 : decode bG_find 4 = .ok (.aload_n 0, 1) := by decide +kernel
theorem dG_find_5 : decode bG_find 5 = .ok (.getfield 46, 3) := by decide +kernel
theorem dG_find_8 : decode bG_find 8 = .ok (.aaload, 1) := by decide +kernel
theorem dG_find_9 : decode bG_find 9 = .ok (.lload_n 1, 1) := by decide +kernel
theorem dG_find_10 : decode bG_find 10 = .ok (.invokevirtual 115, 3) := by decide +kernel
theorem dG_find_13 : decode bG_find 13 = .ok (.ireturn, 1) := by decide +kernel
theorem dG_note_0 : decode bG_note 0 = .ok (.aload_n 0, 1) := by decide +kernel
theorem dG_note_1 : decode bG_note 1 = .ok (.aload_n 0, 1) := by decide +kernel
theorem dG_note_2 : decode bG_note 2 = .ok (.getfield 46, 3) := by decide +kernel
theorem dG_note_5 : decode bG_note 5 = .ok (.lload_n 1, 1) := by decide +kernel
theorem dG_note_6 : decode bG_note 6 = .ok (.invokevirtual 119, 3) := by decide +kernel
theorem dG_note_9 : decode bG_note 9 = .ok (.ifCond .eq 20, 3) := by decide +kernel
theorem dG_note_12 : decode bG_note 12 = .ok (.aload_n 0, 1) := by decide +kernel
theorem dG_note_13 : decode bG_note 13 = .ok (.aload_n 0, 1) := by decide +kernel
theorem dG_note_14 : decode bG_note 14 = .ok (.getfield 46, 3) := by decide +kernel
theorem dG_note_17 : decode bG_note 17 = .ok (.lload 4, 2) := by decide +kernel
theorem dG_note_19 : decode bG_note 19 = .ok (.invokevirtual 119, 3) := by decide +kernel
theorem dG_note_22 : decode bG_note 22 = .ok (.ifCond .eq 7, 3) := by decide +kernel
theorem dG_note_25 : decode bG_note 25 = .ok (.iconst 1, 1) := by decide +kernel
theorem dG_note_26 : decode bG_note 26 = .ok (.goto 4, 3) := by decide +kernel
theorem dG_note_29 : decode bG_note 29 = .ok (.iconst 0, 1) := by decide +kernel
theorem dG_note_30 : decode bG_note 30 = .ok (.istore 6, 2) := by decide +kernel
theorem dG_note_32 : decode bG_note 32 = .ok (.iload 6, 2) := by decide +kernel
theorem dG_note_34 : decode bG_note 34 = .ok (.ifCond .eq 19, 3) := by decide +kernel
theorem dG_note_37 : decode bG_note 37 = .ok (.lload_n 1, 1) := by decide +kernel
theorem dG_note_38 : decode bG_note 38 = .ok (.lload 4, 2) := by decide +kernel
theorem dG_note_40 : decode bG_note 40 = .ok (.lcmp, 1) := by decide +kernel
theorem dG_note_41 : decode bG_note 41 = .ok (.ifCond .eq 12, 3) := by decide +kernel
theorem dG_note_44 : decode bG_note 44 = .ok (.iload_n 3, 1) := by decide +kernel
theorem dG_note_45 : decode bG_note 45 = .ok (.ifCond .eq 18, 3) := by decide +kernel
theorem dG_note_48 : decode bG_note 48 = .ok (.iload_n 3, 1) := by decide +kernel
theorem dG_note_49 : decode bG_note 49 = .ok (.iconst 1, 1) := by decide +kernel
theorem dG_note_50 : decode bG_note 50 = .ok (.if_icmp .eq 13, 3) := by decide +kernel
theorem dG_note_53 : decode bG_note 53 = .ok (.new 123, 3) := by decide +kernel
theorem dG_note_56 : decode bG_note 56 = .ok (.dup, 1) := by decide +kernel
theorem dG_note_57 : decode bG_note 57 = .ok (.ldc 125, 2) := by decide +kernel
theorem dG_note_59 : decode bG_note 59 = .ok (.invokespecial 127, 3) := by decide +kernel
theorem dG_note_62 : decode bG_note 62 = .ok (.athrow, 1) := by decide +kernel
theorem dG_note_63 : decode bG_note 63 = .ok (.aload_n 0, 1) := by decide +kernel
theorem dG_note_64 : decode bG_note 64 = .ok (.getfield 27, 3) := by decide +kernel
theorem dG_note_67 : decode bG_note 67 = .ok (.invokevirtual 128, 3) := by decide +kernel
theorem dG_note_70 : decode bG_note 70 = .ok (.ifCond .ne 21, 3) := by decide +kernel
theorem dG_note_73 : decode bG_note 73 = .ok (.aload_n 0, 1) := by decide +kernel
theorem dG_note_74 : decode bG_note 74 = .ok (.getfield 27, 3) := by decide +kernel
theorem dG_note_77 : decode bG_note 77 = .ok (.aload_n 0, 1) := by decide +kernel
theorem dG_note_78 : decode bG_note 78 = .ok (.getfield 46, 3) := by decide +kernel
theorem dG_note_81 : decode bG_note 81 = .ok (.lload_n 1, 1) := by decide +kernel
theorem dG_note_82 : decode bG_note 82 = .ok (.iload_n 3, 1) := by decide +kernel
theorem dG_note_83 : decode bG_note 83 = .ok (.lload 4, 2) := by decide +kernel
theorem dG_note_85 : decode bG_note 85 = .ok (.invokevirtual 132, 3) := by decide +kernel
theorem dG_note_88 : decode bG_note 88 = .ok (.ifCond .eq 13, 3) := by decide +kernel
theorem dG_note_91 : decode bG_note 91 = .ok (.new 62, 3) := by decide +kernel
theorem dG_note_94 : decode bG_note 94 = .ok (.dup, 1) := by decide +kernel
theorem dG_note_95 : decode bG_note 95 = .ok (.ldc 136, 2) := by decide +kernel
theorem dG_note_97 : decode bG_note 97 = .ok (.invokespecial 66, 3) := by decide +kernel
theorem dG_note_100 : decode bG_note 100 = .ok (.athrow, 1) := by decide +kernel
theorem dG_note_101 : decode bG_note 101 = .ok (.aload_n 0, 1) := by decide +kernel
theorem dG_note_102 : decode bG_note 102 = .ok (.getfield 27, 3) := by decide +kernel
theorem dG_note_105 : decode bG_note 105 = .ok (.aload_n 0, 1) := by decide +kernel
theorem dG_note_106 : decode bG_note 106 = .ok (.getfield 46, 3) := by decide +kernel
theorem dG_note_109 : decode bG_note 109 = .ok (.lload_n 1, 1) := by decide +kernel
theorem dG_note_110 : decode bG_note 110 = .ok (.iload_n 3, 1) := by decide +kernel
theorem dG_note_111 : decode bG_note 111 = .ok (.lload 4, 2) := by decide +kernel
theorem dG_note_113 : decode bG_note 113 = .ok (.invokevirtual 138, 3) := by decide +kernel
theorem dG_note_116 : decode bG_note 116 = .ok (.aload_n 0, 1) := by decide +kernel
theorem dG_note_117 : decode bG_note 117 = .ok (.getfield 27, 3) := by decide +kernel
theorem dG_note_120 : decode bG_note 120 = .ok (.aload_n 0, 1) := by decide +kernel
theorem dG_note_121 : decode bG_note 121 = .ok (.getfield 46, 3) := by decide +kernel
theorem dG_note_124 : decode bG_note 124 = .ok (.invokevirtual 142, 3) := by decide +kernel
theorem dG_note_127 : decode bG_note 127 = .ok (.ireturn, 1) := by decide +kernel
theorem dG_noted_0 : decode bG_noted 0 = .ok (.aload_n 0, 1) := by decide +kernel
theorem dG_noted_1 : decode bG_noted 1 = .ok (.aload_n 0, 1) := by decide +kernel
theorem dG_noted_2 : decode bG_noted 2 = .ok (.getfield 46, 3) := by decide +kernel
theorem dG_noted_5 : decode bG_noted 5 = .ok (.lload_n 1, 1) := by decide +kernel
theorem dG_noted_6 : decode bG_noted 6 = .ok (.invokevirtual 119, 3) := by decide +kernel
theorem dG_noted_9 : decode bG_noted 9 = .ok (.ifCond .ne 13, 3) := by decide +kernel
theorem dG_noted_12 : decode bG_noted 12 = .ok (.new 123, 3) := by decide +kernel
theorem dG_noted_15 : decode bG_noted 15 = .ok (.dup, 1) := by decide +kernel
theorem dG_noted_16 : decode bG_noted 16 = .ok (.ldc 145, 2) := by decide +kernel
theorem dG_noted_18 : decode bG_noted 18 = .ok (.invokespecial 127, 3) := by decide +kernel
theorem dG_noted_21 : decode bG_noted 21 = .ok (.athrow, 1) := by decide +kernel
theorem dG_noted_22 : decode bG_noted 22 = .ok (.aload_n 0, 1) := by decide +kernel
theorem dG_noted_23 : decode bG_noted 23 = .ok (.getfield 27, 3) := by decide +kernel
theorem dG_noted_26 : decode bG_noted 26 = .ok (.aload_n 0, 1) := by decide +kernel
theorem dG_noted_27 : decode bG_noted 27 = .ok (.getfield 46, 3) := by decide +kernel
theorem dG_noted_30 : decode bG_noted 30 = .ok (.lload_n 1, 1) := by decide +kernel
theorem dG_noted_31 : decode bG_noted 31 = .ok (.iconst (-1), 1) := by decide +kernel
theorem dG_noted_32 : decode bG_noted 32 = .ok (.iload_n 3, 1) := by decide +kernel
theorem dG_noted_33 : decode bG_noted 33 = .ok (.invokevirtual 147, 3) := by decide +kernel
theorem dG_noted_36 : decode bG_noted 36 = .ok (.istore 4, 2) := by decide +kernel
theorem dG_noted_38 : decode bG_noted 38 = .ok (.iload 4, 2) := by decide +kernel
theorem dG_noted_40 : decode bG_noted 40 = .ok (.iconst (-1), 1) := by decide +kernel
theorem dG_noted_41 : decode bG_noted 41 = .ok (.if_icmp .ne 5, 3) := by decide +kernel
theorem dG_noted_44 : decode bG_noted 44 = .ok (.iconst (-1), 1) := by decide +kernel
theorem dG_noted_45 : decode bG_noted 45 = .ok (.ireturn, 1) := by decide +kernel
theorem dG_noted_46 : decode bG_noted 46 = .ok (.iconst 2, 1) := by decide +kernel
theorem dG_noted_47 : decode bG_noted 47 = .ok (.aload_n 0, 1) := by decide +kernel
theorem dG_noted_48 : decode bG_noted 48 = .ok (.getfield 18, 3) := by decide +kernel
theorem dG_noted_51 : decode bG_noted 51 = .ok (.aload_n 0, 1) := by decide +kernel
theorem dG_noted_52 : decode bG_noted 52 = .ok (.getfield 46, 3) := by decide +kernel
theorem dG_noted_55 : decode bG_noted 55 = .ok (.aaload, 1) := by decide +kernel
theorem dG_noted_56 : decode bG_noted 56 = .ok (.aload_n 0, 1) := by decide +kernel
theorem dG_noted_57 : decode bG_noted 57 = .ok (.getfield 27, 3) := by decide +kernel
theorem dG_noted_60 : decode bG_noted 60 = .ok (.iload 4, 2) := by decide +kernel
theorem dG_noted_62 : decode bG_noted 62 = .ok (.invokevirtual 151, 3) := by decide +kernel
theorem dG_noted_65 : decode bG_noted 65 = .ok (.invokevirtual 115, 3) := by decide +kernel
theorem dG_noted_68 : decode bG_noted 68 = .ok (.imul, 1) := by decide +kernel
theorem dG_noted_69 : decode bG_noted 69 = .ok (.aload_n 0, 1) := by decide +kernel
theorem dG_noted_70 : decode bG_noted 70 = .ok (.getfield 27, 3) := by decide +kernel
theorem dG_noted_73 : decode bG_noted 73 = .ok (.iload 4, 2) := by decide +kernel
theorem dG_noted_75 : decode bG_noted 75 = .ok (.invokevirtual 154, 3) := by decide +kernel
theorem dG_noted_78 : decode bG_noted 78 = .ok (.iadd, 1) := by decide +kernel
theorem dG_noted_79 : decode bG_noted 79 = .ok (.ireturn, 1) := by decide +kernel
theorem dG_link_0 : decode bG_link 0 = .ok (.iload_n 1, 1) := by decide +kernel
theorem dG_link_1 : decode bG_link 1 = .ok (.iload 4, 2) := by decide +kernel
theorem dG_link_3 : decode bG_link 3 = .ok (.if_icmp .eq 23, 3) := by decide +kernel
theorem dG_link_6 : decode bG_link 6 = .ok (.aload_n 0, 1) := by decide +kernel
theorem dG_link_7 : decode bG_link 7 = .ok (.iload_n 1, 1) := by decide +kernel
theorem dG_link_8 : decode bG_link 8 = .ok (.lload_n 2, 1) := by decide +kernel
theorem dG_link_9 : decode bG_link 9 = .ok (.invokevirtual 119, 3) := by decide +kernel
theorem dG_link_12 : decode bG_link 12 = .ok (.ifCond .eq 14, 3) := by decide +kernel
theorem dG_link_15 : decode bG_link 15 = .ok (.aload_n 0, 1) := by decide +kernel
theorem dG_link_16 : decode bG_link 16 = .ok (.iload 4, 2) := by decide +kernel
theorem dG_link_18 : decode bG_link 18 = .ok (.lload 5, 2) := by decide +kernel
theorem dG_link_20 : decode bG_link 20 = .ok (.invokevirtual 119, 3) := by decide +kernel
theorem dG_link_23 : decode bG_link 23 = .ok (.ifCond .ne 5, 3) := by decide +kernel
theorem dG_link_26 : decode bG_link 26 = .ok (.iconst 0, 1) := by decide +kernel
theorem dG_link_27 : decode bG_link 27 = .ok (.ireturn, 1) := by decide +kernel
theorem dG_link_28 : decode bG_link 28 = .ok (.aload_n 0, 1) := by decide +kernel
theorem dG_link_29 : decode bG_link 29 = .ok (.getfield 31, 3) := by decide +kernel
theorem dG_link_32 : decode bG_link 32 = .ok (.invokevirtual 128, 3) := by decide +kernel
theorem dG_link_35 : decode bG_link 35 = .ok (.ifCond .ne 19, 3) := by decide +kernel
theorem dG_link_38 : decode bG_link 38 = .ok (.aload_n 0, 1) := by decide +kernel
theorem dG_link_39 : decode bG_link 39 = .ok (.getfield 31, 3) := by decide +kernel
theorem dG_link_42 : decode bG_link 42 = .ok (.iload_n 1, 1) := by decide +kernel
theorem dG_link_43 : decode bG_link 43 = .ok (.lload_n 2, 1) := by decide +kernel
theorem dG_link_44 : decode bG_link 44 = .ok (.iload 4, 2) := by decide +kernel
theorem dG_link_46 : decode bG_link 46 = .ok (.lload 5, 2) := by decide +kernel
theorem dG_link_48 : decode bG_link 48 = .ok (.invokevirtual 132, 3) := by decide +kernel
theorem dG_link_51 : decode bG_link 51 = .ok (.ifCond .eq 5, 3) := by decide +kernel
theorem dG_link_54 : decode bG_link 54 = .ok (.iconst 0, 1) := by decide +kernel
theorem dG_link_55 : decode bG_link 55 = .ok (.ireturn, 1) := by decide +kernel
theorem dG_link_56 : decode bG_link 56 = .ok (.aload_n 0, 1) := by decide +kernel
theorem dG_link_57 : decode bG_link 57 = .ok (.getfield 31, 3) := by decide +kernel
theorem dG_link_60 : decode bG_link 60 = .ok (.iload_n 1, 1) := by decide +kernel
theorem dG_link_61 : decode bG_link 61 = .ok (.lload_n 2, 1) := by decide +kernel
theorem dG_link_62 : decode bG_link 62 = .ok (.iload 4, 2) := by decide +kernel
theorem dG_link_64 : decode bG_link 64 = .ok (.lload 5, 2) := by decide +kernel
theorem dG_link_66 : decode bG_link 66 = .ok (.invokevirtual 138, 3) := by decide +kernel
theorem dG_link_69 : decode bG_link 69 = .ok (.iconst 1, 1) := by decide +kernel
theorem dG_link_70 : decode bG_link 70 = .ok (.ireturn, 1) := by decide +kernel
theorem dG_became_0 : decode bG_became 0 = .ok (.iload_n 1, 1) := by decide +kernel
theorem dG_became_1 : decode bG_became 1 = .ok (.iload 4, 2) := by decide +kernel
theorem dG_became_3 : decode bG_became 3 = .ok (.invokestatic 157, 3) := by decide +kernel
theorem dG_became_6 : decode bG_became 6 = .ok (.aload_n 0, 1) := by decide +kernel
theorem dG_became_7 : decode bG_became 7 = .ok (.iload_n 1, 1) := by decide +kernel
theorem dG_became_8 : decode bG_became 8 = .ok (.lload_n 2, 1) := by decide +kernel
theorem dG_became_9 : decode bG_became 9 = .ok (.invokevirtual 161, 3) := by decide +kernel
theorem dG_became_12 : decode bG_became 12 = .ok (.iconst 0, 1) := by decide +kernel
theorem dG_became_13 : decode bG_became 13 = .ok (.istore 5, 2) := by decide +kernel
theorem dG_became_15 : decode bG_became 15 = .ok (.iconst 0, 1) := by decide +kernel
theorem dG_became_16 : decode bG_became 16 = .ok (.istore 6, 2) := by decide +kernel
theorem dG_became_18 : decode bG_became 18 = .ok (.iconst 0, 1) := by decide +kernel
theorem dG_became_19 : decode bG_became 19 = .ok (.istore 7, 2) := by decide +kernel
theorem dG_became_21 : decode bG_became 21 = .ok (.iload 7, 2) := by decide +kernel
theorem dG_became_23 : decode bG_became 23 = .ok (.aload_n 0, 1) := by decide +kernel
theorem dG_became_24 : decode bG_became 24 = .ok (.getfield 31, 3) := by decide +kernel
theorem dG_became_27 : decode bG_became 27 = .ok (.invokevirtual 165, 3) := by decide +kernel
theorem dG_became_30 : decode bG_became 30 = .ok (.if_icmp .ge 63, 3) := by decide +kernel
theorem dG_became_33 : decode bG_became 33 = .ok (.aload_n 0, 1) := by decide +kernel
theorem dG_became_34 : decode bG_became 34 = .ok (.getfield 31, 3) := by decide +kernel
theorem dG_became_37 : decode bG_became 37 = .ok (.iload 7, 2) := by decide +kernel
theorem dG_became_39 : decode bG_became 39 = .ok (.iload_n 1, 1) := by decide +kernel
theorem dG_became_40 : decode bG_became 40 = .ok (.lload_n 2, 1) := by decide +kernel
theorem dG_became_41 : decode bG_became 41 = .ok (.iload 4, 2) := by decide +kernel
theorem dG_became_43 : decode bG_became 43 = .ok (.invokevirtual 166, 3) := by decide +kernel
theorem dG_became_46 : decode bG_became 46 = .ok (.ifCond .eq 41, 3) := by decide +kernel
theorem dG_became_49 : decode bG_became 49 = .ok (.iinc 5 1, 3) := by decide +kernel
theorem dG_became_52 : decode bG_became 52 = .ok (.iload 6, 2) := by decide +kernel
theorem dG_became_54 : decode bG_became 54 = .ok (.ifCond .ne 26, 3) := by decide +kernel
theorem dG_became_57 : decode bG_became 57 = .ok (.aload_n 0, 1) := by decide +kernel
theorem dG_became_58 : decode bG_became 58 = .ok (.getfield 31, 3) := by decide +kernel
theorem dG_became_61 : decode bG_became 61 = .ok (.iload_n 1, 1) := by decide +kernel
theorem dG_became_62 : decode bG_became 62 = .ok (.iload 4, 2) := by decide +kernel
theorem dG_became_64 : decode bG_became 64 = .ok (.aload_n 0, 1) := by decide +kernel
theorem dG_became_65 : decode bG_became 65 = .ok (.getfield 31, 3) := by decide +kernel
theorem dG_became_68 : decode bG_became 68 = .ok (.iload 7, 2) := by decide +kernel
theorem dG_became_70 : decode bG_became 70 = .ok (.invokevirtual 151, 3) := by decide +kernel
theorem dG_became_73 : decode bG_became 73 = .ok (.invokevirtual 170, 3) := by decide +kernel
theorem dG_became_76 : decode bG_became 76 = .ok (.iconst 1, 1) := by decide +kernel
theorem dG_became_77 : decode bG_became 77 = .ok (.if_icmp .le 7, 3) := by decide +kernel
theorem dG_became_80 : decode bG_became 80 = .ok (.iconst 1, 1) := by decide +kernel
theorem dG_became_81 : decode bG_became 81 = .ok (.goto 4, 3) := by decide +kernel
theorem dG_became_84 : decode bG_became 84 = .ok (.iconst 0, 1) := by decide +kernel
theorem dG_became_85 : decode bG_became 85 = .ok (.istore 6, 2) := by decide +kernel
theorem dG_became_87 : decode bG_became 87 = .ok (.iinc 7 1, 3) := by decide +kernel
theorem dG_became_90 : decode bG_became 90 = .ok (.goto (-69), 3) := by decide +kernel
theorem dG_became_93 : decode bG_became 93 = .ok (.iload 5, 2) := by decide +kernel
theorem dG_became_95 : decode bG_became 95 = .ok (.ifCond .ne 5, 3) := by decide +kernel
theorem dG_became_98 : decode bG_became 98 = .ok (.iconst 0, 1) := by decide +kernel
theorem dG_became_99 : decode bG_became 99 = .ok (.ireturn, 1) := by decide +kernel
theorem dG_became_100 : decode bG_became 100 = .ok (.iload 5, 2) := by decide +kernel
theorem dG_became_102 : decode bG_became 102 = .ok (.iconst 1, 1) := by decide +kernel
theorem dG_became_103 : decode bG_became 103 = .ok (.if_icmp .ne 14, 3) := by decide +kernel
theorem dG_became_106 : decode bG_became 106 = .ok (.iload 6, 2) := by decide +kernel
theorem dG_became_108 : decode bG_became 108 = .ok (.ifCond .eq 7, 3) := by decide +kernel
theorem dG_became_111 : decode bG_became 111 = .ok (.iconst 3, 1) := by decide +kernel
theorem dG_became_112 : decode bG_became 112 = .ok (.goto 4, 3) := by decide +kernel
theorem dG_became_115 : decode bG_became 115 = .ok (.iconst 1, 1) := by decide +kernel
theorem dG_became_116 : decode bG_became 116 = .ok (.ireturn, 1) := by decide +kernel
theorem dG_became_117 : decode bG_became 117 = .ok (.iload 6, 2) := by decide +kernel
theorem dG_became_119 : decode bG_became 119 = .ok (.ifCond .eq 7, 3) := by decide +kernel
theorem dG_became_122 : decode bG_became 122 = .ok (.iconst 4, 1) := by decide +kernel
theorem dG_became_123 : decode bG_became 123 = .ok (.goto 4, 3) := by decide +kernel
theorem dG_became_126 : decode bG_became 126 = .ok (.iconst 2, 1) := by decide +kernel
theorem dG_became_127 : decode bG_became 127 = .ok (.ireturn, 1) := by decide +kernel
theorem dG_linked_0 : decode bG_linked 0 = .ok (.iload_n 1, 1) := by decide +kernel
theorem dG_linked_1 : decode bG_linked 1 = .ok (.iload 4, 2) := by decide +kernel
theorem dG_linked_3 : decode bG_linked 3 = .ok (.invokestatic 157, 3) := by decide +kernel
theorem dG_linked_6 : decode bG_linked 6 = .ok (.aload_n 0, 1) := by decide +kernel
theorem dG_linked_7 : decode bG_linked 7 = .ok (.iload_n 1, 1) := by decide +kernel
theorem dG_linked_8 : decode bG_linked 8 = .ok (.lload_n 2, 1) := by decide +kernel
theorem dG_linked_9 : decode bG_linked 9 = .ok (.invokevirtual 161, 3) := by decide +kernel
theorem dG_linked_12 : decode bG_linked 12 = .ok (.aload_n 0, 1) := by decide +kernel
theorem dG_linked_13 : decode bG_linked 13 = .ok (.getfield 31, 3) := by decide +kernel
theorem dG_linked_16 : decode bG_linked 16 = .ok (.aload_n 0, 1) := by decide +kernel
theorem dG_linked_17 : decode bG_linked 17 = .ok (.getfield 31, 3) := by decide +kernel
theorem dG_linked_20 : decode bG_linked 20 = .ok (.iload_n 1, 1) := by decide +kernel
theorem dG_linked_21 : decode bG_linked 21 = .ok (.lload_n 2, 1) := by decide +kernel
theorem dG_linked_22 : decode bG_linked 22 = .ok (.iload 4, 2) := by decide +kernel
theorem dG_linked_24 : decode bG_linked 24 = .ok (.iload 5, 2) := by decide +kernel
theorem dG_linked_26 : decode bG_linked 26 = .ok (.invokevirtual 147, 3) := by decide +kernel
theorem dG_linked_29 : decode bG_linked 29 = .ok (.invokevirtual 151, 3) := by decide +kernel
theorem dG_linked_32 : decode bG_linked 32 = .ok (.lreturn, 1) := by decide +kernel
theorem dG_lost_0 : decode bG_lost 0 = .ok (.iload_n 1, 1) := by decide +kernel
theorem dG_lost_1 : decode bG_lost 1 = .ok (.iload_n 2, 1) := by decide +kernel
theorem dG_lost_2 : decode bG_lost 2 = .ok (.invokestatic 157, 3) := by decide +kernel
theorem dG_lost_5 : decode bG_lost 5 = .ok (.aload_n 0, 1) := by decide +kernel
theorem dG_lost_6 : decode bG_lost 6 = .ok (.getfield 18, 3) := by decide +kernel
theorem dG_lost_9 : decode bG_lost 9 = .ok (.iload_n 1, 1) := by decide +kernel
theorem dG_lost_10 : decode bG_lost 10 = .ok (.aaload, 1) := by decide +kernel
theorem dG_lost_11 : decode bG_lost 11 = .ok (.astore_n 3, 1) := by decide +kernel
theorem dG_lost_12 : decode bG_lost 12 = .ok (.iconst 0, 1) := by decide +kernel
theorem dG_lost_13 : decode bG_lost 13 = .ok (.istore 4, 2) := by decide +kernel
theorem dG_lost_15 : decode bG_lost 15 = .ok (.iconst 0, 1) := by decide +kernel
theorem dG_lost_16 : decode bG_lost 16 = .ok (.istore 5, 2) := by decide +kernel
theorem dG_lost_18 : decode bG_lost 18 = .ok (.iload 5, 2) := by decide +kernel
theorem dG_lost_20 : decode bG_lost 20 = .ok (.aload_n 3, 1) := by decide +kernel
theorem dG_lost_21 : decode bG_lost 21 = .ok (.invokevirtual 75, 3) := by decide +kernel
theorem dG_lost_24 : decode bG_lost 24 = .ok (.if_icmp .ge 41, 3) := by decide +kernel
theorem dG_lost_27 : decode bG_lost 27 = .ok (.aload_n 3, 1) := by decide +kernel
theorem dG_lost_28 : decode bG_lost 28 = .ok (.iload 5, 2) := by decide +kernel
theorem dG_lost_30 : decode bG_lost 30 = .ok (.invokevirtual 110, 3) := by decide +kernel
theorem dG_lost_33 : decode bG_lost 33 = .ok (.ifCond .ne 26, 3) := by decide +kernel
theorem dG_lost_36 : decode bG_lost 36 = .ok (.aload_n 0, 1) := by decide +kernel
theorem dG_lost_37 : decode bG_lost 37 = .ok (.getfield 31, 3) := by decide +kernel
theorem dG_lost_40 : decode bG_lost 40 = .ok (.iload_n 1, 1) := by decide +kernel
theorem dG_lost_41 : decode bG_lost 41 = .ok (.aload_n 3, 1) := by decide +kernel
theorem dG_lost_42 : decode bG_lost 42 = .ok (.iload 5, 2) := by decide +kernel
theorem dG_lost_44 : decode bG_lost 44 = .ok (.invokevirtual 96, 3) := by decide +kernel
theorem dG_lost_47 : decode bG_lost 47 = .ok (.iload_n 2, 1) := by decide +kernel
theorem dG_lost_48 : decode bG_lost 48 = .ok (.iconst 0, 1) := by decide +kernel
theorem dG_lost_49 : decode bG_lost 49 = .ok (.invokevirtual 147, 3) := by decide +kernel
theorem dG_lost_52 : decode bG_lost 52 = .ok (.iconst (-1), 1) := by decide +kernel
theorem dG_lost_53 : decode bG_lost 53 = .ok (.if_icmp .ne 6, 3) := by decide +kernel
theorem dG_lost_56 : decode bG_lost 56 = .ok (.iinc 4 1, 3) := by decide +kernel
theorem dG_lost_59 : decode bG_lost 59 = .ok (.iinc 5 1, 3) := by decide +kernel
theorem dG_lost_62 : decode bG_lost 62 = .ok (.goto (-44), 3) := by decide +kernel
theorem dG_lost_65 : decode bG_lost 65 = .ok (.iload 4, 2) := by decide +kernel
theorem dG_lost_67 : decode bG_lost 67 = .ok (.ireturn, 1) := by decide +kernel
theorem dG_search_0 : decode bG_search 0 = .ok (.aload_n 0, 1) := by decide +kernel
theorem dG_search_1 : decode bG_search 1 = .ok (.getfield 10, 3) := by decide +kernel
theorem dG_search_4 : decode bG_search 4 = .ok (.invokevirtual 174, 3) := by decide +kernel
theorem dG_search_7 : decode bG_search 7 = .ok (.istore_n 1, 1) := by decide +kernel
theorem dG_search_8 : decode bG_search 8 = .ok (.aload_n 0, 1) := by decide +kernel
theorem dG_search_9 : decode bG_search 9 = .ok (.getfield 10, 3) := by decide +kernel
theorem dG_search_12 : decode bG_search 12 = .ok (.invokevirtual 61, 3) := by decide +kernel
theorem dG_search_15 : decode bG_search 15 = .ok (.iload_n 1, 1) := by decide +kernel
theorem dG_search_16 : decode bG_search 16 = .ok (.ifCond .ne 13, 3) := by decide +kernel
theorem dG_search_19 : decode bG_search 19 = .ok (.new 62, 3) := by decide +kernel
theorem dG_search_22 : decode bG_search 22 = .ok (.dup, 1) := by decide +kernel
theorem dG_search_23 : decode bG_search 23 = .ok (.ldc 177, 2) := by decide +kernel
theorem dG_search_25 : decode bG_search 25 = .ok (.invokespecial 66, 3) := by decide +kernel
theorem dG_search_28 : decode bG_search 28 = .ok (.athrow, 1) := by decide +kernel
theorem dG_search_29 : decode bG_search 29 = .ok (.aload_n 0, 1) := by decide +kernel
theorem dG_search_30 : decode bG_search 30 = .ok (.getfield 18, 3) := by decide +kernel
theorem dG_search_33 : decode bG_search 33 = .ok (.aload_n 0, 1) := by decide +kernel
theorem dG_search_34 : decode bG_search 34 = .ok (.getfield 46, 3) := by decide +kernel
theorem dG_search_37 : decode bG_search 37 = .ok (.aaload, 1) := by decide +kernel
theorem dG_search_38 : decode bG_search 38 = .ok (.astore_n 2, 1) := by decide +kernel
theorem dG_search_39 : decode bG_search 39 = .ok (.aload_n 0, 1) := by decide +kernel
theorem dG_search_40 : decode bG_search 40 = .ok (.getfield 37, 3) := by decide +kernel
theorem dG_search_43 : decode bG_search 43 = .ok (.invokevirtual 179, 3) := by decide +kernel
theorem dG_search_46 : decode bG_search 46 = .ok (.iconst 0, 1) := by decide +kernel
theorem dG_search_47 : decode bG_search 47 = .ok (.istore_n 3, 1) := by decide +kernel
theorem dG_search_48 : decode bG_search 48 = .ok (.iload_n 3, 1) := by decide +kernel
theorem dG_search_49 : decode bG_search 49 = .ok (.aload_n 2, 1) := by decide +kernel
theorem dG_search_50 : decode bG_search 50 = .ok (.invokevirtual 75, 3) := by decide +kernel
theorem dG_search_53 : decode bG_search 53 = .ok (.if_icmp .ge 27, 3) := by decide +kernel
theorem dG_search_56 : decode bG_search 56 = .ok (.aload_n 0, 1) := by decide +kernel
theorem dG_search_57 : decode bG_search 57 = .ok (.getfield 37, 3) := by decide +kernel
theorem dG_search_60 : decode bG_search 60 = .ok (.aload_n 2, 1) := by decide +kernel
theorem dG_search_61 : decode bG_search 61 = .ok (.iload_n 3, 1) := by decide +kernel
theorem dG_search_62 : decode bG_search 62 = .ok (.invokevirtual 96, 3) := by decide +kernel
theorem dG_search_65 : decode bG_search 65 = .ok (.aload_n 0, 1) := by decide +kernel
theorem dG_search_66 : decode bG_search 66 = .ok (.aload_n 2, 1) := by decide +kernel
theorem dG_search_67 : decode bG_search 67 = .ok (.iload_n 3, 1) := by decide +kernel
theorem dG_search_68 : decode bG_search 68 = .ok (.invokevirtual 180, 3) := by decide +kernel
theorem dG_search_71 : decode bG_search 71 = .ok (.invokevirtual 184, 3) := by decide +kernel
theorem dG_search_74 : decode bG_search 74 = .ok (.iinc 3 1, 3) := by decide +kernel
theorem dG_search_77 : decode bG_search 77 = .ok (.goto (-29), 3) := by decide +kernel
theorem dG_search_80 : decode bG_search 80 = .ok (.aload_n 0, 1) := by decide +kernel
theorem dG_search_81 : decode bG_search 81 = .ok (.getfield 37, 3) := by decide +kernel
theorem dG_search_84 : decode bG_search 84 = .ok (.invokevirtual 187, 3) := by decide +kernel
theorem dG_search_87 : decode bG_search 87 = .ok (.ireturn, 1) := by decide +kernel
theorem dG_found_0 : decode bG_found 0 = .ok (.aload_n 0, 1) := by decide +kernel
theorem dG_found_1 : decode bG_found 1 = .ok (.getfield 37, 3) := by decide +kernel
theorem dG_found_4 : decode bG_found 4 = .ok (.iload_n 1, 1) := by decide +kernel
theorem dG_found_5 : decode bG_found 5 = .ok (.invokevirtual 188, 3) := by decide +kernel
theorem dG_found_8 : decode bG_found 8 = .ok (.ifCond .eq 12, 3) := by decide +kernel
theorem dG_found_11 : decode bG_found 11 = .ok (.iload_n 2, 1) := by decide +kernel
theorem dG_found_12 : decode bG_found 12 = .ok (.ifCond .eq 18, 3) := by decide +kernel
theorem dG_found_15 : decode bG_found 15 = .ok (.iload_n 2, 1) := by decide +kernel
theorem dG_found_16 : decode bG_found 16 = .ok (.iconst 1, 1) := by decide +kernel
theorem dG_found_17 : decode bG_found 17 = .ok (.if_icmp .eq 13, 3) := by decide +kernel
theorem dG_found_20 : decode bG_found 20 = .ok (.new 91, 3) := by decide +kernel
theorem dG_found_23 : decode bG_found 23 = .ok (.dup, 1) := by decide +kernel
theorem dG_found_24 : decode bG_found 24 = .ok (.ldc 189, 2) := by decide +kernel
theorem dG_found_26 : decode bG_found 26 = .ok (.invokespecial 95, 3) := by decide +kernel
theorem dG_found_29 : decode bG_found 29 = .ok (.athrow, 1) := by decide +kernel
theorem dG_found_30 : decode bG_found 30 = .ok (.iload_n 2, 1) := by decide +kernel
theorem dG_found_31 : decode bG_found 31 = .ok (.ifCond .ne 14, 3) := by decide +kernel
theorem dG_found_34 : decode bG_found 34 = .ok (.aload_n 0, 1) := by decide +kernel
theorem dG_found_35 : decode bG_found 35 = .ok (.getfield 37, 3) := by decide +kernel
theorem dG_found_38 : decode bG_found 38 = .ok (.iload_n 1, 1) := by decide +kernel
theorem dG_found_39 : decode bG_found 39 = .ok (.invokevirtual 191, 3) := by decide +kernel
theorem dG_found_42 : decode bG_found 42 = .ok (.goto 12, 3) := by decide +kernel
theorem dG_found_45 : decode bG_found 45 = .ok (.aload_n 0, 1) := by decide +kernel
theorem dG_found_46 : decode bG_found 46 = .ok (.getfield 37, 3) := by decide +kernel
theorem dG_found_49 : decode bG_found 49 = .ok (.iload_n 1, 1) := by decide +kernel
theorem dG_found_50 : decode bG_found 50 = .ok (.invokevirtual 192, 3) := by decide +kernel
theorem dG_found_53 : decode bG_found 53 = .ok (.i2l, 1) := by decide +kernel
theorem dG_found_54 : decode bG_found 54 = .ok (.lreturn, 1) := by decide +kernel
theorem dG_count_0 : decode bG_count 0 = .ok (.iload_n 1, 1) := by decide +kernel
theorem dG_count_1 : decode bG_count 1 = .ok (.tableswitch 72 0 4 #[35, 43, 48, 56, 64], 35) := by decide +kernel
theorem dG_count_36 : decode bG_count 36 = .ok (.aload_n 0, 1) := by decide +kernel
theorem dG_count_37 : decode bG_count 37 = .ok (.getfield 10, 3) := by decide +kernel
theorem dG_count_40 : decode bG_count 40 = .ok (.invokevirtual 195, 3) := by decide +kernel
theorem dG_count_43 : decode bG_count 43 = .ok (.ireturn, 1) := by decide +kernel
theorem dG_count_44 : decode bG_count 44 = .ok (.aload_n 0, 1) := by decide +kernel
theorem dG_count_45 : decode bG_count 45 = .ok (.getfield 46, 3) := by decide +kernel
theorem dG_count_48 : decode bG_count 48 = .ok (.ireturn, 1) := by decide +kernel
theorem dG_count_49 : decode bG_count 49 = .ok (.aload_n 0, 1) := by decide +kernel
theorem dG_count_50 : decode bG_count 50 = .ok (.getfield 27, 3) := by decide +kernel
theorem dG_count_53 : decode bG_count 53 = .ok (.invokevirtual 165, 3) := by decide +kernel
theorem dG_count_56 : decode bG_count 56 = .ok (.ireturn, 1) := by decide +kernel
theorem dG_count_57 : decode bG_count 57 = .ok (.aload_n 0, 1) := by decide +kernel
theorem dG_count_58 : decode bG_count 58 = .ok (.getfield 31, 3) := by decide +kernel
theorem dG_count_61 : decode bG_count 61 = .ok (.invokevirtual 165, 3) := by decide +kernel
theorem dG_count_64 : decode bG_count 64 = .ok (.ireturn, 1) := by decide +kernel
theorem dG_count_65 : decode bG_count 65 = .ok (.aload_n 0, 1) := by decide +kernel
theorem dG_count_66 : decode bG_count 66 = .ok (.getfield 37, 3) := by decide +kernel
theorem dG_count_69 : decode bG_count 69 = .ok (.invokevirtual 187, 3) := by decide +kernel
theorem dG_count_72 : decode bG_count 72 = .ok (.ireturn, 1) := by decide +kernel
theorem dG_count_73 : decode bG_count 73 = .ok (.aload_n 0, 1) := by decide +kernel
theorem dG_count_74 : decode bG_count 74 = .ok (.iload_n 1, 1) := by decide +kernel
theorem dG_count_75 : decode bG_count 75 = .ok (.invokevirtual 198, 3) := by decide +kernel
theorem dG_count_78 : decode bG_count 78 = .ok (.ireturn, 1) := by decide +kernel
theorem dG_countInEdition_0 : decode bG_countInEdition 0 = .ok (.iload_n 1, 1) := by decide +kernel
theorem dG_countInEdition_1 : decode bG_countInEdition 1 = .ok (.bipush 10, 2) := by decide +kernel
theorem dG_countInEdition_3 : decode bG_countInEdition 3 = .ok (.isub, 1) := by decide +kernel
theorem dG_countInEdition_4 : decode bG_countInEdition 4 = .ok (.invokestatic 85, 3) := by decide +kernel
theorem dG_countInEdition_7 : decode bG_countInEdition 7 = .ok (.ifCond .eq 16, 3) := by decide +kernel
theorem dG_countInEdition_10 : decode bG_countInEdition 10 = .ok (.aload_n 0, 1) := by decide +kernel
theorem dG_countInEdition_11 : decode bG_countInEdition 11 = .ok (.getfield 18, 3) := by decide +kernel
theorem dG_countInEdition_14 : decode bG_countInEdition 14 = .ok (.iload_n 1, 1) := by decide +kernel
theorem dG_countInEdition_15 : decode bG_countInEdition 15 = .ok (.bipush 10, 2) := by decide +kernel
theorem dG_countInEdition_17 : decode bG_countInEdition 17 = .ok (.isub, 1) := by decide +kernel
theorem dG_countInEdition_18 : decode bG_countInEdition 18 = .ok (.aaload, 1) := by decide +kernel
theorem dG_countInEdition_19 : decode bG_countInEdition 19 = .ok (.invokevirtual 75, 3) := by decide +kernel
theorem dG_countInEdition_22 : decode bG_countInEdition 22 = .ok (.ireturn, 1) := by decide +kernel
theorem dG_countInEdition_23 : decode bG_countInEdition 23 = .ok (.iload_n 1, 1) := by decide +kernel
theorem dG_countInEdition_24 : decode bG_countInEdition 24 = .ok (.bipush 20, 2) := by decide +kernel
theorem dG_countInEdition_26 : decode bG_countInEdition 26 = .ok (.isub, 1) := by decide +kernel
theorem dG_countInEdition_27 : decode bG_countInEdition 27 = .ok (.invokestatic 85, 3) := by decide +kernel
theorem dG_countInEdition_30 : decode bG_countInEdition 30 = .ok (.ifCond .eq 16, 3) := by decide +kernel
theorem dG_countInEdition_33 : decode bG_countInEdition 33 = .ok (.aload_n 0, 1) := by decide +kernel
theorem dG_countInEdition_34 : decode bG_countInEdition 34 = .ok (.getfield 18, 3) := by decide +kernel
theorem dG_countInEdition_37 : decode bG_countInEdition 37 = .ok (.iload_n 1, 1) := by decide +kernel
theorem dG_countInEdition_38 : decode bG_countInEdition 38 = .ok (.bipush 20, 2) := by decide +kernel
theorem dG_countInEdition_40 : decode bG_countInEdition 40 = .ok (.isub, 1) := by decide +kernel
theorem dG_countInEdition_41 : decode bG_countInEdition 41 = .ok (.aaload, 1) := by decide +kernel
theorem dG_countInEdition_42 : decode bG_countInEdition 42 = .ok (.invokevirtual 201, 3) := by decide +kernel
theorem dG_countInEdition_45 : decode bG_countInEdition 45 = .ok (.ireturn, 1) := by decide +kernel
theorem dG_countInEdition_46 : decode bG_countInEdition 46 = .ok (.iconst (-1), 1) := by decide +kernel
theorem dG_countInEdition_47 : decode bG_countInEdition 47 = .ok (.ireturn, 1) := by decide +kernel
theorem dG_isEdition_0 : decode bG_isEdition 0 = .ok (.iload_n 0, 1) := by decide +kernel
theorem dG_isEdition_1 : decode bG_isEdition 1 = .ok (.ifCond .lt 12, 3) := by decide +kernel
theorem dG_isEdition_4 : decode bG_isEdition 4 = .ok (.iload_n 0, 1) := by decide +kernel
theorem dG_isEdition_5 : decode bG_isEdition 5 = .ok (.iconst 3, 1) := by decide +kernel
theorem dG_isEdition_6 : decode bG_isEdition 6 = .ok (.if_icmp .ge 7, 3) := by decide +kernel
theorem dG_isEdition_9 : decode bG_isEdition 9 = .ok (.iconst 1, 1) := by decide +kernel
theorem dG_isEdition_10 : decode bG_isEdition 10 = .ok (.goto 4, 3) := by decide +kernel
theorem dG_isEdition_13 : decode bG_isEdition 13 = .ok (.iconst 0, 1) := by decide +kernel
theorem dG_isEdition_14 : decode bG_isEdition 14 = .ok (.ireturn, 1) := by decide +kernel
theorem dG_hasCode_0 : decode bG_hasCode 0 = .ok (.iload_n 1, 1) := by decide +kernel
theorem dG_hasCode_1 : decode bG_hasCode 1 = .ok (.invokestatic 85, 3) := by decide +kernel
theorem dG_hasCode_4 : decode bG_hasCode 4 = .ok (.ifCond .eq 21, 3) := by decide +kernel
theorem dG_hasCode_7 : decode bG_hasCode 7 = .ok (.aload_n 0, 1) := by decide +kernel
theorem dG_hasCode_8 : decode bG_hasCode 8 = .ok (.getfield 18, 3) := by decide +kernel
theorem dG_hasCode_11 : decode bG_hasCode 11 = .ok (.iload_n 1, 1) := by decide +kernel
theorem dG_hasCode_12 : decode bG_hasCode 12 = .ok (.aaload, 1) := by decide +kernel
theorem dG_hasCode_13 : decode bG_hasCode 13 = .ok (.lload_n 2, 1) := by decide +kernel
theorem dG_hasCode_14 : decode bG_hasCode 14 = .ok (.invokevirtual 115, 3) := by decide +kernel
theorem dG_hasCode_17 : decode bG_hasCode 17 = .ok (.iconst (-1), 1) := by decide +kernel
theorem dG_hasCode_18 : decode bG_hasCode 18 = .ok (.if_icmp .eq 7, 3) := by decide +kernel
theorem dG_hasCode_21 : decode bG_hasCode 21 = .ok (.iconst 1, 1) := by decide +kernel
theorem dG_hasCode_22 : decode bG_hasCode 22 = .ok (.goto 4, 3) := by decide +kernel
theorem dG_hasCode_25 : decode bG_hasCode 25 = .ok (.iconst 0, 1) := by decide +kernel
theorem dG_hasCode_26 : decode bG_hasCode 26 = .ok (.ireturn, 1) := by decide +kernel
theorem dG_checkEditions_0 : decode bG_checkEditions 0 = .ok (.iload_n 0, 1) := by decide +kernel
theorem dG_checkEditions_1 : decode bG_checkEditions 1 = .ok (.invokestatic 85, 3) := by decide +kernel
theorem dG_checkEditions_4 : decode bG_checkEditions 4 = .ok (.ifCond .eq 15, 3) := by decide +kernel
theorem dG_checkEditions_7 : decode bG_checkEditions 7 = .ok (.iload_n 1, 1) := by decide +kernel
theorem dG_checkEditions_8 : decode bG_checkEditions 8 = .ok (.invokestatic 85, 3) := by decide +kernel
theorem dG_checkEditions_11 : decode bG_checkEditions 11 = .ok (.ifCond .eq 8, 3) := by decide +kernel
theorem dG_checkEditions_14 : decode bG_checkEditions 14 = .ok (.iload_n 0, 1) := by decide +kernel
theorem dG_checkEditions_15 : decode bG_checkEditions 15 = .ok (.iload_n 1, 1) := by decide +kernel
theorem dG_checkEditions_16 : decode bG_checkEditions 16 = .ok (.if_icmp .ne 13, 3) := by decide +kernel
theorem dG_checkEditions_19 : decode bG_checkEditions 19 = .ok (.new 123, 3) := by decide +kernel
theorem dG_checkEditions_22 : decode bG_checkEditions 22 = .ok (.dup, 1) := by decide +kernel
theorem dG_checkEditions_23 : decode bG_checkEditions 23 = .ok (.ldc 204, 2) := by decide +kernel
theorem dG_checkEditions_25 : decode bG_checkEditions 25 = .ok (.invokespecial 127, 3) := by decide +kernel
theorem dG_checkEditions_28 : decode bG_checkEditions 28 = .ok (.athrow, 1) := by decide +kernel
theorem dG_checkEditions_29 : decode bG_checkEditions 29 = .ok (.return_, 1) := by decide +kernel
theorem dG_checkCode_0 : decode bG_checkCode 0 = .ok (.aload_n 0, 1) := by decide +kernel
theorem dG_checkCode_1 : decode bG_checkCode 1 = .ok (.iload_n 1, 1) := by decide +kernel
theorem dG_checkCode_2 : decode bG_checkCode 2 = .ok (.lload_n 2, 1) := by decide +kernel
theorem dG_checkCode_3 : decode bG_checkCode 3 = .ok (.invokevirtual 119, 3) := by decide +kernel
theorem dG_checkCode_6 : decode bG_checkCode 6 = .ok (.ifCond .ne 13, 3) := by decide +kernel
theorem dG_checkCode_9 : decode bG_checkCode 9 = .ok (.new 123, 3) := by decide +kernel
theorem dG_checkCode_12 : decode bG_checkCode 12 = .ok (.dup, 1) := by decide +kernel
theorem dG_checkCode_13 : decode bG_checkCode 13 = .ok (.ldc 206, 2) := by decide +kernel
theorem dG_checkCode_15 : decode bG_checkCode 15 = .ok (.invokespecial 127, 3) := by decide +kernel
theorem dG_checkCode_18 : decode bG_checkCode 18 = .ok (.athrow, 1) := by decide +kernel
theorem dG_checkCode_19 : decode bG_checkCode 19 = .ok (.return_, 1) := by decide +kernel
theorem dG_pointsOf_0 : decode bG_pointsOf 0 = .ok (.iconst 0, 1) := by decide +kernel
theorem dG_pointsOf_1 : decode bG_pointsOf 1 = .ok (.istore_n 3, 1) := by decide +kernel
theorem dG_pointsOf_2 : decode bG_pointsOf 2 = .ok (.iconst 0, 1) := by decide +kernel
theorem dG_pointsOf_3 : decode bG_pointsOf 3 = .ok (.istore 4, 2) := by decide +kernel
theorem dG_pointsOf_5 : decode bG_pointsOf 5 = .ok (.iload 4, 2) := by decide +kernel
theorem dG_pointsOf_7 : decode bG_pointsOf 7 = .ok (.aload_n 0, 1) := by decide +kernel
theorem dG_pointsOf_8 : decode bG_pointsOf 8 = .ok (.getfield 10, 3) := by decide +kernel
theorem dG_pointsOf_11 : decode bG_pointsOf 11 = .ok (.invokevirtual 208, 3) := by decide +kernel
theorem dG_pointsOf_14 : decode bG_pointsOf 14 = .ok (.if_icmp .ge 26, 3) := by decide +kernel
theorem dG_pointsOf_17 : decode bG_pointsOf 17 = .ok (.iload_n 3, 1) := by decide +kernel
theorem dG_pointsOf_18 : decode bG_pointsOf 18 = .ok (.aload_n 1, 1) := by decide +kernel
theorem dG_pointsOf_19 : decode bG_pointsOf 19 = .ok (.iload_n 2, 1) := by decide +kernel
theorem dG_pointsOf_20 : decode bG_pointsOf 20 = .ok (.aload_n 0, 1) := by decide +kernel
theorem dG_pointsOf_21 : decode bG_pointsOf 21 = .ok (.getfield 10, 3) := by decide +kernel
theorem dG_pointsOf_24 : decode bG_pointsOf 24 = .ok (.iload 4, 2) := by decide +kernel
theorem dG_pointsOf_26 : decode bG_pointsOf 26 = .ok (.invokevirtual 211, 3) := by decide +kernel
theorem dG_pointsOf_29 : decode bG_pointsOf 29 = .ok (.invokevirtual 214, 3) := by decide +kernel
theorem dG_pointsOf_32 : decode bG_pointsOf 32 = .ok (.iadd, 1) := by decide +kernel
theorem dG_pointsOf_33 : decode bG_pointsOf 33 = .ok (.istore_n 3, 1) := by decide +kernel
theorem dG_pointsOf_34 : decode bG_pointsOf 34 = .ok (.iinc 4 1, 3) := by decide +kernel
theorem dG_pointsOf_37 : decode bG_pointsOf 37 = .ok (.goto (-32), 3) := by decide +kernel
theorem dG_pointsOf_40 : decode bG_pointsOf 40 = .ok (.aload_n 0, 1) := by decide +kernel
theorem dG_pointsOf_41 : decode bG_pointsOf 41 = .ok (.aload_n 1, 1) := by decide +kernel
theorem dG_pointsOf_42 : decode bG_pointsOf 42 = .ok (.iload_n 2, 1) := by decide +kernel
theorem dG_pointsOf_43 : decode bG_pointsOf 43 = .ok (.invokevirtual 218, 3) := by decide +kernel
theorem dG_pointsOf_46 : decode bG_pointsOf 46 = .ok (.ifCond .eq 9, 3) := by decide +kernel
theorem dG_pointsOf_49 : decode bG_pointsOf 49 = .ok (.iload_n 3, 1) := by decide +kernel
theorem dG_pointsOf_50 : decode bG_pointsOf 50 = .ok (.iconst 2, 1) := by decide +kernel
theorem dG_pointsOf_51 : decode bG_pointsOf 51 = .ok (.idiv, 1) := by decide +kernel
theorem dG_pointsOf_52 : decode bG_pointsOf 52 = .ok (.goto 4, 3) := by decide +kernel
theorem dG_pointsOf_55 : decode bG_pointsOf 55 = .ok (.iload_n 3, 1) := by decide +kernel
theorem dG_pointsOf_56 : decode bG_pointsOf 56 = .ok (.ireturn, 1) := by decide +kernel
theorem dG_isLeftOut_0 : decode bG_isLeftOut 0 = .ok (.aload_n 1, 1) := by decide +kernel
theorem dG_isLeftOut_1 : decode bG_isLeftOut 1 = .ok (.iload_n 2, 1) := by decide +kernel
theorem dG_isLeftOut_2 : decode bG_isLeftOut 2 = .ok (.invokevirtual 107, 3) := by decide +kernel
theorem dG_isLeftOut_5 : decode bG_isLeftOut 5 = .ok (.istore_n 3, 1) := by decide +kernel
theorem dG_isLeftOut_6 : decode bG_isLeftOut 6 = .ok (.iconst 0, 1) := by decide +kernel
theorem dG_isLeftOut_7 : decode bG_isLeftOut 7 = .ok (.istore 4, 2) := by decide +kernel
theorem dG_isLeftOut_9 : decode bG_isLeftOut 9 = .ok (.iload 4, 2) := by decide +kernel
theorem dG_isLeftOut_11 : decode bG_isLeftOut 11 = .ok (.iconst 4, 1) := by decide +kernel
theorem dG_isLeftOut_12 : decode bG_isLeftOut 12 = .ok (.if_icmp .ge 47, 3) := by decide +kernel
theorem dG_isLeftOut_15 : decode bG_isLeftOut 15 = .ok (.iload_n 3, 1) := by decide +kernel
theorem dG_isLeftOut_16 : decode bG_isLeftOut 16 = .ok (.iconst (-1), 1) := by decide +kernel
theorem dG_isLeftOut_17 : decode bG_isLeftOut 17 = .ok (.if_icmp .eq 42, 3) := by decide +kernel
theorem dG_isLeftOut_20 : decode bG_isLeftOut 20 = .ok (.aload_n 0, 1) := by decide +kernel
theorem dG_isLeftOut_21 : decode bG_isLeftOut 21 = .ok (.getfield 27, 3) := by decide +kernel
theorem dG_isLeftOut_24 : decode bG_isLeftOut 24 = .ok (.aload_n 0, 1) := by decide +kernel
theorem dG_isLeftOut_25 : decode bG_isLeftOut 25 = .ok (.getfield 46, 3) := by decide +kernel
theorem dG_isLeftOut_28 : decode bG_isLeftOut 28 = .ok (.aload_n 1, 1) := by decide +kernel
theorem dG_isLeftOut_29 : decode bG_isLeftOut 29 = .ok (.iload_n 3, 1) := by decide +kernel
theorem dG_isLeftOut_30 : decode bG_isLeftOut 30 = .ok (.invokevirtual 96, 3) := by decide +kernel
theorem dG_isLeftOut_33 : decode bG_isLeftOut 33 = .ok (.iconst 1, 1) := by decide +kernel
theorem dG_isLeftOut_34 : decode bG_isLeftOut 34 = .ok (.aload_n 1, 1) := by decide +kernel
theorem dG_isLeftOut_35 : decode bG_isLeftOut 35 = .ok (.iload_n 2, 1) := by decide +kernel
theorem dG_isLeftOut_36 : decode bG_isLeftOut 36 = .ok (.invokevirtual 96, 3) := by decide +kernel
theorem dG_isLeftOut_39 : decode bG_isLeftOut 39 = .ok (.invokevirtual 132, 3) := by decide +kernel
theorem dG_isLeftOut_42 : decode bG_isLeftOut 42 = .ok (.ifCond .eq 5, 3) := by decide +kernel
theorem dG_isLeftOut_45 : decode bG_isLeftOut 45 = .ok (.iconst 1, 1) := by decide +kernel
theorem dG_isLeftOut_46 : decode bG_isLeftOut 46 = .ok (.ireturn, 1) := by decide +kernel
theorem dG_isLeftOut_47 : decode bG_isLeftOut 47 = .ok (.aload_n 1, 1) := by decide +kernel
theorem dG_isLeftOut_48 : decode bG_isLeftOut 48 = .ok (.iload_n 3, 1) := by decide +kernel
theorem dG_isLeftOut_49 : decode bG_isLeftOut 49 = .ok (.invokevirtual 107, 3) := by decide +kernel
theorem dG_isLeftOut_52 : decode bG_isLeftOut 52 = .ok (.istore_n 3, 1) := by decide +kernel
theorem dG_isLeftOut_53 : decode bG_isLeftOut 53 = .ok (.iinc 4 1, 3) := by decide +kernel
theorem dG_isLeftOut_56 : decode bG_isLeftOut 56 = .ok (.goto (-47), 3) := by decide +kernel
theorem dG_isLeftOut_59 : decode bG_isLeftOut 59 = .ok (.iconst 0, 1) := by decide +kernel
theorem dG_isLeftOut_60 : decode bG_isLeftOut 60 = .ok (.ireturn, 1) := by decide +kernel
set_option maxHeartbeats 4000000 in
set_option maxRecDepth 100000 in
theorem cG_isEdition (l : Launch) (nx : Nat) (M : xH) (k : Nat) (hk : k < 3) : xC l xcl yG_isEdition (xw (Cond.code yG_isEdition bG_isEdition 1 (some .boolean))) ({ frames := 0, cells := 0, slots := 0, locals := 0 } : Room) [.int (nI (k))] nx M (x_is (some (.int (nI (1)))) nx M) := by
  refine yC (by decide) (Nat.le_of_ble_eq_true rfl) ?_
  intro p e s m args below meth c D F hr hn
  refine x_iload_n F 0 dG_isEdition_0 rfl rfl ?_
  refine x_if_lt F (tgt := 13) dG_isEdition_1 (by decide) (fun c1 => ?_) (fun c1 => ?_)
  · skip
    have c1 : k < 0 := by
      exact (nI_ltI (a := k) (b := 0) (by omega) (by omega)).mp c1
    exact absurd c1 (by omega)
  · skip
    have c1 : 0 ≤ k := by
      have z : ¬ (k < 0) := fun zz => c1 ((nI_ltI (a := k) (b := 0) (by omega) (by omega)).mpr zz)
      omega
    refine x_iload_n F 0 dG_isEdition_4 rfl rfl ?_
    refine x_iconst F (v := nI (3)) dG_isEdition_5 (by decide) ?_
    refine x_icmp_ge F (tgt := 13) dG_isEdition_6 (by decide) (fun c2 => ?_) (fun c2 => ?_)
    · skip
      have c2 : 3 ≤ k := by
        exact (nI_leI (a := 3) (b := k) (by omega) (by omega)).mp c2
      exact absurd c2 (by omega)
    · skip
      have c2 : k < 3 := by
        have z : ¬ (3 ≤ k) := fun zz => c2 ((nI_leI (a := 3) (b := k) (by omega) (by omega)).mpr zz)
        omega
      refine x_iconst F (v := nI (1)) dG_isEdition_9 (by decide) ?_
      refine x_goto F (tgt := 14) dG_isEdition_10 (by decide) ?_
      exact x_zret F hr (by rfl) dG_isEdition_14 (x_is_i _ _ _)
set_option maxHeartbeats 4000000 in
set_option maxRecDepth 100000 in
theorem cG_isEditionN (l : Launch) (nx : Nat) (M : xH) (i : Int32) (hi : ¬ vp_in i 3) : xC l xcl yG_isEdition (xw (Cond.code yG_isEdition bG_isEdition 1 (some .boolean))) ({ frames := 0, cells := 0, slots := 0, locals := 0 } : Room) [.int (i)] nx M (x_is (some (.int (nI (0)))) nx M) := by
  refine yC (by decide) (Nat.le_of_ble_eq_true rfl) ?_
  intro p e s m args below meth c D F hr hn
  refine x_iload_n F 0 dG_isEdition_0 rfl rfl ?_
  refine x_if_lt F (tgt := 13) dG_isEdition_1 (by decide) (fun c1 => ?_) (fun c1 => ?_)
  · skip
    refine x_iconst F (v := nI (0)) dG_isEdition_13 (by decide) ?_
    exact x_zret F hr (by rfl) dG_isEdition_14 (x_is_i _ _ _)
  · skip
    refine x_iload_n F 0 dG_isEdition_4 rfl rfl ?_
    refine x_iconst F (v := nI (3)) dG_isEdition_5 (by decide) ?_
    refine x_icmp_ge F (tgt := 13) dG_isEdition_6 (by decide) (fun c2 => ?_) (fun c2 => ?_)
    · skip
      refine x_iconst F (v := nI (0)) dG_isEdition_13 (by decide) ?_
      exact x_zret F hr (by rfl) dG_isEdition_14 (x_is_i _ _ _)
    · skip
      exact absurd (x_out (by omega) hi c1 c2) id
set_option maxHeartbeats 4000000 in
set_option maxRecDepth 100000 in
theorem cG_find (l : Launch) (nx : Nat) (M : xH) (g : Nat) (γ : gS) (hG : gIs M g γ) (co : Int64) : xC l xcl yG_find (xw (Cond.code yG_find bG_find 3 (some .int))) ({ frames := 1, cells := 0, slots := 0, locals := 23 } : Room) [.ref (g), .long (co)] nx M (x_is (some (.int (oi (tFind (γ.2.2.2.1 γ.2.1) co)))) nx M) := by
  obtain ⟨⟨fT, h0, h4, hfT, hpr, hπ, hπi⟩, hRd, hTr, hNo, hLi, hFi⟩ := id hG
  have hpp := hπ γ.2.1 (by omega)
  obtain ⟨r0, r1, r2, r3, r4, r5⟩ := id hRd
  obtain ⟨n0, n1, n2, n3, n4, n5, n6⟩ := id hNo
  obtain ⟨k0, k1, k2, k3, k4, k5, k6⟩ := id hLi
  obtain ⟨f0, f1, f2, f3⟩ := id hFi
  refine yC (by decide) (Nat.le_of_ble_eq_true rfl) ?_
  intro p e s m args below meth c D F hr hn
  refine x_aload_n F 0 dG_find_0 rfl rfl ?_
  refine x_get (ci := 5) F 1 (x_in inG) rfl (by decide) (x_m kfG_18) dG_find_1 h0 rfl ?_
  refine x_aload_n F 0 dG_find_4 rfl rfl ?_
  refine x_get (ci := 5) F 6 (x_in inG) rfl (by decide) (x_m kfG_46) dG_find_5 h0 rfl ?_
  refine x_aald F dG_find_8 h4 (pk_in (γ.2.1) (3) (by omega)) ?_
  rw [nI_clamp (show γ.2.1 < 2 ^ 31 by omega), hfT _ (by omega)]
  show xW p l e ({ frames := 1, cells := 0, slots := 0, locals := 23 } : Room) s m args below meth c D xcl (x_A M nx) 3 (MQ below (x_Q D xcl (x_A M nx) (x_is (some (.int (oi (tFind (γ.2.2.2.1 γ.2.1) co)))) nx M)) args s 0 0 (x_A M nx)) 0 0 (nx) M 9 [(0, .ref (g)), (1, .long (co))] [.ref (g + 18 + 7 * γ.1 γ.2.1)]
  refine x_lload_n F 1 dG_find_9 rfl rfl ?_
  refine yV (n := 1) (As := [.long (co)]) (ci := 4) F kmG_115 kiT_rowOf ksT_rowOf knT kcT_rowOf (by decide +kernel) dG_find_10 (cT_rowOf l (nx) M (g + 18 + 7 * γ.1 γ.2.1) (γ.2.2.2.1 γ.2.1).1 (γ.2.2.2.1 γ.2.1).2.1 (γ.2.2.2.1 γ.2.1).2.2.1 (γ.2.2.2.1 γ.2.1).2.2.2.1 (γ.2.2.2.1 γ.2.1).2.2.2.2.1 (γ.2.2.2.1 γ.2.1).2.2.2.2.2.1 (γ.2.2.2.1 γ.2.1).2.2.2.2.2.2.1 (γ.2.2.2.1 γ.2.1).2.2.2.2.2.2.2 (hTr γ.2.1 (by omega)) (co)) rfl (hTr γ.2.1 (by omega)).1 rfl rfl (Nat.le_of_ble_eq_true rfl) ⟨Nat.le_of_ble_eq_true rfl, Nat.le_of_ble_eq_true rfl⟩ ⟨Nat.le_of_ble_eq_true rfl, Nat.le_of_ble_eq_true rfl⟩ ?_
  exact x_iret F hr dG_find_13 (x_is_i _ _ _)
set_option maxHeartbeats 4000000 in
set_option maxRecDepth 100000 in
theorem cG_hasCode (l : Launch) (nx : Nat) (M : xH) (g : Nat) (γ : gS) (hG : gIs M g γ) (k : Nat) (hk : k < 3) (co : Int64) : xC l xcl yG_hasCode (xw (Cond.code yG_hasCode bG_hasCode 4 (some .boolean))) ({ frames := 1, cells := 0, slots := 0, locals := 23 } : Room) [.ref (g), .int (nI (k)), .long (co)] nx M (x_is (some (.int (bI ((tFind (γ.2.2.2.1 k) co).isSome)))) nx M) := by
  obtain ⟨⟨fT, h0, h4, hfT, hpr, hπ, hπi⟩, hRd, hTr, hNo, hLi, hFi⟩ := id hG
  have hpp := hπ γ.2.1 (by omega)
  obtain ⟨r0, r1, r2, r3, r4, r5⟩ := id hRd
  obtain ⟨n0, n1, n2, n3, n4, n5, n6⟩ := id hNo
  obtain ⟨k0, k1, k2, k3, k4, k5, k6⟩ := id hLi
  obtain ⟨f0, f1, f2, f3⟩ := id hFi
  refine yC (by decide) (Nat.le_of_ble_eq_true rfl) ?_
  intro p e s m args below meth c D F hr hn
  refine x_iload_n F 1 dG_hasCode_0 rfl rfl ?_
  refine yS (n := 1) (As := [.int (nI (k))]) F kmG_85 ktG_isEdition knG kcG_isEdition (by decide +kernel) dG_hasCode_1 (cG_isEdition l (nx) M (k) (by omega)) rfl rfl (Nat.le_of_ble_eq_true rfl) ⟨Nat.le_of_ble_eq_true rfl, Nat.le_of_ble_eq_true rfl⟩ ⟨Nat.le_of_ble_eq_true rfl, Nat.le_of_ble_eq_true rfl⟩ ?_
  refine x_if_eq F (tgt := 25) dG_hasCode_4 (by decide) (fun c1 => ?_) (fun c1 => ?_)
  · skip
    have c1 : 1 = 0 := by
      exact (nI_eq (a := 1) (b := 0) (by omega) (by omega)).mp c1
    exact absurd c1 (by decide)
  · skip
    have c1 : 1 ≠ 0 := by
      have z : ¬ (1 = 0) := fun zz => c1 ((nI_eq (a := 1) (b := 0) (by omega) (by omega)).mpr zz)
      omega
    refine x_aload_n F 0 dG_hasCode_7 rfl rfl ?_
    refine x_get (ci := 5) F 1 (x_in inG) rfl (by decide) (x_m kfG_18) dG_hasCode_8 h0 rfl ?_
    refine x_iload_n F 1 dG_hasCode_11 rfl rfl ?_
    refine x_aald F dG_hasCode_12 h4 (pk_in (k) (3) (by omega)) ?_
    rw [nI_clamp (show k < 2 ^ 31 by omega), hfT _ (by omega)]
    show xW p l e ({ frames := 1, cells := 0, slots := 0, locals := 23 } : Room) s m args below meth c D xcl (x_A M nx) 4 (MQ below (x_Q D xcl (x_A M nx) (x_is (some (.int (bI ((tFind (γ.2.2.2.1 k) co).isSome)))) nx M)) args s 0 0 (x_A M nx)) 0 0 (nx) M 13 [(0, .ref (g)), (1, .int (nI (k))), (2, .long (co))] [.ref (g + 18 + 7 * γ.1 k)]
    refine x_lload_n F 2 dG_hasCode_13 rfl rfl ?_
    refine yV (n := 1) (As := [.long (co)]) (ci := 4) F kmG_115 kiT_rowOf ksT_rowOf knT kcT_rowOf (by decide +kernel) dG_hasCode_14 (cT_rowOf l (nx) M (g + 18 + 7 * γ.1 k) (γ.2.2.2.1 k).1 (γ.2.2.2.1 k).2.1 (γ.2.2.2.1 k).2.2.1 (γ.2.2.2.1 k).2.2.2.1 (γ.2.2.2.1 k).2.2.2.2.1 (γ.2.2.2.1 k).2.2.2.2.2.1 (γ.2.2.2.1 k).2.2.2.2.2.2.1 (γ.2.2.2.1 k).2.2.2.2.2.2.2 (hTr k (by omega)) (co)) rfl (hTr k (by omega)).1 rfl rfl (Nat.le_of_ble_eq_true rfl) ⟨Nat.le_of_ble_eq_true rfl, Nat.le_of_ble_eq_true rfl⟩ ⟨Nat.le_of_ble_eq_true rfl, Nat.le_of_ble_eq_true rfl⟩ ?_
    rcases o_cases (tFind (γ.2.2.2.1 k) co) with hrw | ⟨j, hrw⟩
    · skip
      refine xW.ste (st' := [.int ((-1))]) (by show ([.int (oi (tFind (γ.2.2.2.1 k) (co)))] : List Value) = _; rw [hrw]; rfl) ?_
      refine x_iconst F (v := (-1)) dG_hasCode_17 (by decide) ?_
      refine x_icmp_eq F (tgt := 25) dG_hasCode_18 (by decide) (fun c2 => ?_) (fun c2 => ?_)
      · skip
        refine x_iconst F (v := nI (0)) dG_hasCode_25 (by decide) ?_
        exact x_zret F hr (by rfl) dG_hasCode_26 (x_f (by rw [hrw]; rfl))
      · skip
        exact absurd rfl c2
    · skip
      have hj := tFind_lt (hTr _ (by omega)) hrw
      refine xW.ste (st' := [.int (nI (j))]) (by show ([.int (oi (tFind (γ.2.2.2.1 k) (co)))] : List Value) = _; rw [hrw]; rfl) ?_
      refine x_iconst F (v := (-1)) dG_hasCode_17 (by decide) ?_
      refine x_icmp_eq F (tgt := 25) dG_hasCode_18 (by decide) (fun c3 => ?_) (fun c3 => ?_)
      · skip
        exact absurd c3 (nI_m1 (by omega))
      · skip
        refine x_iconst F (v := nI (1)) dG_hasCode_21 (by decide) ?_
        refine x_goto F (tgt := 26) dG_hasCode_22 (by decide) ?_
        exact x_zret F hr (by rfl) dG_hasCode_26 (x_t (by rw [hrw]; rfl))
set_option maxHeartbeats 4000000 in
set_option maxRecDepth 100000 in
theorem cG_hasCodeN (l : Launch) (nx : Nat) (M : xH) (g : Nat) (γ : gS) (hG : gIs M g γ) (i : Int32) (hi : ¬ vp_in i 3) (co : Int64) : xC l xcl yG_hasCode (xw (Cond.code yG_hasCode bG_hasCode 4 (some .boolean))) ({ frames := 1, cells := 0, slots := 0, locals := 20 } : Room) [.ref (g), .int (i), .long (co)] nx M (x_is (some (.int (nI (0)))) nx M) := by
  obtain ⟨⟨fT, h0, h4, hfT, hpr, hπ, hπi⟩, hRd, hTr, hNo, hLi, hFi⟩ := id hG
  have hpp := hπ γ.2.1 (by omega)
  obtain ⟨r0, r1, r2, r3, r4, r5⟩ := id hRd
  obtain ⟨n0, n1, n2, n3, n4, n5, n6⟩ := id hNo
  obtain ⟨k0, k1, k2, k3, k4, k5, k6⟩ := id hLi
  obtain ⟨f0, f1, f2, f3⟩ := id hFi
  refine yC (by decide) (Nat.le_of_ble_eq_true rfl) ?_
  intro p e s m args below meth c D F hr hn
  refine x_iload_n F 1 dG_hasCode_0 rfl rfl ?_
  refine yS (n := 1) (As := [.int (i)]) F kmG_85 ktG_isEdition knG kcG_isEdition (by decide +kernel) dG_hasCode_1 (cG_isEditionN l (nx) M i hi) rfl rfl (Nat.le_of_ble_eq_true rfl) ⟨Nat.le_of_ble_eq_true rfl, Nat.le_of_ble_eq_true rfl⟩ ⟨Nat.le_of_ble_eq_true rfl, Nat.le_of_ble_eq_true rfl⟩ ?_
  refine x_if_eq F (tgt := 25) dG_hasCode_4 (by decide) (fun c1 => ?_) (fun c1 => ?_)
  · skip
    have c1 : 0 = 0 := by
      exact (nI_eq (a := 0) (b := 0) (by omega) (by omega)).mp c1
    refine x_iconst F (v := nI (0)) dG_hasCode_25 (by decide) ?_
    exact x_zret F hr (by rfl) dG_hasCode_26 (x_is_i _ _ _)
  · skip
    have c1 : 0 ≠ 0 := by
      have z : ¬ (0 = 0) := fun zz => c1 ((nI_eq (a := 0) (b := 0) (by omega) (by omega)).mpr zz)
      omega
    exact absurd c1 (by decide)
set_option maxHeartbeats 4000000 in
set_option maxRecDepth 100000 in
theorem cG_signF (l : Launch) (nx : Nat) (M : xH) (g : Nat) (γ : gS) (hG : gIs M g γ) (i : Int32) (hg : sgn (sml i) = true → γ.2.2.1.2.2.2.1 = 400) : xC l xcl yG_sign (xw (Cond.code yG_sign bG_sign 2 (some .boolean))) ({ frames := 3, cells := 0, slots := 0, locals := 62 } : Room) [.ref (g), .int (i)] nx M (x_is (some (.int (nI (0)))) nx M) := by
  obtain ⟨⟨fT, h0, h4, hfT, hpr, hπ, hπi⟩, hRd, hTr, hNo, hLi, hFi⟩ := id hG
  have hpp := hπ γ.2.1 (by omega)
  obtain ⟨r0, r1, r2, r3, r4, r5⟩ := id hRd
  obtain ⟨n0, n1, n2, n3, n4, n5, n6⟩ := id hNo
  obtain ⟨k0, k1, k2, k3, k4, k5, k6⟩ := id hLi
  obtain ⟨f0, f1, f2, f3⟩ := id hFi
  refine yC (by decide) (Nat.le_of_ble_eq_true rfl) ?_
  intro p e s m args below meth c D F hr hn
  refine x_aload_n F 0 dG_sign_0 rfl rfl ?_
  refine x_get (ci := 5) F 0 (x_in inG) rfl (by decide) (x_m kfG_10) dG_sign_1 h0 rfl ?_
  refine x_iload_n F 1 dG_sign_4 rfl rfl ?_
  refine yV (n := 1) (As := [.int (i)]) (ci := 3) F kmG_50 kiR_take ksR_take knR kcR_take (by decide +kernel) dG_sign_5 (cR_takeF l (nx) M (g + 1) (γ.2.2.1).1 (γ.2.2.1).2.1 (γ.2.2.1).2.2.1 (γ.2.2.1).2.2.2.1 (γ.2.2.1).2.2.2.2.1 (γ.2.2.1).2.2.2.2.2.1 (γ.2.2.1).2.2.2.2.2.2 hRd i hg) rfl r0 rfl rfl (Nat.le_of_ble_eq_true rfl) ⟨Nat.le_of_ble_eq_true rfl, Nat.le_of_ble_eq_true rfl⟩ ⟨Nat.le_of_ble_eq_true rfl, Nat.le_of_ble_eq_true rfl⟩ ?_
  exact x_zret F hr (by rfl) dG_sign_8 (x_is_i _ _ _)
