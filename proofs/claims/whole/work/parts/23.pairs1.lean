/-! Pairs at a: its four arrays of cap places at a + 1 .. a + 4 -/
def pAt (M : xH) (a cap : Nat) (ed : Nat → Int32) (cd : Nat → Int64) (mk : Nat → Int32) (ot : Nat → Int64) (n : Nat) : Prop :=
  M a = some (.inr (2, [.ref (a + 1), .ref (a + 2), .ref (a + 3), .ref (a + 4), .int (nI n)])) ∧ M (a + 1) = some (.inl (.int, cap, .inl ed)) ∧ M (a + 2) = some (.inl (.long, cap, .inr (.inl cd))) ∧ M (a + 3) = some (.inl (.int, cap, .inl mk)) ∧ M (a + 4) = some (.inl (.long, cap, .inr (.inl ot))) ∧ n ≤ cap ∧ cap ≤ 60
/-- a pair of an edition, a code, a mark (any if it is -1) -/
def pMt (ed : Nat → Int32) (cd : Nat → Int64) (mk : Nat → Int32) (e : Int32) (co : Int64) (mm : Int32) (j : Nat) : Bool := decide (ed j = e) && (decide (cd j = co) && (decide (mm = -1) || decide (mk j = mm)))
/-- how often P holds of the k from i on, and c beside -/
def ct (P : Nat → Bool) : Nat → Nat → Nat → Nat
  | 0, _, c => c
  | k + 1, i, c => if P i then ct P k (i + 1) (c + 1) else ct P k (i + 1) c
theorem ct_s (P : Nat → Bool) (k i c : Nat) : ct P (k + 1) i c = if P i then ct P k (i + 1) (c + 1) else ct P k (i + 1) c := rfl
/-- where the x-th (an int) of those with P stands, c of them being behind us -/
def nt (P : Nat → Bool) (x : Int32) : Nat → Nat → Nat → Option Nat
  | 0, _, _ => none
  | k + 1, i, c => if P i then (if nI c = x then some i else nt P x k (i + 1) (c + 1)) else nt P x k (i + 1) c
theorem nt_s (P : Nat → Bool) (x : Int32) (k i c : Nat) : nt P x (k + 1) i c = if P i then (if nI c = x then some i else nt P x k (i + 1) (c + 1)) else nt P x k (i + 1) c := rfl
theorem nt_lt {P : Nat → Bool} {x : Int32} {k i c j : Nat} (h : nt P x k i c = some j) : i ≤ j ∧ j < i + k ∧ P j = true := by
  induction k generalizing i c with
  | zero => cases h
  | succ k ih =>
    rw [nt_s] at h
    split at h
    · split at h
      · cases h; exact ⟨Nat.le_refl _, by omega, by assumption⟩
      · obtain ⟨a, b, d⟩ := ih h; exact ⟨by omega, by omega, d⟩
    · obtain ⟨a, b, d⟩ := ih h; exact ⟨by omega, by omega, d⟩
theorem dP_init_0 : decode bP_init 0 = .ok (.aload_n 0, 1) := by decide +kernel
theorem dP_init_1 : decode bP_init 1 = .ok (.invokespecial 3, 3) := by decide +kernel
theorem dP_init_4 : decode bP_init 4 = .ok (.aload_n 0, 1) := by decide +kernel
theorem dP_init_5 : decode bP_init 5 = .ok (.iconst 0, 1) := by decide +kernel
theorem dP_init_6 : decode bP_init 6 = .ok (.putfield 9, 3) := by decide +kernel
theorem dP_init_9 : decode bP_init 9 = .ok (.iload_n 1, 1) := by decide +kernel
theorem dP_init_10 : decode bP_init 10 = .ok (.iconst 0, 1) := by decide +kernel
theorem dP_init_11 : decode bP_init 11 = .ok (.invokestatic 15, 3) := by decide +kernel
theorem dP_init_14 : decode bP_init 14 = .ok (.istore_n 2, 1) := by decide +kernel
theorem dP_init_15 : decode bP_init 15 = .ok (.aload_n 0, 1) := by decide +kernel
theorem dP_init_16 : decode bP_init 16 = .ok (.iload_n 2, 1) := by decide +kernel
theorem dP_init_17 : decode bP_init 17 = .ok (.newarray .int, 2) := by decide +kernel
theorem dP_init_19 : decode bP_init 19 = .ok (.putfield 21, 3) := by decide +kernel
theorem dP_init_22 : decode bP_init 22 = .ok (.aload_n 0, 1) := by decide +kernel
theorem dP_init_23 : decode bP_init 23 = .ok (.iload_n 2, 1) := by decide +kernel
theorem dP_init_24 : decode bP_init 24 = .ok (.newarray .long, 2) := by decide +kernel
theorem dP_init_26 : decode bP_init 26 = .ok (.putfield 25, 3) := by decide +kernel
theorem dP_init_29 : decode bP_init 29 = .ok (.aload_n 0, 1) := by decide +kernel
theorem dP_init_30 : decode bP_init 30 = .ok (.iload_n 2, 1) := by decide +kernel
theorem dP_init_31 : decode bP_init 31 = .ok (.newarray .int, 2) := by decide +kernel
theorem dP_init_33 : decode bP_init 33 = .ok (.putfield 29, 3) := by decide +kernel
theorem dP_init_36 : decode bP_init 36 = .ok (.aload_n 0, 1) := by decide +kernel
theorem dP_init_37 : decode bP_init 37 = .ok (.iload_n 2, 1) := by decide +kernel
theorem dP_init_38 : decode bP_init 38 = .ok (.newarray .long, 2) := by decide +kernel
theorem dP_init_40 : decode bP_init 40 = .ok (.putfield 32, 3) := by decide +kernel
theorem dP_init_43 : decode bP_init 43 = .ok (.return_, 1) := by decide +kernel
theorem dP_size_0 : decode bP_size 0 = .ok (.aload_n 0, 1) := by decide +kernel
theorem dP_size_1 : decode bP_size 1 = .ok (.getfield 9, 3) := by decide +kernel
theorem dP_size_4 : decode bP_size 4 = .ok (.ireturn, 1) := by decide +kernel
theorem dP_isFull_0 : decode bP_isFull 0 = .ok (.aload_n 0, 1) := by decide +kernel
theorem dP_isFull_1 : decode bP_isFull 1 = .ok (.getfield 9, 3) := by decide +kernel
theorem dP_isFull_4 : decode bP_isFull 4 = .ok (.aload_n 0, 1) := by decide +kernel
theorem dP_isFull_5 : decode bP_isFull 5 = .ok (.getfield 25, 3) := by decide +kernel
theorem dP_isFull_8 : decode bP_isFull 8 = .ok (.arraylength, 1) := by decide +kernel
theorem dP_isFull_9 : decode bP_isFull 9 = .ok (.if_icmp .lt 7, 3) := by decide +kernel
theorem dP_isFull_12 : decode bP_isFull 12 = .ok (.iconst 1, 1) := by decide +kernel
theorem dP_isFull_13 : decode bP_isFull 13 = .ok (.goto 4, 3) := by decide +kernel
theorem dP_isFull_16 : decode bP_isFull 16 = .ok (.iconst 0, 1) := by decide +kernel
theorem dP_isFull_17 : decode bP_isFull 17 = .ok (.ireturn, 1) := by decide +kernel
theorem dP_holds_0 : decode bP_holds 0 = .ok (.iconst 0, 1) := by decide +kernel
theorem dP_holds_1 : decode bP_holds 1 = .ok (.istore 7, 2) := by decide +kernel
theorem dP_holds_3 : decode bP_holds 3 = .ok (.iload 7, 2) := by decide +kernel
theorem dP_holds_5 : decode bP_holds 5 = .ok (.aload_n 0, 1) := by decide +kernel
theorem dP_holds_6 : decode bP_holds 6 = .ok (.getfield 9, 3) := by decide +kernel
theorem dP_holds_9 : decode bP_holds 9 = .ok (.if_icmp .ge 37, 3) := by decide +kernel
theorem dP_holds_12 : decode bP_holds 12 = .ok (.aload_n 0, 1) := by decide +kernel
theorem dP_holds_13 : decode bP_holds 13 = .ok (.getfield 32, 3) := by decide +kernel
theorem dP_holds_16 : decode bP_holds 16 = .ok (.iload 7, 2) := by decide +kernel
theorem dP_holds_18 : decode bP_holds 18 = .ok (.laload, 1) := by decide +kernel
theorem dP_holds_19 : decode bP_holds 19 = .ok (.lload 5, 2) := by decide +kernel
theorem dP_holds_21 : decode bP_holds 21 = .ok (.lcmp, 1) := by decide +kernel
theorem dP_holds_22 : decode bP_holds 22 = .ok (.ifCond .ne 18, 3) := by decide +kernel
theorem dP_holds_25 : decode bP_holds 25 = .ok (.aload_n 0, 1) := by decide +kernel
theorem dP_holds_26 : decode bP_holds 26 = .ok (.iload 7, 2) := by decide +kernel
theorem dP_holds_28 : decode bP_holds 28 = .ok (.iload_n 1, 1) := by decide +kernel
theorem dP_holds_29 : decode bP_holds 29 = .ok (.lload_n 2, 1) := by decide +kernel
theorem dP_holds_30 : decode bP_holds 30 = .ok (.iload 4, 2) := by decide +kernel
theorem dP_holds_32 : decode bP_holds 32 = .ok (.invokevirtual 35, 3) := by decide +kernel
theorem dP_holds_35 : decode bP_holds 35 = .ok (.ifCond .eq 5, 3) := by decide +kernel
theorem dP_holds_38 : decode bP_holds 38 = .ok (.iconst 1, 1) := by decide +kernel
theorem dP_holds_39 : decode bP_holds 39 = .ok (.ireturn, 1) := by decide +kernel
theorem dP_holds_40 : decode bP_holds 40 = .ok (.iinc 7 1, 3) := by decide +kernel
theorem dP_holds_43 : decode bP_holds 43 = .ok (.goto (-40), 3) := by decide +kernel
theorem dP_holds_46 : decode bP_holds 46 = .ok (.iconst 0, 1) := by decide +kernel
theorem dP_holds_47 : decode bP_holds 47 = .ok (.ireturn, 1) := by decide +kernel
theorem dP_add_0 : decode bP_add 0 = .ok (.aload_n 0, 1) := by decide +kernel
theorem dP_add_1 : decode bP_add 1 = .ok (.invokevirtual 39, 3) := by decide +kernel
theorem dP_add_4 : decode bP_add 4 = .ok (.ifCond .eq 4, 3) := by decide +kernel
theorem dP_add_7 : decode bP_add 7 = .ok (.return_, 1) := by decide +kernel
theorem dP_add_8 : decode bP_add 8 = .ok (.aload_n 0, 1) := by decide +kernel
theorem dP_add_9 : decode bP_add 9 = .ok (.getfield 21, 3) := by decide +kernel
theorem dP_add_12 : decode bP_add 12 = .ok (.aload_n 0, 1) := by decide +kernel
theorem dP_add_13 : decode bP_add 13 = .ok (.getfield 9, 3) := by decide +kernel
theorem dP_add_16 : decode bP_add 16 = .ok (.iload_n 1, 1) := by decide +kernel
theorem dP_add_17 : decode bP_add 17 = .ok (.iastore, 1) := by decide +kernel
theorem dP_add_18 : decode bP_add 18 = .ok (.aload_n 0, 1) := by decide +kernel
theorem dP_add_19 : decode bP_add 19 = .ok (.getfield 25, 3) := by decide +kernel
theorem dP_add_22 : decode bP_add 22 = .ok (.aload_n 0, 1) := by decide +kernel
theorem dP_add_23 : decode bP_add 23 = .ok (.getfield 9, 3) := by decide +kernel
theorem dP_add_26 : decode bP_add 26 = .ok (.lload_n 2, 1) := by decide +kernel
theorem dP_add_27 : decode bP_add 27 = .ok (.lastore, 1) := by decide +kernel
theorem dP_add_28 : decode bP_add 28 = .ok (.aload_n 0, 1) := by decide +kernel
theorem dP_add_29 : decode bP_add 29 = .ok (.getfield 29, 3) := by decide +kernel
theorem dP_add_32 : decode bP_add 32 = .ok (.aload_n 0, 1) := by decide +kernel
theorem dP_add_33 : decode bP_add 33 = .ok (.getfield 9, 3) := by decide +kernel
theorem dP_add_36 : decode bP_add 36 = .ok (.iload 4, 2) := by decide +kernel
theorem dP_add_38 : decode bP_add 38 = .ok (.iastore, 1) := by decide +kernel
theorem dP_add_39 : decode bP_add 39 = .ok (.aload_n 0, 1) := by decide +kernel
theorem dP_add_40 : decode bP_add 40 = .ok (.getfield 32, 3) := by decide +kernel
theorem dP_add_43 : decode bP_add 43 = .ok (.aload_n 0, 1) := by decide +kernel
theorem dP_add_44 : decode bP_add 44 = .ok (.getfield 9, 3) := by decide +kernel
theorem dP_add_47 : decode bP_add 47 = .ok (.lload 5, 2) := by decide +kernel
theorem dP_add_49 : decode bP_add 49 = .ok (.lastore, 1) := by decide +kernel
theorem dP_add_50 : decode bP_add 50 = .ok (.aload_n 0, 1) := by decide +kernel
theorem dP_add_51 : decode bP_add 51 = .ok (.dup, 1) := by decide +kernel
theorem dP_add_52 : decode bP_add 52 = .ok (.getfield 9, 3) := by decide +kernel
theorem dP_add_55 : decode bP_add 55 = .ok (.iconst 1, 1) := by decide +kernel
theorem dP_add_56 : decode bP_add 56 = .ok (.iadd, 1) := by decide +kernel
theorem dP_add_57 : decode bP_add 57 = .ok (.putfield 9, 3) := by decide +kernel
theorem dP_add_60 : decode bP_add 60 = .ok (.return_, 1) := by decide +kernel
theorem dP_matches_0 : decode bP_matches 0 = .ok (.aload_n 0, 1) := by decide +kernel
theorem dP_matches_1 : decode bP_matches 1 = .ok (.iload_n 1, 1) := by decide +kernel
theorem dP_matches_2 : decode bP_matches 2 = .ok (.invokevirtual 43, 3) := by decide +kernel
theorem dP_matches_5 : decode bP_matches 5 = .ok (.ifCond .eq 45, 3) := by decide +kernel
theorem dP_matches_8 : decode bP_matches 8 = .ok (.aload_n 0, 1) := by decide +kernel
theorem dP_matches_9 : decode bP_matches 9 = .ok (.getfield 21, 3) := by decide +kernel
theorem dP_matches_12 : decode bP_matches 12 = .ok (.iload_n 1, 1) := by decide +kernel
theorem dP_matches_13 : decode bP_matches 13 = .ok (.iaload, 1) := by decide +kernel
theorem dP_matches_14 : decode bP_matches 14 = .ok (.iload_n 2, 1) := by decide +kernel
theorem dP_matches_15 : decode bP_matches 15 = .ok (.if_icmp .ne 35, 3) := by decide +kernel
theorem dP_matches_18 : decode bP_matches 18 = .ok (.aload_n 0, 1) := by decide +kernel
theorem dP_matches_19 : decode bP_matches 19 = .ok (.getfield 25, 3) := by decide +kernel
theorem dP_matches_22 : decode bP_matches 22 = .ok (.iload_n 1, 1) := by decide +kernel
theorem dP_matches_23 : decode bP_matches 23 = .ok (.laload, 1) := by decide +kernel
theorem dP_matches_24 : decode bP_matches 24 = .ok (.lload_n 3, 1) := by decide +kernel
theorem dP_matches_25 : decode bP_matches 25 = .ok (.lcmp, 1) := by decide +kernel
theorem dP_matches_26 : decode bP_matches 26 = .ok (.ifCond .ne 24, 3) := by decide +kernel
theorem dP_matches_29 : decode bP_matches 29 = .ok (.iload 5, 2) := by decide +kernel
theorem dP_matches_31 : decode bP_matches 31 = .ok (.iconst (-1), 1) := by decide +kernel
theorem dP_matches_32 : decode bP_matches 32 = .ok (.if_icmp .eq 14, 3) := by decide +kernel
theorem dP_matches_35 : decode bP_matches 35 = .ok (.aload_n 0, 1) := by decide +kernel
theorem dP_matches_36 : decode bP_matches 36 = .ok (.getfield 29, 3) := by decide +kernel
theorem dP_matches_39 : decode bP_matches 39 = .ok (.iload_n 1, 1) := by decide +kernel
theorem dP_matches_40 : decode bP_matches 40 = .ok (.iaload, 1) := by decide +kernel
theorem dP_matches_41 : decode bP_matches 41 = .ok (.iload 5, 2) := by decide +kernel
theorem dP_matches_43 : decode bP_matches 43 = .ok (.if_icmp .ne 7, 3) := by decide +kernel
theorem dP_matches_46 : decode bP_matches 46 = .ok (.iconst 1, 1) := by decide +kernel
theorem dP_matches_47 : decode bP_matches 47 = .ok (.goto 4, 3) := by decide +kernel
theorem dP_matches_50 : decode bP_matches 50 = .ok (.iconst 0, 1) := by decide +kernel
theorem dP_matches_51 : decode bP_matches 51 = .ok (.ireturn, 1) := by decide +kernel
theorem dP_nth_0 : decode bP_nth 0 = .ok (.iconst 0, 1) := by decide +kernel
theorem dP_nth_1 : decode bP_nth 1 = .ok (.istore 6, 2) := by decide +kernel
theorem dP_nth_3 : decode bP_nth 3 = .ok (.iconst 0, 1) := by decide +kernel
theorem dP_nth_4 : decode bP_nth 4 = .ok (.istore 7, 2) := by decide +kernel
theorem dP_nth_6 : decode bP_nth 6 = .ok (.iload 7, 2) := by decide +kernel
theorem dP_nth_8 : decode bP_nth 8 = .ok (.aload_n 0, 1) := by decide +kernel
theorem dP_nth_9 : decode bP_nth 9 = .ok (.getfield 9, 3) := by decide +kernel
theorem dP_nth_12 : decode bP_nth 12 = .ok (.if_icmp .ge 35, 3) := by decide +kernel
theorem dP_nth_15 : decode bP_nth 15 = .ok (.aload_n 0, 1) := by decide +kernel
theorem dP_nth_16 : decode bP_nth 16 = .ok (.iload 7, 2) := by decide +kernel
theorem dP_nth_18 : decode bP_nth 18 = .ok (.iload_n 1, 1) := by decide +kernel
theorem dP_nth_19 : decode bP_nth 19 = .ok (.lload_n 2, 1) := by decide +kernel
theorem dP_nth_20 : decode bP_nth 20 = .ok (.iload 4, 2) := by decide +kernel
theorem dP_nth_22 : decode bP_nth 22 = .ok (.invokevirtual 35, 3) := by decide +kernel
theorem dP_nth_25 : decode bP_nth 25 = .ok (.ifCond .eq 16, 3) := by decide +kernel
theorem dP_nth_28 : decode bP_nth 28 = .ok (.iload 6, 2) := by decide +kernel
theorem dP_nth_30 : decode bP_nth 30 = .ok (.iload 5, 2) := by decide +kernel
theorem dP_nth_32 : decode bP_nth 32 = .ok (.if_icmp .ne 6, 3) := by decide +kernel
theorem dP_nth_35 : decode bP_nth 35 = .ok (.iload 7, 2) := by decide +kernel
theorem dP_nth_37 : decode bP_nth 37 = .ok (.ireturn, 1) := by decide +kernel
theorem dP_nth_38 : decode bP_nth 38 = .ok (.iinc 6 1, 3) := by decide +kernel
theorem dP_nth_41 : decode bP_nth 41 = .ok (.iinc 7 1, 3) := by decide +kernel
theorem dP_nth_44 : decode bP_nth 44 = .ok (.goto (-38), 3) := by decide +kernel
theorem dP_nth_47 : decode bP_nth 47 = .ok (.iconst (-1), 1) := by decide +kernel
theorem dP_nth_48 : decode bP_nth 48 = .ok (.ireturn, 1) := by decide +kernel
theorem dP_markAt_0 : decode bP_markAt 0 = .ok (.aload_n 0, 1) := by decide +kernel
theorem dP_markAt_1 : decode bP_markAt 1 = .ok (.iload_n 1, 1) := by decide +kernel
theorem dP_markAt_2 : decode bP_markAt 2 = .ok (.invokevirtual 43, 3) := by decide +kernel
theorem dP_markAt_5 : decode bP_markAt 5 = .ok (.ifCond .eq 12, 3) := by decide +kernel
theorem dP_markAt_8 : decode bP_markAt 8 = .ok (.aload_n 0, 1) := by decide +kernel
theorem dP_markAt_9 : decode bP_markAt 9 = .ok (.getfield 29, 3) := by decide +kernel
theorem dP_markAt_12 : decode bP_markAt 12 = .ok (.iload_n 1, 1) := by decide +kernel
theorem dP_markAt_13 : decode bP_markAt 13 = .ok (.iaload, 1) := by decide +kernel
theorem dP_markAt_14 : decode bP_markAt 14 = .ok (.goto 4, 3) := by decide +kernel
theorem dP_markAt_17 : decode bP_markAt 17 = .ok (.iconst (-1), 1) := by decide +kernel
theorem dP_markAt_18 : decode bP_markAt 18 = .ok (.ireturn, 1) := by decide +kernel
theorem dP_otherAt_0 : decode bP_otherAt 0 = .ok (.aload_n 0, 1) := by decide +kernel
theorem dP_otherAt_1 : decode bP_otherAt 1 = .ok (.iload_n 1, 1) := by decide +kernel
theorem dP_otherAt_2 : decode bP_otherAt 2 = .ok (.invokevirtual 43, 3) := by decide +kernel
theorem dP_otherAt_5 : decode bP_otherAt 5 = .ok (.ifCond .eq 12, 3) := by decide +kernel
theorem dP_otherAt_8 : decode bP_otherAt 8 = .ok (.aload_n 0, 1) := by decide +kernel
theorem dP_otherAt_9 : decode bP_otherAt 9 = .ok (.getfield 32, 3) := by decide +kernel
theorem dP_otherAt_12 : decode bP_otherAt 12 = .ok (.iload_n 1, 1) := by decide +kernel
theorem dP_otherAt_13 : decode bP_otherAt 13 = .ok (.laload, 1) := by decide +kernel
theorem dP_otherAt_14 : decode bP_otherAt 14 = .ok (.goto 4, 3) := by decide +kernel
theorem dP_otherAt_17 : decode bP_otherAt 17 = .ok (.lconst 0, 1) := by decide +kernel
theorem dP_otherAt_18 : decode bP_otherAt 18 = .ok (.lreturn, 1) := by decide +kernel
theorem dP_sizeFrom_0 : decode bP_sizeFrom 0 = .ok (.iconst 0, 1) := by decide +kernel
theorem dP_sizeFrom_1 : decode bP_sizeFrom 1 = .ok (.istore_n 2, 1) := by decide +kernel
theorem dP_sizeFrom_2 : decode bP_sizeFrom 2 = .ok (.iconst 0, 1) := by decide +kernel
theorem dP_sizeFrom_3 : decode bP_sizeFrom 3 = .ok (.istore_n 3, 1) := by decide +kernel
theorem dP_sizeFrom_4 : decode bP_sizeFrom 4 = .ok (.iload_n 3, 1) := by decide +kernel
theorem dP_sizeFrom_5 : decode bP_sizeFrom 5 = .ok (.aload_n 0, 1) := by decide +kernel
theorem dP_sizeFrom_6 : decode bP_sizeFrom 6 = .ok (.getfield 9, 3) := by decide +kernel
theorem dP_sizeFrom_9 : decode bP_sizeFrom 9 = .ok (.if_icmp .ge 22, 3) := by decide +kernel
theorem dP_sizeFrom_12 : decode bP_sizeFrom 12 = .ok (.aload_n 0, 1) := by decide +kernel
theorem dP_sizeFrom_13 : decode bP_sizeFrom 13 = .ok (.getfield 21, 3) := by decide +kernel
theorem dP_sizeFrom_16 : decode bP_sizeFrom 16 = .ok (.iload_n 3, 1) := by decide +kernel
theorem dP_sizeFrom_17 : decode bP_sizeFrom 17 = .ok (.iaload, 1) := by decide +kernel
theorem dP_sizeFrom_18 : decode bP_sizeFrom 18 = .ok (.iload_n 1, 1) := by decide +kernel
theorem dP_sizeFrom_19 : decode bP_sizeFrom 19 = .ok (.if_icmp .ne 6, 3) := by decide +kernel
theorem dP_sizeFrom_22 : decode bP_sizeFrom 22 = .ok (.iinc 2 1, 3) := by decide +kernel
theorem dP_sizeFrom_25 : decode bP_sizeFrom 25 = .ok (.iinc 3 1, 3) := by decide +kernel
theorem dP_sizeFrom_28 : decode bP_sizeFrom 28 = .ok (.goto (-24), 3) := by decide +kernel
theorem dP_sizeFrom_31 : decode bP_sizeFrom 31 = .ok (.iload_n 2, 1) := by decide +kernel
theorem dP_sizeFrom_32 : decode bP_sizeFrom 32 = .ok (.ireturn, 1) := by decide +kernel
theorem dP_sizeTo_0 : decode bP_sizeTo 0 = .ok (.iconst 0, 1) := by decide +kernel
theorem dP_sizeTo_1 : decode bP_sizeTo 1 = .ok (.istore 5, 2) := by decide +kernel
theorem dP_sizeTo_3 : decode bP_sizeTo 3 = .ok (.iconst 0, 1) := by decide +kernel
theorem dP_sizeTo_4 : decode bP_sizeTo 4 = .ok (.istore 6, 2) := by decide +kernel
theorem dP_sizeTo_6 : decode bP_sizeTo 6 = .ok (.iload 6, 2) := by decide +kernel
theorem dP_sizeTo_8 : decode bP_sizeTo 8 = .ok (.aload_n 0, 1) := by decide +kernel
theorem dP_sizeTo_9 : decode bP_sizeTo 9 = .ok (.getfield 9, 3) := by decide +kernel
theorem dP_sizeTo_12 : decode bP_sizeTo 12 = .ok (.if_icmp .ge 46, 3) := by decide +kernel
theorem dP_sizeTo_15 : decode bP_sizeTo 15 = .ok (.aload_n 0, 1) := by decide +kernel
theorem dP_sizeTo_16 : decode bP_sizeTo 16 = .ok (.getfield 21, 3) := by decide +kernel
theorem dP_sizeTo_19 : decode bP_sizeTo 19 = .ok (.iload 6, 2) := by decide +kernel
theorem dP_sizeTo_21 : decode bP_sizeTo 21 = .ok (.iaload, 1) := by decide +kernel
theorem dP_sizeTo_22 : decode bP_sizeTo 22 = .ok (.iload_n 1, 1) := by decide +kernel
theorem dP_sizeTo_23 : decode bP_sizeTo 23 = .ok (.if_icmp .ne 29, 3) := by decide +kernel
theorem dP_sizeTo_26 : decode bP_sizeTo 26 = .ok (.aload_n 0, 1) := by decide +kernel
theorem dP_sizeTo_27 : decode bP_sizeTo 27 = .ok (.getfield 29, 3) := by decide +kernel
theorem dP_sizeTo_30 : decode bP_sizeTo 30 = .ok (.iload 6, 2) := by decide +kernel
theorem dP_sizeTo_32 : decode bP_sizeTo 32 = .ok (.iaload, 1) := by decide +kernel
theorem dP_sizeTo_33 : decode bP_sizeTo 33 = .ok (.iload_n 2, 1) := by decide +kernel
theorem dP_sizeTo_34 : decode bP_sizeTo 34 = .ok (.if_icmp .ne 18, 3) := by decide +kernel
theorem dP_sizeTo_37 : decode bP_sizeTo 37 = .ok (.aload_n 0, 1) := by decide +kernel
theorem dP_sizeTo_38 : decode bP_sizeTo 38 = .ok (.getfield 32, 3) := by decide +kernel
theorem dP_sizeTo_41 : decode bP_sizeTo 41 = .ok (.iload 6, 2) := by decide +kernel
theorem dP_sizeTo_43 : decode bP_sizeTo 43 = .ok (.laload, 1) := by decide +kernel
theorem dP_sizeTo_44 : decode bP_sizeTo 44 = .ok (.lload_n 3, 1) := by decide +kernel
theorem dP_sizeTo_45 : decode bP_sizeTo 45 = .ok (.lcmp, 1) := by decide +kernel
theorem dP_sizeTo_46 : decode bP_sizeTo 46 = .ok (.ifCond .ne 6, 3) := by decide +kernel
theorem dP_sizeTo_49 : decode bP_sizeTo 49 = .ok (.iinc 5 1, 3) := by decide +kernel
theorem dP_sizeTo_52 : decode bP_sizeTo 52 = .ok (.iinc 6 1, 3) := by decide +kernel
theorem dP_sizeTo_55 : decode bP_sizeTo 55 = .ok (.goto (-49), 3) := by decide +kernel
theorem dP_sizeTo_58 : decode bP_sizeTo 58 = .ok (.iload 5, 2) := by decide +kernel
theorem dP_sizeTo_60 : decode bP_sizeTo 60 = .ok (.ireturn, 1) := by decide +kernel
theorem dP_dropFrom_0 : decode bP_dropFrom 0 = .ok (.aload_n 0, 1) := by decide +kernel
theorem dP_dropFrom_1 : decode bP_dropFrom 1 = .ok (.getfield 9, 3) := by decide +kernel
theorem dP_dropFrom_4 : decode bP_dropFrom 4 = .ok (.iconst 1, 1) := by decide +kernel
theorem dP_dropFrom_5 : decode bP_dropFrom 5 = .ok (.isub, 1) := by decide +kernel
theorem dP_dropFrom_6 : decode bP_dropFrom 6 = .ok (.istore_n 2, 1) := by decide +kernel
theorem dP_dropFrom_7 : decode bP_dropFrom 7 = .ok (.iload_n 2, 1) := by decide +kernel
theorem dP_dropFrom_8 : decode bP_dropFrom 8 = .ok (.ifCond .lt 24, 3) := by decide +kernel
theorem dP_dropFrom_11 : decode bP_dropFrom 11 = .ok (.aload_n 0, 1) := by decide +kernel
theorem dP_dropFrom_12 : decode bP_dropFrom 12 = .ok (.getfield 21, 3) := by decide +kernel
theorem dP_dropFrom_15 : decode bP_dropFrom 15 = .ok (.iload_n 2, 1) := by decide +kernel
theorem dP_dropFrom_16 : decode bP_dropFrom 16 = .ok (.iaload, 1) := by decide +kernel
theorem dP_dropFrom_17 : decode bP_dropFrom 17 = .ok (.iload_n 1, 1) := by decide +kernel
theorem dP_dropFrom_18 : decode bP_dropFrom 18 = .ok (.if_icmp .ne 8, 3) := by decide +kernel
theorem dP_dropFrom_21 : decode bP_dropFrom 21 = .ok (.aload_n 0, 1) := by decide +kernel
theorem dP_dropFrom_22 : decode bP_dropFrom 22 = .ok (.iload_n 2, 1) := by decide +kernel
theorem dP_dropFrom_23 : decode bP_dropFrom 23 = .ok (.invokevirtual 47, 3) := by decide +kernel
theorem dP_dropFrom_26 : decode bP_dropFrom 26 = .ok (.iinc 2 (-1), 3) := by decide +kernel
theorem dP_dropFrom_29 : decode bP_dropFrom 29 = .ok (.goto (-22), 3) := by decide +kernel
theorem dP_dropFrom_32 : decode bP_dropFrom 32 = .ok (.return_, 1) := by decide +kernel
theorem dP_dropMarked_0 : decode bP_dropMarked 0 = .ok (.aload_n 0, 1) := by decide +kernel
theorem dP_dropMarked_1 : decode bP_dropMarked 1 = .ok (.getfield 9, 3) := by decide +kernel
theorem dP_dropMarked_4 : decode bP_dropMarked 4 = .ok (.iconst 1, 1) := by decide +kernel
theorem dP_dropMarked_5 : decode bP_dropMarked 5 = .ok (.isub, 1) := by decide +kernel
theorem dP_dropMarked_6 : decode bP_dropMarked 6 = .ok (.istore_n 2, 1) := by decide +kernel
theorem dP_dropMarked_7 : decode bP_dropMarked 7 = .ok (.iload_n 2, 1) := by decide +kernel
theorem dP_dropMarked_8 : decode bP_dropMarked 8 = .ok (.ifCond .lt 24, 3) := by decide +kernel
theorem dP_dropMarked_11 : decode bP_dropMarked 11 = .ok (.aload_n 0, 1) := by decide +kernel
theorem dP_dropMarked_12 : decode bP_dropMarked 12 = .ok (.getfield 29, 3) := by decide +kernel
theorem dP_dropMarked_15 : decode bP_dropMarked 15 = .ok (.iload_n 2, 1) := by decide +kernel
theorem dP_dropMarked_16 : decode bP_dropMarked 16 = .ok (.iaload, 1) := by decide +kernel
theorem dP_dropMarked_17 : decode bP_dropMarked 17 = .ok (.iload_n 1, 1) := by decide +kernel
theorem dP_dropMarked_18 : decode bP_dropMarked 18 = .ok (.if_icmp .ne 8, 3) := by decide +kernel
theorem dP_dropMarked_21 : decode bP_dropMarked 21 = .ok (.aload_n 0, 1) := by decide +kernel
theorem dP_dropMarked_22 : decode bP_dropMarked 22 = .ok (.iload_n 2, 1) := by decide +kernel
theorem dP_dropMarked_23 : decode bP_dropMarked 23 = .ok (.invokevirtual 47, 3) := by decide +kernel
theorem dP_dropMarked_26 : decode bP_dropMarked 26 = .ok (.iinc 2 (-1), 3) := by decide +kernel
theorem dP_dropMarked_29 : decode bP_dropMarked 29 = .ok (.goto (-22), 3) := by decide +kernel
theorem dP_dropMarked_32 : decode bP_dropMarked 32 = .ok (.return_, 1) := by decide +kernel
theorem dP_drop_0 : decode bP_drop 0 = .ok (.iload_n 1, 1) := by decide +kernel
theorem dP_drop_1 : decode bP_drop 1 = .ok (.istore_n 2, 1) := by decide +kernel
theorem dP_drop_2 : decode bP_drop 2 = .ok (.iload_n 2, 1) := by decide +kernel
theorem dP_drop_3 : decode bP_drop 3 = .ok (.ifCond .lt 75, 3) := by decide +kernel
theorem dP_drop_6 : decode bP_drop 6 = .ok (.iload_n 2, 1) := by decide +kernel
theorem dP_drop_7 : decode bP_drop 7 = .ok (.aload_n 0, 1) := by decide +kernel
theorem dP_drop_8 : decode bP_drop 8 = .ok (.getfield 9, 3) := by decide +kernel
theorem dP_drop_11 : decode bP_drop 11 = .ok (.iconst 1, 1) := by decide +kernel
theorem dP_drop_12 : decode bP_drop 12 = .ok (.isub, 1) := by decide +kernel
theorem dP_drop_13 : decode bP_drop 13 = .ok (.if_icmp .ge 65, 3) := by decide +kernel
theorem dP_drop_16 : decode bP_drop 16 = .ok (.aload_n 0, 1) := by decide +kernel
theorem dP_drop_17 : decode bP_drop 17 = .ok (.getfield 21, 3) := by decide +kernel
theorem dP_drop_20 : decode bP_drop 20 = .ok (.iload_n 2, 1) := by decide +kernel
theorem dP_drop_21 : decode bP_drop 21 = .ok (.aload_n 0, 1) := by decide +kernel
theorem dP_drop_22 : decode bP_drop 22 = .ok (.getfield 21, 3) := by decide +kernel
theorem dP_drop_25 : decode bP_drop 25 = .ok (.iload_n 2, 1) := by decide +kernel
theorem dP_drop_26 : decode bP_drop 26 = .ok (.iconst 1, 1) := by decide +kernel
theorem dP_drop_27 : decode bP_drop 27 = .ok (.iadd, 1) := by decide +kernel
theorem dP_drop_28 : decode bP_drop 28 = .ok (.iaload, 1) := by decide +kernel
theorem dP_drop_29 : decode bP_drop 29 = .ok (.iastore, 1) := by decide +kernel
theorem dP_drop_30 : decode bP_drop 30 = .ok (.aload_n 0, 1) := by decide +kernel
theorem dP_drop_31 : decode bP_drop 31 = .ok (.getfield 25, 3) := by decide +kernel
theorem dP_drop_34 : decode bP_drop 34 = .ok (.iload_n 2, 1) := by decide +kernel
theorem dP_drop_35 : decode bP_drop 35 = .ok (.aload_n 0, 1) := by decide +kernel
theorem dP_drop_36 : decode bP_drop 36 = .ok (.getfield 25, 3) := by decide +kernel
theorem dP_drop_39 : decode bP_drop 39 = .ok (.iload_n 2, 1) := by decide +kernel
theorem dP_drop_40 : decode bP_drop 40 = .ok (.iconst 1, 1) := by decide +kernel
theorem dP_drop_41 : decode bP_drop 41 = .ok (.iadd, 1) := by decide +kernel
theorem dP_drop_42 : decode bP_drop 42 = .ok (.laload, 1) := by decide +kernel
theorem dP_drop_43 : decode bP_drop 43 = .ok (.lastore, 1) := by decide +kernel
theorem dP_drop_44 : decode bP_drop 44 = .ok (.aload_n 0, 1) := by decide +kernel
theorem dP_drop_45 : decode bP_drop 45 = .ok (.getfield 29, 3) := by decide +kernel
theorem dP_drop_48 : decode bP_drop 48 = .ok (.iload_n 2, 1) := by decide +kernel
theorem dP_drop_49 : decode bP_drop 49 = .ok (.aload_n 0, 1) := by decide +kernel
theorem dP_drop_50 : decode bP_drop 50 = .ok (.getfield 29, 3) := by decide +kernel
theorem dP_drop_53 : decode bP_drop 53 = .ok (.iload_n 2, 1) := by decide +kernel
theorem dP_drop_54 : decode bP_drop 54 = .ok (.iconst 1, 1) := by decide +kernel
theorem dP_drop_55 : decode bP_drop 55 = .ok (.iadd, 1) := by decide +kernel
theorem dP_drop_56 : decode bP_drop 56 = .ok (.iaload, 1) := by decide +kernel
theorem dP_drop_57 : decode bP_drop 57 = .ok (.iastore, 1) := by decide +kernel
theorem dP_drop_58 : decode bP_drop 58 = .ok (.aload_n 0, 1) := by decide +kernel
theorem dP_drop_59 : decode bP_drop 59 = .ok (.getfield 32, 3) := by decide +kernel
theorem dP_drop_62 : decode bP_drop 62 = .ok (.iload_n 2, 1) := by decide +kernel
theorem dP_drop_63 : decode bP_drop 63 = .ok (.aload_n 0, 1) := by decide +kernel
theorem dP_drop_64 : decode bP_drop 64 = .ok (.getfield 32, 3) := by decide +kernel
theorem dP_drop_67 : decode bP_drop 67 = .ok (.iload_n 2, 1) := by decide +kernel
theorem dP_drop_68 : decode bP_drop 68 = .ok (.iconst 1, 1) := by decide +kernel
theorem dP_drop_69 : decode bP_drop 69 = .ok (.iadd, 1) := by decide +kernel
theorem dP_drop_70 : decode bP_drop 70 = .ok (.laload, 1) := by decide +kernel
theorem dP_drop_71 : decode bP_drop 71 = .ok (.lastore, 1) := by decide +kernel
theorem dP_drop_72 : decode bP_drop 72 = .ok (.iinc 2 1, 3) := by decide +kernel
theorem dP_drop_75 : decode bP_drop 75 = .ok (.goto (-73), 3) := by decide +kernel
theorem dP_drop_78 : decode bP_drop 78 = .ok (.aload_n 0, 1) := by decide +kernel
theorem dP_drop_79 : decode bP_drop 79 = .ok (.dup, 1) := by decide +kernel
theorem dP_drop_80 : decode bP_drop 80 = .ok (.getfield 9, 3) := by decide +kernel
theorem dP_drop_83 : decode bP_drop 83 = .ok (.iconst 1, 1) := by decide +kernel
theorem dP_drop_84 : decode bP_drop 84 = .ok (.isub, 1) := by decide +kernel
theorem dP_drop_85 : decode bP_drop 85 = .ok (.putfield 9, 3) := by decide +kernel
theorem dP_drop_88 : decode bP_drop 88 = .ok (.return_, 1) := by decide +kernel
theorem dP_has_0 : decode bP_has 0 = .ok (.iload_n 1, 1) := by decide +kernel
theorem dP_has_1 : decode bP_has 1 = .ok (.ifCond .lt 24, 3) := by decide +kernel
theorem dP_has_4 : decode bP_has 4 = .ok (.iload_n 1, 1) := by decide +kernel
theorem dP_has_5 : decode bP_has 5 = .ok (.aload_n 0, 1) := by decide +kernel
theorem dP_has_6 : decode bP_has 6 = .ok (.getfield 9, 3) := by decide +kernel
theorem dP_has_9 : decode bP_has 9 = .ok (.if_icmp .ge 16, 3) := by decide +kernel
theorem dP_has_12 : decode bP_has 12 = .ok (.iload_n 1, 1) := by decide +kernel
theorem dP_has_13 : decode bP_has 13 = .ok (.aload_n 0, 1) := by decide +kernel
theorem dP_has_14 : decode bP_has 14 = .ok (.getfield 25, 3) := by decide +kernel
theorem dP_has_17 : decode bP_has 17 = .ok (.arraylength, 1) := by decide +kernel
theorem dP_has_18 : decode bP_has 18 = .ok (.if_icmp .ge 7, 3) := by decide +kernel
theorem dP_has_21 : decode bP_has 21 = .ok (.iconst 1, 1) := by decide +kernel
theorem dP_has_22 : decode bP_has 22 = .ok (.goto 4, 3) := by decide +kernel
theorem dP_has_25 : decode bP_has 25 = .ok (.iconst 0, 1) := by decide +kernel
theorem dP_has_26 : decode bP_has 26 = .ok (.ireturn, 1) := by decide +kernel
set_option maxHeartbeats 4000000 in
set_option maxRecDepth 100000 in
theorem cP_size (l : Launch) (nx : Nat) (M : xH) (a cap : Nat) (ed : Nat → Int32) (cd : Nat → Int64) (mk : Nat → Int32) (ot : Nat → Int64) (n : Nat) (hT : pAt M a cap ed cd mk ot n) : xC l xcl yP_size (xw (Cond.code yP_size bP_size 1 (some .int))) ({ frames := 0, cells := 0, slots := 0, locals := 0 } : Room) [.ref (a)] nx M (x_is (some (.int (nI (n)))) nx M) := by
  obtain ⟨h0, h1, h2, h3, h4, hz, hcp⟩ := id hT
  refine yC (by decide) (Nat.le_of_ble_eq_true rfl) ?_
  intro p e s m args below meth c D F hr hn
  refine x_aload_n F 0 dP_size_0 rfl rfl ?_
  refine x_get (ci := 2) F 4 (x_in inP) rfl (by decide) (x_m kfP_9) dP_size_1 h0 rfl ?_
  exact x_iret F hr dP_size_4 (x_is_i _ _ _)
set_option maxHeartbeats 4000000 in
set_option maxRecDepth 100000 in
theorem cP_isFull (l : Launch) (nx : Nat) (M : xH) (a cap : Nat) (ed : Nat → Int32) (cd : Nat → Int64) (mk : Nat → Int32) (ot : Nat → Int64) (n : Nat) (hT : pAt M a cap ed cd mk ot n) : xC l xcl yP_isFull (xw (Cond.code yP_isFull bP_isFull 1 (some .boolean))) ({ frames := 0, cells := 0, slots := 0, locals := 0 } : Room) [.ref (a)] nx M (x_is (some (.int (bI (decide (cap ≤ n))))) nx M) := by
  obtain ⟨h0, h1, h2, h3, h4, hz, hcp⟩ := id hT
  refine yC (by decide) (Nat.le_of_ble_eq_true rfl) ?_
  intro p e s m args below meth c D F hr hn
  refine x_aload_n F 0 dP_isFull_0 rfl rfl ?_
  refine x_get (ci := 2) F 4 (x_in inP) rfl (by decide) (x_m kfP_9) dP_isFull_1 h0 rfl ?_
  refine x_aload_n F 0 dP_isFull_4 rfl rfl ?_
  refine x_get (ci := 2) F 1 (x_in inP) rfl (by decide) (x_m kfP_25) dP_isFull_5 h0 rfl ?_
  refine x_alen F (v := nI (cap)) dP_isFull_8 h2 rfl ?_
  refine x_icmp_lt F (tgt := 16) dP_isFull_9 (by decide) (fun c1 => ?_) (fun c1 => ?_)
  · skip
    have c1 : n < cap := by
      exact (nI_ltI (a := n) (b := cap) (by omega) (by omega)).mp c1
    refine x_iconst F (v := nI (0)) dP_isFull_16 (by decide) ?_
    exact x_zret F hr (by rfl) dP_isFull_17 (x_f (by simp; omega))
  · skip
    have c1 : cap ≤ n := by
      have z : ¬ (n < cap) := fun q => c1 ((nI_ltI (a := n) (b := cap) (by omega) (by omega)).mpr q)
      omega
    refine x_iconst F (v := nI (1)) dP_isFull_12 (by decide) ?_
    refine x_goto F (tgt := 17) dP_isFull_13 (by decide) ?_
    exact x_zret F hr (by rfl) dP_isFull_17 (x_t (by simp; omega))
set_option maxHeartbeats 4000000 in
set_option maxRecDepth 100000 in
theorem cP_has (l : Launch) (nx : Nat) (M : xH) (a cap : Nat) (ed : Nat → Int32) (cd : Nat → Int64) (mk : Nat → Int32) (ot : Nat → Int64) (n : Nat) (hT : pAt M a cap ed cd mk ot n) (j : Nat) (hj : j < n) : xC l xcl yP_has (xw (Cond.code yP_has bP_has 2 (some .boolean))) ({ frames := 0, cells := 0, slots := 0, locals := 0 } : Room) [.ref (a), .int (nI (j))] nx M (x_is (some (.int (nI (1)))) nx M) := by
  obtain ⟨h0, h1, h2, h3, h4, hz, hcp⟩ := id hT
  refine yC (by decide) (Nat.le_of_ble_eq_true rfl) ?_
  intro p e s m args below meth c D F hr hn
  refine x_iload_n F 1 dP_has_0 rfl rfl ?_
  refine x_if_lt F (tgt := 25) dP_has_1 (by decide) (fun c1 => ?_) (fun c1 => ?_)
  · skip
    have c1 : j < 0 := by
      exact (nI_ltI (a := j) (b := 0) (by omega) (by omega)).mp c1
    exact absurd c1 (by omega)
  · skip
    have c1 : 0 ≤ j := by
      have z : ¬ (j < 0) := fun q => c1 ((nI_ltI (a := j) (b := 0) (by omega) (by omega)).mpr q)
      omega
    refine x_iload_n F 1 dP_has_4 rfl rfl ?_
    refine x_aload_n F 0 dP_has_5 rfl rfl ?_
    refine x_get (ci := 2) F 4 (x_in inP) rfl (by decide) (x_m kfP_9) dP_has_6 h0 rfl ?_
    refine x_icmp_ge F (tgt := 25) dP_has_9 (by decide) (fun c2 => ?_) (fun c2 => ?_)
    · skip
      have c2 : n ≤ j := by
        exact (nI_leI (a := n) (b := j) (by omega) (by omega)).mp c2
      exact absurd c2 (by omega)
    · skip
      have c2 : j < n := by
        have z : ¬ (n ≤ j) := fun q => c2 ((nI_leI (a := n) (b := j) (by omega) (by omega)).mpr q)
        omega
      refine x_iload_n F 1 dP_has_12 rfl rfl ?_
      refine x_aload_n F 0 dP_has_13 rfl rfl ?_
      refine x_get (ci := 2) F 1 (x_in inP) rfl (by decide) (x_m kfP_25) dP_has_14 h0 rfl ?_
      refine x_alen F (v := nI (cap)) dP_has_17 h2 rfl ?_
      refine x_icmp_ge F (tgt := 25) dP_has_18 (by decide) (fun c3 => ?_) (fun c3 => ?_)
      · skip
        have c3 : cap ≤ j := by
          exact (nI_leI (a := cap) (b := j) (by omega) (by omega)).mp c3
        exact absurd c3 (by omega)
      · skip
        have c3 : j < cap := by
          have z : ¬ (cap ≤ j) := fun q => c3 ((nI_leI (a := cap) (b := j) (by omega) (by omega)).mpr q)
          omega
        refine x_iconst F (v := nI (1)) dP_has_21 (by decide) ?_
        refine x_goto F (tgt := 26) dP_has_22 (by decide) ?_
        exact x_zret F hr (by rfl) dP_has_26 (x_is_i _ _ _)
set_option maxHeartbeats 4000000 in
set_option maxRecDepth 100000 in
theorem cP_hasN (l : Launch) (nx : Nat) (M : xH) (a cap : Nat) (ed : Nat → Int32) (cd : Nat → Int64) (mk : Nat → Int32) (ot : Nat → Int64) (n : Nat) (hT : pAt M a cap ed cd mk ot n) (i : Int32) (hi : ¬ vp_in i n) : xC l xcl yP_has (xw (Cond.code yP_has bP_has 2 (some .boolean))) ({ frames := 0, cells := 0, slots := 0, locals := 0 } : Room) [.ref (a), .int (i)] nx M (x_is (some (.int (nI (0)))) nx M) := by
  obtain ⟨h0, h1, h2, h3, h4, hz, hcp⟩ := id hT
  refine yC (by decide) (Nat.le_of_ble_eq_true rfl) ?_
  intro p e s m args below meth c D F hr hn
  refine x_iload_n F 1 dP_has_0 rfl rfl ?_
  refine x_if_lt F (tgt := 25) dP_has_1 (by decide) (fun c1 => ?_) (fun c1 => ?_)
  · skip
    refine x_iconst F (v := nI (0)) dP_has_25 (by decide) ?_
    exact x_zret F hr (by rfl) dP_has_26 (x_is_i _ _ _)
  · skip
    refine x_iload_n F 1 dP_has_4 rfl rfl ?_
    refine x_aload_n F 0 dP_has_5 rfl rfl ?_
    refine x_get (ci := 2) F 4 (x_in inP) rfl (by decide) (x_m kfP_9) dP_has_6 h0 rfl ?_
    refine x_icmp_ge F (tgt := 25) dP_has_9 (by decide) (fun c2 => ?_) (fun c2 => ?_)
    · skip
      refine x_iconst F (v := nI (0)) dP_has_25 (by decide) ?_
      exact x_zret F hr (by rfl) dP_has_26 (x_is_i _ _ _)
    · skip
      exact absurd (x_out (by omega) hi c1 c2) id
set_option maxHeartbeats 4000000 in
set_option maxRecDepth 100000 in
theorem cP_markAt (l : Launch) (nx : Nat) (M : xH) (a cap : Nat) (ed : Nat → Int32) (cd : Nat → Int64) (mk : Nat → Int32) (ot : Nat → Int64) (n : Nat) (hT : pAt M a cap ed cd mk ot n) (j : Nat) (hj : j < n) : xC l xcl yP_markAt (xw (Cond.code yP_markAt bP_markAt 2 (some .int))) ({ frames := 1, cells := 0, slots := 0, locals := 21 } : Room) [.ref (a), .int (nI (j))] nx M (x_is (some (.int ((mk) (j)))) nx M) := by
  obtain ⟨h0, h1, h2, h3, h4, hz, hcp⟩ := id hT
  refine yC (by decide) (Nat.le_of_ble_eq_true rfl) ?_
  intro p e s m args below meth c D F hr hn
  refine x_aload_n F 0 dP_markAt_0 rfl rfl ?_
  refine x_iload_n F 1 dP_markAt_1 rfl rfl ?_
  refine yV (n := 1) (As := [.int (nI (j))]) (ci := 2) F kmP_43 kiP_has ksP_has knP kcP_has (by decide +kernel) dP_markAt_2 (cP_has l (nx) M (a) cap ed cd mk ot n hT j hj) rfl h0 rfl rfl (Nat.le_of_ble_eq_true rfl) ⟨Nat.le_of_ble_eq_true rfl, Nat.le_of_ble_eq_true rfl⟩ ⟨Nat.le_of_ble_eq_true rfl, Nat.le_of_ble_eq_true rfl⟩ ?_
  refine x_if_eq F (tgt := 17) dP_markAt_5 (by decide) (fun c1 => ?_) (fun c1 => ?_)
  · skip
    have c1 : 1 = 0 := by
      exact (nI_eq (a := 1) (b := 0) (by omega) (by omega)).mp c1
    exact absurd c1 (by decide)
  · skip
    have c1 : 1 ≠ 0 := by
      have z : ¬ (1 = 0) := fun q => c1 ((nI_eq (a := 1) (b := 0) (by omega) (by omega)).mpr q)
      omega
    refine x_aload_n F 0 dP_markAt_8 rfl rfl ?_
    refine x_get (ci := 2) F 2 (x_in inP) rfl (by decide) (x_m kfP_29) dP_markAt_9 h0 rfl ?_
    refine x_iload_n F 1 dP_markAt_12 rfl rfl ?_
    refine x_iald F dP_markAt_13 h3 (pk_in (j) (cap) (by omega)) ?_
    refine xW.toi ((mk) (j)) (by rw [nI_clamp (by omega)]) ?_
    refine x_goto F (tgt := 18) dP_markAt_14 (by decide) ?_
    exact x_iret F hr dP_markAt_18 (x_is_i _ _ _)
set_option maxHeartbeats 4000000 in
set_option maxRecDepth 100000 in
theorem cP_markAtN (l : Launch) (nx : Nat) (M : xH) (a cap : Nat) (ed : Nat → Int32) (cd : Nat → Int64) (mk : Nat → Int32) (ot : Nat → Int64) (n : Nat) (hT : pAt M a cap ed cd mk ot n) (i : Int32) (hi : ¬ vp_in i n) : xC l xcl yP_markAt (xw (Cond.code yP_markAt bP_markAt 2 (some .int))) ({ frames := 1, cells := 0, slots := 0, locals := 21 } : Room) [.ref (a), .int (i)] nx M (x_is (some (.int ((-1)))) nx M) := by
  obtain ⟨h0, h1, h2, h3, h4, hz, hcp⟩ := id hT
  refine yC (by decide) (Nat.le_of_ble_eq_true rfl) ?_
  intro p e s m args below meth c D F hr hn
  refine x_aload_n F 0 dP_markAt_0 rfl rfl ?_
  refine x_iload_n F 1 dP_markAt_1 rfl rfl ?_
  refine yV (n := 1) (As := [.int (i)]) (ci := 2) F kmP_43 kiP_has ksP_has knP kcP_has (by decide +kernel) dP_markAt_2 (cP_hasN l (nx) M (a) cap ed cd mk ot n hT i hi) rfl h0 rfl rfl (Nat.le_of_ble_eq_true rfl) ⟨Nat.le_of_ble_eq_true rfl, Nat.le_of_ble_eq_true rfl⟩ ⟨Nat.le_of_ble_eq_true rfl, Nat.le_of_ble_eq_true rfl⟩ ?_
  refine x_if_eq F (tgt := 17) dP_markAt_5 (by decide) (fun c1 => ?_) (fun c1 => ?_)
  · skip
    have c1 : 0 = 0 := by
      exact (nI_eq (a := 0) (b := 0) (by omega) (by omega)).mp c1
    refine x_iconst F (v := (-1)) dP_markAt_17 (by decide) ?_
    exact x_iret F hr dP_markAt_18 (x_is_i _ _ _)
  · skip
    have c1 : 0 ≠ 0 := by
      have z : ¬ (0 = 0) := fun q => c1 ((nI_eq (a := 0) (b := 0) (by omega) (by omega)).mpr q)
      omega
    exact absurd c1 (by decide)
set_option maxHeartbeats 4000000 in
set_option maxRecDepth 100000 in
theorem cP_otherAt (l : Launch) (nx : Nat) (M : xH) (a cap : Nat) (ed : Nat → Int32) (cd : Nat → Int64) (mk : Nat → Int32) (ot : Nat → Int64) (n : Nat) (hT : pAt M a cap ed cd mk ot n) (j : Nat) (hj : j < n) : xC l xcl yP_otherAt (xw (Cond.code yP_otherAt bP_otherAt 2 (some .long))) ({ frames := 1, cells := 0, slots := 0, locals := 21 } : Room) [.ref (a), .int (nI (j))] nx M (x_is (some (.long ((ot) (j)))) nx M) := by
  obtain ⟨h0, h1, h2, h3, h4, hz, hcp⟩ := id hT
  refine yC (by decide) (Nat.le_of_ble_eq_true rfl) ?_
  intro p e s m args below meth c D F hr hn
  refine x_aload_n F 0 dP_otherAt_0 rfl rfl ?_
  refine x_iload_n F 1 dP_otherAt_1 rfl rfl ?_
  refine yV (n := 1) (As := [.int (nI (j))]) (ci := 2) F kmP_43 kiP_has ksP_has knP kcP_has (by decide +kernel) dP_otherAt_2 (cP_has l (nx) M (a) cap ed cd mk ot n hT j hj) rfl h0 rfl rfl (Nat.le_of_ble_eq_true rfl) ⟨Nat.le_of_ble_eq_true rfl, Nat.le_of_ble_eq_true rfl⟩ ⟨Nat.le_of_ble_eq_true rfl, Nat.le_of_ble_eq_true rfl⟩ ?_
  refine x_if_eq F (tgt := 17) dP_otherAt_5 (by decide) (fun c1 => ?_) (fun c1 => ?_)
  · skip
    have c1 : 1 = 0 := by
      exact (nI_eq (a := 1) (b := 0) (by omega) (by omega)).mp c1
    exact absurd c1 (by decide)
  · skip
    have c1 : 1 ≠ 0 := by
      have z : ¬ (1 = 0) := fun q => c1 ((nI_eq (a := 1) (b := 0) (by omega) (by omega)).mpr q)
      omega
    refine x_aload_n F 0 dP_otherAt_8 rfl rfl ?_
    refine x_get (ci := 2) F 3 (x_in inP) rfl (by decide) (x_m kfP_32) dP_otherAt_9 h0 rfl ?_
    refine x_iload_n F 1 dP_otherAt_12 rfl rfl ?_
    refine x_lald F dP_otherAt_13 h4 (pk_in (j) (cap) (by omega)) ?_
    refine xW.tol ((ot) (j)) (by rw [nI_clamp (by omega)]) ?_
    refine x_goto F (tgt := 18) dP_otherAt_14 (by decide) ?_
    exact x_lret F hr dP_otherAt_18 (x_is_i _ _ _)
set_option maxHeartbeats 4000000 in
set_option maxRecDepth 100000 in
theorem cP_otherAtN (l : Launch) (nx : Nat) (M : xH) (a cap : Nat) (ed : Nat → Int32) (cd : Nat → Int64) (mk : Nat → Int32) (ot : Nat → Int64) (n : Nat) (hT : pAt M a cap ed cd mk ot n) (i : Int32) (hi : ¬ vp_in i n) : xC l xcl yP_otherAt (xw (Cond.code yP_otherAt bP_otherAt 2 (some .long))) ({ frames := 1, cells := 0, slots := 0, locals := 21 } : Room) [.ref (a), .int (i)] nx M (x_is (some (.long (0))) nx M) := by
  obtain ⟨h0, h1, h2, h3, h4, hz, hcp⟩ := id hT
  refine yC (by decide) (Nat.le_of_ble_eq_true rfl) ?_
  intro p e s m args below meth c D F hr hn
  refine x_aload_n F 0 dP_otherAt_0 rfl rfl ?_
  refine x_iload_n F 1 dP_otherAt_1 rfl rfl ?_
  refine yV (n := 1) (As := [.int (i)]) (ci := 2) F kmP_43 kiP_has ksP_has knP kcP_has (by decide +kernel) dP_otherAt_2 (cP_hasN l (nx) M (a) cap ed cd mk ot n hT i hi) rfl h0 rfl rfl (Nat.le_of_ble_eq_true rfl) ⟨Nat.le_of_ble_eq_true rfl, Nat.le_of_ble_eq_true rfl⟩ ⟨Nat.le_of_ble_eq_true rfl, Nat.le_of_ble_eq_true rfl⟩ ?_
  refine x_if_eq F (tgt := 17) dP_otherAt_5 (by decide) (fun c1 => ?_) (fun c1 => ?_)
  · skip
    have c1 : 0 = 0 := by
      exact (nI_eq (a := 0) (b := 0) (by omega) (by omega)).mp c1
    refine x_lconst F (v := 0) dP_otherAt_17 (by decide) ?_
    exact x_lret F hr dP_otherAt_18 (x_is_i _ _ _)
  · skip
    have c1 : 0 ≠ 0 := by
      have z : ¬ (0 = 0) := fun q => c1 ((nI_eq (a := 0) (b := 0) (by omega) (by omega)).mpr q)
      omega
    exact absurd c1 (by decide)
set_option maxHeartbeats 4000000 in
set_option maxRecDepth 100000 in
theorem cP_matches (l : Launch) (nx : Nat) (M : xH) (a cap : Nat) (ed : Nat → Int32) (cd : Nat → Int64) (mk : Nat → Int32) (ot : Nat → Int64) (n : Nat) (hT : pAt M a cap ed cd mk ot n) (j : Nat) (hj : j < n) (ee : Int32) (co : Int64) (mm : Int32) : xC l xcl yP_matches (xw (Cond.code yP_matches bP_matches 6 (some .boolean))) ({ frames := 1, cells := 0, slots := 0, locals := 21 } : Room) [.ref (a), .int (nI (j)), .int (ee), .long (co), .int (mm)] nx M (x_is (some (.int (bI (pMt ed cd mk ee co mm j)))) nx M) := by
  obtain ⟨h0, h1, h2, h3, h4, hz, hcp⟩ := id hT
  refine yC (by decide) (Nat.le_of_ble_eq_true rfl) ?_
  intro p e s m args below meth c D F hr hn
  refine x_aload_n F 0 dP_matches_0 rfl rfl ?_
  refine x_iload_n F 1 dP_matches_1 rfl rfl ?_
  refine yV (n := 1) (As := [.int (nI (j))]) (ci := 2) F kmP_43 kiP_has ksP_has knP kcP_has (by decide +kernel) dP_matches_2 (cP_has l (nx) M (a) cap ed cd mk ot n hT j hj) rfl h0 rfl rfl (Nat.le_of_ble_eq_true rfl) ⟨Nat.le_of_ble_eq_true rfl, Nat.le_of_ble_eq_true rfl⟩ ⟨Nat.le_of_ble_eq_true rfl, Nat.le_of_ble_eq_true rfl⟩ ?_
  refine x_if_eq F (tgt := 50) dP_matches_5 (by decide) (fun c1 => ?_) (fun c1 => ?_)
  · skip
    have c1 : 1 = 0 := by
      exact (nI_eq (a := 1) (b := 0) (by omega) (by omega)).mp c1
    exact absurd c1 (by decide)
  · skip
    have c1 : 1 ≠ 0 := by
      have z : ¬ (1 = 0) := fun q => c1 ((nI_eq (a := 1) (b := 0) (by omega) (by omega)).mpr q)
      omega
    refine x_aload_n F 0 dP_matches_8 rfl rfl ?_
    refine x_get (ci := 2) F 0 (x_in inP) rfl (by decide) (x_m kfP_21) dP_matches_9 h0 rfl ?_
    refine x_iload_n F 1 dP_matches_12 rfl rfl ?_
    refine x_iald F dP_matches_13 h1 (pk_in (j) (cap) (by omega)) ?_
    refine xW.toi ((ed) (j)) (by rw [nI_clamp (by omega)]) ?_
    refine x_iload_n F 2 dP_matches_14 rfl rfl ?_
    refine x_icmp_ne F (tgt := 50) dP_matches_15 (by decide) (fun c2 => ?_) (fun c2 => ?_)
    · skip
      refine x_iconst F (v := nI (0)) dP_matches_50 (by decide) ?_
      exact x_zret F hr (by rfl) dP_matches_51 (x_f (by simp_all [pMt]))
    · skip
      refine x_aload_n F 0 dP_matches_18 rfl rfl ?_
      refine x_get (ci := 2) F 1 (x_in inP) rfl (by decide) (x_m kfP_25) dP_matches_19 h0 rfl ?_
      refine x_iload_n F 1 dP_matches_22 rfl rfl ?_
      refine x_lald F dP_matches_23 h2 (pk_in (j) (cap) (by omega)) ?_
      refine xW.tol ((cd) (j)) (by rw [nI_clamp (by omega)]) ?_
      refine x_lload_n F 3 dP_matches_24 rfl rfl ?_
      refine x_lcmp F dP_matches_25 ?_
      refine x_if_ne F (tgt := 50) dP_matches_26 (by decide) (fun c3 => ?_) (fun c3 => ?_)
      · skip
        have c3 : ¬ (cd) (j) = co := fun z => c3 ((lg_cmp_eq ((cd) (j)) (co)).mpr z)
        refine x_iconst F (v := nI (0)) dP_matches_50 (by decide) ?_
        exact x_zret F hr (by rfl) dP_matches_51 (x_f (by simp_all [pMt]))
      · skip
        have c3 : (cd) (j) = co := (lg_cmp_eq ((cd) (j)) (co)).mp c3
        refine x_iload F 4 dP_matches_29 rfl ?_
        refine x_iconst F (v := (-1)) dP_matches_31 (by decide) ?_
        refine x_icmp_eq F (tgt := 46) dP_matches_32 (by decide) (fun c4 => ?_) (fun c4 => ?_)
        · skip
          refine x_iconst F (v := nI (1)) dP_matches_46 (by decide) ?_
          refine x_goto F (tgt := 51) dP_matches_47 (by decide) ?_
          exact x_zret F hr (by rfl) dP_matches_51 (x_t (by simp_all [pMt]))
        · skip
          refine x_aload_n F 0 dP_matches_35 rfl rfl ?_
          refine x_get (ci := 2) F 2 (x_in inP) rfl (by decide) (x_m kfP_29) dP_matches_36 h0 rfl ?_
          refine x_iload_n F 1 dP_matches_39 rfl rfl ?_
          refine x_iald F dP_matches_40 h3 (pk_in (j) (cap) (by omega)) ?_
          refine xW.toi ((mk) (j)) (by rw [nI_clamp (by omega)]) ?_
          refine x_iload F 4 dP_matches_41 rfl ?_
          refine x_icmp_ne F (tgt := 50) dP_matches_43 (by decide) (fun c5 => ?_) (fun c5 => ?_)
          · skip
            refine x_iconst F (v := nI (0)) dP_matches_50 (by decide) ?_
            exact x_zret F hr (by rfl) dP_matches_51 (x_f (by simp_all [pMt]))
          · skip
            refine x_iconst F (v := nI (1)) dP_matches_46 (by decide) ?_
            refine x_goto F (tgt := 51) dP_matches_47 (by decide) ?_
            exact x_zret F hr (by rfl) dP_matches_51 (x_t (by simp_all [pMt]))
set_option maxHeartbeats 4000000 in
set_option maxRecDepth 100000 in
theorem cP_holds (l : Launch) (nx : Nat) (M : xH) (a cap : Nat) (ed : Nat → Int32) (cd : Nat → Int64) (mk : Nat → Int32) (ot : Nat → Int64) (n : Nat) (hT : pAt M a cap ed cd mk ot n) (ee : Int32) (co : Int64) (mm : Int32) (oo : Int64) : xC l xcl yP_holds (xw (Cond.code yP_holds bP_holds 8 (some .boolean))) ({ frames := 2, cells := 0, slots := 0, locals := 46 } : Room) [.ref (a), .int (ee), .long (co), .int (mm), .long (oo)] nx M (x_is (some (.int (bI ((fi (fun j => decide (ot j = oo) && pMt ed cd mk ee co mm j) n 0).isSome)))) nx M) := by
  obtain ⟨h0, h1, h2, h3, h4, hz, hcp⟩ := id hT
  refine yC (by decide) (Nat.le_of_ble_eq_true rfl) ?_
  intro p e s m args below meth c D F hr hn
  have loop : ∀ (k : Nat) (i : Nat), i + k = n → fi (fun j => decide (ot j = oo) && pMt ed cd mk ee co mm j) n 0 = fi (fun j => decide (ot j = oo) && pMt ed cd mk ee co mm j) k i → xW p l e ({ frames := 2, cells := 0, slots := 0, locals := 46 } : Room) s m args below meth c D xcl (x_A M nx) 8 (MQ below (x_Q D xcl (x_A M nx) (x_is (some (.int (bI ((fi (fun j => decide (ot j = oo) && pMt ed cd mk ee co mm j) n 0).isSome)))) nx M)) args s 0 0 (x_A M nx)) 0 0 (nx) M 3 [(7, .int (nI (i))), (0, .ref (a)), (1, .int (ee)), (2, .long (co)), (4, .int (mm)), (5, .long (oo))] [] := by
    intro k
    induction k with
    | zero =>
      intro i hi hf
      refine x_iload F 0 dP_holds_3 rfl ?_
      refine x_aload_n F 1 dP_holds_5 rfl rfl ?_
      refine x_get (ci := 2) F 4 (x_in inP) rfl (by decide) (x_m kfP_9) dP_holds_6 h0 rfl ?_
      refine x_icmp_ge F (tgt := 46) dP_holds_9 (by decide) (fun c1 => ?_) (fun c1 => ?_)
      · skip
        have c1 : n ≤ i := by
          exact (nI_leI (a := n) (b := i) (by omega) (by omega)).mp c1
        refine x_iconst F (v := nI (0)) dP_holds_46 (by decide) ?_
        exact x_zret F hr (by rfl) dP_holds_47 (x_f (by rw [hf]; rfl))
      · skip
        have c1 : i < n := by
          have z : ¬ (n ≤ i) := fun q => c1 ((nI_leI (a := n) (b := i) (by omega) (by omega)).mpr q)
          omega
        exact absurd c1 (by omega)
    | succ k ih =>
      intro i hi hf
      refine x_iload F 0 dP_holds_3 rfl ?_
      refine x_aload_n F 1 dP_holds_5 rfl rfl ?_
      refine x_get (ci := 2) F 4 (x_in inP) rfl (by decide) (x_m kfP_9) dP_holds_6 h0 rfl ?_
      refine x_icmp_ge F (tgt := 46) dP_holds_9 (by decide) (fun c2 => ?_) (fun c2 => ?_)
      · skip
        have c2 : n ≤ i := by
          exact (nI_leI (a := n) (b := i) (by omega) (by omega)).mp c2
        exact absurd c2 (by omega)
      · skip
        have c2 : i < n := by
          have z : ¬ (n ≤ i) := fun q => c2 ((nI_leI (a := n) (b := i) (by omega) (by omega)).mpr q)
          omega
        refine x_aload_n F 1 dP_holds_12 rfl rfl ?_
        refine x_get (ci := 2) F 3 (x_in inP) rfl (by decide) (x_m kfP_32) dP_holds_13 h0 rfl ?_
        refine x_iload F 0 dP_holds_16 rfl ?_
        refine x_lald F dP_holds_18 h4 (pk_in (i) (cap) (by omega)) ?_
        refine xW.tol ((ot) (i)) (by rw [nI_clamp (by omega)]) ?_
        refine x_lload F 5 dP_holds_19 rfl ?_
        refine x_lcmp F dP_holds_21 ?_
        refine x_if_ne F (tgt := 40) dP_holds_22 (by decide) (fun c3 => ?_) (fun c3 => ?_)
        · skip
          have c3 : ¬ (ot) (i) = oo := fun z => c3 ((lg_cmp_eq ((ot) (i)) (oo)).mpr z)
          refine x_iinc F 0 [(7, .int (nI (i + 1))), (0, .ref (a)), (1, .int (ee)), (2, .long (co)), (4, .int (mm)), (5, .long (oo))] dP_holds_40 rfl (nI_add (i) 1) (by decide) rfl ?_
          refine x_goto F (tgt := 3) dP_holds_43 (by decide) ?_
          exact ih (i + 1) (by omega) (by rw [hf, fi_s, if_neg (by simp_all)])
        · skip
          have c3 : (ot) (i) = oo := (lg_cmp_eq ((ot) (i)) (oo)).mp c3
          refine x_aload_n F 1 dP_holds_25 rfl rfl ?_
          refine x_iload F 0 dP_holds_26 rfl ?_
          refine x_iload_n F 2 dP_holds_28 rfl rfl ?_
          refine x_lload_n F 3 dP_holds_29 rfl rfl ?_
          refine x_iload F 4 dP_holds_30 rfl ?_
          refine yV (n := 4) (As := [.int (nI (i)), .int (ee), .long (co), .int (mm)]) (ci := 2) F kmP_35 kiP_matches ksP_matches knP kcP_matches (by decide +kernel) dP_holds_32 (cP_matches l (nx) M (a) cap ed cd mk ot n hT i (by omega) ee co mm) rfl h0 rfl rfl (Nat.le_of_ble_eq_true rfl) ⟨Nat.le_of_ble_eq_true rfl, Nat.le_of_ble_eq_true rfl⟩ ⟨Nat.le_of_ble_eq_true rfl, Nat.le_of_ble_eq_true rfl⟩ ?_
          refine x_if_eq F (tgt := 40) dP_holds_35 (by decide) (fun c4 => ?_) (fun c4 => ?_)
          · skip
            have c4 : pMt ed cd mk ee co mm i = false := bI_0 c4
            refine x_iinc F 0 [(7, .int (nI (i + 1))), (0, .ref (a)), (1, .int (ee)), (2, .long (co)), (4, .int (mm)), (5, .long (oo))] dP_holds_40 rfl (nI_add (i) 1) (by decide) rfl ?_
            refine x_goto F (tgt := 3) dP_holds_43 (by decide) ?_
            exact ih (i + 1) (by omega) (by rw [hf, fi_s, if_neg (by simp_all)])
          · skip
            have c4 : pMt ed cd mk ee co mm i = true := bI_1 c4
            refine x_iconst F (v := nI (1)) dP_holds_38 (by decide) ?_
            exact x_zret F hr (by rfl) dP_holds_39 (x_t (by rw [hf, fi_s, if_pos (by simp [c3, c4])]; rfl))
  refine x_iconst F (v := nI (0)) dP_holds_0 (by decide) ?_
  refine x_istore F [(7, .int (nI (0))), (0, .ref (a)), (1, .int (ee)), (2, .long (co)), (4, .int (mm)), (5, .long (oo))] dP_holds_1 (by decide) rfl ?_
  exact loop n 0 (by omega) rfl
set_option maxHeartbeats 4000000 in
set_option maxRecDepth 100000 in
theorem cP_nth (l : Launch) (nx : Nat) (M : xH) (a cap : Nat) (ed : Nat → Int32) (cd : Nat → Int64) (mk : Nat → Int32) (ot : Nat → Int64) (n : Nat) (hT : pAt M a cap ed cd mk ot n) (ee : Int32) (co : Int64) (mm : Int32) (x : Int32) : xC l xcl yP_nth (xw (Cond.code yP_nth bP_nth 8 (some .int))) ({ frames := 2, cells := 0, slots := 0, locals := 46 } : Room) [.ref (a), .int (ee), .long (co), .int (mm), .int (x)] nx M (x_is (some (.int (oi (nt (pMt ed cd mk ee co mm) x n 0 0)))) nx M) := by
  obtain ⟨h0, h1, h2, h3, h4, hz, hcp⟩ := id hT
  refine yC (by decide) (Nat.le_of_ble_eq_true rfl) ?_
  intro p e s m args below meth c D F hr hn
  have loop : ∀ (k : Nat) (i q : Nat), i + k = n → q ≤ i → nt (pMt ed cd mk ee co mm) x n 0 0 = nt (pMt ed cd mk ee co mm) x k i q → xW p l e ({ frames := 2, cells := 0, slots := 0, locals := 46 } : Room) s m args below meth c D xcl (x_A M nx) 8 (MQ below (x_Q D xcl (x_A M nx) (x_is (some (.int (oi (nt (pMt ed cd mk ee co mm) x n 0 0)))) nx M)) args s 0 0 (x_A M nx)) 0 0 (nx) M 6 [(7, .int (nI (i))), (6, .int (nI (q))), (0, .ref (a)), (1, .int (ee)), (2, .long (co)), (4, .int (mm)), (5, .int (x))] [] := by
    intro k
    induction k with
    | zero =>
      intro i q hi hq hf
      refine x_iload F 0 dP_nth_6 rfl ?_
      refine x_aload_n F 2 dP_nth_8 rfl rfl ?_
      refine x_get (ci := 2) F 4 (x_in inP) rfl (by decide) (x_m kfP_9) dP_nth_9 h0 rfl ?_
      refine x_icmp_ge F (tgt := 47) dP_nth_12 (by decide) (fun c1 => ?_) (fun c1 => ?_)
      · skip
        have c1 : n ≤ i := by
          exact (nI_leI (a := n) (b := i) (by omega) (by omega)).mp c1
        refine x_iconst F (v := (-1)) dP_nth_47 (by decide) ?_
        exact x_iret F hr dP_nth_48 (x_e (by rw [hf]; rfl))
      · skip
        have c1 : i < n := by
          have z : ¬ (n ≤ i) := fun q => c1 ((nI_leI (a := n) (b := i) (by omega) (by omega)).mpr q)
          omega
        exact absurd c1 (by omega)
    | succ k ih =>
      intro i q hi hq hf
      refine x_iload F 0 dP_nth_6 rfl ?_
      refine x_aload_n F 2 dP_nth_8 rfl rfl ?_
      refine x_get (ci := 2) F 4 (x_in inP) rfl (by decide) (x_m kfP_9) dP_nth_9 h0 rfl ?_
      refine x_icmp_ge F (tgt := 47) dP_nth_12 (by decide) (fun c2 => ?_) (fun c2 => ?_)
      · skip
        have c2 : n ≤ i := by
          exact (nI_leI (a := n) (b := i) (by omega) (by omega)).mp c2
        exact absurd c2 (by omega)
      · skip
        have c2 : i < n := by
          have z : ¬ (n ≤ i) := fun q => c2 ((nI_leI (a := n) (b := i) (by omega) (by omega)).mpr q)
          omega
        refine x_aload_n F 2 dP_nth_15 rfl rfl ?_
        refine x_iload F 0 dP_nth_16 rfl ?_
        refine x_iload_n F 3 dP_nth_18 rfl rfl ?_
        refine x_lload_n F 4 dP_nth_19 rfl rfl ?_
        refine x_iload F 5 dP_nth_20 rfl ?_
        refine yV (n := 4) (As := [.int (nI (i)), .int (ee), .long (co), .int (mm)]) (ci := 2) F kmP_35 kiP_matches ksP_matches knP kcP_matches (by decide +kernel) dP_nth_22 (cP_matches l (nx) M (a) cap ed cd mk ot n hT i (by omega) ee co mm) rfl h0 rfl rfl (Nat.le_of_ble_eq_true rfl) ⟨Nat.le_of_ble_eq_true rfl, Nat.le_of_ble_eq_true rfl⟩ ⟨Nat.le_of_ble_eq_true rfl, Nat.le_of_ble_eq_true rfl⟩ ?_
        refine x_if_eq F (tgt := 41) dP_nth_25 (by decide) (fun c3 => ?_) (fun c3 => ?_)
        · skip
          have c3 : pMt ed cd mk ee co mm i = false := bI_0 c3
          refine x_iinc F 0 [(7, .int (nI (i + 1))), (6, .int (nI (q))), (0, .ref (a)), (1, .int (ee)), (2, .long (co)), (4, .int (mm)), (5, .int (x))] dP_nth_41 rfl (nI_add (i) 1) (by decide) rfl ?_
          refine x_goto F (tgt := 6) dP_nth_44 (by decide) ?_
          exact ih (i + 1) q (by omega) (by omega) (by rw [hf, nt_s, if_neg (by simp [c3])])
        · skip
          have c3 : pMt ed cd mk ee co mm i = true := bI_1 c3
          refine x_iload F 1 dP_nth_28 rfl ?_
          refine x_iload F 6 dP_nth_30 rfl ?_
          refine x_icmp_ne F (tgt := 38) dP_nth_32 (by decide) (fun c4 => ?_) (fun c4 => ?_)
          · skip
            refine x_iinc F 1 [(6, .int (nI (q + 1))), (7, .int (nI (i))), (0, .ref (a)), (1, .int (ee)), (2, .long (co)), (4, .int (mm)), (5, .int (x))] dP_nth_38 rfl (nI_add (q) 1) (by decide) rfl ?_
            refine x_iinc F 1 [(7, .int (nI (i + 1))), (6, .int (nI (q + 1))), (0, .ref (a)), (1, .int (ee)), (2, .long (co)), (4, .int (mm)), (5, .int (x))] dP_nth_41 rfl (nI_add (i) 1) (by decide) rfl ?_
            refine x_goto F (tgt := 6) dP_nth_44 (by decide) ?_
            exact ih (i + 1) (q + 1) (by omega) (by omega) (by rw [hf, nt_s, if_pos c3, if_neg c4])
          · skip
            refine x_iload F 0 dP_nth_35 rfl ?_
            exact x_iret F hr dP_nth_37 (x_e (by rw [hf, nt_s, if_pos c3, if_pos c4]; rfl))
  refine x_iconst F (v := nI (0)) dP_nth_0 (by decide) ?_
  refine x_istore F [(6, .int (nI (0))), (0, .ref (a)), (1, .int (ee)), (2, .long (co)), (4, .int (mm)), (5, .int (x))] dP_nth_1 (by decide) rfl ?_
  refine x_iconst F (v := nI (0)) dP_nth_3 (by decide) ?_
  refine x_istore F [(7, .int (nI (0))), (6, .int (nI (0))), (0, .ref (a)), (1, .int (ee)), (2, .long (co)), (4, .int (mm)), (5, .int (x))] dP_nth_4 (by decide) rfl ?_
  exact loop n 0 0 (by omega) (by omega) rfl
set_option maxHeartbeats 4000000 in
set_option maxRecDepth 100000 in
theorem cP_sizeFrom (l : Launch) (nx : Nat) (M : xH) (a cap : Nat) (ed : Nat → Int32) (cd : Nat → Int64) (mk : Nat → Int32) (ot : Nat → Int64) (n : Nat) (hT : pAt M a cap ed cd mk ot n) (ee : Int32) : xC l xcl yP_sizeFrom (xw (Cond.code yP_sizeFrom bP_sizeFrom 4 (some .int))) ({ frames := 0, cells := 0, slots := 0, locals := 0 } : Room) [.ref (a), .int (ee)] nx M (x_is (some (.int (nI (ct (fun j => decide (ed j = ee)) n 0 0)))) nx M) := by
  obtain ⟨h0, h1, h2, h3, h4, hz, hcp⟩ := id hT
  refine yC (by decide) (Nat.le_of_ble_eq_true rfl) ?_
  intro p e s m args below meth c D F hr hn
  have loop : ∀ (k : Nat) (i q : Nat), i + k = n → q ≤ i → ct (fun j => decide (ed j = ee)) n 0 0 = ct (fun j => decide (ed j = ee)) k i q → xW p l e ({ frames := 0, cells := 0, slots := 0, locals := 0 } : Room) s m args below meth c D xcl (x_A M nx) 4 (MQ below (x_Q D xcl (x_A M nx) (x_is (some (.int (nI (ct (fun j => decide (ed j = ee)) n 0 0)))) nx M)) args s 0 0 (x_A M nx)) 0 0 (nx) M 4 [(3, .int (nI (i))), (2, .int (nI (q))), (0, .ref (a)), (1, .int (ee))] [] := by
    intro k
    induction k with
    | zero =>
      intro i q hi hq hf
      refine x_iload_n F 0 dP_sizeFrom_4 rfl rfl ?_
      refine x_aload_n F 2 dP_sizeFrom_5 rfl rfl ?_
      refine x_get (ci := 2) F 4 (x_in inP) rfl (by decide) (x_m kfP_9) dP_sizeFrom_6 h0 rfl ?_
      refine x_icmp_ge F (tgt := 31) dP_sizeFrom_9 (by decide) (fun c1 => ?_) (fun c1 => ?_)
      · skip
        have c1 : n ≤ i := by
          exact (nI_leI (a := n) (b := i) (by omega) (by omega)).mp c1
        refine x_iload_n F 1 dP_sizeFrom_31 rfl rfl ?_
        exact x_iret F hr dP_sizeFrom_32 (x_e (by rw [hf]; rfl))
      · skip
        have c1 : i < n := by
          have z : ¬ (n ≤ i) := fun q => c1 ((nI_leI (a := n) (b := i) (by omega) (by omega)).mpr q)
          omega
        exact absurd c1 (by omega)
    | succ k ih =>
      intro i q hi hq hf
      refine x_iload_n F 0 dP_sizeFrom_4 rfl rfl ?_
      refine x_aload_n F 2 dP_sizeFrom_5 rfl rfl ?_
      refine x_get (ci := 2) F 4 (x_in inP) rfl (by decide) (x_m kfP_9) dP_sizeFrom_6 h0 rfl ?_
      refine x_icmp_ge F (tgt := 31) dP_sizeFrom_9 (by decide) (fun c2 => ?_) (fun c2 => ?_)
      · skip
        have c2 : n ≤ i := by
          exact (nI_leI (a := n) (b := i) (by omega) (by omega)).mp c2
        exact absurd c2 (by omega)
      · skip
        have c2 : i < n := by
          have z : ¬ (n ≤ i) := fun q => c2 ((nI_leI (a := n) (b := i) (by omega) (by omega)).mpr q)
          omega
        refine x_aload_n F 2 dP_sizeFrom_12 rfl rfl ?_
        refine x_get (ci := 2) F 0 (x_in inP) rfl (by decide) (x_m kfP_21) dP_sizeFrom_13 h0 rfl ?_
        refine x_iload_n F 0 dP_sizeFrom_16 rfl rfl ?_
        refine x_iald F dP_sizeFrom_17 h1 (pk_in (i) (cap) (by omega)) ?_
        refine xW.toi ((ed) (i)) (by rw [nI_clamp (by omega)]) ?_
        refine x_iload_n F 3 dP_sizeFrom_18 rfl rfl ?_
        refine x_icmp_ne F (tgt := 25) dP_sizeFrom_19 (by decide) (fun c3 => ?_) (fun c3 => ?_)
        · skip
          refine x_iinc F 0 [(3, .int (nI (i + 1))), (2, .int (nI (q))), (0, .ref (a)), (1, .int (ee))] dP_sizeFrom_25 rfl (nI_add (i) 1) (by decide) rfl ?_
          refine x_goto F (tgt := 4) dP_sizeFrom_28 (by decide) ?_
          exact ih (i + 1) _ (by omega) (by omega) (by rw [hf, ct_s, if_neg (by simpa using c3)])
        · skip
          refine x_iinc F 1 [(2, .int (nI (q + 1))), (3, .int (nI (i))), (0, .ref (a)), (1, .int (ee))] dP_sizeFrom_22 rfl (nI_add (q) 1) (by decide) rfl ?_
          refine x_iinc F 1 [(3, .int (nI (i + 1))), (2, .int (nI (q + 1))), (0, .ref (a)), (1, .int (ee))] dP_sizeFrom_25 rfl (nI_add (i) 1) (by decide) rfl ?_
          refine x_goto F (tgt := 4) dP_sizeFrom_28 (by decide) ?_
          exact ih (i + 1) _ (by omega) (by omega) (by rw [hf, ct_s, if_pos (by simpa using c3)])
  refine x_iconst F (v := nI (0)) dP_sizeFrom_0 (by decide) ?_
  refine x_istore_n F [(2, .int (nI (0))), (0, .ref (a)), (1, .int (ee))] dP_sizeFrom_1 rfl (by decide) rfl ?_
  refine x_iconst F (v := nI (0)) dP_sizeFrom_2 (by decide) ?_
  refine x_istore_n F [(3, .int (nI (0))), (2, .int (nI (0))), (0, .ref (a)), (1, .int (ee))] dP_sizeFrom_3 rfl (by decide) rfl ?_
  exact loop n 0 0 (by omega) (by omega) rfl
set_option maxHeartbeats 4000000 in
set_option maxRecDepth 100000 in
theorem cP_sizeTo (l : Launch) (nx : Nat) (M : xH) (a cap : Nat) (ed : Nat → Int32) (cd : Nat → Int64) (mk : Nat → Int32) (ot : Nat → Int64) (n : Nat) (hT : pAt M a cap ed cd mk ot n) (ee mm : Int32) (oo : Int64) : xC l xcl yP_sizeTo (xw (Cond.code yP_sizeTo bP_sizeTo 7 (some .int))) ({ frames := 0, cells := 0, slots := 0, locals := 0 } : Room) [.ref (a), .int (ee), .int (mm), .long (oo)] nx M (x_is (some (.int (nI (ct (fun j => decide (ed j = ee) && (decide (mk j = mm) && decide (ot j = oo))) n 0 0)))) nx M) := by
  obtain ⟨h0, h1, h2, h3, h4, hz, hcp⟩ := id hT
  refine yC (by decide) (Nat.le_of_ble_eq_true rfl) ?_
  intro p e s m args below meth c D F hr hn
  have loop : ∀ (k : Nat) (i q : Nat), i + k = n → q ≤ i → ct (fun j => decide (ed j = ee) && (decide (mk j = mm) && decide (ot j = oo))) n 0 0 = ct (fun j => decide (ed j = ee) && (decide (mk j = mm) && decide (ot j = oo))) k i q → xW p l e ({ frames := 0, cells := 0, slots := 0, locals := 0 } : Room) s m args below meth c D xcl (x_A M nx) 7 (MQ below (x_Q D xcl (x_A M nx) (x_is (some (.int (nI (ct (fun j => decide (ed j = ee) && (decide (mk j = mm) && decide (ot j = oo))) n 0 0)))) nx M)) args s 0 0 (x_A M nx)) 0 0 (nx) M 6 [(6, .int (nI (i))), (5, .int (nI (q))), (0, .ref (a)), (1, .int (ee)), (2, .int (mm)), (3, .long (oo))] [] := by
    intro k
    induction k with
    | zero =>
      intro i q hi hq hf
      refine x_iload F 0 dP_sizeTo_6 rfl ?_
      refine x_aload_n F 2 dP_sizeTo_8 rfl rfl ?_
      refine x_get (ci := 2) F 4 (x_in inP) rfl (by decide) (x_m kfP_9) dP_sizeTo_9 h0 rfl ?_
      refine x_icmp_ge F (tgt := 58) dP_sizeTo_12 (by decide) (fun c1 => ?_) (fun c1 => ?_)
      · skip
        have c1 : n ≤ i := by
          exact (nI_leI (a := n) (b := i) (by omega) (by omega)).mp c1
        refine x_iload F 1 dP_sizeTo_58 rfl ?_
        exact x_iret F hr dP_sizeTo_60 (x_e (by rw [hf]; rfl))
      · skip
        have c1 : i < n := by
          have z : ¬ (n ≤ i) := fun q => c1 ((nI_leI (a := n) (b := i) (by omega) (by omega)).mpr q)
          omega
        exact absurd c1 (by omega)
    | succ k ih =>
      intro i q hi hq hf
      refine x_iload F 0 dP_sizeTo_6 rfl ?_
      refine x_aload_n F 2 dP_sizeTo_8 rfl rfl ?_
      refine x_get (ci := 2) F 4 (x_in inP) rfl (by decide) (x_m kfP_9) dP_sizeTo_9 h0 rfl ?_
      refine x_icmp_ge F (tgt := 58) dP_sizeTo_12 (by decide) (fun c2 => ?_) (fun c2 => ?_)
      · skip
        have c2 : n ≤ i := by
          exact (nI_leI (a := n) (b := i) (by omega) (by omega)).mp c2
        exact absurd c2 (by omega)
      · skip
        have c2 : i < n := by
          have z : ¬ (n ≤ i) := fun q => c2 ((nI_leI (a := n) (b := i) (by omega) (by omega)).mpr q)
          omega
        refine x_aload_n F 2 dP_sizeTo_15 rfl rfl ?_
        refine x_get (ci := 2) F 0 (x_in inP) rfl (by decide) (x_m kfP_21) dP_sizeTo_16 h0 rfl ?_
        refine x_iload F 0 dP_sizeTo_19 rfl ?_
        refine x_iald F dP_sizeTo_21 h1 (pk_in (i) (cap) (by omega)) ?_
        refine xW.toi ((ed) (i)) (by rw [nI_clamp (by omega)]) ?_
        refine x_iload_n F 3 dP_sizeTo_22 rfl rfl ?_
        refine x_icmp_ne F (tgt := 52) dP_sizeTo_23 (by decide) (fun c3 => ?_) (fun c3 => ?_)
        · skip
          refine x_iinc F 0 [(6, .int (nI (i + 1))), (5, .int (nI (q))), (0, .ref (a)), (1, .int (ee)), (2, .int (mm)), (3, .long (oo))] dP_sizeTo_52 rfl (nI_add (i) 1) (by decide) rfl ?_
          refine x_goto F (tgt := 6) dP_sizeTo_55 (by decide) ?_
          exact ih (i + 1) _ (by omega) (by omega) (by rw [hf, ct_s, if_neg (by simp_all)])
        · skip
          refine x_aload_n F 2 dP_sizeTo_26 rfl rfl ?_
          refine x_get (ci := 2) F 2 (x_in inP) rfl (by decide) (x_m kfP_29) dP_sizeTo_27 h0 rfl ?_
          refine x_iload F 0 dP_sizeTo_30 rfl ?_
          refine x_iald F dP_sizeTo_32 h3 (pk_in (i) (cap) (by omega)) ?_
          refine xW.toi ((mk) (i)) (by rw [nI_clamp (by omega)]) ?_
          refine x_iload_n F 4 dP_sizeTo_33 rfl rfl ?_
          refine x_icmp_ne F (tgt := 52) dP_sizeTo_34 (by decide) (fun c4 => ?_) (fun c4 => ?_)
          · skip
            refine x_iinc F 0 [(6, .int (nI (i + 1))), (5, .int (nI (q))), (0, .ref (a)), (1, .int (ee)), (2, .int (mm)), (3, .long (oo))] dP_sizeTo_52 rfl (nI_add (i) 1) (by decide) rfl ?_
            refine x_goto F (tgt := 6) dP_sizeTo_55 (by decide) ?_
            exact ih (i + 1) _ (by omega) (by omega) (by rw [hf, ct_s, if_neg (by simp_all)])
          · skip
            refine x_aload_n F 2 dP_sizeTo_37 rfl rfl ?_
            refine x_get (ci := 2) F 3 (x_in inP) rfl (by decide) (x_m kfP_32) dP_sizeTo_38 h0 rfl ?_
            refine x_iload F 0 dP_sizeTo_41 rfl ?_
            refine x_lald F dP_sizeTo_43 h4 (pk_in (i) (cap) (by omega)) ?_
            refine xW.tol ((ot) (i)) (by rw [nI_clamp (by omega)]) ?_
            refine x_lload_n F 5 dP_sizeTo_44 rfl rfl ?_
            refine x_lcmp F dP_sizeTo_45 ?_
            refine x_if_ne F (tgt := 52) dP_sizeTo_46 (by decide) (fun c5 => ?_) (fun c5 => ?_)
            · skip
              have c5 : ¬ (ot) (i) = oo := fun z => c5 ((lg_cmp_eq ((ot) (i)) (oo)).mpr z)
              refine x_iinc F 0 [(6, .int (nI (i + 1))), (5, .int (nI (q))), (0, .ref (a)), (1, .int (ee)), (2, .int (mm)), (3, .long (oo))] dP_sizeTo_52 rfl (nI_add (i) 1) (by decide) rfl ?_
              refine x_goto F (tgt := 6) dP_sizeTo_55 (by decide) ?_
              exact ih (i + 1) _ (by omega) (by omega) (by rw [hf, ct_s, if_neg (by simp_all)])
            · skip
              have c5 : (ot) (i) = oo := (lg_cmp_eq ((ot) (i)) (oo)).mp c5
              refine x_iinc F 1 [(5, .int (nI (q + 1))), (6, .int (nI (i))), (0, .ref (a)), (1, .int (ee)), (2, .int (mm)), (3, .long (oo))] dP_sizeTo_49 rfl (nI_add (q) 1) (by decide) rfl ?_
              refine x_iinc F 1 [(6, .int (nI (i + 1))), (5, .int (nI (q + 1))), (0, .ref (a)), (1, .int (ee)), (2, .int (mm)), (3, .long (oo))] dP_sizeTo_52 rfl (nI_add (i) 1) (by decide) rfl ?_
              refine x_goto F (tgt := 6) dP_sizeTo_55 (by decide) ?_
              exact ih (i + 1) _ (by omega) (by omega) (by rw [hf, ct_s, if_pos (by simp_all)])
  refine x_iconst F (v := nI (0)) dP_sizeTo_0 (by decide) ?_
  refine x_istore F [(5, .int (nI (0))), (0, .ref (a)), (1, .int (ee)), (2, .int (mm)), (3, .long (oo))] dP_sizeTo_1 (by decide) rfl ?_
  refine x_iconst F (v := nI (0)) dP_sizeTo_3 (by decide) ?_
  refine x_istore F [(6, .int (nI (0))), (5, .int (nI (0))), (0, .ref (a)), (1, .int (ee)), (2, .int (mm)), (3, .long (oo))] dP_sizeTo_4 (by decide) rfl ?_
  exact loop n 0 0 (by omega) (by omega) rfl
