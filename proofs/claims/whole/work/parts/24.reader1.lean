/-! TextReader at a: signs at a + 1, words at a + 2; the text: n signs tx; c words read; its place; the failure -/
def rAt (M : xH) (a : Nat) (sg : Nat → Int32) (wd : Nat → Int64) (c n q : Nat) (fk fp : Int32) : Prop :=
  M a = some (.inr (3, [.ref (a + 1), .ref (a + 2), .int (nI c), .int (nI n), .int (nI q), .int fk, .int fp])) ∧ M (a + 1) = some (.inl (.char, 400, .inl sg)) ∧ M (a + 2) = some (.inl (.long, 6, .inr (.inl wd))) ∧ c ≤ 6 ∧ n ≤ 400 ∧ q ≤ 400
/-- the signs are these characters -/
def sAt (sg : Nat → Int32) (tx : Nat → Nat) (n : Nat) : Prop := ∀ i, i < n → sg i = nI (tx i) ∧ tx i < 128
def dig (c : Nat) : Bool := decide (48 ≤ c) && decide (c ≤ 57)
def let_ (c : Nat) : Bool := decide (97 ≤ c) && decide (c ≤ 122)
/-- the sign at a place, 0 behind the end -/
def hx (tx : Nat → Nat) (n q : Nat) : Nat := if q < n then tx q else 0
theorem hx_lt {sg : Nat → Int32} {tx : Nat → Nat} {n q : Nat} (h : sAt sg tx n) : hx tx n q < 128 := by
  unfold hx; split
  · exact (h q (by assumption)).2
  · omega
/-- how many of the k signs from i on are such ones, without a gap -/
def rn (K : Nat → Bool) (tx : Nat → Nat) : Nat → Nat → Nat
  | 0, _ => 0
  | k + 1, i => if K (tx i) then rn K tx k (i + 1) + 1 else 0
theorem rn_s (K : Nat → Bool) (tx : Nat → Nat) (k i : Nat) : rn K tx (k + 1) i = if K (tx i) then rn K tx k (i + 1) + 1 else 0 := rfl
theorem rn_le (K : Nat → Bool) (tx : Nat → Nat) (k i : Nat) : rn K tx k i ≤ k := by
  induction k generalizing i with
  | zero => exact Nat.le_refl _
  | succ k ih =>
    rw [rn_s]; split
    · have := ih (i + 1); omega
    · omega
def sgn (c : Int32) : Bool := decide (c = nI 45) || (decide (c = nI 46) || (decide (c = nI 59) || ((decide (nI 48 ≤ c) && decide (c ≤ nI 57)) || (decide (nI 97 ≤ c) && decide (c ≤ nI 122)))))
theorem dR_init_0 : decode bR_init 0 = .ok (.aload_n 0, 1) := by decide +kernel
theorem dR_init_1 : decode bR_init 1 = .ok (.invokespecial 3, 3) := by decide +kernel
theorem dR_init_4 : decode bR_init 4 = .ok (.aload_n 0, 1) := by decide +kernel
theorem dR_init_5 : decode bR_init 5 = .ok (.sipush 400, 3) := by decide +kernel
theorem dR_init_8 : decode bR_init 8 = .ok (.newarray .char, 2) := by decide +kernel
theorem dR_init_10 : decode bR_init 10 = .ok (.putfield 9, 3) := by decide +kernel
theorem dR_init_13 : decode bR_init 13 = .ok (.aload_n 0, 1) := by decide +kernel
theorem dR_init_14 : decode bR_init 14 = .ok (.bipush 6, 2) := by decide +kernel
theorem dR_init_16 : decode bR_init 16 = .ok (.newarray .long, 2) := by decide +kernel
theorem dR_init_18 : decode bR_init 18 = .ok (.putfield 15, 3) := by decide +kernel
theorem dR_init_21 : decode bR_init 21 = .ok (.aload_n 0, 1) := by decide +kernel
theorem dR_init_22 : decode bR_init 22 = .ok (.iconst 0, 1) := by decide +kernel
theorem dR_init_23 : decode bR_init 23 = .ok (.putfield 19, 3) := by decide +kernel
theorem dR_init_26 : decode bR_init 26 = .ok (.aload_n 0, 1) := by decide +kernel
theorem dR_init_27 : decode bR_init 27 = .ok (.iconst 0, 1) := by decide +kernel
theorem dR_init_28 : decode bR_init 28 = .ok (.putfield 23, 3) := by decide +kernel
theorem dR_init_31 : decode bR_init 31 = .ok (.aload_n 0, 1) := by decide +kernel
theorem dR_init_32 : decode bR_init 32 = .ok (.iconst 0, 1) := by decide +kernel
theorem dR_init_33 : decode bR_init 33 = .ok (.putfield 26, 3) := by decide +kernel
theorem dR_init_36 : decode bR_init 36 = .ok (.aload_n 0, 1) := by decide +kernel
theorem dR_init_37 : decode bR_init 37 = .ok (.iconst 0, 1) := by decide +kernel
theorem dR_init_38 : decode bR_init 38 = .ok (.putfield 29, 3) := by decide +kernel
theorem dR_init_41 : decode bR_init 41 = .ok (.aload_n 0, 1) := by decide +kernel
theorem dR_init_42 : decode bR_init 42 = .ok (.iconst (-1), 1) := by decide +kernel
theorem dR_init_43 : decode bR_init 43 = .ok (.putfield 32, 3) := by decide +kernel
theorem dR_init_46 : decode bR_init 46 = .ok (.return_, 1) := by decide +kernel
theorem dR_length_0 : decode bR_length 0 = .ok (.aload_n 0, 1) := by decide +kernel
theorem dR_length_1 : decode bR_length 1 = .ok (.getfield 23, 3) := by decide +kernel
theorem dR_length_4 : decode bR_length 4 = .ok (.ireturn, 1) := by decide +kernel
theorem dR_failureKind_0 : decode bR_failureKind 0 = .ok (.aload_n 0, 1) := by decide +kernel
theorem dR_failureKind_1 : decode bR_failureKind 1 = .ok (.getfield 29, 3) := by decide +kernel
theorem dR_failureKind_4 : decode bR_failureKind 4 = .ok (.ireturn, 1) := by decide +kernel
theorem dR_failurePlace_0 : decode bR_failurePlace 0 = .ok (.aload_n 0, 1) := by decide +kernel
theorem dR_failurePlace_1 : decode bR_failurePlace 1 = .ok (.getfield 32, 3) := by decide +kernel
theorem dR_failurePlace_4 : decode bR_failurePlace 4 = .ok (.ireturn, 1) := by decide +kernel
theorem dR_wordCount_0 : decode bR_wordCount 0 = .ok (.aload_n 0, 1) := by decide +kernel
theorem dR_wordCount_1 : decode bR_wordCount 1 = .ok (.getfield 19, 3) := by decide +kernel
theorem dR_wordCount_4 : decode bR_wordCount 4 = .ok (.ireturn, 1) := by decide +kernel
theorem dR_wordAt_0 : decode bR_wordAt 0 = .ok (.iload_n 1, 1) := by decide +kernel
theorem dR_wordAt_1 : decode bR_wordAt 1 = .ok (.ifCond .lt 29, 3) := by decide +kernel
theorem dR_wordAt_4 : decode bR_wordAt 4 = .ok (.iload_n 1, 1) := by decide +kernel
theorem dR_wordAt_5 : decode bR_wordAt 5 = .ok (.aload_n 0, 1) := by decide +kernel
theorem dR_wordAt_6 : decode bR_wordAt 6 = .ok (.getfield 19, 3) := by decide +kernel
theorem dR_wordAt_9 : decode bR_wordAt 9 = .ok (.if_icmp .ge 21, 3) := by decide +kernel
theorem dR_wordAt_12 : decode bR_wordAt 12 = .ok (.iload_n 1, 1) := by decide +kernel
theorem dR_wordAt_13 : decode bR_wordAt 13 = .ok (.aload_n 0, 1) := by decide +kernel
theorem dR_wordAt_14 : decode bR_wordAt 14 = .ok (.getfield 15, 3) := by decide +kernel
theorem dR_wordAt_17 : decode bR_wordAt 17 = .ok (.arraylength, 1) := by decide +kernel
theorem dR_wordAt_18 : decode bR_wordAt 18 = .ok (.if_icmp .ge 12, 3) := by decide +kernel
theorem dR_wordAt_21 : decode bR_wordAt 21 = .ok (.aload_n 0, 1) := by decide +kernel
theorem dR_wordAt_22 : decode bR_wordAt 22 = .ok (.getfield 15, 3) := by decide +kernel
theorem dR_wordAt_25 : decode bR_wordAt 25 = .ok (.iload_n 1, 1) := by decide +kernel
theorem dR_wordAt_26 : decode bR_wordAt 26 = .ok (.laload, 1) := by decide +kernel
theorem dR_wordAt_27 : decode bR_wordAt 27 = .ok (.goto 4, 3) := by decide +kernel
theorem dR_wordAt_30 : decode bR_wordAt 30 = .ok (.lconst 0, 1) := by decide +kernel
theorem dR_wordAt_31 : decode bR_wordAt 31 = .ok (.lreturn, 1) := by decide +kernel
theorem dR_clear_0 : decode bR_clear 0 = .ok (.aload_n 0, 1) := by decide +kernel
theorem dR_clear_1 : decode bR_clear 1 = .ok (.iconst 0, 1) := by decide +kernel
theorem dR_clear_2 : decode bR_clear 2 = .ok (.putfield 23, 3) := by decide +kernel
theorem dR_clear_5 : decode bR_clear 5 = .ok (.return_, 1) := by decide +kernel
theorem dR_take_0 : decode bR_take 0 = .ok (.iload_n 1, 1) := by decide +kernel
theorem dR_take_1 : decode bR_take 1 = .ok (.bipush 65, 2) := by decide +kernel
theorem dR_take_3 : decode bR_take 3 = .ok (.if_icmp .lt 19, 3) := by decide +kernel
theorem dR_take_6 : decode bR_take 6 = .ok (.iload_n 1, 1) := by decide +kernel
theorem dR_take_7 : decode bR_take 7 = .ok (.bipush 90, 2) := by decide +kernel
theorem dR_take_9 : decode bR_take 9 = .ok (.if_icmp .gt 13, 3) := by decide +kernel
theorem dR_take_12 : decode bR_take 12 = .ok (.iload_n 1, 1) := by decide +kernel
theorem dR_take_13 : decode bR_take 13 = .ok (.bipush 65, 2) := by decide +kernel
theorem dR_take_15 : decode bR_take 15 = .ok (.isub, 1) := by decide +kernel
theorem dR_take_16 : decode bR_take 16 = .ok (.bipush 97, 2) := by decide +kernel
theorem dR_take_18 : decode bR_take 18 = .ok (.iadd, 1) := by decide +kernel
theorem dR_take_19 : decode bR_take 19 = .ok (.goto 4, 3) := by decide +kernel
theorem dR_take_22 : decode bR_take 22 = .ok (.iload_n 1, 1) := by decide +kernel
theorem dR_take_23 : decode bR_take 23 = .ok (.istore_n 2, 1) := by decide +kernel
theorem dR_take_24 : decode bR_take 24 = .ok (.iload_n 2, 1) := by decide +kernel
theorem dR_take_25 : decode bR_take 25 = .ok (.invokestatic 35, 3) := by decide +kernel
theorem dR_take_28 : decode bR_take 28 = .ok (.ifCond .eq 15, 3) := by decide +kernel
theorem dR_take_31 : decode bR_take 31 = .ok (.aload_n 0, 1) := by decide +kernel
theorem dR_take_32 : decode bR_take 32 = .ok (.getfield 23, 3) := by decide +kernel
theorem dR_take_35 : decode bR_take 35 = .ok (.aload_n 0, 1) := by decide +kernel
theorem dR_take_36 : decode bR_take 36 = .ok (.getfield 9, 3) := by decide +kernel
theorem dR_take_39 : decode bR_take 39 = .ok (.arraylength, 1) := by decide +kernel
theorem dR_take_40 : decode bR_take 40 = .ok (.if_icmp .lt 5, 3) := by decide +kernel
theorem dR_take_43 : decode bR_take 43 = .ok (.iconst 0, 1) := by decide +kernel
theorem dR_take_44 : decode bR_take 44 = .ok (.ireturn, 1) := by decide +kernel
theorem dR_take_45 : decode bR_take 45 = .ok (.aload_n 0, 1) := by decide +kernel
theorem dR_take_46 : decode bR_take 46 = .ok (.getfield 9, 3) := by decide +kernel
theorem dR_take_49 : decode bR_take 49 = .ok (.aload_n 0, 1) := by decide +kernel
theorem dR_take_50 : decode bR_take 50 = .ok (.getfield 23, 3) := by decide +kernel
theorem dR_take_53 : decode bR_take 53 = .ok (.iload_n 2, 1) := by decide +kernel
theorem dR_take_54 : decode bR_take 54 = .ok (.i2c, 1) := by decide +kernel
theorem dR_take_55 : decode bR_take 55 = .ok (.castore, 1) := by decide +kernel
theorem dR_take_56 : decode bR_take 56 = .ok (.aload_n 0, 1) := by decide +kernel
theorem dR_take_57 : decode bR_take 57 = .ok (.dup, 1) := by decide +kernel
theorem dR_take_58 : decode bR_take 58 = .ok (.getfield 23, 3) := by decide +kernel
theorem dR_take_61 : decode bR_take 61 = .ok (.iconst 1, 1) := by decide +kernel
theorem dR_take_62 : decode bR_take 62 = .ok (.iadd, 1) := by decide +kernel
theorem dR_take_63 : decode bR_take 63 = .ok (.putfield 23, 3) := by decide +kernel
theorem dR_take_66 : decode bR_take 66 = .ok (.iconst 1, 1) := by decide +kernel
theorem dR_take_67 : decode bR_take 67 = .ok (.ireturn, 1) := by decide +kernel
theorem dR_readRows_0 : decode bR_readRows 0 = .ok (.aload_n 0, 1) := by decide +kernel
theorem dR_readRows_1 : decode bR_readRows 1 = .ok (.invokevirtual 39, 3) := by decide +kernel
theorem dR_readRows_4 : decode bR_readRows 4 = .ok (.aload_n 0, 1) := by decide +kernel
theorem dR_readRows_5 : decode bR_readRows 5 = .ok (.getfield 23, 3) := by decide +kernel
theorem dR_readRows_8 : decode bR_readRows 8 = .ok (.ifCond .ne 10, 3) := by decide +kernel
theorem dR_readRows_11 : decode bR_readRows 11 = .ok (.aload_n 0, 1) := by decide +kernel
theorem dR_readRows_12 : decode bR_readRows 12 = .ok (.iconst 1, 1) := by decide +kernel
theorem dR_readRows_13 : decode bR_readRows 13 = .ok (.iconst 0, 1) := by decide +kernel
theorem dR_readRows_14 : decode bR_readRows 14 = .ok (.invokevirtual 42, 3) := by decide +kernel
theorem dR_readRows_17 : decode bR_readRows 17 = .ok (.ireturn, 1) := by decide +kernel
theorem dR_readRows_18 : decode bR_readRows 18 = .ok (.iconst 0, 1) := by decide +kernel
theorem dR_readRows_19 : decode bR_readRows 19 = .ok (.istore_n 2, 1) := by decide +kernel
theorem dR_readRows_20 : decode bR_readRows 20 = .ok (.iload_n 2, 1) := by decide +kernel
theorem dR_readRows_21 : decode bR_readRows 21 = .ok (.bipush 40, 2) := by decide +kernel
theorem dR_readRows_23 : decode bR_readRows 23 = .ok (.if_icmp .gt 30, 3) := by decide +kernel
theorem dR_readRows_26 : decode bR_readRows 26 = .ok (.aload_n 0, 1) := by decide +kernel
theorem dR_readRows_27 : decode bR_readRows 27 = .ok (.getfield 26, 3) := by decide +kernel
theorem dR_readRows_30 : decode bR_readRows 30 = .ok (.aload_n 0, 1) := by decide +kernel
theorem dR_readRows_31 : decode bR_readRows 31 = .ok (.getfield 23, 3) := by decide +kernel
theorem dR_readRows_34 : decode bR_readRows 34 = .ok (.if_icmp .ge 19, 3) := by decide +kernel
theorem dR_readRows_37 : decode bR_readRows 37 = .ok (.aload_n 0, 1) := by decide +kernel
theorem dR_readRows_38 : decode bR_readRows 38 = .ok (.aload_n 1, 1) := by decide +kernel
theorem dR_readRows_39 : decode bR_readRows 39 = .ok (.invokevirtual 46, 3) := by decide +kernel
theorem dR_readRows_42 : decode bR_readRows 42 = .ok (.ifCond .ne 5, 3) := by decide +kernel
theorem dR_readRows_45 : decode bR_readRows 45 = .ok (.iconst 0, 1) := by decide +kernel
theorem dR_readRows_46 : decode bR_readRows 46 = .ok (.ireturn, 1) := by decide +kernel
theorem dR_readRows_47 : decode bR_readRows 47 = .ok (.iinc 2 1, 3) := by decide +kernel
theorem dR_readRows_50 : decode bR_readRows 50 = .ok (.goto (-30), 3) := by decide +kernel
theorem dR_readRows_53 : decode bR_readRows 53 = .ok (.iconst 1, 1) := by decide +kernel
theorem dR_readRows_54 : decode bR_readRows 54 = .ok (.ireturn, 1) := by decide +kernel
theorem dR_readAsked_0 : decode bR_readAsked 0 = .ok (.aload_n 0, 1) := by decide +kernel
theorem dR_readAsked_1 : decode bR_readAsked 1 = .ok (.invokevirtual 39, 3) := by decide +kernel
theorem dR_readAsked_4 : decode bR_readAsked 4 = .ok (.aload_n 0, 1) := by decide +kernel
theorem dR_readAsked_5 : decode bR_readAsked 5 = .ok (.bipush 6, 2) := by decide +kernel
theorem dR_readAsked_7 : decode bR_readAsked 7 = .ok (.invokevirtual 50, 3) := by decide +kernel
theorem dR_readAsked_10 : decode bR_readAsked 10 = .ok (.ifCond .eq 30, 3) := by decide +kernel
theorem dR_readAsked_13 : decode bR_readAsked 13 = .ok (.aload_n 0, 1) := by decide +kernel
theorem dR_readAsked_14 : decode bR_readAsked 14 = .ok (.getfield 26, 3) := by decide +kernel
theorem dR_readAsked_17 : decode bR_readAsked 17 = .ok (.aload_n 0, 1) := by decide +kernel
theorem dR_readAsked_18 : decode bR_readAsked 18 = .ok (.getfield 23, 3) := by decide +kernel
theorem dR_readAsked_21 : decode bR_readAsked 21 = .ok (.if_icmp .eq 15, 3) := by decide +kernel
theorem dR_readAsked_24 : decode bR_readAsked 24 = .ok (.aload_n 0, 1) := by decide +kernel
theorem dR_readAsked_25 : decode bR_readAsked 25 = .ok (.iconst 1, 1) := by decide +kernel
theorem dR_readAsked_26 : decode bR_readAsked 26 = .ok (.aload_n 0, 1) := by decide +kernel
theorem dR_readAsked_27 : decode bR_readAsked 27 = .ok (.getfield 26, 3) := by decide +kernel
theorem dR_readAsked_30 : decode bR_readAsked 30 = .ok (.invokevirtual 42, 3) := by decide +kernel
theorem dR_readAsked_33 : decode bR_readAsked 33 = .ok (.ifCond .eq 7, 3) := by decide +kernel
theorem dR_readAsked_36 : decode bR_readAsked 36 = .ok (.iconst 1, 1) := by decide +kernel
theorem dR_readAsked_37 : decode bR_readAsked 37 = .ok (.goto 4, 3) := by decide +kernel
theorem dR_readAsked_40 : decode bR_readAsked 40 = .ok (.iconst 0, 1) := by decide +kernel
theorem dR_readAsked_41 : decode bR_readAsked 41 = .ok (.ireturn, 1) := by decide +kernel
theorem dR_start_0 : decode bR_start 0 = .ok (.aload_n 0, 1) := by decide +kernel
theorem dR_start_1 : decode bR_start 1 = .ok (.iconst 0, 1) := by decide +kernel
theorem dR_start_2 : decode bR_start 2 = .ok (.putfield 26, 3) := by decide +kernel
theorem dR_start_5 : decode bR_start 5 = .ok (.aload_n 0, 1) := by decide +kernel
theorem dR_start_6 : decode bR_start 6 = .ok (.iconst 0, 1) := by decide +kernel
theorem dR_start_7 : decode bR_start 7 = .ok (.putfield 29, 3) := by decide +kernel
theorem dR_start_10 : decode bR_start 10 = .ok (.aload_n 0, 1) := by decide +kernel
theorem dR_start_11 : decode bR_start 11 = .ok (.iconst (-1), 1) := by decide +kernel
theorem dR_start_12 : decode bR_start 12 = .ok (.putfield 32, 3) := by decide +kernel
theorem dR_start_15 : decode bR_start 15 = .ok (.return_, 1) := by decide +kernel
theorem dR_fail_0 : decode bR_fail 0 = .ok (.aload_n 0, 1) := by decide +kernel
theorem dR_fail_1 : decode bR_fail 1 = .ok (.iload_n 1, 1) := by decide +kernel
theorem dR_fail_2 : decode bR_fail 2 = .ok (.putfield 29, 3) := by decide +kernel
theorem dR_fail_5 : decode bR_fail 5 = .ok (.aload_n 0, 1) := by decide +kernel
theorem dR_fail_6 : decode bR_fail 6 = .ok (.iload_n 2, 1) := by decide +kernel
theorem dR_fail_7 : decode bR_fail 7 = .ok (.putfield 32, 3) := by decide +kernel
theorem dR_fail_10 : decode bR_fail 10 = .ok (.iconst 0, 1) := by decide +kernel
theorem dR_fail_11 : decode bR_fail 11 = .ok (.ireturn, 1) := by decide +kernel
theorem dR_readRow_0 : decode bR_readRow 0 = .ok (.aload_n 0, 1) := by decide +kernel
theorem dR_readRow_1 : decode bR_readRow 1 = .ok (.getfield 26, 3) := by decide +kernel
theorem dR_readRow_4 : decode bR_readRow 4 = .ok (.istore_n 2, 1) := by decide +kernel
theorem dR_readRow_5 : decode bR_readRow 5 = .ok (.aload_n 0, 1) := by decide +kernel
theorem dR_readRow_6 : decode bR_readRow 6 = .ok (.invokevirtual 53, 3) := by decide +kernel
theorem dR_readRow_9 : decode bR_readRow 9 = .ok (.bipush 45, 2) := by decide +kernel
theorem dR_readRow_11 : decode bR_readRow 11 = .ok (.if_icmp .eq 20, 3) := by decide +kernel
theorem dR_readRow_14 : decode bR_readRow 14 = .ok (.aload_n 0, 1) := by decide +kernel
theorem dR_readRow_15 : decode bR_readRow 15 = .ok (.invokevirtual 53, 3) := by decide +kernel
theorem dR_readRow_18 : decode bR_readRow 18 = .ok (.invokestatic 57, 3) := by decide +kernel
theorem dR_readRow_21 : decode bR_readRow 21 = .ok (.ifCond .ne 10, 3) := by decide +kernel
theorem dR_readRow_24 : decode bR_readRow 24 = .ok (.aload_n 0, 1) := by decide +kernel
theorem dR_readRow_25 : decode bR_readRow 25 = .ok (.iconst 1, 1) := by decide +kernel
theorem dR_readRow_26 : decode bR_readRow 26 = .ok (.iload_n 2, 1) := by decide +kernel
theorem dR_readRow_27 : decode bR_readRow 27 = .ok (.invokevirtual 42, 3) := by decide +kernel
theorem dR_readRow_30 : decode bR_readRow 30 = .ok (.ireturn, 1) := by decide +kernel
theorem dR_readRow_31 : decode bR_readRow 31 = .ok (.aload_n 0, 1) := by decide +kernel
theorem dR_readRow_32 : decode bR_readRow 32 = .ok (.invokevirtual 60, 3) := by decide +kernel
theorem dR_readRow_35 : decode bR_readRow 35 = .ok (.istore_n 3, 1) := by decide +kernel
theorem dR_readRow_36 : decode bR_readRow 36 = .ok (.iload_n 3, 1) := by decide +kernel
theorem dR_readRow_37 : decode bR_readRow 37 = .ok (.aload_n 1, 1) := by decide +kernel
theorem dR_readRow_38 : decode bR_readRow 38 = .ok (.invokevirtual 64, 3) := by decide +kernel
theorem dR_readRow_41 : decode bR_readRow 41 = .ok (.if_icmp .le 10, 3) := by decide +kernel
theorem dR_readRow_44 : decode bR_readRow 44 = .ok (.aload_n 0, 1) := by decide +kernel
theorem dR_readRow_45 : decode bR_readRow 45 = .ok (.iconst 2, 1) := by decide +kernel
theorem dR_readRow_46 : decode bR_readRow 46 = .ok (.iload_n 2, 1) := by decide +kernel
theorem dR_readRow_47 : decode bR_readRow 47 = .ok (.invokevirtual 42, 3) := by decide +kernel
theorem dR_readRow_50 : decode bR_readRow 50 = .ok (.ireturn, 1) := by decide +kernel
theorem dR_readRow_51 : decode bR_readRow 51 = .ok (.aload_n 1, 1) := by decide +kernel
theorem dR_readRow_52 : decode bR_readRow 52 = .ok (.invokevirtual 69, 3) := by decide +kernel
theorem dR_readRow_55 : decode bR_readRow 55 = .ok (.ifCond .eq 10, 3) := by decide +kernel
theorem dR_readRow_58 : decode bR_readRow 58 = .ok (.aload_n 0, 1) := by decide +kernel
theorem dR_readRow_59 : decode bR_readRow 59 = .ok (.iconst 5, 1) := by decide +kernel
theorem dR_readRow_60 : decode bR_readRow 60 = .ok (.iload_n 2, 1) := by decide +kernel
theorem dR_readRow_61 : decode bR_readRow 61 = .ok (.invokevirtual 42, 3) := by decide +kernel
theorem dR_readRow_64 : decode bR_readRow 64 = .ok (.ireturn, 1) := by decide +kernel
theorem dR_readRow_65 : decode bR_readRow 65 = .ok (.iload_n 3, 1) := by decide +kernel
theorem dR_readRow_66 : decode bR_readRow 66 = .ok (.iconst 4, 1) := by decide +kernel
theorem dR_readRow_67 : decode bR_readRow 67 = .ok (.if_icmp .le 12, 3) := by decide +kernel
theorem dR_readRow_70 : decode bR_readRow 70 = .ok (.aload_n 0, 1) := by decide +kernel
theorem dR_readRow_71 : decode bR_readRow 71 = .ok (.iconst 1, 1) := by decide +kernel
theorem dR_readRow_72 : decode bR_readRow 72 = .ok (.iload_n 2, 1) := by decide +kernel
theorem dR_readRow_73 : decode bR_readRow 73 = .ok (.iconst 4, 1) := by decide +kernel
theorem dR_readRow_74 : decode bR_readRow 74 = .ok (.iadd, 1) := by decide +kernel
theorem dR_readRow_75 : decode bR_readRow 75 = .ok (.invokevirtual 42, 3) := by decide +kernel
theorem dR_readRow_78 : decode bR_readRow 78 = .ok (.ireturn, 1) := by decide +kernel
theorem dR_readRow_79 : decode bR_readRow 79 = .ok (.aload_n 0, 1) := by decide +kernel
theorem dR_readRow_80 : decode bR_readRow 80 = .ok (.iload_n 2, 1) := by decide +kernel
theorem dR_readRow_81 : decode bR_readRow 81 = .ok (.iload_n 3, 1) := by decide +kernel
theorem dR_readRow_82 : decode bR_readRow 82 = .ok (.iadd, 1) := by decide +kernel
theorem dR_readRow_83 : decode bR_readRow 83 = .ok (.putfield 26, 3) := by decide +kernel
theorem dR_readRow_86 : decode bR_readRow 86 = .ok (.aload_n 0, 1) := by decide +kernel
theorem dR_readRow_87 : decode bR_readRow 87 = .ok (.aload_n 1, 1) := by decide +kernel
theorem dR_readRow_88 : decode bR_readRow 88 = .ok (.iload_n 3, 1) := by decide +kernel
theorem dR_readRow_89 : decode bR_readRow 89 = .ok (.invokevirtual 73, 3) := by decide +kernel
theorem dR_readRow_92 : decode bR_readRow 92 = .ok (.ireturn, 1) := by decide +kernel
theorem dR_readCodeAndWords_0 : decode bR_readCodeAndWords 0 = .ok (.aload_n 0, 1) := by decide +kernel
theorem dR_readCodeAndWords_1 : decode bR_readCodeAndWords 1 = .ok (.getfield 26, 3) := by decide +kernel
theorem dR_readCodeAndWords_4 : decode bR_readCodeAndWords 4 = .ok (.istore_n 3, 1) := by decide +kernel
theorem dR_readCodeAndWords_5 : decode bR_readCodeAndWords 5 = .ok (.aload_n 0, 1) := by decide +kernel
theorem dR_readCodeAndWords_6 : decode bR_readCodeAndWords 6 = .ok (.invokevirtual 77, 3) := by decide +kernel
theorem dR_readCodeAndWords_9 : decode bR_readCodeAndWords 9 = .ok (.lstore 4, 2) := by decide +kernel
theorem dR_readCodeAndWords_11 : decode bR_readCodeAndWords 11 = .ok (.lload 4, 2) := by decide +kernel
theorem dR_readCodeAndWords_13 : decode bR_readCodeAndWords 13 = .ok (.lconst 0, 1) := by decide +kernel
theorem dR_readCodeAndWords_14 : decode bR_readCodeAndWords 14 = .ok (.lcmp, 1) := by decide +kernel
theorem dR_readCodeAndWords_15 : decode bR_readCodeAndWords 15 = .ok (.ifCond .ne 13, 3) := by decide +kernel
theorem dR_readCodeAndWords_18 : decode bR_readCodeAndWords 18 = .ok (.aload_n 0, 1) := by decide +kernel
theorem dR_readCodeAndWords_19 : decode bR_readCodeAndWords 19 = .ok (.iconst 1, 1) := by decide +kernel
theorem dR_readCodeAndWords_20 : decode bR_readCodeAndWords 20 = .ok (.aload_n 0, 1) := by decide +kernel
theorem dR_readCodeAndWords_21 : decode bR_readCodeAndWords 21 = .ok (.getfield 26, 3) := by decide +kernel
theorem dR_readCodeAndWords_24 : decode bR_readCodeAndWords 24 = .ok (.invokevirtual 42, 3) := by decide +kernel
theorem dR_readCodeAndWords_27 : decode bR_readCodeAndWords 27 = .ok (.ireturn, 1) := by decide +kernel
theorem dR_readCodeAndWords_28 : decode bR_readCodeAndWords 28 = .ok (.aload_n 1, 1) := by decide +kernel
theorem dR_readCodeAndWords_29 : decode bR_readCodeAndWords 29 = .ok (.aload_n 1, 1) := by decide +kernel
theorem dR_readCodeAndWords_30 : decode bR_readCodeAndWords 30 = .ok (.iload_n 2, 1) := by decide +kernel
theorem dR_readCodeAndWords_31 : decode bR_readCodeAndWords 31 = .ok (.invokevirtual 81, 3) := by decide +kernel
theorem dR_readCodeAndWords_34 : decode bR_readCodeAndWords 34 = .ok (.lload 4, 2) := by decide +kernel
theorem dR_readCodeAndWords_36 : decode bR_readCodeAndWords 36 = .ok (.invokevirtual 85, 3) := by decide +kernel
theorem dR_readCodeAndWords_39 : decode bR_readCodeAndWords 39 = .ok (.ifCond .ne 10, 3) := by decide +kernel
theorem dR_readCodeAndWords_42 : decode bR_readCodeAndWords 42 = .ok (.aload_n 0, 1) := by decide +kernel
theorem dR_readCodeAndWords_43 : decode bR_readCodeAndWords 43 = .ok (.iconst 3, 1) := by decide +kernel
theorem dR_readCodeAndWords_44 : decode bR_readCodeAndWords 44 = .ok (.iload_n 3, 1) := by decide +kernel
theorem dR_readCodeAndWords_45 : decode bR_readCodeAndWords 45 = .ok (.invokevirtual 42, 3) := by decide +kernel
theorem dR_readCodeAndWords_48 : decode bR_readCodeAndWords 48 = .ok (.ireturn, 1) := by decide +kernel
theorem dR_readCodeAndWords_49 : decode bR_readCodeAndWords 49 = .ok (.aload_n 1, 1) := by decide +kernel
theorem dR_readCodeAndWords_50 : decode bR_readCodeAndWords 50 = .ok (.lload 4, 2) := by decide +kernel
theorem dR_readCodeAndWords_52 : decode bR_readCodeAndWords 52 = .ok (.invokevirtual 89, 3) := by decide +kernel
theorem dR_readCodeAndWords_55 : decode bR_readCodeAndWords 55 = .ok (.ifCond .ne 10, 3) := by decide +kernel
theorem dR_readCodeAndWords_58 : decode bR_readCodeAndWords 58 = .ok (.aload_n 0, 1) := by decide +kernel
theorem dR_readCodeAndWords_59 : decode bR_readCodeAndWords 59 = .ok (.iconst 4, 1) := by decide +kernel
theorem dR_readCodeAndWords_60 : decode bR_readCodeAndWords 60 = .ok (.iload_n 3, 1) := by decide +kernel
theorem dR_readCodeAndWords_61 : decode bR_readCodeAndWords 61 = .ok (.invokevirtual 42, 3) := by decide +kernel
theorem dR_readCodeAndWords_64 : decode bR_readCodeAndWords 64 = .ok (.ireturn, 1) := by decide +kernel
theorem dR_readCodeAndWords_65 : decode bR_readCodeAndWords 65 = .ok (.aload_n 0, 1) := by decide +kernel
theorem dR_readCodeAndWords_66 : decode bR_readCodeAndWords 66 = .ok (.iconst 4, 1) := by decide +kernel
theorem dR_readCodeAndWords_67 : decode bR_readCodeAndWords 67 = .ok (.invokevirtual 50, 3) := by decide +kernel
theorem dR_readCodeAndWords_70 : decode bR_readCodeAndWords 70 = .ok (.ifCond .ne 5, 3) := by decide +kernel
theorem dR_readCodeAndWords_73 : decode bR_readCodeAndWords 73 = .ok (.iconst 0, 1) := by decide +kernel
theorem dR_readCodeAndWords_74 : decode bR_readCodeAndWords 74 = .ok (.ireturn, 1) := by decide +kernel
theorem dR_readCodeAndWords_75 : decode bR_readCodeAndWords 75 = .ok (.aload_n 0, 1) := by decide +kernel
theorem dR_readCodeAndWords_76 : decode bR_readCodeAndWords 76 = .ok (.invokevirtual 53, 3) := by decide +kernel
theorem dR_readCodeAndWords_79 : decode bR_readCodeAndWords 79 = .ok (.bipush 59, 2) := by decide +kernel
theorem dR_readCodeAndWords_81 : decode bR_readCodeAndWords 81 = .ok (.if_icmp .eq 13, 3) := by decide +kernel
theorem dR_readCodeAndWords_84 : decode bR_readCodeAndWords 84 = .ok (.aload_n 0, 1) := by decide +kernel
theorem dR_readCodeAndWords_85 : decode bR_readCodeAndWords 85 = .ok (.iconst 1, 1) := by decide +kernel
theorem dR_readCodeAndWords_86 : decode bR_readCodeAndWords 86 = .ok (.aload_n 0, 1) := by decide +kernel
theorem dR_readCodeAndWords_87 : decode bR_readCodeAndWords 87 = .ok (.getfield 26, 3) := by decide +kernel
theorem dR_readCodeAndWords_90 : decode bR_readCodeAndWords 90 = .ok (.invokevirtual 42, 3) := by decide +kernel
theorem dR_readCodeAndWords_93 : decode bR_readCodeAndWords 93 = .ok (.ireturn, 1) := by decide +kernel
theorem dR_readCodeAndWords_94 : decode bR_readCodeAndWords 94 = .ok (.aload_n 0, 1) := by decide +kernel
theorem dR_readCodeAndWords_95 : decode bR_readCodeAndWords 95 = .ok (.dup, 1) := by decide +kernel
theorem dR_readCodeAndWords_96 : decode bR_readCodeAndWords 96 = .ok (.getfield 26, 3) := by decide +kernel
theorem dR_readCodeAndWords_99 : decode bR_readCodeAndWords 99 = .ok (.iconst 1, 1) := by decide +kernel
theorem dR_readCodeAndWords_100 : decode bR_readCodeAndWords 100 = .ok (.iadd, 1) := by decide +kernel
theorem dR_readCodeAndWords_101 : decode bR_readCodeAndWords 101 = .ok (.putfield 26, 3) := by decide +kernel
theorem dR_readCodeAndWords_104 : decode bR_readCodeAndWords 104 = .ok (.aload_n 1, 1) := by decide +kernel
theorem dR_readCodeAndWords_105 : decode bR_readCodeAndWords 105 = .ok (.lload 4, 2) := by decide +kernel
theorem dR_readCodeAndWords_107 : decode bR_readCodeAndWords 107 = .ok (.iload_n 2, 1) := by decide +kernel
theorem dR_readCodeAndWords_108 : decode bR_readCodeAndWords 108 = .ok (.aload_n 0, 1) := by decide +kernel
theorem dR_readCodeAndWords_109 : decode bR_readCodeAndWords 109 = .ok (.invokevirtual 93, 3) := by decide +kernel
theorem dR_readCodeAndWords_112 : decode bR_readCodeAndWords 112 = .ok (.iconst 1, 1) := by decide +kernel
theorem dR_readCodeAndWords_113 : decode bR_readCodeAndWords 113 = .ok (.ireturn, 1) := by decide +kernel
theorem dR_countDashes_0 : decode bR_countDashes 0 = .ok (.iconst 0, 1) := by decide +kernel
theorem dR_countDashes_1 : decode bR_countDashes 1 = .ok (.istore_n 1, 1) := by decide +kernel
theorem dR_countDashes_2 : decode bR_countDashes 2 = .ok (.aload_n 0, 1) := by decide +kernel
theorem dR_countDashes_3 : decode bR_countDashes 3 = .ok (.getfield 26, 3) := by decide +kernel
theorem dR_countDashes_6 : decode bR_countDashes 6 = .ok (.istore_n 2, 1) := by decide +kernel
theorem dR_countDashes_7 : decode bR_countDashes 7 = .ok (.iload_n 2, 1) := by decide +kernel
theorem dR_countDashes_8 : decode bR_countDashes 8 = .ok (.aload_n 0, 1) := by decide +kernel
theorem dR_countDashes_9 : decode bR_countDashes 9 = .ok (.getfield 23, 3) := by decide +kernel
theorem dR_countDashes_12 : decode bR_countDashes 12 = .ok (.if_icmp .ge 23, 3) := by decide +kernel
theorem dR_countDashes_15 : decode bR_countDashes 15 = .ok (.aload_n 0, 1) := by decide +kernel
theorem dR_countDashes_16 : decode bR_countDashes 16 = .ok (.getfield 9, 3) := by decide +kernel
theorem dR_countDashes_19 : decode bR_countDashes 19 = .ok (.iload_n 2, 1) := by decide +kernel
theorem dR_countDashes_20 : decode bR_countDashes 20 = .ok (.caload, 1) := by decide +kernel
theorem dR_countDashes_21 : decode bR_countDashes 21 = .ok (.bipush 45, 2) := by decide +kernel
theorem dR_countDashes_23 : decode bR_countDashes 23 = .ok (.if_icmp .ne 12, 3) := by decide +kernel
theorem dR_countDashes_26 : decode bR_countDashes 26 = .ok (.iinc 1 1, 3) := by decide +kernel
theorem dR_countDashes_29 : decode bR_countDashes 29 = .ok (.iinc 2 1, 3) := by decide +kernel
theorem dR_countDashes_32 : decode bR_countDashes 32 = .ok (.goto (-25), 3) := by decide +kernel
theorem dR_countDashes_35 : decode bR_countDashes 35 = .ok (.iload_n 1, 1) := by decide +kernel
theorem dR_countDashes_36 : decode bR_countDashes 36 = .ok (.ireturn, 1) := by decide +kernel
theorem dR_readCode_0 : decode bR_readCode 0 = .ok (.lconst 1, 1) := by decide +kernel
theorem dR_readCode_1 : decode bR_readCode 1 = .ok (.lstore_n 1, 1) := by decide +kernel
theorem dR_readCode_2 : decode bR_readCode 2 = .ok (.iconst 0, 1) := by decide +kernel
theorem dR_readCode_3 : decode bR_readCode 3 = .ok (.istore_n 3, 1) := by decide +kernel
theorem dR_readCode_4 : decode bR_readCode 4 = .ok (.iload_n 3, 1) := by decide +kernel
theorem dR_readCode_5 : decode bR_readCode 5 = .ok (.bipush 10, 2) := by decide +kernel
theorem dR_readCode_7 : decode bR_readCode 7 = .ok (.if_icmp .ge 44, 3) := by decide +kernel
theorem dR_readCode_10 : decode bR_readCode 10 = .ok (.aload_n 0, 1) := by decide +kernel
theorem dR_readCode_11 : decode bR_readCode 11 = .ok (.invokevirtual 53, 3) := by decide +kernel
theorem dR_readCode_14 : decode bR_readCode 14 = .ok (.invokestatic 57, 3) := by decide +kernel
theorem dR_readCode_17 : decode bR_readCode 17 = .ok (.ifCond .eq 34, 3) := by decide +kernel
theorem dR_readCode_20 : decode bR_readCode 20 = .ok (.lload_n 1, 1) := by decide +kernel
theorem dR_readCode_21 : decode bR_readCode 21 = .ok (.ldc2_w 97, 3) := by decide +kernel
theorem dR_readCode_24 : decode bR_readCode 24 = .ok (.lmul, 1) := by decide +kernel
theorem dR_readCode_25 : decode bR_readCode 25 = .ok (.aload_n 0, 1) := by decide +kernel
theorem dR_readCode_26 : decode bR_readCode 26 = .ok (.invokevirtual 53, 3) := by decide +kernel
theorem dR_readCode_29 : decode bR_readCode 29 = .ok (.bipush 48, 2) := by decide +kernel
theorem dR_readCode_31 : decode bR_readCode 31 = .ok (.isub, 1) := by decide +kernel
theorem dR_readCode_32 : decode bR_readCode 32 = .ok (.i2l, 1) := by decide +kernel
theorem dR_readCode_33 : decode bR_readCode 33 = .ok (.ladd, 1) := by decide +kernel
theorem dR_readCode_34 : decode bR_readCode 34 = .ok (.lstore_n 1, 1) := by decide +kernel
theorem dR_readCode_35 : decode bR_readCode 35 = .ok (.iinc 3 1, 3) := by decide +kernel
theorem dR_readCode_38 : decode bR_readCode 38 = .ok (.aload_n 0, 1) := by decide +kernel
theorem dR_readCode_39 : decode bR_readCode 39 = .ok (.dup, 1) := by decide +kernel
theorem dR_readCode_40 : decode bR_readCode 40 = .ok (.getfield 26, 3) := by decide +kernel
theorem dR_readCode_43 : decode bR_readCode 43 = .ok (.iconst 1, 1) := by decide +kernel
theorem dR_readCode_44 : decode bR_readCode 44 = .ok (.iadd, 1) := by decide +kernel
theorem dR_readCode_45 : decode bR_readCode 45 = .ok (.putfield 26, 3) := by decide +kernel
theorem dR_readCode_48 : decode bR_readCode 48 = .ok (.goto (-44), 3) := by decide +kernel
theorem dR_readCode_51 : decode bR_readCode 51 = .ok (.iload_n 3, 1) := by decide +kernel
theorem dR_readCode_52 : decode bR_readCode 52 = .ok (.iconst 2, 1) := by decide +kernel
theorem dR_readCode_53 : decode bR_readCode 53 = .ok (.if_icmp .lt 23, 3) := by decide +kernel
theorem dR_readCode_56 : decode bR_readCode 56 = .ok (.iload_n 3, 1) := by decide +kernel
theorem dR_readCode_57 : decode bR_readCode 57 = .ok (.iconst 2, 1) := by decide +kernel
theorem dR_readCode_58 : decode bR_readCode 58 = .ok (.irem, 1) := by decide +kernel
theorem dR_readCode_59 : decode bR_readCode 59 = .ok (.ifCond .ne 17, 3) := by decide +kernel
theorem dR_readCode_62 : decode bR_readCode 62 = .ok (.aload_n 0, 1) := by decide +kernel
theorem dR_readCode_63 : decode bR_readCode 63 = .ok (.invokevirtual 53, 3) := by decide +kernel
theorem dR_readCode_66 : decode bR_readCode 66 = .ok (.invokestatic 57, 3) := by decide +kernel
theorem dR_readCode_69 : decode bR_readCode 69 = .ok (.ifCond .ne 7, 3) := by decide +kernel
theorem dR_readCode_72 : decode bR_readCode 72 = .ok (.iconst 1, 1) := by decide +kernel
theorem dR_readCode_73 : decode bR_readCode 73 = .ok (.goto 4, 3) := by decide +kernel
theorem dR_readCode_76 : decode bR_readCode 76 = .ok (.iconst 0, 1) := by decide +kernel
theorem dR_readCode_77 : decode bR_readCode 77 = .ok (.istore 4, 2) := by decide +kernel
theorem dR_readCode_79 : decode bR_readCode 79 = .ok (.iload 4, 2) := by decide +kernel
theorem dR_readCode_81 : decode bR_readCode 81 = .ok (.ifCond .eq 7, 3) := by decide +kernel
theorem dR_readCode_84 : decode bR_readCode 84 = .ok (.lload_n 1, 1) := by decide +kernel
theorem dR_readCode_85 : decode bR_readCode 85 = .ok (.goto 4, 3) := by decide +kernel
theorem dR_readCode_88 : decode bR_readCode 88 = .ok (.lconst 0, 1) := by decide +kernel
theorem dR_readCode_89 : decode bR_readCode 89 = .ok (.lreturn, 1) := by decide +kernel
theorem dR_readWords_0 : decode bR_readWords 0 = .ok (.aload_n 0, 1) := by decide +kernel
theorem dR_readWords_1 : decode bR_readWords 1 = .ok (.iconst 0, 1) := by decide +kernel
theorem dR_readWords_2 : decode bR_readWords 2 = .ok (.putfield 19, 3) := by decide +kernel
theorem dR_readWords_5 : decode bR_readWords 5 = .ok (.iconst 0, 1) := by decide +kernel
theorem dR_readWords_6 : decode bR_readWords 6 = .ok (.istore_n 2, 1) := by decide +kernel
theorem dR_readWords_7 : decode bR_readWords 7 = .ok (.iload_n 2, 1) := by decide +kernel
theorem dR_readWords_8 : decode bR_readWords 8 = .ok (.iload_n 1, 1) := by decide +kernel
theorem dR_readWords_9 : decode bR_readWords 9 = .ok (.if_icmp .ge 82, 3) := by decide +kernel
theorem dR_readWords_12 : decode bR_readWords 12 = .ok (.iload_n 2, 1) := by decide +kernel
theorem dR_readWords_13 : decode bR_readWords 13 = .ok (.aload_n 0, 1) := by decide +kernel
theorem dR_readWords_14 : decode bR_readWords 14 = .ok (.getfield 15, 3) := by decide +kernel
theorem dR_readWords_17 : decode bR_readWords 17 = .ok (.arraylength, 1) := by decide +kernel
theorem dR_readWords_18 : decode bR_readWords 18 = .ok (.if_icmp .ge 73, 3) := by decide +kernel
theorem dR_readWords_21 : decode bR_readWords 21 = .ok (.aload_n 0, 1) := by decide +kernel
theorem dR_readWords_22 : decode bR_readWords 22 = .ok (.invokevirtual 99, 3) := by decide +kernel
theorem dR_readWords_25 : decode bR_readWords 25 = .ok (.lstore_n 3, 1) := by decide +kernel
theorem dR_readWords_26 : decode bR_readWords 26 = .ok (.lload_n 3, 1) := by decide +kernel
theorem dR_readWords_27 : decode bR_readWords 27 = .ok (.lconst 0, 1) := by decide +kernel
theorem dR_readWords_28 : decode bR_readWords 28 = .ok (.lcmp, 1) := by decide +kernel
theorem dR_readWords_29 : decode bR_readWords 29 = .ok (.ifCond .ne 13, 3) := by decide +kernel
theorem dR_readWords_32 : decode bR_readWords 32 = .ok (.aload_n 0, 1) := by decide +kernel
theorem dR_readWords_33 : decode bR_readWords 33 = .ok (.iconst 1, 1) := by decide +kernel
theorem dR_readWords_34 : decode bR_readWords 34 = .ok (.aload_n 0, 1) := by decide +kernel
theorem dR_readWords_35 : decode bR_readWords 35 = .ok (.getfield 26, 3) := by decide +kernel
theorem dR_readWords_38 : decode bR_readWords 38 = .ok (.invokevirtual 42, 3) := by decide +kernel
theorem dR_readWords_41 : decode bR_readWords 41 = .ok (.ireturn, 1) := by decide +kernel
theorem dR_readWords_42 : decode bR_readWords 42 = .ok (.aload_n 0, 1) := by decide +kernel
theorem dR_readWords_43 : decode bR_readWords 43 = .ok (.getfield 15, 3) := by decide +kernel
theorem dR_readWords_46 : decode bR_readWords 46 = .ok (.iload_n 2, 1) := by decide +kernel
theorem dR_readWords_47 : decode bR_readWords 47 = .ok (.lload_n 3, 1) := by decide +kernel
theorem dR_readWords_48 : decode bR_readWords 48 = .ok (.lastore, 1) := by decide +kernel
theorem dR_readWords_49 : decode bR_readWords 49 = .ok (.aload_n 0, 1) := by decide +kernel
theorem dR_readWords_50 : decode bR_readWords 50 = .ok (.iload_n 2, 1) := by decide +kernel
theorem dR_readWords_51 : decode bR_readWords 51 = .ok (.iconst 1, 1) := by decide +kernel
theorem dR_readWords_52 : decode bR_readWords 52 = .ok (.iadd, 1) := by decide +kernel
theorem dR_readWords_53 : decode bR_readWords 53 = .ok (.putfield 19, 3) := by decide +kernel
theorem dR_readWords_56 : decode bR_readWords 56 = .ok (.aload_n 0, 1) := by decide +kernel
theorem dR_readWords_57 : decode bR_readWords 57 = .ok (.invokevirtual 53, 3) := by decide +kernel
theorem dR_readWords_60 : decode bR_readWords 60 = .ok (.bipush 46, 2) := by decide +kernel
theorem dR_readWords_62 : decode bR_readWords 62 = .ok (.if_icmp .ne 11, 3) := by decide +kernel
theorem dR_readWords_65 : decode bR_readWords 65 = .ok (.aload_n 0, 1) := by decide +kernel
theorem dR_readWords_66 : decode bR_readWords 66 = .ok (.getfield 19, 3) := by decide +kernel
theorem dR_readWords_69 : decode bR_readWords 69 = .ok (.iload_n 1, 1) := by decide +kernel
theorem dR_readWords_70 : decode bR_readWords 70 = .ok (.if_icmp .ne 5, 3) := by decide +kernel
theorem dR_readWords_73 : decode bR_readWords 73 = .ok (.iconst 1, 1) := by decide +kernel
theorem dR_readWords_74 : decode bR_readWords 74 = .ok (.ireturn, 1) := by decide +kernel
theorem dR_readWords_75 : decode bR_readWords 75 = .ok (.aload_n 0, 1) := by decide +kernel
theorem dR_readWords_76 : decode bR_readWords 76 = .ok (.dup, 1) := by decide +kernel
theorem dR_readWords_77 : decode bR_readWords 77 = .ok (.getfield 26, 3) := by decide +kernel
theorem dR_readWords_80 : decode bR_readWords 80 = .ok (.iconst 1, 1) := by decide +kernel
theorem dR_readWords_81 : decode bR_readWords 81 = .ok (.iadd, 1) := by decide +kernel
theorem dR_readWords_82 : decode bR_readWords 82 = .ok (.putfield 26, 3) := by decide +kernel
theorem dR_readWords_85 : decode bR_readWords 85 = .ok (.iinc 2 1, 3) := by decide +kernel
theorem dR_readWords_88 : decode bR_readWords 88 = .ok (.goto (-81), 3) := by decide +kernel
theorem dR_readWords_91 : decode bR_readWords 91 = .ok (.iconst 1, 1) := by decide +kernel
theorem dR_readWords_92 : decode bR_readWords 92 = .ok (.ireturn, 1) := by decide +kernel
theorem dR_readWord_0 : decode bR_readWord 0 = .ok (.lconst 0, 1) := by decide +kernel
theorem dR_readWord_1 : decode bR_readWord 1 = .ok (.lstore_n 1, 1) := by decide +kernel
theorem dR_readWord_2 : decode bR_readWord 2 = .ok (.iconst 0, 1) := by decide +kernel
theorem dR_readWord_3 : decode bR_readWord 3 = .ok (.istore_n 3, 1) := by decide +kernel
theorem dR_readWord_4 : decode bR_readWord 4 = .ok (.iload_n 3, 1) := by decide +kernel
theorem dR_readWord_5 : decode bR_readWord 5 = .ok (.bipush 8, 2) := by decide +kernel
theorem dR_readWord_7 : decode bR_readWord 7 = .ok (.if_icmp .ge 46, 3) := by decide +kernel
theorem dR_readWord_10 : decode bR_readWord 10 = .ok (.aload_n 0, 1) := by decide +kernel
theorem dR_readWord_11 : decode bR_readWord 11 = .ok (.invokevirtual 53, 3) := by decide +kernel
theorem dR_readWord_14 : decode bR_readWord 14 = .ok (.invokestatic 102, 3) := by decide +kernel
theorem dR_readWord_17 : decode bR_readWord 17 = .ok (.ifCond .eq 36, 3) := by decide +kernel
theorem dR_readWord_20 : decode bR_readWord 20 = .ok (.lload_n 1, 1) := by decide +kernel
theorem dR_readWord_21 : decode bR_readWord 21 = .ok (.ldc2_w 105, 3) := by decide +kernel
theorem dR_readWord_24 : decode bR_readWord 24 = .ok (.lmul, 1) := by decide +kernel
theorem dR_readWord_25 : decode bR_readWord 25 = .ok (.aload_n 0, 1) := by decide +kernel
theorem dR_readWord_26 : decode bR_readWord 26 = .ok (.invokevirtual 53, 3) := by decide +kernel
theorem dR_readWord_29 : decode bR_readWord 29 = .ok (.bipush 97, 2) := by decide +kernel
theorem dR_readWord_31 : decode bR_readWord 31 = .ok (.isub, 1) := by decide +kernel
theorem dR_readWord_32 : decode bR_readWord 32 = .ok (.iconst 1, 1) := by decide +kernel
theorem dR_readWord_33 : decode bR_readWord 33 = .ok (.iadd, 1) := by decide +kernel
theorem dR_readWord_34 : decode bR_readWord 34 = .ok (.i2l, 1) := by decide +kernel
theorem dR_readWord_35 : decode bR_readWord 35 = .ok (.ladd, 1) := by decide +kernel
theorem dR_readWord_36 : decode bR_readWord 36 = .ok (.lstore_n 1, 1) := by decide +kernel
theorem dR_readWord_37 : decode bR_readWord 37 = .ok (.aload_n 0, 1) := by decide +kernel
theorem dR_readWord_38 : decode bR_readWord 38 = .ok (.dup, 1) := by decide +kernel
theorem dR_readWord_39 : decode bR_readWord 39 = .ok (.getfield 26, 3) := by decide +kernel
theorem dR_readWord_42 : decode bR_readWord 42 = .ok (.iconst 1, 1) := by decide +kernel
theorem dR_readWord_43 : decode bR_readWord 43 = .ok (.iadd, 1) := by decide +kernel
theorem dR_readWord_44 : decode bR_readWord 44 = .ok (.putfield 26, 3) := by decide +kernel
theorem dR_readWord_47 : decode bR_readWord 47 = .ok (.iinc 3 1, 3) := by decide +kernel
theorem dR_readWord_50 : decode bR_readWord 50 = .ok (.goto (-46), 3) := by decide +kernel
theorem dR_readWord_53 : decode bR_readWord 53 = .ok (.lload_n 1, 1) := by decide +kernel
theorem dR_readWord_54 : decode bR_readWord 54 = .ok (.lreturn, 1) := by decide +kernel
theorem dR_here_0 : decode bR_here 0 = .ok (.aload_n 0, 1) := by decide +kernel
theorem dR_here_1 : decode bR_here 1 = .ok (.getfield 26, 3) := by decide +kernel
theorem dR_here_4 : decode bR_here 4 = .ok (.ifCond .lt 38, 3) := by decide +kernel
theorem dR_here_7 : decode bR_here 7 = .ok (.aload_n 0, 1) := by decide +kernel
theorem dR_here_8 : decode bR_here 8 = .ok (.getfield 26, 3) := by decide +kernel
theorem dR_here_11 : decode bR_here 11 = .ok (.aload_n 0, 1) := by decide +kernel
theorem dR_here_12 : decode bR_here 12 = .ok (.getfield 23, 3) := by decide +kernel
theorem dR_here_15 : decode bR_here 15 = .ok (.if_icmp .ge 27, 3) := by decide +kernel
theorem dR_here_18 : decode bR_here 18 = .ok (.aload_n 0, 1) := by decide +kernel
theorem dR_here_19 : decode bR_here 19 = .ok (.getfield 26, 3) := by decide +kernel
theorem dR_here_22 : decode bR_here 22 = .ok (.aload_n 0, 1) := by decide +kernel
theorem dR_here_23 : decode bR_here 23 = .ok (.getfield 9, 3) := by decide +kernel
theorem dR_here_26 : decode bR_here 26 = .ok (.arraylength, 1) := by decide +kernel
theorem dR_here_27 : decode bR_here 27 = .ok (.if_icmp .ge 15, 3) := by decide +kernel
theorem dR_here_30 : decode bR_here 30 = .ok (.aload_n 0, 1) := by decide +kernel
theorem dR_here_31 : decode bR_here 31 = .ok (.getfield 9, 3) := by decide +kernel
theorem dR_here_34 : decode bR_here 34 = .ok (.aload_n 0, 1) := by decide +kernel
theorem dR_here_35 : decode bR_here 35 = .ok (.getfield 26, 3) := by decide +kernel
theorem dR_here_38 : decode bR_here 38 = .ok (.caload, 1) := by decide +kernel
theorem dR_here_39 : decode bR_here 39 = .ok (.goto 4, 3) := by decide +kernel
theorem dR_here_42 : decode bR_here 42 = .ok (.iconst 0, 1) := by decide +kernel
theorem dR_here_43 : decode bR_here 43 = .ok (.ireturn, 1) := by decide +kernel
theorem dR_isSign_0 : decode bR_isSign 0 = .ok (.iload_n 0, 1) := by decide +kernel
theorem dR_isSign_1 : decode bR_isSign 1 = .ok (.bipush 45, 2) := by decide +kernel
theorem dR_isSign_3 : decode bR_isSign 3 = .ok (.if_icmp .eq 29, 3) := by decide +kernel
theorem dR_isSign_6 : decode bR_isSign 6 = .ok (.iload_n 0, 1) := by decide +kernel
theorem dR_isSign_7 : decode bR_isSign 7 = .ok (.bipush 46, 2) := by decide +kernel
theorem dR_isSign_9 : decode bR_isSign 9 = .ok (.if_icmp .eq 23, 3) := by decide +kernel
theorem dR_isSign_12 : decode bR_isSign 12 = .ok (.iload_n 0, 1) := by decide +kernel
theorem dR_isSign_13 : decode bR_isSign 13 = .ok (.bipush 59, 2) := by decide +kernel
theorem dR_isSign_15 : decode bR_isSign 15 = .ok (.if_icmp .eq 17, 3) := by decide +kernel
theorem dR_isSign_18 : decode bR_isSign 18 = .ok (.iload_n 0, 1) := by decide +kernel
theorem dR_isSign_19 : decode bR_isSign 19 = .ok (.invokestatic 57, 3) := by decide +kernel
theorem dR_isSign_22 : decode bR_isSign 22 = .ok (.ifCond .ne 10, 3) := by decide +kernel
theorem dR_isSign_25 : decode bR_isSign 25 = .ok (.iload_n 0, 1) := by decide +kernel
theorem dR_isSign_26 : decode bR_isSign 26 = .ok (.invokestatic 102, 3) := by decide +kernel
theorem dR_isSign_29 : decode bR_isSign 29 = .ok (.ifCond .eq 7, 3) := by decide +kernel
theorem dR_isSign_32 : decode bR_isSign 32 = .ok (.iconst 1, 1) := by decide +kernel
theorem dR_isSign_33 : decode bR_isSign 33 = .ok (.goto 4, 3) := by decide +kernel
theorem dR_isSign_36 : decode bR_isSign 36 = .ok (.iconst 0, 1) := by decide +kernel
theorem dR_isSign_37 : decode bR_isSign 37 = .ok (.ireturn, 1) := by decide +kernel
theorem dR_isDigit_0 : decode bR_isDigit 0 = .ok (.iload_n 0, 1) := by decide +kernel
theorem dR_isDigit_1 : decode bR_isDigit 1 = .ok (.bipush 48, 2) := by decide +kernel
theorem dR_isDigit_3 : decode bR_isDigit 3 = .ok (.if_icmp .lt 13, 3) := by decide +kernel
theorem dR_isDigit_6 : decode bR_isDigit 6 = .ok (.iload_n 0, 1) := by decide +kernel
theorem dR_isDigit_7 : decode bR_isDigit 7 = .ok (.bipush 57, 2) := by decide +kernel
theorem dR_isDigit_9 : decode bR_isDigit 9 = .ok (.if_icmp .gt 7, 3) := by decide +kernel
theorem dR_isDigit_12 : decode bR_isDigit 12 = .ok (.iconst 1, 1) := by decide +kernel
theorem dR_isDigit_13 : decode bR_isDigit 13 = .ok (.goto 4, 3) := by decide +kernel
theorem dR_isDigit_16 : decode bR_isDigit 16 = .ok (.iconst 0, 1) := by decide +kernel
theorem dR_isDigit_17 : decode bR_isDigit 17 = .ok (.ireturn, 1) := by decide +kernel
theorem dR_isLetter_0 : decode bR_isLetter 0 = .ok (.iload_n 0, 1) := by decide +kernel
theorem dR_isLetter_1 : decode bR_isLetter 1 = .ok (.bipush 97, 2) := by decide +kernel
theorem dR_isLetter_3 : decode bR_isLetter 3 = .ok (.if_icmp .lt 13, 3) := by decide +kernel
theorem dR_isLetter_6 : decode bR_isLetter 6 = .ok (.iload_n 0, 1) := by decide +kernel
theorem dR_isLetter_7 : decode bR_isLetter 7 = .ok (.bipush 122, 2) := by decide +kernel
theorem dR_isLetter_9 : decode bR_isLetter 9 = .ok (.if_icmp .gt 7, 3) := by decide +kernel
theorem dR_isLetter_12 : decode bR_isLetter 12 = .ok (.iconst 1, 1) := by decide +kernel
theorem dR_isLetter_13 : decode bR_isLetter 13 = .ok (.goto 4, 3) := by decide +kernel
theorem dR_isLetter_16 : decode bR_isLetter 16 = .ok (.iconst 0, 1) := by decide +kernel
theorem dR_isLetter_17 : decode bR_isLetter 17 = .ok (.ireturn, 1) := by decide +kernel
set_option maxHeartbeats 4000000 in
set_option maxRecDepth 100000 in
theorem cR_length (l : Launch) (nx : Nat) (M : xH) (a : Nat) (sg : Nat → Int32) (wd : Nat → Int64) (cw n q : Nat) (fk fp : Int32) (hT : rAt M a sg wd cw n q fk fp) : xC l xcl yR_length (xw (Cond.code yR_length bR_length 1 (some .int))) ({ frames := 0, cells := 0, slots := 0, locals := 0 } : Room) [.ref (a)] nx M (x_is (some (.int (nI (n)))) nx M) := by
  obtain ⟨h0, h1, h2, hcw, hn4, hq4⟩ := id hT
  refine yC (by decide) (Nat.le_of_ble_eq_true rfl) ?_
  intro p e s m args below meth c D F hr hn
  refine x_aload_n F 0 dR_length_0 rfl rfl ?_
  refine x_get (ci := 3) F 3 (x_in inR) rfl (by decide) (x_m kfR_23) dR_length_1 h0 rfl ?_
  exact x_iret F hr dR_length_4 (x_is_i _ _ _)
set_option maxHeartbeats 4000000 in
set_option maxRecDepth 100000 in
theorem cR_wordCount (l : Launch) (nx : Nat) (M : xH) (a : Nat) (sg : Nat → Int32) (wd : Nat → Int64) (cw n q : Nat) (fk fp : Int32) (hT : rAt M a sg wd cw n q fk fp) : xC l xcl yR_wordCount (xw (Cond.code yR_wordCount bR_wordCount 1 (some .int))) ({ frames := 0, cells := 0, slots := 0, locals := 0 } : Room) [.ref (a)] nx M (x_is (some (.int (nI (cw)))) nx M) := by
  obtain ⟨h0, h1, h2, hcw, hn4, hq4⟩ := id hT
  refine yC (by decide) (Nat.le_of_ble_eq_true rfl) ?_
  intro p e s m args below meth c D F hr hn
  refine x_aload_n F 0 dR_wordCount_0 rfl rfl ?_
  refine x_get (ci := 3) F 2 (x_in inR) rfl (by decide) (x_m kfR_19) dR_wordCount_1 h0 rfl ?_
  exact x_iret F hr dR_wordCount_4 (x_is_i _ _ _)
set_option maxHeartbeats 4000000 in
set_option maxRecDepth 100000 in
theorem cR_failureKind (l : Launch) (nx : Nat) (M : xH) (a : Nat) (sg : Nat → Int32) (wd : Nat → Int64) (cw n q : Nat) (fk fp : Int32) (hT : rAt M a sg wd cw n q fk fp) : xC l xcl yR_failureKind (xw (Cond.code yR_failureKind bR_failureKind 1 (some .int))) ({ frames := 0, cells := 0, slots := 0, locals := 0 } : Room) [.ref (a)] nx M (x_is (some (.int (fk))) nx M) := by
  obtain ⟨h0, h1, h2, hcw, hn4, hq4⟩ := id hT
  refine yC (by decide) (Nat.le_of_ble_eq_true rfl) ?_
  intro p e s m args below meth c D F hr hn
  refine x_aload_n F 0 dR_failureKind_0 rfl rfl ?_
  refine x_get (ci := 3) F 5 (x_in inR) rfl (by decide) (x_m kfR_29) dR_failureKind_1 h0 rfl ?_
  exact x_iret F hr dR_failureKind_4 (x_is_i _ _ _)
set_option maxHeartbeats 4000000 in
set_option maxRecDepth 100000 in
theorem cR_failurePlace (l : Launch) (nx : Nat) (M : xH) (a : Nat) (sg : Nat → Int32) (wd : Nat → Int64) (cw n q : Nat) (fk fp : Int32) (hT : rAt M a sg wd cw n q fk fp) : xC l xcl yR_failurePlace (xw (Cond.code yR_failurePlace bR_failurePlace 1 (some .int))) ({ frames := 0, cells := 0, slots := 0, locals := 0 } : Room) [.ref (a)] nx M (x_is (some (.int (fp))) nx M) := by
  obtain ⟨h0, h1, h2, hcw, hn4, hq4⟩ := id hT
  refine yC (by decide) (Nat.le_of_ble_eq_true rfl) ?_
  intro p e s m args below meth c D F hr hn
  refine x_aload_n F 0 dR_failurePlace_0 rfl rfl ?_
  refine x_get (ci := 3) F 6 (x_in inR) rfl (by decide) (x_m kfR_32) dR_failurePlace_1 h0 rfl ?_
  exact x_iret F hr dR_failurePlace_4 (x_is_i _ _ _)
set_option maxHeartbeats 4000000 in
set_option maxRecDepth 100000 in
theorem cR_wordAt (l : Launch) (nx : Nat) (M : xH) (a : Nat) (sg : Nat → Int32) (wd : Nat → Int64) (cw n q : Nat) (fk fp : Int32) (hT : rAt M a sg wd cw n q fk fp) (j : Nat) (hj : j < cw) : xC l xcl yR_wordAt (xw (Cond.code yR_wordAt bR_wordAt 2 (some .long))) ({ frames := 0, cells := 0, slots := 0, locals := 0 } : Room) [.ref (a), .int (nI (j))] nx M (x_is (some (.long ((wd) (j)))) nx M) := by
  obtain ⟨h0, h1, h2, hcw, hn4, hq4⟩ := id hT
  refine yC (by decide) (Nat.le_of_ble_eq_true rfl) ?_
  intro p e s m args below meth c D F hr hn
  refine x_iload_n F 1 dR_wordAt_0 rfl rfl ?_
  refine x_if_lt F (tgt := 30) dR_wordAt_1 (by decide) (fun c1 => ?_) (fun c1 => ?_)
  · skip
    have c1 : j < 0 := by
      exact (nI_ltI (a := j) (b := 0) (by omega) (by omega)).mp c1
    exact absurd c1 (by omega)
  · skip
    have c1 : 0 ≤ j := by
      have z : ¬ (j < 0) := fun zz => c1 ((nI_ltI (a := j) (b := 0) (by omega) (by omega)).mpr zz)
      omega
    refine x_iload_n F 1 dR_wordAt_4 rfl rfl ?_
    refine x_aload_n F 0 dR_wordAt_5 rfl rfl ?_
    refine x_get (ci := 3) F 2 (x_in inR) rfl (by decide) (x_m kfR_19) dR_wordAt_6 h0 rfl ?_
    refine x_icmp_ge F (tgt := 30) dR_wordAt_9 (by decide) (fun c2 => ?_) (fun c2 => ?_)
    · skip
      have c2 : cw ≤ j := by
        exact (nI_leI (a := cw) (b := j) (by omega) (by omega)).mp c2
      exact absurd c2 (by omega)
    · skip
      have c2 : j < cw := by
        have z : ¬ (cw ≤ j) := fun zz => c2 ((nI_leI (a := cw) (b := j) (by omega) (by omega)).mpr zz)
        omega
      refine x_iload_n F 1 dR_wordAt_12 rfl rfl ?_
      refine x_aload_n F 0 dR_wordAt_13 rfl rfl ?_
      refine x_get (ci := 3) F 1 (x_in inR) rfl (by decide) (x_m kfR_15) dR_wordAt_14 h0 rfl ?_
      refine x_alen F (v := nI (6)) dR_wordAt_17 h2 rfl ?_
      refine x_icmp_ge F (tgt := 30) dR_wordAt_18 (by decide) (fun c3 => ?_) (fun c3 => ?_)
      · skip
        have c3 : 6 ≤ j := by
          exact (nI_leI (a := 6) (b := j) (by omega) (by omega)).mp c3
        exact absurd c3 (by omega)
      · skip
        have c3 : j < 6 := by
          have z : ¬ (6 ≤ j) := fun zz => c3 ((nI_leI (a := 6) (b := j) (by omega) (by omega)).mpr zz)
          omega
        refine x_aload_n F 0 dR_wordAt_21 rfl rfl ?_
        refine x_get (ci := 3) F 1 (x_in inR) rfl (by decide) (x_m kfR_15) dR_wordAt_22 h0 rfl ?_
        refine x_iload_n F 1 dR_wordAt_25 rfl rfl ?_
        refine x_lald F dR_wordAt_26 h2 (pk_in (j) (6) (by omega)) ?_
        refine xW.tol ((wd) (j)) (by rw [nI_clamp (by omega)]) ?_
        refine x_goto F (tgt := 31) dR_wordAt_27 (by decide) ?_
        exact x_lret F hr dR_wordAt_31 (x_is_i _ _ _)
set_option maxHeartbeats 4000000 in
set_option maxRecDepth 100000 in
theorem cR_isDigit (l : Launch) (nx : Nat) (M : xH) (j : Nat) (hj : j < 65536) : xC l xcl yR_isDigit (xw (Cond.code yR_isDigit bR_isDigit 1 (some .boolean))) ({ frames := 0, cells := 0, slots := 0, locals := 0 } : Room) [.int (nI (j))] nx M (x_is (some (.int (bI (dig j)))) nx M) := by
  refine yC (by decide) (Nat.le_of_ble_eq_true rfl) ?_
  intro p e s m args below meth c D F hr hn
  refine x_iload_n F 0 dR_isDigit_0 rfl rfl ?_
  refine x_bipush F (v := nI (48)) dR_isDigit_1 (by decide) ?_
  refine x_icmp_lt F (tgt := 16) dR_isDigit_3 (by decide) (fun c1 => ?_) (fun c1 => ?_)
  · skip
    have c1 : j < 48 := by
      exact (nI_ltI (a := j) (b := 48) (by omega) (by omega)).mp c1
    refine x_iconst F (v := nI (0)) dR_isDigit_16 (by decide) ?_
    exact x_zret F hr (by rfl) dR_isDigit_17 (x_f (by simp [dig]; omega))
  · skip
    have c1 : 48 ≤ j := by
      have z : ¬ (j < 48) := fun zz => c1 ((nI_ltI (a := j) (b := 48) (by omega) (by omega)).mpr zz)
      omega
    refine x_iload_n F 0 dR_isDigit_6 rfl rfl ?_
    refine x_bipush F (v := nI (57)) dR_isDigit_7 (by decide) ?_
    refine x_icmp_gt F (tgt := 16) dR_isDigit_9 (by decide) (fun c2 => ?_) (fun c2 => ?_)
    · skip
      have c2 : 57 < j := by
        exact (nI_ltI (a := 57) (b := j) (by omega) (by omega)).mp c2
      refine x_iconst F (v := nI (0)) dR_isDigit_16 (by decide) ?_
      exact x_zret F hr (by rfl) dR_isDigit_17 (x_f (by simp [dig]; omega))
    · skip
      have c2 : j ≤ 57 := by
        have z : ¬ (57 < j) := fun zz => c2 ((nI_ltI (a := 57) (b := j) (by omega) (by omega)).mpr zz)
        omega
      refine x_iconst F (v := nI (1)) dR_isDigit_12 (by decide) ?_
      refine x_goto F (tgt := 17) dR_isDigit_13 (by decide) ?_
      exact x_zret F hr (by rfl) dR_isDigit_17 (x_t (by simp [dig]; omega))
set_option maxHeartbeats 4000000 in
set_option maxRecDepth 100000 in
theorem cR_isDigitI (l : Launch) (nx : Nat) (M : xH) (i : Int32) : xC l xcl yR_isDigit (xw (Cond.code yR_isDigit bR_isDigit 1 (some .boolean))) ({ frames := 0, cells := 0, slots := 0, locals := 0 } : Room) [.int (i)] nx M (x_is (some (.int (bI (decide (nI 48 ≤ i) && decide (i ≤ nI 57))))) nx M) := by
  refine yC (by decide) (Nat.le_of_ble_eq_true rfl) ?_
  intro p e s m args below meth c D F hr hn
  refine x_iload_n F 0 dR_isDigit_0 rfl rfl ?_
  refine x_bipush F (v := nI (48)) dR_isDigit_1 (by decide) ?_
  refine x_icmp_lt F (tgt := 16) dR_isDigit_3 (by decide) (fun c1 => ?_) (fun c1 => ?_)
  · skip
    refine x_iconst F (v := nI (0)) dR_isDigit_16 (by decide) ?_
    exact x_zret F hr (by rfl) dR_isDigit_17 (x_f (by simp [Int32.not_le.mpr c1]))
  · skip
    refine x_iload_n F 0 dR_isDigit_6 rfl rfl ?_
    refine x_bipush F (v := nI (57)) dR_isDigit_7 (by decide) ?_
    refine x_icmp_gt F (tgt := 16) dR_isDigit_9 (by decide) (fun c2 => ?_) (fun c2 => ?_)
    · skip
      refine x_iconst F (v := nI (0)) dR_isDigit_16 (by decide) ?_
      exact x_zret F hr (by rfl) dR_isDigit_17 (x_f (by simp [Int32.not_le.mpr c2]))
    · skip
      refine x_iconst F (v := nI (1)) dR_isDigit_12 (by decide) ?_
      refine x_goto F (tgt := 17) dR_isDigit_13 (by decide) ?_
      exact x_zret F hr (by rfl) dR_isDigit_17 (x_t (by simp_all))
set_option maxHeartbeats 4000000 in
set_option maxRecDepth 100000 in
theorem cR_isLetter (l : Launch) (nx : Nat) (M : xH) (j : Nat) (hj : j < 65536) : xC l xcl yR_isLetter (xw (Cond.code yR_isLetter bR_isLetter 1 (some .boolean))) ({ frames := 0, cells := 0, slots := 0, locals := 0 } : Room) [.int (nI (j))] nx M (x_is (some (.int (bI (let_ j)))) nx M) := by
  refine yC (by decide) (Nat.le_of_ble_eq_true rfl) ?_
  intro p e s m args below meth c D F hr hn
  refine x_iload_n F 0 dR_isLetter_0 rfl rfl ?_
  refine x_bipush F (v := nI (97)) dR_isLetter_1 (by decide) ?_
  refine x_icmp_lt F (tgt := 16) dR_isLetter_3 (by decide) (fun c1 => ?_) (fun c1 => ?_)
  · skip
    have c1 : j < 97 := by
      exact (nI_ltI (a := j) (b := 97) (by omega) (by omega)).mp c1
    refine x_iconst F (v := nI (0)) dR_isLetter_16 (by decide) ?_
    exact x_zret F hr (by rfl) dR_isLetter_17 (x_f (by simp [let_]; omega))
  · skip
    have c1 : 97 ≤ j := by
      have z : ¬ (j < 97) := fun zz => c1 ((nI_ltI (a := j) (b := 97) (by omega) (by omega)).mpr zz)
      omega
    refine x_iload_n F 0 dR_isLetter_6 rfl rfl ?_
    refine x_bipush F (v := nI (122)) dR_isLetter_7 (by decide) ?_
    refine x_icmp_gt F (tgt := 16) dR_isLetter_9 (by decide) (fun c2 => ?_) (fun c2 => ?_)
    · skip
      have c2 : 122 < j := by
        exact (nI_ltI (a := 122) (b := j) (by omega) (by omega)).mp c2
      refine x_iconst F (v := nI (0)) dR_isLetter_16 (by decide) ?_
      exact x_zret F hr (by rfl) dR_isLetter_17 (x_f (by simp [let_]; omega))
    · skip
      have c2 : j ≤ 122 := by
        have z : ¬ (122 < j) := fun zz => c2 ((nI_ltI (a := 122) (b := j) (by omega) (by omega)).mpr zz)
        omega
      refine x_iconst F (v := nI (1)) dR_isLetter_12 (by decide) ?_
      refine x_goto F (tgt := 17) dR_isLetter_13 (by decide) ?_
      exact x_zret F hr (by rfl) dR_isLetter_17 (x_t (by simp [let_]; omega))
set_option maxHeartbeats 4000000 in
set_option maxRecDepth 100000 in
theorem cR_isLetterI (l : Launch) (nx : Nat) (M : xH) (i : Int32) : xC l xcl yR_isLetter (xw (Cond.code yR_isLetter bR_isLetter 1 (some .boolean))) ({ frames := 0, cells := 0, slots := 0, locals := 0 } : Room) [.int (i)] nx M (x_is (some (.int (bI (decide (nI 97 ≤ i) && decide (i ≤ nI 122))))) nx M) := by
  refine yC (by decide) (Nat.le_of_ble_eq_true rfl) ?_
  intro p e s m args below meth c D F hr hn
  refine x_iload_n F 0 dR_isLetter_0 rfl rfl ?_
  refine x_bipush F (v := nI (97)) dR_isLetter_1 (by decide) ?_
  refine x_icmp_lt F (tgt := 16) dR_isLetter_3 (by decide) (fun c1 => ?_) (fun c1 => ?_)
  · skip
    refine x_iconst F (v := nI (0)) dR_isLetter_16 (by decide) ?_
    exact x_zret F hr (by rfl) dR_isLetter_17 (x_f (by simp [Int32.not_le.mpr c1]))
  · skip
    refine x_iload_n F 0 dR_isLetter_6 rfl rfl ?_
    refine x_bipush F (v := nI (122)) dR_isLetter_7 (by decide) ?_
    refine x_icmp_gt F (tgt := 16) dR_isLetter_9 (by decide) (fun c2 => ?_) (fun c2 => ?_)
    · skip
      refine x_iconst F (v := nI (0)) dR_isLetter_16 (by decide) ?_
      exact x_zret F hr (by rfl) dR_isLetter_17 (x_f (by simp [Int32.not_le.mpr c2]))
    · skip
      refine x_iconst F (v := nI (1)) dR_isLetter_12 (by decide) ?_
      refine x_goto F (tgt := 17) dR_isLetter_13 (by decide) ?_
      exact x_zret F hr (by rfl) dR_isLetter_17 (x_t (by simp_all))
set_option maxHeartbeats 4000000 in
set_option maxRecDepth 100000 in
theorem cR_isSign (l : Launch) (nx : Nat) (M : xH) (i : Int32) : xC l xcl yR_isSign (xw (Cond.code yR_isSign bR_isSign 1 (some .boolean))) ({ frames := 1, cells := 0, slots := 0, locals := 20 } : Room) [.int (i)] nx M (x_is (some (.int (bI (sgn i)))) nx M) := by
  refine yC (by decide) (Nat.le_of_ble_eq_true rfl) ?_
  intro p e s m args below meth c D F hr hn
  refine x_iload_n F 0 dR_isSign_0 rfl rfl ?_
  refine x_bipush F (v := nI (45)) dR_isSign_1 (by decide) ?_
  refine x_icmp_eq F (tgt := 32) dR_isSign_3 (by decide) (fun c1 => ?_) (fun c1 => ?_)
  · skip
    refine x_iconst F (v := nI (1)) dR_isSign_32 (by decide) ?_
    refine x_goto F (tgt := 37) dR_isSign_33 (by decide) ?_
    exact x_zret F hr (by rfl) dR_isSign_37 (x_t (by simp_all [sgn]))
  · skip
    refine x_iload_n F 0 dR_isSign_6 rfl rfl ?_
    refine x_bipush F (v := nI (46)) dR_isSign_7 (by decide) ?_
    refine x_icmp_eq F (tgt := 32) dR_isSign_9 (by decide) (fun c2 => ?_) (fun c2 => ?_)
    · skip
      refine x_iconst F (v := nI (1)) dR_isSign_32 (by decide) ?_
      refine x_goto F (tgt := 37) dR_isSign_33 (by decide) ?_
      exact x_zret F hr (by rfl) dR_isSign_37 (x_t (by simp_all [sgn]))
    · skip
      refine x_iload_n F 0 dR_isSign_12 rfl rfl ?_
      refine x_bipush F (v := nI (59)) dR_isSign_13 (by decide) ?_
      refine x_icmp_eq F (tgt := 32) dR_isSign_15 (by decide) (fun c3 => ?_) (fun c3 => ?_)
      · skip
        refine x_iconst F (v := nI (1)) dR_isSign_32 (by decide) ?_
        refine x_goto F (tgt := 37) dR_isSign_33 (by decide) ?_
        exact x_zret F hr (by rfl) dR_isSign_37 (x_t (by simp_all [sgn]))
      · skip
        refine x_iload_n F 0 dR_isSign_18 rfl rfl ?_
        refine yS (n := 1) (As := [.int (i)]) F kmR_57 ktR_isDigit knR kcR_isDigit (by decide +kernel) dR_isSign_19 (cR_isDigitI l (nx) M (i)) rfl rfl (Nat.le_of_ble_eq_true rfl) ⟨Nat.le_of_ble_eq_true rfl, Nat.le_of_ble_eq_true rfl⟩ ⟨Nat.le_of_ble_eq_true rfl, Nat.le_of_ble_eq_true rfl⟩ ?_
        refine x_if_ne F (tgt := 32) dR_isSign_22 (by decide) (fun c4 => ?_) (fun c4 => ?_)
        · skip
          have c4 : (decide (nI 48 ≤ i) && decide (i ≤ nI 57)) = true := bI_1 c4
          refine x_iconst F (v := nI (1)) dR_isSign_32 (by decide) ?_
          refine x_goto F (tgt := 37) dR_isSign_33 (by decide) ?_
          exact x_zret F hr (by rfl) dR_isSign_37 (x_t (by simp_all [sgn]))
        · skip
          have c4 : (decide (nI 48 ≤ i) && decide (i ≤ nI 57)) = false := bI_0 c4
          refine x_iload_n F 0 dR_isSign_25 rfl rfl ?_
          refine yS (n := 1) (As := [.int (i)]) F kmR_102 ktR_isLetter knR kcR_isLetter (by decide +kernel) dR_isSign_26 (cR_isLetterI l (nx) M (i)) rfl rfl (Nat.le_of_ble_eq_true rfl) ⟨Nat.le_of_ble_eq_true rfl, Nat.le_of_ble_eq_true rfl⟩ ⟨Nat.le_of_ble_eq_true rfl, Nat.le_of_ble_eq_true rfl⟩ ?_
          refine x_if_eq F (tgt := 36) dR_isSign_29 (by decide) (fun c5 => ?_) (fun c5 => ?_)
          · skip
            have c5 : (decide (nI 97 ≤ i) && decide (i ≤ nI 122)) = false := bI_0 c5
            refine x_iconst F (v := nI (0)) dR_isSign_36 (by decide) ?_
            exact x_zret F hr (by rfl) dR_isSign_37 (x_f (by simp_all [sgn]))
          · skip
            have c5 : (decide (nI 97 ≤ i) && decide (i ≤ nI 122)) = true := bI_1 c5
            refine x_iconst F (v := nI (1)) dR_isSign_32 (by decide) ?_
            refine x_goto F (tgt := 37) dR_isSign_33 (by decide) ?_
            exact x_zret F hr (by rfl) dR_isSign_37 (x_t (by simp_all [sgn]))
set_option maxHeartbeats 4000000 in
set_option maxRecDepth 100000 in
theorem cR_here (l : Launch) (nx : Nat) (M : xH) (a : Nat) (sg : Nat → Int32) (wd : Nat → Int64) (cw n q : Nat) (fk fp : Int32) (hT : rAt M a sg wd cw n q fk fp) (tx : Nat → Nat) (hX : sAt sg tx n) : xC l xcl yR_here (xw (Cond.code yR_here bR_here 1 (some .char))) ({ frames := 0, cells := 0, slots := 0, locals := 0 } : Room) [.ref (a)] nx M (x_is (some (.int (nI (hx tx n q)))) nx M) := by
  obtain ⟨h0, h1, h2, hcw, hn4, hq4⟩ := id hT
  refine yC (by decide) (Nat.le_of_ble_eq_true rfl) ?_
  intro p e s m args below meth c D F hr hn
  refine x_aload_n F 0 dR_here_0 rfl rfl ?_
  refine x_get (ci := 3) F 4 (x_in inR) rfl (by decide) (x_m kfR_26) dR_here_1 h0 rfl ?_
  refine x_if_lt F (tgt := 42) dR_here_4 (by decide) (fun c1 => ?_) (fun c1 => ?_)
  · skip
    have c1 : q < 0 := by
      exact (nI_ltI (a := q) (b := 0) (by omega) (by omega)).mp c1
    exact absurd c1 (by omega)
  · skip
    have c1 : 0 ≤ q := by
      have z : ¬ (q < 0) := fun zz => c1 ((nI_ltI (a := q) (b := 0) (by omega) (by omega)).mpr zz)
      omega
    refine x_aload_n F 0 dR_here_7 rfl rfl ?_
    refine x_get (ci := 3) F 4 (x_in inR) rfl (by decide) (x_m kfR_26) dR_here_8 h0 rfl ?_
    refine x_aload_n F 0 dR_here_11 rfl rfl ?_
    refine x_get (ci := 3) F 3 (x_in inR) rfl (by decide) (x_m kfR_23) dR_here_12 h0 rfl ?_
    refine x_icmp_ge F (tgt := 42) dR_here_15 (by decide) (fun c2 => ?_) (fun c2 => ?_)
    · skip
      have c2 : n ≤ q := by
        exact (nI_leI (a := n) (b := q) (by omega) (by omega)).mp c2
      refine x_iconst F (v := nI (0)) dR_here_42 (by decide) ?_
      exact x_zret F hr (by rfl) dR_here_43 (x_e (by rw [hx, if_neg (by omega)]))
    · skip
      have c2 : q < n := by
        have z : ¬ (n ≤ q) := fun zz => c2 ((nI_leI (a := n) (b := q) (by omega) (by omega)).mpr zz)
        omega
      refine x_aload_n F 0 dR_here_18 rfl rfl ?_
      refine x_get (ci := 3) F 4 (x_in inR) rfl (by decide) (x_m kfR_26) dR_here_19 h0 rfl ?_
      refine x_aload_n F 0 dR_here_22 rfl rfl ?_
      refine x_get (ci := 3) F 0 (x_in inR) rfl (by decide) (x_m kfR_9) dR_here_23 h0 rfl ?_
      refine x_alen F (v := nI (400)) dR_here_26 h1 rfl ?_
      refine x_icmp_ge F (tgt := 42) dR_here_27 (by decide) (fun c3 => ?_) (fun c3 => ?_)
      · skip
        have c3 : 400 ≤ q := by
          exact (nI_leI (a := 400) (b := q) (by omega) (by omega)).mp c3
        exact absurd c3 (by omega)
      · skip
        have c3 : q < 400 := by
          have z : ¬ (400 ≤ q) := fun zz => c3 ((nI_leI (a := 400) (b := q) (by omega) (by omega)).mpr zz)
          omega
        refine x_aload_n F 0 dR_here_30 rfl rfl ?_
        refine x_get (ci := 3) F 0 (x_in inR) rfl (by decide) (x_m kfR_9) dR_here_31 h0 rfl ?_
        refine x_aload_n F 0 dR_here_34 rfl rfl ?_
        refine x_get (ci := 3) F 4 (x_in inR) rfl (by decide) (x_m kfR_26) dR_here_35 h0 rfl ?_
        refine x_cald F dR_here_38 h1 (pk_in (q) (400) (by omega)) ?_
        refine xW.toi (nI (tx (q))) (by rw [nI_clamp (by omega)]; exact (hX _ (by omega)).1) ?_
        refine x_goto F (tgt := 43) dR_here_39 (by decide) ?_
        exact x_zret F hr (chr_nar (by have := hX q (by omega); omega)) dR_here_43 (x_e (by rw [hx, if_pos (by omega)]))
set_option maxHeartbeats 4000000 in
set_option maxRecDepth 100000 in
theorem cR_countDashes (l : Launch) (nx : Nat) (M : xH) (a : Nat) (sg : Nat → Int32) (wd : Nat → Int64) (cw n q : Nat) (fk fp : Int32) (hT : rAt M a sg wd cw n q fk fp) (tx : Nat → Nat) (hX : sAt sg tx n) (hqn : q ≤ n) : xC l xcl yR_countDashes (xw (Cond.code yR_countDashes bR_countDashes 3 (some .int))) ({ frames := 0, cells := 0, slots := 0, locals := 0 } : Room) [.ref (a)] nx M (x_is (some (.int (nI (rn (fun c => decide (c = 45)) tx (n - q) q)))) nx M) := by
  obtain ⟨h0, h1, h2, hcw, hn4, hq4⟩ := id hT
  refine yC (by decide) (Nat.le_of_ble_eq_true rfl) ?_
  intro p e s m args below meth c D F hr hn
  have loop : ∀ (k : Nat) (i d : Nat), i + k = n → d ≤ i → rn (fun c => decide (c = 45)) tx (n - q) q = d + rn (fun c => decide (c = 45)) tx k i → xW p l e ({ frames := 0, cells := 0, slots := 0, locals := 0 } : Room) s m args below meth c D xcl (x_A M nx) 3 (MQ below (x_Q D xcl (x_A M nx) (x_is (some (.int (nI (rn (fun c => decide (c = 45)) tx (n - q) q)))) nx M)) args s 0 0 (x_A M nx)) 0 0 (nx) M 7 [(2, .int (nI (i))), (1, .int (nI (d))), (0, .ref (a))] [] := by
    intro k
    induction k with
    | zero =>
      intro i d hi hd hf
      refine x_iload_n F 0 dR_countDashes_7 rfl rfl ?_
      refine x_aload_n F 2 dR_countDashes_8 rfl rfl ?_
      refine x_get (ci := 3) F 3 (x_in inR) rfl (by decide) (x_m kfR_23) dR_countDashes_9 h0 rfl ?_
      refine x_icmp_ge F (tgt := 35) dR_countDashes_12 (by decide) (fun c1 => ?_) (fun c1 => ?_)
      · skip
        have c1 : n ≤ i := by
          exact (nI_leI (a := n) (b := i) (by omega) (by omega)).mp c1
        refine x_iload_n F 1 dR_countDashes_35 rfl rfl ?_
        exact x_iret F hr dR_countDashes_36 (x_e (by rw [hf]; rfl))
      · skip
        have c1 : i < n := by
          have z : ¬ (n ≤ i) := fun zz => c1 ((nI_leI (a := n) (b := i) (by omega) (by omega)).mpr zz)
          omega
        exact absurd c1 (by omega)
    | succ k ih =>
      intro i d hi hd hf
      refine x_iload_n F 0 dR_countDashes_7 rfl rfl ?_
      refine x_aload_n F 2 dR_countDashes_8 rfl rfl ?_
      refine x_get (ci := 3) F 3 (x_in inR) rfl (by decide) (x_m kfR_23) dR_countDashes_9 h0 rfl ?_
      refine x_icmp_ge F (tgt := 35) dR_countDashes_12 (by decide) (fun c2 => ?_) (fun c2 => ?_)
      · skip
        have c2 : n ≤ i := by
          exact (nI_leI (a := n) (b := i) (by omega) (by omega)).mp c2
        exact absurd c2 (by omega)
      · skip
        have c2 : i < n := by
          have z : ¬ (n ≤ i) := fun zz => c2 ((nI_leI (a := n) (b := i) (by omega) (by omega)).mpr zz)
          omega
        refine x_aload_n F 2 dR_countDashes_15 rfl rfl ?_
        refine x_get (ci := 3) F 0 (x_in inR) rfl (by decide) (x_m kfR_9) dR_countDashes_16 h0 rfl ?_
        refine x_iload_n F 0 dR_countDashes_19 rfl rfl ?_
        refine x_cald F dR_countDashes_20 h1 (pk_in (i) (400) (by omega)) ?_
        refine xW.toi (nI (tx (i))) (by rw [nI_clamp (by omega)]; exact (hX _ (by omega)).1) ?_
        have htx := (hX i (by omega)).2
        refine x_bipush F (v := nI (45)) dR_countDashes_21 (by decide) ?_
        refine x_icmp_ne F (tgt := 35) dR_countDashes_23 (by decide) (fun c3 => ?_) (fun c3 => ?_)
        · skip
          have c3 : tx (i) ≠ 45 := by
            have z : ¬ (tx (i) = 45) := fun zz => c3 ((nI_eq (a := tx (i)) (b := 45) (by omega) (by omega)).mpr zz)
            omega
          refine x_iload_n F 1 dR_countDashes_35 rfl rfl ?_
          exact x_iret F hr dR_countDashes_36 (x_e (by rw [hf, rn_s, if_neg (by simpa using c3)]; rfl))
        · skip
          have c3 : tx (i) = 45 := by
            exact (nI_eq (a := tx (i)) (b := 45) (by omega) (by omega)).mp c3
          refine x_iinc F 1 [(1, .int (nI (d + 1))), (2, .int (nI (i))), (0, .ref (a))] dR_countDashes_26 rfl (nI_add (d) 1) (by decide) rfl ?_
          refine x_iinc F 1 [(2, .int (nI (i + 1))), (1, .int (nI (d + 1))), (0, .ref (a))] dR_countDashes_29 rfl (nI_add (i) 1) (by decide) rfl ?_
          refine x_goto F (tgt := 7) dR_countDashes_32 (by decide) ?_
          exact ih (i + 1) (d + 1) (by omega) (by omega) (by rw [hf, rn_s, if_pos (by simpa using c3)]; omega)
  refine x_iconst F (v := nI (0)) dR_countDashes_0 (by decide) ?_
  refine x_istore_n F [(1, .int (nI (0))), (0, .ref (a))] dR_countDashes_1 rfl (by decide) rfl ?_
  refine x_aload_n F 1 dR_countDashes_2 rfl rfl ?_
  refine x_get (ci := 3) F 4 (x_in inR) rfl (by decide) (x_m kfR_26) dR_countDashes_3 h0 rfl ?_
  refine x_istore_n F [(2, .int (nI (q))), (1, .int (nI (0))), (0, .ref (a))] dR_countDashes_6 rfl (by decide) rfl ?_
  exact loop (n - q) q 0 (by omega) (by omega) (by omega)
