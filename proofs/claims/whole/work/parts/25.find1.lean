/-! Findings at a: codes at a + 1, points at a + 2 -/
def fAt (M : xH) (a : Nat) (cd : Nat → Int64) (pt : Nat → Int32) (n : Nat) : Prop :=
  M a = some (.inr (1, [.ref (a + 1), .ref (a + 2), .int (nI n)])) ∧ M (a + 1) = some (.inl (.long, 40, .inr (.inl cd))) ∧ M (a + 2) = some (.inl (.int, 40, .inl pt)) ∧ n ≤ 40
theorem dF_init_0 : decode bF_init 0 = .ok (.aload_n 0, 1) := by decide +kernel
theorem dF_init_1 : decode bF_init 1 = .ok (.invokespecial 3, 3) := by decide +kernel
theorem dF_init_4 : decode bF_init 4 = .ok (.aload_n 0, 1) := by decide +kernel
theorem dF_init_5 : decode bF_init 5 = .ok (.bipush 40, 2) := by decide +kernel
theorem dF_init_7 : decode bF_init 7 = .ok (.newarray .long, 2) := by decide +kernel
theorem dF_init_9 : decode bF_init 9 = .ok (.putfield 9, 3) := by decide +kernel
theorem dF_init_12 : decode bF_init 12 = .ok (.aload_n 0, 1) := by decide +kernel
theorem dF_init_13 : decode bF_init 13 = .ok (.bipush 40, 2) := by decide +kernel
theorem dF_init_15 : decode bF_init 15 = .ok (.newarray .int, 2) := by decide +kernel
theorem dF_init_17 : decode bF_init 17 = .ok (.putfield 15, 3) := by decide +kernel
theorem dF_init_20 : decode bF_init 20 = .ok (.aload_n 0, 1) := by decide +kernel
theorem dF_init_21 : decode bF_init 21 = .ok (.iconst 0, 1) := by decide +kernel
theorem dF_init_22 : decode bF_init 22 = .ok (.putfield 19, 3) := by decide +kernel
theorem dF_init_25 : decode bF_init 25 = .ok (.return_, 1) := by decide +kernel
theorem dF_clear_0 : decode bF_clear 0 = .ok (.aload_n 0, 1) := by decide +kernel
theorem dF_clear_1 : decode bF_clear 1 = .ok (.iconst 0, 1) := by decide +kernel
theorem dF_clear_2 : decode bF_clear 2 = .ok (.putfield 19, 3) := by decide +kernel
theorem dF_clear_5 : decode bF_clear 5 = .ok (.return_, 1) := by decide +kernel
theorem dF_size_0 : decode bF_size 0 = .ok (.aload_n 0, 1) := by decide +kernel
theorem dF_size_1 : decode bF_size 1 = .ok (.getfield 19, 3) := by decide +kernel
theorem dF_size_4 : decode bF_size 4 = .ok (.ireturn, 1) := by decide +kernel
theorem dF_has_0 : decode bF_has 0 = .ok (.iload_n 1, 1) := by decide +kernel
theorem dF_has_1 : decode bF_has 1 = .ok (.ifCond .lt 21, 3) := by decide +kernel
theorem dF_has_4 : decode bF_has 4 = .ok (.iload_n 1, 1) := by decide +kernel
theorem dF_has_5 : decode bF_has 5 = .ok (.aload_n 0, 1) := by decide +kernel
theorem dF_has_6 : decode bF_has 6 = .ok (.getfield 19, 3) := by decide +kernel
theorem dF_has_9 : decode bF_has 9 = .ok (.if_icmp .ge 13, 3) := by decide +kernel
theorem dF_has_12 : decode bF_has 12 = .ok (.iload_n 1, 1) := by decide +kernel
theorem dF_has_13 : decode bF_has 13 = .ok (.bipush 40, 2) := by decide +kernel
theorem dF_has_15 : decode bF_has 15 = .ok (.if_icmp .ge 7, 3) := by decide +kernel
theorem dF_has_18 : decode bF_has 18 = .ok (.iconst 1, 1) := by decide +kernel
theorem dF_has_19 : decode bF_has 19 = .ok (.goto 4, 3) := by decide +kernel
theorem dF_has_22 : decode bF_has 22 = .ok (.iconst 0, 1) := by decide +kernel
theorem dF_has_23 : decode bF_has 23 = .ok (.ireturn, 1) := by decide +kernel
theorem dF_codeOf_0 : decode bF_codeOf 0 = .ok (.aload_n 0, 1) := by decide +kernel
theorem dF_codeOf_1 : decode bF_codeOf 1 = .ok (.iload_n 1, 1) := by decide +kernel
theorem dF_codeOf_2 : decode bF_codeOf 2 = .ok (.invokevirtual 23, 3) := by decide +kernel
theorem dF_codeOf_5 : decode bF_codeOf 5 = .ok (.ifCond .eq 12, 3) := by decide +kernel
theorem dF_codeOf_8 : decode bF_codeOf 8 = .ok (.aload_n 0, 1) := by decide +kernel
theorem dF_codeOf_9 : decode bF_codeOf 9 = .ok (.getfield 9, 3) := by decide +kernel
theorem dF_codeOf_12 : decode bF_codeOf 12 = .ok (.iload_n 1, 1) := by decide +kernel
theorem dF_codeOf_13 : decode bF_codeOf 13 = .ok (.laload, 1) := by decide +kernel
theorem dF_codeOf_14 : decode bF_codeOf 14 = .ok (.goto 4, 3) := by decide +kernel
theorem dF_codeOf_17 : decode bF_codeOf 17 = .ok (.lconst 0, 1) := by decide +kernel
theorem dF_codeOf_18 : decode bF_codeOf 18 = .ok (.lreturn, 1) := by decide +kernel
theorem dF_pointsAt_0 : decode bF_pointsAt 0 = .ok (.aload_n 0, 1) := by decide +kernel
theorem dF_pointsAt_1 : decode bF_pointsAt 1 = .ok (.iload_n 1, 1) := by decide +kernel
theorem dF_pointsAt_2 : decode bF_pointsAt 2 = .ok (.invokevirtual 23, 3) := by decide +kernel
theorem dF_pointsAt_5 : decode bF_pointsAt 5 = .ok (.ifCond .eq 12, 3) := by decide +kernel
theorem dF_pointsAt_8 : decode bF_pointsAt 8 = .ok (.aload_n 0, 1) := by decide +kernel
theorem dF_pointsAt_9 : decode bF_pointsAt 9 = .ok (.getfield 15, 3) := by decide +kernel
theorem dF_pointsAt_12 : decode bF_pointsAt 12 = .ok (.iload_n 1, 1) := by decide +kernel
theorem dF_pointsAt_13 : decode bF_pointsAt 13 = .ok (.iaload, 1) := by decide +kernel
theorem dF_pointsAt_14 : decode bF_pointsAt 14 = .ok (.goto 4, 3) := by decide +kernel
theorem dF_pointsAt_17 : decode bF_pointsAt 17 = .ok (.iconst 0, 1) := by decide +kernel
theorem dF_pointsAt_18 : decode bF_pointsAt 18 = .ok (.ireturn, 1) := by decide +kernel
theorem dF_add_0 : decode bF_add 0 = .ok (.iload_n 3, 1) := by decide +kernel
theorem dF_add_1 : decode bF_add 1 = .ok (.ifCond .le 12, 3) := by decide +kernel
theorem dF_add_4 : decode bF_add 4 = .ok (.aload_n 0, 1) := by decide +kernel
theorem dF_add_5 : decode bF_add 5 = .ok (.getfield 19, 3) := by decide +kernel
theorem dF_add_8 : decode bF_add 8 = .ok (.bipush 40, 2) := by decide +kernel
theorem dF_add_10 : decode bF_add 10 = .ok (.if_icmp .lt 4, 3) := by decide +kernel
theorem dF_add_13 : decode bF_add 13 = .ok (.return_, 1) := by decide +kernel
theorem dF_add_14 : decode bF_add 14 = .ok (.aload_n 0, 1) := by decide +kernel
theorem dF_add_15 : decode bF_add 15 = .ok (.getfield 19, 3) := by decide +kernel
theorem dF_add_18 : decode bF_add 18 = .ok (.istore 4, 2) := by decide +kernel
theorem dF_add_20 : decode bF_add 20 = .ok (.iload 4, 2) := by decide +kernel
theorem dF_add_22 : decode bF_add 22 = .ok (.ifCond .le 54, 3) := by decide +kernel
theorem dF_add_25 : decode bF_add 25 = .ok (.aload_n 0, 1) := by decide +kernel
theorem dF_add_26 : decode bF_add 26 = .ok (.getfield 15, 3) := by decide +kernel
theorem dF_add_29 : decode bF_add 29 = .ok (.iload 4, 2) := by decide +kernel
theorem dF_add_31 : decode bF_add 31 = .ok (.iconst 1, 1) := by decide +kernel
theorem dF_add_32 : decode bF_add 32 = .ok (.isub, 1) := by decide +kernel
theorem dF_add_33 : decode bF_add 33 = .ok (.iaload, 1) := by decide +kernel
theorem dF_add_34 : decode bF_add 34 = .ok (.iload_n 3, 1) := by decide +kernel
theorem dF_add_35 : decode bF_add 35 = .ok (.if_icmp .ge 41, 3) := by decide +kernel
theorem dF_add_38 : decode bF_add 38 = .ok (.aload_n 0, 1) := by decide +kernel
theorem dF_add_39 : decode bF_add 39 = .ok (.getfield 9, 3) := by decide +kernel
theorem dF_add_42 : decode bF_add 42 = .ok (.iload 4, 2) := by decide +kernel
theorem dF_add_44 : decode bF_add 44 = .ok (.aload_n 0, 1) := by decide +kernel
theorem dF_add_45 : decode bF_add 45 = .ok (.getfield 9, 3) := by decide +kernel
theorem dF_add_48 : decode bF_add 48 = .ok (.iload 4, 2) := by decide +kernel
theorem dF_add_50 : decode bF_add 50 = .ok (.iconst 1, 1) := by decide +kernel
theorem dF_add_51 : decode bF_add 51 = .ok (.isub, 1) := by decide +kernel
theorem dF_add_52 : decode bF_add 52 = .ok (.laload, 1) := by decide +kernel
theorem dF_add_53 : decode bF_add 53 = .ok (.lastore, 1) := by decide +kernel
theorem dF_add_54 : decode bF_add 54 = .ok (.aload_n 0, 1) := by decide +kernel
theorem dF_add_55 : decode bF_add 55 = .ok (.getfield 15, 3) := by decide +kernel
theorem dF_add_58 : decode bF_add 58 = .ok (.iload 4, 2) := by decide +kernel
theorem dF_add_60 : decode bF_add 60 = .ok (.aload_n 0, 1) := by decide +kernel
theorem dF_add_61 : decode bF_add 61 = .ok (.getfield 15, 3) := by decide +kernel
theorem dF_add_64 : decode bF_add 64 = .ok (.iload 4, 2) := by decide +kernel
theorem dF_add_66 : decode bF_add 66 = .ok (.iconst 1, 1) := by decide +kernel
theorem dF_add_67 : decode bF_add 67 = .ok (.isub, 1) := by decide +kernel
theorem dF_add_68 : decode bF_add 68 = .ok (.iaload, 1) := by decide +kernel
theorem dF_add_69 : decode bF_add 69 = .ok (.iastore, 1) := by decide +kernel
theorem dF_add_70 : decode bF_add 70 = .ok (.iinc 4 (-1), 3) := by decide +kernel
theorem dF_add_73 : decode bF_add 73 = .ok (.goto (-53), 3) := by decide +kernel
theorem dF_add_76 : decode bF_add 76 = .ok (.aload_n 0, 1) := by decide +kernel
theorem dF_add_77 : decode bF_add 77 = .ok (.getfield 9, 3) := by decide +kernel
theorem dF_add_80 : decode bF_add 80 = .ok (.iload 4, 2) := by decide +kernel
theorem dF_add_82 : decode bF_add 82 = .ok (.lload_n 1, 1) := by decide +kernel
theorem dF_add_83 : decode bF_add 83 = .ok (.lastore, 1) := by decide +kernel
theorem dF_add_84 : decode bF_add 84 = .ok (.aload_n 0, 1) := by decide +kernel
theorem dF_add_85 : decode bF_add 85 = .ok (.getfield 15, 3) := by decide +kernel
theorem dF_add_88 : decode bF_add 88 = .ok (.iload 4, 2) := by decide +kernel
theorem dF_add_90 : decode bF_add 90 = .ok (.iload_n 3, 1) := by decide +kernel
theorem dF_add_91 : decode bF_add 91 = .ok (.iastore, 1) := by decide +kernel
theorem dF_add_92 : decode bF_add 92 = .ok (.aload_n 0, 1) := by decide +kernel
theorem dF_add_93 : decode bF_add 93 = .ok (.dup, 1) := by decide +kernel
theorem dF_add_94 : decode bF_add 94 = .ok (.getfield 19, 3) := by decide +kernel
theorem dF_add_97 : decode bF_add 97 = .ok (.iconst 1, 1) := by decide +kernel
theorem dF_add_98 : decode bF_add 98 = .ok (.iadd, 1) := by decide +kernel
theorem dF_add_99 : decode bF_add 99 = .ok (.putfield 19, 3) := by decide +kernel
theorem dF_add_102 : decode bF_add 102 = .ok (.return_, 1) := by decide +kernel
set_option maxHeartbeats 4000000 in
set_option maxRecDepth 100000 in
theorem cF_size (l : Launch) (nx : Nat) (M : xH) (a : Nat) (cd : Nat → Int64) (pt : Nat → Int32) (n : Nat) (hT : fAt M a cd pt n) : xC l xcl yF_size (xw (Cond.code yF_size bF_size 1 (some .int))) ({ frames := 0, cells := 0, slots := 0, locals := 0 } : Room) [.ref (a)] nx M (x_is (some (.int (nI (n)))) nx M) := by
  obtain ⟨h0, h1, h2, hz⟩ := id hT
  refine yC (by decide) (Nat.le_of_ble_eq_true rfl) ?_
  intro p e s m args below meth c D F hr hn
  refine x_aload_n F 0 dF_size_0 rfl rfl ?_
  refine x_get (ci := 1) F 2 (x_in inF) rfl (by decide) (x_m kfF_19) dF_size_1 h0 rfl ?_
  exact x_iret F hr dF_size_4 (x_is_i _ _ _)
set_option maxHeartbeats 4000000 in
set_option maxRecDepth 100000 in
theorem cF_has (l : Launch) (nx : Nat) (M : xH) (a : Nat) (cd : Nat → Int64) (pt : Nat → Int32) (n : Nat) (hT : fAt M a cd pt n) (j : Nat) (hj : j < n) : xC l xcl yF_has (xw (Cond.code yF_has bF_has 2 (some .boolean))) ({ frames := 0, cells := 0, slots := 0, locals := 0 } : Room) [.ref (a), .int (nI (j))] nx M (x_is (some (.int (nI (1)))) nx M) := by
  obtain ⟨h0, h1, h2, hz⟩ := id hT
  refine yC (by decide) (Nat.le_of_ble_eq_true rfl) ?_
  intro p e s m args below meth c D F hr hn
  refine x_iload_n F 1 dF_has_0 rfl rfl ?_
  refine x_if_lt F (tgt := 22) dF_has_1 (by decide) (fun c1 => ?_) (fun c1 => ?_)
  · skip
    have c1 : j < 0 := by
      exact (nI_ltI (a := j) (b := 0) (by omega) (by omega)).mp c1
    exact absurd c1 (by omega)
  · skip
    have c1 : 0 ≤ j := by
      have z : ¬ (j < 0) := fun zz => c1 ((nI_ltI (a := j) (b := 0) (by omega) (by omega)).mpr zz)
      omega
    refine x_iload_n F 1 dF_has_4 rfl rfl ?_
    refine x_aload_n F 0 dF_has_5 rfl rfl ?_
    refine x_get (ci := 1) F 2 (x_in inF) rfl (by decide) (x_m kfF_19) dF_has_6 h0 rfl ?_
    refine x_icmp_ge F (tgt := 22) dF_has_9 (by decide) (fun c2 => ?_) (fun c2 => ?_)
    · skip
      have c2 : n ≤ j := by
        exact (nI_leI (a := n) (b := j) (by omega) (by omega)).mp c2
      exact absurd c2 (by omega)
    · skip
      have c2 : j < n := by
        have z : ¬ (n ≤ j) := fun zz => c2 ((nI_leI (a := n) (b := j) (by omega) (by omega)).mpr zz)
        omega
      refine x_iload_n F 1 dF_has_12 rfl rfl ?_
      refine x_bipush F (v := nI (40)) dF_has_13 (by decide) ?_
      refine x_icmp_ge F (tgt := 22) dF_has_15 (by decide) (fun c3 => ?_) (fun c3 => ?_)
      · skip
        have c3 : 40 ≤ j := by
          exact (nI_leI (a := 40) (b := j) (by omega) (by omega)).mp c3
        exact absurd c3 (by omega)
      · skip
        have c3 : j < 40 := by
          have z : ¬ (40 ≤ j) := fun zz => c3 ((nI_leI (a := 40) (b := j) (by omega) (by omega)).mpr zz)
          omega
        refine x_iconst F (v := nI (1)) dF_has_18 (by decide) ?_
        refine x_goto F (tgt := 23) dF_has_19 (by decide) ?_
        exact x_zret F hr (by rfl) dF_has_23 (x_is_i _ _ _)
set_option maxHeartbeats 4000000 in
set_option maxRecDepth 100000 in
theorem cF_hasN (l : Launch) (nx : Nat) (M : xH) (a : Nat) (cd : Nat → Int64) (pt : Nat → Int32) (n : Nat) (hT : fAt M a cd pt n) (i : Int32) (hi : ¬ vp_in i n) : xC l xcl yF_has (xw (Cond.code yF_has bF_has 2 (some .boolean))) ({ frames := 0, cells := 0, slots := 0, locals := 0 } : Room) [.ref (a), .int (i)] nx M (x_is (some (.int (nI (0)))) nx M) := by
  obtain ⟨h0, h1, h2, hz⟩ := id hT
  refine yC (by decide) (Nat.le_of_ble_eq_true rfl) ?_
  intro p e s m args below meth c D F hr hn
  refine x_iload_n F 1 dF_has_0 rfl rfl ?_
  refine x_if_lt F (tgt := 22) dF_has_1 (by decide) (fun c1 => ?_) (fun c1 => ?_)
  · skip
    refine x_iconst F (v := nI (0)) dF_has_22 (by decide) ?_
    exact x_zret F hr (by rfl) dF_has_23 (x_is_i _ _ _)
  · skip
    refine x_iload_n F 1 dF_has_4 rfl rfl ?_
    refine x_aload_n F 0 dF_has_5 rfl rfl ?_
    refine x_get (ci := 1) F 2 (x_in inF) rfl (by decide) (x_m kfF_19) dF_has_6 h0 rfl ?_
    refine x_icmp_ge F (tgt := 22) dF_has_9 (by decide) (fun c2 => ?_) (fun c2 => ?_)
    · skip
      refine x_iconst F (v := nI (0)) dF_has_22 (by decide) ?_
      exact x_zret F hr (by rfl) dF_has_23 (x_is_i _ _ _)
    · skip
      exact absurd (x_out (by omega) hi c1 c2) id
set_option maxHeartbeats 4000000 in
set_option maxRecDepth 100000 in
theorem cF_codeOf (l : Launch) (nx : Nat) (M : xH) (a : Nat) (cd : Nat → Int64) (pt : Nat → Int32) (n : Nat) (hT : fAt M a cd pt n) (j : Nat) (hj : j < n) : xC l xcl yF_codeOf (xw (Cond.code yF_codeOf bF_codeOf 2 (some .long))) ({ frames := 1, cells := 0, slots := 0, locals := 21 } : Room) [.ref (a), .int (nI (j))] nx M (x_is (some (.long ((cd) (j)))) nx M) := by
  obtain ⟨h0, h1, h2, hz⟩ := id hT
  refine yC (by decide) (Nat.le_of_ble_eq_true rfl) ?_
  intro p e s m args below meth c D F hr hn
  refine x_aload_n F 0 dF_codeOf_0 rfl rfl ?_
  refine x_iload_n F 1 dF_codeOf_1 rfl rfl ?_
  refine yV (n := 1) (As := [.int (nI (j))]) (ci := 1) F kmF_23 kiF_has ksF_has knF kcF_has (by decide +kernel) dF_codeOf_2 (cF_has l (nx) M (a) cd pt n hT j hj) rfl h0 rfl rfl (Nat.le_of_ble_eq_true rfl) ⟨Nat.le_of_ble_eq_true rfl, Nat.le_of_ble_eq_true rfl⟩ ⟨Nat.le_of_ble_eq_true rfl, Nat.le_of_ble_eq_true rfl⟩ ?_
  refine x_if_eq F (tgt := 17) dF_codeOf_5 (by decide) (fun c1 => ?_) (fun c1 => ?_)
  · skip
    have c1 : 1 = 0 := by
      exact (nI_eq (a := 1) (b := 0) (by omega) (by omega)).mp c1
    exact absurd c1 (by decide)
  · skip
    have c1 : 1 ≠ 0 := by
      have z : ¬ (1 = 0) := fun zz => c1 ((nI_eq (a := 1) (b := 0) (by omega) (by omega)).mpr zz)
      omega
    refine x_aload_n F 0 dF_codeOf_8 rfl rfl ?_
    refine x_get (ci := 1) F 0 (x_in inF) rfl (by decide) (x_m kfF_9) dF_codeOf_9 h0 rfl ?_
    refine x_iload_n F 1 dF_codeOf_12 rfl rfl ?_
    refine x_lald F dF_codeOf_13 h1 (pk_in (j) (40) (by omega)) ?_
    refine xW.tol ((cd) (j)) (by rw [nI_clamp (by omega)]) ?_
    refine x_goto F (tgt := 18) dF_codeOf_14 (by decide) ?_
    exact x_lret F hr dF_codeOf_18 (x_is_i _ _ _)
set_option maxHeartbeats 4000000 in
set_option maxRecDepth 100000 in
theorem cF_pointsAt (l : Launch) (nx : Nat) (M : xH) (a : Nat) (cd : Nat → Int64) (pt : Nat → Int32) (n : Nat) (hT : fAt M a cd pt n) (j : Nat) (hj : j < n) : xC l xcl yF_pointsAt (xw (Cond.code yF_pointsAt bF_pointsAt 2 (some .int))) ({ frames := 1, cells := 0, slots := 0, locals := 21 } : Room) [.ref (a), .int (nI (j))] nx M (x_is (some (.int ((pt) (j)))) nx M) := by
  obtain ⟨h0, h1, h2, hz⟩ := id hT
  refine yC (by decide) (Nat.le_of_ble_eq_true rfl) ?_
  intro p e s m args below meth c D F hr hn
  refine x_aload_n F 0 dF_pointsAt_0 rfl rfl ?_
  refine x_iload_n F 1 dF_pointsAt_1 rfl rfl ?_
  refine yV (n := 1) (As := [.int (nI (j))]) (ci := 1) F kmF_23 kiF_has ksF_has knF kcF_has (by decide +kernel) dF_pointsAt_2 (cF_has l (nx) M (a) cd pt n hT j hj) rfl h0 rfl rfl (Nat.le_of_ble_eq_true rfl) ⟨Nat.le_of_ble_eq_true rfl, Nat.le_of_ble_eq_true rfl⟩ ⟨Nat.le_of_ble_eq_true rfl, Nat.le_of_ble_eq_true rfl⟩ ?_
  refine x_if_eq F (tgt := 17) dF_pointsAt_5 (by decide) (fun c1 => ?_) (fun c1 => ?_)
  · skip
    have c1 : 1 = 0 := by
      exact (nI_eq (a := 1) (b := 0) (by omega) (by omega)).mp c1
    exact absurd c1 (by decide)
  · skip
    have c1 : 1 ≠ 0 := by
      have z : ¬ (1 = 0) := fun zz => c1 ((nI_eq (a := 1) (b := 0) (by omega) (by omega)).mpr zz)
      omega
    refine x_aload_n F 0 dF_pointsAt_8 rfl rfl ?_
    refine x_get (ci := 1) F 1 (x_in inF) rfl (by decide) (x_m kfF_15) dF_pointsAt_9 h0 rfl ?_
    refine x_iload_n F 1 dF_pointsAt_12 rfl rfl ?_
    refine x_iald F dF_pointsAt_13 h2 (pk_in (j) (40) (by omega)) ?_
    refine xW.toi ((pt) (j)) (by rw [nI_clamp (by omega)]) ?_
    refine x_goto F (tgt := 18) dF_pointsAt_14 (by decide) ?_
    exact x_iret F hr dF_pointsAt_18 (x_is_i _ _ _)
