/-! codes: cut from the end until it is no longer greater; filled up to eleven digits; behind -/
def bw (y : Int64) : Nat → Int64 → Int64
  | 0, h => h
  | k + 1, h => if y < h then bw y k (h / 10) else h
theorem bw_s (y : Int64) (k : Nat) (h : Int64) : bw y (k + 1) h = if y < h then bw y k (h / 10) else h := rfl
def fl : Nat → Int64 → Int64
  | 0, h => h
  | k + 1, h => if h < 10000000000 then fl k (h * 10) else h
theorem fl_s (k : Nat) (h : Int64) : fl (k + 1) h = if h < 10000000000 then fl k (h * 10) else h := rfl
def cb (x y : Int64) : Bool := if fl 10 x = fl 10 y then decide (y < x) else decide (fl 10 y < fl 10 x)
theorem dC_isChapter_0 : decode bC_isChapter 0 = .ok (.lload_n 0, 1) := by decide +kernel
theorem dC_isChapter_1 : decode bC_isChapter 1 = .ok (.ldc2_w 11, 3) := by decide +kernel
theorem dC_isChapter_4 : decode bC_isChapter 4 = .ok (.lcmp, 1) := by decide +kernel
theorem dC_isChapter_5 : decode bC_isChapter 5 = .ok (.ifCond .ge 7, 3) := by decide +kernel
theorem dC_isChapter_8 : decode bC_isChapter 8 = .ok (.iconst 1, 1) := by decide +kernel
theorem dC_isChapter_9 : decode bC_isChapter 9 = .ok (.goto 4, 3) := by decide +kernel
theorem dC_isChapter_12 : decode bC_isChapter 12 = .ok (.iconst 0, 1) := by decide +kernel
theorem dC_isChapter_13 : decode bC_isChapter 13 = .ok (.ireturn, 1) := by decide +kernel
theorem dC_beginsWith_0 : decode bC_beginsWith 0 = .ok (.lload_n 0, 1) := by decide +kernel
theorem dC_beginsWith_1 : decode bC_beginsWith 1 = .ok (.lstore 4, 2) := by decide +kernel
theorem dC_beginsWith_3 : decode bC_beginsWith 3 = .ok (.iconst 0, 1) := by decide +kernel
theorem dC_beginsWith_4 : decode bC_beginsWith 4 = .ok (.istore 6, 2) := by decide +kernel
theorem dC_beginsWith_6 : decode bC_beginsWith 6 = .ok (.iload 6, 2) := by decide +kernel
theorem dC_beginsWith_8 : decode bC_beginsWith 8 = .ok (.bipush 10, 2) := by decide +kernel
theorem dC_beginsWith_10 : decode bC_beginsWith 10 = .ok (.if_icmp .ge 24, 3) := by decide +kernel
theorem dC_beginsWith_13 : decode bC_beginsWith 13 = .ok (.lload 4, 2) := by decide +kernel
theorem dC_beginsWith_15 : decode bC_beginsWith 15 = .ok (.lload_n 2, 1) := by decide +kernel
theorem dC_beginsWith_16 : decode bC_beginsWith 16 = .ok (.lcmp, 1) := by decide +kernel
theorem dC_beginsWith_17 : decode bC_beginsWith 17 = .ok (.ifCond .le 17, 3) := by decide +kernel
theorem dC_beginsWith_20 : decode bC_beginsWith 20 = .ok (.lload 4, 2) := by decide +kernel
theorem dC_beginsWith_22 : decode bC_beginsWith 22 = .ok (.ldc2_w 13, 3) := by decide +kernel
theorem dC_beginsWith_25 : decode bC_beginsWith 25 = .ok (.ldiv, 1) := by decide +kernel
theorem dC_beginsWith_26 : decode bC_beginsWith 26 = .ok (.lstore 4, 2) := by decide +kernel
theorem dC_beginsWith_28 : decode bC_beginsWith 28 = .ok (.iinc 6 1, 3) := by decide +kernel
theorem dC_beginsWith_31 : decode bC_beginsWith 31 = .ok (.goto (-25), 3) := by decide +kernel
theorem dC_beginsWith_34 : decode bC_beginsWith 34 = .ok (.lload 4, 2) := by decide +kernel
theorem dC_beginsWith_36 : decode bC_beginsWith 36 = .ok (.lload_n 2, 1) := by decide +kernel
theorem dC_beginsWith_37 : decode bC_beginsWith 37 = .ok (.lcmp, 1) := by decide +kernel
theorem dC_beginsWith_38 : decode bC_beginsWith 38 = .ok (.ifCond .ne 7, 3) := by decide +kernel
theorem dC_beginsWith_41 : decode bC_beginsWith 41 = .ok (.iconst 1, 1) := by decide +kernel
theorem dC_beginsWith_42 : decode bC_beginsWith 42 = .ok (.goto 4, 3) := by decide +kernel
theorem dC_beginsWith_45 : decode bC_beginsWith 45 = .ok (.iconst 0, 1) := by decide +kernel
theorem dC_beginsWith_46 : decode bC_beginsWith 46 = .ok (.ireturn, 1) := by decide +kernel
theorem dC_comesBehind_0 : decode bC_comesBehind 0 = .ok (.lload_n 0, 1) := by decide +kernel
theorem dC_comesBehind_1 : decode bC_comesBehind 1 = .ok (.invokestatic 15, 3) := by decide +kernel
theorem dC_comesBehind_4 : decode bC_comesBehind 4 = .ok (.lstore 4, 2) := by decide +kernel
theorem dC_comesBehind_6 : decode bC_comesBehind 6 = .ok (.lload_n 2, 1) := by decide +kernel
theorem dC_comesBehind_7 : decode bC_comesBehind 7 = .ok (.invokestatic 15, 3) := by decide +kernel
theorem dC_comesBehind_10 : decode bC_comesBehind 10 = .ok (.lstore 6, 2) := by decide +kernel
theorem dC_comesBehind_12 : decode bC_comesBehind 12 = .ok (.lload 4, 2) := by decide +kernel
theorem dC_comesBehind_14 : decode bC_comesBehind 14 = .ok (.lload 6, 2) := by decide +kernel
theorem dC_comesBehind_16 : decode bC_comesBehind 16 = .ok (.lcmp, 1) := by decide +kernel
theorem dC_comesBehind_17 : decode bC_comesBehind 17 = .ok (.ifCond .ne 17, 3) := by decide +kernel
theorem dC_comesBehind_20 : decode bC_comesBehind 20 = .ok (.lload_n 0, 1) := by decide +kernel
theorem dC_comesBehind_21 : decode bC_comesBehind 21 = .ok (.lload_n 2, 1) := by decide +kernel
theorem dC_comesBehind_22 : decode bC_comesBehind 22 = .ok (.lcmp, 1) := by decide +kernel
theorem dC_comesBehind_23 : decode bC_comesBehind 23 = .ok (.ifCond .le 7, 3) := by decide +kernel
theorem dC_comesBehind_26 : decode bC_comesBehind 26 = .ok (.iconst 1, 1) := by decide +kernel
theorem dC_comesBehind_27 : decode bC_comesBehind 27 = .ok (.goto 20, 3) := by decide +kernel
theorem dC_comesBehind_30 : decode bC_comesBehind 30 = .ok (.iconst 0, 1) := by decide +kernel
theorem dC_comesBehind_31 : decode bC_comesBehind 31 = .ok (.goto 16, 3) := by decide +kernel
theorem dC_comesBehind_34 : decode bC_comesBehind 34 = .ok (.lload 4, 2) := by decide +kernel
theorem dC_comesBehind_36 : decode bC_comesBehind 36 = .ok (.lload 6, 2) := by decide +kernel
theorem dC_comesBehind_38 : decode bC_comesBehind 38 = .ok (.lcmp, 1) := by decide +kernel
theorem dC_comesBehind_39 : decode bC_comesBehind 39 = .ok (.ifCond .le 7, 3) := by decide +kernel
theorem dC_comesBehind_42 : decode bC_comesBehind 42 = .ok (.iconst 1, 1) := by decide +kernel
theorem dC_comesBehind_43 : decode bC_comesBehind 43 = .ok (.goto 4, 3) := by decide +kernel
theorem dC_comesBehind_46 : decode bC_comesBehind 46 = .ok (.iconst 0, 1) := by decide +kernel
theorem dC_comesBehind_47 : decode bC_comesBehind 47 = .ok (.ireturn, 1) := by decide +kernel
theorem dC_fill_0 : decode bC_fill 0 = .ok (.lload_n 0, 1) := by decide +kernel
theorem dC_fill_1 : decode bC_fill 1 = .ok (.lstore_n 2, 1) := by decide +kernel
theorem dC_fill_2 : decode bC_fill 2 = .ok (.iconst 0, 1) := by decide +kernel
theorem dC_fill_3 : decode bC_fill 3 = .ok (.istore 4, 2) := by decide +kernel
theorem dC_fill_5 : decode bC_fill 5 = .ok (.iload 4, 2) := by decide +kernel
theorem dC_fill_7 : decode bC_fill 7 = .ok (.bipush 10, 2) := by decide +kernel
theorem dC_fill_9 : decode bC_fill 9 = .ok (.if_icmp .ge 23, 3) := by decide +kernel
theorem dC_fill_12 : decode bC_fill 12 = .ok (.lload_n 2, 1) := by decide +kernel
theorem dC_fill_13 : decode bC_fill 13 = .ok (.ldc2_w 19, 3) := by decide +kernel
theorem dC_fill_16 : decode bC_fill 16 = .ok (.lcmp, 1) := by decide +kernel
theorem dC_fill_17 : decode bC_fill 17 = .ok (.ifCond .ge 15, 3) := by decide +kernel
theorem dC_fill_20 : decode bC_fill 20 = .ok (.lload_n 2, 1) := by decide +kernel
theorem dC_fill_21 : decode bC_fill 21 = .ok (.ldc2_w 13, 3) := by decide +kernel
theorem dC_fill_24 : decode bC_fill 24 = .ok (.lmul, 1) := by decide +kernel
theorem dC_fill_25 : decode bC_fill 25 = .ok (.lstore_n 2, 1) := by decide +kernel
theorem dC_fill_26 : decode bC_fill 26 = .ok (.iinc 4 1, 3) := by decide +kernel
theorem dC_fill_29 : decode bC_fill 29 = .ok (.goto (-24), 3) := by decide +kernel
theorem dC_fill_32 : decode bC_fill 32 = .ok (.lload_n 2, 1) := by decide +kernel
theorem dC_fill_33 : decode bC_fill 33 = .ok (.lreturn, 1) := by decide +kernel
set_option maxHeartbeats 4000000 in
set_option maxRecDepth 100000 in
theorem cC_isChapter (l : Launch) (nx : Nat) (M : xH) (co : Int64) : xC l xcl yC_isChapter (xw (Cond.code yC_isChapter bC_isChapter 2 (some .boolean))) ({ frames := 0, cells := 0, slots := 0, locals := 0 } : Room) [.long (co)] nx M (x_is (some (.int (bI (decide (co < 200))))) nx M) := by
  refine yC (by decide) (Nat.le_of_ble_eq_true rfl) ?_
  intro p e s m args below meth c D F hr hn
  refine x_lload_n F 0 dC_isChapter_0 rfl rfl ?_
  refine x_ldc2 F (x_m kjC_11) dC_isChapter_1 ?_
  refine x_lcmp F dC_isChapter_4 ?_
  refine x_if_ge F (tgt := 12) dC_isChapter_5 (by decide) (fun c1 => ?_) (fun c1 => ?_)
  · skip
    have c1 : 200 ≤ co := (lg_cmp_ge (co) (200)).mp c1
    refine x_iconst F (v := nI (0)) dC_isChapter_12 (by decide) ?_
    exact x_zret F hr (by rfl) dC_isChapter_13 (x_f (by have := c1; simp at this ⊢; exact this))
  · skip
    have c1 : ¬ 200 ≤ co := fun z => c1 ((lg_cmp_ge (co) (200)).mpr z)
    refine x_iconst F (v := nI (1)) dC_isChapter_8 (by decide) ?_
    refine x_goto F (tgt := 13) dC_isChapter_9 (by decide) ?_
    exact x_zret F hr (by rfl) dC_isChapter_13 (x_t (by have := c1; simp at this ⊢; exact this))
set_option maxHeartbeats 4000000 in
set_option maxRecDepth 100000 in
theorem cC_beginsWith (l : Launch) (nx : Nat) (M : xH) (x y : Int64) : xC l xcl yC_beginsWith (xw (Cond.code yC_beginsWith bC_beginsWith 7 (some .boolean))) ({ frames := 0, cells := 0, slots := 0, locals := 0 } : Room) [.long (x), .long (y)] nx M (x_is (some (.int (bI (decide (bw y 10 x = y))))) nx M) := by
  refine yC (by decide) (Nat.le_of_ble_eq_true rfl) ?_
  intro p e s m args below meth c D F hr hn
  have loop : ∀ (k : Nat) (i : Nat) (h : Int64), i + k = 10 → bw y 10 x = bw y k h → xW p l e ({ frames := 0, cells := 0, slots := 0, locals := 0 } : Room) s m args below meth c D xcl (x_A M nx) 7 (MQ below (x_Q D xcl (x_A M nx) (x_is (some (.int (bI (decide (bw y 10 x = y))))) nx M)) args s 0 0 (x_A M nx)) 0 0 (nx) M 6 [(6, .int (nI (i))), (4, .long (h)), (0, .long (x)), (2, .long (y))] [] := by
    intro k
    induction k with
    | zero =>
      intro i h hi hf
      refine x_iload F 0 dC_beginsWith_6 rfl ?_
      refine x_bipush F (v := nI (10)) dC_beginsWith_8 (by decide) ?_
      refine x_icmp_ge F (tgt := 34) dC_beginsWith_10 (by decide) (fun c1 => ?_) (fun c1 => ?_)
      · skip
        have c1 : 10 ≤ i := by
          exact (nI_leI (a := 10) (b := i) (by omega) (by omega)).mp c1
        have hf2 : bw y 10 x = h := hf
        refine x_lload F 1 dC_beginsWith_34 rfl ?_
        refine x_lload_n F 3 dC_beginsWith_36 rfl rfl ?_
        refine x_lcmp F dC_beginsWith_37 ?_
        refine x_if_ne F (tgt := 45) dC_beginsWith_38 (by decide) (fun c2 => ?_) (fun c2 => ?_)
        · skip
          have c2 : ¬ h = y := fun z => c2 ((lg_cmp_eq (h) (y)).mpr z)
          refine x_iconst F (v := nI (0)) dC_beginsWith_45 (by decide) ?_
          exact x_zret F hr (by rfl) dC_beginsWith_46 (x_f (by rw [hf2]; simpa using c2))
        · skip
          have c2 : h = y := (lg_cmp_eq (h) (y)).mp c2
          refine x_iconst F (v := nI (1)) dC_beginsWith_41 (by decide) ?_
          refine x_goto F (tgt := 46) dC_beginsWith_42 (by decide) ?_
          exact x_zret F hr (by rfl) dC_beginsWith_46 (x_t (by rw [hf2]; simpa using c2))
      · skip
        have c1 : i < 10 := by
          have z : ¬ (10 ≤ i) := fun q => c1 ((nI_leI (a := 10) (b := i) (by omega) (by omega)).mpr q)
          omega
        exact absurd c1 (by omega)
    | succ k ih =>
      intro i h hi hf
      refine x_iload F 0 dC_beginsWith_6 rfl ?_
      refine x_bipush F (v := nI (10)) dC_beginsWith_8 (by decide) ?_
      refine x_icmp_ge F (tgt := 34) dC_beginsWith_10 (by decide) (fun c3 => ?_) (fun c3 => ?_)
      · skip
        have c3 : 10 ≤ i := by
          exact (nI_leI (a := 10) (b := i) (by omega) (by omega)).mp c3
        exact absurd c3 (by omega)
      · skip
        have c3 : i < 10 := by
          have z : ¬ (10 ≤ i) := fun q => c3 ((nI_leI (a := 10) (b := i) (by omega) (by omega)).mpr q)
          omega
        refine x_lload F 1 dC_beginsWith_13 rfl ?_
        refine x_lload_n F 3 dC_beginsWith_15 rfl rfl ?_
        refine x_lcmp F dC_beginsWith_16 ?_
        refine x_if_le F (tgt := 34) dC_beginsWith_17 (by decide) (fun c4 => ?_) (fun c4 => ?_)
        · skip
          have c4 : h ≤ y := (lg_cmp_le (h) (y)).mp c4
          have hf2 : bw y 10 x = h := by rw [hf, bw_s, if_neg (Int64.not_lt.mpr c4)]
          refine x_lload F 1 dC_beginsWith_34 rfl ?_
          refine x_lload_n F 3 dC_beginsWith_36 rfl rfl ?_
          refine x_lcmp F dC_beginsWith_37 ?_
          refine x_if_ne F (tgt := 45) dC_beginsWith_38 (by decide) (fun c5 => ?_) (fun c5 => ?_)
          · skip
            have c5 : ¬ h = y := fun z => c5 ((lg_cmp_eq (h) (y)).mpr z)
            refine x_iconst F (v := nI (0)) dC_beginsWith_45 (by decide) ?_
            exact x_zret F hr (by rfl) dC_beginsWith_46 (x_f (by rw [hf2]; simpa using c5))
          · skip
            have c5 : h = y := (lg_cmp_eq (h) (y)).mp c5
            refine x_iconst F (v := nI (1)) dC_beginsWith_41 (by decide) ?_
            refine x_goto F (tgt := 46) dC_beginsWith_42 (by decide) ?_
            exact x_zret F hr (by rfl) dC_beginsWith_46 (x_t (by rw [hf2]; simpa using c5))
        · skip
          have c4 : ¬ h ≤ y := fun z => c4 ((lg_cmp_le (h) (y)).mpr z)
          refine x_lload F 1 dC_beginsWith_20 rfl ?_
          refine x_ldc2 F (x_m kjC_13) dC_beginsWith_22 ?_
          refine x_ldiv F dC_beginsWith_25 (by decide) ?_
          refine x_lstore F [(4, .long ((h) / (10))), (6, .int (nI (i))), (0, .long (x)), (2, .long (y))] dC_beginsWith_26 (by decide) rfl ?_
          refine x_iinc F 1 [(6, .int (nI (i + 1))), (4, .long ((h) / (10))), (0, .long (x)), (2, .long (y))] dC_beginsWith_28 rfl (nI_add (i) 1) (by decide) rfl ?_
          refine x_goto F (tgt := 6) dC_beginsWith_31 (by decide) ?_
          exact ih (i + 1) _ (by omega) (by rw [hf, bw_s, if_pos (Int64.not_le.mp c4)])
  refine x_lload_n F 0 dC_beginsWith_0 rfl rfl ?_
  refine x_lstore F [(4, .long (x)), (0, .long (x)), (2, .long (y))] dC_beginsWith_1 (by decide) rfl ?_
  refine x_iconst F (v := nI (0)) dC_beginsWith_3 (by decide) ?_
  refine x_istore F [(6, .int (nI (0))), (4, .long (x)), (0, .long (x)), (2, .long (y))] dC_beginsWith_4 (by decide) rfl ?_
  exact loop 10 0 _ rfl rfl
set_option maxHeartbeats 4000000 in
set_option maxRecDepth 100000 in
theorem cC_fill (l : Launch) (nx : Nat) (M : xH) (x : Int64) : xC l xcl yC_fill (xw (Cond.code yC_fill bC_fill 5 (some .long))) ({ frames := 0, cells := 0, slots := 0, locals := 0 } : Room) [.long (x)] nx M (x_is (some (.long (fl 10 x))) nx M) := by
  refine yC (by decide) (Nat.le_of_ble_eq_true rfl) ?_
  intro p e s m args below meth c D F hr hn
  have loop : ∀ (k : Nat) (i : Nat) (h : Int64), i + k = 10 → fl 10 x = fl k h → xW p l e ({ frames := 0, cells := 0, slots := 0, locals := 0 } : Room) s m args below meth c D xcl (x_A M nx) 5 (MQ below (x_Q D xcl (x_A M nx) (x_is (some (.long (fl 10 x))) nx M)) args s 0 0 (x_A M nx)) 0 0 (nx) M 5 [(4, .int (nI (i))), (2, .long (h)), (0, .long (x))] [] := by
    intro k
    induction k with
    | zero =>
      intro i h hi hf
      refine x_iload F 0 dC_fill_5 rfl ?_
      refine x_bipush F (v := nI (10)) dC_fill_7 (by decide) ?_
      refine x_icmp_ge F (tgt := 32) dC_fill_9 (by decide) (fun c1 => ?_) (fun c1 => ?_)
      · skip
        have c1 : 10 ≤ i := by
          exact (nI_leI (a := 10) (b := i) (by omega) (by omega)).mp c1
        refine x_lload_n F 1 dC_fill_32 rfl rfl ?_
        exact x_lret F hr dC_fill_33 (x_el hf.symm)
      · skip
        have c1 : i < 10 := by
          have z : ¬ (10 ≤ i) := fun q => c1 ((nI_leI (a := 10) (b := i) (by omega) (by omega)).mpr q)
          omega
        exact absurd c1 (by omega)
    | succ k ih =>
      intro i h hi hf
      refine x_iload F 0 dC_fill_5 rfl ?_
      refine x_bipush F (v := nI (10)) dC_fill_7 (by decide) ?_
      refine x_icmp_ge F (tgt := 32) dC_fill_9 (by decide) (fun c2 => ?_) (fun c2 => ?_)
      · skip
        have c2 : 10 ≤ i := by
          exact (nI_leI (a := 10) (b := i) (by omega) (by omega)).mp c2
        exact absurd c2 (by omega)
      · skip
        have c2 : i < 10 := by
          have z : ¬ (10 ≤ i) := fun q => c2 ((nI_leI (a := 10) (b := i) (by omega) (by omega)).mpr q)
          omega
        refine x_lload_n F 1 dC_fill_12 rfl rfl ?_
        refine x_ldc2 F (x_m kjC_19) dC_fill_13 ?_
        refine x_lcmp F dC_fill_16 ?_
        refine x_if_ge F (tgt := 32) dC_fill_17 (by decide) (fun c3 => ?_) (fun c3 => ?_)
        · skip
          have c3 : 10000000000 ≤ h := (lg_cmp_ge (h) (10000000000)).mp c3
          refine x_lload_n F 1 dC_fill_32 rfl rfl ?_
          exact x_lret F hr dC_fill_33 (x_el (by rw [hf, fl_s, if_neg (Int64.not_lt.mpr c3)]))
        · skip
          have c3 : ¬ 10000000000 ≤ h := fun z => c3 ((lg_cmp_ge (h) (10000000000)).mpr z)
          refine x_lload_n F 1 dC_fill_20 rfl rfl ?_
          refine x_ldc2 F (x_m kjC_13) dC_fill_21 ?_
          refine x_lmul F dC_fill_24 ?_
          refine x_lstore_n F [(2, .long ((h) * (10))), (4, .int (nI (i))), (0, .long (x))] dC_fill_25 rfl (by decide) rfl ?_
          refine x_iinc F 1 [(4, .int (nI (i + 1))), (2, .long ((h) * (10))), (0, .long (x))] dC_fill_26 rfl (nI_add (i) 1) (by decide) rfl ?_
          refine x_goto F (tgt := 5) dC_fill_29 (by decide) ?_
          exact ih (i + 1) _ (by omega) (by rw [hf, fl_s, if_pos (Int64.not_le.mp c3)])
  refine x_lload_n F 0 dC_fill_0 rfl rfl ?_
  refine x_lstore_n F [(2, .long (x)), (0, .long (x))] dC_fill_1 rfl (by decide) rfl ?_
  refine x_iconst F (v := nI (0)) dC_fill_2 (by decide) ?_
  refine x_istore F [(4, .int (nI (0))), (2, .long (x)), (0, .long (x))] dC_fill_3 (by decide) rfl ?_
  exact loop 10 0 _ rfl rfl
set_option maxHeartbeats 4000000 in
set_option maxRecDepth 100000 in
theorem cC_comesBehind (l : Launch) (nx : Nat) (M : xH) (x y : Int64) : xC l xcl yC_comesBehind (xw (Cond.code yC_comesBehind bC_comesBehind 8 (some .boolean))) ({ frames := 1, cells := 0, slots := 0, locals := 24 } : Room) [.long (x), .long (y)] nx M (x_is (some (.int (bI (cb x y)))) nx M) := by
  refine yC (by decide) (Nat.le_of_ble_eq_true rfl) ?_
  intro p e s m args below meth c D F hr hn
  refine x_lload_n F 0 dC_comesBehind_0 rfl rfl ?_
  refine yS (n := 1) (As := [.long (x)]) F kmC_15 ktC_fill knC kcC_fill (by decide +kernel) dC_comesBehind_1 (cC_fill l (nx) M (x)) rfl rfl (Nat.le_of_ble_eq_true rfl) ⟨Nat.le_of_ble_eq_true rfl, Nat.le_of_ble_eq_true rfl⟩ ⟨Nat.le_of_ble_eq_true rfl, Nat.le_of_ble_eq_true rfl⟩ ?_
  refine x_lstore F [(4, .long (fl 10 (x))), (0, .long (x)), (2, .long (y))] dC_comesBehind_4 (by decide) rfl ?_
  refine x_lload_n F 2 dC_comesBehind_6 rfl rfl ?_
  refine yS (n := 1) (As := [.long (y)]) F kmC_15 ktC_fill knC kcC_fill (by decide +kernel) dC_comesBehind_7 (cC_fill l (nx) M (y)) rfl rfl (Nat.le_of_ble_eq_true rfl) ⟨Nat.le_of_ble_eq_true rfl, Nat.le_of_ble_eq_true rfl⟩ ⟨Nat.le_of_ble_eq_true rfl, Nat.le_of_ble_eq_true rfl⟩ ?_
  refine x_lstore F [(6, .long (fl 10 (y))), (4, .long (fl 10 (x))), (0, .long (x)), (2, .long (y))] dC_comesBehind_10 (by decide) rfl ?_
  refine x_lload F 1 dC_comesBehind_12 rfl ?_
  refine x_lload F 0 dC_comesBehind_14 rfl ?_
  refine x_lcmp F dC_comesBehind_16 ?_
  refine x_if_ne F (tgt := 34) dC_comesBehind_17 (by decide) (fun c1 => ?_) (fun c1 => ?_)
  · skip
    have c1 : ¬ fl 10 (x) = fl 10 (y) := fun z => c1 ((lg_cmp_eq (fl 10 (x)) (fl 10 (y))).mpr z)
    refine x_lload F 1 dC_comesBehind_34 rfl ?_
    refine x_lload F 0 dC_comesBehind_36 rfl ?_
    refine x_lcmp F dC_comesBehind_38 ?_
    refine x_if_le F (tgt := 46) dC_comesBehind_39 (by decide) (fun c2 => ?_) (fun c2 => ?_)
    · skip
      have c2 : fl 10 (x) ≤ fl 10 (y) := (lg_cmp_le (fl 10 (x)) (fl 10 (y))).mp c2
      refine x_iconst F (v := nI (0)) dC_comesBehind_46 (by decide) ?_
      exact x_zret F hr (by rfl) dC_comesBehind_47 (x_f (by simp_all [cb]))
    · skip
      have c2 : ¬ fl 10 (x) ≤ fl 10 (y) := fun z => c2 ((lg_cmp_le (fl 10 (x)) (fl 10 (y))).mpr z)
      refine x_iconst F (v := nI (1)) dC_comesBehind_42 (by decide) ?_
      refine x_goto F (tgt := 47) dC_comesBehind_43 (by decide) ?_
      exact x_zret F hr (by rfl) dC_comesBehind_47 (x_t (by simp_all [cb]))
  · skip
    have c1 : fl 10 (x) = fl 10 (y) := (lg_cmp_eq (fl 10 (x)) (fl 10 (y))).mp c1
    refine x_lload_n F 2 dC_comesBehind_20 rfl rfl ?_
    refine x_lload_n F 3 dC_comesBehind_21 rfl rfl ?_
    refine x_lcmp F dC_comesBehind_22 ?_
    refine x_if_le F (tgt := 30) dC_comesBehind_23 (by decide) (fun c3 => ?_) (fun c3 => ?_)
    · skip
      have c3 : x ≤ y := (lg_cmp_le (x) (y)).mp c3
      refine x_iconst F (v := nI (0)) dC_comesBehind_30 (by decide) ?_
      refine x_goto F (tgt := 47) dC_comesBehind_31 (by decide) ?_
      exact x_zret F hr (by rfl) dC_comesBehind_47 (x_f (by simp_all [cb]))
    · skip
      have c3 : ¬ x ≤ y := fun z => c3 ((lg_cmp_le (x) (y)).mpr z)
      refine x_iconst F (v := nI (1)) dC_comesBehind_26 (by decide) ?_
      refine x_goto F (tgt := 47) dC_comesBehind_27 (by decide) ?_
      exact x_zret F hr (by rfl) dC_comesBehind_47 (x_t (by simp_all [cb]))
