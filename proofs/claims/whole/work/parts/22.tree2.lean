/-! a tree that is well: parents ahead, at the most four words a row -/
def tWf (ps wc : Nat → Int32) (pf : Nat → Option Nat) (wn : Nat → Nat) (n : Nat) : Prop := ∀ i, i < n → ps i = oi (pf i) ∧ (∀ j, pf i = some j → j < i) ∧ wc i = nI (wn i) ∧ wn i ≤ 4
/-- a word of a row -/
def tHas (wd : Nat → Int64) (wn : Nat → Nat) (w : Int64) (j : Nat) : Bool := (fi (fun i => decide (wd (j * 4 + i) = w)) (wn j) 0).isSome
/-- Q of one that is above, from r on, k steps at most -/
def up (pf : Nat → Option Nat) (Q : Nat → Bool) : Nat → Option Nat → Bool
  | 0, _ => false
  | _ + 1, none => false
  | k + 1, some j => if Q j then true else up pf Q k (pf j)
theorem up_s (pf : Nat → Option Nat) (Q : Nat → Bool) (k j : Nat) : up pf Q (k + 1) (some j) = if Q j then true else up pf Q k (pf j) := rfl
theorem up_n (pf : Nat → Option Nat) (Q : Nat → Bool) (k : Nat) : up pf Q k none = false := by cases k <;> rfl
def tPts (pf : Nat → Option Nat) (Q : Nat → Bool) (j : Nat) : Nat := if Q j then 4 else if up pf Q 4 (pf j) then 2 else 0
set_option maxHeartbeats 4000000 in
set_option maxRecDepth 100000 in
theorem cT_mostDashes0 (l : Launch) (nx : Nat) (M : xH) (a : Nat) (cd : Nat → Int64) (ds ps ch wc : Nat → Int32) (wd : Nat → Int64) (cp : Nat) (hT : tAt M a cd ds ps ch wc wd 0 cp) : xC l xcl yT_mostDashes (xw (Cond.code yT_mostDashes bT_mostDashes 1 (some .int))) ({ frames := 2, cells := 0, slots := 0, locals := 42 } : Room) [.ref (a)] nx M (x_is (some (.int (nI (0)))) nx M) := by
  obtain ⟨h0, h1, h2, h3, h4, h5, h6, hz, hcp⟩ := id hT
  refine yC (by decide) (Nat.le_of_ble_eq_true rfl) ?_
  intro p e s m args below meth c D F hr hn
  refine x_aload_n F 0 dT_mostDashes_0 rfl rfl ?_
  refine x_aload_n F 0 dT_mostDashes_1 rfl rfl ?_
  refine x_get (ci := 4) F 6 (x_in inT) rfl (by decide) (x_m kfT_31) dT_mostDashes_2 h0 rfl ?_
  refine x_iconst F (v := nI (1)) dT_mostDashes_5 (by decide) ?_
  refine x_isub F dT_mostDashes_6 ?_
  refine xW.toi ((-1)) (by decide) ?_
  refine yV (n := 1) (As := [.int ((-1))]) (ci := 4) F kmT_42 kiT_dashesOf ksT_dashesOf knT kcT_dashesOf (by decide +kernel) dT_mostDashes_7 (cT_dashesOfN l (nx) M (a) cd ds ps ch wc wd 0 cp hT (-1) (m1_out _)) rfl h0 rfl rfl (Nat.le_of_ble_eq_true rfl) ⟨Nat.le_of_ble_eq_true rfl, Nat.le_of_ble_eq_true rfl⟩ ⟨Nat.le_of_ble_eq_true rfl, Nat.le_of_ble_eq_true rfl⟩ ?_
  refine x_iconst F (v := nI (1)) dT_mostDashes_10 (by decide) ?_
  refine x_iadd F dT_mostDashes_11 ?_
  refine xW.toi (nI (0)) (by decide) ?_
  exact x_iret F hr dT_mostDashes_12 (x_is_i _ _ _)
set_option maxHeartbeats 4000000 in
set_option maxRecDepth 100000 in
theorem cT_mostDashesS (l : Launch) (nx : Nat) (M : xH) (a : Nat) (cd : Nat → Int64) (ds ps ch wc : Nat → Int32) (wd : Nat → Int64) (k cp : Nat) (hT : tAt M a cd ds ps ch wc wd (k + 1) cp) : xC l xcl yT_mostDashes (xw (Cond.code yT_mostDashes bT_mostDashes 1 (some .int))) ({ frames := 2, cells := 0, slots := 0, locals := 42 } : Room) [.ref (a)] nx M (x_is (some (.int (ds (k) + nI (1)))) nx M) := by
  obtain ⟨h0, h1, h2, h3, h4, h5, h6, hz, hcp⟩ := id hT
  refine yC (by decide) (Nat.le_of_ble_eq_true rfl) ?_
  intro p e s m args below meth c D F hr hn
  refine x_aload_n F 0 dT_mostDashes_0 rfl rfl ?_
  refine x_aload_n F 0 dT_mostDashes_1 rfl rfl ?_
  refine x_get (ci := 4) F 6 (x_in inT) rfl (by decide) (x_m kfT_31) dT_mostDashes_2 h0 rfl ?_
  refine x_iconst F (v := nI (1)) dT_mostDashes_5 (by decide) ?_
  refine x_isub F dT_mostDashes_6 ?_
  refine xW.toi (nI (k)) (nI_pred k) ?_
  refine yV (n := 1) (As := [.int (nI (k))]) (ci := 4) F kmT_42 kiT_dashesOf ksT_dashesOf knT kcT_dashesOf (by decide +kernel) dT_mostDashes_7 (cT_dashesOf l (nx) M (a) cd ds ps ch wc wd (k + 1) cp hT k (by omega)) rfl h0 rfl rfl (Nat.le_of_ble_eq_true rfl) ⟨Nat.le_of_ble_eq_true rfl, Nat.le_of_ble_eq_true rfl⟩ ⟨Nat.le_of_ble_eq_true rfl, Nat.le_of_ble_eq_true rfl⟩ ?_
  refine x_iconst F (v := nI (1)) dT_mostDashes_10 (by decide) ?_
  refine x_iadd F dT_mostDashes_11 ?_
  exact x_iret F hr dT_mostDashes_12 (x_e rfl)
set_option maxHeartbeats 4000000 in
set_option maxRecDepth 100000 in
/-- parentFor: the latest row with one dash less, or -1 -/
theorem cT_parentFor (l : Launch) (nx : Nat) (M : xH) (a : Nat) (cd : Nat → Int64) (ds ps ch wc : Nat → Int32) (wd : Nat → Int64) (n cp : Nat) (hT : tAt M a cd ds ps ch wc wd n cp) (mm : Int32) : xC l xcl yT_parentFor (xw (Cond.code yT_parentFor bT_parentFor 3 (some .int))) ({ frames := 0, cells := 0, slots := 0, locals := 0 } : Room) [.ref (a), .int (mm)] nx M (x_is (some (.int (oi (la (fun i => decide (ds i = mm - nI 1)) n)))) nx M) := by
  obtain ⟨h0, h1, h2, h3, h4, h5, h6, hz, hcp⟩ := id hT
  refine yC (by decide) (Nat.le_of_ble_eq_true rfl) ?_
  intro p e s m args below meth c D F hr hn
  have loop : ∀ (k : Nat) , k ≤ n → la (fun i => decide (ds i = mm - nI 1)) n = la (fun i => decide (ds i = mm - nI 1)) k → xW p l e ({ frames := 0, cells := 0, slots := 0, locals := 0 } : Room) s m args below meth c D xcl (x_A M nx) 3 (MQ below (x_Q D xcl (x_A M nx) (x_is (some (.int (oi (la (fun i => decide (ds i = mm - nI 1)) n)))) nx M)) args s 0 0 (x_A M nx)) 0 0 (nx) M 7 [(2, .int (pd (k))), (0, .ref (a)), (1, .int (mm))] [] := by
    intro k
    induction k with
    | zero =>
      intro hi hf
      show xW p l e ({ frames := 0, cells := 0, slots := 0, locals := 0 } : Room) s m args below meth c D xcl (x_A M nx) 3 (MQ below (x_Q D xcl (x_A M nx) (x_is (some (.int (oi (la (fun i => decide (ds i = mm - nI 1)) n)))) nx M)) args s 0 0 (x_A M nx)) 0 0 (nx) M 7 [(2, .int ((-1))), (0, .ref (a)), (1, .int (mm))] []
      refine x_iload_n F 0 dT_parentFor_7 rfl rfl ?_
      refine x_if_lt F (tgt := 31) dT_parentFor_8 (by decide) (fun c1 => ?_) (fun c1 => ?_)
      · skip
        refine x_iconst F (v := (-1)) dT_parentFor_31 (by decide) ?_
        exact x_iret F hr dT_parentFor_32 (x_e (by rw [hf]; rfl))
      · skip
        exact absurd (by decide) c1
    | succ k ih =>
      intro hi hf
      show xW p l e ({ frames := 0, cells := 0, slots := 0, locals := 0 } : Room) s m args below meth c D xcl (x_A M nx) 3 (MQ below (x_Q D xcl (x_A M nx) (x_is (some (.int (oi (la (fun i => decide (ds i = mm - nI 1)) n)))) nx M)) args s 0 0 (x_A M nx)) 0 0 (nx) M 7 [(2, .int (nI (k))), (0, .ref (a)), (1, .int (mm))] []
      refine x_iload_n F 0 dT_parentFor_7 rfl rfl ?_
      refine x_if_lt F (tgt := 31) dT_parentFor_8 (by decide) (fun c2 => ?_) (fun c2 => ?_)
      · skip
        have c2 : k < 0 := by
          exact (nI_ltI (a := k) (b := 0) (by omega) (by omega)).mp c2
        exact absurd c2 (by omega)
      · skip
        have c2 : 0 ≤ k := by
          have z : ¬ (k < 0) := fun zz => c2 ((nI_ltI (a := k) (b := 0) (by omega) (by omega)).mpr zz)
          omega
        refine x_aload_n F 1 dT_parentFor_11 rfl rfl ?_
        refine x_get (ci := 4) F 1 (x_in inT) rfl (by decide) (x_m kfT_15) dT_parentFor_12 h0 rfl ?_
        refine x_iload_n F 0 dT_parentFor_15 rfl rfl ?_
        refine x_iald F dT_parentFor_16 h2 (pk_in (k) (40) (by omega)) ?_
        refine xW.toi ((ds) (k)) (by rw [nI_clamp (by omega)]) ?_
        refine x_iload_n F 2 dT_parentFor_17 rfl rfl ?_
        refine x_iconst F (v := nI (1)) dT_parentFor_18 (by decide) ?_
        refine x_isub F dT_parentFor_19 ?_
        refine x_icmp_ne F (tgt := 25) dT_parentFor_20 (by decide) (fun c3 => ?_) (fun c3 => ?_)
        · skip
          refine x_iinc F 0 [(2, .int (pd (k))), (0, .ref (a)), (1, .int (mm))] dT_parentFor_25 rfl (pd_dec (k)) (by decide) rfl ?_
          refine x_goto F (tgt := 7) dT_parentFor_28 (by decide) ?_
          exact ih (by omega) (by rw [hf, la_s, if_neg (by simpa using c3)])
        · skip
          refine x_iload_n F 0 dT_parentFor_23 rfl rfl ?_
          exact x_iret F hr dT_parentFor_24 (x_e (by rw [hf, la_s, if_pos (by simpa using c3)]; rfl))
  refine x_aload_n F 0 dT_parentFor_0 rfl rfl ?_
  refine x_get (ci := 4) F 6 (x_in inT) rfl (by decide) (x_m kfT_31) dT_parentFor_1 h0 rfl ?_
  refine x_iconst F (v := nI (1)) dT_parentFor_4 (by decide) ?_
  refine x_isub F dT_parentFor_5 ?_
  refine xW.toi (pd (n)) (pd_of n) ?_
  refine x_istore_n F [(2, .int (pd (n))), (0, .ref (a)), (1, .int (mm))] dT_parentFor_6 rfl (by decide) rfl ?_
  exact loop n (Nat.le_refl _) rfl
set_option maxHeartbeats 4000000 in
set_option maxRecDepth 100000 in
theorem cT_fitsBelowN (l : Launch) (nx : Nat) (M : xH) (a : Nat) (cd : Nat → Int64) (ds ps ch wc : Nat → Int32) (wd : Nat → Int64) (n cp : Nat) (hT : tAt M a cd ds ps ch wc wd n cp) (i : Int32) (hi : ¬ vp_in i n) (co : Int64) : xC l xcl yT_fitsBelow (xw (Cond.code yT_fitsBelow bT_fitsBelow 4 (some .boolean))) ({ frames := 1, cells := 0, slots := 0, locals := 21 } : Room) [.ref (a), .int (i), .long (co)] nx M (x_is (some (.int (bI (decide (co < 200))))) nx M) := by
  obtain ⟨h0, h1, h2, h3, h4, h5, h6, hz, hcp⟩ := id hT
  refine yC (by decide) (Nat.le_of_ble_eq_true rfl) ?_
  intro p e s m args below meth c D F hr hn
  refine x_aload_n F 0 dT_fitsBelow_0 rfl rfl ?_
  refine x_iload_n F 1 dT_fitsBelow_1 rfl rfl ?_
  refine yV (n := 1) (As := [.int (i)]) (ci := 4) F kmT_38 kiT_has ksT_has knT kcT_has (by decide +kernel) dT_fitsBelow_2 (cT_hasN l (nx) M (a) cd ds ps ch wc wd n cp hT i hi) rfl h0 rfl rfl (Nat.le_of_ble_eq_true rfl) ⟨Nat.le_of_ble_eq_true rfl, Nat.le_of_ble_eq_true rfl⟩ ⟨Nat.le_of_ble_eq_true rfl, Nat.le_of_ble_eq_true rfl⟩ ?_
  refine x_if_ne F (tgt := 13) dT_fitsBelow_5 (by decide) (fun c1 => ?_) (fun c1 => ?_)
  · skip
    have c1 : 0 ≠ 0 := by
      have z : ¬ (0 = 0) := fun zz => c1 ((nI_eq (a := 0) (b := 0) (by omega) (by omega)).mpr zz)
      omega
    exact absurd c1 (by decide)
  · skip
    have c1 : 0 = 0 := by
      exact (nI_eq (a := 0) (b := 0) (by omega) (by omega)).mp c1
    refine x_lload_n F 2 dT_fitsBelow_8 rfl rfl ?_
    refine yS (n := 1) (As := [.long (co)]) F kmT_46 ktC_isChapter knC kcC_isChapter (by decide +kernel) dT_fitsBelow_9 (cC_isChapter l (nx) M (co)) rfl rfl (Nat.le_of_ble_eq_true rfl) ⟨Nat.le_of_ble_eq_true rfl, Nat.le_of_ble_eq_true rfl⟩ ⟨Nat.le_of_ble_eq_true rfl, Nat.le_of_ble_eq_true rfl⟩ ?_
    exact x_zret F hr (bI_nar _) dT_fitsBelow_12 (x_is_i _ _ _)
set_option maxHeartbeats 4000000 in
set_option maxRecDepth 100000 in
theorem cT_fitsBelow (l : Launch) (nx : Nat) (M : xH) (a : Nat) (cd : Nat → Int64) (ds ps ch wc : Nat → Int32) (wd : Nat → Int64) (n cp : Nat) (hT : tAt M a cd ds ps ch wc wd n cp) (j : Nat) (hj : j < n) (co : Int64) : xC l xcl yT_fitsBelow (xw (Cond.code yT_fitsBelow bT_fitsBelow 4 (some .boolean))) ({ frames := 1, cells := 0, slots := 0, locals := 26 } : Room) [.ref (a), .int (nI (j)), .long (co)] nx M (x_is (some (.int (bI ((! decide (co = cd j)) && decide (bw (cd j) 10 co = cd j))))) nx M) := by
  obtain ⟨h0, h1, h2, h3, h4, h5, h6, hz, hcp⟩ := id hT
  refine yC (by decide) (Nat.le_of_ble_eq_true rfl) ?_
  intro p e s m args below meth c D F hr hn
  refine x_aload_n F 0 dT_fitsBelow_0 rfl rfl ?_
  refine x_iload_n F 1 dT_fitsBelow_1 rfl rfl ?_
  refine yV (n := 1) (As := [.int (nI (j))]) (ci := 4) F kmT_38 kiT_has ksT_has knT kcT_has (by decide +kernel) dT_fitsBelow_2 (cT_has l (nx) M (a) cd ds ps ch wc wd n cp hT j hj) rfl h0 rfl rfl (Nat.le_of_ble_eq_true rfl) ⟨Nat.le_of_ble_eq_true rfl, Nat.le_of_ble_eq_true rfl⟩ ⟨Nat.le_of_ble_eq_true rfl, Nat.le_of_ble_eq_true rfl⟩ ?_
  refine x_if_ne F (tgt := 13) dT_fitsBelow_5 (by decide) (fun c1 => ?_) (fun c1 => ?_)
  · skip
    have c1 : 1 ≠ 0 := by
      have z : ¬ (1 = 0) := fun zz => c1 ((nI_eq (a := 1) (b := 0) (by omega) (by omega)).mpr zz)
      omega
    refine x_lload_n F 2 dT_fitsBelow_13 rfl rfl ?_
    refine x_aload_n F 0 dT_fitsBelow_14 rfl rfl ?_
    refine x_get (ci := 4) F 0 (x_in inT) rfl (by decide) (x_m kfT_9) dT_fitsBelow_15 h0 rfl ?_
    refine x_iload_n F 1 dT_fitsBelow_18 rfl rfl ?_
    refine x_lald F dT_fitsBelow_19 h1 (pk_in (j) (40) (by omega)) ?_
    refine xW.tol ((cd) (j)) (by rw [nI_clamp (by omega)]) ?_
    refine x_lcmp F dT_fitsBelow_20 ?_
    refine x_if_eq F (tgt := 41) dT_fitsBelow_21 (by decide) (fun c2 => ?_) (fun c2 => ?_)
    · skip
      have c2 : co = (cd) (j) := (lg_cmp_eq (co) ((cd) (j))).mp c2
      refine x_iconst F (v := nI (0)) dT_fitsBelow_41 (by decide) ?_
      exact x_zret F hr (by rfl) dT_fitsBelow_42 (x_f (by simp_all))
    · skip
      have c2 : ¬ co = (cd) (j) := fun z => c2 ((lg_cmp_eq (co) ((cd) (j))).mpr z)
      refine x_lload_n F 2 dT_fitsBelow_24 rfl rfl ?_
      refine x_aload_n F 0 dT_fitsBelow_25 rfl rfl ?_
      refine x_get (ci := 4) F 0 (x_in inT) rfl (by decide) (x_m kfT_9) dT_fitsBelow_26 h0 rfl ?_
      refine x_iload_n F 1 dT_fitsBelow_29 rfl rfl ?_
      refine x_lald F dT_fitsBelow_30 h1 (pk_in (j) (40) (by omega)) ?_
      refine xW.tol ((cd) (j)) (by rw [nI_clamp (by omega)]) ?_
      refine yS (n := 2) (As := [.long (co), .long ((cd) (j))]) F kmT_52 ktC_beginsWith knC kcC_beginsWith (by decide +kernel) dT_fitsBelow_31 (cC_beginsWith l (nx) M (co) ((cd) (j))) rfl rfl (Nat.le_of_ble_eq_true rfl) ⟨Nat.le_of_ble_eq_true rfl, Nat.le_of_ble_eq_true rfl⟩ ⟨Nat.le_of_ble_eq_true rfl, Nat.le_of_ble_eq_true rfl⟩ ?_
      refine x_if_eq F (tgt := 41) dT_fitsBelow_34 (by decide) (fun c3 => ?_) (fun c3 => ?_)
      · skip
        have c3 : (decide (bw ((cd) (j)) 10 (co) = ((cd) (j)))) = false := bI_0 c3
        refine x_iconst F (v := nI (0)) dT_fitsBelow_41 (by decide) ?_
        exact x_zret F hr (by rfl) dT_fitsBelow_42 (x_f (by simp_all))
      · skip
        have c3 : (decide (bw ((cd) (j)) 10 (co) = ((cd) (j)))) = true := bI_1 c3
        refine x_iconst F (v := nI (1)) dT_fitsBelow_37 (by decide) ?_
        refine x_goto F (tgt := 42) dT_fitsBelow_38 (by decide) ?_
        exact x_zret F hr (by rfl) dT_fitsBelow_42 (x_t (by simp_all))
  · skip
    have c1 : 1 = 0 := by
      exact (nI_eq (a := 1) (b := 0) (by omega) (by omega)).mp c1
    exact absurd c1 (by decide)
set_option maxHeartbeats 4000000 in
set_option maxRecDepth 100000 in
theorem cT_comesBehindLast0 (l : Launch) (nx : Nat) (M : xH) (a : Nat) (cd : Nat → Int64) (ds ps ch wc : Nat → Int32) (wd : Nat → Int64) (cp : Nat) (hT : tAt M a cd ds ps ch wc wd 0 cp) (co : Int64) : xC l xcl yT_comesBehindLast (xw (Cond.code yT_comesBehindLast bT_comesBehindLast 3 (some .boolean))) ({ frames := 0, cells := 0, slots := 0, locals := 0 } : Room) [.ref (a), .long (co)] nx M (x_is (some (.int (nI (1)))) nx M) := by
  obtain ⟨h0, h1, h2, h3, h4, h5, h6, hz, hcp⟩ := id hT
  refine yC (by decide) (Nat.le_of_ble_eq_true rfl) ?_
  intro p e s m args below meth c D F hr hn
  refine x_aload_n F 0 dT_comesBehindLast_0 rfl rfl ?_
  refine x_get (ci := 4) F 6 (x_in inT) rfl (by decide) (x_m kfT_31) dT_comesBehindLast_1 h0 rfl ?_
  refine x_if_eq F (tgt := 24) dT_comesBehindLast_4 (by decide) (fun c1 => ?_) (fun c1 => ?_)
  · skip
    have c1 : 0 = 0 := by
      exact (nI_eq (a := 0) (b := 0) (by omega) (by omega)).mp c1
    refine x_iconst F (v := nI (1)) dT_comesBehindLast_24 (by decide) ?_
    refine x_goto F (tgt := 29) dT_comesBehindLast_25 (by decide) ?_
    exact x_zret F hr (by rfl) dT_comesBehindLast_29 (x_is_i _ _ _)
  · skip
    have c1 : 0 ≠ 0 := by
      have z : ¬ (0 = 0) := fun zz => c1 ((nI_eq (a := 0) (b := 0) (by omega) (by omega)).mpr zz)
      omega
    exact absurd c1 (by decide)
set_option maxHeartbeats 4000000 in
set_option maxRecDepth 100000 in
theorem cT_comesBehindLastS (l : Launch) (nx : Nat) (M : xH) (a : Nat) (cd : Nat → Int64) (ds ps ch wc : Nat → Int32) (wd : Nat → Int64) (k cp : Nat) (hT : tAt M a cd ds ps ch wc wd (k + 1) cp) (co : Int64) : xC l xcl yT_comesBehindLast (xw (Cond.code yT_comesBehindLast bT_comesBehindLast 3 (some .boolean))) ({ frames := 2, cells := 0, slots := 0, locals := 51 } : Room) [.ref (a), .long (co)] nx M (x_is (some (.int (bI (cb co (cd k))))) nx M) := by
  obtain ⟨h0, h1, h2, h3, h4, h5, h6, hz, hcp⟩ := id hT
  refine yC (by decide) (Nat.le_of_ble_eq_true rfl) ?_
  intro p e s m args below meth c D F hr hn
  refine x_aload_n F 0 dT_comesBehindLast_0 rfl rfl ?_
  refine x_get (ci := 4) F 6 (x_in inT) rfl (by decide) (x_m kfT_31) dT_comesBehindLast_1 h0 rfl ?_
  refine x_if_eq F (tgt := 24) dT_comesBehindLast_4 (by decide) (fun c1 => ?_) (fun c1 => ?_)
  · skip
    have c1 : k + 1 = 0 := by
      exact (nI_eq (a := k + 1) (b := 0) (by omega) (by omega)).mp c1
    exact absurd c1 (by omega)
  · skip
    have c1 : k + 1 ≠ 0 := by
      have z : ¬ (k + 1 = 0) := fun zz => c1 ((nI_eq (a := k + 1) (b := 0) (by omega) (by omega)).mpr zz)
      omega
    refine x_lload_n F 1 dT_comesBehindLast_7 rfl rfl ?_
    refine x_aload_n F 0 dT_comesBehindLast_8 rfl rfl ?_
    refine x_aload_n F 0 dT_comesBehindLast_9 rfl rfl ?_
    refine x_get (ci := 4) F 6 (x_in inT) rfl (by decide) (x_m kfT_31) dT_comesBehindLast_10 h0 rfl ?_
    refine x_iconst F (v := nI (1)) dT_comesBehindLast_13 (by decide) ?_
    refine x_isub F dT_comesBehindLast_14 ?_
    refine xW.toi (nI (k)) (nI_pred k) ?_
    refine yV (n := 1) (As := [.int (nI (k))]) (ci := 4) F kmT_56 kiT_codeOf ksT_codeOf knT kcT_codeOf (by decide +kernel) dT_comesBehindLast_15 (cT_codeOf l (nx) M (a) cd ds ps ch wc wd (k + 1) cp hT k (by omega)) rfl h0 rfl rfl (Nat.le_of_ble_eq_true rfl) ⟨Nat.le_of_ble_eq_true rfl, Nat.le_of_ble_eq_true rfl⟩ ⟨Nat.le_of_ble_eq_true rfl, Nat.le_of_ble_eq_true rfl⟩ ?_
    refine yS (n := 2) (As := [.long (co), .long (cd (k))]) F kmT_60 ktC_comesBehind knC kcC_comesBehind (by decide +kernel) dT_comesBehindLast_18 (cC_comesBehind l (nx) M (co) (cd (k))) rfl rfl (Nat.le_of_ble_eq_true rfl) ⟨Nat.le_of_ble_eq_true rfl, Nat.le_of_ble_eq_true rfl⟩ ⟨Nat.le_of_ble_eq_true rfl, Nat.le_of_ble_eq_true rfl⟩ ?_
    refine x_if_eq F (tgt := 28) dT_comesBehindLast_21 (by decide) (fun c2 => ?_) (fun c2 => ?_)
    · skip
      have c2 : (cb (co) (cd (k))) = false := bI_0 c2
      refine x_iconst F (v := nI (0)) dT_comesBehindLast_28 (by decide) ?_
      exact x_zret F hr (by rfl) dT_comesBehindLast_29 (x_f (c2))
    · skip
      have c2 : (cb (co) (cd (k))) = true := bI_1 c2
      refine x_iconst F (v := nI (1)) dT_comesBehindLast_24 (by decide) ?_
      refine x_goto F (tgt := 29) dT_comesBehindLast_25 (by decide) ?_
      exact x_zret F hr (by rfl) dT_comesBehindLast_29 (x_t (c2))
set_option maxHeartbeats 4000000 in
set_option maxRecDepth 100000 in
theorem cT_hasWord (l : Launch) (nx : Nat) (M : xH) (a : Nat) (cd : Nat → Int64) (ds ps ch wc : Nat → Int32) (wd : Nat → Int64) (n cp : Nat) (hT : tAt M a cd ds ps ch wc wd n cp) (pf : Nat → Option Nat) (wn : Nat → Nat) (hW : tWf ps wc pf wn n) (j : Nat) (hj : j < n) (ww : Int64) : xC l xcl yT_hasWord (xw (Cond.code yT_hasWord bT_hasWord 5 (some .boolean))) ({ frames := 2, cells := 0, slots := 0, locals := 42 } : Room) [.ref (a), .int (nI (j)), .long (ww)] nx M (x_is (some (.int (bI (tHas wd wn ww j)))) nx M) := by
  obtain ⟨h0, h1, h2, h3, h4, h5, h6, hz, hcp⟩ := id hT
  have hw4 := (hW j hj).2.2.2
  refine yC (by decide) (Nat.le_of_ble_eq_true rfl) ?_
  intro p e s m args below meth c D F hr hn
  have loop : ∀ (k : Nat) (i : Nat), i + k = wn j → fi (fun i => decide (wd (j * 4 + i) = ww)) (wn j) 0 = fi (fun i => decide (wd (j * 4 + i) = ww)) k i → xW p l e ({ frames := 2, cells := 0, slots := 0, locals := 42 } : Room) s m args below meth c D xcl (x_A M nx) 5 (MQ below (x_Q D xcl (x_A M nx) (x_is (some (.int (bI (tHas wd wn ww j)))) nx M)) args s 0 0 (x_A M nx)) 0 0 (nx) M 3 [(4, .int (nI (i))), (0, .ref (a)), (1, .int (nI (j))), (2, .long (ww))] [] := by
    intro k
    induction k with
    | zero =>
      intro i hi hf
      refine x_iload F 0 dT_hasWord_3 rfl ?_
      refine x_aload_n F 1 dT_hasWord_5 rfl rfl ?_
      refine x_iload_n F 2 dT_hasWord_6 rfl rfl ?_
      refine yV (n := 1) (As := [.int (nI (j))]) (ci := 4) F kmT_92 kiT_wordsOf ksT_wordsOf knT kcT_wordsOf (by decide +kernel) dT_hasWord_7 (cT_wordsOf l (nx) M (a) cd ds ps ch wc wd n cp hT j hj) rfl h0 rfl rfl (Nat.le_of_ble_eq_true rfl) ⟨Nat.le_of_ble_eq_true rfl, Nat.le_of_ble_eq_true rfl⟩ ⟨Nat.le_of_ble_eq_true rfl, Nat.le_of_ble_eq_true rfl⟩ ?_
      refine xW.toi (nI (wn j)) (hW j hj).2.2.1 ?_
      refine x_icmp_ge F (tgt := 37) dT_hasWord_10 (by decide) (fun c1 => ?_) (fun c1 => ?_)
      · skip
        have c1 : wn j ≤ i := by
          exact (nI_leI (a := wn j) (b := i) (by omega) (by omega)).mp c1
        refine x_iconst F (v := nI (0)) dT_hasWord_37 (by decide) ?_
        exact x_zret F hr (by rfl) dT_hasWord_38 (x_f (by unfold tHas; rw [hf]; rfl))
      · skip
        have c1 : i < wn j := by
          have z : ¬ (wn j ≤ i) := fun zz => c1 ((nI_leI (a := wn j) (b := i) (by omega) (by omega)).mpr zz)
          omega
        exact absurd c1 (by omega)
    | succ k ih =>
      intro i hi hf
      refine x_iload F 0 dT_hasWord_3 rfl ?_
      refine x_aload_n F 1 dT_hasWord_5 rfl rfl ?_
      refine x_iload_n F 2 dT_hasWord_6 rfl rfl ?_
      refine yV (n := 1) (As := [.int (nI (j))]) (ci := 4) F kmT_92 kiT_wordsOf ksT_wordsOf knT kcT_wordsOf (by decide +kernel) dT_hasWord_7 (cT_wordsOf l (nx) M (a) cd ds ps ch wc wd n cp hT j hj) rfl h0 rfl rfl (Nat.le_of_ble_eq_true rfl) ⟨Nat.le_of_ble_eq_true rfl, Nat.le_of_ble_eq_true rfl⟩ ⟨Nat.le_of_ble_eq_true rfl, Nat.le_of_ble_eq_true rfl⟩ ?_
      refine xW.toi (nI (wn j)) (hW j hj).2.2.1 ?_
      refine x_icmp_ge F (tgt := 37) dT_hasWord_10 (by decide) (fun c2 => ?_) (fun c2 => ?_)
      · skip
        have c2 : wn j ≤ i := by
          exact (nI_leI (a := wn j) (b := i) (by omega) (by omega)).mp c2
        exact absurd c2 (by omega)
      · skip
        have c2 : i < wn j := by
          have z : ¬ (wn j ≤ i) := fun zz => c2 ((nI_leI (a := wn j) (b := i) (by omega) (by omega)).mpr zz)
          omega
        refine x_aload_n F 1 dT_hasWord_13 rfl rfl ?_
        refine x_get (ci := 4) F 5 (x_in inT) rfl (by decide) (x_m kfT_28) dT_hasWord_14 h0 rfl ?_
        refine x_iload_n F 2 dT_hasWord_17 rfl rfl ?_
        refine x_iconst F (v := nI (4)) dT_hasWord_18 (by decide) ?_
        refine x_imul F dT_hasWord_19 ?_
        refine xW.toi (nI ((j) * (4))) (pk_mul _ _) ?_
        refine x_iload F 0 dT_hasWord_20 rfl ?_
        refine x_iadd F dT_hasWord_22 ?_
        refine xW.toi (nI ((j) * (4) + i)) (nI_add _ _) ?_
        refine x_lald F dT_hasWord_23 h6 (pk_in ((j) * (4) + i) (160) (by omega)) ?_
        refine xW.tol ((wd) ((j) * (4) + i)) (by rw [nI_clamp (by omega)]) ?_
        refine x_lload_n F 3 dT_hasWord_24 rfl rfl ?_
        refine x_lcmp F dT_hasWord_25 ?_
        refine x_if_ne F (tgt := 31) dT_hasWord_26 (by decide) (fun c3 => ?_) (fun c3 => ?_)
        · skip
          have c3 : ¬ (wd) ((j) * (4) + i) = ww := fun z => c3 ((lg_cmp_eq ((wd) ((j) * (4) + i)) (ww)).mpr z)
          refine x_iinc F 0 [(4, .int (nI (i + 1))), (0, .ref (a)), (1, .int (nI (j))), (2, .long (ww))] dT_hasWord_31 rfl (nI_add (i) 1) (by decide) rfl ?_
          refine x_goto F (tgt := 3) dT_hasWord_34 (by decide) ?_
          exact ih (i + 1) (by omega) (by rw [hf, fi_s, if_neg (by simpa using c3)])
        · skip
          have c3 : (wd) ((j) * (4) + i) = ww := (lg_cmp_eq ((wd) ((j) * (4) + i)) (ww)).mp c3
          refine x_iconst F (v := nI (1)) dT_hasWord_29 (by decide) ?_
          exact x_zret F hr (by rfl) dT_hasWord_30 (x_t (by unfold tHas; rw [hf, fi_s, if_pos (by simpa using c3)]; rfl))
  refine x_iconst F (v := nI (0)) dT_hasWord_0 (by decide) ?_
  refine x_istore F [(4, .int (nI (0))), (0, .ref (a)), (1, .int (nI (j))), (2, .long (ww))] dT_hasWord_1 (by decide) rfl ?_
  exact loop (wn j) 0 (by omega) rfl
set_option maxHeartbeats 4000000 in
set_option maxRecDepth 100000 in
theorem cT_pointsFor (l : Launch) (nx : Nat) (M : xH) (a : Nat) (cd : Nat → Int64) (ds ps ch wc : Nat → Int32) (wd : Nat → Int64) (n cp : Nat) (hT : tAt M a cd ds ps ch wc wd n cp) (pf : Nat → Option Nat) (wn : Nat → Nat) (hW : tWf ps wc pf wn n) (j : Nat) (hj : j < n) (ww : Int64) : xC l xcl yT_pointsFor (xw (Cond.code yT_pointsFor bT_pointsFor 6 (some .int))) ({ frames := 3, cells := 0, slots := 0, locals := 66 } : Room) [.ref (a), .int (nI (j)), .long (ww)] nx M (x_is (some (.int (nI (tPts pf (tHas wd wn ww) j)))) nx M) := by
  obtain ⟨h0, h1, h2, h3, h4, h5, h6, hz, hcp⟩ := id hT
  refine yC (by decide) (Nat.le_of_ble_eq_true rfl) ?_
  intro p e s m args below meth c D F hr hn
  have hps := (hW j hj).1
  refine x_aload_n F 0 dT_pointsFor_0 rfl rfl ?_
  refine x_iload_n F 1 dT_pointsFor_1 rfl rfl ?_
  refine x_lload_n F 2 dT_pointsFor_2 rfl rfl ?_
  refine yV (n := 2) (As := [.int (nI (j)), .long (ww)]) (ci := 4) F kmT_85 kiT_hasWord ksT_hasWord knT kcT_hasWord (by decide +kernel) dT_pointsFor_3 (cT_hasWord l (nx) M (a) cd ds ps ch wc wd n cp hT pf wn hW j hj ww) rfl h0 rfl rfl (Nat.le_of_ble_eq_true rfl) ⟨Nat.le_of_ble_eq_true rfl, Nat.le_of_ble_eq_true rfl⟩ ⟨Nat.le_of_ble_eq_true rfl, Nat.le_of_ble_eq_true rfl⟩ ?_
  refine x_if_eq F (tgt := 11) dT_pointsFor_6 (by decide) (fun c1 => ?_) (fun c1 => ?_)
  · skip
    have c1 : (tHas wd wn ww j) = false := bI_0 c1
    have hq := c1
    have loop : ∀ (k : Nat) (i : Nat) (r : Option Nat), i + k = 4 → (∀ t, r = some t → t < n) → up pf (tHas wd wn ww) 4 (pf j) = up pf (tHas wd wn ww) k r → xW p l e ({ frames := 3, cells := 0, slots := 0, locals := 66 } : Room) s m args below meth c D xcl (x_A M nx) 6 (MQ below (x_Q D xcl (x_A M nx) (x_is (some (.int (nI (tPts pf (tHas wd wn ww) j)))) nx M)) args s 0 0 (x_A M nx)) 0 0 (nx) M 21 [(5, .int (nI (i))), (4, .int (oi (r))), (0, .ref (a)), (1, .int (nI (j))), (2, .long (ww))] [] := by
      intro k
      induction k with
      | zero =>
        intro i r hi hr2 hf
        refine x_iload F 0 dT_pointsFor_21 rfl ?_
        refine x_iconst F (v := nI (4)) dT_pointsFor_23 (by decide) ?_
        refine x_icmp_ge F (tgt := 59) dT_pointsFor_24 (by decide) (fun c2 => ?_) (fun c2 => ?_)
        · skip
          have c2 : 4 ≤ i := by
            exact (nI_leI (a := 4) (b := i) (by omega) (by omega)).mp c2
          refine x_iconst F (v := nI (0)) dT_pointsFor_59 (by decide) ?_
          exact x_iret F hr dT_pointsFor_60 (x_e (by rw [tPts, if_neg (by simpa using hq), hf]; rfl))
        · skip
          have c2 : i < 4 := by
            have z : ¬ (4 ≤ i) := fun zz => c2 ((nI_leI (a := 4) (b := i) (by omega) (by omega)).mpr zz)
            omega
          exact absurd c2 (by omega)
      | succ k ih =>
        intro i r hi hr2 hf
        refine x_iload F 0 dT_pointsFor_21 rfl ?_
        refine x_iconst F (v := nI (4)) dT_pointsFor_23 (by decide) ?_
        refine x_icmp_ge F (tgt := 59) dT_pointsFor_24 (by decide) (fun c3 => ?_) (fun c3 => ?_)
        · skip
          have c3 : 4 ≤ i := by
            exact (nI_leI (a := 4) (b := i) (by omega) (by omega)).mp c3
          exact absurd c3 (by omega)
        · skip
          have c3 : i < 4 := by
            have z : ¬ (4 ≤ i) := fun zz => c3 ((nI_leI (a := 4) (b := i) (by omega) (by omega)).mpr zz)
            omega
          rcases o_cases (r) with hs | ⟨t, hs⟩
          · skip
            refine xW.lve (lv' := [(5, .int (nI (i))), (4, .int ((-1))), (0, .ref (a)), (1, .int (nI (j))), (2, .long (ww))]) (by rw [hs]; rfl) ?_
            refine x_iload F 1 dT_pointsFor_27 rfl ?_
            refine x_iconst F (v := (-1)) dT_pointsFor_29 (by decide) ?_
            refine x_icmp_eq F (tgt := 59) dT_pointsFor_30 (by decide) (fun c4 => ?_) (fun c4 => ?_)
            · skip
              refine x_iconst F (v := nI (0)) dT_pointsFor_59 (by decide) ?_
              exact x_iret F hr dT_pointsFor_60 (x_e (by rw [tPts, if_neg (by simpa using hq), hf, hs]; rfl))
            · skip
              exact absurd rfl c4
          · skip
            have ht := hr2 t hs; have hps := (hW t ht).1
            refine xW.lve (lv' := [(5, .int (nI (i))), (4, .int (nI (t))), (0, .ref (a)), (1, .int (nI (j))), (2, .long (ww))]) (by rw [hs]; rfl) ?_
            refine x_iload F 1 dT_pointsFor_27 rfl ?_
            refine x_iconst F (v := (-1)) dT_pointsFor_29 (by decide) ?_
            refine x_icmp_eq F (tgt := 59) dT_pointsFor_30 (by decide) (fun c5 => ?_) (fun c5 => ?_)
            · skip
              exact absurd c5 (nI_m1 (by omega))
            · skip
              refine x_aload_n F 2 dT_pointsFor_33 rfl rfl ?_
              refine x_iload F 1 dT_pointsFor_34 rfl ?_
              refine x_lload_n F 4 dT_pointsFor_36 rfl rfl ?_
              refine yV (n := 2) (As := [.int (nI (t)), .long (ww)]) (ci := 4) F kmT_85 kiT_hasWord ksT_hasWord knT kcT_hasWord (by decide +kernel) dT_pointsFor_37 (cT_hasWord l (nx) M (a) cd ds ps ch wc wd n cp hT pf wn hW t ht ww) rfl h0 rfl rfl (Nat.le_of_ble_eq_true rfl) ⟨Nat.le_of_ble_eq_true rfl, Nat.le_of_ble_eq_true rfl⟩ ⟨Nat.le_of_ble_eq_true rfl, Nat.le_of_ble_eq_true rfl⟩ ?_
              refine x_if_eq F (tgt := 45) dT_pointsFor_40 (by decide) (fun c6 => ?_) (fun c6 => ?_)
              · skip
                have c6 : (tHas wd wn ww t) = false := bI_0 c6
                refine x_aload_n F 2 dT_pointsFor_45 rfl rfl ?_
                refine x_iload F 1 dT_pointsFor_46 rfl ?_
                refine yV (n := 1) (As := [.int (nI (t))]) (ci := 4) F kmT_89 kiT_parentOf ksT_parentOf knT kcT_parentOf (by decide +kernel) dT_pointsFor_48 (cT_parentOf l (nx) M (a) cd ds ps ch wc wd n cp hT t ht) rfl h0 rfl rfl (Nat.le_of_ble_eq_true rfl) ⟨Nat.le_of_ble_eq_true rfl, Nat.le_of_ble_eq_true rfl⟩ ⟨Nat.le_of_ble_eq_true rfl, Nat.le_of_ble_eq_true rfl⟩ ?_
                refine xW.toi (oi (pf t)) hps ?_
                refine x_istore F [(4, .int (oi (pf t))), (5, .int (nI (i))), (0, .ref (a)), (1, .int (nI (j))), (2, .long (ww))] dT_pointsFor_51 (by decide) rfl ?_
                refine x_iinc F 1 [(5, .int (nI (i + 1))), (4, .int (oi (pf t))), (0, .ref (a)), (1, .int (nI (j))), (2, .long (ww))] dT_pointsFor_53 rfl (nI_add (i) 1) (by decide) rfl ?_
                refine x_goto F (tgt := 21) dT_pointsFor_56 (by decide) ?_
                exact ih (i + 1) _ (by omega) (fun t2 h2 => Nat.lt_trans ((hW t ht).2.1 t2 h2) ht) (by rw [hf, hs, up_s, if_neg (by simpa using c6)])
              · skip
                have c6 : (tHas wd wn ww t) = true := bI_1 c6
                refine x_iconst F (v := nI (2)) dT_pointsFor_43 (by decide) ?_
                exact x_iret F hr dT_pointsFor_44 (x_e (by rw [tPts, if_neg (by simpa using hq), hf, hs, up_s, if_pos c6]; rfl))
    refine x_aload_n F 0 dT_pointsFor_11 rfl rfl ?_
    refine x_iload_n F 1 dT_pointsFor_12 rfl rfl ?_
    refine yV (n := 1) (As := [.int (nI (j))]) (ci := 4) F kmT_89 kiT_parentOf ksT_parentOf knT kcT_parentOf (by decide +kernel) dT_pointsFor_13 (cT_parentOf l (nx) M (a) cd ds ps ch wc wd n cp hT j hj) rfl h0 rfl rfl (Nat.le_of_ble_eq_true rfl) ⟨Nat.le_of_ble_eq_true rfl, Nat.le_of_ble_eq_true rfl⟩ ⟨Nat.le_of_ble_eq_true rfl, Nat.le_of_ble_eq_true rfl⟩ ?_
    refine xW.toi (oi (pf j)) hps ?_
    refine x_istore F [(4, .int (oi (pf j))), (0, .ref (a)), (1, .int (nI (j))), (2, .long (ww))] dT_pointsFor_16 (by decide) rfl ?_
    refine x_iconst F (v := nI (0)) dT_pointsFor_18 (by decide) ?_
    refine x_istore F [(5, .int (nI (0))), (4, .int (oi (pf j))), (0, .ref (a)), (1, .int (nI (j))), (2, .long (ww))] dT_pointsFor_19 (by decide) rfl ?_
    exact loop 4 0 _ rfl (fun t h => Nat.lt_trans ((hW j hj).2.1 t h) hj) rfl
  · skip
    have c1 : (tHas wd wn ww j) = true := bI_1 c1
    refine x_iconst F (v := nI (4)) dT_pointsFor_9 (by decide) ?_
    exact x_iret F hr dT_pointsFor_10 (x_e (by rw [tPts, if_pos c1]))
