set_option maxHeartbeats 4000000 in
set_option maxRecDepth 100000 in
theorem cT_size (l : Launch) (nx : Nat) (M : xH) (a : Nat) (cd : Nat → Int64) (ds ps ch wc : Nat → Int32) (wd : Nat → Int64) (n cp : Nat) (hT : tAt M a cd ds ps ch wc wd n cp) : xC l xcl yT_size (xw (Cond.code yT_size bT_size 1 (some .int))) ({ frames := 0, cells := 0, slots := 0, locals := 0 } : Room) [.ref (a)] nx M (x_is (some (.int (nI (n)))) nx M) := by
  obtain ⟨h0, h1, h2, h3, h4, h5, h6, hz, hcp⟩ := id hT
  refine yC (by decide) (Nat.le_of_ble_eq_true rfl) ?_
  intro p e s m args below meth c D F hr hn
  refine x_aload_n F 0 dT_size_0 rfl rfl ?_
  refine x_get (ci := 4) F 6 (x_in inT) rfl (by decide) (x_m kfT_31) dT_size_1 h0 rfl ?_
  exact x_iret F hr dT_size_4 (x_is_i _ _ _)
set_option maxHeartbeats 4000000 in
set_option maxRecDepth 100000 in
theorem cT_chapters (l : Launch) (nx : Nat) (M : xH) (a : Nat) (cd : Nat → Int64) (ds ps ch wc : Nat → Int32) (wd : Nat → Int64) (n cp : Nat) (hT : tAt M a cd ds ps ch wc wd n cp) : xC l xcl yT_chapters (xw (Cond.code yT_chapters bT_chapters 1 (some .int))) ({ frames := 0, cells := 0, slots := 0, locals := 0 } : Room) [.ref (a)] nx M (x_is (some (.int (nI (cp)))) nx M) := by
  obtain ⟨h0, h1, h2, h3, h4, h5, h6, hz, hcp⟩ := id hT
  refine yC (by decide) (Nat.le_of_ble_eq_true rfl) ?_
  intro p e s m args below meth c D F hr hn
  refine x_aload_n F 0 dT_chapters_0 rfl rfl ?_
  refine x_get (ci := 4) F 7 (x_in inT) rfl (by decide) (x_m kfT_35) dT_chapters_1 h0 rfl ?_
  exact x_iret F hr dT_chapters_4 (x_is_i _ _ _)
set_option maxHeartbeats 4000000 in
set_option maxRecDepth 100000 in
theorem cT_isFull (l : Launch) (nx : Nat) (M : xH) (a : Nat) (cd : Nat → Int64) (ds ps ch wc : Nat → Int32) (wd : Nat → Int64) (n cp : Nat) (hT : tAt M a cd ds ps ch wc wd n cp) : xC l xcl yT_isFull (xw (Cond.code yT_isFull bT_isFull 1 (some .boolean))) ({ frames := 0, cells := 0, slots := 0, locals := 0 } : Room) [.ref (a)] nx M (x_is (some (.int (bI (decide (40 ≤ n))))) nx M) := by
  obtain ⟨h0, h1, h2, h3, h4, h5, h6, hz, hcp⟩ := id hT
  refine yC (by decide) (Nat.le_of_ble_eq_true rfl) ?_
  intro p e s m args below meth c D F hr hn
  refine x_aload_n F 0 dT_isFull_0 rfl rfl ?_
  refine x_get (ci := 4) F 6 (x_in inT) rfl (by decide) (x_m kfT_31) dT_isFull_1 h0 rfl ?_
  refine x_bipush F (v := nI (40)) dT_isFull_4 (by decide) ?_
  refine x_icmp_lt F (tgt := 13) dT_isFull_6 (by decide) (fun c1 => ?_) (fun c1 => ?_)
  · skip
    have c1 : n < 40 := by
      exact (nI_ltI (a := n) (b := 40) (by omega) (by omega)).mp c1
    refine x_iconst F (v := nI (0)) dT_isFull_13 (by decide) ?_
    exact x_zret F hr (by rfl) dT_isFull_14 (x_f (by simp; omega))
  · skip
    have c1 : 40 ≤ n := by
      have z : ¬ (n < 40) := fun q => c1 ((nI_ltI (a := n) (b := 40) (by omega) (by omega)).mpr q)
      omega
    refine x_iconst F (v := nI (1)) dT_isFull_9 (by decide) ?_
    refine x_goto F (tgt := 14) dT_isFull_10 (by decide) ?_
    exact x_zret F hr (by rfl) dT_isFull_14 (x_t (by simp; omega))
set_option maxHeartbeats 4000000 in
set_option maxRecDepth 100000 in
/-- has: a row -/
theorem cT_has (l : Launch) (nx : Nat) (M : xH) (a : Nat) (cd : Nat → Int64) (ds ps ch wc : Nat → Int32) (wd : Nat → Int64) (n cp : Nat) (hT : tAt M a cd ds ps ch wc wd n cp) (j : Nat) (hj : j < n) : xC l xcl yT_has (xw (Cond.code yT_has bT_has 2 (some .boolean))) ({ frames := 0, cells := 0, slots := 0, locals := 0 } : Room) [.ref (a), .int (nI (j))] nx M (x_is (some (.int (nI (1)))) nx M) := by
  obtain ⟨h0, h1, h2, h3, h4, h5, h6, hz, hcp⟩ := id hT
  refine yC (by decide) (Nat.le_of_ble_eq_true rfl) ?_
  intro p e s m args below meth c D F hr hn
  refine x_iload_n F 1 dT_has_0 rfl rfl ?_
  refine x_if_lt F (tgt := 22) dT_has_1 (by decide) (fun c1 => ?_) (fun c1 => ?_)
  · skip
    have c1 : j < 0 := by
      exact (nI_ltI (a := j) (b := 0) (by omega) (by omega)).mp c1
    exact absurd c1 (by omega)
  · skip
    have c1 : 0 ≤ j := by
      have z : ¬ (j < 0) := fun q => c1 ((nI_ltI (a := j) (b := 0) (by omega) (by omega)).mpr q)
      omega
    refine x_iload_n F 1 dT_has_4 rfl rfl ?_
    refine x_aload_n F 0 dT_has_5 rfl rfl ?_
    refine x_get (ci := 4) F 6 (x_in inT) rfl (by decide) (x_m kfT_31) dT_has_6 h0 rfl ?_
    refine x_icmp_ge F (tgt := 22) dT_has_9 (by decide) (fun c2 => ?_) (fun c2 => ?_)
    · skip
      have c2 : n ≤ j := by
        exact (nI_leI (a := n) (b := j) (by omega) (by omega)).mp c2
      exact absurd c2 (by omega)
    · skip
      have c2 : j < n := by
        have z : ¬ (n ≤ j) := fun q => c2 ((nI_leI (a := n) (b := j) (by omega) (by omega)).mpr q)
        omega
      refine x_iload_n F 1 dT_has_12 rfl rfl ?_
      refine x_bipush F (v := nI (40)) dT_has_13 (by decide) ?_
      refine x_icmp_ge F (tgt := 22) dT_has_15 (by decide) (fun c3 => ?_) (fun c3 => ?_)
      · skip
        have c3 : 40 ≤ j := by
          exact (nI_leI (a := 40) (b := j) (by omega) (by omega)).mp c3
        exact absurd c3 (by omega)
      · skip
        have c3 : j < 40 := by
          have z : ¬ (40 ≤ j) := fun q => c3 ((nI_leI (a := 40) (b := j) (by omega) (by omega)).mpr q)
          omega
        refine x_iconst F (v := nI (1)) dT_has_18 (by decide) ?_
        refine x_goto F (tgt := 23) dT_has_19 (by decide) ?_
        exact x_zret F hr (by rfl) dT_has_23 (x_is_i _ _ _)
set_option maxHeartbeats 4000000 in
set_option maxRecDepth 100000 in
/-- has: no row -/
theorem cT_hasN (l : Launch) (nx : Nat) (M : xH) (a : Nat) (cd : Nat → Int64) (ds ps ch wc : Nat → Int32) (wd : Nat → Int64) (n cp : Nat) (hT : tAt M a cd ds ps ch wc wd n cp) (i : Int32) (hi : ¬ vp_in i n) : xC l xcl yT_has (xw (Cond.code yT_has bT_has 2 (some .boolean))) ({ frames := 0, cells := 0, slots := 0, locals := 0 } : Room) [.ref (a), .int (i)] nx M (x_is (some (.int (nI (0)))) nx M) := by
  obtain ⟨h0, h1, h2, h3, h4, h5, h6, hz, hcp⟩ := id hT
  refine yC (by decide) (Nat.le_of_ble_eq_true rfl) ?_
  intro p e s m args below meth c D F hr hn
  refine x_iload_n F 1 dT_has_0 rfl rfl ?_
  refine x_if_lt F (tgt := 22) dT_has_1 (by decide) (fun c1 => ?_) (fun c1 => ?_)
  · skip
    refine x_iconst F (v := nI (0)) dT_has_22 (by decide) ?_
    exact x_zret F hr (by rfl) dT_has_23 (x_is_i _ _ _)
  · skip
    refine x_iload_n F 1 dT_has_4 rfl rfl ?_
    refine x_aload_n F 0 dT_has_5 rfl rfl ?_
    refine x_get (ci := 4) F 6 (x_in inT) rfl (by decide) (x_m kfT_31) dT_has_6 h0 rfl ?_
    refine x_icmp_ge F (tgt := 22) dT_has_9 (by decide) (fun c2 => ?_) (fun c2 => ?_)
    · skip
      refine x_iconst F (v := nI (0)) dT_has_22 (by decide) ?_
      exact x_zret F hr (by rfl) dT_has_23 (x_is_i _ _ _)
    · skip
      exact absurd (x_out (by omega) hi c1 c2) id
set_option maxHeartbeats 4000000 in
set_option maxRecDepth 100000 in
theorem cT_codeOf (l : Launch) (nx : Nat) (M : xH) (a : Nat) (cd : Nat → Int64) (ds ps ch wc : Nat → Int32) (wd : Nat → Int64) (n cp : Nat) (hT : tAt M a cd ds ps ch wc wd n cp) (j : Nat) (hj : j < n) : xC l xcl yT_codeOf (xw (Cond.code yT_codeOf bT_codeOf 2 (some .long))) ({ frames := 1, cells := 0, slots := 0, locals := 21 } : Room) [.ref (a), .int (nI (j))] nx M (x_is (some (.long ((cd) (j)))) nx M) := by
  obtain ⟨h0, h1, h2, h3, h4, h5, h6, hz, hcp⟩ := id hT
  refine yC (by decide) (Nat.le_of_ble_eq_true rfl) ?_
  intro p e s m args below meth c D F hr hn
  refine x_aload_n F 0 dT_codeOf_0 rfl rfl ?_
  refine x_iload_n F 1 dT_codeOf_1 rfl rfl ?_
  refine yV (n := 1) (As := [.int (nI (j))]) (ci := 4) F kmT_38 kiT_has ksT_has knT kcT_has (by decide +kernel) dT_codeOf_2 (cT_has l (nx) M (a) cd ds ps ch wc wd n cp hT j hj) rfl h0 rfl rfl (Nat.le_of_ble_eq_true rfl) ⟨Nat.le_of_ble_eq_true rfl, Nat.le_of_ble_eq_true rfl⟩ ⟨Nat.le_of_ble_eq_true rfl, Nat.le_of_ble_eq_true rfl⟩ ?_
  refine x_if_eq F (tgt := 17) dT_codeOf_5 (by decide) (fun c1 => ?_) (fun c1 => ?_)
  · skip
    have c1 : 1 = 0 := by
      exact (nI_eq (a := 1) (b := 0) (by omega) (by omega)).mp c1
    exact absurd c1 (by decide)
  · skip
    have c1 : 1 ≠ 0 := by
      have z : ¬ (1 = 0) := fun q => c1 ((nI_eq (a := 1) (b := 0) (by omega) (by omega)).mpr q)
      omega
    refine x_aload_n F 0 dT_codeOf_8 rfl rfl ?_
    refine x_get (ci := 4) F 0 (x_in inT) rfl (by decide) (x_m kfT_9) dT_codeOf_9 h0 rfl ?_
    refine x_iload_n F 1 dT_codeOf_12 rfl rfl ?_
    refine x_lald F dT_codeOf_13 h1 (pk_in (j) (40) (by omega)) ?_
    refine xW.tol ((cd) (j)) (by rw [nI_clamp (by omega)]) ?_
    refine x_goto F (tgt := 18) dT_codeOf_14 (by decide) ?_
    exact x_lret F hr dT_codeOf_18 (x_is_i _ _ _)
set_option maxHeartbeats 4000000 in
set_option maxRecDepth 100000 in
theorem cT_codeOfN (l : Launch) (nx : Nat) (M : xH) (a : Nat) (cd : Nat → Int64) (ds ps ch wc : Nat → Int32) (wd : Nat → Int64) (n cp : Nat) (hT : tAt M a cd ds ps ch wc wd n cp) (i : Int32) (hi : ¬ vp_in i n) : xC l xcl yT_codeOf (xw (Cond.code yT_codeOf bT_codeOf 2 (some .long))) ({ frames := 1, cells := 0, slots := 0, locals := 21 } : Room) [.ref (a), .int (i)] nx M (x_is (some (.long (0))) nx M) := by
  obtain ⟨h0, h1, h2, h3, h4, h5, h6, hz, hcp⟩ := id hT
  refine yC (by decide) (Nat.le_of_ble_eq_true rfl) ?_
  intro p e s m args below meth c D F hr hn
  refine x_aload_n F 0 dT_codeOf_0 rfl rfl ?_
  refine x_iload_n F 1 dT_codeOf_1 rfl rfl ?_
  refine yV (n := 1) (As := [.int (i)]) (ci := 4) F kmT_38 kiT_has ksT_has knT kcT_has (by decide +kernel) dT_codeOf_2 (cT_hasN l (nx) M (a) cd ds ps ch wc wd n cp hT i hi) rfl h0 rfl rfl (Nat.le_of_ble_eq_true rfl) ⟨Nat.le_of_ble_eq_true rfl, Nat.le_of_ble_eq_true rfl⟩ ⟨Nat.le_of_ble_eq_true rfl, Nat.le_of_ble_eq_true rfl⟩ ?_
  refine x_if_eq F (tgt := 17) dT_codeOf_5 (by decide) (fun c1 => ?_) (fun c1 => ?_)
  · skip
    have c1 : 0 = 0 := by
      exact (nI_eq (a := 0) (b := 0) (by omega) (by omega)).mp c1
    refine x_lconst F (v := 0) dT_codeOf_17 (by decide) ?_
    exact x_lret F hr dT_codeOf_18 (x_is_i _ _ _)
  · skip
    have c1 : 0 ≠ 0 := by
      have z : ¬ (0 = 0) := fun q => c1 ((nI_eq (a := 0) (b := 0) (by omega) (by omega)).mpr q)
      omega
    exact absurd c1 (by decide)
set_option maxHeartbeats 4000000 in
set_option maxRecDepth 100000 in
theorem cT_dashesOf (l : Launch) (nx : Nat) (M : xH) (a : Nat) (cd : Nat → Int64) (ds ps ch wc : Nat → Int32) (wd : Nat → Int64) (n cp : Nat) (hT : tAt M a cd ds ps ch wc wd n cp) (j : Nat) (hj : j < n) : xC l xcl yT_dashesOf (xw (Cond.code yT_dashesOf bT_dashesOf 2 (some .int))) ({ frames := 1, cells := 0, slots := 0, locals := 21 } : Room) [.ref (a), .int (nI (j))] nx M (x_is (some (.int ((ds) (j)))) nx M) := by
  obtain ⟨h0, h1, h2, h3, h4, h5, h6, hz, hcp⟩ := id hT
  refine yC (by decide) (Nat.le_of_ble_eq_true rfl) ?_
  intro p e s m args below meth c D F hr hn
  refine x_aload_n F 0 dT_dashesOf_0 rfl rfl ?_
  refine x_iload_n F 1 dT_dashesOf_1 rfl rfl ?_
  refine yV (n := 1) (As := [.int (nI (j))]) (ci := 4) F kmT_38 kiT_has ksT_has knT kcT_has (by decide +kernel) dT_dashesOf_2 (cT_has l (nx) M (a) cd ds ps ch wc wd n cp hT j hj) rfl h0 rfl rfl (Nat.le_of_ble_eq_true rfl) ⟨Nat.le_of_ble_eq_true rfl, Nat.le_of_ble_eq_true rfl⟩ ⟨Nat.le_of_ble_eq_true rfl, Nat.le_of_ble_eq_true rfl⟩ ?_
  refine x_if_eq F (tgt := 17) dT_dashesOf_5 (by decide) (fun c1 => ?_) (fun c1 => ?_)
  · skip
    have c1 : 1 = 0 := by
      exact (nI_eq (a := 1) (b := 0) (by omega) (by omega)).mp c1
    exact absurd c1 (by decide)
  · skip
    have c1 : 1 ≠ 0 := by
      have z : ¬ (1 = 0) := fun q => c1 ((nI_eq (a := 1) (b := 0) (by omega) (by omega)).mpr q)
      omega
    refine x_aload_n F 0 dT_dashesOf_8 rfl rfl ?_
    refine x_get (ci := 4) F 1 (x_in inT) rfl (by decide) (x_m kfT_15) dT_dashesOf_9 h0 rfl ?_
    refine x_iload_n F 1 dT_dashesOf_12 rfl rfl ?_
    refine x_iald F dT_dashesOf_13 h2 (pk_in (j) (40) (by omega)) ?_
    refine xW.toi ((ds) (j)) (by rw [nI_clamp (by omega)]) ?_
    refine x_goto F (tgt := 18) dT_dashesOf_14 (by decide) ?_
    exact x_iret F hr dT_dashesOf_18 (x_is_i _ _ _)
set_option maxHeartbeats 4000000 in
set_option maxRecDepth 100000 in
theorem cT_dashesOfN (l : Launch) (nx : Nat) (M : xH) (a : Nat) (cd : Nat → Int64) (ds ps ch wc : Nat → Int32) (wd : Nat → Int64) (n cp : Nat) (hT : tAt M a cd ds ps ch wc wd n cp) (i : Int32) (hi : ¬ vp_in i n) : xC l xcl yT_dashesOf (xw (Cond.code yT_dashesOf bT_dashesOf 2 (some .int))) ({ frames := 1, cells := 0, slots := 0, locals := 21 } : Room) [.ref (a), .int (i)] nx M (x_is (some (.int ((-1)))) nx M) := by
  obtain ⟨h0, h1, h2, h3, h4, h5, h6, hz, hcp⟩ := id hT
  refine yC (by decide) (Nat.le_of_ble_eq_true rfl) ?_
  intro p e s m args below meth c D F hr hn
  refine x_aload_n F 0 dT_dashesOf_0 rfl rfl ?_
  refine x_iload_n F 1 dT_dashesOf_1 rfl rfl ?_
  refine yV (n := 1) (As := [.int (i)]) (ci := 4) F kmT_38 kiT_has ksT_has knT kcT_has (by decide +kernel) dT_dashesOf_2 (cT_hasN l (nx) M (a) cd ds ps ch wc wd n cp hT i hi) rfl h0 rfl rfl (Nat.le_of_ble_eq_true rfl) ⟨Nat.le_of_ble_eq_true rfl, Nat.le_of_ble_eq_true rfl⟩ ⟨Nat.le_of_ble_eq_true rfl, Nat.le_of_ble_eq_true rfl⟩ ?_
  refine x_if_eq F (tgt := 17) dT_dashesOf_5 (by decide) (fun c1 => ?_) (fun c1 => ?_)
  · skip
    have c1 : 0 = 0 := by
      exact (nI_eq (a := 0) (b := 0) (by omega) (by omega)).mp c1
    refine x_iconst F (v := (-1)) dT_dashesOf_17 (by decide) ?_
    exact x_iret F hr dT_dashesOf_18 (x_is_i _ _ _)
  · skip
    have c1 : 0 ≠ 0 := by
      have z : ¬ (0 = 0) := fun q => c1 ((nI_eq (a := 0) (b := 0) (by omega) (by omega)).mpr q)
      omega
    exact absurd c1 (by decide)
set_option maxHeartbeats 4000000 in
set_option maxRecDepth 100000 in
theorem cT_parentOf (l : Launch) (nx : Nat) (M : xH) (a : Nat) (cd : Nat → Int64) (ds ps ch wc : Nat → Int32) (wd : Nat → Int64) (n cp : Nat) (hT : tAt M a cd ds ps ch wc wd n cp) (j : Nat) (hj : j < n) : xC l xcl yT_parentOf (xw (Cond.code yT_parentOf bT_parentOf 2 (some .int))) ({ frames := 1, cells := 0, slots := 0, locals := 21 } : Room) [.ref (a), .int (nI (j))] nx M (x_is (some (.int ((ps) (j)))) nx M) := by
  obtain ⟨h0, h1, h2, h3, h4, h5, h6, hz, hcp⟩ := id hT
  refine yC (by decide) (Nat.le_of_ble_eq_true rfl) ?_
  intro p e s m args below meth c D F hr hn
  refine x_aload_n F 0 dT_parentOf_0 rfl rfl ?_
  refine x_iload_n F 1 dT_parentOf_1 rfl rfl ?_
  refine yV (n := 1) (As := [.int (nI (j))]) (ci := 4) F kmT_38 kiT_has ksT_has knT kcT_has (by decide +kernel) dT_parentOf_2 (cT_has l (nx) M (a) cd ds ps ch wc wd n cp hT j hj) rfl h0 rfl rfl (Nat.le_of_ble_eq_true rfl) ⟨Nat.le_of_ble_eq_true rfl, Nat.le_of_ble_eq_true rfl⟩ ⟨Nat.le_of_ble_eq_true rfl, Nat.le_of_ble_eq_true rfl⟩ ?_
  refine x_if_eq F (tgt := 17) dT_parentOf_5 (by decide) (fun c1 => ?_) (fun c1 => ?_)
  · skip
    have c1 : 1 = 0 := by
      exact (nI_eq (a := 1) (b := 0) (by omega) (by omega)).mp c1
    exact absurd c1 (by decide)
  · skip
    have c1 : 1 ≠ 0 := by
      have z : ¬ (1 = 0) := fun q => c1 ((nI_eq (a := 1) (b := 0) (by omega) (by omega)).mpr q)
      omega
    refine x_aload_n F 0 dT_parentOf_8 rfl rfl ?_
    refine x_get (ci := 4) F 2 (x_in inT) rfl (by decide) (x_m kfT_19) dT_parentOf_9 h0 rfl ?_
    refine x_iload_n F 1 dT_parentOf_12 rfl rfl ?_
    refine x_iald F dT_parentOf_13 h3 (pk_in (j) (40) (by omega)) ?_
    refine xW.toi ((ps) (j)) (by rw [nI_clamp (by omega)]) ?_
    refine x_goto F (tgt := 18) dT_parentOf_14 (by decide) ?_
    exact x_iret F hr dT_parentOf_18 (x_is_i _ _ _)
set_option maxHeartbeats 4000000 in
set_option maxRecDepth 100000 in
theorem cT_parentOfN (l : Launch) (nx : Nat) (M : xH) (a : Nat) (cd : Nat → Int64) (ds ps ch wc : Nat → Int32) (wd : Nat → Int64) (n cp : Nat) (hT : tAt M a cd ds ps ch wc wd n cp) (i : Int32) (hi : ¬ vp_in i n) : xC l xcl yT_parentOf (xw (Cond.code yT_parentOf bT_parentOf 2 (some .int))) ({ frames := 1, cells := 0, slots := 0, locals := 21 } : Room) [.ref (a), .int (i)] nx M (x_is (some (.int ((-1)))) nx M) := by
  obtain ⟨h0, h1, h2, h3, h4, h5, h6, hz, hcp⟩ := id hT
  refine yC (by decide) (Nat.le_of_ble_eq_true rfl) ?_
  intro p e s m args below meth c D F hr hn
  refine x_aload_n F 0 dT_parentOf_0 rfl rfl ?_
  refine x_iload_n F 1 dT_parentOf_1 rfl rfl ?_
  refine yV (n := 1) (As := [.int (i)]) (ci := 4) F kmT_38 kiT_has ksT_has knT kcT_has (by decide +kernel) dT_parentOf_2 (cT_hasN l (nx) M (a) cd ds ps ch wc wd n cp hT i hi) rfl h0 rfl rfl (Nat.le_of_ble_eq_true rfl) ⟨Nat.le_of_ble_eq_true rfl, Nat.le_of_ble_eq_true rfl⟩ ⟨Nat.le_of_ble_eq_true rfl, Nat.le_of_ble_eq_true rfl⟩ ?_
  refine x_if_eq F (tgt := 17) dT_parentOf_5 (by decide) (fun c1 => ?_) (fun c1 => ?_)
  · skip
    have c1 : 0 = 0 := by
      exact (nI_eq (a := 0) (b := 0) (by omega) (by omega)).mp c1
    refine x_iconst F (v := (-1)) dT_parentOf_17 (by decide) ?_
    exact x_iret F hr dT_parentOf_18 (x_is_i _ _ _)
  · skip
    have c1 : 0 ≠ 0 := by
      have z : ¬ (0 = 0) := fun q => c1 ((nI_eq (a := 0) (b := 0) (by omega) (by omega)).mpr q)
      omega
    exact absurd c1 (by decide)
set_option maxHeartbeats 4000000 in
set_option maxRecDepth 100000 in
theorem cT_childrenOf (l : Launch) (nx : Nat) (M : xH) (a : Nat) (cd : Nat → Int64) (ds ps ch wc : Nat → Int32) (wd : Nat → Int64) (n cp : Nat) (hT : tAt M a cd ds ps ch wc wd n cp) (j : Nat) (hj : j < n) : xC l xcl yT_childrenOf (xw (Cond.code yT_childrenOf bT_childrenOf 2 (some .int))) ({ frames := 1, cells := 0, slots := 0, locals := 21 } : Room) [.ref (a), .int (nI (j))] nx M (x_is (some (.int ((ch) (j)))) nx M) := by
  obtain ⟨h0, h1, h2, h3, h4, h5, h6, hz, hcp⟩ := id hT
  refine yC (by decide) (Nat.le_of_ble_eq_true rfl) ?_
  intro p e s m args below meth c D F hr hn
  refine x_aload_n F 0 dT_childrenOf_0 rfl rfl ?_
  refine x_iload_n F 1 dT_childrenOf_1 rfl rfl ?_
  refine yV (n := 1) (As := [.int (nI (j))]) (ci := 4) F kmT_38 kiT_has ksT_has knT kcT_has (by decide +kernel) dT_childrenOf_2 (cT_has l (nx) M (a) cd ds ps ch wc wd n cp hT j hj) rfl h0 rfl rfl (Nat.le_of_ble_eq_true rfl) ⟨Nat.le_of_ble_eq_true rfl, Nat.le_of_ble_eq_true rfl⟩ ⟨Nat.le_of_ble_eq_true rfl, Nat.le_of_ble_eq_true rfl⟩ ?_
  refine x_if_eq F (tgt := 17) dT_childrenOf_5 (by decide) (fun c1 => ?_) (fun c1 => ?_)
  · skip
    have c1 : 1 = 0 := by
      exact (nI_eq (a := 1) (b := 0) (by omega) (by omega)).mp c1
    exact absurd c1 (by decide)
  · skip
    have c1 : 1 ≠ 0 := by
      have z : ¬ (1 = 0) := fun q => c1 ((nI_eq (a := 1) (b := 0) (by omega) (by omega)).mpr q)
      omega
    refine x_aload_n F 0 dT_childrenOf_8 rfl rfl ?_
    refine x_get (ci := 4) F 3 (x_in inT) rfl (by decide) (x_m kfT_22) dT_childrenOf_9 h0 rfl ?_
    refine x_iload_n F 1 dT_childrenOf_12 rfl rfl ?_
    refine x_iald F dT_childrenOf_13 h4 (pk_in (j) (40) (by omega)) ?_
    refine xW.toi ((ch) (j)) (by rw [nI_clamp (by omega)]) ?_
    refine x_goto F (tgt := 18) dT_childrenOf_14 (by decide) ?_
    exact x_iret F hr dT_childrenOf_18 (x_is_i _ _ _)
set_option maxHeartbeats 4000000 in
set_option maxRecDepth 100000 in
theorem cT_childrenOfN (l : Launch) (nx : Nat) (M : xH) (a : Nat) (cd : Nat → Int64) (ds ps ch wc : Nat → Int32) (wd : Nat → Int64) (n cp : Nat) (hT : tAt M a cd ds ps ch wc wd n cp) (i : Int32) (hi : ¬ vp_in i n) : xC l xcl yT_childrenOf (xw (Cond.code yT_childrenOf bT_childrenOf 2 (some .int))) ({ frames := 1, cells := 0, slots := 0, locals := 21 } : Room) [.ref (a), .int (i)] nx M (x_is (some (.int (nI (0)))) nx M) := by
  obtain ⟨h0, h1, h2, h3, h4, h5, h6, hz, hcp⟩ := id hT
  refine yC (by decide) (Nat.le_of_ble_eq_true rfl) ?_
  intro p e s m args below meth c D F hr hn
  refine x_aload_n F 0 dT_childrenOf_0 rfl rfl ?_
  refine x_iload_n F 1 dT_childrenOf_1 rfl rfl ?_
  refine yV (n := 1) (As := [.int (i)]) (ci := 4) F kmT_38 kiT_has ksT_has knT kcT_has (by decide +kernel) dT_childrenOf_2 (cT_hasN l (nx) M (a) cd ds ps ch wc wd n cp hT i hi) rfl h0 rfl rfl (Nat.le_of_ble_eq_true rfl) ⟨Nat.le_of_ble_eq_true rfl, Nat.le_of_ble_eq_true rfl⟩ ⟨Nat.le_of_ble_eq_true rfl, Nat.le_of_ble_eq_true rfl⟩ ?_
  refine x_if_eq F (tgt := 17) dT_childrenOf_5 (by decide) (fun c1 => ?_) (fun c1 => ?_)
  · skip
    have c1 : 0 = 0 := by
      exact (nI_eq (a := 0) (b := 0) (by omega) (by omega)).mp c1
    refine x_iconst F (v := nI (0)) dT_childrenOf_17 (by decide) ?_
    exact x_iret F hr dT_childrenOf_18 (x_is_i _ _ _)
  · skip
    have c1 : 0 ≠ 0 := by
      have z : ¬ (0 = 0) := fun q => c1 ((nI_eq (a := 0) (b := 0) (by omega) (by omega)).mpr q)
      omega
    exact absurd c1 (by decide)
set_option maxHeartbeats 4000000 in
set_option maxRecDepth 100000 in
theorem cT_wordsOf (l : Launch) (nx : Nat) (M : xH) (a : Nat) (cd : Nat → Int64) (ds ps ch wc : Nat → Int32) (wd : Nat → Int64) (n cp : Nat) (hT : tAt M a cd ds ps ch wc wd n cp) (j : Nat) (hj : j < n) : xC l xcl yT_wordsOf (xw (Cond.code yT_wordsOf bT_wordsOf 2 (some .int))) ({ frames := 1, cells := 0, slots := 0, locals := 21 } : Room) [.ref (a), .int (nI (j))] nx M (x_is (some (.int ((wc) (j)))) nx M) := by
  obtain ⟨h0, h1, h2, h3, h4, h5, h6, hz, hcp⟩ := id hT
  refine yC (by decide) (Nat.le_of_ble_eq_true rfl) ?_
  intro p e s m args below meth c D F hr hn
  refine x_aload_n F 0 dT_wordsOf_0 rfl rfl ?_
  refine x_iload_n F 1 dT_wordsOf_1 rfl rfl ?_
  refine yV (n := 1) (As := [.int (nI (j))]) (ci := 4) F kmT_38 kiT_has ksT_has knT kcT_has (by decide +kernel) dT_wordsOf_2 (cT_has l (nx) M (a) cd ds ps ch wc wd n cp hT j hj) rfl h0 rfl rfl (Nat.le_of_ble_eq_true rfl) ⟨Nat.le_of_ble_eq_true rfl, Nat.le_of_ble_eq_true rfl⟩ ⟨Nat.le_of_ble_eq_true rfl, Nat.le_of_ble_eq_true rfl⟩ ?_
  refine x_if_eq F (tgt := 17) dT_wordsOf_5 (by decide) (fun c1 => ?_) (fun c1 => ?_)
  · skip
    have c1 : 1 = 0 := by
      exact (nI_eq (a := 1) (b := 0) (by omega) (by omega)).mp c1
    exact absurd c1 (by decide)
  · skip
    have c1 : 1 ≠ 0 := by
      have z : ¬ (1 = 0) := fun q => c1 ((nI_eq (a := 1) (b := 0) (by omega) (by omega)).mpr q)
      omega
    refine x_aload_n F 0 dT_wordsOf_8 rfl rfl ?_
    refine x_get (ci := 4) F 4 (x_in inT) rfl (by decide) (x_m kfT_25) dT_wordsOf_9 h0 rfl ?_
    refine x_iload_n F 1 dT_wordsOf_12 rfl rfl ?_
    refine x_iald F dT_wordsOf_13 h5 (pk_in (j) (40) (by omega)) ?_
    refine xW.toi ((wc) (j)) (by rw [nI_clamp (by omega)]) ?_
    refine x_goto F (tgt := 18) dT_wordsOf_14 (by decide) ?_
    exact x_iret F hr dT_wordsOf_18 (x_is_i _ _ _)
set_option maxHeartbeats 4000000 in
set_option maxRecDepth 100000 in
theorem cT_wordsOfN (l : Launch) (nx : Nat) (M : xH) (a : Nat) (cd : Nat → Int64) (ds ps ch wc : Nat → Int32) (wd : Nat → Int64) (n cp : Nat) (hT : tAt M a cd ds ps ch wc wd n cp) (i : Int32) (hi : ¬ vp_in i n) : xC l xcl yT_wordsOf (xw (Cond.code yT_wordsOf bT_wordsOf 2 (some .int))) ({ frames := 1, cells := 0, slots := 0, locals := 21 } : Room) [.ref (a), .int (i)] nx M (x_is (some (.int (nI (0)))) nx M) := by
  obtain ⟨h0, h1, h2, h3, h4, h5, h6, hz, hcp⟩ := id hT
  refine yC (by decide) (Nat.le_of_ble_eq_true rfl) ?_
  intro p e s m args below meth c D F hr hn
  refine x_aload_n F 0 dT_wordsOf_0 rfl rfl ?_
  refine x_iload_n F 1 dT_wordsOf_1 rfl rfl ?_
  refine yV (n := 1) (As := [.int (i)]) (ci := 4) F kmT_38 kiT_has ksT_has knT kcT_has (by decide +kernel) dT_wordsOf_2 (cT_hasN l (nx) M (a) cd ds ps ch wc wd n cp hT i hi) rfl h0 rfl rfl (Nat.le_of_ble_eq_true rfl) ⟨Nat.le_of_ble_eq_true rfl, Nat.le_of_ble_eq_true rfl⟩ ⟨Nat.le_of_ble_eq_true rfl, Nat.le_of_ble_eq_true rfl⟩ ?_
  refine x_if_eq F (tgt := 17) dT_wordsOf_5 (by decide) (fun c1 => ?_) (fun c1 => ?_)
  · skip
    have c1 : 0 = 0 := by
      exact (nI_eq (a := 0) (b := 0) (by omega) (by omega)).mp c1
    refine x_iconst F (v := nI (0)) dT_wordsOf_17 (by decide) ?_
    exact x_iret F hr dT_wordsOf_18 (x_is_i _ _ _)
  · skip
    have c1 : 0 ≠ 0 := by
      have z : ¬ (0 = 0) := fun q => c1 ((nI_eq (a := 0) (b := 0) (by omega) (by omega)).mpr q)
      omega
    exact absurd c1 (by decide)
set_option maxHeartbeats 4000000 in
set_option maxRecDepth 100000 in
/-- rowOf: the first row of that code, or -1 -/
theorem cT_rowOf (l : Launch) (nx : Nat) (M : xH) (a : Nat) (cd : Nat → Int64) (ds ps ch wc : Nat → Int32) (wd : Nat → Int64) (n cp : Nat) (hT : tAt M a cd ds ps ch wc wd n cp) (co : Int64) : xC l xcl yT_rowOf (xw (Cond.code yT_rowOf bT_rowOf 4 (some .int))) ({ frames := 0, cells := 0, slots := 0, locals := 0 } : Room) [.ref (a), .long (co)] nx M (x_is (some (.int (oi (fi (fun j => decide (cd j = co)) n 0)))) nx M) := by
  obtain ⟨h0, h1, h2, h3, h4, h5, h6, hz, hcp⟩ := id hT
  refine yC (by decide) (Nat.le_of_ble_eq_true rfl) ?_
  intro p e s m args below meth c D F hr hn
  have loop : ∀ (k i : Nat), i + k = n → fi (fun j => decide (cd j = co)) n 0 = fi (fun j => decide (cd j = co)) k i → xW p l e ({ frames := 0, cells := 0, slots := 0, locals := 0 } : Room) s m args below meth c D xcl (x_A M nx) 4 (MQ below (x_Q D xcl (x_A M nx) (x_is (some (.int (oi (fi (fun j => decide (cd j = co)) n 0)))) nx M)) args s 0 0 (x_A M nx)) 0 0 nx M 2 [(3, .int (nI i)), (0, .ref a), (1, .long co)] [] := by
    intro k
    induction k with
    | zero =>
      intro i hi hf
      refine x_iload_n F 0 dT_rowOf_2 rfl rfl ?_
      refine x_aload_n F 1 dT_rowOf_3 rfl rfl ?_
      refine x_get (ci := 4) F 6 (x_in inT) rfl (by decide) (x_m kfT_31) dT_rowOf_4 h0 rfl ?_
      refine x_icmp_ge F (tgt := 29) dT_rowOf_7 (by decide) (fun c1 => ?_) (fun c1 => ?_)
      · skip
        have c1 : n ≤ i := by
          exact (nI_leI (a := n) (b := i) (by omega) (by omega)).mp c1
        refine x_iconst F (v := (-1)) dT_rowOf_29 (by decide) ?_
        exact x_iret F hr dT_rowOf_30 (x_e (by rw [hf]; rfl))
      · skip
        have c1 : i < n := by
          have z : ¬ (n ≤ i) := fun q => c1 ((nI_leI (a := n) (b := i) (by omega) (by omega)).mpr q)
          omega
        exact absurd c1 (by omega)
    | succ k ih =>
      intro i hi hf
      refine x_iload_n F 0 dT_rowOf_2 rfl rfl ?_
      refine x_aload_n F 1 dT_rowOf_3 rfl rfl ?_
      refine x_get (ci := 4) F 6 (x_in inT) rfl (by decide) (x_m kfT_31) dT_rowOf_4 h0 rfl ?_
      refine x_icmp_ge F (tgt := 29) dT_rowOf_7 (by decide) (fun c2 => ?_) (fun c2 => ?_)
      · skip
        have c2 : n ≤ i := by
          exact (nI_leI (a := n) (b := i) (by omega) (by omega)).mp c2
        exact absurd c2 (by omega)
      · skip
        have c2 : i < n := by
          have z : ¬ (n ≤ i) := fun q => c2 ((nI_leI (a := n) (b := i) (by omega) (by omega)).mpr q)
          omega
        refine x_aload_n F 1 dT_rowOf_10 rfl rfl ?_
        refine x_get (ci := 4) F 0 (x_in inT) rfl (by decide) (x_m kfT_9) dT_rowOf_11 h0 rfl ?_
        refine x_iload_n F 0 dT_rowOf_14 rfl rfl ?_
        refine x_lald F dT_rowOf_15 h1 (pk_in (i) (40) (by omega)) ?_
        refine xW.tol ((cd) (i)) (by rw [nI_clamp (by omega)]) ?_
        refine x_lload_n F 2 dT_rowOf_16 rfl rfl ?_
        refine x_lcmp F dT_rowOf_17 ?_
        refine x_if_ne F (tgt := 23) dT_rowOf_18 (by decide) (fun c3 => ?_) (fun c3 => ?_)
        · skip
          have c3 : ¬ (cd) (i) = co := fun z => c3 ((lg_cmp_eq ((cd) (i)) (co)).mpr z)
          refine x_iinc F 0 [(3, .int (nI (i + 1))), (0, .ref (a)), (1, .long (co))] dT_rowOf_23 rfl (nI_add (i) 1) (by decide) rfl ?_
          refine x_goto F (tgt := 2) dT_rowOf_26 (by decide) ?_
          exact ih (i + 1) (by omega) (by rw [hf]; rw [fi_s, if_neg (by simpa using c3)])
        · skip
          have c3 : (cd) (i) = co := (lg_cmp_eq ((cd) (i)) (co)).mp c3
          refine x_iload_n F 0 dT_rowOf_21 rfl rfl ?_
          exact x_iret F hr dT_rowOf_22 (x_e (by rw [hf]; rw [fi_s, if_pos (by simpa using c3)]; rfl))
  refine x_iconst F (v := nI (0)) dT_rowOf_0 (by decide) ?_
  refine x_istore_n F [(3, .int (nI (0))), (0, .ref (a)), (1, .long (co))] dT_rowOf_1 rfl (by decide) rfl ?_
  exact loop n 0 (by omega) rfl
