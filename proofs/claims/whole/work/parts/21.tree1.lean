set_option maxHeartbeats 4000000 in
set_option maxRecDepth 100000 in
theorem cT_size (l : Launch) (nx : Nat) (M : xH) (a : Nat) (cd : Nat → Int64) (ds ps ch wc : Nat → Int32) (wd : Nat → Int64) (n cp : Nat) (hT : tAt M a cd ds ps ch wc wd n cp) : xC l xcl yT_size (xw (Cond.code yT_size bT_size 1 (some .int))) ({ frames := 0, cells := 0, slots := 0, locals := 0 } : Room) [.ref (a)] nx M (x_is (some (.int (nI (n)))) nx M) := by
  obtain ⟨h0, h1, h2, h3, h4, h5, h6, hz, hcp⟩ := id hT
  refine yC (by decide) (Nat.le_of_ble_eq_true rfl) ?_
  intro p e s m args below meth c D F hr hn
  refine x_aload_n F 0 dT_size_0 rfl rfl ?_
  refine x_get (ci := 4) F 6 (x_in inT) rfl (by decide) (x_m kfT_31) dT_size_1 h0 rfl ?_
  exact x_iret F hr dT_size_4 (x_is_i _ _ _)
set_option maxHeartbeats 4000000 in
set_option maxRecDepth 100000 in
theorem cT_chapters (l : Launch) (nx : Nat) (M : xH) (a : Nat) (cd : Nat → Int64) (ds ps ch wc : Nat → Int32) (wd : Nat → Int64) (n cp : Nat) (hT : tAt M a cd ds ps ch wc wd n cp) : xC l xcl yT_chapters (xw (Cond.code yT_chapters bT_chapters 1 (some .int))) ({ frames := 0, cells := 0, slots := 0, locals := 0 } : Room) [.ref (a)] nx M (x_is (some (.int (nI (cp)))) nx M) := by
  obtain ⟨h0, h1, h2, h3, h4, h5, h6, hz, hcp⟩ := id hT
  refine yC (by decide) (Nat.le_of_ble_eq_true rfl) ?_
  intro p e s m args below meth c D F hr hn
  refine x_aload_n F 0 dT_chapters_0 rfl rfl ?_
  refine x_get (ci := 4) F 7 (x_in inT) rfl (by decide) (x_m kfT_35) dT_chapters_1 h0 rfl ?_
  exact x_iret F hr dT_chapters_4 (x_is_i _ _ _)
set_option maxHeartbeats 4000000 in
set_option maxRecDepth 100000 in
/-- has: a row -/
theorem cT_has (l : Launch) (nx : Nat) (M : xH) (a : Nat) (cd : Nat → Int64) (ds ps ch wc : Nat → Int32) (wd : Nat → Int64) (n cp : Nat) (hT : tAt M a cd ds ps ch wc wd n cp) (j : Nat) (hj : j < n) : xC l xcl yT_has (xw (Cond.code yT_has bT_has 2 (some .boolean))) ({ frames := 0, cells := 0, slots := 0, locals := 0 } : Room) [.ref (a), .int (nI (j))] nx M (x_is (some (.int (nI (1)))) nx M) := by
  obtain ⟨h0, h1, h2, h3, h4, h5, h6, hz, hcp⟩ := id hT
  refine yC (by decide) (Nat.le_of_ble_eq_true rfl) ?_
  intro p e s m args below meth c D F hr hn
  refine x_iload_n F 1 dT_has_0 rfl rfl ?_
  refine x_if_lt F (tgt := 22) dT_has_1 (by decide) (fun c1 => ?_) (fun c1 => ?_)
  · skip
    have c1 : j < 0 := by
      exact (nI_ltI (a := j) (b := 0) (by omega) (by omega)).mp c1
    exact absurd c1 (by omega)
  · skip
    have c1 : 0 ≤ j := by
      have z := fun q => c1 ((nI_ltI (a := j) (b := 0) (by omega) (by omega)).mpr q)
      omega
    refine x_iload_n F 1 dT_has_4 rfl rfl ?_
    refine x_aload_n F 0 dT_has_5 rfl rfl ?_
    refine x_get (ci := 4) F 6 (x_in inT) rfl (by decide) (x_m kfT_31) dT_has_6 h0 rfl ?_
    refine x_icmp_ge F (tgt := 22) dT_has_9 (by decide) (fun c2 => ?_) (fun c2 => ?_)
    · skip
      have c2 : n ≤ j := by
        exact (nI_leI (a := n) (b := j) (by omega) (by omega)).mp c2
      exact absurd c2 (by omega)
    · skip
      have c2 : j < n := by
        have z := fun q => c2 ((nI_leI (a := n) (b := j) (by omega) (by omega)).mpr q)
        omega
      refine x_iload_n F 1 dT_has_12 rfl rfl ?_
      refine x_bipush F (v := nI (40)) dT_has_13 (by decide) ?_
      refine x_icmp_ge F (tgt := 22) dT_has_15 (by decide) (fun c3 => ?_) (fun c3 => ?_)
      · skip
        have c3 : 40 ≤ j := by
          exact (nI_leI (a := 40) (b := j) (by omega) (by omega)).mp c3
        exact absurd c3 (by omega)
      · skip
        have c3 : j < 40 := by
          have z := fun q => c3 ((nI_leI (a := 40) (b := j) (by omega) (by omega)).mpr q)
          omega
        refine x_iconst F (v := nI (1)) dT_has_18 (by decide) ?_
        refine x_goto F (tgt := 23) dT_has_19 (by decide) ?_
        exact x_zret F hr (by rfl) dT_has_23 (x_is_i _ _ _)
set_option maxHeartbeats 4000000 in
set_option maxRecDepth 100000 in
/-- has: no row -/
theorem cT_hasN (l : Launch) (nx : Nat) (M : xH) (a : Nat) (cd : Nat → Int64) (ds ps ch wc : Nat → Int32) (wd : Nat → Int64) (n cp : Nat) (hT : tAt M a cd ds ps ch wc wd n cp) (i : Int32) (hi : ¬ vp_in i n) : xC l xcl yT_has (xw (Cond.code yT_has bT_has 2 (some .boolean))) ({ frames := 0, cells := 0, slots := 0, locals := 0 } : Room) [.ref (a), .int (i)] nx M (x_is (some (.int (nI (0)))) nx M) := by
  obtain ⟨h0, h1, h2, h3, h4, h5, h6, hz, hcp⟩ := id hT
  refine yC (by decide) (Nat.le_of_ble_eq_true rfl) ?_
  intro p e s m args below meth c D F hr hn
  refine x_iload_n F 1 dT_has_0 rfl rfl ?_
  refine x_if_lt F (tgt := 22) dT_has_1 (by decide) (fun c1 => ?_) (fun c1 => ?_)
  · skip
    refine x_iconst F (v := nI (0)) dT_has_22 (by decide) ?_
    exact x_zret F hr (by rfl) dT_has_23 (x_is_i _ _ _)
  · skip
    refine x_iload_n F 1 dT_has_4 rfl rfl ?_
    refine x_aload_n F 0 dT_has_5 rfl rfl ?_
    refine x_get (ci := 4) F 6 (x_in inT) rfl (by decide) (x_m kfT_31) dT_has_6 h0 rfl ?_
    refine x_icmp_ge F (tgt := 22) dT_has_9 (by decide) (fun c2 => ?_) (fun c2 => ?_)
    · skip
      refine x_iconst F (v := nI (0)) dT_has_22 (by decide) ?_
      exact x_zret F hr (by rfl) dT_has_23 (x_is_i _ _ _)
    · skip
      exact absurd (x_out (by omega) hi c1 c2) id
