def bhl (cd : Nat → Int64) (n : Nat) (co : Int64) : Bool := match n with
  | 0 => true
  | k + 1 => cb co (cd k)
def mds (ds : Nat → Int32) (n : Nat) : Int32 := match n with
  | 0 => nI 0
  | k + 1 => ds k + nI 1
set_option maxHeartbeats 4000000 in
set_option maxRecDepth 100000 in
theorem cT_behindLast_0 (l : Launch) (nx : Nat) (M : xH) (a : Nat) (cd : Nat → Int64) (ds ps ch wc : Nat → Int32) (wd : Nat → Int64) (cp : Nat) (hT : tAt M a cd ds ps ch wc wd 0 cp) (co : Int64) : xC l xcl yT_comesBehindLast (xw (Cond.code yT_comesBehindLast bT_comesBehindLast 3 (some .boolean))) ({ frames := 2, cells := 0, slots := 0, locals := 51 } : Room) [.ref (a), .long (co)] nx M (x_is (some (.int (nI (1)))) nx M) := by
  obtain ⟨h0, h1, h2, h3, h4, h5, h6, hz, hcp⟩ := id hT
  refine yC (by decide) (Nat.le_of_ble_eq_true rfl) ?_
  intro p e s m args below meth c D F hr hn
  refine x_aload_n F 0 dT_comesBehindLast_0 rfl rfl ?_
  refine x_get (ci := 4) F 6 (x_in inT) rfl (by decide) (x_m kfT_31) dT_comesBehindLast_1 h0 rfl ?_
  refine x_if_eq F (tgt := 24) dT_comesBehindLast_4 (by decide) (fun c1 => ?_) (fun c1 => ?_)
  · skip
    have c1 : 0 = 0 := by
      exact (nI_eq (a := 0) (b := 0) (by omega) (by omega)).mp c1
    refine x_iconst F (v := nI (1)) dT_comesBehindLast_24 (by decide) ?_
    refine x_goto F (tgt := 29) dT_comesBehindLast_25 (by decide) ?_
    exact x_zret F hr (by rfl) dT_comesBehindLast_29 (x_is_i _ _ _)
  · skip
    have c1 : 0 ≠ 0 := by
      have z : ¬ (0 = 0) := fun zz => c1 ((nI_eq (a := 0) (b := 0) (by omega) (by omega)).mpr zz)
      omega
    exact absurd c1 (by decide)
set_option maxHeartbeats 4000000 in
set_option maxRecDepth 100000 in
theorem cT_behindLast_S (l : Launch) (nx : Nat) (M : xH) (a : Nat) (cd : Nat → Int64) (ds ps ch wc : Nat → Int32) (wd : Nat → Int64) (k cp : Nat) (hT : tAt M a cd ds ps ch wc wd (k + 1) cp) (co : Int64) : xC l xcl yT_comesBehindLast (xw (Cond.code yT_comesBehindLast bT_comesBehindLast 3 (some .boolean))) ({ frames := 2, cells := 0, slots := 0, locals := 51 } : Room) [.ref (a), .long (co)] nx M (x_is (some (.int (bI (cb co (cd k))))) nx M) := by
  obtain ⟨h0, h1, h2, h3, h4, h5, h6, hz, hcp⟩ := id hT
  refine yC (by decide) (Nat.le_of_ble_eq_true rfl) ?_
  intro p e s m args below meth c D F hr hn
  refine x_aload_n F 0 dT_comesBehindLast_0 rfl rfl ?_
  refine x_get (ci := 4) F 6 (x_in inT) rfl (by decide) (x_m kfT_31) dT_comesBehindLast_1 h0 rfl ?_
  refine x_if_eq F (tgt := 24) dT_comesBehindLast_4 (by decide) (fun c1 => ?_) (fun c1 => ?_)
  · skip
    have c1 : k + 1 = 0 := by
      exact (nI_eq (a := k + 1) (b := 0) (by omega) (by omega)).mp c1
    exact absurd c1 (by omega)
  · skip
    have c1 : k + 1 ≠ 0 := by
      have z : ¬ (k + 1 = 0) := fun zz => c1 ((nI_eq (a := k + 1) (b := 0) (by omega) (by omega)).mpr zz)
      omega
    refine x_lload_n F 1 dT_comesBehindLast_7 rfl rfl ?_
    refine x_aload_n F 0 dT_comesBehindLast_8 rfl rfl ?_
    refine x_aload_n F 0 dT_comesBehindLast_9 rfl rfl ?_
    refine x_get (ci := 4) F 6 (x_in inT) rfl (by decide) (x_m kfT_31) dT_comesBehindLast_10 h0 rfl ?_
    refine x_iconst F (v := nI (1)) dT_comesBehindLast_13 (by decide) ?_
    refine x_isub F dT_comesBehindLast_14 ?_
    refine xW.toi (nI (k)) (nI_pred k) ?_
    refine yV (n := 1) (As := [.int (nI (k))]) (ci := 4) F kmT_56 kiT_codeOf ksT_codeOf knT kcT_codeOf (by decide +kernel) dT_comesBehindLast_15 (cT_codeOf l (nx) M (a) cd ds ps ch wc wd (k + 1) cp hT k (by omega)) rfl h0 rfl rfl (Nat.le_of_ble_eq_true rfl) ⟨Nat.le_of_ble_eq_true rfl, Nat.le_of_ble_eq_true rfl⟩ ⟨Nat.le_of_ble_eq_true rfl, Nat.le_of_ble_eq_true rfl⟩ ?_
    refine yS (n := 2) (As := [.long (co), .long (cd (k))]) F kmT_60 ktC_comesBehind knC kcC_comesBehind (by decide +kernel) dT_comesBehindLast_18 (cC_comesBehind l (nx) M (co) (cd (k))) rfl rfl (Nat.le_of_ble_eq_true rfl) ⟨Nat.le_of_ble_eq_true rfl, Nat.le_of_ble_eq_true rfl⟩ ⟨Nat.le_of_ble_eq_true rfl, Nat.le_of_ble_eq_true rfl⟩ ?_
    refine x_if_eq F (tgt := 28) dT_comesBehindLast_21 (by decide) (fun c2 => ?_) (fun c2 => ?_)
    · skip
      have c2 : (cb (co) (cd (k))) = false := bI_0 c2
      refine x_iconst F (v := nI (0)) dT_comesBehindLast_28 (by decide) ?_
      exact x_zret F hr (by rfl) dT_comesBehindLast_29 (x_f (c2))
    · skip
      have c2 : (cb (co) (cd (k))) = true := bI_1 c2
      refine x_iconst F (v := nI (1)) dT_comesBehindLast_24 (by decide) ?_
      refine x_goto F (tgt := 29) dT_comesBehindLast_25 (by decide) ?_
      exact x_zret F hr (by rfl) dT_comesBehindLast_29 (x_t (c2))
theorem cT_behindLast (l : Launch) (nx : Nat) (M : xH) (a : Nat) (cd : Nat → Int64) (ds ps ch wc : Nat → Int32) (wd : Nat → Int64) (n cp : Nat) (hT : tAt M a cd ds ps ch wc wd n cp) (co : Int64) : xC l xcl yT_comesBehindLast (xw (Cond.code yT_comesBehindLast bT_comesBehindLast 3 (some .boolean))) ({ frames := 2, cells := 0, slots := 0, locals := 51 } : Room) [.ref (a), .long (co)] nx M (x_is (some (.int (bI (bhl cd n co)))) nx M) := by
  cases n with
  | zero => exact cT_behindLast_0 l nx M a cd ds ps ch wc wd cp hT co
  | succ k => exact cT_behindLast_S l nx M a cd ds ps ch wc wd k cp hT co
set_option maxHeartbeats 4000000 in
set_option maxRecDepth 100000 in
theorem cT_most_0 (l : Launch) (nx : Nat) (M : xH) (a : Nat) (cd : Nat → Int64) (ds ps ch wc : Nat → Int32) (wd : Nat → Int64) (cp : Nat) (hT : tAt M a cd ds ps ch wc wd 0 cp) : xC l xcl yT_mostDashes (xw (Cond.code yT_mostDashes bT_mostDashes 1 (some .int))) ({ frames := 2, cells := 0, slots := 0, locals := 42 } : Room) [.ref (a)] nx M (x_is (some (.int (nI (0)))) nx M) := by
  obtain ⟨h0, h1, h2, h3, h4, h5, h6, hz, hcp⟩ := id hT
  refine yC (by decide) (Nat.le_of_ble_eq_true rfl) ?_
  intro p e s m args below meth c D F hr hn
  refine x_aload_n F 0 dT_mostDashes_0 rfl rfl ?_
  refine x_aload_n F 0 dT_mostDashes_1 rfl rfl ?_
  refine x_get (ci := 4) F 6 (x_in inT) rfl (by decide) (x_m kfT_31) dT_mostDashes_2 h0 rfl ?_
  refine x_iconst F (v := nI (1)) dT_mostDashes_5 (by decide) ?_
  refine x_isub F dT_mostDashes_6 ?_
  refine xW.toi ((-1)) (by decide) ?_
  refine yV (n := 1) (As := [.int ((-1))]) (ci := 4) F kmT_42 kiT_dashesOf ksT_dashesOf knT kcT_dashesOf (by decide +kernel) dT_mostDashes_7 (cT_dashesOfN l (nx) M (a) cd ds ps ch wc wd 0 cp hT (-1) (m1_out _)) rfl h0 rfl rfl (Nat.le_of_ble_eq_true rfl) ⟨Nat.le_of_ble_eq_true rfl, Nat.le_of_ble_eq_true rfl⟩ ⟨Nat.le_of_ble_eq_true rfl, Nat.le_of_ble_eq_true rfl⟩ ?_
  refine x_iconst F (v := nI (1)) dT_mostDashes_10 (by decide) ?_
  refine x_iadd F dT_mostDashes_11 ?_
  refine xW.toi (nI (0)) (by decide) ?_
  exact x_iret F hr dT_mostDashes_12 (x_is_i _ _ _)
set_option maxHeartbeats 4000000 in
set_option maxRecDepth 100000 in
theorem cT_most_S (l : Launch) (nx : Nat) (M : xH) (a : Nat) (cd : Nat → Int64) (ds ps ch wc : Nat → Int32) (wd : Nat → Int64) (k cp : Nat) (hT : tAt M a cd ds ps ch wc wd (k + 1) cp) : xC l xcl yT_mostDashes (xw (Cond.code yT_mostDashes bT_mostDashes 1 (some .int))) ({ frames := 2, cells := 0, slots := 0, locals := 42 } : Room) [.ref (a)] nx M (x_is (some (.int (ds (k) + nI (1)))) nx M) := by
  obtain ⟨h0, h1, h2, h3, h4, h5, h6, hz, hcp⟩ := id hT
  refine yC (by decide) (Nat.le_of_ble_eq_true rfl) ?_
  intro p e s m args below meth c D F hr hn
  refine x_aload_n F 0 dT_mostDashes_0 rfl rfl ?_
  refine x_aload_n F 0 dT_mostDashes_1 rfl rfl ?_
  refine x_get (ci := 4) F 6 (x_in inT) rfl (by decide) (x_m kfT_31) dT_mostDashes_2 h0 rfl ?_
  refine x_iconst F (v := nI (1)) dT_mostDashes_5 (by decide) ?_
  refine x_isub F dT_mostDashes_6 ?_
  refine xW.toi (nI (k)) (nI_pred k) ?_
  refine yV (n := 1) (As := [.int (nI (k))]) (ci := 4) F kmT_42 kiT_dashesOf ksT_dashesOf knT kcT_dashesOf (by decide +kernel) dT_mostDashes_7 (cT_dashesOf l (nx) M (a) cd ds ps ch wc wd (k + 1) cp hT k (by omega)) rfl h0 rfl rfl (Nat.le_of_ble_eq_true rfl) ⟨Nat.le_of_ble_eq_true rfl, Nat.le_of_ble_eq_true rfl⟩ ⟨Nat.le_of_ble_eq_true rfl, Nat.le_of_ble_eq_true rfl⟩ ?_
  refine x_iconst F (v := nI (1)) dT_mostDashes_10 (by decide) ?_
  refine x_iadd F dT_mostDashes_11 ?_
  exact x_iret F hr dT_mostDashes_12 (x_e rfl)
theorem cT_most (l : Launch) (nx : Nat) (M : xH) (a : Nat) (cd : Nat → Int64) (ds ps ch wc : Nat → Int32) (wd : Nat → Int64) (n cp : Nat) (hT : tAt M a cd ds ps ch wc wd n cp) : xC l xcl yT_mostDashes (xw (Cond.code yT_mostDashes bT_mostDashes 1 (some .int))) ({ frames := 2, cells := 0, slots := 0, locals := 42 } : Room) [.ref (a)] nx M (x_is (some (.int (mds ds n))) nx M) := by
  cases n with
  | zero => exact cT_most_0 l nx M a cd ds ps ch wc wd cp hT 
  | succ k => exact cT_most_S l nx M a cd ds ps ch wc wd k cp hT 
set_option maxHeartbeats 4000000 in
set_option maxRecDepth 100000 in
theorem cR_readCodeAndWords (l : Launch) (nx : Nat) (M : xH) (a : Nat) (sg : Nat → Int32) (wd : Nat → Int64) (cw n q : Nat) (fk fp : Int32) (hT : rAt M a sg wd cw n q fk fp) (tx : Nat → Nat) (hX : sAt sg tx n) (hqn : q ≤ n) (t : Nat) (cd : Nat → Int64) (ds ps ch wc : Nat → Int32) (tw : Nat → Int64) (tn cp : Nat) (hTr : tAt M t cd ds ps ch wc tw tn cp) (hdis : t + 6 < a ∨ a + 2 < t) (ht40 : tn < 40) (hcp : cp ≤ tn) (dd : Nat) (hdd : dd ≤ 4) : xC l xcl yR_readCodeAndWords (xw (Cond.code yR_readCodeAndWords bR_readCodeAndWords 6 (some .boolean))) ({ frames := 3, cells := 0, slots := 0, locals := 73 } : Room) [.ref (a), .ref (t), .int (nI (dd))] nx M (cwPost nx M a sg wd n fk fp t cd ds ps ch wc tw tn cp tx dd q (cwK tx n wd cd ds tn dd q)) := by
  obtain ⟨h0, h1, h2, hcw, hn4, hq4⟩ := id hT
  obtain ⟨u0, u1, u2, u3, u4, u5, u6, u7, u8⟩ := id hTr
  refine yC (by decide) (Nat.le_of_ble_eq_true rfl) ?_
  intro p e s m args below meth c D F hr hn
  refine x_aload_n F 0 dR_readCodeAndWords_0 rfl rfl ?_
  refine x_get (ci := 3) F 4 (x_in inR) rfl (by decide) (x_m kfR_26) dR_readCodeAndWords_1 h0 rfl ?_
  refine x_istore_n F [(3, .int (nI (q))), (0, .ref (a)), (1, .ref (t)), (2, .int (nI (dd)))] dR_readCodeAndWords_4 rfl (by decide) rfl ?_
  refine x_aload_n F 1 dR_readCodeAndWords_5 rfl rfl ?_
  refine yVr (n := 0) (As := []) (ci := 3) F kmR_77 kiR_readCode ksR_readCode knR kcR_readCode (by decide +kernel) dR_readCodeAndWords_6 (cR_readCode l (nx) M (a) sg wd cw n q fk fp hT tx hX (by omega)) rfl h0 rfl rfl (Nat.le_of_ble_eq_true rfl) ⟨Nat.le_of_ble_eq_true rfl, Nat.le_of_ble_eq_true rfl⟩ ⟨Nat.le_of_ble_eq_true rfl, Nat.le_of_ble_eq_true rfl⟩ (fun r' n' M21 hp => ?_)
  obtain ⟨hr', hn', hR21, hf21⟩ := hp
  rw [hn', hr']
  obtain ⟨g21_0, g21_1, g21_2, g21_3, g21_4, g21_5⟩ := id hR21
  show xW p l e ({ frames := 3, cells := 0, slots := 0, locals := 73 } : Room) s m args below meth c D xcl (x_A M nx) 6 (MQ below (x_Q D xcl (x_A M nx) (cwPost nx M a sg wd n fk fp t cd ds ps ch wc tw tn cp tx dd q (cwK tx n wd cd ds tn dd q))) args s 0 0 (x_A M nx)) 0 0 (nx) M21 9 [(3, .int (nI (q))), (0, .ref (a)), (1, .ref (t)), (2, .int (nI (dd)))] [.long (lN (rc tx (n) (q)))]
  refine x_lstore F [(4, .long (lN (rc tx (n) (q)))), (3, .int (nI (q))), (0, .ref (a)), (1, .ref (t)), (2, .int (nI (dd)))] dR_readCodeAndWords_9 (by decide) rfl ?_
  have hdn : q + dN tx n q ≤ n := hrun_n rfl _ _ _ _ hqn
  refine x_lload F 0 dR_readCodeAndWords_11 rfl ?_
  refine x_lconst F (v := 0) dR_readCodeAndWords_13 (by decide) ?_
  refine x_lcmp F dR_readCodeAndWords_14 ?_
  refine x_if_ne F (tgt := 28) dR_readCodeAndWords_15 (by decide) (fun c1 => ?_) (fun c1 => ?_)
  · skip
    have c1 : ¬ lN (rc tx (n) (q)) = 0 := fun z => c1 ((lg_cmp_eq (lN (rc tx (n) (q))) (0)).mpr z)
    refine x_aload_n F 3 dR_readCodeAndWords_28 rfl rfl ?_
    refine x_aload_n F 3 dR_readCodeAndWords_29 rfl rfl ?_
    refine x_iload_n F 4 dR_readCodeAndWords_30 rfl rfl ?_
    refine yV (n := 1) (As := [.int (nI (dd))]) (ci := 4) F kmR_81 kiT_parentFor ksT_parentFor knT kcT_parentFor (by decide +kernel) dR_readCodeAndWords_31 (cT_parentFor l (nx) M21 (t) cd ds ps ch wc tw tn cp (tAt_fr hTr (fun b _ _ => hf21 b (by omega))) (nI (dd))) rfl ((hf21 _ (by omega)).trans u0) rfl rfl (Nat.le_of_ble_eq_true rfl) ⟨Nat.le_of_ble_eq_true rfl, Nat.le_of_ble_eq_true rfl⟩ ⟨Nat.le_of_ble_eq_true rfl, Nat.le_of_ble_eq_true rfl⟩ ?_
    rcases o_cases (par ds (nI dd) tn) with hpj | ⟨j, hpj⟩
    · skip
      refine xW.ste (st' := [.int ((-1)), .ref (t)]) (by show ([.int (oi (par ds (nI (dd)) tn)), .ref (t)] : List Value) = _; rw [hpj]; rfl) ?_
      refine x_lload F 0 dR_readCodeAndWords_34 rfl ?_
      refine yV (n := 2) (As := [.int ((-1)), .long (lN (rc tx (n) (q)))]) (ci := 4) F kmR_85 kiT_fitsBelow ksT_fitsBelow knT kcT_fitsBelow (by decide +kernel) dR_readCodeAndWords_36 (cT_fitsBelowN l (nx) M21 (t) cd ds ps ch wc tw tn cp (tAt_fr hTr (fun b _ _ => hf21 b (by omega))) (-1) (m1_out _) (lN (rc tx (n) (q)))) rfl ((hf21 _ (by omega)).trans u0) rfl rfl (Nat.le_of_ble_eq_true rfl) ⟨Nat.le_of_ble_eq_true rfl, Nat.le_of_ble_eq_true rfl⟩ ⟨Nat.le_of_ble_eq_true rfl, Nat.le_of_ble_eq_true rfl⟩ ?_
      refine x_if_ne F (tgt := 49) dR_readCodeAndWords_39 (by decide) (fun c2 => ?_) (fun c2 => ?_)
      · skip
        have c2 : (decide ((lN (rc tx (n) (q))) < 200)) = true := bI_1 c2
        have hfit : fit cd ds tn dd (rc tx n q) = true := by rw [fit, hpj]; exact c2
        refine x_aload_n F 3 dR_readCodeAndWords_49 rfl rfl ?_
        refine x_lload F 0 dR_readCodeAndWords_50 rfl ?_
        refine yV (n := 1) (As := [.long (lN (rc tx (n) (q)))]) (ci := 4) F kmR_89 kiT_comesBehindLast ksT_comesBehindLast knT kcT_comesBehindLast (by decide +kernel) dR_readCodeAndWords_52 (cT_behindLast l (nx) M21 (t) cd ds ps ch wc tw tn cp (tAt_fr hTr (fun b _ _ => hf21 b (by omega))) (lN (rc tx (n) (q)))) rfl ((hf21 _ (by omega)).trans u0) rfl rfl (Nat.le_of_ble_eq_true rfl) ⟨Nat.le_of_ble_eq_true rfl, Nat.le_of_ble_eq_true rfl⟩ ⟨Nat.le_of_ble_eq_true rfl, Nat.le_of_ble_eq_true rfl⟩ ?_
        refine x_if_ne F (tgt := 65) dR_readCodeAndWords_55 (by decide) (fun c3 => ?_) (fun c3 => ?_)
        · skip
          have c3 : (bhl cd tn (lN (rc tx (n) (q)))) = true := bI_1 c3
          refine x_aload_n F 2 dR_readCodeAndWords_65 rfl rfl ?_
          refine x_iconst F (v := nI (4)) dR_readCodeAndWords_66 (by decide) ?_
          refine yVr (n := 1) (As := [.int (nI (4))]) (ci := 3) F kmR_50 kiR_readWords ksR_readWords knR kcR_readWords (by decide +kernel) dR_readCodeAndWords_67 (cR_readWords l (nx) M21 (a) sg wd cw n (q + dN tx n q) fk fp hR21 tx hX (by omega) 4 (by omega)) rfl g21_0 rfl rfl (Nat.le_of_ble_eq_true rfl) ⟨Nat.le_of_ble_eq_true rfl, Nat.le_of_ble_eq_true rfl⟩ ⟨Nat.le_of_ble_eq_true rfl, Nat.le_of_ble_eq_true rfl⟩ (fun r' n' M22 hp => ?_)
          obtain ⟨hr', hn', hR22, hf22⟩ := hp
          rw [hn', hr']
          obtain ⟨g22_0, g22_1, g22_2, g22_3, g22_4, g22_5⟩ := id hR22
          show xW p l e ({ frames := 3, cells := 0, slots := 0, locals := 73 } : Room) s m args below meth c D xcl (x_A M nx) 6 (MQ below (x_Q D xcl (x_A M nx) (cwPost nx M a sg wd n fk fp t cd ds ps ch wc tw tn cp tx dd q (cwK tx n wd cd ds tn dd q))) args s 0 0 (x_A M nx)) 0 0 (nx) M22 70 [(4, .long (lN (rc tx (n) (q)))), (3, .int (nI (q))), (0, .ref (a)), (1, .ref (t)), (2, .int (nI (dd)))] [.int (bI ((wds tx n 4 4 0 ((q + dN tx n q)) wd).1))]
          refine x_if_ne F (tgt := 75) dR_readCodeAndWords_70 (by decide) (fun c4 => ?_) (fun c4 => ?_)
          · skip
            have c4 : ((wds tx n 4 4 0 ((q + dN tx n q)) wd).1) = true := bI_1 c4
            have hb4 := wds_b (tx := tx) (n := n) (mo := 4) (f := 4) (k := 0) (q := q + dN tx n q) (wd := wd) (by omega) (by omega)
            refine x_aload_n F 2 dR_readCodeAndWords_75 rfl rfl ?_
            refine yV (n := 0) (As := []) (ci := 3) F kmR_53 kiR_here ksR_here knR kcR_here (by decide +kernel) dR_readCodeAndWords_76 (cR_here l (nx) M22 (a) sg ((wds tx n 4 4 0 ((q + dN tx n q)) wd).2.2.2) ((wds tx n 4 4 0 ((q + dN tx n q)) wd).2.1) n ((wds tx n 4 4 0 ((q + dN tx n q)) wd).2.2.1) (if (wds tx n 4 4 0 ((q + dN tx n q)) wd).1 then fk else nI 1) (if (wds tx n 4 4 0 ((q + dN tx n q)) wd).1 then fp else nI (wds tx n 4 4 0 ((q + dN tx n q)) wd).2.2.1) hR22 tx hX) rfl g22_0 rfl rfl (Nat.le_of_ble_eq_true rfl) ⟨Nat.le_of_ble_eq_true rfl, Nat.le_of_ble_eq_true rfl⟩ ⟨Nat.le_of_ble_eq_true rfl, Nat.le_of_ble_eq_true rfl⟩ ?_
            have hh76 := hx_lt (q := ((wds tx n 4 4 0 ((q + dN tx n q)) wd).2.2.1)) hX
            refine x_bipush F (v := nI (59)) dR_readCodeAndWords_79 (by decide) ?_
            refine x_icmp_eq F (tgt := 94) dR_readCodeAndWords_81 (by decide) (fun c5 => ?_) (fun c5 => ?_)
            · skip
              have c5 : hx tx (n) (((wds tx n 4 4 0 ((q + dN tx n q)) wd).2.2.1)) = 59 := by
                exact (nI_eq (a := hx tx (n) (((wds tx n 4 4 0 ((q + dN tx n q)) wd).2.2.1))) (b := 59) (by omega) (by omega)).mp c5
              have hS9 := (hx_in (K := fun c => decide (c = 59)) rfl (tx := tx) (n := n) (q := (wds tx n 4 4 0 (q + dN tx n q) wd).2.2.1) (by simpa using c5)).1
              refine x_aload_n F 2 dR_readCodeAndWords_94 rfl rfl ?_
              refine x_dup F dR_readCodeAndWords_95 rfl ?_
              refine x_get (ci := 3) F 4 (x_in inR) rfl (by decide) (x_m kfR_26) dR_readCodeAndWords_96 g22_0 rfl ?_
              refine x_iconst F (v := nI (1)) dR_readCodeAndWords_99 (by decide) ?_
              refine x_iadd F dR_readCodeAndWords_100 ?_
              refine xW.toi (nI ((wds tx n 4 4 0 ((q + dN tx n q)) wd).2.2.1 + 1)) (nI_add _ _) ?_
              refine x_put (ci := 3) (ty := .int) F 4 (x_in inR) tR tR_ok nR rfl (by decide) (x_m kfR_26) dR_readCodeAndWords_101 rfl (by decide +kernel) rfl rfl g22_0 (Nat.le_of_ble_eq_true rfl) ?_
              show xW p l e ({ frames := 3, cells := 0, slots := 0, locals := 73 } : Room) s m args below meth c D xcl (x_A M nx) 6 (MQ below (x_Q D xcl (x_A M nx) (cwPost nx M a sg wd n fk fp t cd ds ps ch wc tw tn cp tx dd q (cwK tx n wd cd ds tn dd q))) args s 0 0 (x_A M nx)) 0 0 (nx) (x_up M22 (a) (.inr (3, [.ref (a + 1), .ref (a + 2), .int (nI ((wds tx n 4 4 0 ((q + dN tx n q)) wd).2.1)), .int (nI (n)), .int (nI ((wds tx n 4 4 0 ((q + dN tx n q)) wd).2.2.1 + 1)), .int (if (wds tx n 4 4 0 ((q + dN tx n q)) wd).1 then fk else nI 1), .int (if (wds tx n 4 4 0 ((q + dN tx n q)) wd).1 then fp else nI (wds tx n 4 4 0 ((q + dN tx n q)) wd).2.2.1)]))) 104 [(4, .long (lN (rc tx (n) (q)))), (3, .int (nI (q))), (0, .ref (a)), (1, .ref (t)), (2, .int (nI (dd)))] []
              refine x_aload_n F 3 dR_readCodeAndWords_104 rfl rfl ?_
              refine x_lload F 0 dR_readCodeAndWords_105 rfl ?_
              refine x_iload_n F 4 dR_readCodeAndWords_107 rfl rfl ?_
              refine x_aload_n F 2 dR_readCodeAndWords_108 rfl rfl ?_
              refine yVr (n := 3) (As := [.long (lN (rc tx (n) (q))), .int (nI (dd)), .ref (a)]) (ci := 4) F kmR_93 kiT_add ksT_add knT kcT_add (by decide +kernel) dR_readCodeAndWords_109 (cT_add l (nx) (x_up M22 (a) (.inr (3, [.ref (a + 1), .ref (a + 2), .int (nI ((wds tx n 4 4 0 ((q + dN tx n q)) wd).2.1)), .int (nI (n)), .int (nI ((wds tx n 4 4 0 ((q + dN tx n q)) wd).2.2.1 + 1)), .int (if (wds tx n 4 4 0 ((q + dN tx n q)) wd).1 then fk else nI 1), .int (if (wds tx n 4 4 0 ((q + dN tx n q)) wd).1 then fp else nI (wds tx n 4 4 0 ((q + dN tx n q)) wd).2.2.1)]))) (t) cd ds ps ch wc tw tn cp (tAt_fr (tAt_fr (tAt_fr hTr (fun b _ _ => hf21 b (by omega))) (fun b _ _ => hf22 b (by omega))) (fun b _ _ => x_up_n (by omega))) (a) sg ((wds tx n 4 4 0 ((q + dN tx n q)) wd).2.2.2) ((wds tx n 4 4 0 ((q + dN tx n q)) wd).2.1) n ((wds tx n 4 4 0 ((q + dN tx n q)) wd).2.2.1 + 1) (if (wds tx n 4 4 0 ((q + dN tx n q)) wd).1 then fk else nI 1) (if (wds tx n 4 4 0 ((q + dN tx n q)) wd).1 then fp else nI (wds tx n 4 4 0 ((q + dN tx n q)) wd).2.2.1) ⟨x_up_s, (x_up_k g22_1 (by omega)), (x_up_k g22_2 (by omega)), by omega, by omega, by omega⟩ (by omega) (by omega) (by omega) (by omega) (lN (rc tx (n) (q))) (nI (dd))) rfl (x_up_k ((hf22 _ (by omega)).trans ((hf21 _ (by omega)).trans u0)) (by omega)) rfl rfl (Nat.le_of_ble_eq_true rfl) ⟨Nat.le_of_ble_eq_true rfl, Nat.le_of_ble_eq_true rfl⟩ ⟨Nat.le_of_ble_eq_true rfl, Nat.le_of_ble_eq_true rfl⟩ (fun r' n' M103 hp => ?_)
              obtain ⟨hr', hn', hT103, hf103⟩ := hp
              rw [hn', hr']
              obtain ⟨v103_0, v103_1, v103_2, v103_3, v103_4, v103_5, v103_6, v103_7, v103_8⟩ := id hT103
              show xW p l e ({ frames := 3, cells := 0, slots := 0, locals := 73 } : Room) s m args below meth c D xcl (x_A M nx) 6 (MQ below (x_Q D xcl (x_A M nx) (cwPost nx M a sg wd n fk fp t cd ds ps ch wc tw tn cp tx dd q (cwK tx n wd cd ds tn dd q))) args s 0 0 (x_A M nx)) 0 0 (nx) M103 112 [(4, .long (lN (rc tx (n) (q)))), (3, .int (nI (q))), (0, .ref (a)), (1, .ref (t)), (2, .int (nI (dd)))] []
              refine x_iconst F (v := nI (1)) dR_readCodeAndWords_112 (by decide) ?_
              exact x_zret F hr (by rfl) dR_readCodeAndWords_113 (by rw [show cwK tx n wd cd ds tn dd q = none from by rw [cwK, if_neg (fun z => c1 (rc_n0.mpr z)), if_neg (by rw [hfit]; decide), if_neg (by rw [show bhd cd tn (rc tx n q) = true from c3]; decide), if_neg (by rw [c4]; decide), if_neg (fun z => z c5)]]; have z := (rAt_fr ⟨x_up_s, (x_up_k g22_1 (by omega)), (x_up_k g22_2 (by omega)), by omega, by omega, by omega⟩ (fun b _ _ => hf103 b (by omega))); first | exact ⟨rfl, fun b hb => (hf103 _ (by omega)).trans ((x_up_n (by omega)).trans ((hf22 _ (by omega)).trans ((hf21 _ (by omega)).trans (rfl)))), rfl, hT103, z⟩ | (rw [c4] at z; exact ⟨rfl, fun b hb => (hf103 _ (by omega)).trans ((x_up_n (by omega)).trans ((hf22 _ (by omega)).trans ((hf21 _ (by omega)).trans (rfl)))), rfl, hT103, z⟩))
            · skip
              have c5 : hx tx (n) (((wds tx n 4 4 0 ((q + dN tx n q)) wd).2.2.1)) ≠ 59 := by
                have z : ¬ (hx tx (n) (((wds tx n 4 4 0 ((q + dN tx n q)) wd).2.2.1)) = 59) := fun zz => c5 ((nI_eq (a := hx tx (n) (((wds tx n 4 4 0 ((q + dN tx n q)) wd).2.2.1))) (b := 59) (by omega) (by omega)).mpr zz)
                omega
              refine x_aload_n F 2 dR_readCodeAndWords_84 rfl rfl ?_
              refine x_iconst F (v := nI (1)) dR_readCodeAndWords_85 (by decide) ?_
              refine x_aload_n F 2 dR_readCodeAndWords_86 rfl rfl ?_
              refine x_get (ci := 3) F 4 (x_in inR) rfl (by decide) (x_m kfR_26) dR_readCodeAndWords_87 g22_0 rfl ?_
              refine yVr (n := 2) (As := [.int (nI (1)), .int (nI ((wds tx n 4 4 0 ((q + dN tx n q)) wd).2.2.1))]) (ci := 3) F kmR_42 kiR_fail ksR_fail knR kcR_fail (by decide +kernel) dR_readCodeAndWords_90 (cR_fail l (nx) M22 (a) sg ((wds tx n 4 4 0 ((q + dN tx n q)) wd).2.2.2) ((wds tx n 4 4 0 ((q + dN tx n q)) wd).2.1) n ((wds tx n 4 4 0 ((q + dN tx n q)) wd).2.2.1) (if (wds tx n 4 4 0 ((q + dN tx n q)) wd).1 then fk else nI 1) (if (wds tx n 4 4 0 ((q + dN tx n q)) wd).1 then fp else nI (wds tx n 4 4 0 ((q + dN tx n q)) wd).2.2.1) hR22 (nI (1)) (nI ((wds tx n 4 4 0 ((q + dN tx n q)) wd).2.2.1))) rfl g22_0 rfl rfl (Nat.le_of_ble_eq_true rfl) ⟨Nat.le_of_ble_eq_true rfl, Nat.le_of_ble_eq_true rfl⟩ ⟨Nat.le_of_ble_eq_true rfl, Nat.le_of_ble_eq_true rfl⟩ (fun r' n' M23 hp => ?_)
              obtain ⟨hr', hn', hR23, hf23⟩ := hp
              rw [hn', hr']
              obtain ⟨g23_0, g23_1, g23_2, g23_3, g23_4, g23_5⟩ := id hR23
              show xW p l e ({ frames := 3, cells := 0, slots := 0, locals := 73 } : Room) s m args below meth c D xcl (x_A M nx) 6 (MQ below (x_Q D xcl (x_A M nx) (cwPost nx M a sg wd n fk fp t cd ds ps ch wc tw tn cp tx dd q (cwK tx n wd cd ds tn dd q))) args s 0 0 (x_A M nx)) 0 0 (nx) M23 93 [(4, .long (lN (rc tx (n) (q)))), (3, .int (nI (q))), (0, .ref (a)), (1, .ref (t)), (2, .int (nI (dd)))] [.int (nI (0))]
              exact x_zret F hr (by rfl) dR_readCodeAndWords_93 (by rw [show cwK tx n wd cd ds tn dd q = some (1, (wds tx n 4 4 0 (q + dN tx n q) wd).2.2.1) from by rw [cwK, if_neg (fun z => c1 (rc_n0.mpr z)), if_neg (by rw [hfit]; decide), if_neg (by rw [show bhd cd tn (rc tx n q) = true from c3]; decide), if_neg (by rw [c4]; decide), if_pos c5]]; have z := hR23; first | exact ⟨rfl, fun b hb => (hf23 _ (by omega)).trans ((hf22 _ (by omega)).trans ((hf21 _ (by omega)).trans (rfl))), rfl, (tAt_fr (tAt_fr (tAt_fr hTr (fun b _ _ => hf21 b (by omega))) (fun b _ _ => hf22 b (by omega))) (fun b _ _ => hf23 b (by omega))), _, _, _, z⟩ | (rw [c4] at z; exact ⟨rfl, fun b hb => (hf23 _ (by omega)).trans ((hf22 _ (by omega)).trans ((hf21 _ (by omega)).trans (rfl))), rfl, (tAt_fr (tAt_fr (tAt_fr hTr (fun b _ _ => hf21 b (by omega))) (fun b _ _ => hf22 b (by omega))) (fun b _ _ => hf23 b (by omega))), _, _, _, z⟩))
          · skip
            have c4 : ((wds tx n 4 4 0 ((q + dN tx n q)) wd).1) = false := bI_0 c4
            refine x_iconst F (v := nI (0)) dR_readCodeAndWords_73 (by decide) ?_
            exact x_zret F hr (by rfl) dR_readCodeAndWords_74 (by rw [show cwK tx n wd cd ds tn dd q = some (1, (wds tx n 4 4 0 (q + dN tx n q) wd).2.2.1) from by rw [cwK, if_neg (fun z => c1 (rc_n0.mpr z)), if_neg (by rw [hfit]; decide), if_neg (by rw [show bhd cd tn (rc tx n q) = true from c3]; decide), if_pos c4]]; have z := hR22; first | exact ⟨rfl, fun b hb => (hf22 _ (by omega)).trans ((hf21 _ (by omega)).trans (rfl)), rfl, (tAt_fr (tAt_fr hTr (fun b _ _ => hf21 b (by omega))) (fun b _ _ => hf22 b (by omega))), _, _, _, z⟩ | (rw [c4] at z; exact ⟨rfl, fun b hb => (hf22 _ (by omega)).trans ((hf21 _ (by omega)).trans (rfl)), rfl, (tAt_fr (tAt_fr hTr (fun b _ _ => hf21 b (by omega))) (fun b _ _ => hf22 b (by omega))), _, _, _, z⟩))
        · skip
          have c3 : (bhl cd tn (lN (rc tx (n) (q)))) = false := bI_0 c3
          refine x_aload_n F 2 dR_readCodeAndWords_58 rfl rfl ?_
          refine x_iconst F (v := nI (4)) dR_readCodeAndWords_59 (by decide) ?_
          refine x_iload_n F 1 dR_readCodeAndWords_60 rfl rfl ?_
          refine yVr (n := 2) (As := [.int (nI (4)), .int (nI (q))]) (ci := 3) F kmR_42 kiR_fail ksR_fail knR kcR_fail (by decide +kernel) dR_readCodeAndWords_61 (cR_fail l (nx) M21 (a) sg wd cw n (q + dN tx n q) fk fp hR21 (nI (4)) (nI (q))) rfl g21_0 rfl rfl (Nat.le_of_ble_eq_true rfl) ⟨Nat.le_of_ble_eq_true rfl, Nat.le_of_ble_eq_true rfl⟩ ⟨Nat.le_of_ble_eq_true rfl, Nat.le_of_ble_eq_true rfl⟩ (fun r' n' M24 hp => ?_)
          obtain ⟨hr', hn', hR24, hf24⟩ := hp
          rw [hn', hr']
          obtain ⟨g24_0, g24_1, g24_2, g24_3, g24_4, g24_5⟩ := id hR24
          show xW p l e ({ frames := 3, cells := 0, slots := 0, locals := 73 } : Room) s m args below meth c D xcl (x_A M nx) 6 (MQ below (x_Q D xcl (x_A M nx) (cwPost nx M a sg wd n fk fp t cd ds ps ch wc tw tn cp tx dd q (cwK tx n wd cd ds tn dd q))) args s 0 0 (x_A M nx)) 0 0 (nx) M24 64 [(4, .long (lN (rc tx (n) (q)))), (3, .int (nI (q))), (0, .ref (a)), (1, .ref (t)), (2, .int (nI (dd)))] [.int (nI (0))]
          exact x_zret F hr (by rfl) dR_readCodeAndWords_64 (by rw [show cwK tx n wd cd ds tn dd q = some (4, q) from by rw [cwK, if_neg (fun z => c1 (rc_n0.mpr z)), if_neg (by rw [hfit]; decide), if_pos (show bhd cd tn (rc tx n q) = false from c3)]]; have z := hR24; first | exact ⟨rfl, fun b hb => (hf24 _ (by omega)).trans ((hf21 _ (by omega)).trans (rfl)), rfl, (tAt_fr (tAt_fr hTr (fun b _ _ => hf21 b (by omega))) (fun b _ _ => hf24 b (by omega))), _, _, _, z⟩ | (rw [hdummy] at z; exact ⟨rfl, fun b hb => (hf24 _ (by omega)).trans ((hf21 _ (by omega)).trans (rfl)), rfl, (tAt_fr (tAt_fr hTr (fun b _ _ => hf21 b (by omega))) (fun b _ _ => hf24 b (by omega))), _, _, _, z⟩))
      · skip
        have c2 : (decide ((lN (rc tx (n) (q))) < 200)) = false := bI_0 c2
        have hfit : fit cd ds tn dd (rc tx n q) = false := by rw [fit, hpj]; exact c2
        refine x_aload_n F 2 dR_readCodeAndWords_42 rfl rfl ?_
        refine x_iconst F (v := nI (3)) dR_readCodeAndWords_43 (by decide) ?_
        refine x_iload_n F 1 dR_readCodeAndWords_44 rfl rfl ?_
        refine yVr (n := 2) (As := [.int (nI (3)), .int (nI (q))]) (ci := 3) F kmR_42 kiR_fail ksR_fail knR kcR_fail (by decide +kernel) dR_readCodeAndWords_45 (cR_fail l (nx) M21 (a) sg wd cw n (q + dN tx n q) fk fp hR21 (nI (3)) (nI (q))) rfl g21_0 rfl rfl (Nat.le_of_ble_eq_true rfl) ⟨Nat.le_of_ble_eq_true rfl, Nat.le_of_ble_eq_true rfl⟩ ⟨Nat.le_of_ble_eq_true rfl, Nat.le_of_ble_eq_true rfl⟩ (fun r' n' M25 hp => ?_)
        obtain ⟨hr', hn', hR25, hf25⟩ := hp
        rw [hn', hr']
        obtain ⟨g25_0, g25_1, g25_2, g25_3, g25_4, g25_5⟩ := id hR25
        show xW p l e ({ frames := 3, cells := 0, slots := 0, locals := 73 } : Room) s m args below meth c D xcl (x_A M nx) 6 (MQ below (x_Q D xcl (x_A M nx) (cwPost nx M a sg wd n fk fp t cd ds ps ch wc tw tn cp tx dd q (cwK tx n wd cd ds tn dd q))) args s 0 0 (x_A M nx)) 0 0 (nx) M25 48 [(4, .long (lN (rc tx (n) (q)))), (3, .int (nI (q))), (0, .ref (a)), (1, .ref (t)), (2, .int (nI (dd)))] [.int (nI (0))]
        exact x_zret F hr (by rfl) dR_readCodeAndWords_48 (by rw [show cwK tx n wd cd ds tn dd q = some (3, q) from by rw [cwK, if_neg (fun z => c1 (rc_n0.mpr z)), if_pos hfit]]; have z := hR25; first | exact ⟨rfl, fun b hb => (hf25 _ (by omega)).trans ((hf21 _ (by omega)).trans (rfl)), rfl, (tAt_fr (tAt_fr hTr (fun b _ _ => hf21 b (by omega))) (fun b _ _ => hf25 b (by omega))), _, _, _, z⟩ | (rw [hdummy] at z; exact ⟨rfl, fun b hb => (hf25 _ (by omega)).trans ((hf21 _ (by omega)).trans (rfl)), rfl, (tAt_fr (tAt_fr hTr (fun b _ _ => hf21 b (by omega))) (fun b _ _ => hf25 b (by omega))), _, _, _, z⟩))
    · skip
      have hj : j < tn := (la_lt hpj).1
      refine xW.ste (st' := [.int (nI (j)), .ref (t)]) (by show ([.int (oi (par ds (nI (dd)) tn)), .ref (t)] : List Value) = _; rw [hpj]; rfl) ?_
      refine x_lload F 0 dR_readCodeAndWords_34 rfl ?_
      refine yV (n := 2) (As := [.int (nI (j)), .long (lN (rc tx (n) (q)))]) (ci := 4) F kmR_85 kiT_fitsBelow ksT_fitsBelow knT kcT_fitsBelow (by decide +kernel) dR_readCodeAndWords_36 (cT_fitsBelow l (nx) M21 (t) cd ds ps ch wc tw tn cp (tAt_fr hTr (fun b _ _ => hf21 b (by omega))) j (by omega) (lN (rc tx (n) (q)))) rfl ((hf21 _ (by omega)).trans u0) rfl rfl (Nat.le_of_ble_eq_true rfl) ⟨Nat.le_of_ble_eq_true rfl, Nat.le_of_ble_eq_true rfl⟩ ⟨Nat.le_of_ble_eq_true rfl, Nat.le_of_ble_eq_true rfl⟩ ?_
      refine x_if_ne F (tgt := 49) dR_readCodeAndWords_39 (by decide) (fun c6 => ?_) (fun c6 => ?_)
      · skip
        have c6 : ((! decide ((lN (rc tx (n) (q))) = cd j)) && decide (bw (cd j) 10 (lN (rc tx (n) (q))) = cd j)) = true := bI_1 c6
        have hfit : fit cd ds tn dd (rc tx n q) = true := by rw [fit, hpj]; exact c6
        refine x_aload_n F 3 dR_readCodeAndWords_49 rfl rfl ?_
        refine x_lload F 0 dR_readCodeAndWords_50 rfl ?_
        refine yV (n := 1) (As := [.long (lN (rc tx (n) (q)))]) (ci := 4) F kmR_89 kiT_comesBehindLast ksT_comesBehindLast knT kcT_comesBehindLast (by decide +kernel) dR_readCodeAndWords_52 (cT_behindLast l (nx) M21 (t) cd ds ps ch wc tw tn cp (tAt_fr hTr (fun b _ _ => hf21 b (by omega))) (lN (rc tx (n) (q)))) rfl ((hf21 _ (by omega)).trans u0) rfl rfl (Nat.le_of_ble_eq_true rfl) ⟨Nat.le_of_ble_eq_true rfl, Nat.le_of_ble_eq_true rfl⟩ ⟨Nat.le_of_ble_eq_true rfl, Nat.le_of_ble_eq_true rfl⟩ ?_
        refine x_if_ne F (tgt := 65) dR_readCodeAndWords_55 (by decide) (fun c7 => ?_) (fun c7 => ?_)
        · skip
          have c7 : (bhl cd tn (lN (rc tx (n) (q)))) = true := bI_1 c7
          refine x_aload_n F 2 dR_readCodeAndWords_65 rfl rfl ?_
          refine x_iconst F (v := nI (4)) dR_readCodeAndWords_66 (by decide) ?_
          refine yVr (n := 1) (As := [.int (nI (4))]) (ci := 3) F kmR_50 kiR_readWords ksR_readWords knR kcR_readWords (by decide +kernel) dR_readCodeAndWords_67 (cR_readWords l (nx) M21 (a) sg wd cw n (q + dN tx n q) fk fp hR21 tx hX (by omega) 4 (by omega)) rfl g21_0 rfl rfl (Nat.le_of_ble_eq_true rfl) ⟨Nat.le_of_ble_eq_true rfl, Nat.le_of_ble_eq_true rfl⟩ ⟨Nat.le_of_ble_eq_true rfl, Nat.le_of_ble_eq_true rfl⟩ (fun r' n' M26 hp => ?_)
          obtain ⟨hr', hn', hR26, hf26⟩ := hp
          rw [hn', hr']
          obtain ⟨g26_0, g26_1, g26_2, g26_3, g26_4, g26_5⟩ := id hR26
          show xW p l e ({ frames := 3, cells := 0, slots := 0, locals := 73 } : Room) s m args below meth c D xcl (x_A M nx) 6 (MQ below (x_Q D xcl (x_A M nx) (cwPost nx M a sg wd n fk fp t cd ds ps ch wc tw tn cp tx dd q (cwK tx n wd cd ds tn dd q))) args s 0 0 (x_A M nx)) 0 0 (nx) M26 70 [(4, .long (lN (rc tx (n) (q)))), (3, .int (nI (q))), (0, .ref (a)), (1, .ref (t)), (2, .int (nI (dd)))] [.int (bI ((wds tx n 4 4 0 ((q + dN tx n q)) wd).1))]
          refine x_if_ne F (tgt := 75) dR_readCodeAndWords_70 (by decide) (fun c8 => ?_) (fun c8 => ?_)
          · skip
            have c8 : ((wds tx n 4 4 0 ((q + dN tx n q)) wd).1) = true := bI_1 c8
            have hb4 := wds_b (tx := tx) (n := n) (mo := 4) (f := 4) (k := 0) (q := q + dN tx n q) (wd := wd) (by omega) (by omega)
            refine x_aload_n F 2 dR_readCodeAndWords_75 rfl rfl ?_
            refine yV (n := 0) (As := []) (ci := 3) F kmR_53 kiR_here ksR_here knR kcR_here (by decide +kernel) dR_readCodeAndWords_76 (cR_here l (nx) M26 (a) sg ((wds tx n 4 4 0 ((q + dN tx n q)) wd).2.2.2) ((wds tx n 4 4 0 ((q + dN tx n q)) wd).2.1) n ((wds tx n 4 4 0 ((q + dN tx n q)) wd).2.2.1) (if (wds tx n 4 4 0 ((q + dN tx n q)) wd).1 then fk else nI 1) (if (wds tx n 4 4 0 ((q + dN tx n q)) wd).1 then fp else nI (wds tx n 4 4 0 ((q + dN tx n q)) wd).2.2.1) hR26 tx hX) rfl g26_0 rfl rfl (Nat.le_of_ble_eq_true rfl) ⟨Nat.le_of_ble_eq_true rfl, Nat.le_of_ble_eq_true rfl⟩ ⟨Nat.le_of_ble_eq_true rfl, Nat.le_of_ble_eq_true rfl⟩ ?_
            have hh76 := hx_lt (q := ((wds tx n 4 4 0 ((q + dN tx n q)) wd).2.2.1)) hX
            refine x_bipush F (v := nI (59)) dR_readCodeAndWords_79 (by decide) ?_
            refine x_icmp_eq F (tgt := 94) dR_readCodeAndWords_81 (by decide) (fun c9 => ?_) (fun c9 => ?_)
            · skip
              have c9 : hx tx (n) (((wds tx n 4 4 0 ((q + dN tx n q)) wd).2.2.1)) = 59 := by
                exact (nI_eq (a := hx tx (n) (((wds tx n 4 4 0 ((q + dN tx n q)) wd).2.2.1))) (b := 59) (by omega) (by omega)).mp c9
              have hS9 := (hx_in (K := fun c => decide (c = 59)) rfl (tx := tx) (n := n) (q := (wds tx n 4 4 0 (q + dN tx n q) wd).2.2.1) (by simpa using c9)).1
              refine x_aload_n F 2 dR_readCodeAndWords_94 rfl rfl ?_
              refine x_dup F dR_readCodeAndWords_95 rfl ?_
              refine x_get (ci := 3) F 4 (x_in inR) rfl (by decide) (x_m kfR_26) dR_readCodeAndWords_96 g26_0 rfl ?_
              refine x_iconst F (v := nI (1)) dR_readCodeAndWords_99 (by decide) ?_
              refine x_iadd F dR_readCodeAndWords_100 ?_
              refine xW.toi (nI ((wds tx n 4 4 0 ((q + dN tx n q)) wd).2.2.1 + 1)) (nI_add _ _) ?_
              refine x_put (ci := 3) (ty := .int) F 4 (x_in inR) tR tR_ok nR rfl (by decide) (x_m kfR_26) dR_readCodeAndWords_101 rfl (by decide +kernel) rfl rfl g26_0 (Nat.le_of_ble_eq_true rfl) ?_
              show xW p l e ({ frames := 3, cells := 0, slots := 0, locals := 73 } : Room) s m args below meth c D xcl (x_A M nx) 6 (MQ below (x_Q D xcl (x_A M nx) (cwPost nx M a sg wd n fk fp t cd ds ps ch wc tw tn cp tx dd q (cwK tx n wd cd ds tn dd q))) args s 0 0 (x_A M nx)) 0 0 (nx) (x_up M26 (a) (.inr (3, [.ref (a + 1), .ref (a + 2), .int (nI ((wds tx n 4 4 0 ((q + dN tx n q)) wd).2.1)), .int (nI (n)), .int (nI ((wds tx n 4 4 0 ((q + dN tx n q)) wd).2.2.1 + 1)), .int (if (wds tx n 4 4 0 ((q + dN tx n q)) wd).1 then fk else nI 1), .int (if (wds tx n 4 4 0 ((q + dN tx n q)) wd).1 then fp else nI (wds tx n 4 4 0 ((q + dN tx n q)) wd).2.2.1)]))) 104 [(4, .long (lN (rc tx (n) (q)))), (3, .int (nI (q))), (0, .ref (a)), (1, .ref (t)), (2, .int (nI (dd)))] []
              refine x_aload_n F 3 dR_readCodeAndWords_104 rfl rfl ?_
              refine x_lload F 0 dR_readCodeAndWords_105 rfl ?_
              refine x_iload_n F 4 dR_readCodeAndWords_107 rfl rfl ?_
              refine x_aload_n F 2 dR_readCodeAndWords_108 rfl rfl ?_
              refine yVr (n := 3) (As := [.long (lN (rc tx (n) (q))), .int (nI (dd)), .ref (a)]) (ci := 4) F kmR_93 kiT_add ksT_add knT kcT_add (by decide +kernel) dR_readCodeAndWords_109 (cT_add l (nx) (x_up M26 (a) (.inr (3, [.ref (a + 1), .ref (a + 2), .int (nI ((wds tx n 4 4 0 ((q + dN tx n q)) wd).2.1)), .int (nI (n)), .int (nI ((wds tx n 4 4 0 ((q + dN tx n q)) wd).2.2.1 + 1)), .int (if (wds tx n 4 4 0 ((q + dN tx n q)) wd).1 then fk else nI 1), .int (if (wds tx n 4 4 0 ((q + dN tx n q)) wd).1 then fp else nI (wds tx n 4 4 0 ((q + dN tx n q)) wd).2.2.1)]))) (t) cd ds ps ch wc tw tn cp (tAt_fr (tAt_fr (tAt_fr hTr (fun b _ _ => hf21 b (by omega))) (fun b _ _ => hf26 b (by omega))) (fun b _ _ => x_up_n (by omega))) (a) sg ((wds tx n 4 4 0 ((q + dN tx n q)) wd).2.2.2) ((wds tx n 4 4 0 ((q + dN tx n q)) wd).2.1) n ((wds tx n 4 4 0 ((q + dN tx n q)) wd).2.2.1 + 1) (if (wds tx n 4 4 0 ((q + dN tx n q)) wd).1 then fk else nI 1) (if (wds tx n 4 4 0 ((q + dN tx n q)) wd).1 then fp else nI (wds tx n 4 4 0 ((q + dN tx n q)) wd).2.2.1) ⟨x_up_s, (x_up_k g26_1 (by omega)), (x_up_k g26_2 (by omega)), by omega, by omega, by omega⟩ (by omega) (by omega) (by omega) (by omega) (lN (rc tx (n) (q))) (nI (dd))) rfl (x_up_k ((hf26 _ (by omega)).trans ((hf21 _ (by omega)).trans u0)) (by omega)) rfl rfl (Nat.le_of_ble_eq_true rfl) ⟨Nat.le_of_ble_eq_true rfl, Nat.le_of_ble_eq_true rfl⟩ ⟨Nat.le_of_ble_eq_true rfl, Nat.le_of_ble_eq_true rfl⟩ (fun r' n' M104 hp => ?_)
              obtain ⟨hr', hn', hT104, hf104⟩ := hp
              rw [hn', hr']
              obtain ⟨v104_0, v104_1, v104_2, v104_3, v104_4, v104_5, v104_6, v104_7, v104_8⟩ := id hT104
              show xW p l e ({ frames := 3, cells := 0, slots := 0, locals := 73 } : Room) s m args below meth c D xcl (x_A M nx) 6 (MQ below (x_Q D xcl (x_A M nx) (cwPost nx M a sg wd n fk fp t cd ds ps ch wc tw tn cp tx dd q (cwK tx n wd cd ds tn dd q))) args s 0 0 (x_A M nx)) 0 0 (nx) M104 112 [(4, .long (lN (rc tx (n) (q)))), (3, .int (nI (q))), (0, .ref (a)), (1, .ref (t)), (2, .int (nI (dd)))] []
              refine x_iconst F (v := nI (1)) dR_readCodeAndWords_112 (by decide) ?_
              exact x_zret F hr (by rfl) dR_readCodeAndWords_113 (by rw [show cwK tx n wd cd ds tn dd q = none from by rw [cwK, if_neg (fun z => c1 (rc_n0.mpr z)), if_neg (by rw [hfit]; decide), if_neg (by rw [show bhd cd tn (rc tx n q) = true from c7]; decide), if_neg (by rw [c8]; decide), if_neg (fun z => z c9)]]; have z := (rAt_fr ⟨x_up_s, (x_up_k g26_1 (by omega)), (x_up_k g26_2 (by omega)), by omega, by omega, by omega⟩ (fun b _ _ => hf104 b (by omega))); first | exact ⟨rfl, fun b hb => (hf104 _ (by omega)).trans ((x_up_n (by omega)).trans ((hf26 _ (by omega)).trans ((hf21 _ (by omega)).trans (rfl)))), rfl, hT104, z⟩ | (rw [c8] at z; exact ⟨rfl, fun b hb => (hf104 _ (by omega)).trans ((x_up_n (by omega)).trans ((hf26 _ (by omega)).trans ((hf21 _ (by omega)).trans (rfl)))), rfl, hT104, z⟩))
            · skip
              have c9 : hx tx (n) (((wds tx n 4 4 0 ((q + dN tx n q)) wd).2.2.1)) ≠ 59 := by
                have z : ¬ (hx tx (n) (((wds tx n 4 4 0 ((q + dN tx n q)) wd).2.2.1)) = 59) := fun zz => c9 ((nI_eq (a := hx tx (n) (((wds tx n 4 4 0 ((q + dN tx n q)) wd).2.2.1))) (b := 59) (by omega) (by omega)).mpr zz)
                omega
              refine x_aload_n F 2 dR_readCodeAndWords_84 rfl rfl ?_
              refine x_iconst F (v := nI (1)) dR_readCodeAndWords_85 (by decide) ?_
              refine x_aload_n F 2 dR_readCodeAndWords_86 rfl rfl ?_
              refine x_get (ci := 3) F 4 (x_in inR) rfl (by decide) (x_m kfR_26) dR_readCodeAndWords_87 g26_0 rfl ?_
              refine yVr (n := 2) (As := [.int (nI (1)), .int (nI ((wds tx n 4 4 0 ((q + dN tx n q)) wd).2.2.1))]) (ci := 3) F kmR_42 kiR_fail ksR_fail knR kcR_fail (by decide +kernel) dR_readCodeAndWords_90 (cR_fail l (nx) M26 (a) sg ((wds tx n 4 4 0 ((q + dN tx n q)) wd).2.2.2) ((wds tx n 4 4 0 ((q + dN tx n q)) wd).2.1) n ((wds tx n 4 4 0 ((q + dN tx n q)) wd).2.2.1) (if (wds tx n 4 4 0 ((q + dN tx n q)) wd).1 then fk else nI 1) (if (wds tx n 4 4 0 ((q + dN tx n q)) wd).1 then fp else nI (wds tx n 4 4 0 ((q + dN tx n q)) wd).2.2.1) hR26 (nI (1)) (nI ((wds tx n 4 4 0 ((q + dN tx n q)) wd).2.2.1))) rfl g26_0 rfl rfl (Nat.le_of_ble_eq_true rfl) ⟨Nat.le_of_ble_eq_true rfl, Nat.le_of_ble_eq_true rfl⟩ ⟨Nat.le_of_ble_eq_true rfl, Nat.le_of_ble_eq_true rfl⟩ (fun r' n' M27 hp => ?_)
              obtain ⟨hr', hn', hR27, hf27⟩ := hp
              rw [hn', hr']
              obtain ⟨g27_0, g27_1, g27_2, g27_3, g27_4, g27_5⟩ := id hR27
              show xW p l e ({ frames := 3, cells := 0, slots := 0, locals := 73 } : Room) s m args below meth c D xcl (x_A M nx) 6 (MQ below (x_Q D xcl (x_A M nx) (cwPost nx M a sg wd n fk fp t cd ds ps ch wc tw tn cp tx dd q (cwK tx n wd cd ds tn dd q))) args s 0 0 (x_A M nx)) 0 0 (nx) M27 93 [(4, .long (lN (rc tx (n) (q)))), (3, .int (nI (q))), (0, .ref (a)), (1, .ref (t)), (2, .int (nI (dd)))] [.int (nI (0))]
              exact x_zret F hr (by rfl) dR_readCodeAndWords_93 (by rw [show cwK tx n wd cd ds tn dd q = some (1, (wds tx n 4 4 0 (q + dN tx n q) wd).2.2.1) from by rw [cwK, if_neg (fun z => c1 (rc_n0.mpr z)), if_neg (by rw [hfit]; decide), if_neg (by rw [show bhd cd tn (rc tx n q) = true from c7]; decide), if_neg (by rw [c8]; decide), if_pos c9]]; have z := hR27; first | exact ⟨rfl, fun b hb => (hf27 _ (by omega)).trans ((hf26 _ (by omega)).trans ((hf21 _ (by omega)).trans (rfl))), rfl, (tAt_fr (tAt_fr (tAt_fr hTr (fun b _ _ => hf21 b (by omega))) (fun b _ _ => hf26 b (by omega))) (fun b _ _ => hf27 b (by omega))), _, _, _, z⟩ | (rw [c8] at z; exact ⟨rfl, fun b hb => (hf27 _ (by omega)).trans ((hf26 _ (by omega)).trans ((hf21 _ (by omega)).trans (rfl))), rfl, (tAt_fr (tAt_fr (tAt_fr hTr (fun b _ _ => hf21 b (by omega))) (fun b _ _ => hf26 b (by omega))) (fun b _ _ => hf27 b (by omega))), _, _, _, z⟩))
          · skip
            have c8 : ((wds tx n 4 4 0 ((q + dN tx n q)) wd).1) = false := bI_0 c8
            refine x_iconst F (v := nI (0)) dR_readCodeAndWords_73 (by decide) ?_
            exact x_zret F hr (by rfl) dR_readCodeAndWords_74 (by rw [show cwK tx n wd cd ds tn dd q = some (1, (wds tx n 4 4 0 (q + dN tx n q) wd).2.2.1) from by rw [cwK, if_neg (fun z => c1 (rc_n0.mpr z)), if_neg (by rw [hfit]; decide), if_neg (by rw [show bhd cd tn (rc tx n q) = true from c7]; decide), if_pos c8]]; have z := hR26; first | exact ⟨rfl, fun b hb => (hf26 _ (by omega)).trans ((hf21 _ (by omega)).trans (rfl)), rfl, (tAt_fr (tAt_fr hTr (fun b _ _ => hf21 b (by omega))) (fun b _ _ => hf26 b (by omega))), _, _, _, z⟩ | (rw [c8] at z; exact ⟨rfl, fun b hb => (hf26 _ (by omega)).trans ((hf21 _ (by omega)).trans (rfl)), rfl, (tAt_fr (tAt_fr hTr (fun b _ _ => hf21 b (by omega))) (fun b _ _ => hf26 b (by omega))), _, _, _, z⟩))
        · skip
          have c7 : (bhl cd tn (lN (rc tx (n) (q)))) = false := bI_0 c7
          refine x_aload_n F 2 dR_readCodeAndWords_58 rfl rfl ?_
          refine x_iconst F (v := nI (4)) dR_readCodeAndWords_59 (by decide) ?_
          refine x_iload_n F 1 dR_readCodeAndWords_60 rfl rfl ?_
          refine yVr (n := 2) (As := [.int (nI (4)), .int (nI (q))]) (ci := 3) F kmR_42 kiR_fail ksR_fail knR kcR_fail (by decide +kernel) dR_readCodeAndWords_61 (cR_fail l (nx) M21 (a) sg wd cw n (q + dN tx n q) fk fp hR21 (nI (4)) (nI (q))) rfl g21_0 rfl rfl (Nat.le_of_ble_eq_true rfl) ⟨Nat.le_of_ble_eq_true rfl, Nat.le_of_ble_eq_true rfl⟩ ⟨Nat.le_of_ble_eq_true rfl, Nat.le_of_ble_eq_true rfl⟩ (fun r' n' M28 hp => ?_)
          obtain ⟨hr', hn', hR28, hf28⟩ := hp
          rw [hn', hr']
          obtain ⟨g28_0, g28_1, g28_2, g28_3, g28_4, g28_5⟩ := id hR28
          show xW p l e ({ frames := 3, cells := 0, slots := 0, locals := 73 } : Room) s m args below meth c D xcl (x_A M nx) 6 (MQ below (x_Q D xcl (x_A M nx) (cwPost nx M a sg wd n fk fp t cd ds ps ch wc tw tn cp tx dd q (cwK tx n wd cd ds tn dd q))) args s 0 0 (x_A M nx)) 0 0 (nx) M28 64 [(4, .long (lN (rc tx (n) (q)))), (3, .int (nI (q))), (0, .ref (a)), (1, .ref (t)), (2, .int (nI (dd)))] [.int (nI (0))]
          exact x_zret F hr (by rfl) dR_readCodeAndWords_64 (by rw [show cwK tx n wd cd ds tn dd q = some (4, q) from by rw [cwK, if_neg (fun z => c1 (rc_n0.mpr z)), if_neg (by rw [hfit]; decide), if_pos (show bhd cd tn (rc tx n q) = false from c7)]]; have z := hR28; first | exact ⟨rfl, fun b hb => (hf28 _ (by omega)).trans ((hf21 _ (by omega)).trans (rfl)), rfl, (tAt_fr (tAt_fr hTr (fun b _ _ => hf21 b (by omega))) (fun b _ _ => hf28 b (by omega))), _, _, _, z⟩ | (rw [hdummy] at z; exact ⟨rfl, fun b hb => (hf28 _ (by omega)).trans ((hf21 _ (by omega)).trans (rfl)), rfl, (tAt_fr (tAt_fr hTr (fun b _ _ => hf21 b (by omega))) (fun b _ _ => hf28 b (by omega))), _, _, _, z⟩))
      · skip
        have c6 : ((! decide ((lN (rc tx (n) (q))) = cd j)) && decide (bw (cd j) 10 (lN (rc tx (n) (q))) = cd j)) = false := bI_0 c6
        have hfit : fit cd ds tn dd (rc tx n q) = false := by rw [fit, hpj]; exact c6
        refine x_aload_n F 2 dR_readCodeAndWords_42 rfl rfl ?_
        refine x_iconst F (v := nI (3)) dR_readCodeAndWords_43 (by decide) ?_
        refine x_iload_n F 1 dR_readCodeAndWords_44 rfl rfl ?_
        refine yVr (n := 2) (As := [.int (nI (3)), .int (nI (q))]) (ci := 3) F kmR_42 kiR_fail ksR_fail knR kcR_fail (by decide +kernel) dR_readCodeAndWords_45 (cR_fail l (nx) M21 (a) sg wd cw n (q + dN tx n q) fk fp hR21 (nI (3)) (nI (q))) rfl g21_0 rfl rfl (Nat.le_of_ble_eq_true rfl) ⟨Nat.le_of_ble_eq_true rfl, Nat.le_of_ble_eq_true rfl⟩ ⟨Nat.le_of_ble_eq_true rfl, Nat.le_of_ble_eq_true rfl⟩ (fun r' n' M29 hp => ?_)
        obtain ⟨hr', hn', hR29, hf29⟩ := hp
        rw [hn', hr']
        obtain ⟨g29_0, g29_1, g29_2, g29_3, g29_4, g29_5⟩ := id hR29
        show xW p l e ({ frames := 3, cells := 0, slots := 0, locals := 73 } : Room) s m args below meth c D xcl (x_A M nx) 6 (MQ below (x_Q D xcl (x_A M nx) (cwPost nx M a sg wd n fk fp t cd ds ps ch wc tw tn cp tx dd q (cwK tx n wd cd ds tn dd q))) args s 0 0 (x_A M nx)) 0 0 (nx) M29 48 [(4, .long (lN (rc tx (n) (q)))), (3, .int (nI (q))), (0, .ref (a)), (1, .ref (t)), (2, .int (nI (dd)))] [.int (nI (0))]
        exact x_zret F hr (by rfl) dR_readCodeAndWords_48 (by rw [show cwK tx n wd cd ds tn dd q = some (3, q) from by rw [cwK, if_neg (fun z => c1 (rc_n0.mpr z)), if_pos hfit]]; have z := hR29; first | exact ⟨rfl, fun b hb => (hf29 _ (by omega)).trans ((hf21 _ (by omega)).trans (rfl)), rfl, (tAt_fr (tAt_fr hTr (fun b _ _ => hf21 b (by omega))) (fun b _ _ => hf29 b (by omega))), _, _, _, z⟩ | (rw [hdummy] at z; exact ⟨rfl, fun b hb => (hf29 _ (by omega)).trans ((hf21 _ (by omega)).trans (rfl)), rfl, (tAt_fr (tAt_fr hTr (fun b _ _ => hf21 b (by omega))) (fun b _ _ => hf29 b (by omega))), _, _, _, z⟩))
  · skip
    have c1 : lN (rc tx (n) (q)) = 0 := (lg_cmp_eq (lN (rc tx (n) (q))) (0)).mp c1
    refine x_aload_n F 2 dR_readCodeAndWords_18 rfl rfl ?_
    refine x_iconst F (v := nI (1)) dR_readCodeAndWords_19 (by decide) ?_
    refine x_aload_n F 2 dR_readCodeAndWords_20 rfl rfl ?_
    refine x_get (ci := 3) F 4 (x_in inR) rfl (by decide) (x_m kfR_26) dR_readCodeAndWords_21 g21_0 rfl ?_
    refine yVr (n := 2) (As := [.int (nI (1)), .int (nI (q + dN tx n q))]) (ci := 3) F kmR_42 kiR_fail ksR_fail knR kcR_fail (by decide +kernel) dR_readCodeAndWords_24 (cR_fail l (nx) M21 (a) sg wd cw n (q + dN tx n q) fk fp hR21 (nI (1)) (nI (q + dN tx n q))) rfl g21_0 rfl rfl (Nat.le_of_ble_eq_true rfl) ⟨Nat.le_of_ble_eq_true rfl, Nat.le_of_ble_eq_true rfl⟩ ⟨Nat.le_of_ble_eq_true rfl, Nat.le_of_ble_eq_true rfl⟩ (fun r' n' M30 hp => ?_)
    obtain ⟨hr', hn', hR30, hf30⟩ := hp
    rw [hn', hr']
    obtain ⟨g30_0, g30_1, g30_2, g30_3, g30_4, g30_5⟩ := id hR30
    show xW p l e ({ frames := 3, cells := 0, slots := 0, locals := 73 } : Room) s m args below meth c D xcl (x_A M nx) 6 (MQ below (x_Q D xcl (x_A M nx) (cwPost nx M a sg wd n fk fp t cd ds ps ch wc tw tn cp tx dd q (cwK tx n wd cd ds tn dd q))) args s 0 0 (x_A M nx)) 0 0 (nx) M30 27 [(4, .long (lN (rc tx (n) (q)))), (3, .int (nI (q))), (0, .ref (a)), (1, .ref (t)), (2, .int (nI (dd)))] [.int (nI (0))]
    exact x_zret F hr (by rfl) dR_readCodeAndWords_27 (by rw [show cwK tx n wd cd ds tn dd q = some (1, q + dN tx n q) from by rw [cwK, if_pos (rc_n0.mp c1)]]; have z := hR30; first | exact ⟨rfl, fun b hb => (hf30 _ (by omega)).trans ((hf21 _ (by omega)).trans (rfl)), rfl, (tAt_fr (tAt_fr hTr (fun b _ _ => hf21 b (by omega))) (fun b _ _ => hf30 b (by omega))), _, _, _, z⟩ | (rw [hdummy] at z; exact ⟨rfl, fun b hb => (hf30 _ (by omega)).trans ((hf21 _ (by omega)).trans (rfl)), rfl, (tAt_fr (tAt_fr hTr (fun b _ _ => hf21 b (by omega))) (fun b _ _ => hf30 b (by omega))), _, _, _, z⟩))
