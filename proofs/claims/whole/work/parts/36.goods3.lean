/-- how many, and whether one of them is shared -/
def bcl (P Q : Nat → Bool) : Nat → Nat → Nat → Bool → Nat × Bool
  | 0, _, c, sh => (c, sh)
  | k + 1, i, c, sh => if P i then bcl P Q k (i + 1) (c + 1) (sh || Q i) else bcl P Q k (i + 1) c sh
theorem bcl_s (P Q : Nat → Bool) (k i c : Nat) (sh : Bool) : bcl P Q (k + 1) i c sh = if P i then bcl P Q k (i + 1) (c + 1) (sh || Q i) else bcl P Q k (i + 1) c sh := rfl
def bec (r : Nat × Bool) : Nat := if r.1 = 0 then 0 else if r.1 = 1 then (if r.2 then 3 else 1) else (if r.2 then 4 else 2)
def bcP (γ : gS) (a : Int32) (co : Int64) (b : Int32) : Nat → Bool := pMt γ.2.2.2.2.2.1.1 γ.2.2.2.2.2.1.2.1 γ.2.2.2.2.2.1.2.2.1 a co b
def lTo (γ : gS) (a b : Int32) (oo : Int64) : Nat := ct (fun j => decide (γ.2.2.2.2.2.1.1 j = a) && (decide (γ.2.2.2.2.2.1.2.2.1 j = b) && decide (γ.2.2.2.2.2.1.2.2.2.1 j = oo))) γ.2.2.2.2.2.1.2.2.2.2 0 0
theorem ct_le (P : Nat → Bool) (k i c : Nat) : ct P k i c ≤ k + c := by
  induction k generalizing i c with
  | zero => show c ≤ 0 + c; omega
  | succ k ih =>
    rw [ct_s]; split
    · have := ih (i + 1) (c + 1); omega
    · have := ih (i + 1) c; omega
def bcQ (γ : gS) (a b : Int32) (j : Nat) : Bool := decide (1 < lTo γ a b (γ.2.2.2.2.2.1.2.2.2.1 j))
def bcm (γ : gS) (a : Int32) (co : Int64) (b : Int32) : Nat := bec (bcl (bcP γ a co b) (bcQ γ a b) γ.2.2.2.2.2.1.2.2.2.2 0 0 false)
/-- a row without rows below it, without a link -/
def lsP (γ : gS) (k : Nat) (b : Int32) (j : Nat) : Bool := decide ((γ.2.2.2.1 k).2.2.2.1 j = 0) && (nt (bcP γ (nI k) ((γ.2.2.2.1 k).1 j) b) (nI 0) γ.2.2.2.2.2.1.2.2.2.2 0 0).isNone
def lst (γ : gS) (k : Nat) (b : Int32) : Nat := ct (lsP γ k b) (γ.2.2.2.1 k).2.2.2.2.2.2.1 0 0
set_option maxHeartbeats 4000000 in
set_option maxRecDepth 100000 in
theorem cG_note (l : Launch) (nx : Nat) (M : xH) (g : Nat) (γ : gS) (hG : gIs M g γ) (co : Int64) (kd : Int32) (oo : Int64) (hA : ntA γ co kd oo = false) (hS : ntS γ co kd oo = false) : xC l xcl yG_note (xw (Cond.code yG_note bG_note 7 (some .int))) ({ frames := 3, cells := 0, slots := 0, locals := 73 } : Room) [.ref (g), .long (co), .int (kd), .long (oo)] nx M (gPost (some (.int (nI (ct (fun j => decide ((padd γ.2.2.2.2.1 (nI γ.2.1) co kd oo).1 j = nI γ.2.1)) (padd γ.2.2.2.2.1 (nI γ.2.1) co kd oo).2.2.2.2 0 0)))) nx M g (gNt γ (padd γ.2.2.2.2.1 (nI γ.2.1) co kd oo))) := by
  obtain ⟨⟨fT, h0, h4, hfT, hpr, hπ, hπi⟩, hRd, hTr, hNo, hLi, hFi⟩ := id hG
  have hpp := hπ γ.2.1 (by omega)
  refine yC (by decide) (Nat.le_of_ble_eq_true rfl) ?_
  intro p e s m args below meth c D F hr hn
  refine x_aload_n F 0 dG_note_0 rfl rfl ?_
  refine x_aload_n F 0 dG_note_1 rfl rfl ?_
  refine x_get (ci := 5) F 6 (x_in inG) rfl (by decide) (x_m kfG_46) dG_note_2 h0 rfl ?_
  refine x_lload_n F 1 dG_note_5 rfl rfl ?_
  refine yV (n := 2) (As := [.int (nI (γ.2.1)), .long (co)]) (ci := 5) F kmG_119 kiG_hasCode ksG_hasCode knG kcG_hasCode (by decide +kernel) dG_note_6 (cG_hasC l (nx) M g γ hG (nI (γ.2.1)) (co)) rfl h0 rfl rfl (Nat.le_of_ble_eq_true rfl) ⟨Nat.le_of_ble_eq_true rfl, Nat.le_of_ble_eq_true rfl⟩ ⟨Nat.le_of_ble_eq_true rfl, Nat.le_of_ble_eq_true rfl⟩ ?_
  refine x_if_eq F (tgt := 29) dG_note_9 (by decide) (fun c1 => ?_) (fun c1 => ?_)
  · skip
    have c1 : (gHas γ (nI (γ.2.1)) (co)) = false := bI_0 c1
    refine x_iconst F (v := nI (0)) dG_note_29 (by decide) ?_
    refine x_istore F [(6, .int (nI (0))), (0, .ref (g)), (1, .long (co)), (3, .int (kd)), (4, .long (oo))] dG_note_30 (by decide) rfl ?_
    refine x_iload F 0 dG_note_32 rfl ?_
    refine x_if_eq F (tgt := 53) dG_note_34 (by decide) (fun c2 => ?_) (fun c2 => ?_)
    · skip
      have c2 : 0 = 0 := by
        exact (nI_eq (a := 0) (b := 0) (by omega) (by omega)).mp c2
      first | exact absurd c2 (by decide) | (simp [ntA, c1] at hA)
    · skip
      have c2 : 0 ≠ 0 := by
        have z : ¬ (0 = 0) := fun zz => c2 ((nI_eq (a := 0) (b := 0) (by omega) (by omega)).mpr zz)
        omega
      exact absurd c2 (by decide)
  · skip
    have c1 : (gHas γ (nI (γ.2.1)) (co)) = true := bI_1 c1
    refine x_aload_n F 0 dG_note_12 rfl rfl ?_
    refine x_aload_n F 0 dG_note_13 rfl rfl ?_
    refine x_get (ci := 5) F 6 (x_in inG) rfl (by decide) (x_m kfG_46) dG_note_14 h0 rfl ?_
    refine x_lload F 3 dG_note_17 rfl ?_
    refine yV (n := 2) (As := [.int (nI (γ.2.1)), .long (oo)]) (ci := 5) F kmG_119 kiG_hasCode ksG_hasCode knG kcG_hasCode (by decide +kernel) dG_note_19 (cG_hasC l (nx) M g γ hG (nI (γ.2.1)) (oo)) rfl h0 rfl rfl (Nat.le_of_ble_eq_true rfl) ⟨Nat.le_of_ble_eq_true rfl, Nat.le_of_ble_eq_true rfl⟩ ⟨Nat.le_of_ble_eq_true rfl, Nat.le_of_ble_eq_true rfl⟩ ?_
    refine x_if_eq F (tgt := 29) dG_note_22 (by decide) (fun c3 => ?_) (fun c3 => ?_)
    · skip
      have c3 : (gHas γ (nI (γ.2.1)) (oo)) = false := bI_0 c3
      refine x_iconst F (v := nI (0)) dG_note_29 (by decide) ?_
      refine x_istore F [(6, .int (nI (0))), (0, .ref (g)), (1, .long (co)), (3, .int (kd)), (4, .long (oo))] dG_note_30 (by decide) rfl ?_
      refine x_iload F 0 dG_note_32 rfl ?_
      refine x_if_eq F (tgt := 53) dG_note_34 (by decide) (fun c4 => ?_) (fun c4 => ?_)
      · skip
        have c4 : 0 = 0 := by
          exact (nI_eq (a := 0) (b := 0) (by omega) (by omega)).mp c4
        first | exact absurd c4 (by decide) | (simp [ntA, c1, c3] at hA)
      · skip
        have c4 : 0 ≠ 0 := by
          have z : ¬ (0 = 0) := fun zz => c4 ((nI_eq (a := 0) (b := 0) (by omega) (by omega)).mpr zz)
          omega
        exact absurd c4 (by decide)
    · skip
      have c3 : (gHas γ (nI (γ.2.1)) (oo)) = true := bI_1 c3
      refine x_iconst F (v := nI (1)) dG_note_25 (by decide) ?_
      refine x_goto F (tgt := 30) dG_note_26 (by decide) ?_
      refine x_istore F [(6, .int (nI (1))), (0, .ref (g)), (1, .long (co)), (3, .int (kd)), (4, .long (oo))] dG_note_30 (by decide) rfl ?_
      refine x_iload F 0 dG_note_32 rfl ?_
      refine x_if_eq F (tgt := 53) dG_note_34 (by decide) (fun c5 => ?_) (fun c5 => ?_)
      · skip
        have c5 : 1 = 0 := by
          exact (nI_eq (a := 1) (b := 0) (by omega) (by omega)).mp c5
        first | exact absurd c5 (by decide) | (simp [ntA, c1, c3] at hA)
      · skip
        have c5 : 1 ≠ 0 := by
          have z : ¬ (1 = 0) := fun zz => c5 ((nI_eq (a := 1) (b := 0) (by omega) (by omega)).mpr zz)
          omega
        refine x_lload_n F 2 dG_note_37 rfl rfl ?_
        refine x_lload F 4 dG_note_38 rfl ?_
        refine x_lcmp F dG_note_40 ?_
        refine x_if_eq F (tgt := 53) dG_note_41 (by decide) (fun c6 => ?_) (fun c6 => ?_)
        · skip
          have c6 : co = oo := (lg_cmp_eq (co) (oo)).mp c6
          first | exact absurd c6 (by decide) | (simp [ntA, c1, c3, c6] at hA)
        · skip
          have c6 : ¬ co = oo := fun z => c6 ((lg_cmp_eq (co) (oo)).mpr z)
          refine x_iload_n F 3 dG_note_44 rfl rfl ?_
          refine x_if_eq F (tgt := 63) dG_note_45 (by decide) (fun c7 => ?_) (fun c7 => ?_)
          · skip
            refine x_aload_n F 1 dG_note_63 rfl rfl ?_
            refine x_get (ci := 5) F 2 (x_in inG) rfl (by decide) (x_m kfG_27) dG_note_64 h0 rfl ?_
            refine yV (n := 0) (As := []) (ci := 2) F kmG_128 kiP_isFull ksP_isFull knP kcP_isFull (by decide +kernel) dG_note_67 (cP_isFull l (nx) M (g + 5) 20 (γ.2.2.2.2.1).1 (γ.2.2.2.2.1).2.1 (γ.2.2.2.2.1).2.2.1 (γ.2.2.2.2.1).2.2.2.1 (γ.2.2.2.2.1).2.2.2.2 hNo ) rfl hNo.1 rfl rfl (Nat.le_of_ble_eq_true rfl) ⟨Nat.le_of_ble_eq_true rfl, Nat.le_of_ble_eq_true rfl⟩ ⟨Nat.le_of_ble_eq_true rfl, Nat.le_of_ble_eq_true rfl⟩ ?_
            refine x_if_ne F (tgt := 91) dG_note_70 (by decide) (fun c8 => ?_) (fun c8 => ?_)
            · skip
              have c8 : (decide (20 ≤ (γ.2.2.2.2.1).2.2.2.2)) = true := bI_1 c8
              simp [ntS, c8] at hS
            · skip
              have c8 : (decide (20 ≤ (γ.2.2.2.2.1).2.2.2.2)) = false := bI_0 c8
              refine x_aload_n F 1 dG_note_73 rfl rfl ?_
              refine x_get (ci := 5) F 2 (x_in inG) rfl (by decide) (x_m kfG_27) dG_note_74 h0 rfl ?_
              refine x_aload_n F 1 dG_note_77 rfl rfl ?_
              refine x_get (ci := 5) F 6 (x_in inG) rfl (by decide) (x_m kfG_46) dG_note_78 h0 rfl ?_
              refine x_lload_n F 2 dG_note_81 rfl rfl ?_
              refine x_iload_n F 3 dG_note_82 rfl rfl ?_
              refine x_lload F 4 dG_note_83 rfl ?_
              refine yV (n := 4) (As := [.int (nI (γ.2.1)), .long (co), .int (kd), .long (oo)]) (ci := 2) F kmG_132 kiP_holds ksP_holds knP kcP_holds (by decide +kernel) dG_note_85 (cP_holds l (nx) M (g + 5) 20 (γ.2.2.2.2.1).1 (γ.2.2.2.2.1).2.1 (γ.2.2.2.2.1).2.2.1 (γ.2.2.2.2.1).2.2.2.1 (γ.2.2.2.2.1).2.2.2.2 hNo (nI (γ.2.1)) (co) (kd) (oo)) rfl hNo.1 rfl rfl (Nat.le_of_ble_eq_true rfl) ⟨Nat.le_of_ble_eq_true rfl, Nat.le_of_ble_eq_true rfl⟩ ⟨Nat.le_of_ble_eq_true rfl, Nat.le_of_ble_eq_true rfl⟩ ?_
              refine x_if_eq F (tgt := 101) dG_note_88 (by decide) (fun c9 => ?_) (fun c9 => ?_)
              · skip
                have c9 : (pHas (γ.2.2.2.2.1) (nI (γ.2.1)) (co) (kd) (oo)) = false := bI_0 c9
                refine x_aload_n F 1 dG_note_101 rfl rfl ?_
                refine x_get (ci := 5) F 2 (x_in inG) rfl (by decide) (x_m kfG_27) dG_note_102 h0 rfl ?_
                refine x_aload_n F 1 dG_note_105 rfl rfl ?_
                refine x_get (ci := 5) F 6 (x_in inG) rfl (by decide) (x_m kfG_46) dG_note_106 h0 rfl ?_
                refine x_lload_n F 2 dG_note_109 rfl rfl ?_
                refine x_iload_n F 3 dG_note_110 rfl rfl ?_
                refine x_lload F 4 dG_note_111 rfl ?_
                have hroom : γ.2.2.2.2.1.2.2.2.2 < 20 := by have z := c8; simp at z; exact z
                refine yVr (n := 4) (As := [.int (nI (γ.2.1)), .long (co), .int (kd), .long (oo)]) (ci := 2) F kmG_138 kiP_add ksP_add knP kcP_add (by decide +kernel) dG_note_113 (cP_add l (nx) M (g + 5) 20 (γ.2.2.2.2.1) hNo hroom (nI (γ.2.1)) (co) (kd) (oo)) rfl hNo.1 rfl rfl (Nat.le_of_ble_eq_true rfl) ⟨Nat.le_of_ble_eq_true rfl, Nat.le_of_ble_eq_true rfl⟩ ⟨Nat.le_of_ble_eq_true rfl, Nat.le_of_ble_eq_true rfl⟩ (fun r' n' M305 hp => ?_)
                obtain ⟨hr', hn', hP305, hf305⟩ := hp
                rw [hn', hr']
                show xW p l e ({ frames := 3, cells := 0, slots := 0, locals := 73 } : Room) s m args below meth c D xcl (x_A M nx) 7 (MQ below (x_Q D xcl (x_A M nx) (gPost (some (.int (nI (ct (fun j => decide ((padd γ.2.2.2.2.1 (nI γ.2.1) co kd oo).1 j = nI γ.2.1)) (padd γ.2.2.2.2.1 (nI γ.2.1) co kd oo).2.2.2.2 0 0)))) nx M g (gNt γ (padd γ.2.2.2.2.1 (nI γ.2.1) co kd oo)))) args s 0 0 (x_A M nx)) 0 0 (nx) M305 116 [(6, .int (nI (1))), (0, .ref (g)), (1, .long (co)), (3, .int (kd)), (4, .long (oo))] []
                refine x_aload_n F 1 dG_note_116 rfl rfl ?_
                refine x_get (ci := 5) F 2 (x_in inG) rfl (by decide) (x_m kfG_27) dG_note_117 ((hf305 _ (by omega)).trans h0) rfl ?_
                refine x_aload_n F 1 dG_note_120 rfl rfl ?_
                refine x_get (ci := 5) F 6 (x_in inG) rfl (by decide) (x_m kfG_46) dG_note_121 ((hf305 _ (by omega)).trans h0) rfl ?_
                refine yV (n := 1) (As := [.int (nI (γ.2.1))]) (ci := 2) F kmG_142 kiP_sizeFrom ksP_sizeFrom knP kcP_sizeFrom (by decide +kernel) dG_note_124 (cP_sizeFrom l (nx) M305 (g + 5) 20 (padd (γ.2.2.2.2.1) (nI (γ.2.1)) (co) (kd) (oo)).1 (padd (γ.2.2.2.2.1) (nI (γ.2.1)) (co) (kd) (oo)).2.1 (padd (γ.2.2.2.2.1) (nI (γ.2.1)) (co) (kd) (oo)).2.2.1 (padd (γ.2.2.2.2.1) (nI (γ.2.1)) (co) (kd) (oo)).2.2.2.1 (padd (γ.2.2.2.2.1) (nI (γ.2.1)) (co) (kd) (oo)).2.2.2.2 hP305 (nI (γ.2.1))) rfl hP305.1 rfl rfl (Nat.le_of_ble_eq_true rfl) ⟨Nat.le_of_ble_eq_true rfl, Nat.le_of_ble_eq_true rfl⟩ ⟨Nat.le_of_ble_eq_true rfl, Nat.le_of_ble_eq_true rfl⟩ ?_
                exact x_iret F hr dG_note_127 (⟨rfl, rfl, ⟨⟨fT, ((hf305 _ (by omega)).trans h0), ((hf305 _ (by omega)).trans h4), hfT, hpr, hπ, hπi⟩, (rAt_fr hRd (fun b _ _ => hf305 b (by omega))), (fun i hi => tAt_fr (hTr i hi) (fun b hb hb2 =>  (hf305 _ (by omega)).trans (rfl))), hP305, (pAt_fr hLi (fun b _ _ => hf305 b (by omega))), (fAt_fr hFi (fun b _ _ => hf305 b (by omega)))⟩, fun b hb => (hf305 _ (by omega)).trans (rfl)⟩)
              · skip
                have c9 : (pHas (γ.2.2.2.2.1) (nI (γ.2.1)) (co) (kd) (oo)) = true := bI_1 c9
                simp [ntS, c8, c9] at hS
          · skip
            refine x_iload_n F 3 dG_note_48 rfl rfl ?_
            refine x_iconst F (v := nI (1)) dG_note_49 (by decide) ?_
            refine x_icmp_eq F (tgt := 63) dG_note_50 (by decide) (fun c10 => ?_) (fun c10 => ?_)
            · skip
              refine x_aload_n F 1 dG_note_63 rfl rfl ?_
              refine x_get (ci := 5) F 2 (x_in inG) rfl (by decide) (x_m kfG_27) dG_note_64 h0 rfl ?_
              refine yV (n := 0) (As := []) (ci := 2) F kmG_128 kiP_isFull ksP_isFull knP kcP_isFull (by decide +kernel) dG_note_67 (cP_isFull l (nx) M (g + 5) 20 (γ.2.2.2.2.1).1 (γ.2.2.2.2.1).2.1 (γ.2.2.2.2.1).2.2.1 (γ.2.2.2.2.1).2.2.2.1 (γ.2.2.2.2.1).2.2.2.2 hNo ) rfl hNo.1 rfl rfl (Nat.le_of_ble_eq_true rfl) ⟨Nat.le_of_ble_eq_true rfl, Nat.le_of_ble_eq_true rfl⟩ ⟨Nat.le_of_ble_eq_true rfl, Nat.le_of_ble_eq_true rfl⟩ ?_
              refine x_if_ne F (tgt := 91) dG_note_70 (by decide) (fun c11 => ?_) (fun c11 => ?_)
              · skip
                have c11 : (decide (20 ≤ (γ.2.2.2.2.1).2.2.2.2)) = true := bI_1 c11
                simp [ntS, c11] at hS
              · skip
                have c11 : (decide (20 ≤ (γ.2.2.2.2.1).2.2.2.2)) = false := bI_0 c11
                refine x_aload_n F 1 dG_note_73 rfl rfl ?_
                refine x_get (ci := 5) F 2 (x_in inG) rfl (by decide) (x_m kfG_27) dG_note_74 h0 rfl ?_
                refine x_aload_n F 1 dG_note_77 rfl rfl ?_
                refine x_get (ci := 5) F 6 (x_in inG) rfl (by decide) (x_m kfG_46) dG_note_78 h0 rfl ?_
                refine x_lload_n F 2 dG_note_81 rfl rfl ?_
                refine x_iload_n F 3 dG_note_82 rfl rfl ?_
                refine x_lload F 4 dG_note_83 rfl ?_
                refine yV (n := 4) (As := [.int (nI (γ.2.1)), .long (co), .int (kd), .long (oo)]) (ci := 2) F kmG_132 kiP_holds ksP_holds knP kcP_holds (by decide +kernel) dG_note_85 (cP_holds l (nx) M (g + 5) 20 (γ.2.2.2.2.1).1 (γ.2.2.2.2.1).2.1 (γ.2.2.2.2.1).2.2.1 (γ.2.2.2.2.1).2.2.2.1 (γ.2.2.2.2.1).2.2.2.2 hNo (nI (γ.2.1)) (co) (kd) (oo)) rfl hNo.1 rfl rfl (Nat.le_of_ble_eq_true rfl) ⟨Nat.le_of_ble_eq_true rfl, Nat.le_of_ble_eq_true rfl⟩ ⟨Nat.le_of_ble_eq_true rfl, Nat.le_of_ble_eq_true rfl⟩ ?_
                refine x_if_eq F (tgt := 101) dG_note_88 (by decide) (fun c12 => ?_) (fun c12 => ?_)
                · skip
                  have c12 : (pHas (γ.2.2.2.2.1) (nI (γ.2.1)) (co) (kd) (oo)) = false := bI_0 c12
                  refine x_aload_n F 1 dG_note_101 rfl rfl ?_
                  refine x_get (ci := 5) F 2 (x_in inG) rfl (by decide) (x_m kfG_27) dG_note_102 h0 rfl ?_
                  refine x_aload_n F 1 dG_note_105 rfl rfl ?_
                  refine x_get (ci := 5) F 6 (x_in inG) rfl (by decide) (x_m kfG_46) dG_note_106 h0 rfl ?_
                  refine x_lload_n F 2 dG_note_109 rfl rfl ?_
                  refine x_iload_n F 3 dG_note_110 rfl rfl ?_
                  refine x_lload F 4 dG_note_111 rfl ?_
                  have hroom : γ.2.2.2.2.1.2.2.2.2 < 20 := by have z := c11; simp at z; exact z
                  refine yVr (n := 4) (As := [.int (nI (γ.2.1)), .long (co), .int (kd), .long (oo)]) (ci := 2) F kmG_138 kiP_add ksP_add knP kcP_add (by decide +kernel) dG_note_113 (cP_add l (nx) M (g + 5) 20 (γ.2.2.2.2.1) hNo hroom (nI (γ.2.1)) (co) (kd) (oo)) rfl hNo.1 rfl rfl (Nat.le_of_ble_eq_true rfl) ⟨Nat.le_of_ble_eq_true rfl, Nat.le_of_ble_eq_true rfl⟩ ⟨Nat.le_of_ble_eq_true rfl, Nat.le_of_ble_eq_true rfl⟩ (fun r' n' M306 hp => ?_)
                  obtain ⟨hr', hn', hP306, hf306⟩ := hp
                  rw [hn', hr']
                  show xW p l e ({ frames := 3, cells := 0, slots := 0, locals := 73 } : Room) s m args below meth c D xcl (x_A M nx) 7 (MQ below (x_Q D xcl (x_A M nx) (gPost (some (.int (nI (ct (fun j => decide ((padd γ.2.2.2.2.1 (nI γ.2.1) co kd oo).1 j = nI γ.2.1)) (padd γ.2.2.2.2.1 (nI γ.2.1) co kd oo).2.2.2.2 0 0)))) nx M g (gNt γ (padd γ.2.2.2.2.1 (nI γ.2.1) co kd oo)))) args s 0 0 (x_A M nx)) 0 0 (nx) M306 116 [(6, .int (nI (1))), (0, .ref (g)), (1, .long (co)), (3, .int (kd)), (4, .long (oo))] []
                  refine x_aload_n F 1 dG_note_116 rfl rfl ?_
                  refine x_get (ci := 5) F 2 (x_in inG) rfl (by decide) (x_m kfG_27) dG_note_117 ((hf306 _ (by omega)).trans h0) rfl ?_
                  refine x_aload_n F 1 dG_note_120 rfl rfl ?_
                  refine x_get (ci := 5) F 6 (x_in inG) rfl (by decide) (x_m kfG_46) dG_note_121 ((hf306 _ (by omega)).trans h0) rfl ?_
                  refine yV (n := 1) (As := [.int (nI (γ.2.1))]) (ci := 2) F kmG_142 kiP_sizeFrom ksP_sizeFrom knP kcP_sizeFrom (by decide +kernel) dG_note_124 (cP_sizeFrom l (nx) M306 (g + 5) 20 (padd (γ.2.2.2.2.1) (nI (γ.2.1)) (co) (kd) (oo)).1 (padd (γ.2.2.2.2.1) (nI (γ.2.1)) (co) (kd) (oo)).2.1 (padd (γ.2.2.2.2.1) (nI (γ.2.1)) (co) (kd) (oo)).2.2.1 (padd (γ.2.2.2.2.1) (nI (γ.2.1)) (co) (kd) (oo)).2.2.2.1 (padd (γ.2.2.2.2.1) (nI (γ.2.1)) (co) (kd) (oo)).2.2.2.2 hP306 (nI (γ.2.1))) rfl hP306.1 rfl rfl (Nat.le_of_ble_eq_true rfl) ⟨Nat.le_of_ble_eq_true rfl, Nat.le_of_ble_eq_true rfl⟩ ⟨Nat.le_of_ble_eq_true rfl, Nat.le_of_ble_eq_true rfl⟩ ?_
                  exact x_iret F hr dG_note_127 (⟨rfl, rfl, ⟨⟨fT, ((hf306 _ (by omega)).trans h0), ((hf306 _ (by omega)).trans h4), hfT, hpr, hπ, hπi⟩, (rAt_fr hRd (fun b _ _ => hf306 b (by omega))), (fun i hi => tAt_fr (hTr i hi) (fun b hb hb2 =>  (hf306 _ (by omega)).trans (rfl))), hP306, (pAt_fr hLi (fun b _ _ => hf306 b (by omega))), (fAt_fr hFi (fun b _ _ => hf306 b (by omega)))⟩, fun b hb => (hf306 _ (by omega)).trans (rfl)⟩)
                · skip
                  have c12 : (pHas (γ.2.2.2.2.1) (nI (γ.2.1)) (co) (kd) (oo)) = true := bI_1 c12
                  simp [ntS, c11, c12] at hS
            · skip
              first | exact absurd c10 (by decide) | (simp [ntA, c1, c3, c6, c7, c10] at hA)
set_option maxHeartbeats 4000000 in
set_option maxRecDepth 100000 in
theorem cG_noteA (l : Launch) (hfl : x_fl l) (nx : Nat) (M : xH) (g : Nat) (γ : gS) (hG : gIs M g γ) (co : Int64) (kd : Int32) (oo : Int64) (hA : ntA γ co kd oo = true) : xT_ l xcl yG_note (xw (Cond.code yG_note bG_note 7 (some .int))) ({ frames := 6, cells := 1, slots := 6, locals := 90 } : Room) [.ref (g), .long (co), .int (kd), .long (oo)] nx M "java/lang/IllegalArgumentException" (kPost nx M) := by
  obtain ⟨⟨fT, h0, h4, hfT, hpr, hπ, hπi⟩, hRd, hTr, hNo, hLi, hFi⟩ := id hG
  have hpp := hπ γ.2.1 (by omega)
  refine yCT (by decide) (Nat.le_of_ble_eq_true rfl) ?_
  intro p e s m args below meth c D F hr hex
  refine x_aload_n F 0 dG_note_0 rfl rfl ?_
  refine x_aload_n F 0 dG_note_1 rfl rfl ?_
  refine x_get (ci := 5) F 6 (x_in inG) rfl (by decide) (x_m kfG_46) dG_note_2 h0 rfl ?_
  refine x_lload_n F 1 dG_note_5 rfl rfl ?_
  refine yV (n := 2) (As := [.int (nI (γ.2.1)), .long (co)]) (ci := 5) F kmG_119 kiG_hasCode ksG_hasCode knG kcG_hasCode (by decide +kernel) dG_note_6 (cG_hasC l (nx) M g γ hG (nI (γ.2.1)) (co)) rfl h0 rfl rfl (Nat.le_of_ble_eq_true rfl) ⟨Nat.le_of_ble_eq_true rfl, Nat.le_of_ble_eq_true rfl⟩ ⟨Nat.le_of_ble_eq_true rfl, Nat.le_of_ble_eq_true rfl⟩ ?_
  refine x_if_eq F (tgt := 29) dG_note_9 (by decide) (fun c1 => ?_) (fun c1 => ?_)
  · skip
    have c1 : (gHas γ (nI (γ.2.1)) (co)) = false := bI_0 c1
    refine x_iconst F (v := nI (0)) dG_note_29 (by decide) ?_
    refine x_istore F [(6, .int (nI (0))), (0, .ref (g)), (1, .long (co)), (3, .int (kd)), (4, .long (oo))] dG_note_30 (by decide) rfl ?_
    refine x_iload F 0 dG_note_32 rfl ?_
    refine x_if_eq F (tgt := 53) dG_note_34 (by decide) (fun c2 => ?_) (fun c2 => ?_)
    · skip
      have c2 : 0 = 0 := by
        exact (nI_eq (a := 0) (b := 0) (by omega) (by omega)).mp c2
      exact yT (tx := "no such codes or kind for a note") F hfl hex x_ok3 klG_123 kqJA knJA kcG_note (by decide) (by decide) dG_note_53 dG_note_56 dG_note_57 dG_note_59 dG_note_62 (Nat.le_of_ble_eq_true rfl) (Nat.le_of_ble_eq_true rfl) (Nat.le_of_ble_eq_true rfl) (Nat.le_of_ble_eq_true rfl) (Nat.le_of_ble_eq_true rfl) (Nat.le_of_ble_eq_true rfl) (fun n' hn' => ⟨hn', rfl⟩)
    · skip
      have c2 : 0 ≠ 0 := by
        have z : ¬ (0 = 0) := fun zz => c2 ((nI_eq (a := 0) (b := 0) (by omega) (by omega)).mpr zz)
        omega
      exact absurd c2 (by decide)
  · skip
    have c1 : (gHas γ (nI (γ.2.1)) (co)) = true := bI_1 c1
    refine x_aload_n F 0 dG_note_12 rfl rfl ?_
    refine x_aload_n F 0 dG_note_13 rfl rfl ?_
    refine x_get (ci := 5) F 6 (x_in inG) rfl (by decide) (x_m kfG_46) dG_note_14 h0 rfl ?_
    refine x_lload F 3 dG_note_17 rfl ?_
    refine yV (n := 2) (As := [.int (nI (γ.2.1)), .long (oo)]) (ci := 5) F kmG_119 kiG_hasCode ksG_hasCode knG kcG_hasCode (by decide +kernel) dG_note_19 (cG_hasC l (nx) M g γ hG (nI (γ.2.1)) (oo)) rfl h0 rfl rfl (Nat.le_of_ble_eq_true rfl) ⟨Nat.le_of_ble_eq_true rfl, Nat.le_of_ble_eq_true rfl⟩ ⟨Nat.le_of_ble_eq_true rfl, Nat.le_of_ble_eq_true rfl⟩ ?_
    refine x_if_eq F (tgt := 29) dG_note_22 (by decide) (fun c3 => ?_) (fun c3 => ?_)
    · skip
      have c3 : (gHas γ (nI (γ.2.1)) (oo)) = false := bI_0 c3
      refine x_iconst F (v := nI (0)) dG_note_29 (by decide) ?_
      refine x_istore F [(6, .int (nI (0))), (0, .ref (g)), (1, .long (co)), (3, .int (kd)), (4, .long (oo))] dG_note_30 (by decide) rfl ?_
      refine x_iload F 0 dG_note_32 rfl ?_
      refine x_if_eq F (tgt := 53) dG_note_34 (by decide) (fun c4 => ?_) (fun c4 => ?_)
      · skip
        have c4 : 0 = 0 := by
          exact (nI_eq (a := 0) (b := 0) (by omega) (by omega)).mp c4
        exact yT (tx := "no such codes or kind for a note") F hfl hex x_ok3 klG_123 kqJA knJA kcG_note (by decide) (by decide) dG_note_53 dG_note_56 dG_note_57 dG_note_59 dG_note_62 (Nat.le_of_ble_eq_true rfl) (Nat.le_of_ble_eq_true rfl) (Nat.le_of_ble_eq_true rfl) (Nat.le_of_ble_eq_true rfl) (Nat.le_of_ble_eq_true rfl) (Nat.le_of_ble_eq_true rfl) (fun n' hn' => ⟨hn', rfl⟩)
      · skip
        have c4 : 0 ≠ 0 := by
          have z : ¬ (0 = 0) := fun zz => c4 ((nI_eq (a := 0) (b := 0) (by omega) (by omega)).mpr zz)
          omega
        exact absurd c4 (by decide)
    · skip
      have c3 : (gHas γ (nI (γ.2.1)) (oo)) = true := bI_1 c3
      refine x_iconst F (v := nI (1)) dG_note_25 (by decide) ?_
      refine x_goto F (tgt := 30) dG_note_26 (by decide) ?_
      refine x_istore F [(6, .int (nI (1))), (0, .ref (g)), (1, .long (co)), (3, .int (kd)), (4, .long (oo))] dG_note_30 (by decide) rfl ?_
      refine x_iload F 0 dG_note_32 rfl ?_
      refine x_if_eq F (tgt := 53) dG_note_34 (by decide) (fun c5 => ?_) (fun c5 => ?_)
      · skip
        have c5 : 1 = 0 := by
          exact (nI_eq (a := 1) (b := 0) (by omega) (by omega)).mp c5
        exact absurd c5 (by decide)
      · skip
        have c5 : 1 ≠ 0 := by
          have z : ¬ (1 = 0) := fun zz => c5 ((nI_eq (a := 1) (b := 0) (by omega) (by omega)).mpr zz)
          omega
        refine x_lload_n F 2 dG_note_37 rfl rfl ?_
        refine x_lload F 4 dG_note_38 rfl ?_
        refine x_lcmp F dG_note_40 ?_
        refine x_if_eq F (tgt := 53) dG_note_41 (by decide) (fun c6 => ?_) (fun c6 => ?_)
        · skip
          have c6 : co = oo := (lg_cmp_eq (co) (oo)).mp c6
          exact yT (tx := "no such codes or kind for a note") F hfl hex x_ok3 klG_123 kqJA knJA kcG_note (by decide) (by decide) dG_note_53 dG_note_56 dG_note_57 dG_note_59 dG_note_62 (Nat.le_of_ble_eq_true rfl) (Nat.le_of_ble_eq_true rfl) (Nat.le_of_ble_eq_true rfl) (Nat.le_of_ble_eq_true rfl) (Nat.le_of_ble_eq_true rfl) (Nat.le_of_ble_eq_true rfl) (fun n' hn' => ⟨hn', rfl⟩)
        · skip
          have c6 : ¬ co = oo := fun z => c6 ((lg_cmp_eq (co) (oo)).mpr z)
          refine x_iload_n F 3 dG_note_44 rfl rfl ?_
          refine x_if_eq F (tgt := 63) dG_note_45 (by decide) (fun c7 => ?_) (fun c7 => ?_)
          · skip
            first | exact absurd c7 (by decide) | (simp [ntA, c1, c3, c6, c7] at hA)
          · skip
            refine x_iload_n F 3 dG_note_48 rfl rfl ?_
            refine x_iconst F (v := nI (1)) dG_note_49 (by decide) ?_
            refine x_icmp_eq F (tgt := 63) dG_note_50 (by decide) (fun c8 => ?_) (fun c8 => ?_)
            · skip
              first | exact absurd c8 (by decide) | (simp [ntA, c1, c3, c6, c7, c8] at hA)
            · skip
              exact yT (tx := "no such codes or kind for a note") F hfl hex x_ok3 klG_123 kqJA knJA kcG_note (by decide) (by decide) dG_note_53 dG_note_56 dG_note_57 dG_note_59 dG_note_62 (Nat.le_of_ble_eq_true rfl) (Nat.le_of_ble_eq_true rfl) (Nat.le_of_ble_eq_true rfl) (Nat.le_of_ble_eq_true rfl) (Nat.le_of_ble_eq_true rfl) (Nat.le_of_ble_eq_true rfl) (fun n' hn' => ⟨hn', rfl⟩)
set_option maxHeartbeats 4000000 in
set_option maxRecDepth 100000 in
theorem cG_noteS (l : Launch) (hfl : x_fl l) (nx : Nat) (M : xH) (g : Nat) (γ : gS) (hG : gIs M g γ) (co : Int64) (kd : Int32) (oo : Int64) (hA : ntA γ co kd oo = false) (hS : ntS γ co kd oo = true) : xT_ l xcl yG_note (xw (Cond.code yG_note bG_note 7 (some .int))) ({ frames := 6, cells := 1, slots := 6, locals := 90 } : Room) [.ref (g), .long (co), .int (kd), .long (oo)] nx M "java/lang/IllegalStateException" (kPost nx M) := by
  obtain ⟨⟨fT, h0, h4, hfT, hpr, hπ, hπi⟩, hRd, hTr, hNo, hLi, hFi⟩ := id hG
  have hpp := hπ γ.2.1 (by omega)
  refine yCT (by decide) (Nat.le_of_ble_eq_true rfl) ?_
  intro p e s m args below meth c D F hr hex
  refine x_aload_n F 0 dG_note_0 rfl rfl ?_
  refine x_aload_n F 0 dG_note_1 rfl rfl ?_
  refine x_get (ci := 5) F 6 (x_in inG) rfl (by decide) (x_m kfG_46) dG_note_2 h0 rfl ?_
  refine x_lload_n F 1 dG_note_5 rfl rfl ?_
  refine yV (n := 2) (As := [.int (nI (γ.2.1)), .long (co)]) (ci := 5) F kmG_119 kiG_hasCode ksG_hasCode knG kcG_hasCode (by decide +kernel) dG_note_6 (cG_hasC l (nx) M g γ hG (nI (γ.2.1)) (co)) rfl h0 rfl rfl (Nat.le_of_ble_eq_true rfl) ⟨Nat.le_of_ble_eq_true rfl, Nat.le_of_ble_eq_true rfl⟩ ⟨Nat.le_of_ble_eq_true rfl, Nat.le_of_ble_eq_true rfl⟩ ?_
  refine x_if_eq F (tgt := 29) dG_note_9 (by decide) (fun c1 => ?_) (fun c1 => ?_)
  · skip
    have c1 : (gHas γ (nI (γ.2.1)) (co)) = false := bI_0 c1
    refine x_iconst F (v := nI (0)) dG_note_29 (by decide) ?_
    refine x_istore F [(6, .int (nI (0))), (0, .ref (g)), (1, .long (co)), (3, .int (kd)), (4, .long (oo))] dG_note_30 (by decide) rfl ?_
    refine x_iload F 0 dG_note_32 rfl ?_
    refine x_if_eq F (tgt := 53) dG_note_34 (by decide) (fun c2 => ?_) (fun c2 => ?_)
    · skip
      have c2 : 0 = 0 := by
        exact (nI_eq (a := 0) (b := 0) (by omega) (by omega)).mp c2
      first | exact absurd c2 (by decide) | (simp [ntA, c1] at hA)
    · skip
      have c2 : 0 ≠ 0 := by
        have z : ¬ (0 = 0) := fun zz => c2 ((nI_eq (a := 0) (b := 0) (by omega) (by omega)).mpr zz)
        omega
      exact absurd c2 (by decide)
  · skip
    have c1 : (gHas γ (nI (γ.2.1)) (co)) = true := bI_1 c1
    refine x_aload_n F 0 dG_note_12 rfl rfl ?_
    refine x_aload_n F 0 dG_note_13 rfl rfl ?_
    refine x_get (ci := 5) F 6 (x_in inG) rfl (by decide) (x_m kfG_46) dG_note_14 h0 rfl ?_
    refine x_lload F 3 dG_note_17 rfl ?_
    refine yV (n := 2) (As := [.int (nI (γ.2.1)), .long (oo)]) (ci := 5) F kmG_119 kiG_hasCode ksG_hasCode knG kcG_hasCode (by decide +kernel) dG_note_19 (cG_hasC l (nx) M g γ hG (nI (γ.2.1)) (oo)) rfl h0 rfl rfl (Nat.le_of_ble_eq_true rfl) ⟨Nat.le_of_ble_eq_true rfl, Nat.le_of_ble_eq_true rfl⟩ ⟨Nat.le_of_ble_eq_true rfl, Nat.le_of_ble_eq_true rfl⟩ ?_
    refine x_if_eq F (tgt := 29) dG_note_22 (by decide) (fun c3 => ?_) (fun c3 => ?_)
    · skip
      have c3 : (gHas γ (nI (γ.2.1)) (oo)) = false := bI_0 c3
      refine x_iconst F (v := nI (0)) dG_note_29 (by decide) ?_
      refine x_istore F [(6, .int (nI (0))), (0, .ref (g)), (1, .long (co)), (3, .int (kd)), (4, .long (oo))] dG_note_30 (by decide) rfl ?_
      refine x_iload F 0 dG_note_32 rfl ?_
      refine x_if_eq F (tgt := 53) dG_note_34 (by decide) (fun c4 => ?_) (fun c4 => ?_)
      · skip
        have c4 : 0 = 0 := by
          exact (nI_eq (a := 0) (b := 0) (by omega) (by omega)).mp c4
        first | exact absurd c4 (by decide) | (simp [ntA, c1, c3] at hA)
      · skip
        have c4 : 0 ≠ 0 := by
          have z : ¬ (0 = 0) := fun zz => c4 ((nI_eq (a := 0) (b := 0) (by omega) (by omega)).mpr zz)
          omega
        exact absurd c4 (by decide)
    · skip
      have c3 : (gHas γ (nI (γ.2.1)) (oo)) = true := bI_1 c3
      refine x_iconst F (v := nI (1)) dG_note_25 (by decide) ?_
      refine x_goto F (tgt := 30) dG_note_26 (by decide) ?_
      refine x_istore F [(6, .int (nI (1))), (0, .ref (g)), (1, .long (co)), (3, .int (kd)), (4, .long (oo))] dG_note_30 (by decide) rfl ?_
      refine x_iload F 0 dG_note_32 rfl ?_
      refine x_if_eq F (tgt := 53) dG_note_34 (by decide) (fun c5 => ?_) (fun c5 => ?_)
      · skip
        have c5 : 1 = 0 := by
          exact (nI_eq (a := 1) (b := 0) (by omega) (by omega)).mp c5
        first | exact absurd c5 (by decide) | (simp [ntA, c1, c3] at hA)
      · skip
        have c5 : 1 ≠ 0 := by
          have z : ¬ (1 = 0) := fun zz => c5 ((nI_eq (a := 1) (b := 0) (by omega) (by omega)).mpr zz)
          omega
        refine x_lload_n F 2 dG_note_37 rfl rfl ?_
        refine x_lload F 4 dG_note_38 rfl ?_
        refine x_lcmp F dG_note_40 ?_
        refine x_if_eq F (tgt := 53) dG_note_41 (by decide) (fun c6 => ?_) (fun c6 => ?_)
        · skip
          have c6 : co = oo := (lg_cmp_eq (co) (oo)).mp c6
          first | exact absurd c6 (by decide) | (simp [ntA, c1, c3, c6] at hA)
        · skip
          have c6 : ¬ co = oo := fun z => c6 ((lg_cmp_eq (co) (oo)).mpr z)
          refine x_iload_n F 3 dG_note_44 rfl rfl ?_
          refine x_if_eq F (tgt := 63) dG_note_45 (by decide) (fun c7 => ?_) (fun c7 => ?_)
          · skip
            refine x_aload_n F 1 dG_note_63 rfl rfl ?_
            refine x_get (ci := 5) F 2 (x_in inG) rfl (by decide) (x_m kfG_27) dG_note_64 h0 rfl ?_
            refine yV (n := 0) (As := []) (ci := 2) F kmG_128 kiP_isFull ksP_isFull knP kcP_isFull (by decide +kernel) dG_note_67 (cP_isFull l (nx) M (g + 5) 20 (γ.2.2.2.2.1).1 (γ.2.2.2.2.1).2.1 (γ.2.2.2.2.1).2.2.1 (γ.2.2.2.2.1).2.2.2.1 (γ.2.2.2.2.1).2.2.2.2 hNo ) rfl hNo.1 rfl rfl (Nat.le_of_ble_eq_true rfl) ⟨Nat.le_of_ble_eq_true rfl, Nat.le_of_ble_eq_true rfl⟩ ⟨Nat.le_of_ble_eq_true rfl, Nat.le_of_ble_eq_true rfl⟩ ?_
            refine x_if_ne F (tgt := 91) dG_note_70 (by decide) (fun c8 => ?_) (fun c8 => ?_)
            · skip
              have c8 : (decide (20 ≤ (γ.2.2.2.2.1).2.2.2.2)) = true := bI_1 c8
              exact yT (tx := "no room for the note, or it is there") F hfl hex x_ok1 klG_62 kqJS knJS kcG_note (by decide) (by decide) dG_note_91 dG_note_94 dG_note_95 dG_note_97 dG_note_100 (Nat.le_of_ble_eq_true rfl) (Nat.le_of_ble_eq_true rfl) (Nat.le_of_ble_eq_true rfl) (Nat.le_of_ble_eq_true rfl) (Nat.le_of_ble_eq_true rfl) (Nat.le_of_ble_eq_true rfl) (fun n' hn' => ⟨hn', rfl⟩)
            · skip
              have c8 : (decide (20 ≤ (γ.2.2.2.2.1).2.2.2.2)) = false := bI_0 c8
              refine x_aload_n F 1 dG_note_73 rfl rfl ?_
              refine x_get (ci := 5) F 2 (x_in inG) rfl (by decide) (x_m kfG_27) dG_note_74 h0 rfl ?_
              refine x_aload_n F 1 dG_note_77 rfl rfl ?_
              refine x_get (ci := 5) F 6 (x_in inG) rfl (by decide) (x_m kfG_46) dG_note_78 h0 rfl ?_
              refine x_lload_n F 2 dG_note_81 rfl rfl ?_
              refine x_iload_n F 3 dG_note_82 rfl rfl ?_
              refine x_lload F 4 dG_note_83 rfl ?_
              refine yV (n := 4) (As := [.int (nI (γ.2.1)), .long (co), .int (kd), .long (oo)]) (ci := 2) F kmG_132 kiP_holds ksP_holds knP kcP_holds (by decide +kernel) dG_note_85 (cP_holds l (nx) M (g + 5) 20 (γ.2.2.2.2.1).1 (γ.2.2.2.2.1).2.1 (γ.2.2.2.2.1).2.2.1 (γ.2.2.2.2.1).2.2.2.1 (γ.2.2.2.2.1).2.2.2.2 hNo (nI (γ.2.1)) (co) (kd) (oo)) rfl hNo.1 rfl rfl (Nat.le_of_ble_eq_true rfl) ⟨Nat.le_of_ble_eq_true rfl, Nat.le_of_ble_eq_true rfl⟩ ⟨Nat.le_of_ble_eq_true rfl, Nat.le_of_ble_eq_true rfl⟩ ?_
              refine x_if_eq F (tgt := 101) dG_note_88 (by decide) (fun c9 => ?_) (fun c9 => ?_)
              · skip
                have c9 : (pHas (γ.2.2.2.2.1) (nI (γ.2.1)) (co) (kd) (oo)) = false := bI_0 c9
                simp [ntS, c8, c9] at hS
              · skip
                have c9 : (pHas (γ.2.2.2.2.1) (nI (γ.2.1)) (co) (kd) (oo)) = true := bI_1 c9
                exact yT (tx := "no room for the note, or it is there") F hfl hex x_ok1 klG_62 kqJS knJS kcG_note (by decide) (by decide) dG_note_91 dG_note_94 dG_note_95 dG_note_97 dG_note_100 (Nat.le_of_ble_eq_true rfl) (Nat.le_of_ble_eq_true rfl) (Nat.le_of_ble_eq_true rfl) (Nat.le_of_ble_eq_true rfl) (Nat.le_of_ble_eq_true rfl) (Nat.le_of_ble_eq_true rfl) (fun n' hn' => ⟨hn', rfl⟩)
          · skip
            refine x_iload_n F 3 dG_note_48 rfl rfl ?_
            refine x_iconst F (v := nI (1)) dG_note_49 (by decide) ?_
            refine x_icmp_eq F (tgt := 63) dG_note_50 (by decide) (fun c10 => ?_) (fun c10 => ?_)
            · skip
              refine x_aload_n F 1 dG_note_63 rfl rfl ?_
              refine x_get (ci := 5) F 2 (x_in inG) rfl (by decide) (x_m kfG_27) dG_note_64 h0 rfl ?_
              refine yV (n := 0) (As := []) (ci := 2) F kmG_128 kiP_isFull ksP_isFull knP kcP_isFull (by decide +kernel) dG_note_67 (cP_isFull l (nx) M (g + 5) 20 (γ.2.2.2.2.1).1 (γ.2.2.2.2.1).2.1 (γ.2.2.2.2.1).2.2.1 (γ.2.2.2.2.1).2.2.2.1 (γ.2.2.2.2.1).2.2.2.2 hNo ) rfl hNo.1 rfl rfl (Nat.le_of_ble_eq_true rfl) ⟨Nat.le_of_ble_eq_true rfl, Nat.le_of_ble_eq_true rfl⟩ ⟨Nat.le_of_ble_eq_true rfl, Nat.le_of_ble_eq_true rfl⟩ ?_
              refine x_if_ne F (tgt := 91) dG_note_70 (by decide) (fun c11 => ?_) (fun c11 => ?_)
              · skip
                have c11 : (decide (20 ≤ (γ.2.2.2.2.1).2.2.2.2)) = true := bI_1 c11
                exact yT (tx := "no room for the note, or it is there") F hfl hex x_ok1 klG_62 kqJS knJS kcG_note (by decide) (by decide) dG_note_91 dG_note_94 dG_note_95 dG_note_97 dG_note_100 (Nat.le_of_ble_eq_true rfl) (Nat.le_of_ble_eq_true rfl) (Nat.le_of_ble_eq_true rfl) (Nat.le_of_ble_eq_true rfl) (Nat.le_of_ble_eq_true rfl) (Nat.le_of_ble_eq_true rfl) (fun n' hn' => ⟨hn', rfl⟩)
              · skip
                have c11 : (decide (20 ≤ (γ.2.2.2.2.1).2.2.2.2)) = false := bI_0 c11
                refine x_aload_n F 1 dG_note_73 rfl rfl ?_
                refine x_get (ci := 5) F 2 (x_in inG) rfl (by decide) (x_m kfG_27) dG_note_74 h0 rfl ?_
                refine x_aload_n F 1 dG_note_77 rfl rfl ?_
                refine x_get (ci := 5) F 6 (x_in inG) rfl (by decide) (x_m kfG_46) dG_note_78 h0 rfl ?_
                refine x_lload_n F 2 dG_note_81 rfl rfl ?_
                refine x_iload_n F 3 dG_note_82 rfl rfl ?_
                refine x_lload F 4 dG_note_83 rfl ?_
                refine yV (n := 4) (As := [.int (nI (γ.2.1)), .long (co), .int (kd), .long (oo)]) (ci := 2) F kmG_132 kiP_holds ksP_holds knP kcP_holds (by decide +kernel) dG_note_85 (cP_holds l (nx) M (g + 5) 20 (γ.2.2.2.2.1).1 (γ.2.2.2.2.1).2.1 (γ.2.2.2.2.1).2.2.1 (γ.2.2.2.2.1).2.2.2.1 (γ.2.2.2.2.1).2.2.2.2 hNo (nI (γ.2.1)) (co) (kd) (oo)) rfl hNo.1 rfl rfl (Nat.le_of_ble_eq_true rfl) ⟨Nat.le_of_ble_eq_true rfl, Nat.le_of_ble_eq_true rfl⟩ ⟨Nat.le_of_ble_eq_true rfl, Nat.le_of_ble_eq_true rfl⟩ ?_
                refine x_if_eq F (tgt := 101) dG_note_88 (by decide) (fun c12 => ?_) (fun c12 => ?_)
                · skip
                  have c12 : (pHas (γ.2.2.2.2.1) (nI (γ.2.1)) (co) (kd) (oo)) = false := bI_0 c12
                  simp [ntS, c11, c12] at hS
                · skip
                  have c12 : (pHas (γ.2.2.2.2.1) (nI (γ.2.1)) (co) (kd) (oo)) = true := bI_1 c12
                  exact yT (tx := "no room for the note, or it is there") F hfl hex x_ok1 klG_62 kqJS knJS kcG_note (by decide) (by decide) dG_note_91 dG_note_94 dG_note_95 dG_note_97 dG_note_100 (Nat.le_of_ble_eq_true rfl) (Nat.le_of_ble_eq_true rfl) (Nat.le_of_ble_eq_true rfl) (Nat.le_of_ble_eq_true rfl) (Nat.le_of_ble_eq_true rfl) (Nat.le_of_ble_eq_true rfl) (fun n' hn' => ⟨hn', rfl⟩)
            · skip
              first | exact absurd c10 (by decide) | (simp [ntA, c1, c3, c6, c7, c10] at hA)
set_option maxHeartbeats 4000000 in
set_option maxRecDepth 100000 in
theorem cG_noted (l : Launch) (nx : Nat) (M : xH) (g : Nat) (γ : gS) (hG : gIs M g γ) (co : Int64) (ii : Int32) (hok : gHas γ (nI γ.2.1) co = true) : xC l xcl yG_noted (xw (Cond.code yG_noted bG_noted 5 (some .int))) ({ frames := 3, cells := 0, slots := 0, locals := 73 } : Room) [.ref (g), .long (co), .int (ii)] nx M (x_is (some (.int (ndd γ co ii))) nx M) := by
  obtain ⟨⟨fT, h0, h4, hfT, hpr, hπ, hπi⟩, hRd, hTr, hNo, hLi, hFi⟩ := id hG
  have hpp := hπ γ.2.1 (by omega)
  refine yC (by decide) (Nat.le_of_ble_eq_true rfl) ?_
  intro p e s m args below meth c D F hr hn
  refine x_aload_n F 0 dG_noted_0 rfl rfl ?_
  refine x_aload_n F 0 dG_noted_1 rfl rfl ?_
  refine x_get (ci := 5) F 6 (x_in inG) rfl (by decide) (x_m kfG_46) dG_noted_2 h0 rfl ?_
  refine x_lload_n F 1 dG_noted_5 rfl rfl ?_
  refine yV (n := 2) (As := [.int (nI (γ.2.1)), .long (co)]) (ci := 5) F kmG_119 kiG_hasCode ksG_hasCode knG kcG_hasCode (by decide +kernel) dG_noted_6 (cG_hasC l (nx) M g γ hG (nI (γ.2.1)) (co)) rfl h0 rfl rfl (Nat.le_of_ble_eq_true rfl) ⟨Nat.le_of_ble_eq_true rfl, Nat.le_of_ble_eq_true rfl⟩ ⟨Nat.le_of_ble_eq_true rfl, Nat.le_of_ble_eq_true rfl⟩ ?_
  refine x_if_ne F (tgt := 22) dG_noted_9 (by decide) (fun c1 => ?_) (fun c1 => ?_)
  · skip
    have c1 : (gHas γ (nI (γ.2.1)) (co)) = true := bI_1 c1
    refine x_aload_n F 0 dG_noted_22 rfl rfl ?_
    refine x_get (ci := 5) F 2 (x_in inG) rfl (by decide) (x_m kfG_27) dG_noted_23 h0 rfl ?_
    refine x_aload_n F 0 dG_noted_26 rfl rfl ?_
    refine x_get (ci := 5) F 6 (x_in inG) rfl (by decide) (x_m kfG_46) dG_noted_27 h0 rfl ?_
    refine x_lload_n F 1 dG_noted_30 rfl rfl ?_
    refine x_iconst F (v := (-1)) dG_noted_31 (by decide) ?_
    refine x_iload_n F 2 dG_noted_32 rfl rfl ?_
    refine yV (n := 4) (As := [.int (nI (γ.2.1)), .long (co), .int ((-1)), .int (ii)]) (ci := 2) F kmG_147 kiP_nth ksP_nth knP kcP_nth (by decide +kernel) dG_noted_33 (cP_nth l (nx) M (g + 5) 20 (γ.2.2.2.2.1).1 (γ.2.2.2.2.1).2.1 (γ.2.2.2.2.1).2.2.1 (γ.2.2.2.2.1).2.2.2.1 (γ.2.2.2.2.1).2.2.2.2 hNo (nI (γ.2.1)) (co) ((-1)) (ii)) rfl hNo.1 rfl rfl (Nat.le_of_ble_eq_true rfl) ⟨Nat.le_of_ble_eq_true rfl, Nat.le_of_ble_eq_true rfl⟩ ⟨Nat.le_of_ble_eq_true rfl, Nat.le_of_ble_eq_true rfl⟩ ?_
    rcases o_cases (nt (pMt (γ.2.2.2.2.1).1 (γ.2.2.2.2.1).2.1 (γ.2.2.2.2.1).2.2.1 (nI (γ.2.1)) (co) ((-1))) (ii) (γ.2.2.2.2.1).2.2.2.2 0 0) with hnt | ⟨j, hnt⟩
    · skip
      refine xW.ste (st' := [.int ((-1))]) (by show ([.int (oi (nt (pMt (γ.2.2.2.2.1).1 (γ.2.2.2.2.1).2.1 (γ.2.2.2.2.1).2.2.1 (nI (γ.2.1)) (co) ((-1))) (ii) (γ.2.2.2.2.1).2.2.2.2 0 0))] : List Value) = _; rw [hnt]; rfl) ?_
      refine x_istore F [(4, .int ((-1))), (0, .ref (g)), (1, .long (co)), (3, .int (ii))] dG_noted_36 (by decide) rfl ?_
      refine x_iload F 0 dG_noted_38 rfl ?_
      refine x_iconst F (v := (-1)) dG_noted_40 (by decide) ?_
      refine x_icmp_ne F (tgt := 46) dG_noted_41 (by decide) (fun c2 => ?_) (fun c2 => ?_)
      · skip
        exact absurd rfl c2
      · skip
        refine x_iconst F (v := (-1)) dG_noted_44 (by decide) ?_
        exact x_iret F hr dG_noted_45 (x_e (by rw [ndd, hnt]))
    · skip
      have hj := nt_lt hnt
      have hj2 := hNo.2.2.2.2.2.1
      refine xW.ste (st' := [.int (nI (j))]) (by show ([.int (oi (nt (pMt (γ.2.2.2.2.1).1 (γ.2.2.2.2.1).2.1 (γ.2.2.2.2.1).2.2.1 (nI (γ.2.1)) (co) ((-1))) (ii) (γ.2.2.2.2.1).2.2.2.2 0 0))] : List Value) = _; rw [hnt]; rfl) ?_
      refine x_istore F [(4, .int (nI (j))), (0, .ref (g)), (1, .long (co)), (3, .int (ii))] dG_noted_36 (by decide) rfl ?_
      refine x_iload F 0 dG_noted_38 rfl ?_
      refine x_iconst F (v := (-1)) dG_noted_40 (by decide) ?_
      refine x_icmp_ne F (tgt := 46) dG_noted_41 (by decide) (fun c3 => ?_) (fun c3 => ?_)
      · skip
        refine x_iconst F (v := nI (2)) dG_noted_46 (by decide) ?_
        refine x_aload_n F 1 dG_noted_47 rfl rfl ?_
        refine x_get (ci := 5) F 1 (x_in inG) rfl (by decide) (x_m kfG_18) dG_noted_48 h0 rfl ?_
        refine x_aload_n F 1 dG_noted_51 rfl rfl ?_
        refine x_get (ci := 5) F 6 (x_in inG) rfl (by decide) (x_m kfG_46) dG_noted_52 h0 rfl ?_
        refine x_aald F dG_noted_55 h4 (pk_in (γ.2.1) (3) (by omega)) ?_
        rw [nI_clamp (show γ.2.1 < 2 ^ 31 by omega), hfT _ (by omega)]
        show xW p l e ({ frames := 3, cells := 0, slots := 0, locals := 73 } : Room) s m args below meth c D xcl (x_A M nx) 5 (MQ below (x_Q D xcl (x_A M nx) (x_is (some (.int (ndd γ co ii))) nx M)) args s 0 0 (x_A M nx)) 0 0 (nx) M 56 [(4, .int (nI (j))), (0, .ref (g)), (1, .long (co)), (3, .int (ii))] [.ref (g + 18 + 7 * γ.1 γ.2.1), .int (nI (2))]
        refine x_aload_n F 1 dG_noted_56 rfl rfl ?_
        refine x_get (ci := 5) F 2 (x_in inG) rfl (by decide) (x_m kfG_27) dG_noted_57 h0 rfl ?_
        refine x_iload F 0 dG_noted_60 rfl ?_
        refine yV (n := 1) (As := [.int (nI (j))]) (ci := 2) F kmG_151 kiP_otherAt ksP_otherAt knP kcP_otherAt (by decide +kernel) dG_noted_62 (cP_otherAt l (nx) M (g + 5) 20 (γ.2.2.2.2.1).1 (γ.2.2.2.2.1).2.1 (γ.2.2.2.2.1).2.2.1 (γ.2.2.2.2.1).2.2.2.1 (γ.2.2.2.2.1).2.2.2.2 hNo j (by omega)) rfl hNo.1 rfl rfl (Nat.le_of_ble_eq_true rfl) ⟨Nat.le_of_ble_eq_true rfl, Nat.le_of_ble_eq_true rfl⟩ ⟨Nat.le_of_ble_eq_true rfl, Nat.le_of_ble_eq_true rfl⟩ ?_
        refine yV (n := 1) (As := [.long ((γ.2.2.2.2.1).2.2.2.1 (j))]) (ci := 4) F kmG_115 kiT_rowOf ksT_rowOf knT kcT_rowOf (by decide +kernel) dG_noted_65 (cT_rowOf l (nx) M (g + 18 + 7 * γ.1 γ.2.1) (γ.2.2.2.1 γ.2.1).1 (γ.2.2.2.1 γ.2.1).2.1 (γ.2.2.2.1 γ.2.1).2.2.1 (γ.2.2.2.1 γ.2.1).2.2.2.1 (γ.2.2.2.1 γ.2.1).2.2.2.2.1 (γ.2.2.2.1 γ.2.1).2.2.2.2.2.1 (γ.2.2.2.1 γ.2.1).2.2.2.2.2.2.1 (γ.2.2.2.1 γ.2.1).2.2.2.2.2.2.2 (hTr γ.2.1 (by omega)) ((γ.2.2.2.2.1).2.2.2.1 (j))) rfl (hTr γ.2.1 (by omega)).1 rfl rfl (Nat.le_of_ble_eq_true rfl) ⟨Nat.le_of_ble_eq_true rfl, Nat.le_of_ble_eq_true rfl⟩ ⟨Nat.le_of_ble_eq_true rfl, Nat.le_of_ble_eq_true rfl⟩ ?_
        refine x_imul F dG_noted_68 ?_
        refine x_aload_n F 1 dG_noted_69 rfl rfl ?_
        refine x_get (ci := 5) F 2 (x_in inG) rfl (by decide) (x_m kfG_27) dG_noted_70 h0 rfl ?_
        refine x_iload F 0 dG_noted_73 rfl ?_
        refine yV (n := 1) (As := [.int (nI (j))]) (ci := 2) F kmG_154 kiP_markAt ksP_markAt knP kcP_markAt (by decide +kernel) dG_noted_75 (cP_markAt l (nx) M (g + 5) 20 (γ.2.2.2.2.1).1 (γ.2.2.2.2.1).2.1 (γ.2.2.2.2.1).2.2.1 (γ.2.2.2.2.1).2.2.2.1 (γ.2.2.2.2.1).2.2.2.2 hNo j (by omega)) rfl hNo.1 rfl rfl (Nat.le_of_ble_eq_true rfl) ⟨Nat.le_of_ble_eq_true rfl, Nat.le_of_ble_eq_true rfl⟩ ⟨Nat.le_of_ble_eq_true rfl, Nat.le_of_ble_eq_true rfl⟩ ?_
        refine x_iadd F dG_noted_78 ?_
        exact x_iret F hr dG_noted_79 (x_e (by rw [ndd, hnt]; rfl))
      · skip
        exact absurd c3 (nI_m1 (by omega))
  · skip
    have c1 : (gHas γ (nI (γ.2.1)) (co)) = false := bI_0 c1
    rw [hok] at c1
    cases c1
set_option maxHeartbeats 4000000 in
set_option maxRecDepth 100000 in
theorem cG_notedT (l : Launch) (hfl : x_fl l) (nx : Nat) (M : xH) (g : Nat) (γ : gS) (hG : gIs M g γ) (co : Int64) (ii : Int32) (hok : gHas γ (nI γ.2.1) co = false) : xT_ l xcl yG_noted (xw (Cond.code yG_noted bG_noted 5 (some .int))) ({ frames := 6, cells := 1, slots := 6, locals := 90 } : Room) [.ref (g), .long (co), .int (ii)] nx M "java/lang/IllegalArgumentException" (kPost nx M) := by
  obtain ⟨⟨fT, h0, h4, hfT, hpr, hπ, hπi⟩, hRd, hTr, hNo, hLi, hFi⟩ := id hG
  have hpp := hπ γ.2.1 (by omega)
  refine yCT (by decide) (Nat.le_of_ble_eq_true rfl) ?_
  intro p e s m args below meth c D F hr hex
  refine x_aload_n F 0 dG_noted_0 rfl rfl ?_
  refine x_aload_n F 0 dG_noted_1 rfl rfl ?_
  refine x_get (ci := 5) F 6 (x_in inG) rfl (by decide) (x_m kfG_46) dG_noted_2 h0 rfl ?_
  refine x_lload_n F 1 dG_noted_5 rfl rfl ?_
  refine yV (n := 2) (As := [.int (nI (γ.2.1)), .long (co)]) (ci := 5) F kmG_119 kiG_hasCode ksG_hasCode knG kcG_hasCode (by decide +kernel) dG_noted_6 (cG_hasC l (nx) M g γ hG (nI (γ.2.1)) (co)) rfl h0 rfl rfl (Nat.le_of_ble_eq_true rfl) ⟨Nat.le_of_ble_eq_true rfl, Nat.le_of_ble_eq_true rfl⟩ ⟨Nat.le_of_ble_eq_true rfl, Nat.le_of_ble_eq_true rfl⟩ ?_
  refine x_if_ne F (tgt := 22) dG_noted_9 (by decide) (fun c1 => ?_) (fun c1 => ?_)
  · skip
    have c1 : (gHas γ (nI (γ.2.1)) (co)) = true := bI_1 c1
    rw [hok] at c1
    cases c1
  · skip
    have c1 : (gHas γ (nI (γ.2.1)) (co)) = false := bI_0 c1
    exact yT (tx := "no code of the present edition") F hfl hex x_ok3 klG_123 kqJA knJA kcG_noted (by decide) (by decide) dG_noted_12 dG_noted_15 dG_noted_16 dG_noted_18 dG_noted_21 (Nat.le_of_ble_eq_true rfl) (Nat.le_of_ble_eq_true rfl) (Nat.le_of_ble_eq_true rfl) (Nat.le_of_ble_eq_true rfl) (Nat.le_of_ble_eq_true rfl) (Nat.le_of_ble_eq_true rfl) (fun n' hn' => ⟨hn', rfl⟩)
set_option maxHeartbeats 4000000 in
set_option maxRecDepth 100000 in
theorem cG_linked (l : Launch) (nx : Nat) (M : xH) (g : Nat) (γ : gS) (hG : gIs M g γ) (aa : Int32) (co : Int64) (bb ii : Int32) (hE : edOk aa bb = true) (hC : gHas γ aa co = true) : xC l xcl yG_linked (xw (Cond.code yG_linked bG_linked 6 (some .long))) ({ frames := 3, cells := 0, slots := 0, locals := 73 } : Room) [.ref (g), .int (aa), .long (co), .int (bb), .int (ii)] nx M (x_is (some (.long (lkd γ aa co bb ii))) nx M) := by
  obtain ⟨⟨fT, h0, h4, hfT, hpr, hπ, hπi⟩, hRd, hTr, hNo, hLi, hFi⟩ := id hG
  have hpp := hπ γ.2.1 (by omega)
  refine yC (by decide) (Nat.le_of_ble_eq_true rfl) ?_
  intro p e s m args below meth c D F hr hn
  refine x_iload_n F 1 dG_linked_0 rfl rfl ?_
  refine x_iload F 3 dG_linked_1 rfl ?_
  refine ySv (n := 2) (As := [.int (aa), .int (bb)]) F kmG_157 ktG_checkEditions knG kcG_checkEditions (by decide +kernel) dG_linked_3 (cG_checkE l (nx) M (aa) (bb) hE) rfl rfl (Nat.le_of_ble_eq_true rfl) ⟨Nat.le_of_ble_eq_true rfl, Nat.le_of_ble_eq_true rfl⟩ ⟨Nat.le_of_ble_eq_true rfl, Nat.le_of_ble_eq_true rfl⟩ ?_
  refine x_aload_n F 0 dG_linked_6 rfl rfl ?_
  refine x_iload_n F 1 dG_linked_7 rfl rfl ?_
  refine x_lload_n F 2 dG_linked_8 rfl rfl ?_
  refine yVv (n := 2) (As := [.int (aa), .long (co)]) (ci := 5) F kmG_161 kiG_checkCode ksG_checkCode knG kcG_checkCode (by decide +kernel) dG_linked_9 (cG_checkC l (nx) M g γ hG (aa) (co) hC) rfl h0 rfl rfl (Nat.le_of_ble_eq_true rfl) ⟨Nat.le_of_ble_eq_true rfl, Nat.le_of_ble_eq_true rfl⟩ ⟨Nat.le_of_ble_eq_true rfl, Nat.le_of_ble_eq_true rfl⟩ ?_
  refine x_aload_n F 0 dG_linked_12 rfl rfl ?_
  refine x_get (ci := 5) F 3 (x_in inG) rfl (by decide) (x_m kfG_31) dG_linked_13 h0 rfl ?_
  refine x_aload_n F 0 dG_linked_16 rfl rfl ?_
  refine x_get (ci := 5) F 3 (x_in inG) rfl (by decide) (x_m kfG_31) dG_linked_17 h0 rfl ?_
  refine x_iload_n F 1 dG_linked_20 rfl rfl ?_
  refine x_lload_n F 2 dG_linked_21 rfl rfl ?_
  refine x_iload F 3 dG_linked_22 rfl ?_
  refine x_iload F 4 dG_linked_24 rfl ?_
  refine yV (n := 4) (As := [.int (aa), .long (co), .int (bb), .int (ii)]) (ci := 2) F kmG_147 kiP_nth ksP_nth knP kcP_nth (by decide +kernel) dG_linked_26 (cP_nth l (nx) M (g + 10) 60 (γ.2.2.2.2.2.1).1 (γ.2.2.2.2.2.1).2.1 (γ.2.2.2.2.2.1).2.2.1 (γ.2.2.2.2.2.1).2.2.2.1 (γ.2.2.2.2.2.1).2.2.2.2 hLi (aa) (co) (bb) (ii)) rfl hLi.1 rfl rfl (Nat.le_of_ble_eq_true rfl) ⟨Nat.le_of_ble_eq_true rfl, Nat.le_of_ble_eq_true rfl⟩ ⟨Nat.le_of_ble_eq_true rfl, Nat.le_of_ble_eq_true rfl⟩ ?_
  rcases o_cases (nt (pMt (γ.2.2.2.2.2.1).1 (γ.2.2.2.2.2.1).2.1 (γ.2.2.2.2.2.1).2.2.1 (aa) (co) (bb)) (ii) (γ.2.2.2.2.2.1).2.2.2.2 0 0) with hnt | ⟨j, hnt⟩
  · skip
    refine xW.ste (st' := [.int ((-1)), .ref (g + 10)]) (by show ([.int (oi (nt (pMt (γ.2.2.2.2.2.1).1 (γ.2.2.2.2.2.1).2.1 (γ.2.2.2.2.2.1).2.2.1 (aa) (co) (bb)) (ii) (γ.2.2.2.2.2.1).2.2.2.2 0 0)), .ref (g + 10)] : List Value) = _; rw [hnt]; rfl) ?_
    refine yV (n := 1) (As := [.int ((-1))]) (ci := 2) F kmG_151 kiP_otherAt ksP_otherAt knP kcP_otherAt (by decide +kernel) dG_linked_29 (cP_otherAtN l (nx) M (g + 10) 60 (γ.2.2.2.2.2.1).1 (γ.2.2.2.2.2.1).2.1 (γ.2.2.2.2.2.1).2.2.1 (γ.2.2.2.2.2.1).2.2.2.1 (γ.2.2.2.2.2.1).2.2.2.2 hLi (-1) (m1_out _)) rfl hLi.1 rfl rfl (Nat.le_of_ble_eq_true rfl) ⟨Nat.le_of_ble_eq_true rfl, Nat.le_of_ble_eq_true rfl⟩ ⟨Nat.le_of_ble_eq_true rfl, Nat.le_of_ble_eq_true rfl⟩ ?_
    exact x_lret F hr dG_linked_32 (x_el (by rw [lkd, hnt]))
  · skip
    have hj := nt_lt hnt
    have hj2 := hLi.2.2.2.2.2.1
    refine xW.ste (st' := [.int (nI (j)), .ref (g + 10)]) (by show ([.int (oi (nt (pMt (γ.2.2.2.2.2.1).1 (γ.2.2.2.2.2.1).2.1 (γ.2.2.2.2.2.1).2.2.1 (aa) (co) (bb)) (ii) (γ.2.2.2.2.2.1).2.2.2.2 0 0)), .ref (g + 10)] : List Value) = _; rw [hnt]; rfl) ?_
    refine yV (n := 1) (As := [.int (nI (j))]) (ci := 2) F kmG_151 kiP_otherAt ksP_otherAt knP kcP_otherAt (by decide +kernel) dG_linked_29 (cP_otherAt l (nx) M (g + 10) 60 (γ.2.2.2.2.2.1).1 (γ.2.2.2.2.2.1).2.1 (γ.2.2.2.2.2.1).2.2.1 (γ.2.2.2.2.2.1).2.2.2.1 (γ.2.2.2.2.2.1).2.2.2.2 hLi j (by omega)) rfl hLi.1 rfl rfl (Nat.le_of_ble_eq_true rfl) ⟨Nat.le_of_ble_eq_true rfl, Nat.le_of_ble_eq_true rfl⟩ ⟨Nat.le_of_ble_eq_true rfl, Nat.le_of_ble_eq_true rfl⟩ ?_
    exact x_lret F hr dG_linked_32 (x_el (by rw [lkd, hnt]))
set_option maxHeartbeats 4000000 in
set_option maxRecDepth 100000 in
theorem cG_linkedE (l : Launch) (hfl : x_fl l) (nx : Nat) (M : xH) (g : Nat) (γ : gS) (hG : gIs M g γ) (aa : Int32) (co : Int64) (bb ii : Int32) (hE : edOk aa bb = false) : xT_ l xcl yG_linked (xw (Cond.code yG_linked bG_linked 6 (some .long))) ({ frames := 7, cells := 1, slots := 6, locals := 111 } : Room) [.ref (g), .int (aa), .long (co), .int (bb), .int (ii)] nx M "java/lang/IllegalArgumentException" (kPost nx M) := by
  obtain ⟨⟨fT, h0, h4, hfT, hpr, hπ, hπi⟩, hRd, hTr, hNo, hLi, hFi⟩ := id hG
  have hpp := hπ γ.2.1 (by omega)
  refine yCT (by decide) (Nat.le_of_ble_eq_true rfl) ?_
  intro p e s m args below meth c D F hr hex
  refine x_iload_n F 1 dG_linked_0 rfl rfl ?_
  refine x_iload F 3 dG_linked_1 rfl ?_
  exact yST (n := 2) (As := [.int (aa), .int (bb)]) F rfl kmG_157 ktG_checkEditions knG kcG_checkEditions (by decide +kernel) dG_linked_3 (cG_checkET l hfl nx M (aa) (bb) hE) rfl rfl (Nat.le_of_ble_eq_true rfl) ⟨Nat.le_of_ble_eq_true rfl, Nat.le_of_ble_eq_true rfl⟩ ⟨Nat.le_of_ble_eq_true rfl, Nat.le_of_ble_eq_true rfl⟩ hex (Nat.le_of_ble_eq_true rfl) (Nat.le_of_ble_eq_true rfl) (fun _ _ z => z)
set_option maxHeartbeats 4000000 in
set_option maxRecDepth 100000 in
theorem cG_linkedC (l : Launch) (hfl : x_fl l) (nx : Nat) (M : xH) (g : Nat) (γ : gS) (hG : gIs M g γ) (aa : Int32) (co : Int64) (bb ii : Int32) (hE : edOk aa bb = true) (hC : gHas γ aa co = false) : xT_ l xcl yG_linked (xw (Cond.code yG_linked bG_linked 6 (some .long))) ({ frames := 7, cells := 1, slots := 6, locals := 113 } : Room) [.ref (g), .int (aa), .long (co), .int (bb), .int (ii)] nx M "java/lang/IllegalArgumentException" (kPost nx M) := by
  obtain ⟨⟨fT, h0, h4, hfT, hpr, hπ, hπi⟩, hRd, hTr, hNo, hLi, hFi⟩ := id hG
  have hpp := hπ γ.2.1 (by omega)
  refine yCT (by decide) (Nat.le_of_ble_eq_true rfl) ?_
  intro p e s m args below meth c D F hr hex
  refine x_iload_n F 1 dG_linked_0 rfl rfl ?_
  refine x_iload F 3 dG_linked_1 rfl ?_
  refine ySv (n := 2) (As := [.int (aa), .int (bb)]) F kmG_157 ktG_checkEditions knG kcG_checkEditions (by decide +kernel) dG_linked_3 (cG_checkE l (nx) M (aa) (bb) hE) rfl rfl (Nat.le_of_ble_eq_true rfl) ⟨Nat.le_of_ble_eq_true rfl, Nat.le_of_ble_eq_true rfl⟩ ⟨Nat.le_of_ble_eq_true rfl, Nat.le_of_ble_eq_true rfl⟩ ?_
  refine x_aload_n F 0 dG_linked_6 rfl rfl ?_
  refine x_iload_n F 1 dG_linked_7 rfl rfl ?_
  refine x_lload_n F 2 dG_linked_8 rfl rfl ?_
  exact yVT (n := 2) (As := [.int (aa), .long (co)]) (ci := 5) F kmG_161 kiG_checkCode ksG_checkCode knG kcG_checkCode (by decide +kernel) dG_linked_9 (cG_checkCT l hfl nx M g γ hG (aa) (co) hC) rfl h0 rfl rfl (Nat.le_of_ble_eq_true rfl) ⟨Nat.le_of_ble_eq_true rfl, Nat.le_of_ble_eq_true rfl⟩ ⟨Nat.le_of_ble_eq_true rfl, Nat.le_of_ble_eq_true rfl⟩ hex (Nat.le_of_ble_eq_true rfl) (Nat.le_of_ble_eq_true rfl) (fun _ _ z => z)
set_option maxHeartbeats 4000000 in
set_option maxRecDepth 100000 in
theorem cG_became (l : Launch) (nx : Nat) (M : xH) (g : Nat) (γ : gS) (hG : gIs M g γ) (aa : Int32) (co : Int64) (bb : Int32) (hE : edOk aa bb = true) (hC : gHas γ aa co = true) : xC l xcl yG_became (xw (Cond.code yG_became bG_became 8 (some .int))) ({ frames := 3, cells := 0, slots := 0, locals := 69 } : Room) [.ref (g), .int (aa), .long (co), .int (bb)] nx M (x_is (some (.int (nI (bcm γ aa co bb)))) nx M) := by
  obtain ⟨⟨fT, h0, h4, hfT, hpr, hπ, hπi⟩, hRd, hTr, hNo, hLi, hFi⟩ := id hG
  have hpp := hπ γ.2.1 (by omega)
  refine yC (by decide) (Nat.le_of_ble_eq_true rfl) ?_
  intro p e s m args below meth c D F hr hn
  have loop : ∀ (k : Nat) (i cq : Nat) (sh : Bool), i + k = γ.2.2.2.2.2.1.2.2.2.2 → cq ≤ i → bcl (bcP γ aa co bb) (bcQ γ aa bb) γ.2.2.2.2.2.1.2.2.2.2 0 0 false = bcl (bcP γ aa co bb) (bcQ γ aa bb) k i cq sh → xW p l e ({ frames := 3, cells := 0, slots := 0, locals := 69 } : Room) s m args below meth c D xcl (x_A M nx) 8 (MQ below (x_Q D xcl (x_A M nx) (x_is (some (.int (nI (bcm γ aa co bb)))) nx M)) args s 0 0 (x_A M nx)) 0 0 (nx) M 21 [(7, .int (nI (i))), (6, .int (bI sh)), (5, .int (nI (cq))), (0, .ref (g)), (1, .int (aa)), (2, .long (co)), (4, .int (bb))] [] := by
    intro k
    induction k with
    | zero =>
      intro i cq sh hi hc hf
      have hj2 := hLi.2.2.2.2.2.1
      refine x_iload F 0 dG_became_21 rfl ?_
      refine x_aload_n F 3 dG_became_23 rfl rfl ?_
      refine x_get (ci := 5) F 3 (x_in inG) rfl (by decide) (x_m kfG_31) dG_became_24 h0 rfl ?_
      refine yV (n := 0) (As := []) (ci := 2) F kmG_165 kiP_size ksP_size knP kcP_size (by decide +kernel) dG_became_27 (cP_size l (nx) M (g + 10) 60 (γ.2.2.2.2.2.1).1 (γ.2.2.2.2.2.1).2.1 (γ.2.2.2.2.2.1).2.2.1 (γ.2.2.2.2.2.1).2.2.2.1 (γ.2.2.2.2.2.1).2.2.2.2 hLi ) rfl hLi.1 rfl rfl (Nat.le_of_ble_eq_true rfl) ⟨Nat.le_of_ble_eq_true rfl, Nat.le_of_ble_eq_true rfl⟩ ⟨Nat.le_of_ble_eq_true rfl, Nat.le_of_ble_eq_true rfl⟩ ?_
      refine x_icmp_ge F (tgt := 93) dG_became_30 (by decide) (fun c1 => ?_) (fun c1 => ?_)
      · skip
        have c1 : (γ.2.2.2.2.2.1).2.2.2.2 ≤ i := by
          exact (nI_leI (a := (γ.2.2.2.2.2.1).2.2.2.2) (b := i) (by omega) (by omega)).mp c1
        refine x_iload F 2 dG_became_93 rfl ?_
        refine x_if_ne F (tgt := 100) dG_became_95 (by decide) (fun c2 => ?_) (fun c2 => ?_)
        · skip
          have c2 : cq ≠ 0 := by
            have z : ¬ (cq = 0) := fun zz => c2 ((nI_eq (a := cq) (b := 0) (by omega) (by omega)).mpr zz)
            omega
          refine x_iload F 2 dG_became_100 rfl ?_
          refine x_iconst F (v := nI (1)) dG_became_102 (by decide) ?_
          refine x_icmp_ne F (tgt := 117) dG_became_103 (by decide) (fun c3 => ?_) (fun c3 => ?_)
          · skip
            have c3 : cq ≠ 1 := by
              have z : ¬ (cq = 1) := fun zz => c3 ((nI_eq (a := cq) (b := 1) (by omega) (by omega)).mpr zz)
              omega
            refine x_iload F 1 dG_became_117 rfl ?_
            refine x_if_eq F (tgt := 126) dG_became_119 (by decide) (fun c4 => ?_) (fun c4 => ?_)
            · skip
              have c4 : (sh) = false := bI_0 c4
              refine x_iconst F (v := nI (2)) dG_became_126 (by decide) ?_
              exact x_iret F hr dG_became_127 (x_e (by rw [bcm, hf, bcl, bec, if_neg c2, if_neg c3, c4] <;> rfl))
            · skip
              have c4 : (sh) = true := bI_1 c4
              refine x_iconst F (v := nI (4)) dG_became_122 (by decide) ?_
              refine x_goto F (tgt := 127) dG_became_123 (by decide) ?_
              exact x_iret F hr dG_became_127 (x_e (by rw [bcm, hf, bcl, bec, if_neg c2, if_neg c3, c4] <;> rfl))
          · skip
            have c3 : cq = 1 := by
              exact (nI_eq (a := cq) (b := 1) (by omega) (by omega)).mp c3
            refine x_iload F 1 dG_became_106 rfl ?_
            refine x_if_eq F (tgt := 115) dG_became_108 (by decide) (fun c5 => ?_) (fun c5 => ?_)
            · skip
              have c5 : (sh) = false := bI_0 c5
              refine x_iconst F (v := nI (1)) dG_became_115 (by decide) ?_
              exact x_iret F hr dG_became_116 (x_e (by rw [bcm, hf, bcl, bec, if_neg c2, if_pos c3, c5] <;> rfl))
            · skip
              have c5 : (sh) = true := bI_1 c5
              refine x_iconst F (v := nI (3)) dG_became_111 (by decide) ?_
              refine x_goto F (tgt := 116) dG_became_112 (by decide) ?_
              exact x_iret F hr dG_became_116 (x_e (by rw [bcm, hf, bcl, bec, if_neg c2, if_pos c3, c5] <;> rfl))
        · skip
          have c2 : cq = 0 := by
            exact (nI_eq (a := cq) (b := 0) (by omega) (by omega)).mp c2
          refine x_iconst F (v := nI (0)) dG_became_98 (by decide) ?_
          exact x_iret F hr dG_became_99 (x_e (by rw [bcm, hf, bcl, bec, if_pos c2] <;> rfl))
      · skip
        have c1 : i < (γ.2.2.2.2.2.1).2.2.2.2 := by
          have z : ¬ ((γ.2.2.2.2.2.1).2.2.2.2 ≤ i) := fun zz => c1 ((nI_leI (a := (γ.2.2.2.2.2.1).2.2.2.2) (b := i) (by omega) (by omega)).mpr zz)
          omega
        exact absurd c1 (by omega)
    | succ k ih =>
      intro i cq sh hi hc hf
      have hj2 := hLi.2.2.2.2.2.1
      refine x_iload F 0 dG_became_21 rfl ?_
      refine x_aload_n F 3 dG_became_23 rfl rfl ?_
      refine x_get (ci := 5) F 3 (x_in inG) rfl (by decide) (x_m kfG_31) dG_became_24 h0 rfl ?_
      refine yV (n := 0) (As := []) (ci := 2) F kmG_165 kiP_size ksP_size knP kcP_size (by decide +kernel) dG_became_27 (cP_size l (nx) M (g + 10) 60 (γ.2.2.2.2.2.1).1 (γ.2.2.2.2.2.1).2.1 (γ.2.2.2.2.2.1).2.2.1 (γ.2.2.2.2.2.1).2.2.2.1 (γ.2.2.2.2.2.1).2.2.2.2 hLi ) rfl hLi.1 rfl rfl (Nat.le_of_ble_eq_true rfl) ⟨Nat.le_of_ble_eq_true rfl, Nat.le_of_ble_eq_true rfl⟩ ⟨Nat.le_of_ble_eq_true rfl, Nat.le_of_ble_eq_true rfl⟩ ?_
      refine x_icmp_ge F (tgt := 93) dG_became_30 (by decide) (fun c6 => ?_) (fun c6 => ?_)
      · skip
        have c6 : (γ.2.2.2.2.2.1).2.2.2.2 ≤ i := by
          exact (nI_leI (a := (γ.2.2.2.2.2.1).2.2.2.2) (b := i) (by omega) (by omega)).mp c6
        exact absurd c6 (by omega)
      · skip
        have c6 : i < (γ.2.2.2.2.2.1).2.2.2.2 := by
          have z : ¬ ((γ.2.2.2.2.2.1).2.2.2.2 ≤ i) := fun zz => c6 ((nI_leI (a := (γ.2.2.2.2.2.1).2.2.2.2) (b := i) (by omega) (by omega)).mpr zz)
          omega
        refine x_aload_n F 3 dG_became_33 rfl rfl ?_
        refine x_get (ci := 5) F 3 (x_in inG) rfl (by decide) (x_m kfG_31) dG_became_34 h0 rfl ?_
        refine x_iload F 0 dG_became_37 rfl ?_
        refine x_iload_n F 4 dG_became_39 rfl rfl ?_
        refine x_lload_n F 5 dG_became_40 rfl rfl ?_
        refine x_iload F 6 dG_became_41 rfl ?_
        refine yV (n := 4) (As := [.int (nI (i)), .int (aa), .long (co), .int (bb)]) (ci := 2) F kmG_166 kiP_matches ksP_matches knP kcP_matches (by decide +kernel) dG_became_43 (cP_matches l (nx) M (g + 10) 60 (γ.2.2.2.2.2.1).1 (γ.2.2.2.2.2.1).2.1 (γ.2.2.2.2.2.1).2.2.1 (γ.2.2.2.2.2.1).2.2.2.1 (γ.2.2.2.2.2.1).2.2.2.2 hLi i (by omega) aa co bb) rfl hLi.1 rfl rfl (Nat.le_of_ble_eq_true rfl) ⟨Nat.le_of_ble_eq_true rfl, Nat.le_of_ble_eq_true rfl⟩ ⟨Nat.le_of_ble_eq_true rfl, Nat.le_of_ble_eq_true rfl⟩ ?_
        refine x_if_eq F (tgt := 87) dG_became_46 (by decide) (fun c7 => ?_) (fun c7 => ?_)
        · skip
          have c7 : (bcP γ aa co bb i) = false := bI_0 c7
          refine x_iinc F 0 [(7, .int (nI (i + 1))), (6, .int (bI sh)), (5, .int (nI (cq))), (0, .ref (g)), (1, .int (aa)), (2, .long (co)), (4, .int (bb))] dG_became_87 rfl (nI_add (i) 1) (by decide) rfl ?_
          refine x_goto F (tgt := 21) dG_became_90 (by decide) ?_
          exact ih (i + 1) cq sh (by omega) (by omega) (by rw [hf, bcl_s, if_neg (by rw [c7]; decide)])
        · skip
          have c7 : (bcP γ aa co bb i) = true := bI_1 c7
          refine x_iinc F 2 [(5, .int (nI (cq + 1))), (7, .int (nI (i))), (6, .int (bI sh)), (0, .ref (g)), (1, .int (aa)), (2, .long (co)), (4, .int (bb))] dG_became_49 rfl (nI_add (cq) 1) (by decide) rfl ?_
          refine x_iload F 2 dG_became_52 rfl ?_
          refine x_if_ne F (tgt := 80) dG_became_54 (by decide) (fun c8 => ?_) (fun c8 => ?_)
          · skip
            have c8 : (sh) = true := bI_1 c8
            refine x_iconst F (v := nI (1)) dG_became_80 (by decide) ?_
            refine x_goto F (tgt := 85) dG_became_81 (by decide) ?_
            refine x_istore F [(6, .int (nI (1))), (5, .int (nI (cq + 1))), (7, .int (nI (i))), (0, .ref (g)), (1, .int (aa)), (2, .long (co)), (4, .int (bb))] dG_became_85 (by decide) rfl ?_
            refine x_iinc F 2 [(7, .int (nI (i + 1))), (6, .int (nI (1))), (5, .int (nI (cq + 1))), (0, .ref (g)), (1, .int (aa)), (2, .long (co)), (4, .int (bb))] dG_became_87 rfl (nI_add (i) 1) (by decide) rfl ?_
            refine x_goto F (tgt := 21) dG_became_90 (by decide) ?_
            exact ih (i + 1) (cq + 1) true (by omega) (by omega) (by rw [hf, bcl_s, if_pos c7, c8]; rfl)
          · skip
            have c8 : (sh) = false := bI_0 c8
            refine x_aload_n F 3 dG_became_57 rfl rfl ?_
            refine x_get (ci := 5) F 3 (x_in inG) rfl (by decide) (x_m kfG_31) dG_became_58 h0 rfl ?_
            refine x_iload_n F 4 dG_became_61 rfl rfl ?_
            refine x_iload F 6 dG_became_62 rfl ?_
            refine x_aload_n F 3 dG_became_64 rfl rfl ?_
            refine x_get (ci := 5) F 3 (x_in inG) rfl (by decide) (x_m kfG_31) dG_became_65 h0 rfl ?_
            refine x_iload F 1 dG_became_68 rfl ?_
            refine yV (n := 1) (As := [.int (nI (i))]) (ci := 2) F kmG_151 kiP_otherAt ksP_otherAt knP kcP_otherAt (by decide +kernel) dG_became_70 (cP_otherAt l (nx) M (g + 10) 60 (γ.2.2.2.2.2.1).1 (γ.2.2.2.2.2.1).2.1 (γ.2.2.2.2.2.1).2.2.1 (γ.2.2.2.2.2.1).2.2.2.1 (γ.2.2.2.2.2.1).2.2.2.2 hLi i (by omega)) rfl hLi.1 rfl rfl (Nat.le_of_ble_eq_true rfl) ⟨Nat.le_of_ble_eq_true rfl, Nat.le_of_ble_eq_true rfl⟩ ⟨Nat.le_of_ble_eq_true rfl, Nat.le_of_ble_eq_true rfl⟩ ?_
            refine yV (n := 3) (As := [.int (aa), .int (bb), .long ((γ.2.2.2.2.2.1).2.2.2.1 (i))]) (ci := 2) F kmG_170 kiP_sizeTo ksP_sizeTo knP kcP_sizeTo (by decide +kernel) dG_became_73 (cP_sizeTo l (nx) M (g + 10) 60 (γ.2.2.2.2.2.1).1 (γ.2.2.2.2.2.1).2.1 (γ.2.2.2.2.2.1).2.2.1 (γ.2.2.2.2.2.1).2.2.2.1 (γ.2.2.2.2.2.1).2.2.2.2 hLi aa bb ((γ.2.2.2.2.2.1).2.2.2.1 (i))) rfl hLi.1 rfl rfl (Nat.le_of_ble_eq_true rfl) ⟨Nat.le_of_ble_eq_true rfl, Nat.le_of_ble_eq_true rfl⟩ ⟨Nat.le_of_ble_eq_true rfl, Nat.le_of_ble_eq_true rfl⟩ ?_
            have hto : lTo γ aa bb ((γ.2.2.2.2.2.1).2.2.2.1 (i)) ≤ _ := ct_le _ _ _ _
            refine x_iconst F (v := nI (1)) dG_became_76 (by decide) ?_
            refine x_icmp_le F (tgt := 84) dG_became_77 (by decide) (fun c9 => ?_) (fun c9 => ?_)
            · skip
              have c9 : lTo γ aa bb ((γ.2.2.2.2.2.1).2.2.2.1 (i)) ≤ 1 := by
                exact (nI_leI (a := lTo γ aa bb ((γ.2.2.2.2.2.1).2.2.2.1 (i))) (b := 1) (by omega) (by omega)).mp c9
              refine x_iconst F (v := nI (0)) dG_became_84 (by decide) ?_
              refine x_istore F [(6, .int (nI (0))), (5, .int (nI (cq + 1))), (7, .int (nI (i))), (0, .ref (g)), (1, .int (aa)), (2, .long (co)), (4, .int (bb))] dG_became_85 (by decide) rfl ?_
              refine x_iinc F 2 [(7, .int (nI (i + 1))), (6, .int (nI (0))), (5, .int (nI (cq + 1))), (0, .ref (g)), (1, .int (aa)), (2, .long (co)), (4, .int (bb))] dG_became_87 rfl (nI_add (i) 1) (by decide) rfl ?_
              refine x_goto F (tgt := 21) dG_became_90 (by decide) ?_
              exact ih (i + 1) (cq + 1) false (by omega) (by omega) (by rw [hf, bcl_s, if_pos c7, c8, show bcQ γ aa bb i = false from decide_eq_false (by omega)]; rfl)
            · skip
              have c9 : 1 < lTo γ aa bb ((γ.2.2.2.2.2.1).2.2.2.1 (i)) := by
                have z : ¬ (lTo γ aa bb ((γ.2.2.2.2.2.1).2.2.2.1 (i)) ≤ 1) := fun zz => c9 ((nI_leI (a := lTo γ aa bb ((γ.2.2.2.2.2.1).2.2.2.1 (i))) (b := 1) (by omega) (by omega)).mpr zz)
                omega
              refine x_iconst F (v := nI (1)) dG_became_80 (by decide) ?_
              refine x_goto F (tgt := 85) dG_became_81 (by decide) ?_
              refine x_istore F [(6, .int (nI (1))), (5, .int (nI (cq + 1))), (7, .int (nI (i))), (0, .ref (g)), (1, .int (aa)), (2, .long (co)), (4, .int (bb))] dG_became_85 (by decide) rfl ?_
              refine x_iinc F 2 [(7, .int (nI (i + 1))), (6, .int (nI (1))), (5, .int (nI (cq + 1))), (0, .ref (g)), (1, .int (aa)), (2, .long (co)), (4, .int (bb))] dG_became_87 rfl (nI_add (i) 1) (by decide) rfl ?_
              refine x_goto F (tgt := 21) dG_became_90 (by decide) ?_
              exact ih (i + 1) (cq + 1) true (by omega) (by omega) (by rw [hf, bcl_s, if_pos c7, c8, show bcQ γ aa bb i = true from decide_eq_true (by omega)]; rfl)
  refine x_iload_n F 1 dG_became_0 rfl rfl ?_
  refine x_iload F 3 dG_became_1 rfl ?_
  refine ySv (n := 2) (As := [.int (aa), .int (bb)]) F kmG_157 ktG_checkEditions knG kcG_checkEditions (by decide +kernel) dG_became_3 (cG_checkE l (nx) M (aa) (bb) hE) rfl rfl (Nat.le_of_ble_eq_true rfl) ⟨Nat.le_of_ble_eq_true rfl, Nat.le_of_ble_eq_true rfl⟩ ⟨Nat.le_of_ble_eq_true rfl, Nat.le_of_ble_eq_true rfl⟩ ?_
  refine x_aload_n F 0 dG_became_6 rfl rfl ?_
  refine x_iload_n F 1 dG_became_7 rfl rfl ?_
  refine x_lload_n F 2 dG_became_8 rfl rfl ?_
  refine yVv (n := 2) (As := [.int (aa), .long (co)]) (ci := 5) F kmG_161 kiG_checkCode ksG_checkCode knG kcG_checkCode (by decide +kernel) dG_became_9 (cG_checkC l (nx) M g γ hG (aa) (co) hC) rfl h0 rfl rfl (Nat.le_of_ble_eq_true rfl) ⟨Nat.le_of_ble_eq_true rfl, Nat.le_of_ble_eq_true rfl⟩ ⟨Nat.le_of_ble_eq_true rfl, Nat.le_of_ble_eq_true rfl⟩ ?_
  refine x_iconst F (v := nI (0)) dG_became_12 (by decide) ?_
  refine x_istore F [(5, .int (nI (0))), (0, .ref (g)), (1, .int (aa)), (2, .long (co)), (4, .int (bb))] dG_became_13 (by decide) rfl ?_
  refine x_iconst F (v := nI (0)) dG_became_15 (by decide) ?_
  refine x_istore F [(6, .int (nI (0))), (5, .int (nI (0))), (0, .ref (g)), (1, .int (aa)), (2, .long (co)), (4, .int (bb))] dG_became_16 (by decide) rfl ?_
  refine x_iconst F (v := nI (0)) dG_became_18 (by decide) ?_
  refine x_istore F [(7, .int (nI (0))), (6, .int (nI (0))), (5, .int (nI (0))), (0, .ref (g)), (1, .int (aa)), (2, .long (co)), (4, .int (bb))] dG_became_19 (by decide) rfl ?_
  exact loop γ.2.2.2.2.2.1.2.2.2.2 0 0 false (by omega) (by omega) rfl
set_option maxHeartbeats 4000000 in
set_option maxRecDepth 100000 in
theorem cG_becameE (l : Launch) (hfl : x_fl l) (nx : Nat) (M : xH) (g : Nat) (γ : gS) (hG : gIs M g γ) (aa : Int32) (co : Int64) (bb : Int32) (hE : edOk aa bb = false) : xT_ l xcl yG_became (xw (Cond.code yG_became bG_became 8 (some .int))) ({ frames := 7, cells := 1, slots := 6, locals := 111 } : Room) [.ref (g), .int (aa), .long (co), .int (bb)] nx M "java/lang/IllegalArgumentException" (kPost nx M) := by
  obtain ⟨⟨fT, h0, h4, hfT, hpr, hπ, hπi⟩, hRd, hTr, hNo, hLi, hFi⟩ := id hG
  have hpp := hπ γ.2.1 (by omega)
  refine yCT (by decide) (Nat.le_of_ble_eq_true rfl) ?_
  intro p e s m args below meth c D F hr hex
  refine x_iload_n F 1 dG_became_0 rfl rfl ?_
  refine x_iload F 3 dG_became_1 rfl ?_
  exact yST (n := 2) (As := [.int (aa), .int (bb)]) F rfl kmG_157 ktG_checkEditions knG kcG_checkEditions (by decide +kernel) dG_became_3 (cG_checkET l hfl nx M (aa) (bb) hE) rfl rfl (Nat.le_of_ble_eq_true rfl) ⟨Nat.le_of_ble_eq_true rfl, Nat.le_of_ble_eq_true rfl⟩ ⟨Nat.le_of_ble_eq_true rfl, Nat.le_of_ble_eq_true rfl⟩ hex (Nat.le_of_ble_eq_true rfl) (Nat.le_of_ble_eq_true rfl) (fun _ _ z => z)
set_option maxHeartbeats 4000000 in
set_option maxRecDepth 100000 in
theorem cG_becameC (l : Launch) (hfl : x_fl l) (nx : Nat) (M : xH) (g : Nat) (γ : gS) (hG : gIs M g γ) (aa : Int32) (co : Int64) (bb : Int32) (hE : edOk aa bb = true) (hC : gHas γ aa co = false) : xT_ l xcl yG_became (xw (Cond.code yG_became bG_became 8 (some .int))) ({ frames := 7, cells := 1, slots := 6, locals := 113 } : Room) [.ref (g), .int (aa), .long (co), .int (bb)] nx M "java/lang/IllegalArgumentException" (kPost nx M) := by
  obtain ⟨⟨fT, h0, h4, hfT, hpr, hπ, hπi⟩, hRd, hTr, hNo, hLi, hFi⟩ := id hG
  have hpp := hπ γ.2.1 (by omega)
  refine yCT (by decide) (Nat.le_of_ble_eq_true rfl) ?_
  intro p e s m args below meth c D F hr hex
  refine x_iload_n F 1 dG_became_0 rfl rfl ?_
  refine x_iload F 3 dG_became_1 rfl ?_
  refine ySv (n := 2) (As := [.int (aa), .int (bb)]) F kmG_157 ktG_checkEditions knG kcG_checkEditions (by decide +kernel) dG_became_3 (cG_checkE l (nx) M (aa) (bb) hE) rfl rfl (Nat.le_of_ble_eq_true rfl) ⟨Nat.le_of_ble_eq_true rfl, Nat.le_of_ble_eq_true rfl⟩ ⟨Nat.le_of_ble_eq_true rfl, Nat.le_of_ble_eq_true rfl⟩ ?_
  refine x_aload_n F 0 dG_became_6 rfl rfl ?_
  refine x_iload_n F 1 dG_became_7 rfl rfl ?_
  refine x_lload_n F 2 dG_became_8 rfl rfl ?_
  exact yVT (n := 2) (As := [.int (aa), .long (co)]) (ci := 5) F kmG_161 kiG_checkCode ksG_checkCode knG kcG_checkCode (by decide +kernel) dG_became_9 (cG_checkCT l hfl nx M g γ hG (aa) (co) hC) rfl h0 rfl rfl (Nat.le_of_ble_eq_true rfl) ⟨Nat.le_of_ble_eq_true rfl, Nat.le_of_ble_eq_true rfl⟩ ⟨Nat.le_of_ble_eq_true rfl, Nat.le_of_ble_eq_true rfl⟩ hex (Nat.le_of_ble_eq_true rfl) (Nat.le_of_ble_eq_true rfl) (fun _ _ z => z)
set_option maxHeartbeats 4000000 in
set_option maxRecDepth 100000 in
theorem cG_lost (l : Launch) (nx : Nat) (M : xH) (g : Nat) (γ : gS) (hG : gIs M g γ) (k : Nat) (hk : k < 3) (bb : Int32) (hE : edOk (nI k) bb = true) : xC l xcl yG_lost (xw (Cond.code yG_lost bG_lost 6 (some .int))) ({ frames := 3, cells := 0, slots := 0, locals := 73 } : Room) [.ref (g), .int (nI (k)), .int (bb)] nx M (x_is (some (.int (nI (lst γ k bb)))) nx M) := by
  obtain ⟨⟨fT, h0, h4, hfT, hpr, hπ, hπi⟩, hRd, hTr, hNo, hLi, hFi⟩ := id hG
  have hpp := hπ γ.2.1 (by omega)
  refine yC (by decide) (Nat.le_of_ble_eq_true rfl) ?_
  intro p e s m args below meth c D F hr hn
  have loop : ∀ (f : Nat) (i cq : Nat), i + f = (γ.2.2.2.1 k).2.2.2.2.2.2.1 → cq ≤ i → ct (lsP γ k bb) (γ.2.2.2.1 k).2.2.2.2.2.2.1 0 0 = ct (lsP γ k bb) f i cq → xW p l e ({ frames := 3, cells := 0, slots := 0, locals := 73 } : Room) s m args below meth c D xcl (x_A M nx) 6 (MQ below (x_Q D xcl (x_A M nx) (x_is (some (.int (nI (lst γ k bb)))) nx M)) args s 0 0 (x_A M nx)) 0 0 (nx) M 18 [(5, .int (nI (i))), (4, .int (nI (cq))), (3, .ref (g + 18 + 7 * γ.1 k)), (0, .ref (g)), (1, .int (nI (k))), (2, .int (bb))] [] := by
    intro f
    induction f with
    | zero =>
      intro i cq hi hc hf
      have hn40 := (hTr k (by omega)).2.2.2.2.2.2.2.1
      refine x_iload F 0 dG_lost_18 rfl ?_
      refine x_aload_n F 2 dG_lost_20 rfl rfl ?_
      refine yV (n := 0) (As := []) (ci := 4) F kmG_75 kiT_size ksT_size knT kcT_size (by decide +kernel) dG_lost_21 (cT_size l (nx) M (g + 18 + 7 * γ.1 k) (γ.2.2.2.1 k).1 (γ.2.2.2.1 k).2.1 (γ.2.2.2.1 k).2.2.1 (γ.2.2.2.1 k).2.2.2.1 (γ.2.2.2.1 k).2.2.2.2.1 (γ.2.2.2.1 k).2.2.2.2.2.1 (γ.2.2.2.1 k).2.2.2.2.2.2.1 (γ.2.2.2.1 k).2.2.2.2.2.2.2 (hTr k (by omega)) ) rfl (hTr k (by omega)).1 rfl rfl (Nat.le_of_ble_eq_true rfl) ⟨Nat.le_of_ble_eq_true rfl, Nat.le_of_ble_eq_true rfl⟩ ⟨Nat.le_of_ble_eq_true rfl, Nat.le_of_ble_eq_true rfl⟩ ?_
      refine x_icmp_ge F (tgt := 65) dG_lost_24 (by decide) (fun c1 => ?_) (fun c1 => ?_)
      · skip
        have c1 : (γ.2.2.2.1 k).2.2.2.2.2.2.1 ≤ i := by
          exact (nI_leI (a := (γ.2.2.2.1 k).2.2.2.2.2.2.1) (b := i) (by omega) (by omega)).mp c1
        refine x_iload F 1 dG_lost_65 rfl ?_
        exact x_iret F hr dG_lost_67 (x_e (by rw [lst, hf]; rfl))
      · skip
        have c1 : i < (γ.2.2.2.1 k).2.2.2.2.2.2.1 := by
          have z : ¬ ((γ.2.2.2.1 k).2.2.2.2.2.2.1 ≤ i) := fun zz => c1 ((nI_leI (a := (γ.2.2.2.1 k).2.2.2.2.2.2.1) (b := i) (by omega) (by omega)).mpr zz)
          omega
        exact absurd c1 (by omega)
    | succ f ih =>
      intro i cq hi hc hf
      have hn40 := (hTr k (by omega)).2.2.2.2.2.2.2.1
      refine x_iload F 0 dG_lost_18 rfl ?_
      refine x_aload_n F 2 dG_lost_20 rfl rfl ?_
      refine yV (n := 0) (As := []) (ci := 4) F kmG_75 kiT_size ksT_size knT kcT_size (by decide +kernel) dG_lost_21 (cT_size l (nx) M (g + 18 + 7 * γ.1 k) (γ.2.2.2.1 k).1 (γ.2.2.2.1 k).2.1 (γ.2.2.2.1 k).2.2.1 (γ.2.2.2.1 k).2.2.2.1 (γ.2.2.2.1 k).2.2.2.2.1 (γ.2.2.2.1 k).2.2.2.2.2.1 (γ.2.2.2.1 k).2.2.2.2.2.2.1 (γ.2.2.2.1 k).2.2.2.2.2.2.2 (hTr k (by omega)) ) rfl (hTr k (by omega)).1 rfl rfl (Nat.le_of_ble_eq_true rfl) ⟨Nat.le_of_ble_eq_true rfl, Nat.le_of_ble_eq_true rfl⟩ ⟨Nat.le_of_ble_eq_true rfl, Nat.le_of_ble_eq_true rfl⟩ ?_
      refine x_icmp_ge F (tgt := 65) dG_lost_24 (by decide) (fun c2 => ?_) (fun c2 => ?_)
      · skip
        have c2 : (γ.2.2.2.1 k).2.2.2.2.2.2.1 ≤ i := by
          exact (nI_leI (a := (γ.2.2.2.1 k).2.2.2.2.2.2.1) (b := i) (by omega) (by omega)).mp c2
        exact absurd c2 (by omega)
      · skip
        have c2 : i < (γ.2.2.2.1 k).2.2.2.2.2.2.1 := by
          have z : ¬ ((γ.2.2.2.1 k).2.2.2.2.2.2.1 ≤ i) := fun zz => c2 ((nI_leI (a := (γ.2.2.2.1 k).2.2.2.2.2.2.1) (b := i) (by omega) (by omega)).mpr zz)
          omega
        refine x_aload_n F 2 dG_lost_27 rfl rfl ?_
        refine x_iload F 0 dG_lost_28 rfl ?_
        refine yV (n := 1) (As := [.int (nI (i))]) (ci := 4) F kmG_110 kiT_childrenOf ksT_childrenOf knT kcT_childrenOf (by decide +kernel) dG_lost_30 (cT_childrenOf l (nx) M (g + 18 + 7 * γ.1 k) (γ.2.2.2.1 k).1 (γ.2.2.2.1 k).2.1 (γ.2.2.2.1 k).2.2.1 (γ.2.2.2.1 k).2.2.2.1 (γ.2.2.2.1 k).2.2.2.2.1 (γ.2.2.2.1 k).2.2.2.2.2.1 (γ.2.2.2.1 k).2.2.2.2.2.2.1 (γ.2.2.2.1 k).2.2.2.2.2.2.2 (hTr k (by omega)) i (by omega)) rfl (hTr k (by omega)).1 rfl rfl (Nat.le_of_ble_eq_true rfl) ⟨Nat.le_of_ble_eq_true rfl, Nat.le_of_ble_eq_true rfl⟩ ⟨Nat.le_of_ble_eq_true rfl, Nat.le_of_ble_eq_true rfl⟩ ?_
        refine x_if_ne F (tgt := 59) dG_lost_33 (by decide) (fun c3 => ?_) (fun c3 => ?_)
        · skip
          refine x_iinc F 0 [(5, .int (nI (i + 1))), (4, .int (nI (cq))), (3, .ref (g + 18 + 7 * γ.1 k)), (0, .ref (g)), (1, .int (nI (k))), (2, .int (bb))] dG_lost_59 rfl (nI_add (i) 1) (by decide) rfl ?_
          refine x_goto F (tgt := 18) dG_lost_62 (by decide) ?_
          exact ih (i + 1) cq (by omega) (by omega) (by rw [hf, ct_s, if_neg (by rw [lsP, decide_eq_false c3]; simp)])
        · skip
          refine x_aload_n F 3 dG_lost_36 rfl rfl ?_
          refine x_get (ci := 5) F 3 (x_in inG) rfl (by decide) (x_m kfG_31) dG_lost_37 h0 rfl ?_
          refine x_iload_n F 4 dG_lost_40 rfl rfl ?_
          refine x_aload_n F 2 dG_lost_41 rfl rfl ?_
          refine x_iload F 0 dG_lost_42 rfl ?_
          refine yV (n := 1) (As := [.int (nI (i))]) (ci := 4) F kmG_96 kiT_codeOf ksT_codeOf knT kcT_codeOf (by decide +kernel) dG_lost_44 (cT_codeOf l (nx) M (g + 18 + 7 * γ.1 k) (γ.2.2.2.1 k).1 (γ.2.2.2.1 k).2.1 (γ.2.2.2.1 k).2.2.1 (γ.2.2.2.1 k).2.2.2.1 (γ.2.2.2.1 k).2.2.2.2.1 (γ.2.2.2.1 k).2.2.2.2.2.1 (γ.2.2.2.1 k).2.2.2.2.2.2.1 (γ.2.2.2.1 k).2.2.2.2.2.2.2 (hTr k (by omega)) i (by omega)) rfl (hTr k (by omega)).1 rfl rfl (Nat.le_of_ble_eq_true rfl) ⟨Nat.le_of_ble_eq_true rfl, Nat.le_of_ble_eq_true rfl⟩ ⟨Nat.le_of_ble_eq_true rfl, Nat.le_of_ble_eq_true rfl⟩ ?_
          refine x_iload_n F 5 dG_lost_47 rfl rfl ?_
          refine x_iconst F (v := nI (0)) dG_lost_48 (by decide) ?_
          refine yV (n := 4) (As := [.int (nI (k)), .long ((γ.2.2.2.1 k).1 (i)), .int (bb), .int (nI (0))]) (ci := 2) F kmG_147 kiP_nth ksP_nth knP kcP_nth (by decide +kernel) dG_lost_49 (cP_nth l (nx) M (g + 10) 60 (γ.2.2.2.2.2.1).1 (γ.2.2.2.2.2.1).2.1 (γ.2.2.2.2.2.1).2.2.1 (γ.2.2.2.2.2.1).2.2.2.1 (γ.2.2.2.2.2.1).2.2.2.2 hLi (nI k) ((γ.2.2.2.1 k).1 i) bb (nI 0)) rfl hLi.1 rfl rfl (Nat.le_of_ble_eq_true rfl) ⟨Nat.le_of_ble_eq_true rfl, Nat.le_of_ble_eq_true rfl⟩ ⟨Nat.le_of_ble_eq_true rfl, Nat.le_of_ble_eq_true rfl⟩ ?_
          rcases o_cases (nt (bcP γ (nI k) ((γ.2.2.2.1 k).1 i) bb) (nI 0) (γ.2.2.2.2.2.1).2.2.2.2 0 0) with hnt | ⟨j, hnt⟩
          · skip
            refine xW.ste (st' := [.int ((-1))]) (by show ([.int (oi (nt (bcP γ (nI k) ((γ.2.2.2.1 k).1 i) bb) (nI 0) (γ.2.2.2.2.2.1).2.2.2.2 0 0))] : List Value) = _; rw [hnt]; rfl) ?_
            refine x_iconst F (v := (-1)) dG_lost_52 (by decide) ?_
            refine x_icmp_ne F (tgt := 59) dG_lost_53 (by decide) (fun c4 => ?_) (fun c4 => ?_)
            · skip
              exact absurd rfl c4
            · skip
              refine x_iinc F 1 [(4, .int (nI (cq + 1))), (5, .int (nI (i))), (3, .ref (g + 18 + 7 * γ.1 k)), (0, .ref (g)), (1, .int (nI (k))), (2, .int (bb))] dG_lost_56 rfl (nI_add (cq) 1) (by decide) rfl ?_
              refine x_iinc F 1 [(5, .int (nI (i + 1))), (4, .int (nI (cq + 1))), (3, .ref (g + 18 + 7 * γ.1 k)), (0, .ref (g)), (1, .int (nI (k))), (2, .int (bb))] dG_lost_59 rfl (nI_add (i) 1) (by decide) rfl ?_
              refine x_goto F (tgt := 18) dG_lost_62 (by decide) ?_
              exact ih (i + 1) (cq + 1) (by omega) (by omega) (by rw [hf, ct_s, if_pos (by rw [lsP, hnt, decide_eq_true c3]; rfl)])
          · skip
            have hj := nt_lt hnt
            have hj2 := hLi.2.2.2.2.2.1
            have hj3 := hLi.2.2.2.2.2.2
            refine xW.ste (st' := [.int (nI (j))]) (by show ([.int (oi (nt (bcP γ (nI k) ((γ.2.2.2.1 k).1 i) bb) (nI 0) (γ.2.2.2.2.2.1).2.2.2.2 0 0))] : List Value) = _; rw [hnt]; rfl) ?_
            refine x_iconst F (v := (-1)) dG_lost_52 (by decide) ?_
            refine x_icmp_ne F (tgt := 59) dG_lost_53 (by decide) (fun c5 => ?_) (fun c5 => ?_)
            · skip
              refine x_iinc F 0 [(5, .int (nI (i + 1))), (4, .int (nI (cq))), (3, .ref (g + 18 + 7 * γ.1 k)), (0, .ref (g)), (1, .int (nI (k))), (2, .int (bb))] dG_lost_59 rfl (nI_add (i) 1) (by decide) rfl ?_
              refine x_goto F (tgt := 18) dG_lost_62 (by decide) ?_
              exact ih (i + 1) cq (by omega) (by omega) (by rw [hf, ct_s, if_neg (by rw [lsP, hnt, decide_eq_true c3]; exact Bool.false_ne_true)])
            · skip
              exact absurd c5 (nI_m1 (by omega))
  refine x_iload_n F 1 dG_lost_0 rfl rfl ?_
  refine x_iload_n F 2 dG_lost_1 rfl rfl ?_
  refine ySv (n := 2) (As := [.int (nI (k)), .int (bb)]) F kmG_157 ktG_checkEditions knG kcG_checkEditions (by decide +kernel) dG_lost_2 (cG_checkE l (nx) M (nI (k)) (bb) hE) rfl rfl (Nat.le_of_ble_eq_true rfl) ⟨Nat.le_of_ble_eq_true rfl, Nat.le_of_ble_eq_true rfl⟩ ⟨Nat.le_of_ble_eq_true rfl, Nat.le_of_ble_eq_true rfl⟩ ?_
  refine x_aload_n F 0 dG_lost_5 rfl rfl ?_
  refine x_get (ci := 5) F 1 (x_in inG) rfl (by decide) (x_m kfG_18) dG_lost_6 h0 rfl ?_
  refine x_iload_n F 1 dG_lost_9 rfl rfl ?_
  refine x_aald F dG_lost_10 h4 (pk_in (k) (3) (by omega)) ?_
  rw [nI_clamp (show k < 2 ^ 31 by omega), hfT _ (by omega)]
  show xW p l e ({ frames := 3, cells := 0, slots := 0, locals := 73 } : Room) s m args below meth c D xcl (x_A M nx) 6 (MQ below (x_Q D xcl (x_A M nx) (x_is (some (.int (nI (lst γ k bb)))) nx M)) args s 0 0 (x_A M nx)) 0 0 (nx) M 11 [(0, .ref (g)), (1, .int (nI (k))), (2, .int (bb))] [.ref (g + 18 + 7 * γ.1 k)]
  refine x_astore_n F [(3, .ref (g + 18 + 7 * γ.1 k)), (0, .ref (g)), (1, .int (nI (k))), (2, .int (bb))] dG_lost_11 rfl (by decide) rfl ?_
  refine x_iconst F (v := nI (0)) dG_lost_12 (by decide) ?_
  refine x_istore F [(4, .int (nI (0))), (3, .ref (g + 18 + 7 * γ.1 k)), (0, .ref (g)), (1, .int (nI (k))), (2, .int (bb))] dG_lost_13 (by decide) rfl ?_
  refine x_iconst F (v := nI (0)) dG_lost_15 (by decide) ?_
  refine x_istore F [(5, .int (nI (0))), (4, .int (nI (0))), (3, .ref (g + 18 + 7 * γ.1 k)), (0, .ref (g)), (1, .int (nI (k))), (2, .int (bb))] dG_lost_16 (by decide) rfl ?_
  exact loop (γ.2.2.2.1 k).2.2.2.2.2.2.1 0 0 (by omega) (by omega) rfl
set_option maxHeartbeats 4000000 in
set_option maxRecDepth 100000 in
theorem cG_lostE (l : Launch) (hfl : x_fl l) (nx : Nat) (M : xH) (g : Nat) (γ : gS) (hG : gIs M g γ) (aa bb : Int32) (hE : edOk aa bb = false) : xT_ l xcl yG_lost (xw (Cond.code yG_lost bG_lost 6 (some .int))) ({ frames := 7, cells := 1, slots := 6, locals := 111 } : Room) [.ref (g), .int (aa), .int (bb)] nx M "java/lang/IllegalArgumentException" (kPost nx M) := by
  obtain ⟨⟨fT, h0, h4, hfT, hpr, hπ, hπi⟩, hRd, hTr, hNo, hLi, hFi⟩ := id hG
  have hpp := hπ γ.2.1 (by omega)
  refine yCT (by decide) (Nat.le_of_ble_eq_true rfl) ?_
  intro p e s m args below meth c D F hr hex
  refine x_iload_n F 1 dG_lost_0 rfl rfl ?_
  refine x_iload_n F 2 dG_lost_1 rfl rfl ?_
  exact yST (n := 2) (As := [.int (aa), .int (bb)]) F rfl kmG_157 ktG_checkEditions knG kcG_checkEditions (by decide +kernel) dG_lost_2 (cG_checkET l hfl nx M (aa) (bb) hE) rfl rfl (Nat.le_of_ble_eq_true rfl) ⟨Nat.le_of_ble_eq_true rfl, Nat.le_of_ble_eq_true rfl⟩ ⟨Nat.le_of_ble_eq_true rfl, Nat.le_of_ble_eq_true rfl⟩ hex (Nat.le_of_ble_eq_true rfl) (Nat.le_of_ble_eq_true rfl) (fun _ _ z => z)
set_option maxHeartbeats 4000000 in
set_option maxRecDepth 100000 in
theorem cG_found0 (l : Launch) (nx : Nat) (M : xH) (g : Nat) (γ : gS) (hG : gIs M g γ) (k : Nat) (hk : k < γ.2.2.2.2.2.2.2.2) : xC l xcl yG_found (xw (Cond.code yG_found bG_found 3 (some .long))) ({ frames := 2, cells := 0, slots := 0, locals := 42 } : Room) [.ref (g), .int (nI (k)), .int (nI (0))] nx M (x_is (some (.long ((γ.2.2.2.2.2.2).1 (k)))) nx M) := by
  obtain ⟨⟨fT, h0, h4, hfT, hpr, hπ, hπi⟩, hRd, hTr, hNo, hLi, hFi⟩ := id hG
  have hpp := hπ γ.2.1 (by omega)
  have hf40 := hFi.2.2.2
  refine yC (by decide) (Nat.le_of_ble_eq_true rfl) ?_
  intro p e s m args below meth c D F hr hn
  refine x_aload_n F 0 dG_found_0 rfl rfl ?_
  refine x_get (ci := 5) F 4 (x_in inG) rfl (by decide) (x_m kfG_37) dG_found_1 h0 rfl ?_
  refine x_iload_n F 1 dG_found_4 rfl rfl ?_
  refine yV (n := 1) (As := [.int (nI (k))]) (ci := 1) F kmG_188 kiF_has ksF_has knF kcF_has (by decide +kernel) dG_found_5 (cF_has l (nx) M (g + 15) (γ.2.2.2.2.2.2).1 (γ.2.2.2.2.2.2).2.1 (γ.2.2.2.2.2.2).2.2 hFi k hk) rfl hFi.1 rfl rfl (Nat.le_of_ble_eq_true rfl) ⟨Nat.le_of_ble_eq_true rfl, Nat.le_of_ble_eq_true rfl⟩ ⟨Nat.le_of_ble_eq_true rfl, Nat.le_of_ble_eq_true rfl⟩ ?_
  refine x_if_eq F (tgt := 20) dG_found_8 (by decide) (fun c1 => ?_) (fun c1 => ?_)
  · skip
    have c1 : 1 = 0 := by
      exact (nI_eq (a := 1) (b := 0) (by omega) (by omega)).mp c1
    exact absurd c1 (by decide)
  · skip
    have c1 : 1 ≠ 0 := by
      have z : ¬ (1 = 0) := fun zz => c1 ((nI_eq (a := 1) (b := 0) (by omega) (by omega)).mpr zz)
      omega
    refine x_iload_n F 2 dG_found_11 rfl rfl ?_
    refine x_if_eq F (tgt := 30) dG_found_12 (by decide) (fun c2 => ?_) (fun c2 => ?_)
    · skip
      have c2 : 0 = 0 := by
        exact (nI_eq (a := 0) (b := 0) (by omega) (by omega)).mp c2
      refine x_iload_n F 2 dG_found_30 rfl rfl ?_
      refine x_if_ne F (tgt := 45) dG_found_31 (by decide) (fun c3 => ?_) (fun c3 => ?_)
      · skip
        have c3 : 0 ≠ 0 := by
          have z : ¬ (0 = 0) := fun zz => c3 ((nI_eq (a := 0) (b := 0) (by omega) (by omega)).mpr zz)
          omega
        exact absurd c3 (by decide)
      · skip
        have c3 : 0 = 0 := by
          exact (nI_eq (a := 0) (b := 0) (by omega) (by omega)).mp c3
        refine x_aload_n F 0 dG_found_34 rfl rfl ?_
        refine x_get (ci := 5) F 4 (x_in inG) rfl (by decide) (x_m kfG_37) dG_found_35 h0 rfl ?_
        refine x_iload_n F 1 dG_found_38 rfl rfl ?_
        refine yV (n := 1) (As := [.int (nI (k))]) (ci := 1) F kmG_191 kiF_codeOf ksF_codeOf knF kcF_codeOf (by decide +kernel) dG_found_39 (cF_codeOf l (nx) M (g + 15) (γ.2.2.2.2.2.2).1 (γ.2.2.2.2.2.2).2.1 (γ.2.2.2.2.2.2).2.2 hFi k hk) rfl hFi.1 rfl rfl (Nat.le_of_ble_eq_true rfl) ⟨Nat.le_of_ble_eq_true rfl, Nat.le_of_ble_eq_true rfl⟩ ⟨Nat.le_of_ble_eq_true rfl, Nat.le_of_ble_eq_true rfl⟩ ?_
        refine x_goto F (tgt := 54) dG_found_42 (by decide) ?_
        exact x_lret F hr dG_found_54 (x_is_i _ _ _)
    · skip
      have c2 : 0 ≠ 0 := by
        have z : ¬ (0 = 0) := fun zz => c2 ((nI_eq (a := 0) (b := 0) (by omega) (by omega)).mpr zz)
        omega
      exact absurd c2 (by decide)
set_option maxHeartbeats 4000000 in
set_option maxRecDepth 100000 in
theorem cG_found1 (l : Launch) (nx : Nat) (M : xH) (g : Nat) (γ : gS) (hG : gIs M g γ) (k : Nat) (hk : k < γ.2.2.2.2.2.2.2.2) : xC l xcl yG_found (xw (Cond.code yG_found bG_found 3 (some .long))) ({ frames := 2, cells := 0, slots := 0, locals := 42 } : Room) [.ref (g), .int (nI (k)), .int (nI (1))] nx M (x_is (some (.long (((γ.2.2.2.2.2.2).2.1 (k)).toInt64))) nx M) := by
  obtain ⟨⟨fT, h0, h4, hfT, hpr, hπ, hπi⟩, hRd, hTr, hNo, hLi, hFi⟩ := id hG
  have hpp := hπ γ.2.1 (by omega)
  have hf40 := hFi.2.2.2
  refine yC (by decide) (Nat.le_of_ble_eq_true rfl) ?_
  intro p e s m args below meth c D F hr hn
  refine x_aload_n F 0 dG_found_0 rfl rfl ?_
  refine x_get (ci := 5) F 4 (x_in inG) rfl (by decide) (x_m kfG_37) dG_found_1 h0 rfl ?_
  refine x_iload_n F 1 dG_found_4 rfl rfl ?_
  refine yV (n := 1) (As := [.int (nI (k))]) (ci := 1) F kmG_188 kiF_has ksF_has knF kcF_has (by decide +kernel) dG_found_5 (cF_has l (nx) M (g + 15) (γ.2.2.2.2.2.2).1 (γ.2.2.2.2.2.2).2.1 (γ.2.2.2.2.2.2).2.2 hFi k hk) rfl hFi.1 rfl rfl (Nat.le_of_ble_eq_true rfl) ⟨Nat.le_of_ble_eq_true rfl, Nat.le_of_ble_eq_true rfl⟩ ⟨Nat.le_of_ble_eq_true rfl, Nat.le_of_ble_eq_true rfl⟩ ?_
  refine x_if_eq F (tgt := 20) dG_found_8 (by decide) (fun c1 => ?_) (fun c1 => ?_)
  · skip
    have c1 : 1 = 0 := by
      exact (nI_eq (a := 1) (b := 0) (by omega) (by omega)).mp c1
    exact absurd c1 (by decide)
  · skip
    have c1 : 1 ≠ 0 := by
      have z : ¬ (1 = 0) := fun zz => c1 ((nI_eq (a := 1) (b := 0) (by omega) (by omega)).mpr zz)
      omega
    refine x_iload_n F 2 dG_found_11 rfl rfl ?_
    refine x_if_eq F (tgt := 30) dG_found_12 (by decide) (fun c2 => ?_) (fun c2 => ?_)
    · skip
      have c2 : 1 = 0 := by
        exact (nI_eq (a := 1) (b := 0) (by omega) (by omega)).mp c2
      exact absurd c2 (by decide)
    · skip
      have c2 : 1 ≠ 0 := by
        have z : ¬ (1 = 0) := fun zz => c2 ((nI_eq (a := 1) (b := 0) (by omega) (by omega)).mpr zz)
        omega
      refine x_iload_n F 2 dG_found_15 rfl rfl ?_
      refine x_iconst F (v := nI (1)) dG_found_16 (by decide) ?_
      refine x_icmp_eq F (tgt := 30) dG_found_17 (by decide) (fun c3 => ?_) (fun c3 => ?_)
      · skip
        have c3 : 1 = 1 := by
          exact (nI_eq (a := 1) (b := 1) (by omega) (by omega)).mp c3
        refine x_iload_n F 2 dG_found_30 rfl rfl ?_
        refine x_if_ne F (tgt := 45) dG_found_31 (by decide) (fun c4 => ?_) (fun c4 => ?_)
        · skip
          have c4 : 1 ≠ 0 := by
            have z : ¬ (1 = 0) := fun zz => c4 ((nI_eq (a := 1) (b := 0) (by omega) (by omega)).mpr zz)
            omega
          refine x_aload_n F 0 dG_found_45 rfl rfl ?_
          refine x_get (ci := 5) F 4 (x_in inG) rfl (by decide) (x_m kfG_37) dG_found_46 h0 rfl ?_
          refine x_iload_n F 1 dG_found_49 rfl rfl ?_
          refine yV (n := 1) (As := [.int (nI (k))]) (ci := 1) F kmG_192 kiF_pointsAt ksF_pointsAt knF kcF_pointsAt (by decide +kernel) dG_found_50 (cF_pointsAt l (nx) M (g + 15) (γ.2.2.2.2.2.2).1 (γ.2.2.2.2.2.2).2.1 (γ.2.2.2.2.2.2).2.2 hFi k hk) rfl hFi.1 rfl rfl (Nat.le_of_ble_eq_true rfl) ⟨Nat.le_of_ble_eq_true rfl, Nat.le_of_ble_eq_true rfl⟩ ⟨Nat.le_of_ble_eq_true rfl, Nat.le_of_ble_eq_true rfl⟩ ?_
          refine x_i2l F dG_found_53 ?_
          exact x_lret F hr dG_found_54 (x_is_i _ _ _)
        · skip
          have c4 : 1 = 0 := by
            exact (nI_eq (a := 1) (b := 0) (by omega) (by omega)).mp c4
          exact absurd c4 (by decide)
      · skip
        have c3 : 1 ≠ 1 := by
          have z : ¬ (1 = 1) := fun zz => c3 ((nI_eq (a := 1) (b := 1) (by omega) (by omega)).mpr zz)
          omega
        exact absurd c3 (by decide)
set_option maxHeartbeats 4000000 in
set_option maxRecDepth 100000 in
theorem cG_foundT (l : Launch) (hfl : x_fl l) (nx : Nat) (M : xH) (g : Nat) (γ : gS) (hG : gIs M g γ) (ii : Int32) (hi : ¬ vp_in ii γ.2.2.2.2.2.2.2.2) (wh : Int32) : xT_ l xcl yG_found (xw (Cond.code yG_found bG_found 3 (some .long))) ({ frames := 6, cells := 1, slots := 6, locals := 90 } : Room) [.ref (g), .int (ii), .int (wh)] nx M "java/lang/IndexOutOfBoundsException" (kPost nx M) := by
  obtain ⟨⟨fT, h0, h4, hfT, hpr, hπ, hπi⟩, hRd, hTr, hNo, hLi, hFi⟩ := id hG
  have hpp := hπ γ.2.1 (by omega)
  refine yCT (by decide) (Nat.le_of_ble_eq_true rfl) ?_
  intro p e s m args below meth c D F hr hex
  refine x_aload_n F 0 dG_found_0 rfl rfl ?_
  refine x_get (ci := 5) F 4 (x_in inG) rfl (by decide) (x_m kfG_37) dG_found_1 h0 rfl ?_
  refine x_iload_n F 1 dG_found_4 rfl rfl ?_
  refine yV (n := 1) (As := [.int (ii)]) (ci := 1) F kmG_188 kiF_has ksF_has knF kcF_has (by decide +kernel) dG_found_5 (cF_hasN l (nx) M (g + 15) (γ.2.2.2.2.2.2).1 (γ.2.2.2.2.2.2).2.1 (γ.2.2.2.2.2.2).2.2 hFi ii hi) rfl hFi.1 rfl rfl (Nat.le_of_ble_eq_true rfl) ⟨Nat.le_of_ble_eq_true rfl, Nat.le_of_ble_eq_true rfl⟩ ⟨Nat.le_of_ble_eq_true rfl, Nat.le_of_ble_eq_true rfl⟩ ?_
  refine x_if_eq F (tgt := 20) dG_found_8 (by decide) (fun c1 => ?_) (fun c1 => ?_)
  · skip
    have c1 : 0 = 0 := by
      exact (nI_eq (a := 0) (b := 0) (by omega) (by omega)).mp c1
    exact yT (tx := "no such row found, or no such what") F hfl hex x_ok2 klG_91 kqJI knJI kcG_found (by decide) (by decide) dG_found_20 dG_found_23 dG_found_24 dG_found_26 dG_found_29 (Nat.le_of_ble_eq_true rfl) (Nat.le_of_ble_eq_true rfl) (Nat.le_of_ble_eq_true rfl) (Nat.le_of_ble_eq_true rfl) (Nat.le_of_ble_eq_true rfl) (Nat.le_of_ble_eq_true rfl) (fun n' hn' => ⟨hn', rfl⟩)
  · skip
    have c1 : 0 ≠ 0 := by
      have z : ¬ (0 = 0) := fun zz => c1 ((nI_eq (a := 0) (b := 0) (by omega) (by omega)).mpr zz)
      omega
    exact absurd c1 (by decide)
set_option maxHeartbeats 4000000 in
set_option maxRecDepth 100000 in
theorem cG_foundW (l : Launch) (hfl : x_fl l) (nx : Nat) (M : xH) (g : Nat) (γ : gS) (hG : gIs M g γ) (k : Nat) (hk : k < γ.2.2.2.2.2.2.2.2) (wh : Int32) (hw0 : wh ≠ 0) (hw1 : wh ≠ nI 1) : xT_ l xcl yG_found (xw (Cond.code yG_found bG_found 3 (some .long))) ({ frames := 6, cells := 1, slots := 6, locals := 90 } : Room) [.ref (g), .int (nI (k)), .int (wh)] nx M "java/lang/IndexOutOfBoundsException" (kPost nx M) := by
  obtain ⟨⟨fT, h0, h4, hfT, hpr, hπ, hπi⟩, hRd, hTr, hNo, hLi, hFi⟩ := id hG
  have hpp := hπ γ.2.1 (by omega)
  have hf40 := hFi.2.2.2
  refine yCT (by decide) (Nat.le_of_ble_eq_true rfl) ?_
  intro p e s m args below meth c D F hr hex
  refine x_aload_n F 0 dG_found_0 rfl rfl ?_
  refine x_get (ci := 5) F 4 (x_in inG) rfl (by decide) (x_m kfG_37) dG_found_1 h0 rfl ?_
  refine x_iload_n F 1 dG_found_4 rfl rfl ?_
  refine yV (n := 1) (As := [.int (nI (k))]) (ci := 1) F kmG_188 kiF_has ksF_has knF kcF_has (by decide +kernel) dG_found_5 (cF_has l (nx) M (g + 15) (γ.2.2.2.2.2.2).1 (γ.2.2.2.2.2.2).2.1 (γ.2.2.2.2.2.2).2.2 hFi k hk) rfl hFi.1 rfl rfl (Nat.le_of_ble_eq_true rfl) ⟨Nat.le_of_ble_eq_true rfl, Nat.le_of_ble_eq_true rfl⟩ ⟨Nat.le_of_ble_eq_true rfl, Nat.le_of_ble_eq_true rfl⟩ ?_
  refine x_if_eq F (tgt := 20) dG_found_8 (by decide) (fun c1 => ?_) (fun c1 => ?_)
  · skip
    have c1 : 1 = 0 := by
      exact (nI_eq (a := 1) (b := 0) (by omega) (by omega)).mp c1
    exact absurd c1 (by decide)
  · skip
    have c1 : 1 ≠ 0 := by
      have z : ¬ (1 = 0) := fun zz => c1 ((nI_eq (a := 1) (b := 0) (by omega) (by omega)).mpr zz)
      omega
    refine x_iload_n F 2 dG_found_11 rfl rfl ?_
    refine x_if_eq F (tgt := 30) dG_found_12 (by decide) (fun c2 => ?_) (fun c2 => ?_)
    · skip
      exact absurd c2 hw0
    · skip
      refine x_iload_n F 2 dG_found_15 rfl rfl ?_
      refine x_iconst F (v := nI (1)) dG_found_16 (by decide) ?_
      refine x_icmp_eq F (tgt := 30) dG_found_17 (by decide) (fun c3 => ?_) (fun c3 => ?_)
      · skip
        exact absurd c3 hw1
      · skip
        exact yT (tx := "no such row found, or no such what") F hfl hex x_ok2 klG_91 kqJI knJI kcG_found (by decide) (by decide) dG_found_20 dG_found_23 dG_found_24 dG_found_26 dG_found_29 (Nat.le_of_ble_eq_true rfl) (Nat.le_of_ble_eq_true rfl) (Nat.le_of_ble_eq_true rfl) (Nat.le_of_ble_eq_true rfl) (Nat.le_of_ble_eq_true rfl) (Nat.le_of_ble_eq_true rfl) (fun n' hn' => ⟨hn', rfl⟩)
set_option maxHeartbeats 4000000 in
set_option maxRecDepth 100000 in
theorem cG_row0 (l : Launch) (nx : Nat) (M : xH) (g : Nat) (γ : gS) (hG : gIs M g γ) (k : Nat) (hk : k < (γ.2.2.2.1 γ.2.1).2.2.2.2.2.2.1) : xC l xcl yG_row (xw (Cond.code yG_row bG_row 4 (some .long))) ({ frames := 2, cells := 0, slots := 0, locals := 42 } : Room) [.ref (g), .int (nI (k)), .int (nI (0))] nx M (x_is (some (.long ((γ.2.2.2.1 γ.2.1).1 (k)))) nx M) := by
  obtain ⟨⟨fT, h0, h4, hfT, hpr, hπ, hπi⟩, hRd, hTr, hNo, hLi, hFi⟩ := id hG
  have hpp := hπ γ.2.1 (by omega)
  have hn40 := (hTr γ.2.1 (by omega)).2.2.2.2.2.2.2.1
  refine yC (by decide) (Nat.le_of_ble_eq_true rfl) ?_
  intro p e s m args below meth c D F hr hn
  refine x_aload_n F 0 dG_row_0 rfl rfl ?_
  refine x_get (ci := 5) F 1 (x_in inG) rfl (by decide) (x_m kfG_18) dG_row_1 h0 rfl ?_
  refine x_aload_n F 0 dG_row_4 rfl rfl ?_
  refine x_get (ci := 5) F 6 (x_in inG) rfl (by decide) (x_m kfG_46) dG_row_5 h0 rfl ?_
  refine x_aald F dG_row_8 h4 (pk_in (γ.2.1) (3) (by omega)) ?_
  rw [nI_clamp (show γ.2.1 < 2 ^ 31 by omega), hfT _ (by omega)]
  show xW p l e ({ frames := 2, cells := 0, slots := 0, locals := 42 } : Room) s m args below meth c D xcl (x_A M nx) 4 (MQ below (x_Q D xcl (x_A M nx) (x_is (some (.long ((γ.2.2.2.1 γ.2.1).1 (k)))) nx M)) args s 0 0 (x_A M nx)) 0 0 (nx) M 9 [(0, .ref (g)), (1, .int (nI (k))), (2, .int (nI (0)))] [.ref (g + 18 + 7 * γ.1 γ.2.1)]
  refine x_astore_n F [(3, .ref (g + 18 + 7 * γ.1 γ.2.1)), (0, .ref (g)), (1, .int (nI (k))), (2, .int (nI (0)))] dG_row_9 rfl (by decide) rfl ?_
  refine x_aload_n F 0 dG_row_10 rfl rfl ?_
  refine x_iload_n F 2 dG_row_11 rfl rfl ?_
  refine yV (n := 1) (As := [.int (nI (k))]) (ci := 4) F kmG_88 kiT_has ksT_has knT kcT_has (by decide +kernel) dG_row_12 (cT_has l (nx) M (g + 18 + 7 * γ.1 γ.2.1) (γ.2.2.2.1 γ.2.1).1 (γ.2.2.2.1 γ.2.1).2.1 (γ.2.2.2.1 γ.2.1).2.2.1 (γ.2.2.2.1 γ.2.1).2.2.2.1 (γ.2.2.2.1 γ.2.1).2.2.2.2.1 (γ.2.2.2.1 γ.2.1).2.2.2.2.2.1 (γ.2.2.2.1 γ.2.1).2.2.2.2.2.2.1 (γ.2.2.2.1 γ.2.1).2.2.2.2.2.2.2 (hTr γ.2.1 (by omega)) k hk) rfl (hTr γ.2.1 (by omega)).1 rfl rfl (Nat.le_of_ble_eq_true rfl) ⟨Nat.le_of_ble_eq_true rfl, Nat.le_of_ble_eq_true rfl⟩ ⟨Nat.le_of_ble_eq_true rfl, Nat.le_of_ble_eq_true rfl⟩ ?_
  refine x_if_ne F (tgt := 28) dG_row_15 (by decide) (fun c1 => ?_) (fun c1 => ?_)
  · skip
    have c1 : 1 ≠ 0 := by
      have z : ¬ (1 = 0) := fun zz => c1 ((nI_eq (a := 1) (b := 0) (by omega) (by omega)).mpr zz)
      omega
    refine x_iload_n F 3 dG_row_28 rfl rfl ?_
    refine x_tableIn F (tgt := 64) dG_row_29 (by decide) (by decide) (by rfl) (by decide) ?_
    refine x_aload_n F 0 dG_row_64 rfl rfl ?_
    refine x_iload_n F 2 dG_row_65 rfl rfl ?_
    refine yV (n := 1) (As := [.int (nI (k))]) (ci := 4) F kmG_96 kiT_codeOf ksT_codeOf knT kcT_codeOf (by decide +kernel) dG_row_66 (cT_codeOf l (nx) M (g + 18 + 7 * γ.1 γ.2.1) (γ.2.2.2.1 γ.2.1).1 (γ.2.2.2.1 γ.2.1).2.1 (γ.2.2.2.1 γ.2.1).2.2.1 (γ.2.2.2.1 γ.2.1).2.2.2.1 (γ.2.2.2.1 γ.2.1).2.2.2.2.1 (γ.2.2.2.1 γ.2.1).2.2.2.2.2.1 (γ.2.2.2.1 γ.2.1).2.2.2.2.2.2.1 (γ.2.2.2.1 γ.2.1).2.2.2.2.2.2.2 (hTr γ.2.1 (by omega)) k hk) rfl (hTr γ.2.1 (by omega)).1 rfl rfl (Nat.le_of_ble_eq_true rfl) ⟨Nat.le_of_ble_eq_true rfl, Nat.le_of_ble_eq_true rfl⟩ ⟨Nat.le_of_ble_eq_true rfl, Nat.le_of_ble_eq_true rfl⟩ ?_
    exact x_lret F hr dG_row_69 (x_is_i _ _ _)
  · skip
    have c1 : 1 = 0 := by
      exact (nI_eq (a := 1) (b := 0) (by omega) (by omega)).mp c1
    exact absurd c1 (by decide)
set_option maxHeartbeats 4000000 in
set_option maxRecDepth 100000 in
theorem cG_row1 (l : Launch) (nx : Nat) (M : xH) (g : Nat) (γ : gS) (hG : gIs M g γ) (k : Nat) (hk : k < (γ.2.2.2.1 γ.2.1).2.2.2.2.2.2.1) : xC l xcl yG_row (xw (Cond.code yG_row bG_row 4 (some .long))) ({ frames := 2, cells := 0, slots := 0, locals := 42 } : Room) [.ref (g), .int (nI (k)), .int (nI (1))] nx M (x_is (some (.long (((γ.2.2.2.1 γ.2.1).2.1 (k)).toInt64))) nx M) := by
  obtain ⟨⟨fT, h0, h4, hfT, hpr, hπ, hπi⟩, hRd, hTr, hNo, hLi, hFi⟩ := id hG
  have hpp := hπ γ.2.1 (by omega)
  have hn40 := (hTr γ.2.1 (by omega)).2.2.2.2.2.2.2.1
  refine yC (by decide) (Nat.le_of_ble_eq_true rfl) ?_
  intro p e s m args below meth c D F hr hn
  refine x_aload_n F 0 dG_row_0 rfl rfl ?_
  refine x_get (ci := 5) F 1 (x_in inG) rfl (by decide) (x_m kfG_18) dG_row_1 h0 rfl ?_
  refine x_aload_n F 0 dG_row_4 rfl rfl ?_
  refine x_get (ci := 5) F 6 (x_in inG) rfl (by decide) (x_m kfG_46) dG_row_5 h0 rfl ?_
  refine x_aald F dG_row_8 h4 (pk_in (γ.2.1) (3) (by omega)) ?_
  rw [nI_clamp (show γ.2.1 < 2 ^ 31 by omega), hfT _ (by omega)]
  show xW p l e ({ frames := 2, cells := 0, slots := 0, locals := 42 } : Room) s m args below meth c D xcl (x_A M nx) 4 (MQ below (x_Q D xcl (x_A M nx) (x_is (some (.long (((γ.2.2.2.1 γ.2.1).2.1 (k)).toInt64))) nx M)) args s 0 0 (x_A M nx)) 0 0 (nx) M 9 [(0, .ref (g)), (1, .int (nI (k))), (2, .int (nI (1)))] [.ref (g + 18 + 7 * γ.1 γ.2.1)]
  refine x_astore_n F [(3, .ref (g + 18 + 7 * γ.1 γ.2.1)), (0, .ref (g)), (1, .int (nI (k))), (2, .int (nI (1)))] dG_row_9 rfl (by decide) rfl ?_
  refine x_aload_n F 0 dG_row_10 rfl rfl ?_
  refine x_iload_n F 2 dG_row_11 rfl rfl ?_
  refine yV (n := 1) (As := [.int (nI (k))]) (ci := 4) F kmG_88 kiT_has ksT_has knT kcT_has (by decide +kernel) dG_row_12 (cT_has l (nx) M (g + 18 + 7 * γ.1 γ.2.1) (γ.2.2.2.1 γ.2.1).1 (γ.2.2.2.1 γ.2.1).2.1 (γ.2.2.2.1 γ.2.1).2.2.1 (γ.2.2.2.1 γ.2.1).2.2.2.1 (γ.2.2.2.1 γ.2.1).2.2.2.2.1 (γ.2.2.2.1 γ.2.1).2.2.2.2.2.1 (γ.2.2.2.1 γ.2.1).2.2.2.2.2.2.1 (γ.2.2.2.1 γ.2.1).2.2.2.2.2.2.2 (hTr γ.2.1 (by omega)) k hk) rfl (hTr γ.2.1 (by omega)).1 rfl rfl (Nat.le_of_ble_eq_true rfl) ⟨Nat.le_of_ble_eq_true rfl, Nat.le_of_ble_eq_true rfl⟩ ⟨Nat.le_of_ble_eq_true rfl, Nat.le_of_ble_eq_true rfl⟩ ?_
  refine x_if_ne F (tgt := 28) dG_row_15 (by decide) (fun c1 => ?_) (fun c1 => ?_)
  · skip
    have c1 : 1 ≠ 0 := by
      have z : ¬ (1 = 0) := fun zz => c1 ((nI_eq (a := 1) (b := 0) (by omega) (by omega)).mpr zz)
      omega
    refine x_iload_n F 3 dG_row_28 rfl rfl ?_
    refine x_tableIn F (tgt := 70) dG_row_29 (by decide) (by decide) (by rfl) (by decide) ?_
    refine x_aload_n F 0 dG_row_70 rfl rfl ?_
    refine x_iload_n F 2 dG_row_71 rfl rfl ?_
    refine yV (n := 1) (As := [.int (nI (k))]) (ci := 4) F kmG_100 kiT_dashesOf ksT_dashesOf knT kcT_dashesOf (by decide +kernel) dG_row_72 (cT_dashesOf l (nx) M (g + 18 + 7 * γ.1 γ.2.1) (γ.2.2.2.1 γ.2.1).1 (γ.2.2.2.1 γ.2.1).2.1 (γ.2.2.2.1 γ.2.1).2.2.1 (γ.2.2.2.1 γ.2.1).2.2.2.1 (γ.2.2.2.1 γ.2.1).2.2.2.2.1 (γ.2.2.2.1 γ.2.1).2.2.2.2.2.1 (γ.2.2.2.1 γ.2.1).2.2.2.2.2.2.1 (γ.2.2.2.1 γ.2.1).2.2.2.2.2.2.2 (hTr γ.2.1 (by omega)) k hk) rfl (hTr γ.2.1 (by omega)).1 rfl rfl (Nat.le_of_ble_eq_true rfl) ⟨Nat.le_of_ble_eq_true rfl, Nat.le_of_ble_eq_true rfl⟩ ⟨Nat.le_of_ble_eq_true rfl, Nat.le_of_ble_eq_true rfl⟩ ?_
    refine x_i2l F dG_row_75 ?_
    exact x_lret F hr dG_row_76 (x_is_i _ _ _)
  · skip
    have c1 : 1 = 0 := by
      exact (nI_eq (a := 1) (b := 0) (by omega) (by omega)).mp c1
    exact absurd c1 (by decide)
set_option maxHeartbeats 4000000 in
set_option maxRecDepth 100000 in
theorem cG_row2 (l : Launch) (nx : Nat) (M : xH) (g : Nat) (γ : gS) (hG : gIs M g γ) (k : Nat) (hk : k < (γ.2.2.2.1 γ.2.1).2.2.2.2.2.2.1) : xC l xcl yG_row (xw (Cond.code yG_row bG_row 4 (some .long))) ({ frames := 2, cells := 0, slots := 0, locals := 42 } : Room) [.ref (g), .int (nI (k)), .int (nI (2))] nx M (x_is (some (.long (((γ.2.2.2.1 γ.2.1).2.2.2.2.1 (k)).toInt64))) nx M) := by
  obtain ⟨⟨fT, h0, h4, hfT, hpr, hπ, hπi⟩, hRd, hTr, hNo, hLi, hFi⟩ := id hG
  have hpp := hπ γ.2.1 (by omega)
  have hn40 := (hTr γ.2.1 (by omega)).2.2.2.2.2.2.2.1
  refine yC (by decide) (Nat.le_of_ble_eq_true rfl) ?_
  intro p e s m args below meth c D F hr hn
  refine x_aload_n F 0 dG_row_0 rfl rfl ?_
  refine x_get (ci := 5) F 1 (x_in inG) rfl (by decide) (x_m kfG_18) dG_row_1 h0 rfl ?_
  refine x_aload_n F 0 dG_row_4 rfl rfl ?_
  refine x_get (ci := 5) F 6 (x_in inG) rfl (by decide) (x_m kfG_46) dG_row_5 h0 rfl ?_
  refine x_aald F dG_row_8 h4 (pk_in (γ.2.1) (3) (by omega)) ?_
  rw [nI_clamp (show γ.2.1 < 2 ^ 31 by omega), hfT _ (by omega)]
  show xW p l e ({ frames := 2, cells := 0, slots := 0, locals := 42 } : Room) s m args below meth c D xcl (x_A M nx) 4 (MQ below (x_Q D xcl (x_A M nx) (x_is (some (.long (((γ.2.2.2.1 γ.2.1).2.2.2.2.1 (k)).toInt64))) nx M)) args s 0 0 (x_A M nx)) 0 0 (nx) M 9 [(0, .ref (g)), (1, .int (nI (k))), (2, .int (nI (2)))] [.ref (g + 18 + 7 * γ.1 γ.2.1)]
  refine x_astore_n F [(3, .ref (g + 18 + 7 * γ.1 γ.2.1)), (0, .ref (g)), (1, .int (nI (k))), (2, .int (nI (2)))] dG_row_9 rfl (by decide) rfl ?_
  refine x_aload_n F 0 dG_row_10 rfl rfl ?_
  refine x_iload_n F 2 dG_row_11 rfl rfl ?_
  refine yV (n := 1) (As := [.int (nI (k))]) (ci := 4) F kmG_88 kiT_has ksT_has knT kcT_has (by decide +kernel) dG_row_12 (cT_has l (nx) M (g + 18 + 7 * γ.1 γ.2.1) (γ.2.2.2.1 γ.2.1).1 (γ.2.2.2.1 γ.2.1).2.1 (γ.2.2.2.1 γ.2.1).2.2.1 (γ.2.2.2.1 γ.2.1).2.2.2.1 (γ.2.2.2.1 γ.2.1).2.2.2.2.1 (γ.2.2.2.1 γ.2.1).2.2.2.2.2.1 (γ.2.2.2.1 γ.2.1).2.2.2.2.2.2.1 (γ.2.2.2.1 γ.2.1).2.2.2.2.2.2.2 (hTr γ.2.1 (by omega)) k hk) rfl (hTr γ.2.1 (by omega)).1 rfl rfl (Nat.le_of_ble_eq_true rfl) ⟨Nat.le_of_ble_eq_true rfl, Nat.le_of_ble_eq_true rfl⟩ ⟨Nat.le_of_ble_eq_true rfl, Nat.le_of_ble_eq_true rfl⟩ ?_
  refine x_if_ne F (tgt := 28) dG_row_15 (by decide) (fun c1 => ?_) (fun c1 => ?_)
  · skip
    have c1 : 1 ≠ 0 := by
      have z : ¬ (1 = 0) := fun zz => c1 ((nI_eq (a := 1) (b := 0) (by omega) (by omega)).mpr zz)
      omega
    refine x_iload_n F 3 dG_row_28 rfl rfl ?_
    refine x_tableIn F (tgt := 77) dG_row_29 (by decide) (by decide) (by rfl) (by decide) ?_
    refine x_aload_n F 0 dG_row_77 rfl rfl ?_
    refine x_iload_n F 2 dG_row_78 rfl rfl ?_
    refine yV (n := 1) (As := [.int (nI (k))]) (ci := 4) F kmG_104 kiT_wordsOf ksT_wordsOf knT kcT_wordsOf (by decide +kernel) dG_row_79 (cT_wordsOf l (nx) M (g + 18 + 7 * γ.1 γ.2.1) (γ.2.2.2.1 γ.2.1).1 (γ.2.2.2.1 γ.2.1).2.1 (γ.2.2.2.1 γ.2.1).2.2.1 (γ.2.2.2.1 γ.2.1).2.2.2.1 (γ.2.2.2.1 γ.2.1).2.2.2.2.1 (γ.2.2.2.1 γ.2.1).2.2.2.2.2.1 (γ.2.2.2.1 γ.2.1).2.2.2.2.2.2.1 (γ.2.2.2.1 γ.2.1).2.2.2.2.2.2.2 (hTr γ.2.1 (by omega)) k hk) rfl (hTr γ.2.1 (by omega)).1 rfl rfl (Nat.le_of_ble_eq_true rfl) ⟨Nat.le_of_ble_eq_true rfl, Nat.le_of_ble_eq_true rfl⟩ ⟨Nat.le_of_ble_eq_true rfl, Nat.le_of_ble_eq_true rfl⟩ ?_
    refine x_i2l F dG_row_82 ?_
    exact x_lret F hr dG_row_83 (x_is_i _ _ _)
  · skip
    have c1 : 1 = 0 := by
      exact (nI_eq (a := 1) (b := 0) (by omega) (by omega)).mp c1
    exact absurd c1 (by decide)
set_option maxHeartbeats 4000000 in
set_option maxRecDepth 100000 in
theorem cG_row4 (l : Launch) (nx : Nat) (M : xH) (g : Nat) (γ : gS) (hG : gIs M g γ) (k : Nat) (hk : k < (γ.2.2.2.1 γ.2.1).2.2.2.2.2.2.1) : xC l xcl yG_row (xw (Cond.code yG_row bG_row 4 (some .long))) ({ frames := 2, cells := 0, slots := 0, locals := 42 } : Room) [.ref (g), .int (nI (k)), .int (nI (4))] nx M (x_is (some (.long (((γ.2.2.2.1 γ.2.1).2.2.2.1 (k)).toInt64))) nx M) := by
  obtain ⟨⟨fT, h0, h4, hfT, hpr, hπ, hπi⟩, hRd, hTr, hNo, hLi, hFi⟩ := id hG
  have hpp := hπ γ.2.1 (by omega)
  have hn40 := (hTr γ.2.1 (by omega)).2.2.2.2.2.2.2.1
  refine yC (by decide) (Nat.le_of_ble_eq_true rfl) ?_
  intro p e s m args below meth c D F hr hn
  refine x_aload_n F 0 dG_row_0 rfl rfl ?_
  refine x_get (ci := 5) F 1 (x_in inG) rfl (by decide) (x_m kfG_18) dG_row_1 h0 rfl ?_
  refine x_aload_n F 0 dG_row_4 rfl rfl ?_
  refine x_get (ci := 5) F 6 (x_in inG) rfl (by decide) (x_m kfG_46) dG_row_5 h0 rfl ?_
  refine x_aald F dG_row_8 h4 (pk_in (γ.2.1) (3) (by omega)) ?_
  rw [nI_clamp (show γ.2.1 < 2 ^ 31 by omega), hfT _ (by omega)]
  show xW p l e ({ frames := 2, cells := 0, slots := 0, locals := 42 } : Room) s m args below meth c D xcl (x_A M nx) 4 (MQ below (x_Q D xcl (x_A M nx) (x_is (some (.long (((γ.2.2.2.1 γ.2.1).2.2.2.1 (k)).toInt64))) nx M)) args s 0 0 (x_A M nx)) 0 0 (nx) M 9 [(0, .ref (g)), (1, .int (nI (k))), (2, .int (nI (4)))] [.ref (g + 18 + 7 * γ.1 γ.2.1)]
  refine x_astore_n F [(3, .ref (g + 18 + 7 * γ.1 γ.2.1)), (0, .ref (g)), (1, .int (nI (k))), (2, .int (nI (4)))] dG_row_9 rfl (by decide) rfl ?_
  refine x_aload_n F 0 dG_row_10 rfl rfl ?_
  refine x_iload_n F 2 dG_row_11 rfl rfl ?_
  refine yV (n := 1) (As := [.int (nI (k))]) (ci := 4) F kmG_88 kiT_has ksT_has knT kcT_has (by decide +kernel) dG_row_12 (cT_has l (nx) M (g + 18 + 7 * γ.1 γ.2.1) (γ.2.2.2.1 γ.2.1).1 (γ.2.2.2.1 γ.2.1).2.1 (γ.2.2.2.1 γ.2.1).2.2.1 (γ.2.2.2.1 γ.2.1).2.2.2.1 (γ.2.2.2.1 γ.2.1).2.2.2.2.1 (γ.2.2.2.1 γ.2.1).2.2.2.2.2.1 (γ.2.2.2.1 γ.2.1).2.2.2.2.2.2.1 (γ.2.2.2.1 γ.2.1).2.2.2.2.2.2.2 (hTr γ.2.1 (by omega)) k hk) rfl (hTr γ.2.1 (by omega)).1 rfl rfl (Nat.le_of_ble_eq_true rfl) ⟨Nat.le_of_ble_eq_true rfl, Nat.le_of_ble_eq_true rfl⟩ ⟨Nat.le_of_ble_eq_true rfl, Nat.le_of_ble_eq_true rfl⟩ ?_
  refine x_if_ne F (tgt := 28) dG_row_15 (by decide) (fun c1 => ?_) (fun c1 => ?_)
  · skip
    have c1 : 1 ≠ 0 := by
      have z : ¬ (1 = 0) := fun zz => c1 ((nI_eq (a := 1) (b := 0) (by omega) (by omega)).mpr zz)
      omega
    refine x_iload_n F 3 dG_row_28 rfl rfl ?_
    refine x_tableIn F (tgt := 94) dG_row_29 (by decide) (by decide) (by rfl) (by decide) ?_
    refine x_aload_n F 0 dG_row_94 rfl rfl ?_
    refine x_iload_n F 2 dG_row_95 rfl rfl ?_
    refine yV (n := 1) (As := [.int (nI (k))]) (ci := 4) F kmG_110 kiT_childrenOf ksT_childrenOf knT kcT_childrenOf (by decide +kernel) dG_row_96 (cT_childrenOf l (nx) M (g + 18 + 7 * γ.1 γ.2.1) (γ.2.2.2.1 γ.2.1).1 (γ.2.2.2.1 γ.2.1).2.1 (γ.2.2.2.1 γ.2.1).2.2.1 (γ.2.2.2.1 γ.2.1).2.2.2.1 (γ.2.2.2.1 γ.2.1).2.2.2.2.1 (γ.2.2.2.1 γ.2.1).2.2.2.2.2.1 (γ.2.2.2.1 γ.2.1).2.2.2.2.2.2.1 (γ.2.2.2.1 γ.2.1).2.2.2.2.2.2.2 (hTr γ.2.1 (by omega)) k hk) rfl (hTr γ.2.1 (by omega)).1 rfl rfl (Nat.le_of_ble_eq_true rfl) ⟨Nat.le_of_ble_eq_true rfl, Nat.le_of_ble_eq_true rfl⟩ ⟨Nat.le_of_ble_eq_true rfl, Nat.le_of_ble_eq_true rfl⟩ ?_
    refine x_i2l F dG_row_99 ?_
    exact x_lret F hr dG_row_100 (x_is_i _ _ _)
  · skip
    have c1 : 1 = 0 := by
      exact (nI_eq (a := 1) (b := 0) (by omega) (by omega)).mp c1
    exact absurd c1 (by decide)
set_option maxHeartbeats 4000000 in
set_option maxRecDepth 100000 in
theorem cG_row3s (l : Launch) (nx : Nat) (M : xH) (g : Nat) (γ : gS) (hG : gIs M g γ) (k : Nat) (hk : k < (γ.2.2.2.1 γ.2.1).2.2.2.2.2.2.1) (j : Nat) (hj : j < (γ.2.2.2.1 γ.2.1).2.2.2.2.2.2.1) (hp : (γ.2.2.2.1 γ.2.1).2.2.1 k = nI j) : xC l xcl yG_row (xw (Cond.code yG_row bG_row 4 (some .long))) ({ frames := 2, cells := 0, slots := 0, locals := 42 } : Room) [.ref (g), .int (nI (k)), .int (nI (3))] nx M (x_is (some (.long ((γ.2.2.2.1 γ.2.1).1 (j)))) nx M) := by
  obtain ⟨⟨fT, h0, h4, hfT, hpr, hπ, hπi⟩, hRd, hTr, hNo, hLi, hFi⟩ := id hG
  have hpp := hπ γ.2.1 (by omega)
  have hn40 := (hTr γ.2.1 (by omega)).2.2.2.2.2.2.2.1
  refine yC (by decide) (Nat.le_of_ble_eq_true rfl) ?_
  intro p e s m args below meth c D F hr hn
  refine x_aload_n F 0 dG_row_0 rfl rfl ?_
  refine x_get (ci := 5) F 1 (x_in inG) rfl (by decide) (x_m kfG_18) dG_row_1 h0 rfl ?_
  refine x_aload_n F 0 dG_row_4 rfl rfl ?_
  refine x_get (ci := 5) F 6 (x_in inG) rfl (by decide) (x_m kfG_46) dG_row_5 h0 rfl ?_
  refine x_aald F dG_row_8 h4 (pk_in (γ.2.1) (3) (by omega)) ?_
  rw [nI_clamp (show γ.2.1 < 2 ^ 31 by omega), hfT _ (by omega)]
  show xW p l e ({ frames := 2, cells := 0, slots := 0, locals := 42 } : Room) s m args below meth c D xcl (x_A M nx) 4 (MQ below (x_Q D xcl (x_A M nx) (x_is (some (.long ((γ.2.2.2.1 γ.2.1).1 (j)))) nx M)) args s 0 0 (x_A M nx)) 0 0 (nx) M 9 [(0, .ref (g)), (1, .int (nI (k))), (2, .int (nI (3)))] [.ref (g + 18 + 7 * γ.1 γ.2.1)]
  refine x_astore_n F [(3, .ref (g + 18 + 7 * γ.1 γ.2.1)), (0, .ref (g)), (1, .int (nI (k))), (2, .int (nI (3)))] dG_row_9 rfl (by decide) rfl ?_
  refine x_aload_n F 0 dG_row_10 rfl rfl ?_
  refine x_iload_n F 2 dG_row_11 rfl rfl ?_
  refine yV (n := 1) (As := [.int (nI (k))]) (ci := 4) F kmG_88 kiT_has ksT_has knT kcT_has (by decide +kernel) dG_row_12 (cT_has l (nx) M (g + 18 + 7 * γ.1 γ.2.1) (γ.2.2.2.1 γ.2.1).1 (γ.2.2.2.1 γ.2.1).2.1 (γ.2.2.2.1 γ.2.1).2.2.1 (γ.2.2.2.1 γ.2.1).2.2.2.1 (γ.2.2.2.1 γ.2.1).2.2.2.2.1 (γ.2.2.2.1 γ.2.1).2.2.2.2.2.1 (γ.2.2.2.1 γ.2.1).2.2.2.2.2.2.1 (γ.2.2.2.1 γ.2.1).2.2.2.2.2.2.2 (hTr γ.2.1 (by omega)) k hk) rfl (hTr γ.2.1 (by omega)).1 rfl rfl (Nat.le_of_ble_eq_true rfl) ⟨Nat.le_of_ble_eq_true rfl, Nat.le_of_ble_eq_true rfl⟩ ⟨Nat.le_of_ble_eq_true rfl, Nat.le_of_ble_eq_true rfl⟩ ?_
  refine x_if_ne F (tgt := 28) dG_row_15 (by decide) (fun c1 => ?_) (fun c1 => ?_)
  · skip
    have c1 : 1 ≠ 0 := by
      have z : ¬ (1 = 0) := fun zz => c1 ((nI_eq (a := 1) (b := 0) (by omega) (by omega)).mpr zz)
      omega
    refine x_iload_n F 3 dG_row_28 rfl rfl ?_
    refine x_tableIn F (tgt := 84) dG_row_29 (by decide) (by decide) (by rfl) (by decide) ?_
    refine x_aload_n F 0 dG_row_84 rfl rfl ?_
    refine x_aload_n F 0 dG_row_85 rfl rfl ?_
    refine x_iload_n F 2 dG_row_86 rfl rfl ?_
    refine yV (n := 1) (As := [.int (nI (k))]) (ci := 4) F kmG_107 kiT_parentOf ksT_parentOf knT kcT_parentOf (by decide +kernel) dG_row_87 (cT_parentOf l (nx) M (g + 18 + 7 * γ.1 γ.2.1) (γ.2.2.2.1 γ.2.1).1 (γ.2.2.2.1 γ.2.1).2.1 (γ.2.2.2.1 γ.2.1).2.2.1 (γ.2.2.2.1 γ.2.1).2.2.2.1 (γ.2.2.2.1 γ.2.1).2.2.2.2.1 (γ.2.2.2.1 γ.2.1).2.2.2.2.2.1 (γ.2.2.2.1 γ.2.1).2.2.2.2.2.2.1 (γ.2.2.2.1 γ.2.1).2.2.2.2.2.2.2 (hTr γ.2.1 (by omega)) k hk) rfl (hTr γ.2.1 (by omega)).1 rfl rfl (Nat.le_of_ble_eq_true rfl) ⟨Nat.le_of_ble_eq_true rfl, Nat.le_of_ble_eq_true rfl⟩ ⟨Nat.le_of_ble_eq_true rfl, Nat.le_of_ble_eq_true rfl⟩ ?_
    refine xW.toi (nI j) hp ?_
    refine yV (n := 1) (As := [.int (nI (j))]) (ci := 4) F kmG_96 kiT_codeOf ksT_codeOf knT kcT_codeOf (by decide +kernel) dG_row_90 (cT_codeOf l (nx) M (g + 18 + 7 * γ.1 γ.2.1) (γ.2.2.2.1 γ.2.1).1 (γ.2.2.2.1 γ.2.1).2.1 (γ.2.2.2.1 γ.2.1).2.2.1 (γ.2.2.2.1 γ.2.1).2.2.2.1 (γ.2.2.2.1 γ.2.1).2.2.2.2.1 (γ.2.2.2.1 γ.2.1).2.2.2.2.2.1 (γ.2.2.2.1 γ.2.1).2.2.2.2.2.2.1 (γ.2.2.2.1 γ.2.1).2.2.2.2.2.2.2 (hTr γ.2.1 (by omega)) j hj) rfl (hTr γ.2.1 (by omega)).1 rfl rfl (Nat.le_of_ble_eq_true rfl) ⟨Nat.le_of_ble_eq_true rfl, Nat.le_of_ble_eq_true rfl⟩ ⟨Nat.le_of_ble_eq_true rfl, Nat.le_of_ble_eq_true rfl⟩ ?_
    exact x_lret F hr dG_row_93 (x_is_i _ _ _)
  · skip
    have c1 : 1 = 0 := by
      exact (nI_eq (a := 1) (b := 0) (by omega) (by omega)).mp c1
    exact absurd c1 (by decide)
set_option maxHeartbeats 4000000 in
set_option maxRecDepth 100000 in
theorem cG_row3n (l : Launch) (nx : Nat) (M : xH) (g : Nat) (γ : gS) (hG : gIs M g γ) (k : Nat) (hk : k < (γ.2.2.2.1 γ.2.1).2.2.2.2.2.2.1) (hp : (γ.2.2.2.1 γ.2.1).2.2.1 k = -1) : xC l xcl yG_row (xw (Cond.code yG_row bG_row 4 (some .long))) ({ frames := 2, cells := 0, slots := 0, locals := 42 } : Room) [.ref (g), .int (nI (k)), .int (nI (3))] nx M (x_is (some (.long (0))) nx M) := by
  obtain ⟨⟨fT, h0, h4, hfT, hpr, hπ, hπi⟩, hRd, hTr, hNo, hLi, hFi⟩ := id hG
  have hpp := hπ γ.2.1 (by omega)
  have hn40 := (hTr γ.2.1 (by omega)).2.2.2.2.2.2.2.1
  refine yC (by decide) (Nat.le_of_ble_eq_true rfl) ?_
  intro p e s m args below meth c D F hr hn
  refine x_aload_n F 0 dG_row_0 rfl rfl ?_
  refine x_get (ci := 5) F 1 (x_in inG) rfl (by decide) (x_m kfG_18) dG_row_1 h0 rfl ?_
  refine x_aload_n F 0 dG_row_4 rfl rfl ?_
  refine x_get (ci := 5) F 6 (x_in inG) rfl (by decide) (x_m kfG_46) dG_row_5 h0 rfl ?_
  refine x_aald F dG_row_8 h4 (pk_in (γ.2.1) (3) (by omega)) ?_
  rw [nI_clamp (show γ.2.1 < 2 ^ 31 by omega), hfT _ (by omega)]
  show xW p l e ({ frames := 2, cells := 0, slots := 0, locals := 42 } : Room) s m args below meth c D xcl (x_A M nx) 4 (MQ below (x_Q D xcl (x_A M nx) (x_is (some (.long (0))) nx M)) args s 0 0 (x_A M nx)) 0 0 (nx) M 9 [(0, .ref (g)), (1, .int (nI (k))), (2, .int (nI (3)))] [.ref (g + 18 + 7 * γ.1 γ.2.1)]
  refine x_astore_n F [(3, .ref (g + 18 + 7 * γ.1 γ.2.1)), (0, .ref (g)), (1, .int (nI (k))), (2, .int (nI (3)))] dG_row_9 rfl (by decide) rfl ?_
  refine x_aload_n F 0 dG_row_10 rfl rfl ?_
  refine x_iload_n F 2 dG_row_11 rfl rfl ?_
  refine yV (n := 1) (As := [.int (nI (k))]) (ci := 4) F kmG_88 kiT_has ksT_has knT kcT_has (by decide +kernel) dG_row_12 (cT_has l (nx) M (g + 18 + 7 * γ.1 γ.2.1) (γ.2.2.2.1 γ.2.1).1 (γ.2.2.2.1 γ.2.1).2.1 (γ.2.2.2.1 γ.2.1).2.2.1 (γ.2.2.2.1 γ.2.1).2.2.2.1 (γ.2.2.2.1 γ.2.1).2.2.2.2.1 (γ.2.2.2.1 γ.2.1).2.2.2.2.2.1 (γ.2.2.2.1 γ.2.1).2.2.2.2.2.2.1 (γ.2.2.2.1 γ.2.1).2.2.2.2.2.2.2 (hTr γ.2.1 (by omega)) k hk) rfl (hTr γ.2.1 (by omega)).1 rfl rfl (Nat.le_of_ble_eq_true rfl) ⟨Nat.le_of_ble_eq_true rfl, Nat.le_of_ble_eq_true rfl⟩ ⟨Nat.le_of_ble_eq_true rfl, Nat.le_of_ble_eq_true rfl⟩ ?_
  refine x_if_ne F (tgt := 28) dG_row_15 (by decide) (fun c1 => ?_) (fun c1 => ?_)
  · skip
    have c1 : 1 ≠ 0 := by
      have z : ¬ (1 = 0) := fun zz => c1 ((nI_eq (a := 1) (b := 0) (by omega) (by omega)).mpr zz)
      omega
    refine x_iload_n F 3 dG_row_28 rfl rfl ?_
    refine x_tableIn F (tgt := 84) dG_row_29 (by decide) (by decide) (by rfl) (by decide) ?_
    refine x_aload_n F 0 dG_row_84 rfl rfl ?_
    refine x_aload_n F 0 dG_row_85 rfl rfl ?_
    refine x_iload_n F 2 dG_row_86 rfl rfl ?_
    refine yV (n := 1) (As := [.int (nI (k))]) (ci := 4) F kmG_107 kiT_parentOf ksT_parentOf knT kcT_parentOf (by decide +kernel) dG_row_87 (cT_parentOf l (nx) M (g + 18 + 7 * γ.1 γ.2.1) (γ.2.2.2.1 γ.2.1).1 (γ.2.2.2.1 γ.2.1).2.1 (γ.2.2.2.1 γ.2.1).2.2.1 (γ.2.2.2.1 γ.2.1).2.2.2.1 (γ.2.2.2.1 γ.2.1).2.2.2.2.1 (γ.2.2.2.1 γ.2.1).2.2.2.2.2.1 (γ.2.2.2.1 γ.2.1).2.2.2.2.2.2.1 (γ.2.2.2.1 γ.2.1).2.2.2.2.2.2.2 (hTr γ.2.1 (by omega)) k hk) rfl (hTr γ.2.1 (by omega)).1 rfl rfl (Nat.le_of_ble_eq_true rfl) ⟨Nat.le_of_ble_eq_true rfl, Nat.le_of_ble_eq_true rfl⟩ ⟨Nat.le_of_ble_eq_true rfl, Nat.le_of_ble_eq_true rfl⟩ ?_
    refine xW.toi (-1) hp ?_
    refine yV (n := 1) (As := [.int ((-1))]) (ci := 4) F kmG_96 kiT_codeOf ksT_codeOf knT kcT_codeOf (by decide +kernel) dG_row_90 (cT_codeOfN l (nx) M (g + 18 + 7 * γ.1 γ.2.1) (γ.2.2.2.1 γ.2.1).1 (γ.2.2.2.1 γ.2.1).2.1 (γ.2.2.2.1 γ.2.1).2.2.1 (γ.2.2.2.1 γ.2.1).2.2.2.1 (γ.2.2.2.1 γ.2.1).2.2.2.2.1 (γ.2.2.2.1 γ.2.1).2.2.2.2.2.1 (γ.2.2.2.1 γ.2.1).2.2.2.2.2.2.1 (γ.2.2.2.1 γ.2.1).2.2.2.2.2.2.2 (hTr γ.2.1 (by omega)) (-1) (m1_out _)) rfl (hTr γ.2.1 (by omega)).1 rfl rfl (Nat.le_of_ble_eq_true rfl) ⟨Nat.le_of_ble_eq_true rfl, Nat.le_of_ble_eq_true rfl⟩ ⟨Nat.le_of_ble_eq_true rfl, Nat.le_of_ble_eq_true rfl⟩ ?_
    exact x_lret F hr dG_row_93 (x_is_i _ _ _)
  · skip
    have c1 : 1 = 0 := by
      exact (nI_eq (a := 1) (b := 0) (by omega) (by omega)).mp c1
    exact absurd c1 (by decide)
set_option maxHeartbeats 4000000 in
set_option maxRecDepth 100000 in
theorem cG_rowT (l : Launch) (hfl : x_fl l) (nx : Nat) (M : xH) (g : Nat) (γ : gS) (hG : gIs M g γ) (ii : Int32) (hi : ¬ vp_in ii (γ.2.2.2.1 γ.2.1).2.2.2.2.2.2.1) (wh : Int32) : xT_ l xcl yG_row (xw (Cond.code yG_row bG_row 4 (some .long))) ({ frames := 6, cells := 1, slots := 6, locals := 90 } : Room) [.ref (g), .int (ii), .int (wh)] nx M "java/lang/IndexOutOfBoundsException" (kPost nx M) := by
  obtain ⟨⟨fT, h0, h4, hfT, hpr, hπ, hπi⟩, hRd, hTr, hNo, hLi, hFi⟩ := id hG
  have hpp := hπ γ.2.1 (by omega)
  have hn40 := (hTr γ.2.1 (by omega)).2.2.2.2.2.2.2.1
  refine yCT (by decide) (Nat.le_of_ble_eq_true rfl) ?_
  intro p e s m args below meth c D F hr hex
  refine x_aload_n F 0 dG_row_0 rfl rfl ?_
  refine x_get (ci := 5) F 1 (x_in inG) rfl (by decide) (x_m kfG_18) dG_row_1 h0 rfl ?_
  refine x_aload_n F 0 dG_row_4 rfl rfl ?_
  refine x_get (ci := 5) F 6 (x_in inG) rfl (by decide) (x_m kfG_46) dG_row_5 h0 rfl ?_
  refine x_aald F dG_row_8 h4 (pk_in (γ.2.1) (3) (by omega)) ?_
  rw [nI_clamp (show γ.2.1 < 2 ^ 31 by omega), hfT _ (by omega)]
  show xW p l e ({ frames := 6, cells := 1, slots := 6, locals := 90 } : Room) s m args below meth c D xcl (x_A M nx) 4 (x_MQT below D xcl (x_A M nx) "java/lang/IndexOutOfBoundsException" (kPost nx M) s 1 6) 0 0 (nx) M 9 [(0, .ref (g)), (1, .int (ii)), (2, .int (wh))] [.ref (g + 18 + 7 * γ.1 γ.2.1)]
  refine x_astore_n F [(3, .ref (g + 18 + 7 * γ.1 γ.2.1)), (0, .ref (g)), (1, .int (ii)), (2, .int (wh))] dG_row_9 rfl (by decide) rfl ?_
  refine x_aload_n F 0 dG_row_10 rfl rfl ?_
  refine x_iload_n F 2 dG_row_11 rfl rfl ?_
  refine yV (n := 1) (As := [.int (ii)]) (ci := 4) F kmG_88 kiT_has ksT_has knT kcT_has (by decide +kernel) dG_row_12 (cT_hasN l (nx) M (g + 18 + 7 * γ.1 γ.2.1) (γ.2.2.2.1 γ.2.1).1 (γ.2.2.2.1 γ.2.1).2.1 (γ.2.2.2.1 γ.2.1).2.2.1 (γ.2.2.2.1 γ.2.1).2.2.2.1 (γ.2.2.2.1 γ.2.1).2.2.2.2.1 (γ.2.2.2.1 γ.2.1).2.2.2.2.2.1 (γ.2.2.2.1 γ.2.1).2.2.2.2.2.2.1 (γ.2.2.2.1 γ.2.1).2.2.2.2.2.2.2 (hTr γ.2.1 (by omega)) ii hi) rfl (hTr γ.2.1 (by omega)).1 rfl rfl (Nat.le_of_ble_eq_true rfl) ⟨Nat.le_of_ble_eq_true rfl, Nat.le_of_ble_eq_true rfl⟩ ⟨Nat.le_of_ble_eq_true rfl, Nat.le_of_ble_eq_true rfl⟩ ?_
  refine x_if_ne F (tgt := 28) dG_row_15 (by decide) (fun c1 => ?_) (fun c1 => ?_)
  · skip
    have c1 : 0 ≠ 0 := by
      have z : ¬ (0 = 0) := fun zz => c1 ((nI_eq (a := 0) (b := 0) (by omega) (by omega)).mpr zz)
      omega
    exact absurd c1 (by decide)
  · skip
    have c1 : 0 = 0 := by
      exact (nI_eq (a := 0) (b := 0) (by omega) (by omega)).mp c1
    exact yT (tx := "no such row") F hfl hex x_ok2 klG_91 kqJI knJI kcG_row (by decide) (by decide) dG_row_18 dG_row_21 dG_row_22 dG_row_24 dG_row_27 (Nat.le_of_ble_eq_true rfl) (Nat.le_of_ble_eq_true rfl) (Nat.le_of_ble_eq_true rfl) (Nat.le_of_ble_eq_true rfl) (Nat.le_of_ble_eq_true rfl) (Nat.le_of_ble_eq_true rfl) (fun n' hn' => ⟨hn', rfl⟩)
set_option maxHeartbeats 4000000 in
set_option maxRecDepth 100000 in
theorem cG_rowW (l : Launch) (hfl : x_fl l) (nx : Nat) (M : xH) (g : Nat) (γ : gS) (hG : gIs M g γ) (k : Nat) (hk : k < (γ.2.2.2.1 γ.2.1).2.2.2.2.2.2.1) (wh : Int32) (h5 : ¬ vp_in wh 5) : xT_ l xcl yG_row (xw (Cond.code yG_row bG_row 4 (some .long))) ({ frames := 6, cells := 1, slots := 6, locals := 90 } : Room) [.ref (g), .int (nI (k)), .int (wh)] nx M "java/lang/IndexOutOfBoundsException" (kPost nx M) := by
  obtain ⟨⟨fT, h0, h4, hfT, hpr, hπ, hπi⟩, hRd, hTr, hNo, hLi, hFi⟩ := id hG
  have hpp := hπ γ.2.1 (by omega)
  have hn40 := (hTr γ.2.1 (by omega)).2.2.2.2.2.2.2.1
  refine yCT (by decide) (Nat.le_of_ble_eq_true rfl) ?_
  intro p e s m args below meth c D F hr hex
  refine x_aload_n F 0 dG_row_0 rfl rfl ?_
  refine x_get (ci := 5) F 1 (x_in inG) rfl (by decide) (x_m kfG_18) dG_row_1 h0 rfl ?_
  refine x_aload_n F 0 dG_row_4 rfl rfl ?_
  refine x_get (ci := 5) F 6 (x_in inG) rfl (by decide) (x_m kfG_46) dG_row_5 h0 rfl ?_
  refine x_aald F dG_row_8 h4 (pk_in (γ.2.1) (3) (by omega)) ?_
  rw [nI_clamp (show γ.2.1 < 2 ^ 31 by omega), hfT _ (by omega)]
  show xW p l e ({ frames := 6, cells := 1, slots := 6, locals := 90 } : Room) s m args below meth c D xcl (x_A M nx) 4 (x_MQT below D xcl (x_A M nx) "java/lang/IndexOutOfBoundsException" (kPost nx M) s 1 6) 0 0 (nx) M 9 [(0, .ref (g)), (1, .int (nI (k))), (2, .int (wh))] [.ref (g + 18 + 7 * γ.1 γ.2.1)]
  refine x_astore_n F [(3, .ref (g + 18 + 7 * γ.1 γ.2.1)), (0, .ref (g)), (1, .int (nI (k))), (2, .int (wh))] dG_row_9 rfl (by decide) rfl ?_
  refine x_aload_n F 0 dG_row_10 rfl rfl ?_
  refine x_iload_n F 2 dG_row_11 rfl rfl ?_
  refine yV (n := 1) (As := [.int (nI (k))]) (ci := 4) F kmG_88 kiT_has ksT_has knT kcT_has (by decide +kernel) dG_row_12 (cT_has l (nx) M (g + 18 + 7 * γ.1 γ.2.1) (γ.2.2.2.1 γ.2.1).1 (γ.2.2.2.1 γ.2.1).2.1 (γ.2.2.2.1 γ.2.1).2.2.1 (γ.2.2.2.1 γ.2.1).2.2.2.1 (γ.2.2.2.1 γ.2.1).2.2.2.2.1 (γ.2.2.2.1 γ.2.1).2.2.2.2.2.1 (γ.2.2.2.1 γ.2.1).2.2.2.2.2.2.1 (γ.2.2.2.1 γ.2.1).2.2.2.2.2.2.2 (hTr γ.2.1 (by omega)) k hk) rfl (hTr γ.2.1 (by omega)).1 rfl rfl (Nat.le_of_ble_eq_true rfl) ⟨Nat.le_of_ble_eq_true rfl, Nat.le_of_ble_eq_true rfl⟩ ⟨Nat.le_of_ble_eq_true rfl, Nat.le_of_ble_eq_true rfl⟩ ?_
  refine x_if_ne F (tgt := 28) dG_row_15 (by decide) (fun c1 => ?_) (fun c1 => ?_)
  · skip
    have c1 : 1 ≠ 0 := by
      have z : ¬ (1 = 0) := fun zz => c1 ((nI_eq (a := 1) (b := 0) (by omega) (by omega)).mpr zz)
      omega
    refine x_iload_n F 3 dG_row_28 rfl rfl ?_
    refine x_tableOut F (tgt := 101) dG_row_29 (toInt_in (n := 5) (by decide) h5 rfl rfl) (by decide) ?_
    exact yT (tx := "no such what") F hfl hex x_ok2 klG_91 kqJI knJI kcG_row (by decide) (by decide) dG_row_101 dG_row_104 dG_row_105 dG_row_107 dG_row_110 (Nat.le_of_ble_eq_true rfl) (Nat.le_of_ble_eq_true rfl) (Nat.le_of_ble_eq_true rfl) (Nat.le_of_ble_eq_true rfl) (Nat.le_of_ble_eq_true rfl) (Nat.le_of_ble_eq_true rfl) (fun n' hn' => ⟨hn', rfl⟩)
  · skip
    have c1 : 1 = 0 := by
      exact (nI_eq (a := 1) (b := 0) (by omega) (by omega)).mp c1
    exact absurd c1 (by decide)
set_option maxHeartbeats 4000000 in
set_option maxRecDepth 100000 in
theorem cG_signT (l : Launch) (nx : Nat) (M : xH) (g : Nat) (γ : gS) (hG : gIs M g γ) (i : Int32) (t : Nat) (ht : t < 128) (hs : sml i = nI t) (hg : sgn (nI t) = true) (hn4 : (γ.2.2.1).2.2.2.1 < 400) : xC l xcl yG_sign (xw (Cond.code yG_sign bG_sign 2 (some .boolean))) ({ frames := 3, cells := 0, slots := 0, locals := 62 } : Room) [.ref (g), .int (i)] nx M (gPost (some (.int (nI 1))) nx M g (gRd γ (upd (γ.2.2.1).1 (γ.2.2.1).2.2.2.1 (nI t), (γ.2.2.1).2.1, (γ.2.2.1).2.2.1, (γ.2.2.1).2.2.2.1 + 1, (γ.2.2.1).2.2.2.2))) := by
  obtain ⟨⟨fT, h0, h4, hfT, hpr, hπ, hπi⟩, hRd, hTr, hNo, hLi, hFi⟩ := id hG
  have hpp := hπ γ.2.1 (by omega)
  refine yC (by decide) (Nat.le_of_ble_eq_true rfl) ?_
  intro p e s m args below meth c D F hr hn
  refine x_aload_n F 0 dG_sign_0 rfl rfl ?_
  refine x_get (ci := 5) F 0 (x_in inG) rfl (by decide) (x_m kfG_10) dG_sign_1 h0 rfl ?_
  refine x_iload_n F 1 dG_sign_4 rfl rfl ?_
  refine yVr (n := 1) (As := [.int (i)]) (ci := 3) F kmG_50 kiR_take ksR_take knR kcR_take (by decide +kernel) dG_sign_5 (cR_takeT l (nx) M (g + 1) (γ.2.2.1).1 (γ.2.2.1).2.1 (γ.2.2.1).2.2.1 (γ.2.2.1).2.2.2.1 (γ.2.2.1).2.2.2.2.1 (γ.2.2.1).2.2.2.2.2.1 (γ.2.2.1).2.2.2.2.2.2 hRd i t ht hs hg hn4) rfl hRd.1 rfl rfl (Nat.le_of_ble_eq_true rfl) ⟨Nat.le_of_ble_eq_true rfl, Nat.le_of_ble_eq_true rfl⟩ ⟨Nat.le_of_ble_eq_true rfl, Nat.le_of_ble_eq_true rfl⟩ (fun r' n' M308 hp => ?_)
  obtain ⟨hr', hn', hR308, hf308⟩ := hp
  rw [hn', hr']
  show xW p l e ({ frames := 3, cells := 0, slots := 0, locals := 62 } : Room) s m args below meth c D xcl (x_A M nx) 2 (MQ below (x_Q D xcl (x_A M nx) (gPost (some (.int (nI 1))) nx M g (gRd γ (upd (γ.2.2.1).1 (γ.2.2.1).2.2.2.1 (nI t), (γ.2.2.1).2.1, (γ.2.2.1).2.2.1, (γ.2.2.1).2.2.2.1 + 1, (γ.2.2.1).2.2.2.2)))) args s 0 0 (x_A M nx)) 0 0 (nx) M308 8 [(0, .ref (g)), (1, .int (i))] [.int (nI (1))]
  exact x_zret F hr (by rfl) dG_sign_8 (⟨rfl, rfl, ⟨⟨fT, ((hf308 _ (by omega)).trans h0), ((hf308 _ (by omega)).trans h4), hfT, hpr, hπ, hπi⟩, hR308, (fun i hi => tAt_fr (hTr i hi) (fun b hb hb2 =>  (hf308 _ (by omega)).trans (rfl))), (pAt_fr hNo (fun b _ _ => hf308 b (by omega))), (pAt_fr hLi (fun b _ _ => hf308 b (by omega))), (fAt_fr hFi (fun b _ _ => hf308 b (by omega)))⟩, fun b hb => (hf308 _ (by omega)).trans (rfl)⟩)
