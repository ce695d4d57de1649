theorem in_F {x : Int32} {n : Nat} (hn : n < 2 ^ 31) (h : ¬ vp_in x (n + 1)) : (decide (nI 0 ≤ x) && decide (x ≤ nI n)) = false := by
  rw [vp_in_iff] at h
  cases hz : (decide (nI 0 ≤ x) && decide (x ≤ nI n)) with
  | false => rfl
  | true =>
    simp only [Bool.and_eq_true, decide_eq_true_eq] at hz
    rw [Int32.le_iff_toInt_le, Int32.le_iff_toInt_le, nI_toInt hn, nI_toInt (by omega)] at hz
    exact absurd ⟨hz.1, by omega⟩ h
def mNA (rw : Nat → Nat) (cd : Nat → Int64) (pr : Nat) (co : Int64) (kd : Int32) (oo : Int64) : Bool := (! (mRow rw cd pr co).isSome) || ((! (mRow rw cd pr oo).isSome) || (decide (co = oo) || ! (decide (nI 0 ≤ kd) && decide (kd ≤ nI 1))))
def mNS (nn pr : Nat) (nE : Nat → Int32) (nC : Nat → Int64) (nK : Nat → Int32) (nO : Nat → Int64) (co : Int64) (kd : Int32) (oo : Int64) : Bool := decide (nn = 20) || (la (mNt nE nC nK nO (nI pr) co kd oo) nn).isSome
def mNd (rw : Nat → Nat) (cd : Nat → Int64) (pr nn : Nat) (nE : Nat → Int32) (nC : Nat → Int64) (nK : Nat → Int32) (nO : Nat → Int64) (co : Int64) (x : Int32) : Int32 := match nt (fun j => decide (nE j = nI pr) && decide (nC j = co)) x nn 0 0 with
  | none => -1
  | some j => nI 2 * oi (mRow rw cd pr (nO j)) + nK j
theorem lf_1 (x : Int32) (c : Nat) : x - nI c - nI 1 = x - nI (c + 1) := by
  rw [show nI (c + 1) = nI c + nI 1 from (nI_add c 1).symm]
  rw [Int32.sub_eq_add_neg, Int32.sub_eq_add_neg, Int32.sub_eq_add_neg, Int32.neg_add, Int32.add_assoc, Int32.sub_eq_add_neg]
theorem lf_0 (x : Int32) (c : Nat) : x - nI c - nI 0 = x - nI c := by
  rw [show nI 0 = (0 : Int32) from rfl, Int32.sub_zero]
theorem lf_e {x : Int32} {c : Nat} : x - nI c = 0 ↔ nI c = x := by
  constructor
  · intro h
    have e : x - nI c + nI c = 0 + nI c := by rw [h]
    rw [Int32.sub_add_cancel, Int32.zero_add] at e
    exact e.symm
  · intro h; rw [h]; exact Int32.sub_self x
def mFi (lF : Nat → Int32) (lC : Nat → Int64) (lT : Nat → Int32) (lO : Nat → Int64) (a : Int32) (co : Int64) (b : Int32) (oo : Int64) (k : Nat) : Bool := mLk lF lC lT a co b k && decide (lO k = oo)
def mLkOk (rw : Nat → Nat) (cd : Nat → Int64) (ln : Nat) (lF : Nat → Int32) (lC : Nat → Int64) (lT : Nat → Int32) (lO : Nat → Int64) (a : Int32) (co : Int64) (b : Int32) (oo : Int64) : Bool := edOk a b && ((mRow rw cd a.toNatClampNeg co).isSome && ((mRow rw cd b.toNatClampNeg oo).isSome && ((! decide (ln = 60)) && ! (fi (mFi lF lC lT lO a co b oo) ln 0).isSome)))
def mSh (ln : Nat) (lF : Nat → Int32) (lC : Nat → Int64) (lT : Nat → Int32) (lO : Nat → Int64) (a : Int32) (co : Int64) (b : Int32) (k : Nat) : Bool := mLk lF lC lT a co b k && decide (1 < ct (mLt lF lT lO a b (lO k)) ln 0 0)
def mBc (ln : Nat) (lF : Nat → Int32) (lC : Nat → Int64) (lT : Nat → Int32) (lO : Nat → Int64) (a : Int32) (co : Int64) (b : Int32) : Nat := bec (ct (mLk lF lC lT a co b) ln 0 0, (la (mSh ln lF lC lT lO a co b) ln).isSome)
def mLd (ln : Nat) (lF : Nat → Int32) (lC : Nat → Int64) (lT : Nat → Int32) (lO : Nat → Int64) (a : Int32) (co : Int64) (b x : Int32) : Int64 := match nt (mLk lF lC lT a co b) x ln 0 0 with
  | none => 0
  | some j => lO j
def mLs (rw : Nat → Nat) (cd : Nat → Int64) (ds : Nat → Int32) (ln : Nat) (lF : Nat → Int32) (lC : Nat → Int64) (lT : Nat → Int32) (k : Nat) (b : Int32) (j : Nat) : Bool := decide (mBl ds (40 * k) (rw k) j = 0) && decide (ct (mLk lF lC lT (nI k) (cd (40 * k + j)) b) ln 0 0 = 0)
theorem mBl_le (ds : Nat → Int32) (f n i : Nat) : mBl ds f n i ≤ n := by
  have := ct_le (fun j => decide (mUp ds f j = some i)) (n - (i + 1)) (i + 1) 0
  show ct _ _ _ _ ≤ n
  omega
theorem sml_m (c : Int32) : c + nI 32 = c - nI 65 + nI 97 := by
  rw [Int32.sub_eq_add_neg, Int32.add_assoc, show (-nI 65 + nI 97 : Int32) = nI 32 from by decide]
theorem sgn_o (s : Int32) : sgn s = ((decide (nI 97 ≤ s) && decide (s ≤ nI 122)) || ((decide (nI 48 ≤ s) && decide (s ≤ nI 57)) || (decide (s = nI 45) || (decide (s = nI 46) || decide (s = nI 59))))) := by
  unfold sgn
  cases (decide (nI 97 ≤ s) && decide (s ≤ nI 122)) <;> cases (decide (nI 48 ≤ s) && decide (s ≤ nI 57)) <;> cases decide (s = nI 45) <;> cases decide (s = nI 46) <;> cases decide (s = nI 59) <;> rfl
def m3 (cd : Nat → Int64) (f : Nat) (r : Option Nat) : Int64 := match r with
  | none => 0
  | some j => cd (f + j)
set_option maxHeartbeats 4000000 in
set_option maxRecDepth 100000 in
theorem cM_fail0 (l : Launch) (nx : Nat) (M : xH) (a : Nat) (th : Int32) (sg : Nat → Int32) (sn pr : Nat) (fk fp : Int32) (rws : Nat → Int32) (cd : Nat → Int64) (ds wc : Nat → Int32) (wd : Nat → Int64) (nn : Nat) (nE : Nat → Int32) (nC : Nat → Int64) (nK : Nat → Int32) (nO : Nat → Int64) (ln : Nat) (lF : Nat → Int32) (lC : Nat → Int64) (lT : Nat → Int32) (lO : Nat → Int64) (fn : Nat) (fC : Nat → Int64) (fP : Nat → Int32) (ak : Nat → Int64) (ac : Nat) (pt : Nat → Int32) (hT : mAt M a th sg sn pr fk fp rws cd ds wc wd nn nE nC nK nO ln lF lC lT lO fn fC fP ak ac pt) : xC l xcl yM_failure (xw (Cond.code yM_failure bM_failure 2 (some .int))) ({ frames := 0, cells := 0, slots := 0, locals := 0 } : Room) [.ref (a), .int (nI (0))] nx M (mPost (some (.int (fk))) nx M a ((nI (0))) sg sn pr fk fp rws cd ds wc wd nn nE nC nK nO ln lF lC lT lO fn fC fP ak ac pt) := by
  obtain ⟨h0, h1, h2, h3, h4, h5, h6, h7, h8, h9, h10, h11, h12, h13, h14, h15, h16, h17, h18, b1, b2, b3, b4, b5, b6⟩ := id hT
  refine yC (by decide) (Nat.le_of_ble_eq_true rfl) ?_
  intro p e s m args below meth c D F hr hn
  refine x_aload_n F 0 dM_failure_0 rfl rfl ?_
  refine x_iconst F (v := nI (0)) dM_failure_1 (by decide) ?_
  refine x_put (ci := 6) (ty := .int) F 0 (x_in inM) tM tM_ok nM rfl (by decide) (x_m kfM_69) dM_failure_2 rfl (by decide +kernel) rfl rfl h0 (Nat.le_of_ble_eq_true rfl) ?_
  show xW p l e ({ frames := 0, cells := 0, slots := 0, locals := 0 } : Room) s m args below meth c D xcl (x_A M nx) 2 (MQ below (x_Q D xcl (x_A M nx) (mPost (some (.int (fk))) nx M a ((nI (0))) sg sn pr fk fp rws cd ds wc wd nn nE nC nK nO ln lF lC lT lO fn fC fP ak ac pt)) args s 0 0 (x_A M nx)) 0 0 (nx) (x_up M (a) (.inr (6, [.int (nI (0)), .ref (a + 1), .int (nI (sn)), .int (nI (pr)), .int (fk), .int (fp), .ref (a + 2), .ref (a + 3), .ref (a + 4), .ref (a + 5), .ref (a + 6), .int (nI (nn)), .ref (a + 7), .ref (a + 8), .ref (a + 9), .ref (a + 10), .int (nI (ln)), .ref (a + 11), .ref (a + 12), .ref (a + 13), .ref (a + 14), .int (nI (fn)), .ref (a + 15), .ref (a + 16), .ref (a + 17), .int (nI (ac)), .ref (a + 18)]))) 5 [(0, .ref (a)), (1, .int (nI (0)))] []
  refine x_iload_n F 1 dM_failure_5 rfl rfl ?_
  refine x_if_ne F (tgt := 16) dM_failure_6 (by decide) (fun c1 => ?_) (fun c1 => ?_)
  · skip
    have c1 : 0 ≠ 0 := by
      have z : ¬ (0 = 0) := fun zz => c1 ((nI_eq (a := 0) (b := 0) (by omega) (by omega)).mpr zz)
      omega
    exact absurd c1 (by decide)
  · skip
    have c1 : 0 = 0 := by
      exact (nI_eq (a := 0) (b := 0) (by omega) (by omega)).mp c1
    refine x_aload_n F 0 dM_failure_9 rfl rfl ?_
    refine x_get (ci := 6) F 4 (x_in inM) rfl (by decide) (x_m kfM_86) dM_failure_10 x_up_s rfl ?_
    refine x_goto F (tgt := 29) dM_failure_13 (by decide) ?_
    exact x_iret F hr dM_failure_29 (⟨rfl, rfl, ⟨x_up_s, (x_up_k h1 (by omega)), (x_up_k h2 (by omega)), (x_up_k h3 (by omega)), (x_up_k h4 (by omega)), (x_up_k h5 (by omega)), (x_up_k h6 (by omega)), (x_up_k h7 (by omega)), (x_up_k h8 (by omega)), (x_up_k h9 (by omega)), (x_up_k h10 (by omega)), (x_up_k h11 (by omega)), (x_up_k h12 (by omega)), (x_up_k h13 (by omega)), (x_up_k h14 (by omega)), (x_up_k h15 (by omega)), (x_up_k h16 (by omega)), (x_up_k h17 (by omega)), (x_up_k h18 (by omega)), by omega, by omega, by omega, by omega, by omega, by omega⟩, fun b hb => (x_up_n (by omega)).trans (rfl)⟩)
set_option maxHeartbeats 4000000 in
set_option maxRecDepth 100000 in
theorem cM_fail1 (l : Launch) (nx : Nat) (M : xH) (a : Nat) (th : Int32) (sg : Nat → Int32) (sn pr : Nat) (fk fp : Int32) (rws : Nat → Int32) (cd : Nat → Int64) (ds wc : Nat → Int32) (wd : Nat → Int64) (nn : Nat) (nE : Nat → Int32) (nC : Nat → Int64) (nK : Nat → Int32) (nO : Nat → Int64) (ln : Nat) (lF : Nat → Int32) (lC : Nat → Int64) (lT : Nat → Int32) (lO : Nat → Int64) (fn : Nat) (fC : Nat → Int64) (fP : Nat → Int32) (ak : Nat → Int64) (ac : Nat) (pt : Nat → Int32) (hT : mAt M a th sg sn pr fk fp rws cd ds wc wd nn nE nC nK nO ln lF lC lT lO fn fC fP ak ac pt) : xC l xcl yM_failure (xw (Cond.code yM_failure bM_failure 2 (some .int))) ({ frames := 0, cells := 0, slots := 0, locals := 0 } : Room) [.ref (a), .int (nI (1))] nx M (mPost (some (.int (fp))) nx M a ((nI (0))) sg sn pr fk fp rws cd ds wc wd nn nE nC nK nO ln lF lC lT lO fn fC fP ak ac pt) := by
  obtain ⟨h0, h1, h2, h3, h4, h5, h6, h7, h8, h9, h10, h11, h12, h13, h14, h15, h16, h17, h18, b1, b2, b3, b4, b5, b6⟩ := id hT
  refine yC (by decide) (Nat.le_of_ble_eq_true rfl) ?_
  intro p e s m args below meth c D F hr hn
  refine x_aload_n F 0 dM_failure_0 rfl rfl ?_
  refine x_iconst F (v := nI (0)) dM_failure_1 (by decide) ?_
  refine x_put (ci := 6) (ty := .int) F 0 (x_in inM) tM tM_ok nM rfl (by decide) (x_m kfM_69) dM_failure_2 rfl (by decide +kernel) rfl rfl h0 (Nat.le_of_ble_eq_true rfl) ?_
  show xW p l e ({ frames := 0, cells := 0, slots := 0, locals := 0 } : Room) s m args below meth c D xcl (x_A M nx) 2 (MQ below (x_Q D xcl (x_A M nx) (mPost (some (.int (fp))) nx M a ((nI (0))) sg sn pr fk fp rws cd ds wc wd nn nE nC nK nO ln lF lC lT lO fn fC fP ak ac pt)) args s 0 0 (x_A M nx)) 0 0 (nx) (x_up M (a) (.inr (6, [.int (nI (0)), .ref (a + 1), .int (nI (sn)), .int (nI (pr)), .int (fk), .int (fp), .ref (a + 2), .ref (a + 3), .ref (a + 4), .ref (a + 5), .ref (a + 6), .int (nI (nn)), .ref (a + 7), .ref (a + 8), .ref (a + 9), .ref (a + 10), .int (nI (ln)), .ref (a + 11), .ref (a + 12), .ref (a + 13), .ref (a + 14), .int (nI (fn)), .ref (a + 15), .ref (a + 16), .ref (a + 17), .int (nI (ac)), .ref (a + 18)]))) 5 [(0, .ref (a)), (1, .int (nI (1)))] []
  refine x_iload_n F 1 dM_failure_5 rfl rfl ?_
  refine x_if_ne F (tgt := 16) dM_failure_6 (by decide) (fun c1 => ?_) (fun c1 => ?_)
  · skip
    have c1 : 1 ≠ 0 := by
      have z : ¬ (1 = 0) := fun zz => c1 ((nI_eq (a := 1) (b := 0) (by omega) (by omega)).mpr zz)
      omega
    refine x_iload_n F 1 dM_failure_16 rfl rfl ?_
    refine x_iconst F (v := nI (1)) dM_failure_17 (by decide) ?_
    refine x_icmp_ne F (tgt := 28) dM_failure_18 (by decide) (fun c2 => ?_) (fun c2 => ?_)
    · skip
      have c2 : 1 ≠ 1 := by
        have z : ¬ (1 = 1) := fun zz => c2 ((nI_eq (a := 1) (b := 1) (by omega) (by omega)).mpr zz)
        omega
      exact absurd c2 (by decide)
    · skip
      have c2 : 1 = 1 := by
        exact (nI_eq (a := 1) (b := 1) (by omega) (by omega)).mp c2
      refine x_aload_n F 0 dM_failure_21 rfl rfl ?_
      refine x_get (ci := 6) F 5 (x_in inM) rfl (by decide) (x_m kfM_13) dM_failure_22 x_up_s rfl ?_
      refine x_goto F (tgt := 29) dM_failure_25 (by decide) ?_
      exact x_iret F hr dM_failure_29 (⟨rfl, rfl, ⟨x_up_s, (x_up_k h1 (by omega)), (x_up_k h2 (by omega)), (x_up_k h3 (by omega)), (x_up_k h4 (by omega)), (x_up_k h5 (by omega)), (x_up_k h6 (by omega)), (x_up_k h7 (by omega)), (x_up_k h8 (by omega)), (x_up_k h9 (by omega)), (x_up_k h10 (by omega)), (x_up_k h11 (by omega)), (x_up_k h12 (by omega)), (x_up_k h13 (by omega)), (x_up_k h14 (by omega)), (x_up_k h15 (by omega)), (x_up_k h16 (by omega)), (x_up_k h17 (by omega)), (x_up_k h18 (by omega)), by omega, by omega, by omega, by omega, by omega, by omega⟩, fun b hb => (x_up_n (by omega)).trans (rfl)⟩)
  · skip
    have c1 : 1 = 0 := by
      exact (nI_eq (a := 1) (b := 0) (by omega) (by omega)).mp c1
    exact absurd c1 (by decide)
set_option maxHeartbeats 4000000 in
set_option maxRecDepth 100000 in
theorem cM_failN (l : Launch) (nx : Nat) (M : xH) (a : Nat) (th : Int32) (sg : Nat → Int32) (sn pr : Nat) (fk fp : Int32) (rws : Nat → Int32) (cd : Nat → Int64) (ds wc : Nat → Int32) (wd : Nat → Int64) (nn : Nat) (nE : Nat → Int32) (nC : Nat → Int64) (nK : Nat → Int32) (nO : Nat → Int64) (ln : Nat) (lF : Nat → Int32) (lC : Nat → Int64) (lT : Nat → Int32) (lO : Nat → Int64) (fn : Nat) (fC : Nat → Int64) (fP : Nat → Int32) (ak : Nat → Int64) (ac : Nat) (pt : Nat → Int32) (hT : mAt M a th sg sn pr fk fp rws cd ds wc wd nn nE nC nK nO ln lF lC lT lO fn fC fP ak ac pt) (i : Int32) (hi0 : i ≠ 0) (hi1 : i ≠ nI 1) : xC l xcl yM_failure (xw (Cond.code yM_failure bM_failure 2 (some .int))) ({ frames := 0, cells := 0, slots := 0, locals := 0 } : Room) [.ref (a), .int (i)] nx M (mPost (some (.int ((-1)))) nx M a ((nI (0))) sg sn pr fk fp rws cd ds wc wd nn nE nC nK nO ln lF lC lT lO fn fC fP ak ac pt) := by
  obtain ⟨h0, h1, h2, h3, h4, h5, h6, h7, h8, h9, h10, h11, h12, h13, h14, h15, h16, h17, h18, b1, b2, b3, b4, b5, b6⟩ := id hT
  refine yC (by decide) (Nat.le_of_ble_eq_true rfl) ?_
  intro p e s m args below meth c D F hr hn
  refine x_aload_n F 0 dM_failure_0 rfl rfl ?_
  refine x_iconst F (v := nI (0)) dM_failure_1 (by decide) ?_
  refine x_put (ci := 6) (ty := .int) F 0 (x_in inM) tM tM_ok nM rfl (by decide) (x_m kfM_69) dM_failure_2 rfl (by decide +kernel) rfl rfl h0 (Nat.le_of_ble_eq_true rfl) ?_
  show xW p l e ({ frames := 0, cells := 0, slots := 0, locals := 0 } : Room) s m args below meth c D xcl (x_A M nx) 2 (MQ below (x_Q D xcl (x_A M nx) (mPost (some (.int ((-1)))) nx M a ((nI (0))) sg sn pr fk fp rws cd ds wc wd nn nE nC nK nO ln lF lC lT lO fn fC fP ak ac pt)) args s 0 0 (x_A M nx)) 0 0 (nx) (x_up M (a) (.inr (6, [.int (nI (0)), .ref (a + 1), .int (nI (sn)), .int (nI (pr)), .int (fk), .int (fp), .ref (a + 2), .ref (a + 3), .ref (a + 4), .ref (a + 5), .ref (a + 6), .int (nI (nn)), .ref (a + 7), .ref (a + 8), .ref (a + 9), .ref (a + 10), .int (nI (ln)), .ref (a + 11), .ref (a + 12), .ref (a + 13), .ref (a + 14), .int (nI (fn)), .ref (a + 15), .ref (a + 16), .ref (a + 17), .int (nI (ac)), .ref (a + 18)]))) 5 [(0, .ref (a)), (1, .int (i))] []
  refine x_iload_n F 1 dM_failure_5 rfl rfl ?_
  refine x_if_ne F (tgt := 16) dM_failure_6 (by decide) (fun c1 => ?_) (fun c1 => ?_)
  · skip
    refine x_iload_n F 1 dM_failure_16 rfl rfl ?_
    refine x_iconst F (v := nI (1)) dM_failure_17 (by decide) ?_
    refine x_icmp_ne F (tgt := 28) dM_failure_18 (by decide) (fun c2 => ?_) (fun c2 => ?_)
    · skip
      refine x_iconst F (v := (-1)) dM_failure_28 (by decide) ?_
      exact x_iret F hr dM_failure_29 (⟨rfl, rfl, ⟨x_up_s, (x_up_k h1 (by omega)), (x_up_k h2 (by omega)), (x_up_k h3 (by omega)), (x_up_k h4 (by omega)), (x_up_k h5 (by omega)), (x_up_k h6 (by omega)), (x_up_k h7 (by omega)), (x_up_k h8 (by omega)), (x_up_k h9 (by omega)), (x_up_k h10 (by omega)), (x_up_k h11 (by omega)), (x_up_k h12 (by omega)), (x_up_k h13 (by omega)), (x_up_k h14 (by omega)), (x_up_k h15 (by omega)), (x_up_k h16 (by omega)), (x_up_k h17 (by omega)), (x_up_k h18 (by omega)), by omega, by omega, by omega, by omega, by omega, by omega⟩, fun b hb => (x_up_n (by omega)).trans (rfl)⟩)
    · skip
      exact absurd c2 hi1
  · skip
    exact absurd c1 hi0
set_option maxHeartbeats 4000000 in
set_option maxRecDepth 100000 in
theorem cM_editionF (l : Launch) (nx : Nat) (M : xH) (a : Nat) (th : Int32) (sg : Nat → Int32) (sn pr : Nat) (fk fp : Int32) (rws : Nat → Int32) (cd : Nat → Int64) (ds wc : Nat → Int32) (wd : Nat → Int64) (nn : Nat) (nE : Nat → Int32) (nC : Nat → Int64) (nK : Nat → Int32) (nO : Nat → Int64) (ln : Nat) (lF : Nat → Int32) (lC : Nat → Int64) (lT : Nat → Int32) (lO : Nat → Int64) (fn : Nat) (fC : Nat → Int64) (fP : Nat → Int32) (ak : Nat → Int64) (ac : Nat) (pt : Nat → Int32) (hT : mAt M a th sg sn pr fk fp rws cd ds wc wd nn nE nC nK nO ln lF lC lT lO fn fC fP ak ac pt) (i : Int32) (hi : inE i = false ∨ i = nI pr) : xC l xcl yM_edition (xw (Cond.code yM_edition bM_edition 2 (some .boolean))) ({ frames := 1, cells := 0, slots := 0, locals := 20 } : Room) [.ref (a), .int (i)] nx M (mPost (some (.int (nI (0)))) nx M a ((nI (0))) sg sn pr fk fp rws cd ds wc wd nn nE nC nK nO ln lF lC lT lO fn fC fP ak ac pt) := by
  obtain ⟨h0, h1, h2, h3, h4, h5, h6, h7, h8, h9, h10, h11, h12, h13, h14, h15, h16, h17, h18, b1, b2, b3, b4, b5, b6⟩ := id hT
  refine yC (by decide) (Nat.le_of_ble_eq_true rfl) ?_
  intro p e s m args below meth c D F hr hn
  refine x_aload_n F 0 dM_edition_0 rfl rfl ?_
  refine x_iconst F (v := nI (0)) dM_edition_1 (by decide) ?_
  refine x_put (ci := 6) (ty := .int) F 0 (x_in inM) tM tM_ok nM rfl (by decide) (x_m kfM_69) dM_edition_2 rfl (by decide +kernel) rfl rfl h0 (Nat.le_of_ble_eq_true rfl) ?_
  show xW p l e ({ frames := 1, cells := 0, slots := 0, locals := 20 } : Room) s m args below meth c D xcl (x_A M nx) 2 (MQ below (x_Q D xcl (x_A M nx) (mPost (some (.int (nI (0)))) nx M a ((nI (0))) sg sn pr fk fp rws cd ds wc wd nn nE nC nK nO ln lF lC lT lO fn fC fP ak ac pt)) args s 0 0 (x_A M nx)) 0 0 (nx) (x_up M (a) (.inr (6, [.int (nI (0)), .ref (a + 1), .int (nI (sn)), .int (nI (pr)), .int (fk), .int (fp), .ref (a + 2), .ref (a + 3), .ref (a + 4), .ref (a + 5), .ref (a + 6), .int (nI (nn)), .ref (a + 7), .ref (a + 8), .ref (a + 9), .ref (a + 10), .int (nI (ln)), .ref (a + 11), .ref (a + 12), .ref (a + 13), .ref (a + 14), .int (nI (fn)), .ref (a + 15), .ref (a + 16), .ref (a + 17), .int (nI (ac)), .ref (a + 18)]))) 5 [(0, .ref (a)), (1, .int (i))] []
  refine x_iload_n F 1 dM_edition_5 rfl rfl ?_
  refine yS (n := 1) (As := [.int (i)]) F kmM_163 ktM_isEdition knM kcM_isEdition (by decide +kernel) dM_edition_6 (cM_isEd l (nx) (x_up M (a) (.inr (6, [.int (nI (0)), .ref (a + 1), .int (nI (sn)), .int (nI (pr)), .int (fk), .int (fp), .ref (a + 2), .ref (a + 3), .ref (a + 4), .ref (a + 5), .ref (a + 6), .int (nI (nn)), .ref (a + 7), .ref (a + 8), .ref (a + 9), .ref (a + 10), .int (nI (ln)), .ref (a + 11), .ref (a + 12), .ref (a + 13), .ref (a + 14), .int (nI (fn)), .ref (a + 15), .ref (a + 16), .ref (a + 17), .int (nI (ac)), .ref (a + 18)]))) (i)) rfl rfl (Nat.le_of_ble_eq_true rfl) ⟨Nat.le_of_ble_eq_true rfl, Nat.le_of_ble_eq_true rfl⟩ ⟨Nat.le_of_ble_eq_true rfl, Nat.le_of_ble_eq_true rfl⟩ ?_
  refine x_if_eq F (tgt := 20) dM_edition_9 (by decide) (fun c1 => ?_) (fun c1 => ?_)
  · skip
    have c1 : (inE (i)) = false := bI_0 c1
    refine x_iconst F (v := nI (0)) dM_edition_20 (by decide) ?_
    exact x_zret F hr (by rfl) dM_edition_21 (⟨rfl, rfl, ⟨x_up_s, (x_up_k h1 (by omega)), (x_up_k h2 (by omega)), (x_up_k h3 (by omega)), (x_up_k h4 (by omega)), (x_up_k h5 (by omega)), (x_up_k h6 (by omega)), (x_up_k h7 (by omega)), (x_up_k h8 (by omega)), (x_up_k h9 (by omega)), (x_up_k h10 (by omega)), (x_up_k h11 (by omega)), (x_up_k h12 (by omega)), (x_up_k h13 (by omega)), (x_up_k h14 (by omega)), (x_up_k h15 (by omega)), (x_up_k h16 (by omega)), (x_up_k h17 (by omega)), (x_up_k h18 (by omega)), by omega, by omega, by omega, by omega, by omega, by omega⟩, fun b hb => (x_up_n (by omega)).trans (rfl)⟩)
  · skip
    have c1 : (inE (i)) = true := bI_1 c1
    refine x_iload_n F 1 dM_edition_12 rfl rfl ?_
    refine x_aload_n F 0 dM_edition_13 rfl rfl ?_
    refine x_get (ci := 6) F 3 (x_in inM) rfl (by decide) (x_m kfM_156) dM_edition_14 x_up_s rfl ?_
    refine x_icmp_ne F (tgt := 22) dM_edition_17 (by decide) (fun c2 => ?_) (fun c2 => ?_)
    · skip
      rcases hi with z | z
      · rw [c1] at z; cases z
      · exact absurd z c2
    · skip
      refine x_iconst F (v := nI (0)) dM_edition_20 (by decide) ?_
      exact x_zret F hr (by rfl) dM_edition_21 (⟨rfl, rfl, ⟨x_up_s, (x_up_k h1 (by omega)), (x_up_k h2 (by omega)), (x_up_k h3 (by omega)), (x_up_k h4 (by omega)), (x_up_k h5 (by omega)), (x_up_k h6 (by omega)), (x_up_k h7 (by omega)), (x_up_k h8 (by omega)), (x_up_k h9 (by omega)), (x_up_k h10 (by omega)), (x_up_k h11 (by omega)), (x_up_k h12 (by omega)), (x_up_k h13 (by omega)), (x_up_k h14 (by omega)), (x_up_k h15 (by omega)), (x_up_k h16 (by omega)), (x_up_k h17 (by omega)), (x_up_k h18 (by omega)), by omega, by omega, by omega, by omega, by omega, by omega⟩, fun b hb => (x_up_n (by omega)).trans (rfl)⟩)
set_option maxHeartbeats 4000000 in
set_option maxRecDepth 100000 in
theorem cM_editionT (l : Launch) (nx : Nat) (M : xH) (a : Nat) (th : Int32) (sg : Nat → Int32) (sn pr : Nat) (fk fp : Int32) (rws : Nat → Int32) (cd : Nat → Int64) (ds wc : Nat → Int32) (wd : Nat → Int64) (nn : Nat) (nE : Nat → Int32) (nC : Nat → Int64) (nK : Nat → Int32) (nO : Nat → Int64) (ln : Nat) (lF : Nat → Int32) (lC : Nat → Int64) (lT : Nat → Int32) (lO : Nat → Int64) (fn : Nat) (fC : Nat → Int64) (fP : Nat → Int32) (ak : Nat → Int64) (ac : Nat) (pt : Nat → Int32) (hT : mAt M a th sg sn pr fk fp rws cd ds wc wd nn nE nC nK nO ln lF lC lT lO fn fC fP ak ac pt) (k : Nat) (hk : k < 3) (hne : k ≠ pr) : xC l xcl yM_edition (xw (Cond.code yM_edition bM_edition 2 (some .boolean))) ({ frames := 1, cells := 0, slots := 0, locals := 20 } : Room) [.ref (a), .int (nI (k))] nx M (mPost (some (.int (nI (1)))) nx M a ((nI (0))) sg sn (k) fk fp rws cd ds wc wd nn nE nC nK nO ln lF lC lT lO fn fC fP ak ac pt) := by
  obtain ⟨h0, h1, h2, h3, h4, h5, h6, h7, h8, h9, h10, h11, h12, h13, h14, h15, h16, h17, h18, b1, b2, b3, b4, b5, b6⟩ := id hT
  refine yC (by decide) (Nat.le_of_ble_eq_true rfl) ?_
  intro p e s m args below meth c D F hr hn
  refine x_aload_n F 0 dM_edition_0 rfl rfl ?_
  refine x_iconst F (v := nI (0)) dM_edition_1 (by decide) ?_
  refine x_put (ci := 6) (ty := .int) F 0 (x_in inM) tM tM_ok nM rfl (by decide) (x_m kfM_69) dM_edition_2 rfl (by decide +kernel) rfl rfl h0 (Nat.le_of_ble_eq_true rfl) ?_
  show xW p l e ({ frames := 1, cells := 0, slots := 0, locals := 20 } : Room) s m args below meth c D xcl (x_A M nx) 2 (MQ below (x_Q D xcl (x_A M nx) (mPost (some (.int (nI (1)))) nx M a ((nI (0))) sg sn (k) fk fp rws cd ds wc wd nn nE nC nK nO ln lF lC lT lO fn fC fP ak ac pt)) args s 0 0 (x_A M nx)) 0 0 (nx) (x_up M (a) (.inr (6, [.int (nI (0)), .ref (a + 1), .int (nI (sn)), .int (nI (pr)), .int (fk), .int (fp), .ref (a + 2), .ref (a + 3), .ref (a + 4), .ref (a + 5), .ref (a + 6), .int (nI (nn)), .ref (a + 7), .ref (a + 8), .ref (a + 9), .ref (a + 10), .int (nI (ln)), .ref (a + 11), .ref (a + 12), .ref (a + 13), .ref (a + 14), .int (nI (fn)), .ref (a + 15), .ref (a + 16), .ref (a + 17), .int (nI (ac)), .ref (a + 18)]))) 5 [(0, .ref (a)), (1, .int (nI (k)))] []
  refine x_iload_n F 1 dM_edition_5 rfl rfl ?_
  refine yS (n := 1) (As := [.int (nI (k))]) F kmM_163 ktM_isEdition knM kcM_isEdition (by decide +kernel) dM_edition_6 (cM_isEd l (nx) (x_up M (a) (.inr (6, [.int (nI (0)), .ref (a + 1), .int (nI (sn)), .int (nI (pr)), .int (fk), .int (fp), .ref (a + 2), .ref (a + 3), .ref (a + 4), .ref (a + 5), .ref (a + 6), .int (nI (nn)), .ref (a + 7), .ref (a + 8), .ref (a + 9), .ref (a + 10), .int (nI (ln)), .ref (a + 11), .ref (a + 12), .ref (a + 13), .ref (a + 14), .int (nI (fn)), .ref (a + 15), .ref (a + 16), .ref (a + 17), .int (nI (ac)), .ref (a + 18)]))) (nI (k))) rfl rfl (Nat.le_of_ble_eq_true rfl) ⟨Nat.le_of_ble_eq_true rfl, Nat.le_of_ble_eq_true rfl⟩ ⟨Nat.le_of_ble_eq_true rfl, Nat.le_of_ble_eq_true rfl⟩ ?_
  refine x_if_eq F (tgt := 20) dM_edition_9 (by decide) (fun c1 => ?_) (fun c1 => ?_)
  · skip
    have c1 : (inE (nI (k))) = false := bI_0 c1
    rw [inE_k hk] at c1
    cases c1
  · skip
    have c1 : (inE (nI (k))) = true := bI_1 c1
    refine x_iload_n F 1 dM_edition_12 rfl rfl ?_
    refine x_aload_n F 0 dM_edition_13 rfl rfl ?_
    refine x_get (ci := 6) F 3 (x_in inM) rfl (by decide) (x_m kfM_156) dM_edition_14 x_up_s rfl ?_
    refine x_icmp_ne F (tgt := 22) dM_edition_17 (by decide) (fun c2 => ?_) (fun c2 => ?_)
    · skip
      have c2 : k ≠ pr := by
        have z : ¬ (k = pr) := fun zz => c2 ((nI_eq (a := k) (b := pr) (by omega) (by omega)).mpr zz)
        omega
      refine x_aload_n F 0 dM_edition_22 rfl rfl ?_
      refine x_iload_n F 1 dM_edition_23 rfl rfl ?_
      refine x_put (ci := 6) (ty := .int) F 3 (x_in inM) tM tM_ok nM rfl (by decide) (x_m kfM_156) dM_edition_24 rfl (by decide +kernel) rfl rfl x_up_s (Nat.le_of_ble_eq_true rfl) ?_
      show xW p l e ({ frames := 1, cells := 0, slots := 0, locals := 20 } : Room) s m args below meth c D xcl (x_A M nx) 2 (MQ below (x_Q D xcl (x_A M nx) (mPost (some (.int (nI (1)))) nx M a ((nI (0))) sg sn (k) fk fp rws cd ds wc wd nn nE nC nK nO ln lF lC lT lO fn fC fP ak ac pt)) args s 0 0 (x_A M nx)) 0 0 (nx) (x_up (x_up M (a) (.inr (6, [.int (nI (0)), .ref (a + 1), .int (nI (sn)), .int (nI (pr)), .int (fk), .int (fp), .ref (a + 2), .ref (a + 3), .ref (a + 4), .ref (a + 5), .ref (a + 6), .int (nI (nn)), .ref (a + 7), .ref (a + 8), .ref (a + 9), .ref (a + 10), .int (nI (ln)), .ref (a + 11), .ref (a + 12), .ref (a + 13), .ref (a + 14), .int (nI (fn)), .ref (a + 15), .ref (a + 16), .ref (a + 17), .int (nI (ac)), .ref (a + 18)]))) (a) (.inr (6, [.int (nI (0)), .ref (a + 1), .int (nI (sn)), .int (nI (k)), .int (fk), .int (fp), .ref (a + 2), .ref (a + 3), .ref (a + 4), .ref (a + 5), .ref (a + 6), .int (nI (nn)), .ref (a + 7), .ref (a + 8), .ref (a + 9), .ref (a + 10), .int (nI (ln)), .ref (a + 11), .ref (a + 12), .ref (a + 13), .ref (a + 14), .int (nI (fn)), .ref (a + 15), .ref (a + 16), .ref (a + 17), .int (nI (ac)), .ref (a + 18)]))) 27 [(0, .ref (a)), (1, .int (nI (k)))] []
      refine x_iconst F (v := nI (1)) dM_edition_27 (by decide) ?_
      exact x_zret F hr (by rfl) dM_edition_28 (⟨rfl, rfl, ⟨x_up_s, (x_up_k (x_up_k h1 (by omega)) (by omega)), (x_up_k (x_up_k h2 (by omega)) (by omega)), (x_up_k (x_up_k h3 (by omega)) (by omega)), (x_up_k (x_up_k h4 (by omega)) (by omega)), (x_up_k (x_up_k h5 (by omega)) (by omega)), (x_up_k (x_up_k h6 (by omega)) (by omega)), (x_up_k (x_up_k h7 (by omega)) (by omega)), (x_up_k (x_up_k h8 (by omega)) (by omega)), (x_up_k (x_up_k h9 (by omega)) (by omega)), (x_up_k (x_up_k h10 (by omega)) (by omega)), (x_up_k (x_up_k h11 (by omega)) (by omega)), (x_up_k (x_up_k h12 (by omega)) (by omega)), (x_up_k (x_up_k h13 (by omega)) (by omega)), (x_up_k (x_up_k h14 (by omega)) (by omega)), (x_up_k (x_up_k h15 (by omega)) (by omega)), (x_up_k (x_up_k h16 (by omega)) (by omega)), (x_up_k (x_up_k h17 (by omega)) (by omega)), (x_up_k (x_up_k h18 (by omega)) (by omega)), by omega, by omega, by omega, by omega, by omega, by omega⟩, fun b hb => (x_up_n (by omega)).trans ((x_up_n (by omega)).trans (rfl))⟩)
    · skip
      have c2 : k = pr := by
        exact (nI_eq (a := k) (b := pr) (by omega) (by omega)).mp c2
      exact absurd c2 (by omega)
set_option maxHeartbeats 4000000 in
set_option maxRecDepth 100000 in
theorem cM_find (l : Launch) (nx : Nat) (M : xH) (a : Nat) (th : Int32) (sg : Nat → Int32) (sn pr : Nat) (fk fp : Int32) (rws : Nat → Int32) (cd : Nat → Int64) (ds wc : Nat → Int32) (wd : Nat → Int64) (nn : Nat) (nE : Nat → Int32) (nC : Nat → Int64) (nK : Nat → Int32) (nO : Nat → Int64) (ln : Nat) (lF : Nat → Int32) (lC : Nat → Int64) (lT : Nat → Int32) (lO : Nat → Int64) (fn : Nat) (fC : Nat → Int64) (fP : Nat → Int32) (ak : Nat → Int64) (ac : Nat) (pt : Nat → Int32) (hT : mAt M a th sg sn pr fk fp rws cd ds wc wd nn nE nC nK nO ln lF lC lT lO fn fC fP ak ac pt) (rw : Nat → Nat) (hrw : mR rws rw) (co : Int64) : xC l xcl yM_find (xw (Cond.code yM_find bM_find 3 (some .int))) ({ frames := 1, cells := 0, slots := 0, locals := 25 } : Room) [.ref (a), .long (co)] nx M (mPost (some (.int (oi (mRow rw cd pr co)))) nx M a ((nI (0))) sg sn pr fk fp rws cd ds wc wd nn nE nC nK nO ln lF lC lT lO fn fC fP ak ac pt) := by
  obtain ⟨h0, h1, h2, h3, h4, h5, h6, h7, h8, h9, h10, h11, h12, h13, h14, h15, h16, h17, h18, b1, b2, b3, b4, b5, b6⟩ := id hT
  refine yC (by decide) (Nat.le_of_ble_eq_true rfl) ?_
  intro p e s m args below meth c D F hr hn
  refine x_aload_n F 0 dM_find_0 rfl rfl ?_
  refine x_iconst F (v := nI (0)) dM_find_1 (by decide) ?_
  refine x_put (ci := 6) (ty := .int) F 0 (x_in inM) tM tM_ok nM rfl (by decide) (x_m kfM_69) dM_find_2 rfl (by decide +kernel) rfl rfl h0 (Nat.le_of_ble_eq_true rfl) ?_
  show xW p l e ({ frames := 1, cells := 0, slots := 0, locals := 25 } : Room) s m args below meth c D xcl (x_A M nx) 3 (MQ below (x_Q D xcl (x_A M nx) (mPost (some (.int (oi (mRow rw cd pr co)))) nx M a ((nI (0))) sg sn pr fk fp rws cd ds wc wd nn nE nC nK nO ln lF lC lT lO fn fC fP ak ac pt)) args s 0 0 (x_A M nx)) 0 0 (nx) (x_up M (a) (.inr (6, [.int (nI (0)), .ref (a + 1), .int (nI (sn)), .int (nI (pr)), .int (fk), .int (fp), .ref (a + 2), .ref (a + 3), .ref (a + 4), .ref (a + 5), .ref (a + 6), .int (nI (nn)), .ref (a + 7), .ref (a + 8), .ref (a + 9), .ref (a + 10), .int (nI (ln)), .ref (a + 11), .ref (a + 12), .ref (a + 13), .ref (a + 14), .int (nI (fn)), .ref (a + 15), .ref (a + 16), .ref (a + 17), .int (nI (ac)), .ref (a + 18)]))) 5 [(0, .ref (a)), (1, .long (co))] []
  refine x_aload_n F 0 dM_find_5 rfl rfl ?_
  refine x_aload_n F 0 dM_find_6 rfl rfl ?_
  refine x_get (ci := 6) F 3 (x_in inM) rfl (by decide) (x_m kfM_156) dM_find_7 x_up_s rfl ?_
  refine x_lload_n F 1 dM_find_10 rfl rfl ?_
  refine yV (n := 2) (As := [.int (nI (pr)), .long (co)]) (ci := 6) F kmM_169 kiM_rowOf ksM_rowOf knM kcM_rowOf (by decide +kernel) dM_find_11 (cM_rowOf l (nx) (x_up M (a) (.inr (6, [.int (nI (0)), .ref (a + 1), .int (nI (sn)), .int (nI (pr)), .int (fk), .int (fp), .ref (a + 2), .ref (a + 3), .ref (a + 4), .ref (a + 5), .ref (a + 6), .int (nI (nn)), .ref (a + 7), .ref (a + 8), .ref (a + 9), .ref (a + 10), .int (nI (ln)), .ref (a + 11), .ref (a + 12), .ref (a + 13), .ref (a + 14), .int (nI (fn)), .ref (a + 15), .ref (a + 16), .ref (a + 17), .int (nI (ac)), .ref (a + 18)]))) (a) (nI (0)) sg sn pr fk fp rws cd ds wc wd nn nE nC nK nO ln lF lC lT lO fn fC fP ak ac pt ⟨x_up_s, (x_up_k h1 (by omega)), (x_up_k h2 (by omega)), (x_up_k h3 (by omega)), (x_up_k h4 (by omega)), (x_up_k h5 (by omega)), (x_up_k h6 (by omega)), (x_up_k h7 (by omega)), (x_up_k h8 (by omega)), (x_up_k h9 (by omega)), (x_up_k h10 (by omega)), (x_up_k h11 (by omega)), (x_up_k h12 (by omega)), (x_up_k h13 (by omega)), (x_up_k h14 (by omega)), (x_up_k h15 (by omega)), (x_up_k h16 (by omega)), (x_up_k h17 (by omega)), (x_up_k h18 (by omega)), by omega, by omega, by omega, by omega, by omega, by omega⟩ rw hrw (pr) (by omega) (co)) rfl x_up_s rfl rfl (Nat.le_of_ble_eq_true rfl) ⟨Nat.le_of_ble_eq_true rfl, Nat.le_of_ble_eq_true rfl⟩ ⟨Nat.le_of_ble_eq_true rfl, Nat.le_of_ble_eq_true rfl⟩ ?_
  exact x_iret F hr dM_find_14 (⟨rfl, rfl, ⟨x_up_s, (x_up_k h1 (by omega)), (x_up_k h2 (by omega)), (x_up_k h3 (by omega)), (x_up_k h4 (by omega)), (x_up_k h5 (by omega)), (x_up_k h6 (by omega)), (x_up_k h7 (by omega)), (x_up_k h8 (by omega)), (x_up_k h9 (by omega)), (x_up_k h10 (by omega)), (x_up_k h11 (by omega)), (x_up_k h12 (by omega)), (x_up_k h13 (by omega)), (x_up_k h14 (by omega)), (x_up_k h15 (by omega)), (x_up_k h16 (by omega)), (x_up_k h17 (by omega)), (x_up_k h18 (by omega)), by omega, by omega, by omega, by omega, by omega, by omega⟩, fun b hb => (x_up_n (by omega)).trans (rfl)⟩)
set_option maxHeartbeats 4000000 in
set_option maxRecDepth 100000 in
theorem cM_row0 (l : Launch) (nx : Nat) (M : xH) (a : Nat) (th : Int32) (sg : Nat → Int32) (sn pr : Nat) (fk fp : Int32) (rws : Nat → Int32) (cd : Nat → Int64) (ds wc : Nat → Int32) (wd : Nat → Int64) (nn : Nat) (nE : Nat → Int32) (nC : Nat → Int64) (nK : Nat → Int32) (nO : Nat → Int64) (ln : Nat) (lF : Nat → Int32) (lC : Nat → Int64) (lT : Nat → Int32) (lO : Nat → Int64) (fn : Nat) (fC : Nat → Int64) (fP : Nat → Int32) (ak : Nat → Int64) (ac : Nat) (pt : Nat → Int32) (hT : mAt M a th sg sn pr fk fp rws cd ds wc wd nn nE nC nK nO ln lF lC lT lO fn fC fP ak ac pt) (rw : Nat → Nat) (hrw : mR rws rw) (k : Nat) (hk : k < rw pr) : xC l xcl yM_row (xw (Cond.code yM_row bM_row 5 (some .long))) ({ frames := 1, cells := 0, slots := 0, locals := 23 } : Room) [.ref (a), .int (nI (k)), .int (nI (0))] nx M (mPost (some (.long (cd (40 * pr + k)))) nx M a ((nI (0))) sg sn pr fk fp rws cd ds wc wd nn nE nC nK nO ln lF lC lT lO fn fC fP ak ac pt) := by
  obtain ⟨h0, h1, h2, h3, h4, h5, h6, h7, h8, h9, h10, h11, h12, h13, h14, h15, h16, h17, h18, b1, b2, b3, b4, b5, b6⟩ := id hT
  have hr40 := (hrw pr (by omega)).2
  refine yC (by decide) (Nat.le_of_ble_eq_true rfl) ?_
  intro p e s m args below meth c D F hr hn
  refine x_iload_n F 1 dM_row_0 rfl rfl ?_
  refine x_if_lt F (tgt := 26) dM_row_1 (by decide) (fun c1 => ?_) (fun c1 => ?_)
  · skip
    have c1 : k < 0 := by
      exact (nI_ltI (a := k) (b := 0) (by omega) (by omega)).mp c1
    exact absurd c1 (by omega)
  · skip
    have c1 : 0 ≤ k := by
      have z : ¬ (k < 0) := fun zz => c1 ((nI_ltI (a := k) (b := 0) (by omega) (by omega)).mpr zz)
      omega
    refine x_iload_n F 1 dM_row_4 rfl rfl ?_
    refine x_aload_n F 0 dM_row_5 rfl rfl ?_
    refine x_get (ci := 6) F 6 (x_in inM) rfl (by decide) (x_m kfM_17) dM_row_6 h0 rfl ?_
    refine x_aload_n F 0 dM_row_9 rfl rfl ?_
    refine x_get (ci := 6) F 3 (x_in inM) rfl (by decide) (x_m kfM_156) dM_row_10 h0 rfl ?_
    refine x_iald F dM_row_13 h2 (pk_in (pr) (4) (by omega)) ?_
    refine xW.toi (nI (rw pr)) (by rw [nI_clamp (by omega)]; exact (hrw _ (by omega)).1) ?_
    refine x_icmp_ge F (tgt := 26) dM_row_14 (by decide) (fun c2 => ?_) (fun c2 => ?_)
    · skip
      have c2 : rw pr ≤ k := by
        exact (nI_leI (a := rw pr) (b := k) (by omega) (by omega)).mp c2
      exact absurd c2 (by omega)
    · skip
      have c2 : k < rw pr := by
        have z : ¬ (rw pr ≤ k) := fun zz => c2 ((nI_leI (a := rw pr) (b := k) (by omega) (by omega)).mpr zz)
        omega
      refine x_iload_n F 2 dM_row_17 rfl rfl ?_
      refine x_iconst F (v := nI (0)) dM_row_18 (by decide) ?_
      refine x_iconst F (v := nI (4)) dM_row_19 (by decide) ?_
      refine yS (n := 3) (As := [.int (nI (0)), .int (nI (0)), .int (nI (4))]) F kmM_72 ktM_in knM kcM_in (by decide +kernel) dM_row_20 (cM_inN l (nx) M (0) (0) (4) (by omega) (by omega) (by omega)) rfl rfl (Nat.le_of_ble_eq_true rfl) ⟨Nat.le_of_ble_eq_true rfl, Nat.le_of_ble_eq_true rfl⟩ ⟨Nat.le_of_ble_eq_true rfl, Nat.le_of_ble_eq_true rfl⟩ ?_
      refine x_if_ne F (tgt := 33) dM_row_23 (by decide) (fun c3 => ?_) (fun c3 => ?_)
      · skip
        have c3 : (decide ((0) ≤ (0)) && decide ((0) ≤ (4))) = true := bI_1 c3
        refine x_aload_n F 0 dM_row_33 rfl rfl ?_
        refine x_iconst F (v := nI (0)) dM_row_34 (by decide) ?_
        refine x_put (ci := 6) (ty := .int) F 0 (x_in inM) tM tM_ok nM rfl (by decide) (x_m kfM_69) dM_row_35 rfl (by decide +kernel) rfl rfl h0 (Nat.le_of_ble_eq_true rfl) ?_
        show xW p l e ({ frames := 1, cells := 0, slots := 0, locals := 23 } : Room) s m args below meth c D xcl (x_A M nx) 5 (MQ below (x_Q D xcl (x_A M nx) (mPost (some (.long (cd (40 * pr + k)))) nx M a ((nI (0))) sg sn pr fk fp rws cd ds wc wd nn nE nC nK nO ln lF lC lT lO fn fC fP ak ac pt)) args s 0 0 (x_A M nx)) 0 0 (nx) (x_up M (a) (.inr (6, [.int (nI (0)), .ref (a + 1), .int (nI (sn)), .int (nI (pr)), .int (fk), .int (fp), .ref (a + 2), .ref (a + 3), .ref (a + 4), .ref (a + 5), .ref (a + 6), .int (nI (nn)), .ref (a + 7), .ref (a + 8), .ref (a + 9), .ref (a + 10), .int (nI (ln)), .ref (a + 11), .ref (a + 12), .ref (a + 13), .ref (a + 14), .int (nI (fn)), .ref (a + 15), .ref (a + 16), .ref (a + 17), .int (nI (ac)), .ref (a + 18)]))) 38 [(0, .ref (a)), (1, .int (nI (k))), (2, .int (nI (0)))] []
        refine x_bipush F (v := nI (40)) dM_row_38 (by decide) ?_
        refine x_aload_n F 0 dM_row_40 rfl rfl ?_
        refine x_get (ci := 6) F 3 (x_in inM) rfl (by decide) (x_m kfM_156) dM_row_41 x_up_s rfl ?_
        refine x_imul F dM_row_44 ?_
        refine xW.toi (nI ((40) * (pr))) (pk_mul _ _) ?_
        refine x_iload_n F 1 dM_row_45 rfl rfl ?_
        refine x_iadd F dM_row_46 ?_
        refine xW.toi (nI ((40) * (pr) + k)) (nI_add _ _) ?_
        refine x_istore_n F [(3, .int (nI ((40) * (pr) + k))), (0, .ref (a)), (1, .int (nI (k))), (2, .int (nI (0)))] dM_row_47 rfl (by decide) rfl ?_
        refine x_aload_n F 1 dM_row_48 rfl rfl ?_
        refine x_bipush F (v := nI (40)) dM_row_49 (by decide) ?_
        refine x_aload_n F 1 dM_row_51 rfl rfl ?_
        refine x_get (ci := 6) F 3 (x_in inM) rfl (by decide) (x_m kfM_156) dM_row_52 x_up_s rfl ?_
        refine x_imul F dM_row_55 ?_
        refine xW.toi (nI ((40) * (pr))) (pk_mul _ _) ?_
        refine x_iload_n F 0 dM_row_56 rfl rfl ?_
        refine yV (n := 2) (As := [.int (nI ((40) * (pr))), .int (nI ((40) * (pr) + k))]) (ci := 6) F kmM_123 kiM_above ksM_above knM kcM_above (by decide +kernel) dM_row_57 (cM_above l (nx) (x_up M (a) (.inr (6, [.int (nI (0)), .ref (a + 1), .int (nI (sn)), .int (nI (pr)), .int (fk), .int (fp), .ref (a + 2), .ref (a + 3), .ref (a + 4), .ref (a + 5), .ref (a + 6), .int (nI (nn)), .ref (a + 7), .ref (a + 8), .ref (a + 9), .ref (a + 10), .int (nI (ln)), .ref (a + 11), .ref (a + 12), .ref (a + 13), .ref (a + 14), .int (nI (fn)), .ref (a + 15), .ref (a + 16), .ref (a + 17), .int (nI (ac)), .ref (a + 18)]))) (a) (nI (0)) sg sn pr fk fp rws cd ds wc wd nn nE nC nK nO ln lF lC lT lO fn fC fP ak ac pt ⟨x_up_s, (x_up_k h1 (by omega)), (x_up_k h2 (by omega)), (x_up_k h3 (by omega)), (x_up_k h4 (by omega)), (x_up_k h5 (by omega)), (x_up_k h6 (by omega)), (x_up_k h7 (by omega)), (x_up_k h8 (by omega)), (x_up_k h9 (by omega)), (x_up_k h10 (by omega)), (x_up_k h11 (by omega)), (x_up_k h12 (by omega)), (x_up_k h13 (by omega)), (x_up_k h14 (by omega)), (x_up_k h15 (by omega)), (x_up_k h16 (by omega)), (x_up_k h17 (by omega)), (x_up_k h18 (by omega)), by omega, by omega, by omega, by omega, by omega, by omega⟩ (40 * pr) k (by omega)) rfl x_up_s rfl rfl (Nat.le_of_ble_eq_true rfl) ⟨Nat.le_of_ble_eq_true rfl, Nat.le_of_ble_eq_true rfl⟩ ⟨Nat.le_of_ble_eq_true rfl, Nat.le_of_ble_eq_true rfl⟩ ?_
        refine x_istore F [(4, .int (oj (40 * pr) (mUp ds (40 * pr) k))), (3, .int (nI ((40) * (pr) + k))), (0, .ref (a)), (1, .int (nI (k))), (2, .int (nI (0)))] dM_row_60 (by decide) rfl ?_
        refine x_iload_n F 4 dM_row_62 rfl rfl ?_
        refine x_tableIn F (tgt := 92) dM_row_63 (by decide) (by decide) (by rfl) (by decide) ?_
        refine x_aload_n F 2 dM_row_92 rfl rfl ?_
        refine x_get (ci := 6) F 7 (x_in inM) rfl (by decide) (x_m kfM_20) dM_row_93 x_up_s rfl ?_
        refine x_iload_n F 1 dM_row_96 rfl rfl ?_
        refine x_lald F dM_row_97 (x_up_k h3 (by omega)) (pk_in ((40) * (pr) + k) (160) (by omega)) ?_
        refine xW.tol ((cd) ((40) * (pr) + k)) (by rw [nI_clamp (by omega)]) ?_
        exact x_lret F hr dM_row_98 (⟨rfl, rfl, ⟨x_up_s, (x_up_k h1 (by omega)), (x_up_k h2 (by omega)), (x_up_k h3 (by omega)), (x_up_k h4 (by omega)), (x_up_k h5 (by omega)), (x_up_k h6 (by omega)), (x_up_k h7 (by omega)), (x_up_k h8 (by omega)), (x_up_k h9 (by omega)), (x_up_k h10 (by omega)), (x_up_k h11 (by omega)), (x_up_k h12 (by omega)), (x_up_k h13 (by omega)), (x_up_k h14 (by omega)), (x_up_k h15 (by omega)), (x_up_k h16 (by omega)), (x_up_k h17 (by omega)), (x_up_k h18 (by omega)), by omega, by omega, by omega, by omega, by omega, by omega⟩, fun b hb => (x_up_n (by omega)).trans (rfl)⟩)
      · skip
        have c3 : (decide ((0) ≤ (0)) && decide ((0) ≤ (4))) = false := bI_0 c3
        simp at c3
set_option maxHeartbeats 4000000 in
set_option maxRecDepth 100000 in
theorem cM_row1 (l : Launch) (nx : Nat) (M : xH) (a : Nat) (th : Int32) (sg : Nat → Int32) (sn pr : Nat) (fk fp : Int32) (rws : Nat → Int32) (cd : Nat → Int64) (ds wc : Nat → Int32) (wd : Nat → Int64) (nn : Nat) (nE : Nat → Int32) (nC : Nat → Int64) (nK : Nat → Int32) (nO : Nat → Int64) (ln : Nat) (lF : Nat → Int32) (lC : Nat → Int64) (lT : Nat → Int32) (lO : Nat → Int64) (fn : Nat) (fC : Nat → Int64) (fP : Nat → Int32) (ak : Nat → Int64) (ac : Nat) (pt : Nat → Int32) (hT : mAt M a th sg sn pr fk fp rws cd ds wc wd nn nE nC nK nO ln lF lC lT lO fn fC fP ak ac pt) (rw : Nat → Nat) (hrw : mR rws rw) (k : Nat) (hk : k < rw pr) : xC l xcl yM_row (xw (Cond.code yM_row bM_row 5 (some .long))) ({ frames := 1, cells := 0, slots := 0, locals := 23 } : Room) [.ref (a), .int (nI (k)), .int (nI (1))] nx M (mPost (some (.long ((ds (40 * pr + k)).toInt64))) nx M a ((nI (0))) sg sn pr fk fp rws cd ds wc wd nn nE nC nK nO ln lF lC lT lO fn fC fP ak ac pt) := by
  obtain ⟨h0, h1, h2, h3, h4, h5, h6, h7, h8, h9, h10, h11, h12, h13, h14, h15, h16, h17, h18, b1, b2, b3, b4, b5, b6⟩ := id hT
  have hr40 := (hrw pr (by omega)).2
  refine yC (by decide) (Nat.le_of_ble_eq_true rfl) ?_
  intro p e s m args below meth c D F hr hn
  refine x_iload_n F 1 dM_row_0 rfl rfl ?_
  refine x_if_lt F (tgt := 26) dM_row_1 (by decide) (fun c1 => ?_) (fun c1 => ?_)
  · skip
    have c1 : k < 0 := by
      exact (nI_ltI (a := k) (b := 0) (by omega) (by omega)).mp c1
    exact absurd c1 (by omega)
  · skip
    have c1 : 0 ≤ k := by
      have z : ¬ (k < 0) := fun zz => c1 ((nI_ltI (a := k) (b := 0) (by omega) (by omega)).mpr zz)
      omega
    refine x_iload_n F 1 dM_row_4 rfl rfl ?_
    refine x_aload_n F 0 dM_row_5 rfl rfl ?_
    refine x_get (ci := 6) F 6 (x_in inM) rfl (by decide) (x_m kfM_17) dM_row_6 h0 rfl ?_
    refine x_aload_n F 0 dM_row_9 rfl rfl ?_
    refine x_get (ci := 6) F 3 (x_in inM) rfl (by decide) (x_m kfM_156) dM_row_10 h0 rfl ?_
    refine x_iald F dM_row_13 h2 (pk_in (pr) (4) (by omega)) ?_
    refine xW.toi (nI (rw pr)) (by rw [nI_clamp (by omega)]; exact (hrw _ (by omega)).1) ?_
    refine x_icmp_ge F (tgt := 26) dM_row_14 (by decide) (fun c2 => ?_) (fun c2 => ?_)
    · skip
      have c2 : rw pr ≤ k := by
        exact (nI_leI (a := rw pr) (b := k) (by omega) (by omega)).mp c2
      exact absurd c2 (by omega)
    · skip
      have c2 : k < rw pr := by
        have z : ¬ (rw pr ≤ k) := fun zz => c2 ((nI_leI (a := rw pr) (b := k) (by omega) (by omega)).mpr zz)
        omega
      refine x_iload_n F 2 dM_row_17 rfl rfl ?_
      refine x_iconst F (v := nI (0)) dM_row_18 (by decide) ?_
      refine x_iconst F (v := nI (4)) dM_row_19 (by decide) ?_
      refine yS (n := 3) (As := [.int (nI (1)), .int (nI (0)), .int (nI (4))]) F kmM_72 ktM_in knM kcM_in (by decide +kernel) dM_row_20 (cM_inN l (nx) M (1) (0) (4) (by omega) (by omega) (by omega)) rfl rfl (Nat.le_of_ble_eq_true rfl) ⟨Nat.le_of_ble_eq_true rfl, Nat.le_of_ble_eq_true rfl⟩ ⟨Nat.le_of_ble_eq_true rfl, Nat.le_of_ble_eq_true rfl⟩ ?_
      refine x_if_ne F (tgt := 33) dM_row_23 (by decide) (fun c3 => ?_) (fun c3 => ?_)
      · skip
        have c3 : (decide ((0) ≤ (1)) && decide ((1) ≤ (4))) = true := bI_1 c3
        refine x_aload_n F 0 dM_row_33 rfl rfl ?_
        refine x_iconst F (v := nI (0)) dM_row_34 (by decide) ?_
        refine x_put (ci := 6) (ty := .int) F 0 (x_in inM) tM tM_ok nM rfl (by decide) (x_m kfM_69) dM_row_35 rfl (by decide +kernel) rfl rfl h0 (Nat.le_of_ble_eq_true rfl) ?_
        show xW p l e ({ frames := 1, cells := 0, slots := 0, locals := 23 } : Room) s m args below meth c D xcl (x_A M nx) 5 (MQ below (x_Q D xcl (x_A M nx) (mPost (some (.long ((ds (40 * pr + k)).toInt64))) nx M a ((nI (0))) sg sn pr fk fp rws cd ds wc wd nn nE nC nK nO ln lF lC lT lO fn fC fP ak ac pt)) args s 0 0 (x_A M nx)) 0 0 (nx) (x_up M (a) (.inr (6, [.int (nI (0)), .ref (a + 1), .int (nI (sn)), .int (nI (pr)), .int (fk), .int (fp), .ref (a + 2), .ref (a + 3), .ref (a + 4), .ref (a + 5), .ref (a + 6), .int (nI (nn)), .ref (a + 7), .ref (a + 8), .ref (a + 9), .ref (a + 10), .int (nI (ln)), .ref (a + 11), .ref (a + 12), .ref (a + 13), .ref (a + 14), .int (nI (fn)), .ref (a + 15), .ref (a + 16), .ref (a + 17), .int (nI (ac)), .ref (a + 18)]))) 38 [(0, .ref (a)), (1, .int (nI (k))), (2, .int (nI (1)))] []
        refine x_bipush F (v := nI (40)) dM_row_38 (by decide) ?_
        refine x_aload_n F 0 dM_row_40 rfl rfl ?_
        refine x_get (ci := 6) F 3 (x_in inM) rfl (by decide) (x_m kfM_156) dM_row_41 x_up_s rfl ?_
        refine x_imul F dM_row_44 ?_
        refine xW.toi (nI ((40) * (pr))) (pk_mul _ _) ?_
        refine x_iload_n F 1 dM_row_45 rfl rfl ?_
        refine x_iadd F dM_row_46 ?_
        refine xW.toi (nI ((40) * (pr) + k)) (nI_add _ _) ?_
        refine x_istore_n F [(3, .int (nI ((40) * (pr) + k))), (0, .ref (a)), (1, .int (nI (k))), (2, .int (nI (1)))] dM_row_47 rfl (by decide) rfl ?_
        refine x_aload_n F 1 dM_row_48 rfl rfl ?_
        refine x_bipush F (v := nI (40)) dM_row_49 (by decide) ?_
        refine x_aload_n F 1 dM_row_51 rfl rfl ?_
        refine x_get (ci := 6) F 3 (x_in inM) rfl (by decide) (x_m kfM_156) dM_row_52 x_up_s rfl ?_
        refine x_imul F dM_row_55 ?_
        refine xW.toi (nI ((40) * (pr))) (pk_mul _ _) ?_
        refine x_iload_n F 0 dM_row_56 rfl rfl ?_
        refine yV (n := 2) (As := [.int (nI ((40) * (pr))), .int (nI ((40) * (pr) + k))]) (ci := 6) F kmM_123 kiM_above ksM_above knM kcM_above (by decide +kernel) dM_row_57 (cM_above l (nx) (x_up M (a) (.inr (6, [.int (nI (0)), .ref (a + 1), .int (nI (sn)), .int (nI (pr)), .int (fk), .int (fp), .ref (a + 2), .ref (a + 3), .ref (a + 4), .ref (a + 5), .ref (a + 6), .int (nI (nn)), .ref (a + 7), .ref (a + 8), .ref (a + 9), .ref (a + 10), .int (nI (ln)), .ref (a + 11), .ref (a + 12), .ref (a + 13), .ref (a + 14), .int (nI (fn)), .ref (a + 15), .ref (a + 16), .ref (a + 17), .int (nI (ac)), .ref (a + 18)]))) (a) (nI (0)) sg sn pr fk fp rws cd ds wc wd nn nE nC nK nO ln lF lC lT lO fn fC fP ak ac pt ⟨x_up_s, (x_up_k h1 (by omega)), (x_up_k h2 (by omega)), (x_up_k h3 (by omega)), (x_up_k h4 (by omega)), (x_up_k h5 (by omega)), (x_up_k h6 (by omega)), (x_up_k h7 (by omega)), (x_up_k h8 (by omega)), (x_up_k h9 (by omega)), (x_up_k h10 (by omega)), (x_up_k h11 (by omega)), (x_up_k h12 (by omega)), (x_up_k h13 (by omega)), (x_up_k h14 (by omega)), (x_up_k h15 (by omega)), (x_up_k h16 (by omega)), (x_up_k h17 (by omega)), (x_up_k h18 (by omega)), by omega, by omega, by omega, by omega, by omega, by omega⟩ (40 * pr) k (by omega)) rfl x_up_s rfl rfl (Nat.le_of_ble_eq_true rfl) ⟨Nat.le_of_ble_eq_true rfl, Nat.le_of_ble_eq_true rfl⟩ ⟨Nat.le_of_ble_eq_true rfl, Nat.le_of_ble_eq_true rfl⟩ ?_
        refine x_istore F [(4, .int (oj (40 * pr) (mUp ds (40 * pr) k))), (3, .int (nI ((40) * (pr) + k))), (0, .ref (a)), (1, .int (nI (k))), (2, .int (nI (1)))] dM_row_60 (by decide) rfl ?_
        refine x_iload_n F 4 dM_row_62 rfl rfl ?_
        refine x_tableIn F (tgt := 99) dM_row_63 (by decide) (by decide) (by rfl) (by decide) ?_
        refine x_aload_n F 2 dM_row_99 rfl rfl ?_
        refine x_get (ci := 6) F 8 (x_in inM) rfl (by decide) (x_m kfM_24) dM_row_100 x_up_s rfl ?_
        refine x_iload_n F 1 dM_row_103 rfl rfl ?_
        refine x_iald F dM_row_104 (x_up_k h4 (by omega)) (pk_in ((40) * (pr) + k) (160) (by omega)) ?_
        refine xW.toi ((ds) ((40) * (pr) + k)) (by rw [nI_clamp (by omega)]) ?_
        refine x_i2l F dM_row_105 ?_
        exact x_lret F hr dM_row_106 (⟨rfl, rfl, ⟨x_up_s, (x_up_k h1 (by omega)), (x_up_k h2 (by omega)), (x_up_k h3 (by omega)), (x_up_k h4 (by omega)), (x_up_k h5 (by omega)), (x_up_k h6 (by omega)), (x_up_k h7 (by omega)), (x_up_k h8 (by omega)), (x_up_k h9 (by omega)), (x_up_k h10 (by omega)), (x_up_k h11 (by omega)), (x_up_k h12 (by omega)), (x_up_k h13 (by omega)), (x_up_k h14 (by omega)), (x_up_k h15 (by omega)), (x_up_k h16 (by omega)), (x_up_k h17 (by omega)), (x_up_k h18 (by omega)), by omega, by omega, by omega, by omega, by omega, by omega⟩, fun b hb => (x_up_n (by omega)).trans (rfl)⟩)
      · skip
        have c3 : (decide ((0) ≤ (1)) && decide ((1) ≤ (4))) = false := bI_0 c3
        simp at c3
set_option maxHeartbeats 4000000 in
set_option maxRecDepth 100000 in
theorem cM_row2 (l : Launch) (nx : Nat) (M : xH) (a : Nat) (th : Int32) (sg : Nat → Int32) (sn pr : Nat) (fk fp : Int32) (rws : Nat → Int32) (cd : Nat → Int64) (ds wc : Nat → Int32) (wd : Nat → Int64) (nn : Nat) (nE : Nat → Int32) (nC : Nat → Int64) (nK : Nat → Int32) (nO : Nat → Int64) (ln : Nat) (lF : Nat → Int32) (lC : Nat → Int64) (lT : Nat → Int32) (lO : Nat → Int64) (fn : Nat) (fC : Nat → Int64) (fP : Nat → Int32) (ak : Nat → Int64) (ac : Nat) (pt : Nat → Int32) (hT : mAt M a th sg sn pr fk fp rws cd ds wc wd nn nE nC nK nO ln lF lC lT lO fn fC fP ak ac pt) (rw : Nat → Nat) (hrw : mR rws rw) (k : Nat) (hk : k < rw pr) : xC l xcl yM_row (xw (Cond.code yM_row bM_row 5 (some .long))) ({ frames := 1, cells := 0, slots := 0, locals := 23 } : Room) [.ref (a), .int (nI (k)), .int (nI (2))] nx M (mPost (some (.long ((wc (40 * pr + k)).toInt64))) nx M a ((nI (0))) sg sn pr fk fp rws cd ds wc wd nn nE nC nK nO ln lF lC lT lO fn fC fP ak ac pt) := by
  obtain ⟨h0, h1, h2, h3, h4, h5, h6, h7, h8, h9, h10, h11, h12, h13, h14, h15, h16, h17, h18, b1, b2, b3, b4, b5, b6⟩ := id hT
  have hr40 := (hrw pr (by omega)).2
  refine yC (by decide) (Nat.le_of_ble_eq_true rfl) ?_
  intro p e s m args below meth c D F hr hn
  refine x_iload_n F 1 dM_row_0 rfl rfl ?_
  refine x_if_lt F (tgt := 26) dM_row_1 (by decide) (fun c1 => ?_) (fun c1 => ?_)
  · skip
    have c1 : k < 0 := by
      exact (nI_ltI (a := k) (b := 0) (by omega) (by omega)).mp c1
    exact absurd c1 (by omega)
  · skip
    have c1 : 0 ≤ k := by
      have z : ¬ (k < 0) := fun zz => c1 ((nI_ltI (a := k) (b := 0) (by omega) (by omega)).mpr zz)
      omega
    refine x_iload_n F 1 dM_row_4 rfl rfl ?_
    refine x_aload_n F 0 dM_row_5 rfl rfl ?_
    refine x_get (ci := 6) F 6 (x_in inM) rfl (by decide) (x_m kfM_17) dM_row_6 h0 rfl ?_
    refine x_aload_n F 0 dM_row_9 rfl rfl ?_
    refine x_get (ci := 6) F 3 (x_in inM) rfl (by decide) (x_m kfM_156) dM_row_10 h0 rfl ?_
    refine x_iald F dM_row_13 h2 (pk_in (pr) (4) (by omega)) ?_
    refine xW.toi (nI (rw pr)) (by rw [nI_clamp (by omega)]; exact (hrw _ (by omega)).1) ?_
    refine x_icmp_ge F (tgt := 26) dM_row_14 (by decide) (fun c2 => ?_) (fun c2 => ?_)
    · skip
      have c2 : rw pr ≤ k := by
        exact (nI_leI (a := rw pr) (b := k) (by omega) (by omega)).mp c2
      exact absurd c2 (by omega)
    · skip
      have c2 : k < rw pr := by
        have z : ¬ (rw pr ≤ k) := fun zz => c2 ((nI_leI (a := rw pr) (b := k) (by omega) (by omega)).mpr zz)
        omega
      refine x_iload_n F 2 dM_row_17 rfl rfl ?_
      refine x_iconst F (v := nI (0)) dM_row_18 (by decide) ?_
      refine x_iconst F (v := nI (4)) dM_row_19 (by decide) ?_
      refine yS (n := 3) (As := [.int (nI (2)), .int (nI (0)), .int (nI (4))]) F kmM_72 ktM_in knM kcM_in (by decide +kernel) dM_row_20 (cM_inN l (nx) M (2) (0) (4) (by omega) (by omega) (by omega)) rfl rfl (Nat.le_of_ble_eq_true rfl) ⟨Nat.le_of_ble_eq_true rfl, Nat.le_of_ble_eq_true rfl⟩ ⟨Nat.le_of_ble_eq_true rfl, Nat.le_of_ble_eq_true rfl⟩ ?_
      refine x_if_ne F (tgt := 33) dM_row_23 (by decide) (fun c3 => ?_) (fun c3 => ?_)
      · skip
        have c3 : (decide ((0) ≤ (2)) && decide ((2) ≤ (4))) = true := bI_1 c3
        refine x_aload_n F 0 dM_row_33 rfl rfl ?_
        refine x_iconst F (v := nI (0)) dM_row_34 (by decide) ?_
        refine x_put (ci := 6) (ty := .int) F 0 (x_in inM) tM tM_ok nM rfl (by decide) (x_m kfM_69) dM_row_35 rfl (by decide +kernel) rfl rfl h0 (Nat.le_of_ble_eq_true rfl) ?_
        show xW p l e ({ frames := 1, cells := 0, slots := 0, locals := 23 } : Room) s m args below meth c D xcl (x_A M nx) 5 (MQ below (x_Q D xcl (x_A M nx) (mPost (some (.long ((wc (40 * pr + k)).toInt64))) nx M a ((nI (0))) sg sn pr fk fp rws cd ds wc wd nn nE nC nK nO ln lF lC lT lO fn fC fP ak ac pt)) args s 0 0 (x_A M nx)) 0 0 (nx) (x_up M (a) (.inr (6, [.int (nI (0)), .ref (a + 1), .int (nI (sn)), .int (nI (pr)), .int (fk), .int (fp), .ref (a + 2), .ref (a + 3), .ref (a + 4), .ref (a + 5), .ref (a + 6), .int (nI (nn)), .ref (a + 7), .ref (a + 8), .ref (a + 9), .ref (a + 10), .int (nI (ln)), .ref (a + 11), .ref (a + 12), .ref (a + 13), .ref (a + 14), .int (nI (fn)), .ref (a + 15), .ref (a + 16), .ref (a + 17), .int (nI (ac)), .ref (a + 18)]))) 38 [(0, .ref (a)), (1, .int (nI (k))), (2, .int (nI (2)))] []
        refine x_bipush F (v := nI (40)) dM_row_38 (by decide) ?_
        refine x_aload_n F 0 dM_row_40 rfl rfl ?_
        refine x_get (ci := 6) F 3 (x_in inM) rfl (by decide) (x_m kfM_156) dM_row_41 x_up_s rfl ?_
        refine x_imul F dM_row_44 ?_
        refine xW.toi (nI ((40) * (pr))) (pk_mul _ _) ?_
        refine x_iload_n F 1 dM_row_45 rfl rfl ?_
        refine x_iadd F dM_row_46 ?_
        refine xW.toi (nI ((40) * (pr) + k)) (nI_add _ _) ?_
        refine x_istore_n F [(3, .int (nI ((40) * (pr) + k))), (0, .ref (a)), (1, .int (nI (k))), (2, .int (nI (2)))] dM_row_47 rfl (by decide) rfl ?_
        refine x_aload_n F 1 dM_row_48 rfl rfl ?_
        refine x_bipush F (v := nI (40)) dM_row_49 (by decide) ?_
        refine x_aload_n F 1 dM_row_51 rfl rfl ?_
        refine x_get (ci := 6) F 3 (x_in inM) rfl (by decide) (x_m kfM_156) dM_row_52 x_up_s rfl ?_
        refine x_imul F dM_row_55 ?_
        refine xW.toi (nI ((40) * (pr))) (pk_mul _ _) ?_
        refine x_iload_n F 0 dM_row_56 rfl rfl ?_
        refine yV (n := 2) (As := [.int (nI ((40) * (pr))), .int (nI ((40) * (pr) + k))]) (ci := 6) F kmM_123 kiM_above ksM_above knM kcM_above (by decide +kernel) dM_row_57 (cM_above l (nx) (x_up M (a) (.inr (6, [.int (nI (0)), .ref (a + 1), .int (nI (sn)), .int (nI (pr)), .int (fk), .int (fp), .ref (a + 2), .ref (a + 3), .ref (a + 4), .ref (a + 5), .ref (a + 6), .int (nI (nn)), .ref (a + 7), .ref (a + 8), .ref (a + 9), .ref (a + 10), .int (nI (ln)), .ref (a + 11), .ref (a + 12), .ref (a + 13), .ref (a + 14), .int (nI (fn)), .ref (a + 15), .ref (a + 16), .ref (a + 17), .int (nI (ac)), .ref (a + 18)]))) (a) (nI (0)) sg sn pr fk fp rws cd ds wc wd nn nE nC nK nO ln lF lC lT lO fn fC fP ak ac pt ⟨x_up_s, (x_up_k h1 (by omega)), (x_up_k h2 (by omega)), (x_up_k h3 (by omega)), (x_up_k h4 (by omega)), (x_up_k h5 (by omega)), (x_up_k h6 (by omega)), (x_up_k h7 (by omega)), (x_up_k h8 (by omega)), (x_up_k h9 (by omega)), (x_up_k h10 (by omega)), (x_up_k h11 (by omega)), (x_up_k h12 (by omega)), (x_up_k h13 (by omega)), (x_up_k h14 (by omega)), (x_up_k h15 (by omega)), (x_up_k h16 (by omega)), (x_up_k h17 (by omega)), (x_up_k h18 (by omega)), by omega, by omega, by omega, by omega, by omega, by omega⟩ (40 * pr) k (by omega)) rfl x_up_s rfl rfl (Nat.le_of_ble_eq_true rfl) ⟨Nat.le_of_ble_eq_true rfl, Nat.le_of_ble_eq_true rfl⟩ ⟨Nat.le_of_ble_eq_true rfl, Nat.le_of_ble_eq_true rfl⟩ ?_
        refine x_istore F [(4, .int (oj (40 * pr) (mUp ds (40 * pr) k))), (3, .int (nI ((40) * (pr) + k))), (0, .ref (a)), (1, .int (nI (k))), (2, .int (nI (2)))] dM_row_60 (by decide) rfl ?_
        refine x_iload_n F 4 dM_row_62 rfl rfl ?_
        refine x_tableIn F (tgt := 107) dM_row_63 (by decide) (by decide) (by rfl) (by decide) ?_
        refine x_aload_n F 2 dM_row_107 rfl rfl ?_
        refine x_get (ci := 6) F 9 (x_in inM) rfl (by decide) (x_m kfM_27) dM_row_108 x_up_s rfl ?_
        refine x_iload_n F 1 dM_row_111 rfl rfl ?_
        refine x_iald F dM_row_112 (x_up_k h5 (by omega)) (pk_in ((40) * (pr) + k) (160) (by omega)) ?_
        refine xW.toi ((wc) ((40) * (pr) + k)) (by rw [nI_clamp (by omega)]) ?_
        refine x_i2l F dM_row_113 ?_
        exact x_lret F hr dM_row_114 (⟨rfl, rfl, ⟨x_up_s, (x_up_k h1 (by omega)), (x_up_k h2 (by omega)), (x_up_k h3 (by omega)), (x_up_k h4 (by omega)), (x_up_k h5 (by omega)), (x_up_k h6 (by omega)), (x_up_k h7 (by omega)), (x_up_k h8 (by omega)), (x_up_k h9 (by omega)), (x_up_k h10 (by omega)), (x_up_k h11 (by omega)), (x_up_k h12 (by omega)), (x_up_k h13 (by omega)), (x_up_k h14 (by omega)), (x_up_k h15 (by omega)), (x_up_k h16 (by omega)), (x_up_k h17 (by omega)), (x_up_k h18 (by omega)), by omega, by omega, by omega, by omega, by omega, by omega⟩, fun b hb => (x_up_n (by omega)).trans (rfl)⟩)
      · skip
        have c3 : (decide ((0) ≤ (2)) && decide ((2) ≤ (4))) = false := bI_0 c3
        simp at c3
set_option maxHeartbeats 4000000 in
set_option maxRecDepth 100000 in
theorem cM_row4 (l : Launch) (nx : Nat) (M : xH) (a : Nat) (th : Int32) (sg : Nat → Int32) (sn pr : Nat) (fk fp : Int32) (rws : Nat → Int32) (cd : Nat → Int64) (ds wc : Nat → Int32) (wd : Nat → Int64) (nn : Nat) (nE : Nat → Int32) (nC : Nat → Int64) (nK : Nat → Int32) (nO : Nat → Int64) (ln : Nat) (lF : Nat → Int32) (lC : Nat → Int64) (lT : Nat → Int32) (lO : Nat → Int64) (fn : Nat) (fC : Nat → Int64) (fP : Nat → Int32) (ak : Nat → Int64) (ac : Nat) (pt : Nat → Int32) (hT : mAt M a th sg sn pr fk fp rws cd ds wc wd nn nE nC nK nO ln lF lC lT lO fn fC fP ak ac pt) (rw : Nat → Nat) (hrw : mR rws rw) (k : Nat) (hk : k < rw pr) : xC l xcl yM_row (xw (Cond.code yM_row bM_row 5 (some .long))) ({ frames := 2, cells := 0, slots := 0, locals := 47 } : Room) [.ref (a), .int (nI (k)), .int (nI (4))] nx M (mPost (some (.long (lN (mBl ds (40 * pr) (rw pr) k)))) nx M a ((nI (0))) sg sn pr fk fp rws cd ds wc wd nn nE nC nK nO ln lF lC lT lO fn fC fP ak ac pt) := by
  obtain ⟨h0, h1, h2, h3, h4, h5, h6, h7, h8, h9, h10, h11, h12, h13, h14, h15, h16, h17, h18, b1, b2, b3, b4, b5, b6⟩ := id hT
  have hr40 := (hrw pr (by omega)).2
  refine yC (by decide) (Nat.le_of_ble_eq_true rfl) ?_
  intro p e s m args below meth c D F hr hn
  refine x_iload_n F 1 dM_row_0 rfl rfl ?_
  refine x_if_lt F (tgt := 26) dM_row_1 (by decide) (fun c1 => ?_) (fun c1 => ?_)
  · skip
    have c1 : k < 0 := by
      exact (nI_ltI (a := k) (b := 0) (by omega) (by omega)).mp c1
    exact absurd c1 (by omega)
  · skip
    have c1 : 0 ≤ k := by
      have z : ¬ (k < 0) := fun zz => c1 ((nI_ltI (a := k) (b := 0) (by omega) (by omega)).mpr zz)
      omega
    refine x_iload_n F 1 dM_row_4 rfl rfl ?_
    refine x_aload_n F 0 dM_row_5 rfl rfl ?_
    refine x_get (ci := 6) F 6 (x_in inM) rfl (by decide) (x_m kfM_17) dM_row_6 h0 rfl ?_
    refine x_aload_n F 0 dM_row_9 rfl rfl ?_
    refine x_get (ci := 6) F 3 (x_in inM) rfl (by decide) (x_m kfM_156) dM_row_10 h0 rfl ?_
    refine x_iald F dM_row_13 h2 (pk_in (pr) (4) (by omega)) ?_
    refine xW.toi (nI (rw pr)) (by rw [nI_clamp (by omega)]; exact (hrw _ (by omega)).1) ?_
    refine x_icmp_ge F (tgt := 26) dM_row_14 (by decide) (fun c2 => ?_) (fun c2 => ?_)
    · skip
      have c2 : rw pr ≤ k := by
        exact (nI_leI (a := rw pr) (b := k) (by omega) (by omega)).mp c2
      exact absurd c2 (by omega)
    · skip
      have c2 : k < rw pr := by
        have z : ¬ (rw pr ≤ k) := fun zz => c2 ((nI_leI (a := rw pr) (b := k) (by omega) (by omega)).mpr zz)
        omega
      refine x_iload_n F 2 dM_row_17 rfl rfl ?_
      refine x_iconst F (v := nI (0)) dM_row_18 (by decide) ?_
      refine x_iconst F (v := nI (4)) dM_row_19 (by decide) ?_
      refine yS (n := 3) (As := [.int (nI (4)), .int (nI (0)), .int (nI (4))]) F kmM_72 ktM_in knM kcM_in (by decide +kernel) dM_row_20 (cM_inN l (nx) M (4) (0) (4) (by omega) (by omega) (by omega)) rfl rfl (Nat.le_of_ble_eq_true rfl) ⟨Nat.le_of_ble_eq_true rfl, Nat.le_of_ble_eq_true rfl⟩ ⟨Nat.le_of_ble_eq_true rfl, Nat.le_of_ble_eq_true rfl⟩ ?_
      refine x_if_ne F (tgt := 33) dM_row_23 (by decide) (fun c3 => ?_) (fun c3 => ?_)
      · skip
        have c3 : (decide ((0) ≤ (4)) && decide ((4) ≤ (4))) = true := bI_1 c3
        refine x_aload_n F 0 dM_row_33 rfl rfl ?_
        refine x_iconst F (v := nI (0)) dM_row_34 (by decide) ?_
        refine x_put (ci := 6) (ty := .int) F 0 (x_in inM) tM tM_ok nM rfl (by decide) (x_m kfM_69) dM_row_35 rfl (by decide +kernel) rfl rfl h0 (Nat.le_of_ble_eq_true rfl) ?_
        show xW p l e ({ frames := 2, cells := 0, slots := 0, locals := 47 } : Room) s m args below meth c D xcl (x_A M nx) 5 (MQ below (x_Q D xcl (x_A M nx) (mPost (some (.long (lN (mBl ds (40 * pr) (rw pr) k)))) nx M a ((nI (0))) sg sn pr fk fp rws cd ds wc wd nn nE nC nK nO ln lF lC lT lO fn fC fP ak ac pt)) args s 0 0 (x_A M nx)) 0 0 (nx) (x_up M (a) (.inr (6, [.int (nI (0)), .ref (a + 1), .int (nI (sn)), .int (nI (pr)), .int (fk), .int (fp), .ref (a + 2), .ref (a + 3), .ref (a + 4), .ref (a + 5), .ref (a + 6), .int (nI (nn)), .ref (a + 7), .ref (a + 8), .ref (a + 9), .ref (a + 10), .int (nI (ln)), .ref (a + 11), .ref (a + 12), .ref (a + 13), .ref (a + 14), .int (nI (fn)), .ref (a + 15), .ref (a + 16), .ref (a + 17), .int (nI (ac)), .ref (a + 18)]))) 38 [(0, .ref (a)), (1, .int (nI (k))), (2, .int (nI (4)))] []
        refine x_bipush F (v := nI (40)) dM_row_38 (by decide) ?_
        refine x_aload_n F 0 dM_row_40 rfl rfl ?_
        refine x_get (ci := 6) F 3 (x_in inM) rfl (by decide) (x_m kfM_156) dM_row_41 x_up_s rfl ?_
        refine x_imul F dM_row_44 ?_
        refine xW.toi (nI ((40) * (pr))) (pk_mul _ _) ?_
        refine x_iload_n F 1 dM_row_45 rfl rfl ?_
        refine x_iadd F dM_row_46 ?_
        refine xW.toi (nI ((40) * (pr) + k)) (nI_add _ _) ?_
        refine x_istore_n F [(3, .int (nI ((40) * (pr) + k))), (0, .ref (a)), (1, .int (nI (k))), (2, .int (nI (4)))] dM_row_47 rfl (by decide) rfl ?_
        refine x_aload_n F 1 dM_row_48 rfl rfl ?_
        refine x_bipush F (v := nI (40)) dM_row_49 (by decide) ?_
        refine x_aload_n F 1 dM_row_51 rfl rfl ?_
        refine x_get (ci := 6) F 3 (x_in inM) rfl (by decide) (x_m kfM_156) dM_row_52 x_up_s rfl ?_
        refine x_imul F dM_row_55 ?_
        refine xW.toi (nI ((40) * (pr))) (pk_mul _ _) ?_
        refine x_iload_n F 0 dM_row_56 rfl rfl ?_
        refine yV (n := 2) (As := [.int (nI ((40) * (pr))), .int (nI ((40) * (pr) + k))]) (ci := 6) F kmM_123 kiM_above ksM_above knM kcM_above (by decide +kernel) dM_row_57 (cM_above l (nx) (x_up M (a) (.inr (6, [.int (nI (0)), .ref (a + 1), .int (nI (sn)), .int (nI (pr)), .int (fk), .int (fp), .ref (a + 2), .ref (a + 3), .ref (a + 4), .ref (a + 5), .ref (a + 6), .int (nI (nn)), .ref (a + 7), .ref (a + 8), .ref (a + 9), .ref (a + 10), .int (nI (ln)), .ref (a + 11), .ref (a + 12), .ref (a + 13), .ref (a + 14), .int (nI (fn)), .ref (a + 15), .ref (a + 16), .ref (a + 17), .int (nI (ac)), .ref (a + 18)]))) (a) (nI (0)) sg sn pr fk fp rws cd ds wc wd nn nE nC nK nO ln lF lC lT lO fn fC fP ak ac pt ⟨x_up_s, (x_up_k h1 (by omega)), (x_up_k h2 (by omega)), (x_up_k h3 (by omega)), (x_up_k h4 (by omega)), (x_up_k h5 (by omega)), (x_up_k h6 (by omega)), (x_up_k h7 (by omega)), (x_up_k h8 (by omega)), (x_up_k h9 (by omega)), (x_up_k h10 (by omega)), (x_up_k h11 (by omega)), (x_up_k h12 (by omega)), (x_up_k h13 (by omega)), (x_up_k h14 (by omega)), (x_up_k h15 (by omega)), (x_up_k h16 (by omega)), (x_up_k h17 (by omega)), (x_up_k h18 (by omega)), by omega, by omega, by omega, by omega, by omega, by omega⟩ (40 * pr) k (by omega)) rfl x_up_s rfl rfl (Nat.le_of_ble_eq_true rfl) ⟨Nat.le_of_ble_eq_true rfl, Nat.le_of_ble_eq_true rfl⟩ ⟨Nat.le_of_ble_eq_true rfl, Nat.le_of_ble_eq_true rfl⟩ ?_
        refine x_istore F [(4, .int (oj (40 * pr) (mUp ds (40 * pr) k))), (3, .int (nI ((40) * (pr) + k))), (0, .ref (a)), (1, .int (nI (k))), (2, .int (nI (4)))] dM_row_60 (by decide) rfl ?_
        refine x_iload_n F 4 dM_row_62 rfl rfl ?_
        refine x_tableOut F (tgt := 132) dM_row_63 (by decide) (by decide) ?_
        refine x_aload_n F 2 dM_row_132 rfl rfl ?_
        refine x_aload_n F 2 dM_row_133 rfl rfl ?_
        refine x_get (ci := 6) F 3 (x_in inM) rfl (by decide) (x_m kfM_156) dM_row_134 x_up_s rfl ?_
        refine x_iload_n F 1 dM_row_137 rfl rfl ?_
        refine yV (n := 2) (As := [.int (nI (pr)), .int (nI ((40) * (pr) + k))]) (ci := 6) F kmM_166 kiM_below ksM_below knM kcM_below (by decide +kernel) dM_row_138 (cM_below l (nx) (x_up M (a) (.inr (6, [.int (nI (0)), .ref (a + 1), .int (nI (sn)), .int (nI (pr)), .int (fk), .int (fp), .ref (a + 2), .ref (a + 3), .ref (a + 4), .ref (a + 5), .ref (a + 6), .int (nI (nn)), .ref (a + 7), .ref (a + 8), .ref (a + 9), .ref (a + 10), .int (nI (ln)), .ref (a + 11), .ref (a + 12), .ref (a + 13), .ref (a + 14), .int (nI (fn)), .ref (a + 15), .ref (a + 16), .ref (a + 17), .int (nI (ac)), .ref (a + 18)]))) (a) (nI (0)) sg sn pr fk fp rws cd ds wc wd nn nE nC nK nO ln lF lC lT lO fn fC fP ak ac pt ⟨x_up_s, (x_up_k h1 (by omega)), (x_up_k h2 (by omega)), (x_up_k h3 (by omega)), (x_up_k h4 (by omega)), (x_up_k h5 (by omega)), (x_up_k h6 (by omega)), (x_up_k h7 (by omega)), (x_up_k h8 (by omega)), (x_up_k h9 (by omega)), (x_up_k h10 (by omega)), (x_up_k h11 (by omega)), (x_up_k h12 (by omega)), (x_up_k h13 (by omega)), (x_up_k h14 (by omega)), (x_up_k h15 (by omega)), (x_up_k h16 (by omega)), (x_up_k h17 (by omega)), (x_up_k h18 (by omega)), by omega, by omega, by omega, by omega, by omega, by omega⟩ rw hrw pr k (by omega) hk) rfl x_up_s rfl rfl (Nat.le_of_ble_eq_true rfl) ⟨Nat.le_of_ble_eq_true rfl, Nat.le_of_ble_eq_true rfl⟩ ⟨Nat.le_of_ble_eq_true rfl, Nat.le_of_ble_eq_true rfl⟩ ?_
        refine x_i2l F dM_row_141 ?_
        refine xW.tol (lN (mBl ds (40 * pr) (rw pr) k)) (nI_l (by have := mBl_le ds (40 * pr) (rw pr) k; omega)) ?_
        exact x_lret F hr dM_row_142 (⟨rfl, rfl, ⟨x_up_s, (x_up_k h1 (by omega)), (x_up_k h2 (by omega)), (x_up_k h3 (by omega)), (x_up_k h4 (by omega)), (x_up_k h5 (by omega)), (x_up_k h6 (by omega)), (x_up_k h7 (by omega)), (x_up_k h8 (by omega)), (x_up_k h9 (by omega)), (x_up_k h10 (by omega)), (x_up_k h11 (by omega)), (x_up_k h12 (by omega)), (x_up_k h13 (by omega)), (x_up_k h14 (by omega)), (x_up_k h15 (by omega)), (x_up_k h16 (by omega)), (x_up_k h17 (by omega)), (x_up_k h18 (by omega)), by omega, by omega, by omega, by omega, by omega, by omega⟩, fun b hb => (x_up_n (by omega)).trans (rfl)⟩)
      · skip
        have c3 : (decide ((0) ≤ (4)) && decide ((4) ≤ (4))) = false := bI_0 c3
        simp at c3
set_option maxHeartbeats 4000000 in
set_option maxRecDepth 100000 in
theorem cM_row3 (l : Launch) (nx : Nat) (M : xH) (a : Nat) (th : Int32) (sg : Nat → Int32) (sn pr : Nat) (fk fp : Int32) (rws : Nat → Int32) (cd : Nat → Int64) (ds wc : Nat → Int32) (wd : Nat → Int64) (nn : Nat) (nE : Nat → Int32) (nC : Nat → Int64) (nK : Nat → Int32) (nO : Nat → Int64) (ln : Nat) (lF : Nat → Int32) (lC : Nat → Int64) (lT : Nat → Int32) (lO : Nat → Int64) (fn : Nat) (fC : Nat → Int64) (fP : Nat → Int32) (ak : Nat → Int64) (ac : Nat) (pt : Nat → Int32) (hT : mAt M a th sg sn pr fk fp rws cd ds wc wd nn nE nC nK nO ln lF lC lT lO fn fC fP ak ac pt) (rw : Nat → Nat) (hrw : mR rws rw) (k : Nat) (hk : k < rw pr) : xC l xcl yM_row (xw (Cond.code yM_row bM_row 5 (some .long))) ({ frames := 1, cells := 0, slots := 0, locals := 23 } : Room) [.ref (a), .int (nI (k)), .int (nI (3))] nx M (mPost (some (.long (m3 cd (40 * pr) (mUp ds (40 * pr) k)))) nx M a ((nI (0))) sg sn pr fk fp rws cd ds wc wd nn nE nC nK nO ln lF lC lT lO fn fC fP ak ac pt) := by
  obtain ⟨h0, h1, h2, h3, h4, h5, h6, h7, h8, h9, h10, h11, h12, h13, h14, h15, h16, h17, h18, b1, b2, b3, b4, b5, b6⟩ := id hT
  have hr40 := (hrw pr (by omega)).2
  refine yC (by decide) (Nat.le_of_ble_eq_true rfl) ?_
  intro p e s m args below meth c D F hr hn
  refine x_iload_n F 1 dM_row_0 rfl rfl ?_
  refine x_if_lt F (tgt := 26) dM_row_1 (by decide) (fun c1 => ?_) (fun c1 => ?_)
  · skip
    have c1 : k < 0 := by
      exact (nI_ltI (a := k) (b := 0) (by omega) (by omega)).mp c1
    exact absurd c1 (by omega)
  · skip
    have c1 : 0 ≤ k := by
      have z : ¬ (k < 0) := fun zz => c1 ((nI_ltI (a := k) (b := 0) (by omega) (by omega)).mpr zz)
      omega
    refine x_iload_n F 1 dM_row_4 rfl rfl ?_
    refine x_aload_n F 0 dM_row_5 rfl rfl ?_
    refine x_get (ci := 6) F 6 (x_in inM) rfl (by decide) (x_m kfM_17) dM_row_6 h0 rfl ?_
    refine x_aload_n F 0 dM_row_9 rfl rfl ?_
    refine x_get (ci := 6) F 3 (x_in inM) rfl (by decide) (x_m kfM_156) dM_row_10 h0 rfl ?_
    refine x_iald F dM_row_13 h2 (pk_in (pr) (4) (by omega)) ?_
    refine xW.toi (nI (rw pr)) (by rw [nI_clamp (by omega)]; exact (hrw _ (by omega)).1) ?_
    refine x_icmp_ge F (tgt := 26) dM_row_14 (by decide) (fun c2 => ?_) (fun c2 => ?_)
    · skip
      have c2 : rw pr ≤ k := by
        exact (nI_leI (a := rw pr) (b := k) (by omega) (by omega)).mp c2
      exact absurd c2 (by omega)
    · skip
      have c2 : k < rw pr := by
        have z : ¬ (rw pr ≤ k) := fun zz => c2 ((nI_leI (a := rw pr) (b := k) (by omega) (by omega)).mpr zz)
        omega
      refine x_iload_n F 2 dM_row_17 rfl rfl ?_
      refine x_iconst F (v := nI (0)) dM_row_18 (by decide) ?_
      refine x_iconst F (v := nI (4)) dM_row_19 (by decide) ?_
      refine yS (n := 3) (As := [.int (nI (3)), .int (nI (0)), .int (nI (4))]) F kmM_72 ktM_in knM kcM_in (by decide +kernel) dM_row_20 (cM_inN l (nx) M (3) (0) (4) (by omega) (by omega) (by omega)) rfl rfl (Nat.le_of_ble_eq_true rfl) ⟨Nat.le_of_ble_eq_true rfl, Nat.le_of_ble_eq_true rfl⟩ ⟨Nat.le_of_ble_eq_true rfl, Nat.le_of_ble_eq_true rfl⟩ ?_
      refine x_if_ne F (tgt := 33) dM_row_23 (by decide) (fun c3 => ?_) (fun c3 => ?_)
      · skip
        have c3 : (decide ((0) ≤ (3)) && decide ((3) ≤ (4))) = true := bI_1 c3
        refine x_aload_n F 0 dM_row_33 rfl rfl ?_
        refine x_iconst F (v := nI (0)) dM_row_34 (by decide) ?_
        refine x_put (ci := 6) (ty := .int) F 0 (x_in inM) tM tM_ok nM rfl (by decide) (x_m kfM_69) dM_row_35 rfl (by decide +kernel) rfl rfl h0 (Nat.le_of_ble_eq_true rfl) ?_
        show xW p l e ({ frames := 1, cells := 0, slots := 0, locals := 23 } : Room) s m args below meth c D xcl (x_A M nx) 5 (MQ below (x_Q D xcl (x_A M nx) (mPost (some (.long (m3 cd (40 * pr) (mUp ds (40 * pr) k)))) nx M a ((nI (0))) sg sn pr fk fp rws cd ds wc wd nn nE nC nK nO ln lF lC lT lO fn fC fP ak ac pt)) args s 0 0 (x_A M nx)) 0 0 (nx) (x_up M (a) (.inr (6, [.int (nI (0)), .ref (a + 1), .int (nI (sn)), .int (nI (pr)), .int (fk), .int (fp), .ref (a + 2), .ref (a + 3), .ref (a + 4), .ref (a + 5), .ref (a + 6), .int (nI (nn)), .ref (a + 7), .ref (a + 8), .ref (a + 9), .ref (a + 10), .int (nI (ln)), .ref (a + 11), .ref (a + 12), .ref (a + 13), .ref (a + 14), .int (nI (fn)), .ref (a + 15), .ref (a + 16), .ref (a + 17), .int (nI (ac)), .ref (a + 18)]))) 38 [(0, .ref (a)), (1, .int (nI (k))), (2, .int (nI (3)))] []
        refine x_bipush F (v := nI (40)) dM_row_38 (by decide) ?_
        refine x_aload_n F 0 dM_row_40 rfl rfl ?_
        refine x_get (ci := 6) F 3 (x_in inM) rfl (by decide) (x_m kfM_156) dM_row_41 x_up_s rfl ?_
        refine x_imul F dM_row_44 ?_
        refine xW.toi (nI ((40) * (pr))) (pk_mul _ _) ?_
        refine x_iload_n F 1 dM_row_45 rfl rfl ?_
        refine x_iadd F dM_row_46 ?_
        refine xW.toi (nI ((40) * (pr) + k)) (nI_add _ _) ?_
        refine x_istore_n F [(3, .int (nI ((40) * (pr) + k))), (0, .ref (a)), (1, .int (nI (k))), (2, .int (nI (3)))] dM_row_47 rfl (by decide) rfl ?_
        refine x_aload_n F 1 dM_row_48 rfl rfl ?_
        refine x_bipush F (v := nI (40)) dM_row_49 (by decide) ?_
        refine x_aload_n F 1 dM_row_51 rfl rfl ?_
        refine x_get (ci := 6) F 3 (x_in inM) rfl (by decide) (x_m kfM_156) dM_row_52 x_up_s rfl ?_
        refine x_imul F dM_row_55 ?_
        refine xW.toi (nI ((40) * (pr))) (pk_mul _ _) ?_
        refine x_iload_n F 0 dM_row_56 rfl rfl ?_
        refine yV (n := 2) (As := [.int (nI ((40) * (pr))), .int (nI ((40) * (pr) + k))]) (ci := 6) F kmM_123 kiM_above ksM_above knM kcM_above (by decide +kernel) dM_row_57 (cM_above l (nx) (x_up M (a) (.inr (6, [.int (nI (0)), .ref (a + 1), .int (nI (sn)), .int (nI (pr)), .int (fk), .int (fp), .ref (a + 2), .ref (a + 3), .ref (a + 4), .ref (a + 5), .ref (a + 6), .int (nI (nn)), .ref (a + 7), .ref (a + 8), .ref (a + 9), .ref (a + 10), .int (nI (ln)), .ref (a + 11), .ref (a + 12), .ref (a + 13), .ref (a + 14), .int (nI (fn)), .ref (a + 15), .ref (a + 16), .ref (a + 17), .int (nI (ac)), .ref (a + 18)]))) (a) (nI (0)) sg sn pr fk fp rws cd ds wc wd nn nE nC nK nO ln lF lC lT lO fn fC fP ak ac pt ⟨x_up_s, (x_up_k h1 (by omega)), (x_up_k h2 (by omega)), (x_up_k h3 (by omega)), (x_up_k h4 (by omega)), (x_up_k h5 (by omega)), (x_up_k h6 (by omega)), (x_up_k h7 (by omega)), (x_up_k h8 (by omega)), (x_up_k h9 (by omega)), (x_up_k h10 (by omega)), (x_up_k h11 (by omega)), (x_up_k h12 (by omega)), (x_up_k h13 (by omega)), (x_up_k h14 (by omega)), (x_up_k h15 (by omega)), (x_up_k h16 (by omega)), (x_up_k h17 (by omega)), (x_up_k h18 (by omega)), by omega, by omega, by omega, by omega, by omega, by omega⟩ (40 * pr) k (by omega)) rfl x_up_s rfl rfl (Nat.le_of_ble_eq_true rfl) ⟨Nat.le_of_ble_eq_true rfl, Nat.le_of_ble_eq_true rfl⟩ ⟨Nat.le_of_ble_eq_true rfl, Nat.le_of_ble_eq_true rfl⟩ ?_
        refine x_istore F [(4, .int (oj (40 * pr) (mUp ds (40 * pr) k))), (3, .int (nI ((40) * (pr) + k))), (0, .ref (a)), (1, .int (nI (k))), (2, .int (nI (3)))] dM_row_60 (by decide) rfl ?_
        rcases o_cases (mUp ds (40 * pr) k) with hup | ⟨j, hup⟩
        · skip
          refine xW.lve (lv' := [(4, .int ((-1))), (3, .int (nI ((40) * (pr) + k))), (0, .ref (a)), (1, .int (nI (k))), (2, .int (nI (3)))]) (by show ([(4, .int (oj (40 * pr) (mUp ds (40 * pr) k))), (3, .int (nI ((40) * (pr) + k))), (0, .ref (a)), (1, .int (nI (k))), (2, .int (nI (3)))] : List (Nat × Value)) = _; rw [hup]; rfl) ?_
          refine x_iload_n F 4 dM_row_62 rfl rfl ?_
          refine x_tableIn F (tgt := 115) dM_row_63 (by decide) (by decide) (by rfl) (by decide) ?_
          refine x_iload F 0 dM_row_115 rfl ?_
          refine x_if_ge F (tgt := 124) dM_row_117 (by decide) (fun c4 => ?_) (fun c4 => ?_)
          · skip
            exact absurd c4 (by decide)
          · skip
            refine x_lconst F (v := 0) dM_row_120 (by decide) ?_
            refine x_goto F (tgt := 131) dM_row_121 (by decide) ?_
            exact x_lret F hr dM_row_131 (by rw [hup]; exact ⟨rfl, rfl, ⟨x_up_s, (x_up_k h1 (by omega)), (x_up_k h2 (by omega)), (x_up_k h3 (by omega)), (x_up_k h4 (by omega)), (x_up_k h5 (by omega)), (x_up_k h6 (by omega)), (x_up_k h7 (by omega)), (x_up_k h8 (by omega)), (x_up_k h9 (by omega)), (x_up_k h10 (by omega)), (x_up_k h11 (by omega)), (x_up_k h12 (by omega)), (x_up_k h13 (by omega)), (x_up_k h14 (by omega)), (x_up_k h15 (by omega)), (x_up_k h16 (by omega)), (x_up_k h17 (by omega)), (x_up_k h18 (by omega)), by omega, by omega, by omega, by omega, by omega, by omega⟩, fun b hb => (x_up_n (by omega)).trans (rfl)⟩)
        · skip
          have hj := mUp_lt hup
          refine xW.lve (lv' := [(4, .int (nI (40 * pr + j))), (3, .int (nI ((40) * (pr) + k))), (0, .ref (a)), (1, .int (nI (k))), (2, .int (nI (3)))]) (by show ([(4, .int (oj (40 * pr) (mUp ds (40 * pr) k))), (3, .int (nI ((40) * (pr) + k))), (0, .ref (a)), (1, .int (nI (k))), (2, .int (nI (3)))] : List (Nat × Value)) = _; rw [hup]; rfl) ?_
          refine x_iload_n F 4 dM_row_62 rfl rfl ?_
          refine x_tableIn F (tgt := 115) dM_row_63 (by decide) (by decide) (by rfl) (by decide) ?_
          refine x_iload F 0 dM_row_115 rfl ?_
          refine x_if_ge F (tgt := 124) dM_row_117 (by decide) (fun c5 => ?_) (fun c5 => ?_)
          · skip
            have c5 : 0 ≤ 40 * pr + j := by
              exact (nI_leI (a := 0) (b := 40 * pr + j) (by omega) (by omega)).mp c5
            refine x_aload_n F 2 dM_row_124 rfl rfl ?_
            refine x_get (ci := 6) F 7 (x_in inM) rfl (by decide) (x_m kfM_20) dM_row_125 x_up_s rfl ?_
            refine x_iload F 0 dM_row_128 rfl ?_
            refine x_lald F dM_row_130 (x_up_k h3 (by omega)) (pk_in (40 * pr + j) (160) (by omega)) ?_
            refine xW.tol ((cd) (40 * pr + j)) (by rw [nI_clamp (by omega)]) ?_
            exact x_lret F hr dM_row_131 (by rw [hup]; exact ⟨rfl, rfl, ⟨x_up_s, (x_up_k h1 (by omega)), (x_up_k h2 (by omega)), (x_up_k h3 (by omega)), (x_up_k h4 (by omega)), (x_up_k h5 (by omega)), (x_up_k h6 (by omega)), (x_up_k h7 (by omega)), (x_up_k h8 (by omega)), (x_up_k h9 (by omega)), (x_up_k h10 (by omega)), (x_up_k h11 (by omega)), (x_up_k h12 (by omega)), (x_up_k h13 (by omega)), (x_up_k h14 (by omega)), (x_up_k h15 (by omega)), (x_up_k h16 (by omega)), (x_up_k h17 (by omega)), (x_up_k h18 (by omega)), by omega, by omega, by omega, by omega, by omega, by omega⟩, fun b hb => (x_up_n (by omega)).trans (rfl)⟩)
          · skip
            have c5 : 40 * pr + j < 0 := by
              have z : ¬ (0 ≤ 40 * pr + j) := fun zz => c5 ((nI_leI (a := 0) (b := 40 * pr + j) (by omega) (by omega)).mpr zz)
              omega
            refine x_lconst F (v := 0) dM_row_120 (by decide) ?_
            refine x_goto F (tgt := 131) dM_row_121 (by decide) ?_
            exact x_lret F hr dM_row_131 (absurd c5 (by omega))
      · skip
        have c3 : (decide ((0) ≤ (3)) && decide ((3) ≤ (4))) = false := bI_0 c3
        simp at c3
set_option maxHeartbeats 4000000 in
set_option maxRecDepth 100000 in
theorem cM_rowT (l : Launch) (nx : Nat) (M : xH) (a : Nat) (th : Int32) (sg : Nat → Int32) (sn pr : Nat) (fk fp : Int32) (rws : Nat → Int32) (cd : Nat → Int64) (ds wc : Nat → Int32) (wd : Nat → Int64) (nn : Nat) (nE : Nat → Int32) (nC : Nat → Int64) (nK : Nat → Int32) (nO : Nat → Int64) (ln : Nat) (lF : Nat → Int32) (lC : Nat → Int64) (lT : Nat → Int32) (lO : Nat → Int64) (fn : Nat) (fC : Nat → Int64) (fP : Nat → Int32) (ak : Nat → Int64) (ac : Nat) (pt : Nat → Int32) (hT : mAt M a th sg sn pr fk fp rws cd ds wc wd nn nE nC nK nO ln lF lC lT lO fn fC fP ak ac pt) (rw : Nat → Nat) (hrw : mR rws rw) (i : Int32) (hi : ¬ vp_in i (rw pr)) (wh : Int32) : xC l xcl yM_row (xw (Cond.code yM_row bM_row 5 (some .long))) ({ frames := 1, cells := 0, slots := 0, locals := 21 } : Room) [.ref (a), .int (i), .int (wh)] nx M (mPost (some (.long (0))) nx M a ((nI (1))) sg sn pr fk fp rws cd ds wc wd nn nE nC nK nO ln lF lC lT lO fn fC fP ak ac pt) := by
  obtain ⟨h0, h1, h2, h3, h4, h5, h6, h7, h8, h9, h10, h11, h12, h13, h14, h15, h16, h17, h18, b1, b2, b3, b4, b5, b6⟩ := id hT
  have hr40 := (hrw pr (by omega)).2
  refine yC (by decide) (Nat.le_of_ble_eq_true rfl) ?_
  intro p e s m args below meth c D F hr hn
  refine x_iload_n F 1 dM_row_0 rfl rfl ?_
  refine x_if_lt F (tgt := 26) dM_row_1 (by decide) (fun c1 => ?_) (fun c1 => ?_)
  · skip
    refine x_aload_n F 0 dM_row_26 rfl rfl ?_
    refine x_iconst F (v := nI (1)) dM_row_27 (by decide) ?_
    refine yVr (n := 1) (As := [.int (nI (1))]) (ci := 6) F kmM_152 kiM_refuse ksM_refuse knM kcM_refuse (by decide +kernel) dM_row_28 (cM_refuse l (nx) M (a) th sg sn pr fk fp rws cd ds wc wd nn nE nC nK nO ln lF lC lT lO fn fC fP ak ac pt hT (nI (1))) rfl h0 rfl rfl (Nat.le_of_ble_eq_true rfl) ⟨Nat.le_of_ble_eq_true rfl, Nat.le_of_ble_eq_true rfl⟩ ⟨Nat.le_of_ble_eq_true rfl, Nat.le_of_ble_eq_true rfl⟩ (fun r' n' M357 hp => ?_)
    obtain ⟨hr', hn', hM357, hf357⟩ := hp
    rw [hn', hr']
    obtain ⟨v357_0, v357_1, v357_2, v357_3, v357_4, v357_5, v357_6, v357_7, v357_8, v357_9, v357_10, v357_11, v357_12, v357_13, v357_14, v357_15, v357_16, v357_17, v357_18, vb357_0, vb357_1, vb357_2, vb357_3, vb357_4, vb357_5⟩ := id hM357
    show xW p l e ({ frames := 1, cells := 0, slots := 0, locals := 21 } : Room) s m args below meth c D xcl (x_A M nx) 5 (MQ below (x_Q D xcl (x_A M nx) (mPost (some (.long (0))) nx M a ((nI (1))) sg sn pr fk fp rws cd ds wc wd nn nE nC nK nO ln lF lC lT lO fn fC fP ak ac pt)) args s 0 0 (x_A M nx)) 0 0 (nx) M357 31 [(0, .ref (a)), (1, .int (i)), (2, .int (wh))] [.int (nI (0))]
    refine x_i2l F dM_row_31 ?_
    refine xW.tol (0) (by decide) ?_
    exact x_lret F hr dM_row_32 (⟨rfl, rfl, ⟨v357_0, v357_1, v357_2, v357_3, v357_4, v357_5, v357_6, v357_7, v357_8, v357_9, v357_10, v357_11, v357_12, v357_13, v357_14, v357_15, v357_16, v357_17, v357_18, by omega, by omega, by omega, by omega, by omega, by omega⟩, fun b hb => (hf357 _ (by omega)).trans (rfl)⟩)
  · skip
    refine x_iload_n F 1 dM_row_4 rfl rfl ?_
    refine x_aload_n F 0 dM_row_5 rfl rfl ?_
    refine x_get (ci := 6) F 6 (x_in inM) rfl (by decide) (x_m kfM_17) dM_row_6 h0 rfl ?_
    refine x_aload_n F 0 dM_row_9 rfl rfl ?_
    refine x_get (ci := 6) F 3 (x_in inM) rfl (by decide) (x_m kfM_156) dM_row_10 h0 rfl ?_
    refine x_iald F dM_row_13 h2 (pk_in (pr) (4) (by omega)) ?_
    refine xW.toi (nI (rw pr)) (by rw [nI_clamp (by omega)]; exact (hrw _ (by omega)).1) ?_
    refine x_icmp_ge F (tgt := 26) dM_row_14 (by decide) (fun c2 => ?_) (fun c2 => ?_)
    · skip
      refine x_aload_n F 0 dM_row_26 rfl rfl ?_
      refine x_iconst F (v := nI (1)) dM_row_27 (by decide) ?_
      refine yVr (n := 1) (As := [.int (nI (1))]) (ci := 6) F kmM_152 kiM_refuse ksM_refuse knM kcM_refuse (by decide +kernel) dM_row_28 (cM_refuse l (nx) M (a) th sg sn pr fk fp rws cd ds wc wd nn nE nC nK nO ln lF lC lT lO fn fC fP ak ac pt hT (nI (1))) rfl h0 rfl rfl (Nat.le_of_ble_eq_true rfl) ⟨Nat.le_of_ble_eq_true rfl, Nat.le_of_ble_eq_true rfl⟩ ⟨Nat.le_of_ble_eq_true rfl, Nat.le_of_ble_eq_true rfl⟩ (fun r' n' M358 hp => ?_)
      obtain ⟨hr', hn', hM358, hf358⟩ := hp
      rw [hn', hr']
      obtain ⟨v358_0, v358_1, v358_2, v358_3, v358_4, v358_5, v358_6, v358_7, v358_8, v358_9, v358_10, v358_11, v358_12, v358_13, v358_14, v358_15, v358_16, v358_17, v358_18, vb358_0, vb358_1, vb358_2, vb358_3, vb358_4, vb358_5⟩ := id hM358
      show xW p l e ({ frames := 1, cells := 0, slots := 0, locals := 21 } : Room) s m args below meth c D xcl (x_A M nx) 5 (MQ below (x_Q D xcl (x_A M nx) (mPost (some (.long (0))) nx M a ((nI (1))) sg sn pr fk fp rws cd ds wc wd nn nE nC nK nO ln lF lC lT lO fn fC fP ak ac pt)) args s 0 0 (x_A M nx)) 0 0 (nx) M358 31 [(0, .ref (a)), (1, .int (i)), (2, .int (wh))] [.int (nI (0))]
      refine x_i2l F dM_row_31 ?_
      refine xW.tol (0) (by decide) ?_
      exact x_lret F hr dM_row_32 (⟨rfl, rfl, ⟨v358_0, v358_1, v358_2, v358_3, v358_4, v358_5, v358_6, v358_7, v358_8, v358_9, v358_10, v358_11, v358_12, v358_13, v358_14, v358_15, v358_16, v358_17, v358_18, by omega, by omega, by omega, by omega, by omega, by omega⟩, fun b hb => (hf358 _ (by omega)).trans (rfl)⟩)
    · skip
      exact absurd (x_out (by omega) hi c1 c2) id
set_option maxHeartbeats 4000000 in
set_option maxRecDepth 100000 in
theorem cM_rowW (l : Launch) (nx : Nat) (M : xH) (a : Nat) (th : Int32) (sg : Nat → Int32) (sn pr : Nat) (fk fp : Int32) (rws : Nat → Int32) (cd : Nat → Int64) (ds wc : Nat → Int32) (wd : Nat → Int64) (nn : Nat) (nE : Nat → Int32) (nC : Nat → Int64) (nK : Nat → Int32) (nO : Nat → Int64) (ln : Nat) (lF : Nat → Int32) (lC : Nat → Int64) (lT : Nat → Int32) (lO : Nat → Int64) (fn : Nat) (fC : Nat → Int64) (fP : Nat → Int32) (ak : Nat → Int64) (ac : Nat) (pt : Nat → Int32) (hT : mAt M a th sg sn pr fk fp rws cd ds wc wd nn nE nC nK nO ln lF lC lT lO fn fC fP ak ac pt) (rw : Nat → Nat) (hrw : mR rws rw) (k : Nat) (hk : k < rw pr) (wh : Int32) (hw5 : ¬ vp_in wh 5) : xC l xcl yM_row (xw (Cond.code yM_row bM_row 5 (some .long))) ({ frames := 1, cells := 0, slots := 0, locals := 22 } : Room) [.ref (a), .int (nI (k)), .int (wh)] nx M (mPost (some (.long (0))) nx M a ((nI (1))) sg sn pr fk fp rws cd ds wc wd nn nE nC nK nO ln lF lC lT lO fn fC fP ak ac pt) := by
  obtain ⟨h0, h1, h2, h3, h4, h5, h6, h7, h8, h9, h10, h11, h12, h13, h14, h15, h16, h17, h18, b1, b2, b3, b4, b5, b6⟩ := id hT
  have hr40 := (hrw pr (by omega)).2
  refine yC (by decide) (Nat.le_of_ble_eq_true rfl) ?_
  intro p e s m args below meth c D F hr hn
  refine x_iload_n F 1 dM_row_0 rfl rfl ?_
  refine x_if_lt F (tgt := 26) dM_row_1 (by decide) (fun c1 => ?_) (fun c1 => ?_)
  · skip
    have c1 : k < 0 := by
      exact (nI_ltI (a := k) (b := 0) (by omega) (by omega)).mp c1
    exact absurd c1 (by omega)
  · skip
    have c1 : 0 ≤ k := by
      have z : ¬ (k < 0) := fun zz => c1 ((nI_ltI (a := k) (b := 0) (by omega) (by omega)).mpr zz)
      omega
    refine x_iload_n F 1 dM_row_4 rfl rfl ?_
    refine x_aload_n F 0 dM_row_5 rfl rfl ?_
    refine x_get (ci := 6) F 6 (x_in inM) rfl (by decide) (x_m kfM_17) dM_row_6 h0 rfl ?_
    refine x_aload_n F 0 dM_row_9 rfl rfl ?_
    refine x_get (ci := 6) F 3 (x_in inM) rfl (by decide) (x_m kfM_156) dM_row_10 h0 rfl ?_
    refine x_iald F dM_row_13 h2 (pk_in (pr) (4) (by omega)) ?_
    refine xW.toi (nI (rw pr)) (by rw [nI_clamp (by omega)]; exact (hrw _ (by omega)).1) ?_
    refine x_icmp_ge F (tgt := 26) dM_row_14 (by decide) (fun c2 => ?_) (fun c2 => ?_)
    · skip
      have c2 : rw pr ≤ k := by
        exact (nI_leI (a := rw pr) (b := k) (by omega) (by omega)).mp c2
      exact absurd c2 (by omega)
    · skip
      have c2 : k < rw pr := by
        have z : ¬ (rw pr ≤ k) := fun zz => c2 ((nI_leI (a := rw pr) (b := k) (by omega) (by omega)).mpr zz)
        omega
      refine x_iload_n F 2 dM_row_17 rfl rfl ?_
      refine x_iconst F (v := nI (0)) dM_row_18 (by decide) ?_
      refine x_iconst F (v := nI (4)) dM_row_19 (by decide) ?_
      refine yS (n := 3) (As := [.int (wh), .int (nI (0)), .int (nI (4))]) F kmM_72 ktM_in knM kcM_in (by decide +kernel) dM_row_20 (cM_in l (nx) M (wh) (nI (0)) (nI (4))) rfl rfl (Nat.le_of_ble_eq_true rfl) ⟨Nat.le_of_ble_eq_true rfl, Nat.le_of_ble_eq_true rfl⟩ ⟨Nat.le_of_ble_eq_true rfl, Nat.le_of_ble_eq_true rfl⟩ ?_
      refine x_if_ne F (tgt := 33) dM_row_23 (by decide) (fun c3 => ?_) (fun c3 => ?_)
      · skip
        have c3 : (decide ((nI (0)) ≤ (wh)) && decide ((wh) ≤ (nI (4)))) = true := bI_1 c3
        rw [in_F (n := 4) (by decide) hw5] at c3
        cases c3
      · skip
        have c3 : (decide ((nI (0)) ≤ (wh)) && decide ((wh) ≤ (nI (4)))) = false := bI_0 c3
        refine x_aload_n F 0 dM_row_26 rfl rfl ?_
        refine x_iconst F (v := nI (1)) dM_row_27 (by decide) ?_
        refine yVr (n := 1) (As := [.int (nI (1))]) (ci := 6) F kmM_152 kiM_refuse ksM_refuse knM kcM_refuse (by decide +kernel) dM_row_28 (cM_refuse l (nx) M (a) th sg sn pr fk fp rws cd ds wc wd nn nE nC nK nO ln lF lC lT lO fn fC fP ak ac pt hT (nI (1))) rfl h0 rfl rfl (Nat.le_of_ble_eq_true rfl) ⟨Nat.le_of_ble_eq_true rfl, Nat.le_of_ble_eq_true rfl⟩ ⟨Nat.le_of_ble_eq_true rfl, Nat.le_of_ble_eq_true rfl⟩ (fun r' n' M360 hp => ?_)
        obtain ⟨hr', hn', hM360, hf360⟩ := hp
        rw [hn', hr']
        obtain ⟨v360_0, v360_1, v360_2, v360_3, v360_4, v360_5, v360_6, v360_7, v360_8, v360_9, v360_10, v360_11, v360_12, v360_13, v360_14, v360_15, v360_16, v360_17, v360_18, vb360_0, vb360_1, vb360_2, vb360_3, vb360_4, vb360_5⟩ := id hM360
        show xW p l e ({ frames := 1, cells := 0, slots := 0, locals := 22 } : Room) s m args below meth c D xcl (x_A M nx) 5 (MQ below (x_Q D xcl (x_A M nx) (mPost (some (.long (0))) nx M a ((nI (1))) sg sn pr fk fp rws cd ds wc wd nn nE nC nK nO ln lF lC lT lO fn fC fP ak ac pt)) args s 0 0 (x_A M nx)) 0 0 (nx) M360 31 [(0, .ref (a)), (1, .int (nI (k))), (2, .int (wh))] [.int (nI (0))]
        refine x_i2l F dM_row_31 ?_
        refine xW.tol (0) (by decide) ?_
        exact x_lret F hr dM_row_32 (⟨rfl, rfl, ⟨v360_0, v360_1, v360_2, v360_3, v360_4, v360_5, v360_6, v360_7, v360_8, v360_9, v360_10, v360_11, v360_12, v360_13, v360_14, v360_15, v360_16, v360_17, v360_18, by omega, by omega, by omega, by omega, by omega, by omega⟩, fun b hb => (hf360 _ (by omega)).trans (rfl)⟩)
set_option maxHeartbeats 4000000 in
set_option maxRecDepth 100000 in
theorem cM_note (l : Launch) (nx : Nat) (M : xH) (a : Nat) (th : Int32) (sg : Nat → Int32) (sn pr : Nat) (fk fp : Int32) (rws : Nat → Int32) (cd : Nat → Int64) (ds wc : Nat → Int32) (wd : Nat → Int64) (nn : Nat) (nE : Nat → Int32) (nC : Nat → Int64) (nK : Nat → Int32) (nO : Nat → Int64) (ln : Nat) (lF : Nat → Int32) (lC : Nat → Int64) (lT : Nat → Int32) (lO : Nat → Int64) (fn : Nat) (fC : Nat → Int64) (fP : Nat → Int32) (ak : Nat → Int64) (ac : Nat) (pt : Nat → Int32) (hT : mAt M a th sg sn pr fk fp rws cd ds wc wd nn nE nC nK nO ln lF lC lT lO fn fC fP ak ac pt) (rw : Nat → Nat) (hrw : mR rws rw) (co : Int64) (kd : Int32) (oo : Int64) (hA : mNA rw cd pr co kd oo = false) (hS : mNS nn pr nE nC nK nO co kd oo = false) : xC l xcl yM_note (xw (Cond.code yM_note bM_note 6 (some .int))) ({ frames := 2, cells := 0, slots := 0, locals := 53 } : Room) [.ref (a), .long (co), .int (kd), .long (oo)] nx M (mPost (some (.int (nI (ct (fun j => decide (upd nE nn (nI pr) j = nI pr)) (nn + 1) 0 0)))) nx M a ((nI (0))) sg sn pr fk fp rws cd ds wc wd (nn + 1) (upd nE nn (nI pr)) (vp_updL nC nn co) (upd nK nn kd) (vp_updL nO nn oo) ln lF lC lT lO fn fC fP ak ac pt) := by
  obtain ⟨h0, h1, h2, h3, h4, h5, h6, h7, h8, h9, h10, h11, h12, h13, h14, h15, h16, h17, h18, b1, b2, b3, b4, b5, b6⟩ := id hT
  have hr40 := (hrw pr (by omega)).2
  refine yC (by decide) (Nat.le_of_ble_eq_true rfl) ?_
  intro p e s m args below meth c D F hr hn
  refine x_aload_n F 0 dM_note_0 rfl rfl ?_
  refine x_aload_n F 0 dM_note_1 rfl rfl ?_
  refine x_get (ci := 6) F 3 (x_in inM) rfl (by decide) (x_m kfM_156) dM_note_2 h0 rfl ?_
  refine x_lload_n F 1 dM_note_5 rfl rfl ?_
  refine yV (n := 2) (As := [.int (nI (pr)), .long (co)]) (ci := 6) F kmM_169 kiM_rowOf ksM_rowOf knM kcM_rowOf (by decide +kernel) dM_note_6 (cM_rowOf l (nx) M (a) th sg sn pr fk fp rws cd ds wc wd nn nE nC nK nO ln lF lC lT lO fn fC fP ak ac pt hT rw hrw (pr) (by omega) (co)) rfl h0 rfl rfl (Nat.le_of_ble_eq_true rfl) ⟨Nat.le_of_ble_eq_true rfl, Nat.le_of_ble_eq_true rfl⟩ ⟨Nat.le_of_ble_eq_true rfl, Nat.le_of_ble_eq_true rfl⟩ ?_
  rcases o_cases (mRow rw cd pr co) with hx1 | ⟨j1, hx1⟩
  · skip
    refine xW.ste (st' := [.int ((-1))]) (by show ([.int (oi (mRow rw cd (pr) (co)))] : List Value) = _; rw [hx1]; rfl) ?_
    refine x_if_lt F (tgt := 41) dM_note_9 (by decide) (fun c1 => ?_) (fun c1 => ?_)
    · skip
      first | (exfalso; omega) | (simp [mNA, hx1] at hA)
    · skip
      exact absurd (by decide) c1
  · skip
    have hj1 : j1 < rw pr := (la_lt hx1).1
    refine xW.ste (st' := [.int (nI (j1))]) (by show ([.int (oi (mRow rw cd (pr) (co)))] : List Value) = _; rw [hx1]; rfl) ?_
    refine x_if_lt F (tgt := 41) dM_note_9 (by decide) (fun c2 => ?_) (fun c2 => ?_)
    · skip
      have c2 : j1 < 0 := by
        exact (nI_ltI (a := j1) (b := 0) (by omega) (by omega)).mp c2
      first | (exfalso; omega) | (simp [mNA, hx1] at hA)
    · skip
      have c2 : 0 ≤ j1 := by
        have z : ¬ (j1 < 0) := fun zz => c2 ((nI_ltI (a := j1) (b := 0) (by omega) (by omega)).mpr zz)
        omega
      refine x_aload_n F 0 dM_note_12 rfl rfl ?_
      refine x_aload_n F 0 dM_note_13 rfl rfl ?_
      refine x_get (ci := 6) F 3 (x_in inM) rfl (by decide) (x_m kfM_156) dM_note_14 h0 rfl ?_
      refine x_lload F 3 dM_note_17 rfl ?_
      refine yV (n := 2) (As := [.int (nI (pr)), .long (oo)]) (ci := 6) F kmM_169 kiM_rowOf ksM_rowOf knM kcM_rowOf (by decide +kernel) dM_note_19 (cM_rowOf l (nx) M (a) th sg sn pr fk fp rws cd ds wc wd nn nE nC nK nO ln lF lC lT lO fn fC fP ak ac pt hT rw hrw (pr) (by omega) (oo)) rfl h0 rfl rfl (Nat.le_of_ble_eq_true rfl) ⟨Nat.le_of_ble_eq_true rfl, Nat.le_of_ble_eq_true rfl⟩ ⟨Nat.le_of_ble_eq_true rfl, Nat.le_of_ble_eq_true rfl⟩ ?_
      rcases o_cases (mRow rw cd pr oo) with hx2 | ⟨j2, hx2⟩
      · skip
        refine xW.ste (st' := [.int ((-1))]) (by show ([.int (oi (mRow rw cd (pr) (oo)))] : List Value) = _; rw [hx2]; rfl) ?_
        refine x_if_lt F (tgt := 41) dM_note_22 (by decide) (fun c3 => ?_) (fun c3 => ?_)
        · skip
          first | (exfalso; omega) | (simp [mNA, hx1, hx2] at hA)
        · skip
          exact absurd (by decide) c3
      · skip
        have hj2 : j2 < rw pr := (la_lt hx2).1
        refine xW.ste (st' := [.int (nI (j2))]) (by show ([.int (oi (mRow rw cd (pr) (oo)))] : List Value) = _; rw [hx2]; rfl) ?_
        refine x_if_lt F (tgt := 41) dM_note_22 (by decide) (fun c4 => ?_) (fun c4 => ?_)
        · skip
          have c4 : j2 < 0 := by
            exact (nI_ltI (a := j2) (b := 0) (by omega) (by omega)).mp c4
          first | (exfalso; omega) | (simp [mNA, hx1, hx2] at hA)
        · skip
          have c4 : 0 ≤ j2 := by
            have z : ¬ (j2 < 0) := fun zz => c4 ((nI_ltI (a := j2) (b := 0) (by omega) (by omega)).mpr zz)
            omega
          refine x_lload_n F 1 dM_note_25 rfl rfl ?_
          refine x_lload F 3 dM_note_26 rfl ?_
          refine x_lcmp F dM_note_28 ?_
          refine x_if_eq F (tgt := 41) dM_note_29 (by decide) (fun c5 => ?_) (fun c5 => ?_)
          · skip
            have c5 : co = oo := (lg_cmp_eq (co) (oo)).mp c5
            first | (exfalso; omega) | (simp [mNA, hx1, hx2, c5] at hA)
          · skip
            have c5 : ¬ co = oo := fun z => c5 ((lg_cmp_eq (co) (oo)).mpr z)
            refine x_iload_n F 2 dM_note_32 rfl rfl ?_
            refine x_iconst F (v := nI (0)) dM_note_33 (by decide) ?_
            refine x_iconst F (v := nI (1)) dM_note_34 (by decide) ?_
            refine yS (n := 3) (As := [.int (kd), .int (nI (0)), .int (nI (1))]) F kmM_72 ktM_in knM kcM_in (by decide +kernel) dM_note_35 (cM_in l (nx) M (kd) (nI (0)) (nI (1))) rfl rfl (Nat.le_of_ble_eq_true rfl) ⟨Nat.le_of_ble_eq_true rfl, Nat.le_of_ble_eq_true rfl⟩ ⟨Nat.le_of_ble_eq_true rfl, Nat.le_of_ble_eq_true rfl⟩ ?_
            refine x_if_ne F (tgt := 47) dM_note_38 (by decide) (fun c6 => ?_) (fun c6 => ?_)
            · skip
              have c6 : (decide ((nI (0)) ≤ (kd)) && decide ((kd) ≤ (nI (1)))) = true := bI_1 c6
              skip
              refine x_aload_n F 0 dM_note_47 rfl rfl ?_
              refine x_get (ci := 6) F 11 (x_in inM) rfl (by decide) (x_m kfM_142) dM_note_48 h0 rfl ?_
              refine x_bipush F (v := nI (20)) dM_note_51 (by decide) ?_
              refine x_icmp_eq F (tgt := 67) dM_note_53 (by decide) (fun c7 => ?_) (fun c7 => ?_)
              · skip
                have c7 : nn = 20 := by
                  exact (nI_eq (a := nn) (b := 20) (by omega) (by omega)).mp c7
                simp [mNS, c7] at hS
              · skip
                have c7 : nn ≠ 20 := by
                  have z : ¬ (nn = 20) := fun zz => c7 ((nI_eq (a := nn) (b := 20) (by omega) (by omega)).mpr zz)
                  omega
                refine x_aload_n F 0 dM_note_56 rfl rfl ?_
                refine x_lload_n F 1 dM_note_57 rfl rfl ?_
                refine x_iload_n F 2 dM_note_58 rfl rfl ?_
                refine x_lload F 3 dM_note_59 rfl ?_
                refine yV (n := 3) (As := [.long (co), .int (kd), .long (oo)]) (ci := 6) F kmM_177 kiM_hasNote ksM_hasNote knM kcM_hasNote (by decide +kernel) dM_note_61 (cM_hasNote l (nx) M (a) th sg sn pr fk fp rws cd ds wc wd nn nE nC nK nO ln lF lC lT lO fn fC fP ak ac pt hT (co) (kd) (oo)) rfl h0 rfl rfl (Nat.le_of_ble_eq_true rfl) ⟨Nat.le_of_ble_eq_true rfl, Nat.le_of_ble_eq_true rfl⟩ ⟨Nat.le_of_ble_eq_true rfl, Nat.le_of_ble_eq_true rfl⟩ ?_
                refine x_if_eq F (tgt := 73) dM_note_64 (by decide) (fun c8 => ?_) (fun c8 => ?_)
                · skip
                  have c8 : ((la (mNt nE nC nK nO (nI pr) (co) (kd) (oo)) nn).isSome) = false := bI_0 c8
                  have hnn : nn < 20 := by have := c7; omega
                  refine x_aload_n F 0 dM_note_73 rfl rfl ?_
                  refine x_iconst F (v := nI (0)) dM_note_74 (by decide) ?_
                  refine x_put (ci := 6) (ty := .int) F 0 (x_in inM) tM tM_ok nM rfl (by decide) (x_m kfM_69) dM_note_75 rfl (by decide +kernel) rfl rfl h0 (Nat.le_of_ble_eq_true rfl) ?_
                  show xW p l e ({ frames := 2, cells := 0, slots := 0, locals := 53 } : Room) s m args below meth c D xcl (x_A M nx) 6 (MQ below (x_Q D xcl (x_A M nx) (mPost (some (.int (nI (ct (fun j => decide (upd nE nn (nI pr) j = nI pr)) (nn + 1) 0 0)))) nx M a ((nI (0))) sg sn pr fk fp rws cd ds wc wd (nn + 1) (upd nE nn (nI pr)) (vp_updL nC nn co) (upd nK nn kd) (vp_updL nO nn oo) ln lF lC lT lO fn fC fP ak ac pt)) args s 0 0 (x_A M nx)) 0 0 (nx) (x_up M (a) (.inr (6, [.int (nI (0)), .ref (a + 1), .int (nI (sn)), .int (nI (pr)), .int (fk), .int (fp), .ref (a + 2), .ref (a + 3), .ref (a + 4), .ref (a + 5), .ref (a + 6), .int (nI (nn)), .ref (a + 7), .ref (a + 8), .ref (a + 9), .ref (a + 10), .int (nI (ln)), .ref (a + 11), .ref (a + 12), .ref (a + 13), .ref (a + 14), .int (nI (fn)), .ref (a + 15), .ref (a + 16), .ref (a + 17), .int (nI (ac)), .ref (a + 18)]))) 78 [(0, .ref (a)), (1, .long (co)), (3, .int (kd)), (4, .long (oo))] []
                  refine x_aload_n F 0 dM_note_78 rfl rfl ?_
                  refine x_get (ci := 6) F 12 (x_in inM) rfl (by decide) (x_m kfM_33) dM_note_79 x_up_s rfl ?_
                  refine x_aload_n F 0 dM_note_82 rfl rfl ?_
                  refine x_get (ci := 6) F 11 (x_in inM) rfl (by decide) (x_m kfM_142) dM_note_83 x_up_s rfl ?_
                  refine x_aload_n F 0 dM_note_86 rfl rfl ?_
                  refine x_get (ci := 6) F 3 (x_in inM) rfl (by decide) (x_m kfM_156) dM_note_87 x_up_s rfl ?_
                  refine x_iast F dM_note_90 (x_up_k h7 (by omega)) (pk_in (nn) (20) (by omega)) ?_
                  rw [nI_clamp (show nn < 2 ^ 31 by omega)]
                  show xW p l e ({ frames := 2, cells := 0, slots := 0, locals := 53 } : Room) s m args below meth c D xcl (x_A M nx) 6 (MQ below (x_Q D xcl (x_A M nx) (mPost (some (.int (nI (ct (fun j => decide (upd nE nn (nI pr) j = nI pr)) (nn + 1) 0 0)))) nx M a ((nI (0))) sg sn pr fk fp rws cd ds wc wd (nn + 1) (upd nE nn (nI pr)) (vp_updL nC nn co) (upd nK nn kd) (vp_updL nO nn oo) ln lF lC lT lO fn fC fP ak ac pt)) args s 0 0 (x_A M nx)) 0 0 (nx) (x_up (x_up M (a) (.inr (6, [.int (nI (0)), .ref (a + 1), .int (nI (sn)), .int (nI (pr)), .int (fk), .int (fp), .ref (a + 2), .ref (a + 3), .ref (a + 4), .ref (a + 5), .ref (a + 6), .int (nI (nn)), .ref (a + 7), .ref (a + 8), .ref (a + 9), .ref (a + 10), .int (nI (ln)), .ref (a + 11), .ref (a + 12), .ref (a + 13), .ref (a + 14), .int (nI (fn)), .ref (a + 15), .ref (a + 16), .ref (a + 17), .int (nI (ac)), .ref (a + 18)]))) (a + 7) (.inl (.int, 20, .inl (upd (nE) (nn) (nI (pr)))))) 91 [(0, .ref (a)), (1, .long (co)), (3, .int (kd)), (4, .long (oo))] []
                  refine x_aload_n F 0 dM_note_91 rfl rfl ?_
                  refine x_get (ci := 6) F 13 (x_in inM) rfl (by decide) (x_m kfM_36) dM_note_92 (x_up_k x_up_s (by omega)) rfl ?_
                  refine x_aload_n F 0 dM_note_95 rfl rfl ?_
                  refine x_get (ci := 6) F 11 (x_in inM) rfl (by decide) (x_m kfM_142) dM_note_96 (x_up_k x_up_s (by omega)) rfl ?_
                  refine x_lload_n F 1 dM_note_99 rfl rfl ?_
                  refine x_last F dM_note_100 (x_up_k (x_up_k h8 (by omega)) (by omega)) (pk_in (nn) (20) (by omega)) ?_
                  rw [nI_clamp (show nn < 2 ^ 31 by omega)]
                  show xW p l e ({ frames := 2, cells := 0, slots := 0, locals := 53 } : Room) s m args below meth c D xcl (x_A M nx) 6 (MQ below (x_Q D xcl (x_A M nx) (mPost (some (.int (nI (ct (fun j => decide (upd nE nn (nI pr) j = nI pr)) (nn + 1) 0 0)))) nx M a ((nI (0))) sg sn pr fk fp rws cd ds wc wd (nn + 1) (upd nE nn (nI pr)) (vp_updL nC nn co) (upd nK nn kd) (vp_updL nO nn oo) ln lF lC lT lO fn fC fP ak ac pt)) args s 0 0 (x_A M nx)) 0 0 (nx) (x_up (x_up (x_up M (a) (.inr (6, [.int (nI (0)), .ref (a + 1), .int (nI (sn)), .int (nI (pr)), .int (fk), .int (fp), .ref (a + 2), .ref (a + 3), .ref (a + 4), .ref (a + 5), .ref (a + 6), .int (nI (nn)), .ref (a + 7), .ref (a + 8), .ref (a + 9), .ref (a + 10), .int (nI (ln)), .ref (a + 11), .ref (a + 12), .ref (a + 13), .ref (a + 14), .int (nI (fn)), .ref (a + 15), .ref (a + 16), .ref (a + 17), .int (nI (ac)), .ref (a + 18)]))) (a + 7) (.inl (.int, 20, .inl (upd (nE) (nn) (nI (pr)))))) (a + 8) (.inl (.long, 20, .inr (.inl (vp_updL (nC) (nn) (co)))))) 101 [(0, .ref (a)), (1, .long (co)), (3, .int (kd)), (4, .long (oo))] []
                  refine x_aload_n F 0 dM_note_101 rfl rfl ?_
                  refine x_get (ci := 6) F 14 (x_in inM) rfl (by decide) (x_m kfM_39) dM_note_102 (x_up_k (x_up_k x_up_s (by omega)) (by omega)) rfl ?_
                  refine x_aload_n F 0 dM_note_105 rfl rfl ?_
                  refine x_get (ci := 6) F 11 (x_in inM) rfl (by decide) (x_m kfM_142) dM_note_106 (x_up_k (x_up_k x_up_s (by omega)) (by omega)) rfl ?_
                  refine x_iload_n F 2 dM_note_109 rfl rfl ?_
                  refine x_iast F dM_note_110 (x_up_k (x_up_k (x_up_k h9 (by omega)) (by omega)) (by omega)) (pk_in (nn) (20) (by omega)) ?_
                  rw [nI_clamp (show nn < 2 ^ 31 by omega)]
                  show xW p l e ({ frames := 2, cells := 0, slots := 0, locals := 53 } : Room) s m args below meth c D xcl (x_A M nx) 6 (MQ below (x_Q D xcl (x_A M nx) (mPost (some (.int (nI (ct (fun j => decide (upd nE nn (nI pr) j = nI pr)) (nn + 1) 0 0)))) nx M a ((nI (0))) sg sn pr fk fp rws cd ds wc wd (nn + 1) (upd nE nn (nI pr)) (vp_updL nC nn co) (upd nK nn kd) (vp_updL nO nn oo) ln lF lC lT lO fn fC fP ak ac pt)) args s 0 0 (x_A M nx)) 0 0 (nx) (x_up (x_up (x_up (x_up M (a) (.inr (6, [.int (nI (0)), .ref (a + 1), .int (nI (sn)), .int (nI (pr)), .int (fk), .int (fp), .ref (a + 2), .ref (a + 3), .ref (a + 4), .ref (a + 5), .ref (a + 6), .int (nI (nn)), .ref (a + 7), .ref (a + 8), .ref (a + 9), .ref (a + 10), .int (nI (ln)), .ref (a + 11), .ref (a + 12), .ref (a + 13), .ref (a + 14), .int (nI (fn)), .ref (a + 15), .ref (a + 16), .ref (a + 17), .int (nI (ac)), .ref (a + 18)]))) (a + 7) (.inl (.int, 20, .inl (upd (nE) (nn) (nI (pr)))))) (a + 8) (.inl (.long, 20, .inr (.inl (vp_updL (nC) (nn) (co)))))) (a + 9) (.inl (.int, 20, .inl (upd (nK) (nn) (kd))))) 111 [(0, .ref (a)), (1, .long (co)), (3, .int (kd)), (4, .long (oo))] []
                  refine x_aload_n F 0 dM_note_111 rfl rfl ?_
                  refine x_get (ci := 6) F 15 (x_in inM) rfl (by decide) (x_m kfM_42) dM_note_112 (x_up_k (x_up_k (x_up_k x_up_s (by omega)) (by omega)) (by omega)) rfl ?_
                  refine x_aload_n F 0 dM_note_115 rfl rfl ?_
                  refine x_get (ci := 6) F 11 (x_in inM) rfl (by decide) (x_m kfM_142) dM_note_116 (x_up_k (x_up_k (x_up_k x_up_s (by omega)) (by omega)) (by omega)) rfl ?_
                  refine x_lload F 3 dM_note_119 rfl ?_
                  refine x_last F dM_note_121 (x_up_k (x_up_k (x_up_k (x_up_k h10 (by omega)) (by omega)) (by omega)) (by omega)) (pk_in (nn) (20) (by omega)) ?_
                  rw [nI_clamp (show nn < 2 ^ 31 by omega)]
                  show xW p l e ({ frames := 2, cells := 0, slots := 0, locals := 53 } : Room) s m args below meth c D xcl (x_A M nx) 6 (MQ below (x_Q D xcl (x_A M nx) (mPost (some (.int (nI (ct (fun j => decide (upd nE nn (nI pr) j = nI pr)) (nn + 1) 0 0)))) nx M a ((nI (0))) sg sn pr fk fp rws cd ds wc wd (nn + 1) (upd nE nn (nI pr)) (vp_updL nC nn co) (upd nK nn kd) (vp_updL nO nn oo) ln lF lC lT lO fn fC fP ak ac pt)) args s 0 0 (x_A M nx)) 0 0 (nx) (x_up (x_up (x_up (x_up (x_up M (a) (.inr (6, [.int (nI (0)), .ref (a + 1), .int (nI (sn)), .int (nI (pr)), .int (fk), .int (fp), .ref (a + 2), .ref (a + 3), .ref (a + 4), .ref (a + 5), .ref (a + 6), .int (nI (nn)), .ref (a + 7), .ref (a + 8), .ref (a + 9), .ref (a + 10), .int (nI (ln)), .ref (a + 11), .ref (a + 12), .ref (a + 13), .ref (a + 14), .int (nI (fn)), .ref (a + 15), .ref (a + 16), .ref (a + 17), .int (nI (ac)), .ref (a + 18)]))) (a + 7) (.inl (.int, 20, .inl (upd (nE) (nn) (nI (pr)))))) (a + 8) (.inl (.long, 20, .inr (.inl (vp_updL (nC) (nn) (co)))))) (a + 9) (.inl (.int, 20, .inl (upd (nK) (nn) (kd))))) (a + 10) (.inl (.long, 20, .inr (.inl (vp_updL (nO) (nn) (oo)))))) 122 [(0, .ref (a)), (1, .long (co)), (3, .int (kd)), (4, .long (oo))] []
                  refine x_aload_n F 0 dM_note_122 rfl rfl ?_
                  refine x_dup F dM_note_123 rfl ?_
                  refine x_get (ci := 6) F 11 (x_in inM) rfl (by decide) (x_m kfM_142) dM_note_124 (x_up_k (x_up_k (x_up_k (x_up_k x_up_s (by omega)) (by omega)) (by omega)) (by omega)) rfl ?_
                  refine x_iconst F (v := nI (1)) dM_note_127 (by decide) ?_
                  refine x_iadd F dM_note_128 ?_
                  refine xW.toi (nI (nn + 1)) (nI_add _ _) ?_
                  refine x_put (ci := 6) (ty := .int) F 11 (x_in inM) tM tM_ok nM rfl (by decide) (x_m kfM_142) dM_note_129 rfl (by decide +kernel) rfl rfl (x_up_k (x_up_k (x_up_k (x_up_k x_up_s (by omega)) (by omega)) (by omega)) (by omega)) (Nat.le_of_ble_eq_true rfl) ?_
                  show xW p l e ({ frames := 2, cells := 0, slots := 0, locals := 53 } : Room) s m args below meth c D xcl (x_A M nx) 6 (MQ below (x_Q D xcl (x_A M nx) (mPost (some (.int (nI (ct (fun j => decide (upd nE nn (nI pr) j = nI pr)) (nn + 1) 0 0)))) nx M a ((nI (0))) sg sn pr fk fp rws cd ds wc wd (nn + 1) (upd nE nn (nI pr)) (vp_updL nC nn co) (upd nK nn kd) (vp_updL nO nn oo) ln lF lC lT lO fn fC fP ak ac pt)) args s 0 0 (x_A M nx)) 0 0 (nx) (x_up (x_up (x_up (x_up (x_up (x_up M (a) (.inr (6, [.int (nI (0)), .ref (a + 1), .int (nI (sn)), .int (nI (pr)), .int (fk), .int (fp), .ref (a + 2), .ref (a + 3), .ref (a + 4), .ref (a + 5), .ref (a + 6), .int (nI (nn)), .ref (a + 7), .ref (a + 8), .ref (a + 9), .ref (a + 10), .int (nI (ln)), .ref (a + 11), .ref (a + 12), .ref (a + 13), .ref (a + 14), .int (nI (fn)), .ref (a + 15), .ref (a + 16), .ref (a + 17), .int (nI (ac)), .ref (a + 18)]))) (a + 7) (.inl (.int, 20, .inl (upd (nE) (nn) (nI (pr)))))) (a + 8) (.inl (.long, 20, .inr (.inl (vp_updL (nC) (nn) (co)))))) (a + 9) (.inl (.int, 20, .inl (upd (nK) (nn) (kd))))) (a + 10) (.inl (.long, 20, .inr (.inl (vp_updL (nO) (nn) (oo)))))) (a) (.inr (6, [.int (nI (0)), .ref (a + 1), .int (nI (sn)), .int (nI (pr)), .int (fk), .int (fp), .ref (a + 2), .ref (a + 3), .ref (a + 4), .ref (a + 5), .ref (a + 6), .int (nI (nn + 1)), .ref (a + 7), .ref (a + 8), .ref (a + 9), .ref (a + 10), .int (nI (ln)), .ref (a + 11), .ref (a + 12), .ref (a + 13), .ref (a + 14), .int (nI (fn)), .ref (a + 15), .ref (a + 16), .ref (a + 17), .int (nI (ac)), .ref (a + 18)]))) 132 [(0, .ref (a)), (1, .long (co)), (3, .int (kd)), (4, .long (oo))] []
                  refine x_aload_n F 0 dM_note_132 rfl rfl ?_
                  refine x_aload_n F 0 dM_note_133 rfl rfl ?_
                  refine x_get (ci := 6) F 3 (x_in inM) rfl (by decide) (x_m kfM_156) dM_note_134 x_up_s rfl ?_
                  refine yV (n := 1) (As := [.int (nI (pr))]) (ci := 6) F kmM_181 kiM_notesOf ksM_notesOf knM kcM_notesOf (by decide +kernel) dM_note_137 (cM_notesOf l (nx) (x_up (x_up (x_up (x_up (x_up (x_up M (a) (.inr (6, [.int (nI (0)), .ref (a + 1), .int (nI (sn)), .int (nI (pr)), .int (fk), .int (fp), .ref (a + 2), .ref (a + 3), .ref (a + 4), .ref (a + 5), .ref (a + 6), .int (nI (nn)), .ref (a + 7), .ref (a + 8), .ref (a + 9), .ref (a + 10), .int (nI (ln)), .ref (a + 11), .ref (a + 12), .ref (a + 13), .ref (a + 14), .int (nI (fn)), .ref (a + 15), .ref (a + 16), .ref (a + 17), .int (nI (ac)), .ref (a + 18)]))) (a + 7) (.inl (.int, 20, .inl (upd (nE) (nn) (nI (pr)))))) (a + 8) (.inl (.long, 20, .inr (.inl (vp_updL (nC) (nn) (co)))))) (a + 9) (.inl (.int, 20, .inl (upd (nK) (nn) (kd))))) (a + 10) (.inl (.long, 20, .inr (.inl (vp_updL (nO) (nn) (oo)))))) (a) (.inr (6, [.int (nI (0)), .ref (a + 1), .int (nI (sn)), .int (nI (pr)), .int (fk), .int (fp), .ref (a + 2), .ref (a + 3), .ref (a + 4), .ref (a + 5), .ref (a + 6), .int (nI (nn + 1)), .ref (a + 7), .ref (a + 8), .ref (a + 9), .ref (a + 10), .int (nI (ln)), .ref (a + 11), .ref (a + 12), .ref (a + 13), .ref (a + 14), .int (nI (fn)), .ref (a + 15), .ref (a + 16), .ref (a + 17), .int (nI (ac)), .ref (a + 18)]))) (a) (nI (0)) sg sn pr fk fp rws cd ds wc wd (nn + 1) (upd (nE) (nn) (nI (pr))) (vp_updL (nC) (nn) (co)) (upd (nK) (nn) (kd)) (vp_updL (nO) (nn) (oo)) ln lF lC lT lO fn fC fP ak ac pt ⟨x_up_s, (x_up_k (x_up_k (x_up_k (x_up_k (x_up_k (x_up_k h1 (by omega)) (by omega)) (by omega)) (by omega)) (by omega)) (by omega)), (x_up_k (x_up_k (x_up_k (x_up_k (x_up_k (x_up_k h2 (by omega)) (by omega)) (by omega)) (by omega)) (by omega)) (by omega)), (x_up_k (x_up_k (x_up_k (x_up_k (x_up_k (x_up_k h3 (by omega)) (by omega)) (by omega)) (by omega)) (by omega)) (by omega)), (x_up_k (x_up_k (x_up_k (x_up_k (x_up_k (x_up_k h4 (by omega)) (by omega)) (by omega)) (by omega)) (by omega)) (by omega)), (x_up_k (x_up_k (x_up_k (x_up_k (x_up_k (x_up_k h5 (by omega)) (by omega)) (by omega)) (by omega)) (by omega)) (by omega)), (x_up_k (x_up_k (x_up_k (x_up_k (x_up_k (x_up_k h6 (by omega)) (by omega)) (by omega)) (by omega)) (by omega)) (by omega)), (x_up_k (x_up_k (x_up_k (x_up_k x_up_s (by omega)) (by omega)) (by omega)) (by omega)), (x_up_k (x_up_k (x_up_k x_up_s (by omega)) (by omega)) (by omega)), (x_up_k (x_up_k x_up_s (by omega)) (by omega)), (x_up_k x_up_s (by omega)), (x_up_k (x_up_k (x_up_k (x_up_k (x_up_k (x_up_k h11 (by omega)) (by omega)) (by omega)) (by omega)) (by omega)) (by omega)), (x_up_k (x_up_k (x_up_k (x_up_k (x_up_k (x_up_k h12 (by omega)) (by omega)) (by omega)) (by omega)) (by omega)) (by omega)), (x_up_k (x_up_k (x_up_k (x_up_k (x_up_k (x_up_k h13 (by omega)) (by omega)) (by omega)) (by omega)) (by omega)) (by omega)), (x_up_k (x_up_k (x_up_k (x_up_k (x_up_k (x_up_k h14 (by omega)) (by omega)) (by omega)) (by omega)) (by omega)) (by omega)), (x_up_k (x_up_k (x_up_k (x_up_k (x_up_k (x_up_k h15 (by omega)) (by omega)) (by omega)) (by omega)) (by omega)) (by omega)), (x_up_k (x_up_k (x_up_k (x_up_k (x_up_k (x_up_k h16 (by omega)) (by omega)) (by omega)) (by omega)) (by omega)) (by omega)), (x_up_k (x_up_k (x_up_k (x_up_k (x_up_k (x_up_k h17 (by omega)) (by omega)) (by omega)) (by omega)) (by omega)) (by omega)), (x_up_k (x_up_k (x_up_k (x_up_k (x_up_k (x_up_k h18 (by omega)) (by omega)) (by omega)) (by omega)) (by omega)) (by omega)), by omega, by omega, by omega, by omega, by omega, by omega⟩ (nI (pr))) rfl x_up_s rfl rfl (Nat.le_of_ble_eq_true rfl) ⟨Nat.le_of_ble_eq_true rfl, Nat.le_of_ble_eq_true rfl⟩ ⟨Nat.le_of_ble_eq_true rfl, Nat.le_of_ble_eq_true rfl⟩ ?_
                  exact x_iret F hr dM_note_140 (⟨rfl, rfl, ⟨x_up_s, (x_up_k (x_up_k (x_up_k (x_up_k (x_up_k (x_up_k h1 (by omega)) (by omega)) (by omega)) (by omega)) (by omega)) (by omega)), (x_up_k (x_up_k (x_up_k (x_up_k (x_up_k (x_up_k h2 (by omega)) (by omega)) (by omega)) (by omega)) (by omega)) (by omega)), (x_up_k (x_up_k (x_up_k (x_up_k (x_up_k (x_up_k h3 (by omega)) (by omega)) (by omega)) (by omega)) (by omega)) (by omega)), (x_up_k (x_up_k (x_up_k (x_up_k (x_up_k (x_up_k h4 (by omega)) (by omega)) (by omega)) (by omega)) (by omega)) (by omega)), (x_up_k (x_up_k (x_up_k (x_up_k (x_up_k (x_up_k h5 (by omega)) (by omega)) (by omega)) (by omega)) (by omega)) (by omega)), (x_up_k (x_up_k (x_up_k (x_up_k (x_up_k (x_up_k h6 (by omega)) (by omega)) (by omega)) (by omega)) (by omega)) (by omega)), (x_up_k (x_up_k (x_up_k (x_up_k x_up_s (by omega)) (by omega)) (by omega)) (by omega)), (x_up_k (x_up_k (x_up_k x_up_s (by omega)) (by omega)) (by omega)), (x_up_k (x_up_k x_up_s (by omega)) (by omega)), (x_up_k x_up_s (by omega)), (x_up_k (x_up_k (x_up_k (x_up_k (x_up_k (x_up_k h11 (by omega)) (by omega)) (by omega)) (by omega)) (by omega)) (by omega)), (x_up_k (x_up_k (x_up_k (x_up_k (x_up_k (x_up_k h12 (by omega)) (by omega)) (by omega)) (by omega)) (by omega)) (by omega)), (x_up_k (x_up_k (x_up_k (x_up_k (x_up_k (x_up_k h13 (by omega)) (by omega)) (by omega)) (by omega)) (by omega)) (by omega)), (x_up_k (x_up_k (x_up_k (x_up_k (x_up_k (x_up_k h14 (by omega)) (by omega)) (by omega)) (by omega)) (by omega)) (by omega)), (x_up_k (x_up_k (x_up_k (x_up_k (x_up_k (x_up_k h15 (by omega)) (by omega)) (by omega)) (by omega)) (by omega)) (by omega)), (x_up_k (x_up_k (x_up_k (x_up_k (x_up_k (x_up_k h16 (by omega)) (by omega)) (by omega)) (by omega)) (by omega)) (by omega)), (x_up_k (x_up_k (x_up_k (x_up_k (x_up_k (x_up_k h17 (by omega)) (by omega)) (by omega)) (by omega)) (by omega)) (by omega)), (x_up_k (x_up_k (x_up_k (x_up_k (x_up_k (x_up_k h18 (by omega)) (by omega)) (by omega)) (by omega)) (by omega)) (by omega)), by omega, by omega, by omega, by omega, by omega, by omega⟩, fun b hb => (x_up_n (by omega)).trans ((x_up_n (by omega)).trans ((x_up_n (by omega)).trans ((x_up_n (by omega)).trans ((x_up_n (by omega)).trans ((x_up_n (by omega)).trans (rfl))))))⟩)
                · skip
                  have c8 : ((la (mNt nE nC nK nO (nI pr) (co) (kd) (oo)) nn).isSome) = true := bI_1 c8
                  simp [mNS, c7, c8] at hS
            · skip
              have c6 : (decide ((nI (0)) ≤ (kd)) && decide ((kd) ≤ (nI (1)))) = false := bI_0 c6
              first | (exfalso; omega) | (simp [mNA, hx1, hx2, c5, c6] at hA)
set_option maxHeartbeats 4000000 in
set_option maxRecDepth 100000 in
theorem cM_noteA (l : Launch) (nx : Nat) (M : xH) (a : Nat) (th : Int32) (sg : Nat → Int32) (sn pr : Nat) (fk fp : Int32) (rws : Nat → Int32) (cd : Nat → Int64) (ds wc : Nat → Int32) (wd : Nat → Int64) (nn : Nat) (nE : Nat → Int32) (nC : Nat → Int64) (nK : Nat → Int32) (nO : Nat → Int64) (ln : Nat) (lF : Nat → Int32) (lC : Nat → Int64) (lT : Nat → Int32) (lO : Nat → Int64) (fn : Nat) (fC : Nat → Int64) (fP : Nat → Int32) (ak : Nat → Int64) (ac : Nat) (pt : Nat → Int32) (hT : mAt M a th sg sn pr fk fp rws cd ds wc wd nn nE nC nK nO ln lF lC lT lO fn fC fP ak ac pt) (rw : Nat → Nat) (hrw : mR rws rw) (co : Int64) (kd : Int32) (oo : Int64) (hA : mNA rw cd pr co kd oo = true) : xC l xcl yM_note (xw (Cond.code yM_note bM_note 6 (some .int))) ({ frames := 1, cells := 0, slots := 0, locals := 25 } : Room) [.ref (a), .long (co), .int (kd), .long (oo)] nx M (mPost (some (.int (nI (0)))) nx M a ((nI (1))) sg sn pr fk fp rws cd ds wc wd nn nE nC nK nO ln lF lC lT lO fn fC fP ak ac pt) := by
  obtain ⟨h0, h1, h2, h3, h4, h5, h6, h7, h8, h9, h10, h11, h12, h13, h14, h15, h16, h17, h18, b1, b2, b3, b4, b5, b6⟩ := id hT
  have hr40 := (hrw pr (by omega)).2
  refine yC (by decide) (Nat.le_of_ble_eq_true rfl) ?_
  intro p e s m args below meth c D F hr hn
  refine x_aload_n F 0 dM_note_0 rfl rfl ?_
  refine x_aload_n F 0 dM_note_1 rfl rfl ?_
  refine x_get (ci := 6) F 3 (x_in inM) rfl (by decide) (x_m kfM_156) dM_note_2 h0 rfl ?_
  refine x_lload_n F 1 dM_note_5 rfl rfl ?_
  refine yV (n := 2) (As := [.int (nI (pr)), .long (co)]) (ci := 6) F kmM_169 kiM_rowOf ksM_rowOf knM kcM_rowOf (by decide +kernel) dM_note_6 (cM_rowOf l (nx) M (a) th sg sn pr fk fp rws cd ds wc wd nn nE nC nK nO ln lF lC lT lO fn fC fP ak ac pt hT rw hrw (pr) (by omega) (co)) rfl h0 rfl rfl (Nat.le_of_ble_eq_true rfl) ⟨Nat.le_of_ble_eq_true rfl, Nat.le_of_ble_eq_true rfl⟩ ⟨Nat.le_of_ble_eq_true rfl, Nat.le_of_ble_eq_true rfl⟩ ?_
  rcases o_cases (mRow rw cd pr co) with hx1 | ⟨j1, hx1⟩
  · skip
    refine xW.ste (st' := [.int ((-1))]) (by show ([.int (oi (mRow rw cd (pr) (co)))] : List Value) = _; rw [hx1]; rfl) ?_
    refine x_if_lt F (tgt := 41) dM_note_9 (by decide) (fun c1 => ?_) (fun c1 => ?_)
    · skip
      refine x_aload_n F 0 dM_note_41 rfl rfl ?_
      refine x_iconst F (v := nI (1)) dM_note_42 (by decide) ?_
      refine yVr (n := 1) (As := [.int (nI (1))]) (ci := 6) F kmM_152 kiM_refuse ksM_refuse knM kcM_refuse (by decide +kernel) dM_note_43 (cM_refuse l (nx) M (a) th sg sn pr fk fp rws cd ds wc wd nn nE nC nK nO ln lF lC lT lO fn fC fP ak ac pt hT (nI (1))) rfl h0 rfl rfl (Nat.le_of_ble_eq_true rfl) ⟨Nat.le_of_ble_eq_true rfl, Nat.le_of_ble_eq_true rfl⟩ ⟨Nat.le_of_ble_eq_true rfl, Nat.le_of_ble_eq_true rfl⟩ (fun r' n' M367 hp => ?_)
      obtain ⟨hr', hn', hM367, hf367⟩ := hp
      rw [hn', hr']
      obtain ⟨v367_0, v367_1, v367_2, v367_3, v367_4, v367_5, v367_6, v367_7, v367_8, v367_9, v367_10, v367_11, v367_12, v367_13, v367_14, v367_15, v367_16, v367_17, v367_18, vb367_0, vb367_1, vb367_2, vb367_3, vb367_4, vb367_5⟩ := id hM367
      show xW p l e ({ frames := 1, cells := 0, slots := 0, locals := 25 } : Room) s m args below meth c D xcl (x_A M nx) 6 (MQ below (x_Q D xcl (x_A M nx) (mPost (some (.int (nI (0)))) nx M a ((nI (1))) sg sn pr fk fp rws cd ds wc wd nn nE nC nK nO ln lF lC lT lO fn fC fP ak ac pt)) args s 0 0 (x_A M nx)) 0 0 (nx) M367 46 [(0, .ref (a)), (1, .long (co)), (3, .int (kd)), (4, .long (oo))] [.int (nI (0))]
      exact x_iret F hr dM_note_46 (⟨rfl, rfl, ⟨v367_0, v367_1, v367_2, v367_3, v367_4, v367_5, v367_6, v367_7, v367_8, v367_9, v367_10, v367_11, v367_12, v367_13, v367_14, v367_15, v367_16, v367_17, v367_18, by omega, by omega, by omega, by omega, by omega, by omega⟩, fun b hb => (hf367 _ (by omega)).trans (rfl)⟩)
    · skip
      exact absurd (by decide) c1
  · skip
    have hj1 : j1 < rw pr := (la_lt hx1).1
    refine xW.ste (st' := [.int (nI (j1))]) (by show ([.int (oi (mRow rw cd (pr) (co)))] : List Value) = _; rw [hx1]; rfl) ?_
    refine x_if_lt F (tgt := 41) dM_note_9 (by decide) (fun c2 => ?_) (fun c2 => ?_)
    · skip
      have c2 : j1 < 0 := by
        exact (nI_ltI (a := j1) (b := 0) (by omega) (by omega)).mp c2
      refine x_aload_n F 0 dM_note_41 rfl rfl ?_
      refine x_iconst F (v := nI (1)) dM_note_42 (by decide) ?_
      refine yVr (n := 1) (As := [.int (nI (1))]) (ci := 6) F kmM_152 kiM_refuse ksM_refuse knM kcM_refuse (by decide +kernel) dM_note_43 (cM_refuse l (nx) M (a) th sg sn pr fk fp rws cd ds wc wd nn nE nC nK nO ln lF lC lT lO fn fC fP ak ac pt hT (nI (1))) rfl h0 rfl rfl (Nat.le_of_ble_eq_true rfl) ⟨Nat.le_of_ble_eq_true rfl, Nat.le_of_ble_eq_true rfl⟩ ⟨Nat.le_of_ble_eq_true rfl, Nat.le_of_ble_eq_true rfl⟩ (fun r' n' M368 hp => ?_)
      obtain ⟨hr', hn', hM368, hf368⟩ := hp
      rw [hn', hr']
      obtain ⟨v368_0, v368_1, v368_2, v368_3, v368_4, v368_5, v368_6, v368_7, v368_8, v368_9, v368_10, v368_11, v368_12, v368_13, v368_14, v368_15, v368_16, v368_17, v368_18, vb368_0, vb368_1, vb368_2, vb368_3, vb368_4, vb368_5⟩ := id hM368
      show xW p l e ({ frames := 1, cells := 0, slots := 0, locals := 25 } : Room) s m args below meth c D xcl (x_A M nx) 6 (MQ below (x_Q D xcl (x_A M nx) (mPost (some (.int (nI (0)))) nx M a ((nI (1))) sg sn pr fk fp rws cd ds wc wd nn nE nC nK nO ln lF lC lT lO fn fC fP ak ac pt)) args s 0 0 (x_A M nx)) 0 0 (nx) M368 46 [(0, .ref (a)), (1, .long (co)), (3, .int (kd)), (4, .long (oo))] [.int (nI (0))]
      exact x_iret F hr dM_note_46 (⟨rfl, rfl, ⟨v368_0, v368_1, v368_2, v368_3, v368_4, v368_5, v368_6, v368_7, v368_8, v368_9, v368_10, v368_11, v368_12, v368_13, v368_14, v368_15, v368_16, v368_17, v368_18, by omega, by omega, by omega, by omega, by omega, by omega⟩, fun b hb => (hf368 _ (by omega)).trans (rfl)⟩)
    · skip
      have c2 : 0 ≤ j1 := by
        have z : ¬ (j1 < 0) := fun zz => c2 ((nI_ltI (a := j1) (b := 0) (by omega) (by omega)).mpr zz)
        omega
      refine x_aload_n F 0 dM_note_12 rfl rfl ?_
      refine x_aload_n F 0 dM_note_13 rfl rfl ?_
      refine x_get (ci := 6) F 3 (x_in inM) rfl (by decide) (x_m kfM_156) dM_note_14 h0 rfl ?_
      refine x_lload F 3 dM_note_17 rfl ?_
      refine yV (n := 2) (As := [.int (nI (pr)), .long (oo)]) (ci := 6) F kmM_169 kiM_rowOf ksM_rowOf knM kcM_rowOf (by decide +kernel) dM_note_19 (cM_rowOf l (nx) M (a) th sg sn pr fk fp rws cd ds wc wd nn nE nC nK nO ln lF lC lT lO fn fC fP ak ac pt hT rw hrw (pr) (by omega) (oo)) rfl h0 rfl rfl (Nat.le_of_ble_eq_true rfl) ⟨Nat.le_of_ble_eq_true rfl, Nat.le_of_ble_eq_true rfl⟩ ⟨Nat.le_of_ble_eq_true rfl, Nat.le_of_ble_eq_true rfl⟩ ?_
      rcases o_cases (mRow rw cd pr oo) with hx2 | ⟨j2, hx2⟩
      · skip
        refine xW.ste (st' := [.int ((-1))]) (by show ([.int (oi (mRow rw cd (pr) (oo)))] : List Value) = _; rw [hx2]; rfl) ?_
        refine x_if_lt F (tgt := 41) dM_note_22 (by decide) (fun c3 => ?_) (fun c3 => ?_)
        · skip
          refine x_aload_n F 0 dM_note_41 rfl rfl ?_
          refine x_iconst F (v := nI (1)) dM_note_42 (by decide) ?_
          refine yVr (n := 1) (As := [.int (nI (1))]) (ci := 6) F kmM_152 kiM_refuse ksM_refuse knM kcM_refuse (by decide +kernel) dM_note_43 (cM_refuse l (nx) M (a) th sg sn pr fk fp rws cd ds wc wd nn nE nC nK nO ln lF lC lT lO fn fC fP ak ac pt hT (nI (1))) rfl h0 rfl rfl (Nat.le_of_ble_eq_true rfl) ⟨Nat.le_of_ble_eq_true rfl, Nat.le_of_ble_eq_true rfl⟩ ⟨Nat.le_of_ble_eq_true rfl, Nat.le_of_ble_eq_true rfl⟩ (fun r' n' M369 hp => ?_)
          obtain ⟨hr', hn', hM369, hf369⟩ := hp
          rw [hn', hr']
          obtain ⟨v369_0, v369_1, v369_2, v369_3, v369_4, v369_5, v369_6, v369_7, v369_8, v369_9, v369_10, v369_11, v369_12, v369_13, v369_14, v369_15, v369_16, v369_17, v369_18, vb369_0, vb369_1, vb369_2, vb369_3, vb369_4, vb369_5⟩ := id hM369
          show xW p l e ({ frames := 1, cells := 0, slots := 0, locals := 25 } : Room) s m args below meth c D xcl (x_A M nx) 6 (MQ below (x_Q D xcl (x_A M nx) (mPost (some (.int (nI (0)))) nx M a ((nI (1))) sg sn pr fk fp rws cd ds wc wd nn nE nC nK nO ln lF lC lT lO fn fC fP ak ac pt)) args s 0 0 (x_A M nx)) 0 0 (nx) M369 46 [(0, .ref (a)), (1, .long (co)), (3, .int (kd)), (4, .long (oo))] [.int (nI (0))]
          exact x_iret F hr dM_note_46 (⟨rfl, rfl, ⟨v369_0, v369_1, v369_2, v369_3, v369_4, v369_5, v369_6, v369_7, v369_8, v369_9, v369_10, v369_11, v369_12, v369_13, v369_14, v369_15, v369_16, v369_17, v369_18, by omega, by omega, by omega, by omega, by omega, by omega⟩, fun b hb => (hf369 _ (by omega)).trans (rfl)⟩)
        · skip
          exact absurd (by decide) c3
      · skip
        have hj2 : j2 < rw pr := (la_lt hx2).1
        refine xW.ste (st' := [.int (nI (j2))]) (by show ([.int (oi (mRow rw cd (pr) (oo)))] : List Value) = _; rw [hx2]; rfl) ?_
        refine x_if_lt F (tgt := 41) dM_note_22 (by decide) (fun c4 => ?_) (fun c4 => ?_)
        · skip
          have c4 : j2 < 0 := by
            exact (nI_ltI (a := j2) (b := 0) (by omega) (by omega)).mp c4
          refine x_aload_n F 0 dM_note_41 rfl rfl ?_
          refine x_iconst F (v := nI (1)) dM_note_42 (by decide) ?_
          refine yVr (n := 1) (As := [.int (nI (1))]) (ci := 6) F kmM_152 kiM_refuse ksM_refuse knM kcM_refuse (by decide +kernel) dM_note_43 (cM_refuse l (nx) M (a) th sg sn pr fk fp rws cd ds wc wd nn nE nC nK nO ln lF lC lT lO fn fC fP ak ac pt hT (nI (1))) rfl h0 rfl rfl (Nat.le_of_ble_eq_true rfl) ⟨Nat.le_of_ble_eq_true rfl, Nat.le_of_ble_eq_true rfl⟩ ⟨Nat.le_of_ble_eq_true rfl, Nat.le_of_ble_eq_true rfl⟩ (fun r' n' M370 hp => ?_)
          obtain ⟨hr', hn', hM370, hf370⟩ := hp
          rw [hn', hr']
          obtain ⟨v370_0, v370_1, v370_2, v370_3, v370_4, v370_5, v370_6, v370_7, v370_8, v370_9, v370_10, v370_11, v370_12, v370_13, v370_14, v370_15, v370_16, v370_17, v370_18, vb370_0, vb370_1, vb370_2, vb370_3, vb370_4, vb370_5⟩ := id hM370
          show xW p l e ({ frames := 1, cells := 0, slots := 0, locals := 25 } : Room) s m args below meth c D xcl (x_A M nx) 6 (MQ below (x_Q D xcl (x_A M nx) (mPost (some (.int (nI (0)))) nx M a ((nI (1))) sg sn pr fk fp rws cd ds wc wd nn nE nC nK nO ln lF lC lT lO fn fC fP ak ac pt)) args s 0 0 (x_A M nx)) 0 0 (nx) M370 46 [(0, .ref (a)), (1, .long (co)), (3, .int (kd)), (4, .long (oo))] [.int (nI (0))]
          exact x_iret F hr dM_note_46 (⟨rfl, rfl, ⟨v370_0, v370_1, v370_2, v370_3, v370_4, v370_5, v370_6, v370_7, v370_8, v370_9, v370_10, v370_11, v370_12, v370_13, v370_14, v370_15, v370_16, v370_17, v370_18, by omega, by omega, by omega, by omega, by omega, by omega⟩, fun b hb => (hf370 _ (by omega)).trans (rfl)⟩)
        · skip
          have c4 : 0 ≤ j2 := by
            have z : ¬ (j2 < 0) := fun zz => c4 ((nI_ltI (a := j2) (b := 0) (by omega) (by omega)).mpr zz)
            omega
          refine x_lload_n F 1 dM_note_25 rfl rfl ?_
          refine x_lload F 3 dM_note_26 rfl ?_
          refine x_lcmp F dM_note_28 ?_
          refine x_if_eq F (tgt := 41) dM_note_29 (by decide) (fun c5 => ?_) (fun c5 => ?_)
          · skip
            have c5 : co = oo := (lg_cmp_eq (co) (oo)).mp c5
            refine x_aload_n F 0 dM_note_41 rfl rfl ?_
            refine x_iconst F (v := nI (1)) dM_note_42 (by decide) ?_
            refine yVr (n := 1) (As := [.int (nI (1))]) (ci := 6) F kmM_152 kiM_refuse ksM_refuse knM kcM_refuse (by decide +kernel) dM_note_43 (cM_refuse l (nx) M (a) th sg sn pr fk fp rws cd ds wc wd nn nE nC nK nO ln lF lC lT lO fn fC fP ak ac pt hT (nI (1))) rfl h0 rfl rfl (Nat.le_of_ble_eq_true rfl) ⟨Nat.le_of_ble_eq_true rfl, Nat.le_of_ble_eq_true rfl⟩ ⟨Nat.le_of_ble_eq_true rfl, Nat.le_of_ble_eq_true rfl⟩ (fun r' n' M371 hp => ?_)
            obtain ⟨hr', hn', hM371, hf371⟩ := hp
            rw [hn', hr']
            obtain ⟨v371_0, v371_1, v371_2, v371_3, v371_4, v371_5, v371_6, v371_7, v371_8, v371_9, v371_10, v371_11, v371_12, v371_13, v371_14, v371_15, v371_16, v371_17, v371_18, vb371_0, vb371_1, vb371_2, vb371_3, vb371_4, vb371_5⟩ := id hM371
            show xW p l e ({ frames := 1, cells := 0, slots := 0, locals := 25 } : Room) s m args below meth c D xcl (x_A M nx) 6 (MQ below (x_Q D xcl (x_A M nx) (mPost (some (.int (nI (0)))) nx M a ((nI (1))) sg sn pr fk fp rws cd ds wc wd nn nE nC nK nO ln lF lC lT lO fn fC fP ak ac pt)) args s 0 0 (x_A M nx)) 0 0 (nx) M371 46 [(0, .ref (a)), (1, .long (co)), (3, .int (kd)), (4, .long (oo))] [.int (nI (0))]
            exact x_iret F hr dM_note_46 (⟨rfl, rfl, ⟨v371_0, v371_1, v371_2, v371_3, v371_4, v371_5, v371_6, v371_7, v371_8, v371_9, v371_10, v371_11, v371_12, v371_13, v371_14, v371_15, v371_16, v371_17, v371_18, by omega, by omega, by omega, by omega, by omega, by omega⟩, fun b hb => (hf371 _ (by omega)).trans (rfl)⟩)
          · skip
            have c5 : ¬ co = oo := fun z => c5 ((lg_cmp_eq (co) (oo)).mpr z)
            refine x_iload_n F 2 dM_note_32 rfl rfl ?_
            refine x_iconst F (v := nI (0)) dM_note_33 (by decide) ?_
            refine x_iconst F (v := nI (1)) dM_note_34 (by decide) ?_
            refine yS (n := 3) (As := [.int (kd), .int (nI (0)), .int (nI (1))]) F kmM_72 ktM_in knM kcM_in (by decide +kernel) dM_note_35 (cM_in l (nx) M (kd) (nI (0)) (nI (1))) rfl rfl (Nat.le_of_ble_eq_true rfl) ⟨Nat.le_of_ble_eq_true rfl, Nat.le_of_ble_eq_true rfl⟩ ⟨Nat.le_of_ble_eq_true rfl, Nat.le_of_ble_eq_true rfl⟩ ?_
            refine x_if_ne F (tgt := 47) dM_note_38 (by decide) (fun c6 => ?_) (fun c6 => ?_)
            · skip
              have c6 : (decide ((nI (0)) ≤ (kd)) && decide ((kd) ≤ (nI (1)))) = true := bI_1 c6
              simp [mNA, hx1, hx2, c5, c6] at hA
            · skip
              have c6 : (decide ((nI (0)) ≤ (kd)) && decide ((kd) ≤ (nI (1)))) = false := bI_0 c6
              refine x_aload_n F 0 dM_note_41 rfl rfl ?_
              refine x_iconst F (v := nI (1)) dM_note_42 (by decide) ?_
              refine yVr (n := 1) (As := [.int (nI (1))]) (ci := 6) F kmM_152 kiM_refuse ksM_refuse knM kcM_refuse (by decide +kernel) dM_note_43 (cM_refuse l (nx) M (a) th sg sn pr fk fp rws cd ds wc wd nn nE nC nK nO ln lF lC lT lO fn fC fP ak ac pt hT (nI (1))) rfl h0 rfl rfl (Nat.le_of_ble_eq_true rfl) ⟨Nat.le_of_ble_eq_true rfl, Nat.le_of_ble_eq_true rfl⟩ ⟨Nat.le_of_ble_eq_true rfl, Nat.le_of_ble_eq_true rfl⟩ (fun r' n' M372 hp => ?_)
              obtain ⟨hr', hn', hM372, hf372⟩ := hp
              rw [hn', hr']
              obtain ⟨v372_0, v372_1, v372_2, v372_3, v372_4, v372_5, v372_6, v372_7, v372_8, v372_9, v372_10, v372_11, v372_12, v372_13, v372_14, v372_15, v372_16, v372_17, v372_18, vb372_0, vb372_1, vb372_2, vb372_3, vb372_4, vb372_5⟩ := id hM372
              show xW p l e ({ frames := 1, cells := 0, slots := 0, locals := 25 } : Room) s m args below meth c D xcl (x_A M nx) 6 (MQ below (x_Q D xcl (x_A M nx) (mPost (some (.int (nI (0)))) nx M a ((nI (1))) sg sn pr fk fp rws cd ds wc wd nn nE nC nK nO ln lF lC lT lO fn fC fP ak ac pt)) args s 0 0 (x_A M nx)) 0 0 (nx) M372 46 [(0, .ref (a)), (1, .long (co)), (3, .int (kd)), (4, .long (oo))] [.int (nI (0))]
              exact x_iret F hr dM_note_46 (⟨rfl, rfl, ⟨v372_0, v372_1, v372_2, v372_3, v372_4, v372_5, v372_6, v372_7, v372_8, v372_9, v372_10, v372_11, v372_12, v372_13, v372_14, v372_15, v372_16, v372_17, v372_18, by omega, by omega, by omega, by omega, by omega, by omega⟩, fun b hb => (hf372 _ (by omega)).trans (rfl)⟩)
set_option maxHeartbeats 4000000 in
set_option maxRecDepth 100000 in
theorem cM_noteS (l : Launch) (nx : Nat) (M : xH) (a : Nat) (th : Int32) (sg : Nat → Int32) (sn pr : Nat) (fk fp : Int32) (rws : Nat → Int32) (cd : Nat → Int64) (ds wc : Nat → Int32) (wd : Nat → Int64) (nn : Nat) (nE : Nat → Int32) (nC : Nat → Int64) (nK : Nat → Int32) (nO : Nat → Int64) (ln : Nat) (lF : Nat → Int32) (lC : Nat → Int64) (lT : Nat → Int32) (lO : Nat → Int64) (fn : Nat) (fC : Nat → Int64) (fP : Nat → Int32) (ak : Nat → Int64) (ac : Nat) (pt : Nat → Int32) (hT : mAt M a th sg sn pr fk fp rws cd ds wc wd nn nE nC nK nO ln lF lC lT lO fn fC fP ak ac pt) (rw : Nat → Nat) (hrw : mR rws rw) (co : Int64) (kd : Int32) (oo : Int64) (hA : mNA rw cd pr co kd oo = false) (hS : mNS nn pr nE nC nK nO co kd oo = true) : xC l xcl yM_note (xw (Cond.code yM_note bM_note 6 (some .int))) ({ frames := 2, cells := 0, slots := 0, locals := 53 } : Room) [.ref (a), .long (co), .int (kd), .long (oo)] nx M (mPost (some (.int (nI (0)))) nx M a ((nI (2))) sg sn pr fk fp rws cd ds wc wd nn nE nC nK nO ln lF lC lT lO fn fC fP ak ac pt) := by
  obtain ⟨h0, h1, h2, h3, h4, h5, h6, h7, h8, h9, h10, h11, h12, h13, h14, h15, h16, h17, h18, b1, b2, b3, b4, b5, b6⟩ := id hT
  have hr40 := (hrw pr (by omega)).2
  refine yC (by decide) (Nat.le_of_ble_eq_true rfl) ?_
  intro p e s m args below meth c D F hr hn
  refine x_aload_n F 0 dM_note_0 rfl rfl ?_
  refine x_aload_n F 0 dM_note_1 rfl rfl ?_
  refine x_get (ci := 6) F 3 (x_in inM) rfl (by decide) (x_m kfM_156) dM_note_2 h0 rfl ?_
  refine x_lload_n F 1 dM_note_5 rfl rfl ?_
  refine yV (n := 2) (As := [.int (nI (pr)), .long (co)]) (ci := 6) F kmM_169 kiM_rowOf ksM_rowOf knM kcM_rowOf (by decide +kernel) dM_note_6 (cM_rowOf l (nx) M (a) th sg sn pr fk fp rws cd ds wc wd nn nE nC nK nO ln lF lC lT lO fn fC fP ak ac pt hT rw hrw (pr) (by omega) (co)) rfl h0 rfl rfl (Nat.le_of_ble_eq_true rfl) ⟨Nat.le_of_ble_eq_true rfl, Nat.le_of_ble_eq_true rfl⟩ ⟨Nat.le_of_ble_eq_true rfl, Nat.le_of_ble_eq_true rfl⟩ ?_
  rcases o_cases (mRow rw cd pr co) with hx1 | ⟨j1, hx1⟩
  · skip
    refine xW.ste (st' := [.int ((-1))]) (by show ([.int (oi (mRow rw cd (pr) (co)))] : List Value) = _; rw [hx1]; rfl) ?_
    refine x_if_lt F (tgt := 41) dM_note_9 (by decide) (fun c1 => ?_) (fun c1 => ?_)
    · skip
      first | (exfalso; omega) | (simp [mNA, hx1] at hA)
    · skip
      exact absurd (by decide) c1
  · skip
    have hj1 : j1 < rw pr := (la_lt hx1).1
    refine xW.ste (st' := [.int (nI (j1))]) (by show ([.int (oi (mRow rw cd (pr) (co)))] : List Value) = _; rw [hx1]; rfl) ?_
    refine x_if_lt F (tgt := 41) dM_note_9 (by decide) (fun c2 => ?_) (fun c2 => ?_)
    · skip
      have c2 : j1 < 0 := by
        exact (nI_ltI (a := j1) (b := 0) (by omega) (by omega)).mp c2
      first | (exfalso; omega) | (simp [mNA, hx1] at hA)
    · skip
      have c2 : 0 ≤ j1 := by
        have z : ¬ (j1 < 0) := fun zz => c2 ((nI_ltI (a := j1) (b := 0) (by omega) (by omega)).mpr zz)
        omega
      refine x_aload_n F 0 dM_note_12 rfl rfl ?_
      refine x_aload_n F 0 dM_note_13 rfl rfl ?_
      refine x_get (ci := 6) F 3 (x_in inM) rfl (by decide) (x_m kfM_156) dM_note_14 h0 rfl ?_
      refine x_lload F 3 dM_note_17 rfl ?_
      refine yV (n := 2) (As := [.int (nI (pr)), .long (oo)]) (ci := 6) F kmM_169 kiM_rowOf ksM_rowOf knM kcM_rowOf (by decide +kernel) dM_note_19 (cM_rowOf l (nx) M (a) th sg sn pr fk fp rws cd ds wc wd nn nE nC nK nO ln lF lC lT lO fn fC fP ak ac pt hT rw hrw (pr) (by omega) (oo)) rfl h0 rfl rfl (Nat.le_of_ble_eq_true rfl) ⟨Nat.le_of_ble_eq_true rfl, Nat.le_of_ble_eq_true rfl⟩ ⟨Nat.le_of_ble_eq_true rfl, Nat.le_of_ble_eq_true rfl⟩ ?_
      rcases o_cases (mRow rw cd pr oo) with hx2 | ⟨j2, hx2⟩
      · skip
        refine xW.ste (st' := [.int ((-1))]) (by show ([.int (oi (mRow rw cd (pr) (oo)))] : List Value) = _; rw [hx2]; rfl) ?_
        refine x_if_lt F (tgt := 41) dM_note_22 (by decide) (fun c3 => ?_) (fun c3 => ?_)
        · skip
          first | (exfalso; omega) | (simp [mNA, hx1, hx2] at hA)
        · skip
          exact absurd (by decide) c3
      · skip
        have hj2 : j2 < rw pr := (la_lt hx2).1
        refine xW.ste (st' := [.int (nI (j2))]) (by show ([.int (oi (mRow rw cd (pr) (oo)))] : List Value) = _; rw [hx2]; rfl) ?_
        refine x_if_lt F (tgt := 41) dM_note_22 (by decide) (fun c4 => ?_) (fun c4 => ?_)
        · skip
          have c4 : j2 < 0 := by
            exact (nI_ltI (a := j2) (b := 0) (by omega) (by omega)).mp c4
          first | (exfalso; omega) | (simp [mNA, hx1, hx2] at hA)
        · skip
          have c4 : 0 ≤ j2 := by
            have z : ¬ (j2 < 0) := fun zz => c4 ((nI_ltI (a := j2) (b := 0) (by omega) (by omega)).mpr zz)
            omega
          refine x_lload_n F 1 dM_note_25 rfl rfl ?_
          refine x_lload F 3 dM_note_26 rfl ?_
          refine x_lcmp F dM_note_28 ?_
          refine x_if_eq F (tgt := 41) dM_note_29 (by decide) (fun c5 => ?_) (fun c5 => ?_)
          · skip
            have c5 : co = oo := (lg_cmp_eq (co) (oo)).mp c5
            first | (exfalso; omega) | (simp [mNA, hx1, hx2, c5] at hA)
          · skip
            have c5 : ¬ co = oo := fun z => c5 ((lg_cmp_eq (co) (oo)).mpr z)
            refine x_iload_n F 2 dM_note_32 rfl rfl ?_
            refine x_iconst F (v := nI (0)) dM_note_33 (by decide) ?_
            refine x_iconst F (v := nI (1)) dM_note_34 (by decide) ?_
            refine yS (n := 3) (As := [.int (kd), .int (nI (0)), .int (nI (1))]) F kmM_72 ktM_in knM kcM_in (by decide +kernel) dM_note_35 (cM_in l (nx) M (kd) (nI (0)) (nI (1))) rfl rfl (Nat.le_of_ble_eq_true rfl) ⟨Nat.le_of_ble_eq_true rfl, Nat.le_of_ble_eq_true rfl⟩ ⟨Nat.le_of_ble_eq_true rfl, Nat.le_of_ble_eq_true rfl⟩ ?_
            refine x_if_ne F (tgt := 47) dM_note_38 (by decide) (fun c6 => ?_) (fun c6 => ?_)
            · skip
              have c6 : (decide ((nI (0)) ≤ (kd)) && decide ((kd) ≤ (nI (1)))) = true := bI_1 c6
              refine x_aload_n F 0 dM_note_47 rfl rfl ?_
              refine x_get (ci := 6) F 11 (x_in inM) rfl (by decide) (x_m kfM_142) dM_note_48 h0 rfl ?_
              refine x_bipush F (v := nI (20)) dM_note_51 (by decide) ?_
              refine x_icmp_eq F (tgt := 67) dM_note_53 (by decide) (fun c7 => ?_) (fun c7 => ?_)
              · skip
                have c7 : nn = 20 := by
                  exact (nI_eq (a := nn) (b := 20) (by omega) (by omega)).mp c7
                refine x_aload_n F 0 dM_note_67 rfl rfl ?_
                refine x_iconst F (v := nI (2)) dM_note_68 (by decide) ?_
                refine yVr (n := 1) (As := [.int (nI (2))]) (ci := 6) F kmM_152 kiM_refuse ksM_refuse knM kcM_refuse (by decide +kernel) dM_note_69 (cM_refuse l (nx) M (a) th sg sn pr fk fp rws cd ds wc wd nn nE nC nK nO ln lF lC lT lO fn fC fP ak ac pt hT (nI (2))) rfl h0 rfl rfl (Nat.le_of_ble_eq_true rfl) ⟨Nat.le_of_ble_eq_true rfl, Nat.le_of_ble_eq_true rfl⟩ ⟨Nat.le_of_ble_eq_true rfl, Nat.le_of_ble_eq_true rfl⟩ (fun r' n' M375 hp => ?_)
                obtain ⟨hr', hn', hM375, hf375⟩ := hp
                rw [hn', hr']
                obtain ⟨v375_0, v375_1, v375_2, v375_3, v375_4, v375_5, v375_6, v375_7, v375_8, v375_9, v375_10, v375_11, v375_12, v375_13, v375_14, v375_15, v375_16, v375_17, v375_18, vb375_0, vb375_1, vb375_2, vb375_3, vb375_4, vb375_5⟩ := id hM375
                show xW p l e ({ frames := 2, cells := 0, slots := 0, locals := 53 } : Room) s m args below meth c D xcl (x_A M nx) 6 (MQ below (x_Q D xcl (x_A M nx) (mPost (some (.int (nI (0)))) nx M a ((nI (2))) sg sn pr fk fp rws cd ds wc wd nn nE nC nK nO ln lF lC lT lO fn fC fP ak ac pt)) args s 0 0 (x_A M nx)) 0 0 (nx) M375 72 [(0, .ref (a)), (1, .long (co)), (3, .int (kd)), (4, .long (oo))] [.int (nI (0))]
                exact x_iret F hr dM_note_72 (⟨rfl, rfl, ⟨v375_0, v375_1, v375_2, v375_3, v375_4, v375_5, v375_6, v375_7, v375_8, v375_9, v375_10, v375_11, v375_12, v375_13, v375_14, v375_15, v375_16, v375_17, v375_18, by omega, by omega, by omega, by omega, by omega, by omega⟩, fun b hb => (hf375 _ (by omega)).trans (rfl)⟩)
              · skip
                have c7 : nn ≠ 20 := by
                  have z : ¬ (nn = 20) := fun zz => c7 ((nI_eq (a := nn) (b := 20) (by omega) (by omega)).mpr zz)
                  omega
                refine x_aload_n F 0 dM_note_56 rfl rfl ?_
                refine x_lload_n F 1 dM_note_57 rfl rfl ?_
                refine x_iload_n F 2 dM_note_58 rfl rfl ?_
                refine x_lload F 3 dM_note_59 rfl ?_
                refine yV (n := 3) (As := [.long (co), .int (kd), .long (oo)]) (ci := 6) F kmM_177 kiM_hasNote ksM_hasNote knM kcM_hasNote (by decide +kernel) dM_note_61 (cM_hasNote l (nx) M (a) th sg sn pr fk fp rws cd ds wc wd nn nE nC nK nO ln lF lC lT lO fn fC fP ak ac pt hT (co) (kd) (oo)) rfl h0 rfl rfl (Nat.le_of_ble_eq_true rfl) ⟨Nat.le_of_ble_eq_true rfl, Nat.le_of_ble_eq_true rfl⟩ ⟨Nat.le_of_ble_eq_true rfl, Nat.le_of_ble_eq_true rfl⟩ ?_
                refine x_if_eq F (tgt := 73) dM_note_64 (by decide) (fun c8 => ?_) (fun c8 => ?_)
                · skip
                  have c8 : ((la (mNt nE nC nK nO (nI pr) (co) (kd) (oo)) nn).isSome) = false := bI_0 c8
                  simp [mNS, c7, c8] at hS
                · skip
                  have c8 : ((la (mNt nE nC nK nO (nI pr) (co) (kd) (oo)) nn).isSome) = true := bI_1 c8
                  refine x_aload_n F 0 dM_note_67 rfl rfl ?_
                  refine x_iconst F (v := nI (2)) dM_note_68 (by decide) ?_
                  refine yVr (n := 1) (As := [.int (nI (2))]) (ci := 6) F kmM_152 kiM_refuse ksM_refuse knM kcM_refuse (by decide +kernel) dM_note_69 (cM_refuse l (nx) M (a) th sg sn pr fk fp rws cd ds wc wd nn nE nC nK nO ln lF lC lT lO fn fC fP ak ac pt hT (nI (2))) rfl h0 rfl rfl (Nat.le_of_ble_eq_true rfl) ⟨Nat.le_of_ble_eq_true rfl, Nat.le_of_ble_eq_true rfl⟩ ⟨Nat.le_of_ble_eq_true rfl, Nat.le_of_ble_eq_true rfl⟩ (fun r' n' M376 hp => ?_)
                  obtain ⟨hr', hn', hM376, hf376⟩ := hp
                  rw [hn', hr']
                  obtain ⟨v376_0, v376_1, v376_2, v376_3, v376_4, v376_5, v376_6, v376_7, v376_8, v376_9, v376_10, v376_11, v376_12, v376_13, v376_14, v376_15, v376_16, v376_17, v376_18, vb376_0, vb376_1, vb376_2, vb376_3, vb376_4, vb376_5⟩ := id hM376
                  show xW p l e ({ frames := 2, cells := 0, slots := 0, locals := 53 } : Room) s m args below meth c D xcl (x_A M nx) 6 (MQ below (x_Q D xcl (x_A M nx) (mPost (some (.int (nI (0)))) nx M a ((nI (2))) sg sn pr fk fp rws cd ds wc wd nn nE nC nK nO ln lF lC lT lO fn fC fP ak ac pt)) args s 0 0 (x_A M nx)) 0 0 (nx) M376 72 [(0, .ref (a)), (1, .long (co)), (3, .int (kd)), (4, .long (oo))] [.int (nI (0))]
                  exact x_iret F hr dM_note_72 (⟨rfl, rfl, ⟨v376_0, v376_1, v376_2, v376_3, v376_4, v376_5, v376_6, v376_7, v376_8, v376_9, v376_10, v376_11, v376_12, v376_13, v376_14, v376_15, v376_16, v376_17, v376_18, by omega, by omega, by omega, by omega, by omega, by omega⟩, fun b hb => (hf376 _ (by omega)).trans (rfl)⟩)
            · skip
              have c6 : (decide ((nI (0)) ≤ (kd)) && decide ((kd) ≤ (nI (1)))) = false := bI_0 c6
              first | (exfalso; omega) | (simp [mNA, hx1, hx2, c5, c6] at hA)
set_option maxHeartbeats 4000000 in
set_option maxRecDepth 100000 in
theorem cM_noted (l : Launch) (nx : Nat) (M : xH) (a : Nat) (th : Int32) (sg : Nat → Int32) (sn pr : Nat) (fk fp : Int32) (rws : Nat → Int32) (cd : Nat → Int64) (ds wc : Nat → Int32) (wd : Nat → Int64) (nn : Nat) (nE : Nat → Int32) (nC : Nat → Int64) (nK : Nat → Int32) (nO : Nat → Int64) (ln : Nat) (lF : Nat → Int32) (lC : Nat → Int64) (lT : Nat → Int32) (lO : Nat → Int64) (fn : Nat) (fC : Nat → Int64) (fP : Nat → Int32) (ak : Nat → Int64) (ac : Nat) (pt : Nat → Int32) (hT : mAt M a th sg sn pr fk fp rws cd ds wc wd nn nE nC nK nO ln lF lC lT lO fn fC fP ak ac pt) (rw : Nat → Nat) (hrw : mR rws rw) (co : Int64) (x : Int32) (hok : (mRow rw cd pr co).isSome = true) : xC l xcl yM_noted (xw (Cond.code yM_noted bM_noted 7 (some .int))) ({ frames := 1, cells := 0, slots := 0, locals := 25 } : Room) [.ref (a), .long (co), .int (x)] nx M (mPost (some (.int (mNd rw cd pr nn nE nC nK nO co x))) nx M a ((nI (0))) sg sn pr fk fp rws cd ds wc wd nn nE nC nK nO ln lF lC lT lO fn fC fP ak ac pt) := by
  obtain ⟨h0, h1, h2, h3, h4, h5, h6, h7, h8, h9, h10, h11, h12, h13, h14, h15, h16, h17, h18, b1, b2, b3, b4, b5, b6⟩ := id hT
  have hr40 := (hrw pr (by omega)).2
  refine yC (by decide) (Nat.le_of_ble_eq_true rfl) ?_
  intro p e s m args below meth c D F hr hn
  refine x_aload_n F 0 dM_noted_0 rfl rfl ?_
  refine x_aload_n F 0 dM_noted_1 rfl rfl ?_
  refine x_get (ci := 6) F 3 (x_in inM) rfl (by decide) (x_m kfM_156) dM_noted_2 h0 rfl ?_
  refine x_lload_n F 1 dM_noted_5 rfl rfl ?_
  refine yV (n := 2) (As := [.int (nI (pr)), .long (co)]) (ci := 6) F kmM_169 kiM_rowOf ksM_rowOf knM kcM_rowOf (by decide +kernel) dM_noted_6 (cM_rowOf l (nx) M (a) th sg sn pr fk fp rws cd ds wc wd nn nE nC nK nO ln lF lC lT lO fn fC fP ak ac pt hT rw hrw (pr) (by omega) (co)) rfl h0 rfl rfl (Nat.le_of_ble_eq_true rfl) ⟨Nat.le_of_ble_eq_true rfl, Nat.le_of_ble_eq_true rfl⟩ ⟨Nat.le_of_ble_eq_true rfl, Nat.le_of_ble_eq_true rfl⟩ ?_
  rcases o_cases (mRow rw cd pr co) with hx1 | ⟨j1, hx1⟩
  · skip
    refine xW.ste (st' := [.int ((-1))]) (by show ([.int (oi (mRow rw cd (pr) (co)))] : List Value) = _; rw [hx1]; rfl) ?_
    refine x_if_ge F (tgt := 18) dM_noted_9 (by decide) (fun c1 => ?_) (fun c1 => ?_)
    · skip
      exact absurd c1 (by decide)
    · skip
      refine x_aload_n F 0 dM_noted_12 rfl rfl ?_
      refine x_iconst F (v := nI (1)) dM_noted_13 (by decide) ?_
      refine yVr (n := 1) (As := [.int (nI (1))]) (ci := 6) F kmM_152 kiM_refuse ksM_refuse knM kcM_refuse (by decide +kernel) dM_noted_14 (cM_refuse l (nx) M (a) th sg sn pr fk fp rws cd ds wc wd nn nE nC nK nO ln lF lC lT lO fn fC fP ak ac pt hT (nI (1))) rfl h0 rfl rfl (Nat.le_of_ble_eq_true rfl) ⟨Nat.le_of_ble_eq_true rfl, Nat.le_of_ble_eq_true rfl⟩ ⟨Nat.le_of_ble_eq_true rfl, Nat.le_of_ble_eq_true rfl⟩ (fun r' n' M379 hp => ?_)
      obtain ⟨hr', hn', hM379, hf379⟩ := hp
      rw [hn', hr']
      obtain ⟨v379_0, v379_1, v379_2, v379_3, v379_4, v379_5, v379_6, v379_7, v379_8, v379_9, v379_10, v379_11, v379_12, v379_13, v379_14, v379_15, v379_16, v379_17, v379_18, vb379_0, vb379_1, vb379_2, vb379_3, vb379_4, vb379_5⟩ := id hM379
      show xW p l e ({ frames := 1, cells := 0, slots := 0, locals := 25 } : Room) s m args below meth c D xcl (x_A M nx) 7 (MQ below (x_Q D xcl (x_A M nx) (mPost (some (.int (mNd rw cd pr nn nE nC nK nO co x))) nx M a ((nI (0))) sg sn pr fk fp rws cd ds wc wd nn nE nC nK nO ln lF lC lT lO fn fC fP ak ac pt)) args s 0 0 (x_A M nx)) 0 0 (nx) M379 17 [(0, .ref (a)), (1, .long (co)), (3, .int (x))] [.int (nI (0))]
      exact x_iret F hr dM_noted_17 (by rw [hx1] at hok; cases hok)
  · skip
    have hj1 : j1 < rw pr := (la_lt hx1).1
    refine xW.ste (st' := [.int (nI (j1))]) (by show ([.int (oi (mRow rw cd (pr) (co)))] : List Value) = _; rw [hx1]; rfl) ?_
    refine x_if_ge F (tgt := 18) dM_noted_9 (by decide) (fun c2 => ?_) (fun c2 => ?_)
    · skip
      have c2 : 0 ≤ j1 := by
        exact (nI_leI (a := 0) (b := j1) (by omega) (by omega)).mp c2
      refine x_aload_n F 0 dM_noted_18 rfl rfl ?_
      refine x_iconst F (v := nI (0)) dM_noted_19 (by decide) ?_
      refine x_put (ci := 6) (ty := .int) F 0 (x_in inM) tM tM_ok nM rfl (by decide) (x_m kfM_69) dM_noted_20 rfl (by decide +kernel) rfl rfl h0 (Nat.le_of_ble_eq_true rfl) ?_
      show xW p l e ({ frames := 1, cells := 0, slots := 0, locals := 25 } : Room) s m args below meth c D xcl (x_A M nx) 7 (MQ below (x_Q D xcl (x_A M nx) (mPost (some (.int (mNd rw cd pr nn nE nC nK nO co x))) nx M a ((nI (0))) sg sn pr fk fp rws cd ds wc wd nn nE nC nK nO ln lF lC lT lO fn fC fP ak ac pt)) args s 0 0 (x_A M nx)) 0 0 (nx) (x_up M (a) (.inr (6, [.int (nI (0)), .ref (a + 1), .int (nI (sn)), .int (nI (pr)), .int (fk), .int (fp), .ref (a + 2), .ref (a + 3), .ref (a + 4), .ref (a + 5), .ref (a + 6), .int (nI (nn)), .ref (a + 7), .ref (a + 8), .ref (a + 9), .ref (a + 10), .int (nI (ln)), .ref (a + 11), .ref (a + 12), .ref (a + 13), .ref (a + 14), .int (nI (fn)), .ref (a + 15), .ref (a + 16), .ref (a + 17), .int (nI (ac)), .ref (a + 18)]))) 23 [(0, .ref (a)), (1, .long (co)), (3, .int (x))] []
      have loop : ∀ (k : Nat) (i cq : Nat), i + k = nn → cq ≤ i → nt (fun j => decide (nE j = nI pr) && decide (nC j = co)) x nn 0 0 = nt (fun j => decide (nE j = nI pr) && decide (nC j = co)) x k i cq → xW p l e ({ frames := 1, cells := 0, slots := 0, locals := 25 } : Room) s m args below meth c D xcl (x_A M nx) 7 (MQ below (x_Q D xcl (x_A M nx) (mPost (some (.int (mNd rw cd pr nn nE nC nK nO co x))) nx M a ((nI (0))) sg sn pr fk fp rws cd ds wc wd nn nE nC nK nO ln lF lC lT lO fn fC fP ak ac pt)) args s 0 0 (x_A M nx)) 0 0 (nx) (x_up M (a) (.inr (6, [.int (nI (0)), .ref (a + 1), .int (nI (sn)), .int (nI (pr)), .int (fk), .int (fp), .ref (a + 2), .ref (a + 3), .ref (a + 4), .ref (a + 5), .ref (a + 6), .int (nI (nn)), .ref (a + 7), .ref (a + 8), .ref (a + 9), .ref (a + 10), .int (nI (ln)), .ref (a + 11), .ref (a + 12), .ref (a + 13), .ref (a + 14), .int (nI (fn)), .ref (a + 15), .ref (a + 16), .ref (a + 17), .int (nI (ac)), .ref (a + 18)]))) 29 [(5, .int (nI (i))), (4, .int (x - nI cq)), (0, .ref (a)), (1, .long (co)), (3, .int (x))] [] := by
        intro k
        induction k with
        | zero =>
          intro i cq hi hc hf
          refine x_iload F 0 dM_noted_29 rfl ?_
          refine x_aload_n F 2 dM_noted_31 rfl rfl ?_
          refine x_get (ci := 6) F 11 (x_in inM) rfl (by decide) (x_m kfM_142) dM_noted_32 x_up_s rfl ?_
          refine x_icmp_ge F (tgt := 128) dM_noted_35 (by decide) (fun c3 => ?_) (fun c3 => ?_)
          · skip
            have c3 : nn ≤ i := by
              exact (nI_leI (a := nn) (b := i) (by omega) (by omega)).mp c3
            refine x_iconst F (v := (-1)) dM_noted_128 (by decide) ?_
            exact x_iret F hr dM_noted_129 (by rw [mNd, show nt (fun j => decide (nE j = nI pr) && decide (nC j = co)) x nn 0 0 = none from hf]; exact ⟨rfl, rfl, ⟨x_up_s, (x_up_k h1 (by omega)), (x_up_k h2 (by omega)), (x_up_k h3 (by omega)), (x_up_k h4 (by omega)), (x_up_k h5 (by omega)), (x_up_k h6 (by omega)), (x_up_k h7 (by omega)), (x_up_k h8 (by omega)), (x_up_k h9 (by omega)), (x_up_k h10 (by omega)), (x_up_k h11 (by omega)), (x_up_k h12 (by omega)), (x_up_k h13 (by omega)), (x_up_k h14 (by omega)), (x_up_k h15 (by omega)), (x_up_k h16 (by omega)), (x_up_k h17 (by omega)), (x_up_k h18 (by omega)), by omega, by omega, by omega, by omega, by omega, by omega⟩, fun b hb => (x_up_n (by omega)).trans (rfl)⟩)
          · skip
            have c3 : i < nn := by
              have z : ¬ (nn ≤ i) := fun zz => c3 ((nI_leI (a := nn) (b := i) (by omega) (by omega)).mpr zz)
              omega
            exact absurd c3 (by omega)
        | succ k ih =>
          intro i cq hi hc hf
          refine x_iload F 0 dM_noted_29 rfl ?_
          refine x_aload_n F 2 dM_noted_31 rfl rfl ?_
          refine x_get (ci := 6) F 11 (x_in inM) rfl (by decide) (x_m kfM_142) dM_noted_32 x_up_s rfl ?_
          refine x_icmp_ge F (tgt := 128) dM_noted_35 (by decide) (fun c4 => ?_) (fun c4 => ?_)
          · skip
            have c4 : nn ≤ i := by
              exact (nI_leI (a := nn) (b := i) (by omega) (by omega)).mp c4
            exact absurd c4 (by omega)
          · skip
            have c4 : i < nn := by
              have z : ¬ (nn ≤ i) := fun zz => c4 ((nI_leI (a := nn) (b := i) (by omega) (by omega)).mpr zz)
              omega
            refine x_aload_n F 2 dM_noted_38 rfl rfl ?_
            refine x_get (ci := 6) F 12 (x_in inM) rfl (by decide) (x_m kfM_33) dM_noted_39 x_up_s rfl ?_
            refine x_iload F 0 dM_noted_42 rfl ?_
            refine x_iald F dM_noted_44 (x_up_k h7 (by omega)) (pk_in (i) (20) (by omega)) ?_
            refine xW.toi ((nE) (i)) (by rw [nI_clamp (by omega)]) ?_
            refine x_aload_n F 2 dM_noted_45 rfl rfl ?_
            refine x_get (ci := 6) F 3 (x_in inM) rfl (by decide) (x_m kfM_156) dM_noted_46 x_up_s rfl ?_
            refine x_icmp_ne F (tgt := 68) dM_noted_49 (by decide) (fun c5 => ?_) (fun c5 => ?_)
            · skip
              refine x_iconst F (v := nI (0)) dM_noted_68 (by decide) ?_
              refine x_istore F [(6, .int (nI (0))), (5, .int (nI (i))), (4, .int (x - nI cq)), (0, .ref (a)), (1, .long (co)), (3, .int (x))] dM_noted_69 (by decide) rfl ?_
              refine x_iload F 0 dM_noted_71 rfl ?_
              refine x_if_eq F (tgt := 107) dM_noted_73 (by decide) (fun c6 => ?_) (fun c6 => ?_)
              · skip
                have c6 : 0 = 0 := by
                  exact (nI_eq (a := 0) (b := 0) (by omega) (by omega)).mp c6
                refine x_iload F 2 dM_noted_107 rfl ?_
                refine x_iload F 0 dM_noted_109 rfl ?_
                refine x_if_eq F (tgt := 118) dM_noted_111 (by decide) (fun c7 => ?_) (fun c7 => ?_)
                · skip
                  have c7 : 0 = 0 := by
                    exact (nI_eq (a := 0) (b := 0) (by omega) (by omega)).mp c7
                  refine x_iconst F (v := nI (0)) dM_noted_118 (by decide) ?_
                  refine x_isub F dM_noted_119 ?_
                  refine x_istore F [(4, .int ((x - nI cq) - (nI (0)))), (6, .int (nI (0))), (5, .int (nI (i))), (0, .ref (a)), (1, .long (co)), (3, .int (x))] dM_noted_120 (by decide) rfl ?_
                  refine x_iinc F 2 [(5, .int (nI (i + 1))), (4, .int ((x - nI cq) - (nI (0)))), (6, .int (nI (0))), (0, .ref (a)), (1, .long (co)), (3, .int (x))] dM_noted_122 rfl (nI_add (i) 1) (by decide) rfl ?_
                  refine x_goto F (tgt := 29) dM_noted_125 (by decide) ?_
                  refine xW.sub [0, 1, 3, 4, 5] rfl ?_
                  exact xW.lve (lv' := [(5, .int (nI (i + 1))), (4, .int (x - nI cq)), (0, .ref (a)), (1, .long (co)), (3, .int (x))]) (by rw [lf_0]; rfl) (ih (i + 1) cq (by omega) (by omega) (by rw [hf, nt_s, if_neg (by simp [c5])]))
                · skip
                  have c7 : 0 ≠ 0 := by
                    have z : ¬ (0 = 0) := fun zz => c7 ((nI_eq (a := 0) (b := 0) (by omega) (by omega)).mpr zz)
                    omega
                  exact absurd c7 (by decide)
              · skip
                have c6 : 0 ≠ 0 := by
                  have z : ¬ (0 = 0) := fun zz => c6 ((nI_eq (a := 0) (b := 0) (by omega) (by omega)).mpr zz)
                  omega
                exact absurd c6 (by decide)
            · skip
              refine x_aload_n F 2 dM_noted_52 rfl rfl ?_
              refine x_get (ci := 6) F 13 (x_in inM) rfl (by decide) (x_m kfM_36) dM_noted_53 x_up_s rfl ?_
              refine x_iload F 0 dM_noted_56 rfl ?_
              refine x_lald F dM_noted_58 (x_up_k h8 (by omega)) (pk_in (i) (20) (by omega)) ?_
              refine xW.tol ((nC) (i)) (by rw [nI_clamp (by omega)]) ?_
              refine x_lload_n F 3 dM_noted_59 rfl rfl ?_
              refine x_lcmp F dM_noted_60 ?_
              refine x_if_ne F (tgt := 68) dM_noted_61 (by decide) (fun c8 => ?_) (fun c8 => ?_)
              · skip
                have c8 : ¬ (nC) (i) = co := fun z => c8 ((lg_cmp_eq ((nC) (i)) (co)).mpr z)
                refine x_iconst F (v := nI (0)) dM_noted_68 (by decide) ?_
                refine x_istore F [(6, .int (nI (0))), (5, .int (nI (i))), (4, .int (x - nI cq)), (0, .ref (a)), (1, .long (co)), (3, .int (x))] dM_noted_69 (by decide) rfl ?_
                refine x_iload F 0 dM_noted_71 rfl ?_
                refine x_if_eq F (tgt := 107) dM_noted_73 (by decide) (fun c9 => ?_) (fun c9 => ?_)
                · skip
                  have c9 : 0 = 0 := by
                    exact (nI_eq (a := 0) (b := 0) (by omega) (by omega)).mp c9
                  refine x_iload F 2 dM_noted_107 rfl ?_
                  refine x_iload F 0 dM_noted_109 rfl ?_
                  refine x_if_eq F (tgt := 118) dM_noted_111 (by decide) (fun c10 => ?_) (fun c10 => ?_)
                  · skip
                    have c10 : 0 = 0 := by
                      exact (nI_eq (a := 0) (b := 0) (by omega) (by omega)).mp c10
                    refine x_iconst F (v := nI (0)) dM_noted_118 (by decide) ?_
                    refine x_isub F dM_noted_119 ?_
                    refine x_istore F [(4, .int ((x - nI cq) - (nI (0)))), (6, .int (nI (0))), (5, .int (nI (i))), (0, .ref (a)), (1, .long (co)), (3, .int (x))] dM_noted_120 (by decide) rfl ?_
                    refine x_iinc F 2 [(5, .int (nI (i + 1))), (4, .int ((x - nI cq) - (nI (0)))), (6, .int (nI (0))), (0, .ref (a)), (1, .long (co)), (3, .int (x))] dM_noted_122 rfl (nI_add (i) 1) (by decide) rfl ?_
                    refine x_goto F (tgt := 29) dM_noted_125 (by decide) ?_
                    refine xW.sub [0, 1, 3, 4, 5] rfl ?_
                    exact xW.lve (lv' := [(5, .int (nI (i + 1))), (4, .int (x - nI cq)), (0, .ref (a)), (1, .long (co)), (3, .int (x))]) (by rw [lf_0]; rfl) (ih (i + 1) cq (by omega) (by omega) (by rw [hf, nt_s, if_neg (by simp [c5, c8])]))
                  · skip
                    have c10 : 0 ≠ 0 := by
                      have z : ¬ (0 = 0) := fun zz => c10 ((nI_eq (a := 0) (b := 0) (by omega) (by omega)).mpr zz)
                      omega
                    exact absurd c10 (by decide)
                · skip
                  have c9 : 0 ≠ 0 := by
                    have z : ¬ (0 = 0) := fun zz => c9 ((nI_eq (a := 0) (b := 0) (by omega) (by omega)).mpr zz)
                    omega
                  exact absurd c9 (by decide)
              · skip
                have c8 : (nC) (i) = co := (lg_cmp_eq ((nC) (i)) (co)).mp c8
                refine x_iconst F (v := nI (1)) dM_noted_64 (by decide) ?_
                refine x_goto F (tgt := 69) dM_noted_65 (by decide) ?_
                refine x_istore F [(6, .int (nI (1))), (5, .int (nI (i))), (4, .int (x - nI cq)), (0, .ref (a)), (1, .long (co)), (3, .int (x))] dM_noted_69 (by decide) rfl ?_
                refine x_iload F 0 dM_noted_71 rfl ?_
                refine x_if_eq F (tgt := 107) dM_noted_73 (by decide) (fun c11 => ?_) (fun c11 => ?_)
                · skip
                  have c11 : 1 = 0 := by
                    exact (nI_eq (a := 1) (b := 0) (by omega) (by omega)).mp c11
                  exact absurd c11 (by decide)
                · skip
                  have c11 : 1 ≠ 0 := by
                    have z : ¬ (1 = 0) := fun zz => c11 ((nI_eq (a := 1) (b := 0) (by omega) (by omega)).mpr zz)
                    omega
                  refine x_iload F 2 dM_noted_76 rfl ?_
                  refine x_if_ne F (tgt := 107) dM_noted_78 (by decide) (fun c12 => ?_) (fun c12 => ?_)
                  · skip
                    refine x_iload F 2 dM_noted_107 rfl ?_
                    refine x_iload F 0 dM_noted_109 rfl ?_
                    refine x_if_eq F (tgt := 118) dM_noted_111 (by decide) (fun c13 => ?_) (fun c13 => ?_)
                    · skip
                      have c13 : 1 = 0 := by
                        exact (nI_eq (a := 1) (b := 0) (by omega) (by omega)).mp c13
                      exact absurd c13 (by decide)
                    · skip
                      have c13 : 1 ≠ 0 := by
                        have z : ¬ (1 = 0) := fun zz => c13 ((nI_eq (a := 1) (b := 0) (by omega) (by omega)).mpr zz)
                        omega
                      refine x_iconst F (v := nI (1)) dM_noted_114 (by decide) ?_
                      refine x_goto F (tgt := 119) dM_noted_115 (by decide) ?_
                      refine x_isub F dM_noted_119 ?_
                      refine x_istore F [(4, .int ((x - nI cq) - (nI (1)))), (6, .int (nI (1))), (5, .int (nI (i))), (0, .ref (a)), (1, .long (co)), (3, .int (x))] dM_noted_120 (by decide) rfl ?_
                      refine x_iinc F 2 [(5, .int (nI (i + 1))), (4, .int ((x - nI cq) - (nI (1)))), (6, .int (nI (1))), (0, .ref (a)), (1, .long (co)), (3, .int (x))] dM_noted_122 rfl (nI_add (i) 1) (by decide) rfl ?_
                      refine x_goto F (tgt := 29) dM_noted_125 (by decide) ?_
                      refine xW.sub [0, 1, 3, 4, 5] rfl ?_
                      exact xW.lve (lv' := [(5, .int (nI (i + 1))), (4, .int (x - nI (cq + 1))), (0, .ref (a)), (1, .long (co)), (3, .int (x))]) (by rw [lf_1]; rfl) (ih (i + 1) (cq + 1) (by omega) (by omega) (by rw [hf, nt_s, if_pos (by simp [c5, c8]), if_neg (fun z => c12 (lf_e.mpr z))]))
                  · skip
                    refine x_iconst F (v := nI (2)) dM_noted_81 (by decide) ?_
                    refine x_aload_n F 3 dM_noted_82 rfl rfl ?_
                    refine x_aload_n F 3 dM_noted_83 rfl rfl ?_
                    refine x_get (ci := 6) F 3 (x_in inM) rfl (by decide) (x_m kfM_156) dM_noted_84 x_up_s rfl ?_
                    refine x_aload_n F 3 dM_noted_87 rfl rfl ?_
                    refine x_get (ci := 6) F 15 (x_in inM) rfl (by decide) (x_m kfM_42) dM_noted_88 x_up_s rfl ?_
                    refine x_iload F 1 dM_noted_91 rfl ?_
                    refine x_lald F dM_noted_93 (x_up_k h10 (by omega)) (pk_in (i) (20) (by omega)) ?_
                    refine xW.tol ((nO) (i)) (by rw [nI_clamp (by omega)]) ?_
                    refine yV (n := 2) (As := [.int (nI (pr)), .long ((nO) (i))]) (ci := 6) F kmM_169 kiM_rowOf ksM_rowOf knM kcM_rowOf (by decide +kernel) dM_noted_94 (cM_rowOf l (nx) (x_up M (a) (.inr (6, [.int (nI (0)), .ref (a + 1), .int (nI (sn)), .int (nI (pr)), .int (fk), .int (fp), .ref (a + 2), .ref (a + 3), .ref (a + 4), .ref (a + 5), .ref (a + 6), .int (nI (nn)), .ref (a + 7), .ref (a + 8), .ref (a + 9), .ref (a + 10), .int (nI (ln)), .ref (a + 11), .ref (a + 12), .ref (a + 13), .ref (a + 14), .int (nI (fn)), .ref (a + 15), .ref (a + 16), .ref (a + 17), .int (nI (ac)), .ref (a + 18)]))) (a) (nI (0)) sg sn pr fk fp rws cd ds wc wd nn nE nC nK nO ln lF lC lT lO fn fC fP ak ac pt ⟨x_up_s, (x_up_k h1 (by omega)), (x_up_k h2 (by omega)), (x_up_k h3 (by omega)), (x_up_k h4 (by omega)), (x_up_k h5 (by omega)), (x_up_k h6 (by omega)), (x_up_k h7 (by omega)), (x_up_k h8 (by omega)), (x_up_k h9 (by omega)), (x_up_k h10 (by omega)), (x_up_k h11 (by omega)), (x_up_k h12 (by omega)), (x_up_k h13 (by omega)), (x_up_k h14 (by omega)), (x_up_k h15 (by omega)), (x_up_k h16 (by omega)), (x_up_k h17 (by omega)), (x_up_k h18 (by omega)), by omega, by omega, by omega, by omega, by omega, by omega⟩ rw hrw pr (by omega) (nO i)) rfl x_up_s rfl rfl (Nat.le_of_ble_eq_true rfl) ⟨Nat.le_of_ble_eq_true rfl, Nat.le_of_ble_eq_true rfl⟩ ⟨Nat.le_of_ble_eq_true rfl, Nat.le_of_ble_eq_true rfl⟩ ?_
                    refine x_imul F dM_noted_97 ?_
                    refine x_aload_n F 3 dM_noted_98 rfl rfl ?_
                    refine x_get (ci := 6) F 14 (x_in inM) rfl (by decide) (x_m kfM_39) dM_noted_99 x_up_s rfl ?_
                    refine x_iload F 1 dM_noted_102 rfl ?_
                    refine x_iald F dM_noted_104 (x_up_k h9 (by omega)) (pk_in (i) (20) (by omega)) ?_
                    refine xW.toi ((nK) (i)) (by rw [nI_clamp (by omega)]) ?_
                    refine x_iadd F dM_noted_105 ?_
                    exact x_iret F hr dM_noted_106 (by rw [mNd, show nt (fun j => decide (nE j = nI pr) && decide (nC j = co)) x nn 0 0 = some i from by rw [hf, nt_s, if_pos (by simp [c5, c8]), if_pos (lf_e.mp c12)]]; exact ⟨rfl, rfl, ⟨x_up_s, (x_up_k h1 (by omega)), (x_up_k h2 (by omega)), (x_up_k h3 (by omega)), (x_up_k h4 (by omega)), (x_up_k h5 (by omega)), (x_up_k h6 (by omega)), (x_up_k h7 (by omega)), (x_up_k h8 (by omega)), (x_up_k h9 (by omega)), (x_up_k h10 (by omega)), (x_up_k h11 (by omega)), (x_up_k h12 (by omega)), (x_up_k h13 (by omega)), (x_up_k h14 (by omega)), (x_up_k h15 (by omega)), (x_up_k h16 (by omega)), (x_up_k h17 (by omega)), (x_up_k h18 (by omega)), by omega, by omega, by omega, by omega, by omega, by omega⟩, fun b hb => (x_up_n (by omega)).trans (rfl)⟩)
      refine x_iload_n F 2 dM_noted_23 rfl rfl ?_
      refine x_istore F [(4, .int (x)), (0, .ref (a)), (1, .long (co)), (3, .int (x))] dM_noted_24 (by decide) rfl ?_
      refine x_iconst F (v := nI (0)) dM_noted_26 (by decide) ?_
      refine x_istore F [(5, .int (nI (0))), (4, .int (x)), (0, .ref (a)), (1, .long (co)), (3, .int (x))] dM_noted_27 (by decide) rfl ?_
      exact xW.lve (lv' := [(5, .int (nI 0)), (4, .int (x - nI 0)), (0, .ref (a)), (1, .long (co)), (3, .int (x))]) (by rw [show nI 0 = (0 : Int32) from rfl, Int32.sub_zero]) (loop nn 0 0 (by omega) (by omega) rfl)
    · skip
      have c2 : j1 < 0 := by
        have z : ¬ (0 ≤ j1) := fun zz => c2 ((nI_leI (a := 0) (b := j1) (by omega) (by omega)).mpr zz)
        omega
      refine x_aload_n F 0 dM_noted_12 rfl rfl ?_
      refine x_iconst F (v := nI (1)) dM_noted_13 (by decide) ?_
      refine yVr (n := 1) (As := [.int (nI (1))]) (ci := 6) F kmM_152 kiM_refuse ksM_refuse knM kcM_refuse (by decide +kernel) dM_noted_14 (cM_refuse l (nx) M (a) th sg sn pr fk fp rws cd ds wc wd nn nE nC nK nO ln lF lC lT lO fn fC fP ak ac pt hT (nI (1))) rfl h0 rfl rfl (Nat.le_of_ble_eq_true rfl) ⟨Nat.le_of_ble_eq_true rfl, Nat.le_of_ble_eq_true rfl⟩ ⟨Nat.le_of_ble_eq_true rfl, Nat.le_of_ble_eq_true rfl⟩ (fun r' n' M380 hp => ?_)
      obtain ⟨hr', hn', hM380, hf380⟩ := hp
      rw [hn', hr']
      obtain ⟨v380_0, v380_1, v380_2, v380_3, v380_4, v380_5, v380_6, v380_7, v380_8, v380_9, v380_10, v380_11, v380_12, v380_13, v380_14, v380_15, v380_16, v380_17, v380_18, vb380_0, vb380_1, vb380_2, vb380_3, vb380_4, vb380_5⟩ := id hM380
      show xW p l e ({ frames := 1, cells := 0, slots := 0, locals := 25 } : Room) s m args below meth c D xcl (x_A M nx) 7 (MQ below (x_Q D xcl (x_A M nx) (mPost (some (.int (mNd rw cd pr nn nE nC nK nO co x))) nx M a ((nI (0))) sg sn pr fk fp rws cd ds wc wd nn nE nC nK nO ln lF lC lT lO fn fC fP ak ac pt)) args s 0 0 (x_A M nx)) 0 0 (nx) M380 17 [(0, .ref (a)), (1, .long (co)), (3, .int (x))] [.int (nI (0))]
      exact x_iret F hr dM_noted_17 (absurd c2 (by omega))
set_option maxHeartbeats 4000000 in
set_option maxRecDepth 100000 in
theorem cM_notedT (l : Launch) (nx : Nat) (M : xH) (a : Nat) (th : Int32) (sg : Nat → Int32) (sn pr : Nat) (fk fp : Int32) (rws : Nat → Int32) (cd : Nat → Int64) (ds wc : Nat → Int32) (wd : Nat → Int64) (nn : Nat) (nE : Nat → Int32) (nC : Nat → Int64) (nK : Nat → Int32) (nO : Nat → Int64) (ln : Nat) (lF : Nat → Int32) (lC : Nat → Int64) (lT : Nat → Int32) (lO : Nat → Int64) (fn : Nat) (fC : Nat → Int64) (fP : Nat → Int32) (ak : Nat → Int64) (ac : Nat) (pt : Nat → Int32) (hT : mAt M a th sg sn pr fk fp rws cd ds wc wd nn nE nC nK nO ln lF lC lT lO fn fC fP ak ac pt) (rw : Nat → Nat) (hrw : mR rws rw) (co : Int64) (x : Int32) (hok : mRow rw cd pr co = none) : xC l xcl yM_noted (xw (Cond.code yM_noted bM_noted 7 (some .int))) ({ frames := 1, cells := 0, slots := 0, locals := 25 } : Room) [.ref (a), .long (co), .int (x)] nx M (mPost (some (.int (nI (0)))) nx M a ((nI (1))) sg sn pr fk fp rws cd ds wc wd nn nE nC nK nO ln lF lC lT lO fn fC fP ak ac pt) := by
  obtain ⟨h0, h1, h2, h3, h4, h5, h6, h7, h8, h9, h10, h11, h12, h13, h14, h15, h16, h17, h18, b1, b2, b3, b4, b5, b6⟩ := id hT
  have hr40 := (hrw pr (by omega)).2
  refine yC (by decide) (Nat.le_of_ble_eq_true rfl) ?_
  intro p e s m args below meth c D F hr hn
  refine x_aload_n F 0 dM_noted_0 rfl rfl ?_
  refine x_aload_n F 0 dM_noted_1 rfl rfl ?_
  refine x_get (ci := 6) F 3 (x_in inM) rfl (by decide) (x_m kfM_156) dM_noted_2 h0 rfl ?_
  refine x_lload_n F 1 dM_noted_5 rfl rfl ?_
  refine yV (n := 2) (As := [.int (nI (pr)), .long (co)]) (ci := 6) F kmM_169 kiM_rowOf ksM_rowOf knM kcM_rowOf (by decide +kernel) dM_noted_6 (cM_rowOf l (nx) M (a) th sg sn pr fk fp rws cd ds wc wd nn nE nC nK nO ln lF lC lT lO fn fC fP ak ac pt hT rw hrw (pr) (by omega) (co)) rfl h0 rfl rfl (Nat.le_of_ble_eq_true rfl) ⟨Nat.le_of_ble_eq_true rfl, Nat.le_of_ble_eq_true rfl⟩ ⟨Nat.le_of_ble_eq_true rfl, Nat.le_of_ble_eq_true rfl⟩ ?_
  rcases o_cases (mRow rw cd pr co) with hx1 | ⟨j1, hx1⟩
  · skip
    refine xW.ste (st' := [.int ((-1))]) (by show ([.int (oi (mRow rw cd (pr) (co)))] : List Value) = _; rw [hx1]; rfl) ?_
    refine x_if_ge F (tgt := 18) dM_noted_9 (by decide) (fun c1 => ?_) (fun c1 => ?_)
    · skip
      exact absurd c1 (by decide)
    · skip
      refine x_aload_n F 0 dM_noted_12 rfl rfl ?_
      refine x_iconst F (v := nI (1)) dM_noted_13 (by decide) ?_
      refine yVr (n := 1) (As := [.int (nI (1))]) (ci := 6) F kmM_152 kiM_refuse ksM_refuse knM kcM_refuse (by decide +kernel) dM_noted_14 (cM_refuse l (nx) M (a) th sg sn pr fk fp rws cd ds wc wd nn nE nC nK nO ln lF lC lT lO fn fC fP ak ac pt hT (nI (1))) rfl h0 rfl rfl (Nat.le_of_ble_eq_true rfl) ⟨Nat.le_of_ble_eq_true rfl, Nat.le_of_ble_eq_true rfl⟩ ⟨Nat.le_of_ble_eq_true rfl, Nat.le_of_ble_eq_true rfl⟩ (fun r' n' M383 hp => ?_)
      obtain ⟨hr', hn', hM383, hf383⟩ := hp
      rw [hn', hr']
      obtain ⟨v383_0, v383_1, v383_2, v383_3, v383_4, v383_5, v383_6, v383_7, v383_8, v383_9, v383_10, v383_11, v383_12, v383_13, v383_14, v383_15, v383_16, v383_17, v383_18, vb383_0, vb383_1, vb383_2, vb383_3, vb383_4, vb383_5⟩ := id hM383
      show xW p l e ({ frames := 1, cells := 0, slots := 0, locals := 25 } : Room) s m args below meth c D xcl (x_A M nx) 7 (MQ below (x_Q D xcl (x_A M nx) (mPost (some (.int (nI (0)))) nx M a ((nI (1))) sg sn pr fk fp rws cd ds wc wd nn nE nC nK nO ln lF lC lT lO fn fC fP ak ac pt)) args s 0 0 (x_A M nx)) 0 0 (nx) M383 17 [(0, .ref (a)), (1, .long (co)), (3, .int (x))] [.int (nI (0))]
      exact x_iret F hr dM_noted_17 (⟨rfl, rfl, ⟨v383_0, v383_1, v383_2, v383_3, v383_4, v383_5, v383_6, v383_7, v383_8, v383_9, v383_10, v383_11, v383_12, v383_13, v383_14, v383_15, v383_16, v383_17, v383_18, by omega, by omega, by omega, by omega, by omega, by omega⟩, fun b hb => (hf383 _ (by omega)).trans (rfl)⟩)
  · skip
    have hj1 : j1 < rw pr := (la_lt hx1).1
    refine xW.ste (st' := [.int (nI (j1))]) (by show ([.int (oi (mRow rw cd (pr) (co)))] : List Value) = _; rw [hx1]; rfl) ?_
    refine x_if_ge F (tgt := 18) dM_noted_9 (by decide) (fun c2 => ?_) (fun c2 => ?_)
    · skip
      have c2 : 0 ≤ j1 := by
        exact (nI_leI (a := 0) (b := j1) (by omega) (by omega)).mp c2
      rw [hok] at hx1
      cases hx1
    · skip
      have c2 : j1 < 0 := by
        have z : ¬ (0 ≤ j1) := fun zz => c2 ((nI_leI (a := 0) (b := j1) (by omega) (by omega)).mpr zz)
        omega
      refine x_aload_n F 0 dM_noted_12 rfl rfl ?_
      refine x_iconst F (v := nI (1)) dM_noted_13 (by decide) ?_
      refine yVr (n := 1) (As := [.int (nI (1))]) (ci := 6) F kmM_152 kiM_refuse ksM_refuse knM kcM_refuse (by decide +kernel) dM_noted_14 (cM_refuse l (nx) M (a) th sg sn pr fk fp rws cd ds wc wd nn nE nC nK nO ln lF lC lT lO fn fC fP ak ac pt hT (nI (1))) rfl h0 rfl rfl (Nat.le_of_ble_eq_true rfl) ⟨Nat.le_of_ble_eq_true rfl, Nat.le_of_ble_eq_true rfl⟩ ⟨Nat.le_of_ble_eq_true rfl, Nat.le_of_ble_eq_true rfl⟩ (fun r' n' M384 hp => ?_)
      obtain ⟨hr', hn', hM384, hf384⟩ := hp
      rw [hn', hr']
      obtain ⟨v384_0, v384_1, v384_2, v384_3, v384_4, v384_5, v384_6, v384_7, v384_8, v384_9, v384_10, v384_11, v384_12, v384_13, v384_14, v384_15, v384_16, v384_17, v384_18, vb384_0, vb384_1, vb384_2, vb384_3, vb384_4, vb384_5⟩ := id hM384
      show xW p l e ({ frames := 1, cells := 0, slots := 0, locals := 25 } : Room) s m args below meth c D xcl (x_A M nx) 7 (MQ below (x_Q D xcl (x_A M nx) (mPost (some (.int (nI (0)))) nx M a ((nI (1))) sg sn pr fk fp rws cd ds wc wd nn nE nC nK nO ln lF lC lT lO fn fC fP ak ac pt)) args s 0 0 (x_A M nx)) 0 0 (nx) M384 17 [(0, .ref (a)), (1, .long (co)), (3, .int (x))] [.int (nI (0))]
      exact x_iret F hr dM_noted_17 (⟨rfl, rfl, ⟨v384_0, v384_1, v384_2, v384_3, v384_4, v384_5, v384_6, v384_7, v384_8, v384_9, v384_10, v384_11, v384_12, v384_13, v384_14, v384_15, v384_16, v384_17, v384_18, by omega, by omega, by omega, by omega, by omega, by omega⟩, fun b hb => (hf384 _ (by omega)).trans (rfl)⟩)
set_option maxHeartbeats 4000000 in
set_option maxRecDepth 100000 in
theorem cM_linked (l : Launch) (nx : Nat) (M : xH) (a : Nat) (th : Int32) (sg : Nat → Int32) (sn pr : Nat) (fk fp : Int32) (rws : Nat → Int32) (cd : Nat → Int64) (ds wc : Nat → Int32) (wd : Nat → Int64) (nn : Nat) (nE : Nat → Int32) (nC : Nat → Int64) (nK : Nat → Int32) (nO : Nat → Int64) (ln : Nat) (lF : Nat → Int32) (lC : Nat → Int64) (lT : Nat → Int32) (lO : Nat → Int64) (fn : Nat) (fC : Nat → Int64) (fP : Nat → Int32) (ak : Nat → Int64) (ac : Nat) (pt : Nat → Int32) (hT : mAt M a th sg sn pr fk fp rws cd ds wc wd nn nE nC nK nO ln lF lC lT lO fn fC fP ak ac pt) (rw : Nat → Nat) (hrw : mR rws rw) (aa : Int32) (co : Int64) (bb x : Int32) (hok : mOf rw cd aa co bb = true) : xC l xcl yM_linked (xw (Cond.code yM_linked bM_linked 8 (some .long))) ({ frames := 2, cells := 0, slots := 0, locals := 49 } : Room) [.ref (a), .int (aa), .long (co), .int (bb), .int (x)] nx M (mPost (some (.long (mLd ln lF lC lT lO aa co bb x))) nx M a ((nI (0))) sg sn pr fk fp rws cd ds wc wd nn nE nC nK nO ln lF lC lT lO fn fC fP ak ac pt) := by
  obtain ⟨h0, h1, h2, h3, h4, h5, h6, h7, h8, h9, h10, h11, h12, h13, h14, h15, h16, h17, h18, b1, b2, b3, b4, b5, b6⟩ := id hT
  refine yC (by decide) (Nat.le_of_ble_eq_true rfl) ?_
  intro p e s m args below meth c D F hr hn
  refine x_aload_n F 0 dM_linked_0 rfl rfl ?_
  refine x_iload_n F 1 dM_linked_1 rfl rfl ?_
  refine x_lload_n F 2 dM_linked_2 rfl rfl ?_
  refine x_iload F 3 dM_linked_3 rfl ?_
  refine yV (n := 3) (As := [.int (aa), .long (co), .int (bb)]) (ci := 6) F kmM_188 kiM_isOf ksM_isOf knM kcM_isOf (by decide +kernel) dM_linked_5 (cM_isOf l (nx) M (a) th sg sn pr fk fp rws cd ds wc wd nn nE nC nK nO ln lF lC lT lO fn fC fP ak ac pt hT rw hrw (aa) (co) (bb)) rfl h0 rfl rfl (Nat.le_of_ble_eq_true rfl) ⟨Nat.le_of_ble_eq_true rfl, Nat.le_of_ble_eq_true rfl⟩ ⟨Nat.le_of_ble_eq_true rfl, Nat.le_of_ble_eq_true rfl⟩ ?_
  refine x_if_ne F (tgt := 18) dM_linked_8 (by decide) (fun c1 => ?_) (fun c1 => ?_)
  · skip
    have c1 : (mOf rw cd (aa) (co) (bb)) = true := bI_1 c1
    refine x_aload_n F 0 dM_linked_18 rfl rfl ?_
    refine x_iconst F (v := nI (0)) dM_linked_19 (by decide) ?_
    refine x_put (ci := 6) (ty := .int) F 0 (x_in inM) tM tM_ok nM rfl (by decide) (x_m kfM_69) dM_linked_20 rfl (by decide +kernel) rfl rfl h0 (Nat.le_of_ble_eq_true rfl) ?_
    show xW p l e ({ frames := 2, cells := 0, slots := 0, locals := 49 } : Room) s m args below meth c D xcl (x_A M nx) 8 (MQ below (x_Q D xcl (x_A M nx) (mPost (some (.long (mLd ln lF lC lT lO aa co bb x))) nx M a ((nI (0))) sg sn pr fk fp rws cd ds wc wd nn nE nC nK nO ln lF lC lT lO fn fC fP ak ac pt)) args s 0 0 (x_A M nx)) 0 0 (nx) (x_up M (a) (.inr (6, [.int (nI (0)), .ref (a + 1), .int (nI (sn)), .int (nI (pr)), .int (fk), .int (fp), .ref (a + 2), .ref (a + 3), .ref (a + 4), .ref (a + 5), .ref (a + 6), .int (nI (nn)), .ref (a + 7), .ref (a + 8), .ref (a + 9), .ref (a + 10), .int (nI (ln)), .ref (a + 11), .ref (a + 12), .ref (a + 13), .ref (a + 14), .int (nI (fn)), .ref (a + 15), .ref (a + 16), .ref (a + 17), .int (nI (ac)), .ref (a + 18)]))) 23 [(0, .ref (a)), (1, .int (aa)), (2, .long (co)), (4, .int (bb)), (5, .int (x))] []
    have loop : ∀ (k : Nat) (i cq : Nat), i + k = ln → cq ≤ i → nt (mLk lF lC lT aa co bb) x ln 0 0 = nt (mLk lF lC lT aa co bb) x k i cq → xW p l e ({ frames := 2, cells := 0, slots := 0, locals := 49 } : Room) s m args below meth c D xcl (x_A M nx) 8 (MQ below (x_Q D xcl (x_A M nx) (mPost (some (.long (mLd ln lF lC lT lO aa co bb x))) nx M a ((nI (0))) sg sn pr fk fp rws cd ds wc wd nn nE nC nK nO ln lF lC lT lO fn fC fP ak ac pt)) args s 0 0 (x_A M nx)) 0 0 (nx) (x_up M (a) (.inr (6, [.int (nI (0)), .ref (a + 1), .int (nI (sn)), .int (nI (pr)), .int (fk), .int (fp), .ref (a + 2), .ref (a + 3), .ref (a + 4), .ref (a + 5), .ref (a + 6), .int (nI (nn)), .ref (a + 7), .ref (a + 8), .ref (a + 9), .ref (a + 10), .int (nI (ln)), .ref (a + 11), .ref (a + 12), .ref (a + 13), .ref (a + 14), .int (nI (fn)), .ref (a + 15), .ref (a + 16), .ref (a + 17), .int (nI (ac)), .ref (a + 18)]))) 30 [(7, .int (nI (i))), (6, .int (x - nI cq)), (0, .ref (a)), (1, .int (aa)), (2, .long (co)), (4, .int (bb)), (5, .int (x))] [] := by
      intro k
      induction k with
      | zero =>
        intro i cq hi hc hf
        refine x_iload F 0 dM_linked_30 rfl ?_
        refine x_aload_n F 2 dM_linked_32 rfl rfl ?_
        refine x_get (ci := 6) F 16 (x_in inM) rfl (by decide) (x_m kfM_145) dM_linked_33 x_up_s rfl ?_
        refine x_icmp_ge F (tgt := 94) dM_linked_36 (by decide) (fun c2 => ?_) (fun c2 => ?_)
        · skip
          have c2 : ln ≤ i := by
            exact (nI_leI (a := ln) (b := i) (by omega) (by omega)).mp c2
          refine x_lconst F (v := 0) dM_linked_94 (by decide) ?_
          exact x_lret F hr dM_linked_95 (by rw [mLd, show nt (mLk lF lC lT aa co bb) x ln 0 0 = none from hf]; exact ⟨rfl, rfl, ⟨x_up_s, (x_up_k h1 (by omega)), (x_up_k h2 (by omega)), (x_up_k h3 (by omega)), (x_up_k h4 (by omega)), (x_up_k h5 (by omega)), (x_up_k h6 (by omega)), (x_up_k h7 (by omega)), (x_up_k h8 (by omega)), (x_up_k h9 (by omega)), (x_up_k h10 (by omega)), (x_up_k h11 (by omega)), (x_up_k h12 (by omega)), (x_up_k h13 (by omega)), (x_up_k h14 (by omega)), (x_up_k h15 (by omega)), (x_up_k h16 (by omega)), (x_up_k h17 (by omega)), (x_up_k h18 (by omega)), by omega, by omega, by omega, by omega, by omega, by omega⟩, fun b hb => (x_up_n (by omega)).trans (rfl)⟩)
        · skip
          have c2 : i < ln := by
            have z : ¬ (ln ≤ i) := fun zz => c2 ((nI_leI (a := ln) (b := i) (by omega) (by omega)).mpr zz)
            omega
          exact absurd c2 (by omega)
      | succ k ih =>
        intro i cq hi hc hf
        refine x_iload F 0 dM_linked_30 rfl ?_
        refine x_aload_n F 2 dM_linked_32 rfl rfl ?_
        refine x_get (ci := 6) F 16 (x_in inM) rfl (by decide) (x_m kfM_145) dM_linked_33 x_up_s rfl ?_
        refine x_icmp_ge F (tgt := 94) dM_linked_36 (by decide) (fun c3 => ?_) (fun c3 => ?_)
        · skip
          have c3 : ln ≤ i := by
            exact (nI_leI (a := ln) (b := i) (by omega) (by omega)).mp c3
          exact absurd c3 (by omega)
        · skip
          have c3 : i < ln := by
            have z : ¬ (ln ≤ i) := fun zz => c3 ((nI_leI (a := ln) (b := i) (by omega) (by omega)).mpr zz)
            omega
          refine x_aload_n F 2 dM_linked_39 rfl rfl ?_
          refine x_iload F 0 dM_linked_40 rfl ?_
          refine x_iload_n F 3 dM_linked_42 rfl rfl ?_
          refine x_lload_n F 4 dM_linked_43 rfl rfl ?_
          refine x_iload F 5 dM_linked_44 rfl ?_
          refine yV (n := 4) (As := [.int (nI (i)), .int (aa), .long (co), .int (bb)]) (ci := 6) F kmM_184 kiM_isLink ksM_isLink knM kcM_isLink (by decide +kernel) dM_linked_46 (cM_isLink l (nx) (x_up M (a) (.inr (6, [.int (nI (0)), .ref (a + 1), .int (nI (sn)), .int (nI (pr)), .int (fk), .int (fp), .ref (a + 2), .ref (a + 3), .ref (a + 4), .ref (a + 5), .ref (a + 6), .int (nI (nn)), .ref (a + 7), .ref (a + 8), .ref (a + 9), .ref (a + 10), .int (nI (ln)), .ref (a + 11), .ref (a + 12), .ref (a + 13), .ref (a + 14), .int (nI (fn)), .ref (a + 15), .ref (a + 16), .ref (a + 17), .int (nI (ac)), .ref (a + 18)]))) (a) (nI (0)) sg sn pr fk fp rws cd ds wc wd nn nE nC nK nO ln lF lC lT lO fn fC fP ak ac pt ⟨x_up_s, (x_up_k h1 (by omega)), (x_up_k h2 (by omega)), (x_up_k h3 (by omega)), (x_up_k h4 (by omega)), (x_up_k h5 (by omega)), (x_up_k h6 (by omega)), (x_up_k h7 (by omega)), (x_up_k h8 (by omega)), (x_up_k h9 (by omega)), (x_up_k h10 (by omega)), (x_up_k h11 (by omega)), (x_up_k h12 (by omega)), (x_up_k h13 (by omega)), (x_up_k h14 (by omega)), (x_up_k h15 (by omega)), (x_up_k h16 (by omega)), (x_up_k h17 (by omega)), (x_up_k h18 (by omega)), by omega, by omega, by omega, by omega, by omega, by omega⟩ i (by omega) aa co bb) rfl x_up_s rfl rfl (Nat.le_of_ble_eq_true rfl) ⟨Nat.le_of_ble_eq_true rfl, Nat.le_of_ble_eq_true rfl⟩ ⟨Nat.le_of_ble_eq_true rfl, Nat.le_of_ble_eq_true rfl⟩ ?_
          refine x_if_eq F (tgt := 65) dM_linked_49 (by decide) (fun c4 => ?_) (fun c4 => ?_)
          · skip
            have c4 : (mLk lF lC lT aa co bb i) = false := bI_0 c4
            refine x_iload F 1 dM_linked_65 rfl ?_
            refine x_aload_n F 2 dM_linked_67 rfl rfl ?_
            refine x_iload F 0 dM_linked_68 rfl ?_
            refine x_iload_n F 3 dM_linked_70 rfl rfl ?_
            refine x_lload_n F 4 dM_linked_71 rfl rfl ?_
            refine x_iload F 5 dM_linked_72 rfl ?_
            refine yV (n := 4) (As := [.int (nI (i)), .int (aa), .long (co), .int (bb)]) (ci := 6) F kmM_184 kiM_isLink ksM_isLink knM kcM_isLink (by decide +kernel) dM_linked_74 (cM_isLink l (nx) (x_up M (a) (.inr (6, [.int (nI (0)), .ref (a + 1), .int (nI (sn)), .int (nI (pr)), .int (fk), .int (fp), .ref (a + 2), .ref (a + 3), .ref (a + 4), .ref (a + 5), .ref (a + 6), .int (nI (nn)), .ref (a + 7), .ref (a + 8), .ref (a + 9), .ref (a + 10), .int (nI (ln)), .ref (a + 11), .ref (a + 12), .ref (a + 13), .ref (a + 14), .int (nI (fn)), .ref (a + 15), .ref (a + 16), .ref (a + 17), .int (nI (ac)), .ref (a + 18)]))) (a) (nI (0)) sg sn pr fk fp rws cd ds wc wd nn nE nC nK nO ln lF lC lT lO fn fC fP ak ac pt ⟨x_up_s, (x_up_k h1 (by omega)), (x_up_k h2 (by omega)), (x_up_k h3 (by omega)), (x_up_k h4 (by omega)), (x_up_k h5 (by omega)), (x_up_k h6 (by omega)), (x_up_k h7 (by omega)), (x_up_k h8 (by omega)), (x_up_k h9 (by omega)), (x_up_k h10 (by omega)), (x_up_k h11 (by omega)), (x_up_k h12 (by omega)), (x_up_k h13 (by omega)), (x_up_k h14 (by omega)), (x_up_k h15 (by omega)), (x_up_k h16 (by omega)), (x_up_k h17 (by omega)), (x_up_k h18 (by omega)), by omega, by omega, by omega, by omega, by omega, by omega⟩ i (by omega) aa co bb) rfl x_up_s rfl rfl (Nat.le_of_ble_eq_true rfl) ⟨Nat.le_of_ble_eq_true rfl, Nat.le_of_ble_eq_true rfl⟩ ⟨Nat.le_of_ble_eq_true rfl, Nat.le_of_ble_eq_true rfl⟩ ?_
            refine x_if_eq F (tgt := 84) dM_linked_77 (by decide) (fun c5 => ?_) (fun c5 => ?_)
            · skip
              have c5 : (mLk lF lC lT aa co bb i) = false := bI_0 c5
              refine x_iconst F (v := nI (0)) dM_linked_84 (by decide) ?_
              refine x_isub F dM_linked_85 ?_
              refine x_istore F [(6, .int ((x - nI cq) - (nI (0)))), (7, .int (nI (i))), (0, .ref (a)), (1, .int (aa)), (2, .long (co)), (4, .int (bb)), (5, .int (x))] dM_linked_86 (by decide) rfl ?_
              refine x_iinc F 1 [(7, .int (nI (i + 1))), (6, .int ((x - nI cq) - (nI (0)))), (0, .ref (a)), (1, .int (aa)), (2, .long (co)), (4, .int (bb)), (5, .int (x))] dM_linked_88 rfl (nI_add (i) 1) (by decide) rfl ?_
              refine x_goto F (tgt := 30) dM_linked_91 (by decide) ?_
              exact xW.lve (lv' := [(7, .int (nI (i + 1))), (6, .int (x - nI cq)), (0, .ref (a)), (1, .int (aa)), (2, .long (co)), (4, .int (bb)), (5, .int (x))]) (by rw [lf_0]) (ih (i + 1) cq (by omega) (by omega) (by rw [hf, nt_s, if_neg (by rw [c5]; decide)]))
            · skip
              have c5 : (mLk lF lC lT aa co bb i) = true := bI_1 c5
              rw [c4] at c5
              cases c5
          · skip
            have c4 : (mLk lF lC lT aa co bb i) = true := bI_1 c4
            refine x_iload F 1 dM_linked_52 rfl ?_
            refine x_if_ne F (tgt := 65) dM_linked_54 (by decide) (fun c6 => ?_) (fun c6 => ?_)
            · skip
              refine x_iload F 1 dM_linked_65 rfl ?_
              refine x_aload_n F 2 dM_linked_67 rfl rfl ?_
              refine x_iload F 0 dM_linked_68 rfl ?_
              refine x_iload_n F 3 dM_linked_70 rfl rfl ?_
              refine x_lload_n F 4 dM_linked_71 rfl rfl ?_
              refine x_iload F 5 dM_linked_72 rfl ?_
              refine yV (n := 4) (As := [.int (nI (i)), .int (aa), .long (co), .int (bb)]) (ci := 6) F kmM_184 kiM_isLink ksM_isLink knM kcM_isLink (by decide +kernel) dM_linked_74 (cM_isLink l (nx) (x_up M (a) (.inr (6, [.int (nI (0)), .ref (a + 1), .int (nI (sn)), .int (nI (pr)), .int (fk), .int (fp), .ref (a + 2), .ref (a + 3), .ref (a + 4), .ref (a + 5), .ref (a + 6), .int (nI (nn)), .ref (a + 7), .ref (a + 8), .ref (a + 9), .ref (a + 10), .int (nI (ln)), .ref (a + 11), .ref (a + 12), .ref (a + 13), .ref (a + 14), .int (nI (fn)), .ref (a + 15), .ref (a + 16), .ref (a + 17), .int (nI (ac)), .ref (a + 18)]))) (a) (nI (0)) sg sn pr fk fp rws cd ds wc wd nn nE nC nK nO ln lF lC lT lO fn fC fP ak ac pt ⟨x_up_s, (x_up_k h1 (by omega)), (x_up_k h2 (by omega)), (x_up_k h3 (by omega)), (x_up_k h4 (by omega)), (x_up_k h5 (by omega)), (x_up_k h6 (by omega)), (x_up_k h7 (by omega)), (x_up_k h8 (by omega)), (x_up_k h9 (by omega)), (x_up_k h10 (by omega)), (x_up_k h11 (by omega)), (x_up_k h12 (by omega)), (x_up_k h13 (by omega)), (x_up_k h14 (by omega)), (x_up_k h15 (by omega)), (x_up_k h16 (by omega)), (x_up_k h17 (by omega)), (x_up_k h18 (by omega)), by omega, by omega, by omega, by omega, by omega, by omega⟩ i (by omega) aa co bb) rfl x_up_s rfl rfl (Nat.le_of_ble_eq_true rfl) ⟨Nat.le_of_ble_eq_true rfl, Nat.le_of_ble_eq_true rfl⟩ ⟨Nat.le_of_ble_eq_true rfl, Nat.le_of_ble_eq_true rfl⟩ ?_
              refine x_if_eq F (tgt := 84) dM_linked_77 (by decide) (fun c7 => ?_) (fun c7 => ?_)
              · skip
                have c7 : (mLk lF lC lT aa co bb i) = false := bI_0 c7
                refine x_iconst F (v := nI (0)) dM_linked_84 (by decide) ?_
                refine x_isub F dM_linked_85 ?_
                refine x_istore F [(6, .int ((x - nI cq) - (nI (0)))), (7, .int (nI (i))), (0, .ref (a)), (1, .int (aa)), (2, .long (co)), (4, .int (bb)), (5, .int (x))] dM_linked_86 (by decide) rfl ?_
                refine x_iinc F 1 [(7, .int (nI (i + 1))), (6, .int ((x - nI cq) - (nI (0)))), (0, .ref (a)), (1, .int (aa)), (2, .long (co)), (4, .int (bb)), (5, .int (x))] dM_linked_88 rfl (nI_add (i) 1) (by decide) rfl ?_
                refine x_goto F (tgt := 30) dM_linked_91 (by decide) ?_
                exact xW.lve (lv' := [(7, .int (nI (i + 1))), (6, .int (x - nI cq)), (0, .ref (a)), (1, .int (aa)), (2, .long (co)), (4, .int (bb)), (5, .int (x))]) (by rw [lf_0]) (ih (i + 1) cq (by omega) (by omega) (by rw [hf, nt_s, if_neg (by rw [c7]; decide)]))
              · skip
                have c7 : (mLk lF lC lT aa co bb i) = true := bI_1 c7
                refine x_iconst F (v := nI (1)) dM_linked_80 (by decide) ?_
                refine x_goto F (tgt := 85) dM_linked_81 (by decide) ?_
                refine x_isub F dM_linked_85 ?_
                refine x_istore F [(6, .int ((x - nI cq) - (nI (1)))), (7, .int (nI (i))), (0, .ref (a)), (1, .int (aa)), (2, .long (co)), (4, .int (bb)), (5, .int (x))] dM_linked_86 (by decide) rfl ?_
                refine x_iinc F 1 [(7, .int (nI (i + 1))), (6, .int ((x - nI cq) - (nI (1)))), (0, .ref (a)), (1, .int (aa)), (2, .long (co)), (4, .int (bb)), (5, .int (x))] dM_linked_88 rfl (nI_add (i) 1) (by decide) rfl ?_
                refine x_goto F (tgt := 30) dM_linked_91 (by decide) ?_
                exact xW.lve (lv' := [(7, .int (nI (i + 1))), (6, .int (x - nI (cq + 1))), (0, .ref (a)), (1, .int (aa)), (2, .long (co)), (4, .int (bb)), (5, .int (x))]) (by rw [lf_1]) (ih (i + 1) (cq + 1) (by omega) (by omega) (by rw [hf, nt_s, if_pos c7, if_neg (fun z => c6 (lf_e.mpr z))]))
            · skip
              refine x_aload_n F 2 dM_linked_57 rfl rfl ?_
              refine x_get (ci := 6) F 20 (x_in inM) rfl (by decide) (x_m kfM_54) dM_linked_58 x_up_s rfl ?_
              refine x_iload F 0 dM_linked_61 rfl ?_
              refine x_lald F dM_linked_63 (x_up_k h14 (by omega)) (pk_in (i) (60) (by omega)) ?_
              refine xW.tol ((lO) (i)) (by rw [nI_clamp (by omega)]) ?_
              exact x_lret F hr dM_linked_64 (by rw [mLd, show nt (mLk lF lC lT aa co bb) x ln 0 0 = some i from by rw [hf, nt_s, if_pos c4, if_pos (lf_e.mp c6)]]; exact ⟨rfl, rfl, ⟨x_up_s, (x_up_k h1 (by omega)), (x_up_k h2 (by omega)), (x_up_k h3 (by omega)), (x_up_k h4 (by omega)), (x_up_k h5 (by omega)), (x_up_k h6 (by omega)), (x_up_k h7 (by omega)), (x_up_k h8 (by omega)), (x_up_k h9 (by omega)), (x_up_k h10 (by omega)), (x_up_k h11 (by omega)), (x_up_k h12 (by omega)), (x_up_k h13 (by omega)), (x_up_k h14 (by omega)), (x_up_k h15 (by omega)), (x_up_k h16 (by omega)), (x_up_k h17 (by omega)), (x_up_k h18 (by omega)), by omega, by omega, by omega, by omega, by omega, by omega⟩, fun b hb => (x_up_n (by omega)).trans (rfl)⟩)
    refine x_iload F 4 dM_linked_23 rfl ?_
    refine x_istore F [(6, .int (x)), (0, .ref (a)), (1, .int (aa)), (2, .long (co)), (4, .int (bb)), (5, .int (x))] dM_linked_25 (by decide) rfl ?_
    refine x_iconst F (v := nI (0)) dM_linked_27 (by decide) ?_
    refine x_istore F [(7, .int (nI (0))), (6, .int (x)), (0, .ref (a)), (1, .int (aa)), (2, .long (co)), (4, .int (bb)), (5, .int (x))] dM_linked_28 (by decide) rfl ?_
    exact xW.lve (lv' := [(7, .int (nI 0)), (6, .int (x - nI 0)), (0, .ref (a)), (1, .int (aa)), (2, .long (co)), (4, .int (bb)), (5, .int (x))]) (by rw [show nI 0 = (0 : Int32) from rfl, Int32.sub_zero]) (loop ln 0 0 (by omega) (by omega) rfl)
  · skip
    have c1 : (mOf rw cd (aa) (co) (bb)) = false := bI_0 c1
    rw [hok] at c1
    cases c1
set_option maxHeartbeats 4000000 in
set_option maxRecDepth 100000 in
theorem cM_linkedT (l : Launch) (nx : Nat) (M : xH) (a : Nat) (th : Int32) (sg : Nat → Int32) (sn pr : Nat) (fk fp : Int32) (rws : Nat → Int32) (cd : Nat → Int64) (ds wc : Nat → Int32) (wd : Nat → Int64) (nn : Nat) (nE : Nat → Int32) (nC : Nat → Int64) (nK : Nat → Int32) (nO : Nat → Int64) (ln : Nat) (lF : Nat → Int32) (lC : Nat → Int64) (lT : Nat → Int32) (lO : Nat → Int64) (fn : Nat) (fC : Nat → Int64) (fP : Nat → Int32) (ak : Nat → Int64) (ac : Nat) (pt : Nat → Int32) (hT : mAt M a th sg sn pr fk fp rws cd ds wc wd nn nE nC nK nO ln lF lC lT lO fn fC fP ak ac pt) (rw : Nat → Nat) (hrw : mR rws rw) (aa : Int32) (co : Int64) (bb x : Int32) (hok : mOf rw cd aa co bb = false) : xC l xcl yM_linked (xw (Cond.code yM_linked bM_linked 8 (some .long))) ({ frames := 2, cells := 0, slots := 0, locals := 49 } : Room) [.ref (a), .int (aa), .long (co), .int (bb), .int (x)] nx M (mPost (some (.long (0))) nx M a ((nI (1))) sg sn pr fk fp rws cd ds wc wd nn nE nC nK nO ln lF lC lT lO fn fC fP ak ac pt) := by
  obtain ⟨h0, h1, h2, h3, h4, h5, h6, h7, h8, h9, h10, h11, h12, h13, h14, h15, h16, h17, h18, b1, b2, b3, b4, b5, b6⟩ := id hT
  refine yC (by decide) (Nat.le_of_ble_eq_true rfl) ?_
  intro p e s m args below meth c D F hr hn
  refine x_aload_n F 0 dM_linked_0 rfl rfl ?_
  refine x_iload_n F 1 dM_linked_1 rfl rfl ?_
  refine x_lload_n F 2 dM_linked_2 rfl rfl ?_
  refine x_iload F 3 dM_linked_3 rfl ?_
  refine yV (n := 3) (As := [.int (aa), .long (co), .int (bb)]) (ci := 6) F kmM_188 kiM_isOf ksM_isOf knM kcM_isOf (by decide +kernel) dM_linked_5 (cM_isOf l (nx) M (a) th sg sn pr fk fp rws cd ds wc wd nn nE nC nK nO ln lF lC lT lO fn fC fP ak ac pt hT rw hrw (aa) (co) (bb)) rfl h0 rfl rfl (Nat.le_of_ble_eq_true rfl) ⟨Nat.le_of_ble_eq_true rfl, Nat.le_of_ble_eq_true rfl⟩ ⟨Nat.le_of_ble_eq_true rfl, Nat.le_of_ble_eq_true rfl⟩ ?_
  refine x_if_ne F (tgt := 18) dM_linked_8 (by decide) (fun c1 => ?_) (fun c1 => ?_)
  · skip
    have c1 : (mOf rw cd (aa) (co) (bb)) = true := bI_1 c1
    rw [hok] at c1
    cases c1
  · skip
    have c1 : (mOf rw cd (aa) (co) (bb)) = false := bI_0 c1
    refine x_aload_n F 0 dM_linked_11 rfl rfl ?_
    refine x_iconst F (v := nI (1)) dM_linked_12 (by decide) ?_
    refine yVr (n := 1) (As := [.int (nI (1))]) (ci := 6) F kmM_152 kiM_refuse ksM_refuse knM kcM_refuse (by decide +kernel) dM_linked_13 (cM_refuse l (nx) M (a) th sg sn pr fk fp rws cd ds wc wd nn nE nC nK nO ln lF lC lT lO fn fC fP ak ac pt hT (nI (1))) rfl h0 rfl rfl (Nat.le_of_ble_eq_true rfl) ⟨Nat.le_of_ble_eq_true rfl, Nat.le_of_ble_eq_true rfl⟩ ⟨Nat.le_of_ble_eq_true rfl, Nat.le_of_ble_eq_true rfl⟩ (fun r' n' M386 hp => ?_)
    obtain ⟨hr', hn', hM386, hf386⟩ := hp
    rw [hn', hr']
    obtain ⟨v386_0, v386_1, v386_2, v386_3, v386_4, v386_5, v386_6, v386_7, v386_8, v386_9, v386_10, v386_11, v386_12, v386_13, v386_14, v386_15, v386_16, v386_17, v386_18, vb386_0, vb386_1, vb386_2, vb386_3, vb386_4, vb386_5⟩ := id hM386
    show xW p l e ({ frames := 2, cells := 0, slots := 0, locals := 49 } : Room) s m args below meth c D xcl (x_A M nx) 8 (MQ below (x_Q D xcl (x_A M nx) (mPost (some (.long (0))) nx M a ((nI (1))) sg sn pr fk fp rws cd ds wc wd nn nE nC nK nO ln lF lC lT lO fn fC fP ak ac pt)) args s 0 0 (x_A M nx)) 0 0 (nx) M386 16 [(0, .ref (a)), (1, .int (aa)), (2, .long (co)), (4, .int (bb)), (5, .int (x))] [.int (nI (0))]
    refine x_i2l F dM_linked_16 ?_
    refine xW.tol (0) (by decide) ?_
    exact x_lret F hr dM_linked_17 (⟨rfl, rfl, ⟨v386_0, v386_1, v386_2, v386_3, v386_4, v386_5, v386_6, v386_7, v386_8, v386_9, v386_10, v386_11, v386_12, v386_13, v386_14, v386_15, v386_16, v386_17, v386_18, by omega, by omega, by omega, by omega, by omega, by omega⟩, fun b hb => (hf386 _ (by omega)).trans (rfl)⟩)
set_option maxHeartbeats 4000000 in
set_option maxRecDepth 100000 in
theorem cM_became (l : Launch) (nx : Nat) (M : xH) (a : Nat) (th : Int32) (sg : Nat → Int32) (sn pr : Nat) (fk fp : Int32) (rws : Nat → Int32) (cd : Nat → Int64) (ds wc : Nat → Int32) (wd : Nat → Int64) (nn : Nat) (nE : Nat → Int32) (nC : Nat → Int64) (nK : Nat → Int32) (nO : Nat → Int64) (ln : Nat) (lF : Nat → Int32) (lC : Nat → Int64) (lT : Nat → Int32) (lO : Nat → Int64) (fn : Nat) (fC : Nat → Int64) (fP : Nat → Int32) (ak : Nat → Int64) (ac : Nat) (pt : Nat → Int32) (hT : mAt M a th sg sn pr fk fp rws cd ds wc wd nn nE nC nK nO ln lF lC lT lO fn fC fP ak ac pt) (rw : Nat → Nat) (hrw : mR rws rw) (aa : Int32) (co : Int64) (bb : Int32) (hok : mOf rw cd aa co bb = true) : xC l xcl yM_became (xw (Cond.code yM_became bM_became 8 (some .int))) ({ frames := 2, cells := 0, slots := 0, locals := 51 } : Room) [.ref (a), .int (aa), .long (co), .int (bb)] nx M (mPost (some (.int (nI (mBc ln lF lC lT lO aa co bb)))) nx M a ((nI (0))) sg sn pr fk fp rws cd ds wc wd nn nE nC nK nO ln lF lC lT lO fn fC fP ak ac pt) := by
  obtain ⟨h0, h1, h2, h3, h4, h5, h6, h7, h8, h9, h10, h11, h12, h13, h14, h15, h16, h17, h18, b1, b2, b3, b4, b5, b6⟩ := id hT
  refine yC (by decide) (Nat.le_of_ble_eq_true rfl) ?_
  intro p e s m args below meth c D F hr hn
  refine x_aload_n F 0 dM_became_0 rfl rfl ?_
  refine x_iload_n F 1 dM_became_1 rfl rfl ?_
  refine x_lload_n F 2 dM_became_2 rfl rfl ?_
  refine x_iload F 3 dM_became_3 rfl ?_
  refine yV (n := 3) (As := [.int (aa), .long (co), .int (bb)]) (ci := 6) F kmM_188 kiM_isOf ksM_isOf knM kcM_isOf (by decide +kernel) dM_became_5 (cM_isOf l (nx) M (a) th sg sn pr fk fp rws cd ds wc wd nn nE nC nK nO ln lF lC lT lO fn fC fP ak ac pt hT rw hrw (aa) (co) (bb)) rfl h0 rfl rfl (Nat.le_of_ble_eq_true rfl) ⟨Nat.le_of_ble_eq_true rfl, Nat.le_of_ble_eq_true rfl⟩ ⟨Nat.le_of_ble_eq_true rfl, Nat.le_of_ble_eq_true rfl⟩ ?_
  refine x_if_ne F (tgt := 17) dM_became_8 (by decide) (fun c1 => ?_) (fun c1 => ?_)
  · skip
    have c1 : (mOf rw cd (aa) (co) (bb)) = true := bI_1 c1
    refine x_aload_n F 0 dM_became_17 rfl rfl ?_
    refine x_iconst F (v := nI (0)) dM_became_18 (by decide) ?_
    refine x_put (ci := 6) (ty := .int) F 0 (x_in inM) tM tM_ok nM rfl (by decide) (x_m kfM_69) dM_became_19 rfl (by decide +kernel) rfl rfl h0 (Nat.le_of_ble_eq_true rfl) ?_
    show xW p l e ({ frames := 2, cells := 0, slots := 0, locals := 51 } : Room) s m args below meth c D xcl (x_A M nx) 8 (MQ below (x_Q D xcl (x_A M nx) (mPost (some (.int (nI (mBc ln lF lC lT lO aa co bb)))) nx M a ((nI (0))) sg sn pr fk fp rws cd ds wc wd nn nE nC nK nO ln lF lC lT lO fn fC fP ak ac pt)) args s 0 0 (x_A M nx)) 0 0 (nx) (x_up M (a) (.inr (6, [.int (nI (0)), .ref (a + 1), .int (nI (sn)), .int (nI (pr)), .int (fk), .int (fp), .ref (a + 2), .ref (a + 3), .ref (a + 4), .ref (a + 5), .ref (a + 6), .int (nI (nn)), .ref (a + 7), .ref (a + 8), .ref (a + 9), .ref (a + 10), .int (nI (ln)), .ref (a + 11), .ref (a + 12), .ref (a + 13), .ref (a + 14), .int (nI (fn)), .ref (a + 15), .ref (a + 16), .ref (a + 17), .int (nI (ac)), .ref (a + 18)]))) 22 [(0, .ref (a)), (1, .int (aa)), (2, .long (co)), (4, .int (bb))] []
    refine x_aload_n F 0 dM_became_22 rfl rfl ?_
    refine x_iload_n F 1 dM_became_23 rfl rfl ?_
    refine x_lload_n F 2 dM_became_24 rfl rfl ?_
    refine x_iload F 3 dM_became_25 rfl ?_
    refine yV (n := 3) (As := [.int (aa), .long (co), .int (bb)]) (ci := 6) F kmM_192 kiM_linksOf ksM_linksOf knM kcM_linksOf (by decide +kernel) dM_became_27 (cM_linksOf l (nx) (x_up M (a) (.inr (6, [.int (nI (0)), .ref (a + 1), .int (nI (sn)), .int (nI (pr)), .int (fk), .int (fp), .ref (a + 2), .ref (a + 3), .ref (a + 4), .ref (a + 5), .ref (a + 6), .int (nI (nn)), .ref (a + 7), .ref (a + 8), .ref (a + 9), .ref (a + 10), .int (nI (ln)), .ref (a + 11), .ref (a + 12), .ref (a + 13), .ref (a + 14), .int (nI (fn)), .ref (a + 15), .ref (a + 16), .ref (a + 17), .int (nI (ac)), .ref (a + 18)]))) (a) (nI (0)) sg sn pr fk fp rws cd ds wc wd nn nE nC nK nO ln lF lC lT lO fn fC fP ak ac pt ⟨x_up_s, (x_up_k h1 (by omega)), (x_up_k h2 (by omega)), (x_up_k h3 (by omega)), (x_up_k h4 (by omega)), (x_up_k h5 (by omega)), (x_up_k h6 (by omega)), (x_up_k h7 (by omega)), (x_up_k h8 (by omega)), (x_up_k h9 (by omega)), (x_up_k h10 (by omega)), (x_up_k h11 (by omega)), (x_up_k h12 (by omega)), (x_up_k h13 (by omega)), (x_up_k h14 (by omega)), (x_up_k h15 (by omega)), (x_up_k h16 (by omega)), (x_up_k h17 (by omega)), (x_up_k h18 (by omega)), by omega, by omega, by omega, by omega, by omega, by omega⟩ (aa) (co) (bb)) rfl x_up_s rfl rfl (Nat.le_of_ble_eq_true rfl) ⟨Nat.le_of_ble_eq_true rfl, Nat.le_of_ble_eq_true rfl⟩ ⟨Nat.le_of_ble_eq_true rfl, Nat.le_of_ble_eq_true rfl⟩ ?_
    refine x_istore F [(5, .int (nI (ct (mLk lF lC lT (aa) (co) (bb)) ln 0 0))), (0, .ref (a)), (1, .int (aa)), (2, .long (co)), (4, .int (bb))] dM_became_30 (by decide) rfl ?_
    have loop : ∀ (k : Nat) (i : Nat), i + k = ln → xW p l e ({ frames := 2, cells := 0, slots := 0, locals := 51 } : Room) s m args below meth c D xcl (x_A M nx) 8 (MQ below (x_Q D xcl (x_A M nx) (mPost (some (.int (nI (mBc ln lF lC lT lO aa co bb)))) nx M a ((nI (0))) sg sn pr fk fp rws cd ds wc wd nn nE nC nK nO ln lF lC lT lO fn fC fP ak ac pt)) args s 0 0 (x_A M nx)) 0 0 (nx) (x_up M (a) (.inr (6, [.int (nI (0)), .ref (a + 1), .int (nI (sn)), .int (nI (pr)), .int (fk), .int (fp), .ref (a + 2), .ref (a + 3), .ref (a + 4), .ref (a + 5), .ref (a + 6), .int (nI (nn)), .ref (a + 7), .ref (a + 8), .ref (a + 9), .ref (a + 10), .int (nI (ln)), .ref (a + 11), .ref (a + 12), .ref (a + 13), .ref (a + 14), .int (nI (fn)), .ref (a + 15), .ref (a + 16), .ref (a + 17), .int (nI (ac)), .ref (a + 18)]))) 38 [(7, .int (nI (i))), (6, .int (bI (la (mSh ln lF lC lT lO aa co bb) i).isSome)), (5, .int (nI (ct (mLk lF lC lT aa co bb) ln 0 0))), (0, .ref (a)), (1, .int (aa)), (2, .long (co)), (4, .int (bb))] [] := by
      intro k
      induction k with
      | zero =>
        intro i hi
        refine x_iload F 0 dM_became_38 rfl ?_
        refine x_aload_n F 3 dM_became_40 rfl rfl ?_
        refine x_get (ci := 6) F 16 (x_in inM) rfl (by decide) (x_m kfM_145) dM_became_41 x_up_s rfl ?_
        refine x_icmp_ge F (tgt := 96) dM_became_44 (by decide) (fun c2 => ?_) (fun c2 => ?_)
        · skip
          have c2 : ln ≤ i := by
            exact (nI_leI (a := ln) (b := i) (by omega) (by omega)).mp c2
          have hct : ct (mLk lF lC lT aa co bb) ln 0 0 ≤ _ := ct_le _ _ _ _
          refine x_iload F 2 dM_became_96 rfl ?_
          refine x_if_ne F (tgt := 105) dM_became_98 (by decide) (fun c3 => ?_) (fun c3 => ?_)
          · skip
            have c3 : ct (mLk lF lC lT aa co bb) ln 0 0 ≠ 0 := by
              have z : ¬ (ct (mLk lF lC lT aa co bb) ln 0 0 = 0) := fun zz => c3 ((nI_eq (a := ct (mLk lF lC lT aa co bb) ln 0 0) (b := 0) (by omega) (by omega)).mpr zz)
              omega
            refine x_iload F 2 dM_became_105 rfl ?_
            refine x_iconst F (v := nI (1)) dM_became_107 (by decide) ?_
            refine x_icmp_ne F (tgt := 124) dM_became_108 (by decide) (fun c4 => ?_) (fun c4 => ?_)
            · skip
              have c4 : ct (mLk lF lC lT aa co bb) ln 0 0 ≠ 1 := by
                have z : ¬ (ct (mLk lF lC lT aa co bb) ln 0 0 = 1) := fun zz => c4 ((nI_eq (a := ct (mLk lF lC lT aa co bb) ln 0 0) (b := 1) (by omega) (by omega)).mpr zz)
                omega
              refine x_iload F 1 dM_became_124 rfl ?_
              refine x_if_eq F (tgt := 133) dM_became_126 (by decide) (fun c5 => ?_) (fun c5 => ?_)
              · skip
                have c5 : ((la (mSh ln lF lC lT lO aa co bb) i).isSome) = false := bI_0 c5
                refine x_iconst F (v := nI (2)) dM_became_133 (by decide) ?_
                exact x_iret F hr dM_became_134 (by rw [mBc, bec, if_neg c3, if_neg c4, show (la (mSh ln lF lC lT lO aa co bb) ln).isSome = false from by have z := c5; rw [show i = ln by omega] at z; exact z]; exact ⟨rfl, rfl, ⟨x_up_s, (x_up_k h1 (by omega)), (x_up_k h2 (by omega)), (x_up_k h3 (by omega)), (x_up_k h4 (by omega)), (x_up_k h5 (by omega)), (x_up_k h6 (by omega)), (x_up_k h7 (by omega)), (x_up_k h8 (by omega)), (x_up_k h9 (by omega)), (x_up_k h10 (by omega)), (x_up_k h11 (by omega)), (x_up_k h12 (by omega)), (x_up_k h13 (by omega)), (x_up_k h14 (by omega)), (x_up_k h15 (by omega)), (x_up_k h16 (by omega)), (x_up_k h17 (by omega)), (x_up_k h18 (by omega)), by omega, by omega, by omega, by omega, by omega, by omega⟩, fun b hb => (x_up_n (by omega)).trans (rfl)⟩)
              · skip
                have c5 : ((la (mSh ln lF lC lT lO aa co bb) i).isSome) = true := bI_1 c5
                refine x_iconst F (v := nI (4)) dM_became_129 (by decide) ?_
                refine x_goto F (tgt := 134) dM_became_130 (by decide) ?_
                exact x_iret F hr dM_became_134 (by rw [mBc, bec, if_neg c3, if_neg c4, show (la (mSh ln lF lC lT lO aa co bb) ln).isSome = true from by have z := c5; rw [show i = ln by omega] at z; exact z]; exact ⟨rfl, rfl, ⟨x_up_s, (x_up_k h1 (by omega)), (x_up_k h2 (by omega)), (x_up_k h3 (by omega)), (x_up_k h4 (by omega)), (x_up_k h5 (by omega)), (x_up_k h6 (by omega)), (x_up_k h7 (by omega)), (x_up_k h8 (by omega)), (x_up_k h9 (by omega)), (x_up_k h10 (by omega)), (x_up_k h11 (by omega)), (x_up_k h12 (by omega)), (x_up_k h13 (by omega)), (x_up_k h14 (by omega)), (x_up_k h15 (by omega)), (x_up_k h16 (by omega)), (x_up_k h17 (by omega)), (x_up_k h18 (by omega)), by omega, by omega, by omega, by omega, by omega, by omega⟩, fun b hb => (x_up_n (by omega)).trans (rfl)⟩)
            · skip
              have c4 : ct (mLk lF lC lT aa co bb) ln 0 0 = 1 := by
                exact (nI_eq (a := ct (mLk lF lC lT aa co bb) ln 0 0) (b := 1) (by omega) (by omega)).mp c4
              refine x_iload F 1 dM_became_111 rfl ?_
              refine x_if_eq F (tgt := 120) dM_became_113 (by decide) (fun c6 => ?_) (fun c6 => ?_)
              · skip
                have c6 : ((la (mSh ln lF lC lT lO aa co bb) i).isSome) = false := bI_0 c6
                refine x_iconst F (v := nI (1)) dM_became_120 (by decide) ?_
                refine x_goto F (tgt := 134) dM_became_121 (by decide) ?_
                exact x_iret F hr dM_became_134 (by rw [mBc, bec, if_neg c3, if_pos c4, show (la (mSh ln lF lC lT lO aa co bb) ln).isSome = false from by have z := c6; rw [show i = ln by omega] at z; exact z]; exact ⟨rfl, rfl, ⟨x_up_s, (x_up_k h1 (by omega)), (x_up_k h2 (by omega)), (x_up_k h3 (by omega)), (x_up_k h4 (by omega)), (x_up_k h5 (by omega)), (x_up_k h6 (by omega)), (x_up_k h7 (by omega)), (x_up_k h8 (by omega)), (x_up_k h9 (by omega)), (x_up_k h10 (by omega)), (x_up_k h11 (by omega)), (x_up_k h12 (by omega)), (x_up_k h13 (by omega)), (x_up_k h14 (by omega)), (x_up_k h15 (by omega)), (x_up_k h16 (by omega)), (x_up_k h17 (by omega)), (x_up_k h18 (by omega)), by omega, by omega, by omega, by omega, by omega, by omega⟩, fun b hb => (x_up_n (by omega)).trans (rfl)⟩)
              · skip
                have c6 : ((la (mSh ln lF lC lT lO aa co bb) i).isSome) = true := bI_1 c6
                refine x_iconst F (v := nI (3)) dM_became_116 (by decide) ?_
                refine x_goto F (tgt := 134) dM_became_117 (by decide) ?_
                exact x_iret F hr dM_became_134 (by rw [mBc, bec, if_neg c3, if_pos c4, show (la (mSh ln lF lC lT lO aa co bb) ln).isSome = true from by have z := c6; rw [show i = ln by omega] at z; exact z]; exact ⟨rfl, rfl, ⟨x_up_s, (x_up_k h1 (by omega)), (x_up_k h2 (by omega)), (x_up_k h3 (by omega)), (x_up_k h4 (by omega)), (x_up_k h5 (by omega)), (x_up_k h6 (by omega)), (x_up_k h7 (by omega)), (x_up_k h8 (by omega)), (x_up_k h9 (by omega)), (x_up_k h10 (by omega)), (x_up_k h11 (by omega)), (x_up_k h12 (by omega)), (x_up_k h13 (by omega)), (x_up_k h14 (by omega)), (x_up_k h15 (by omega)), (x_up_k h16 (by omega)), (x_up_k h17 (by omega)), (x_up_k h18 (by omega)), by omega, by omega, by omega, by omega, by omega, by omega⟩, fun b hb => (x_up_n (by omega)).trans (rfl)⟩)
          · skip
            have c3 : ct (mLk lF lC lT aa co bb) ln 0 0 = 0 := by
              exact (nI_eq (a := ct (mLk lF lC lT aa co bb) ln 0 0) (b := 0) (by omega) (by omega)).mp c3
            refine x_iconst F (v := nI (0)) dM_became_101 (by decide) ?_
            refine x_goto F (tgt := 134) dM_became_102 (by decide) ?_
            exact x_iret F hr dM_became_134 (by rw [mBc, bec, if_pos c3]; exact ⟨rfl, rfl, ⟨x_up_s, (x_up_k h1 (by omega)), (x_up_k h2 (by omega)), (x_up_k h3 (by omega)), (x_up_k h4 (by omega)), (x_up_k h5 (by omega)), (x_up_k h6 (by omega)), (x_up_k h7 (by omega)), (x_up_k h8 (by omega)), (x_up_k h9 (by omega)), (x_up_k h10 (by omega)), (x_up_k h11 (by omega)), (x_up_k h12 (by omega)), (x_up_k h13 (by omega)), (x_up_k h14 (by omega)), (x_up_k h15 (by omega)), (x_up_k h16 (by omega)), (x_up_k h17 (by omega)), (x_up_k h18 (by omega)), by omega, by omega, by omega, by omega, by omega, by omega⟩, fun b hb => (x_up_n (by omega)).trans (rfl)⟩)
        · skip
          have c2 : i < ln := by
            have z : ¬ (ln ≤ i) := fun zz => c2 ((nI_leI (a := ln) (b := i) (by omega) (by omega)).mpr zz)
            omega
          exact absurd c2 (by omega)
      | succ k ih =>
        intro i hi
        refine x_iload F 0 dM_became_38 rfl ?_
        refine x_aload_n F 3 dM_became_40 rfl rfl ?_
        refine x_get (ci := 6) F 16 (x_in inM) rfl (by decide) (x_m kfM_145) dM_became_41 x_up_s rfl ?_
        refine x_icmp_ge F (tgt := 96) dM_became_44 (by decide) (fun c7 => ?_) (fun c7 => ?_)
        · skip
          have c7 : ln ≤ i := by
            exact (nI_leI (a := ln) (b := i) (by omega) (by omega)).mp c7
          exact absurd c7 (by omega)
        · skip
          have c7 : i < ln := by
            have z : ¬ (ln ≤ i) := fun zz => c7 ((nI_leI (a := ln) (b := i) (by omega) (by omega)).mpr zz)
            omega
          refine x_iload F 1 dM_became_47 rfl ?_
          refine x_if_ne F (tgt := 83) dM_became_49 (by decide) (fun c8 => ?_) (fun c8 => ?_)
          · skip
            have c8 : ((la (mSh ln lF lC lT lO aa co bb) i).isSome) = true := bI_1 c8
            refine x_iconst F (v := nI (1)) dM_became_83 (by decide) ?_
            refine x_goto F (tgt := 88) dM_became_84 (by decide) ?_
            refine x_istore F [(6, .int (nI (1))), (7, .int (nI (i))), (5, .int (nI (ct (mLk lF lC lT aa co bb) ln 0 0))), (0, .ref (a)), (1, .int (aa)), (2, .long (co)), (4, .int (bb))] dM_became_88 (by decide) rfl ?_
            refine x_iinc F 1 [(7, .int (nI (i + 1))), (6, .int (nI (1))), (5, .int (nI (ct (mLk lF lC lT aa co bb) ln 0 0))), (0, .ref (a)), (1, .int (aa)), (2, .long (co)), (4, .int (bb))] dM_became_90 rfl (nI_add (i) 1) (by decide) rfl ?_
            refine x_goto F (tgt := 38) dM_became_93 (by decide) ?_
            exact xW.lve (lv' := [(7, .int (nI (i + 1))), (6, .int (bI (la (mSh ln lF lC lT lO aa co bb) (i + 1)).isSome)), (5, .int (nI (ct (mLk lF lC lT aa co bb) ln 0 0))), (0, .ref (a)), (1, .int (aa)), (2, .long (co)), (4, .int (bb))]) (by rw [la_or, c8, Bool.or_true]; rfl) (ih (i + 1) (by omega))
          · skip
            have c8 : ((la (mSh ln lF lC lT lO aa co bb) i).isSome) = false := bI_0 c8
            refine x_aload_n F 3 dM_became_52 rfl rfl ?_
            refine x_iload F 0 dM_became_53 rfl ?_
            refine x_iload_n F 4 dM_became_55 rfl rfl ?_
            refine x_lload_n F 5 dM_became_56 rfl rfl ?_
            refine x_iload F 6 dM_became_57 rfl ?_
            refine yV (n := 4) (As := [.int (nI (i)), .int (aa), .long (co), .int (bb)]) (ci := 6) F kmM_184 kiM_isLink ksM_isLink knM kcM_isLink (by decide +kernel) dM_became_59 (cM_isLink l (nx) (x_up M (a) (.inr (6, [.int (nI (0)), .ref (a + 1), .int (nI (sn)), .int (nI (pr)), .int (fk), .int (fp), .ref (a + 2), .ref (a + 3), .ref (a + 4), .ref (a + 5), .ref (a + 6), .int (nI (nn)), .ref (a + 7), .ref (a + 8), .ref (a + 9), .ref (a + 10), .int (nI (ln)), .ref (a + 11), .ref (a + 12), .ref (a + 13), .ref (a + 14), .int (nI (fn)), .ref (a + 15), .ref (a + 16), .ref (a + 17), .int (nI (ac)), .ref (a + 18)]))) (a) (nI (0)) sg sn pr fk fp rws cd ds wc wd nn nE nC nK nO ln lF lC lT lO fn fC fP ak ac pt ⟨x_up_s, (x_up_k h1 (by omega)), (x_up_k h2 (by omega)), (x_up_k h3 (by omega)), (x_up_k h4 (by omega)), (x_up_k h5 (by omega)), (x_up_k h6 (by omega)), (x_up_k h7 (by omega)), (x_up_k h8 (by omega)), (x_up_k h9 (by omega)), (x_up_k h10 (by omega)), (x_up_k h11 (by omega)), (x_up_k h12 (by omega)), (x_up_k h13 (by omega)), (x_up_k h14 (by omega)), (x_up_k h15 (by omega)), (x_up_k h16 (by omega)), (x_up_k h17 (by omega)), (x_up_k h18 (by omega)), by omega, by omega, by omega, by omega, by omega, by omega⟩ i (by omega) aa co bb) rfl x_up_s rfl rfl (Nat.le_of_ble_eq_true rfl) ⟨Nat.le_of_ble_eq_true rfl, Nat.le_of_ble_eq_true rfl⟩ ⟨Nat.le_of_ble_eq_true rfl, Nat.le_of_ble_eq_true rfl⟩ ?_
            refine x_if_eq F (tgt := 87) dM_became_62 (by decide) (fun c9 => ?_) (fun c9 => ?_)
            · skip
              have c9 : (mLk lF lC lT aa co bb i) = false := bI_0 c9
              refine x_iconst F (v := nI (0)) dM_became_87 (by decide) ?_
              refine x_istore F [(6, .int (nI (0))), (7, .int (nI (i))), (5, .int (nI (ct (mLk lF lC lT aa co bb) ln 0 0))), (0, .ref (a)), (1, .int (aa)), (2, .long (co)), (4, .int (bb))] dM_became_88 (by decide) rfl ?_
              refine x_iinc F 1 [(7, .int (nI (i + 1))), (6, .int (nI (0))), (5, .int (nI (ct (mLk lF lC lT aa co bb) ln 0 0))), (0, .ref (a)), (1, .int (aa)), (2, .long (co)), (4, .int (bb))] dM_became_90 rfl (nI_add (i) 1) (by decide) rfl ?_
              refine x_goto F (tgt := 38) dM_became_93 (by decide) ?_
              exact xW.lve (lv' := [(7, .int (nI (i + 1))), (6, .int (bI (la (mSh ln lF lC lT lO aa co bb) (i + 1)).isSome)), (5, .int (nI (ct (mLk lF lC lT aa co bb) ln 0 0))), (0, .ref (a)), (1, .int (aa)), (2, .long (co)), (4, .int (bb))]) (by rw [la_or, c8, show mSh ln lF lC lT lO aa co bb i = false from by rw [mSh, c9]; rfl]; rfl) (ih (i + 1) (by omega))
            · skip
              have c9 : (mLk lF lC lT aa co bb i) = true := bI_1 c9
              refine x_aload_n F 3 dM_became_65 rfl rfl ?_
              refine x_iload_n F 4 dM_became_66 rfl rfl ?_
              refine x_iload F 6 dM_became_67 rfl ?_
              refine x_aload_n F 3 dM_became_69 rfl rfl ?_
              refine x_get (ci := 6) F 20 (x_in inM) rfl (by decide) (x_m kfM_54) dM_became_70 x_up_s rfl ?_
              refine x_iload F 0 dM_became_73 rfl ?_
              refine x_lald F dM_became_75 (x_up_k h14 (by omega)) (pk_in (i) (60) (by omega)) ?_
              refine xW.tol ((lO) (i)) (by rw [nI_clamp (by omega)]) ?_
              refine yV (n := 3) (As := [.int (aa), .int (bb), .long ((lO) (i))]) (ci := 6) F kmM_196 kiM_linksTo ksM_linksTo knM kcM_linksTo (by decide +kernel) dM_became_76 (cM_linksTo l (nx) (x_up M (a) (.inr (6, [.int (nI (0)), .ref (a + 1), .int (nI (sn)), .int (nI (pr)), .int (fk), .int (fp), .ref (a + 2), .ref (a + 3), .ref (a + 4), .ref (a + 5), .ref (a + 6), .int (nI (nn)), .ref (a + 7), .ref (a + 8), .ref (a + 9), .ref (a + 10), .int (nI (ln)), .ref (a + 11), .ref (a + 12), .ref (a + 13), .ref (a + 14), .int (nI (fn)), .ref (a + 15), .ref (a + 16), .ref (a + 17), .int (nI (ac)), .ref (a + 18)]))) (a) (nI (0)) sg sn pr fk fp rws cd ds wc wd nn nE nC nK nO ln lF lC lT lO fn fC fP ak ac pt ⟨x_up_s, (x_up_k h1 (by omega)), (x_up_k h2 (by omega)), (x_up_k h3 (by omega)), (x_up_k h4 (by omega)), (x_up_k h5 (by omega)), (x_up_k h6 (by omega)), (x_up_k h7 (by omega)), (x_up_k h8 (by omega)), (x_up_k h9 (by omega)), (x_up_k h10 (by omega)), (x_up_k h11 (by omega)), (x_up_k h12 (by omega)), (x_up_k h13 (by omega)), (x_up_k h14 (by omega)), (x_up_k h15 (by omega)), (x_up_k h16 (by omega)), (x_up_k h17 (by omega)), (x_up_k h18 (by omega)), by omega, by omega, by omega, by omega, by omega, by omega⟩ (aa) (bb) ((lO) (i))) rfl x_up_s rfl rfl (Nat.le_of_ble_eq_true rfl) ⟨Nat.le_of_ble_eq_true rfl, Nat.le_of_ble_eq_true rfl⟩ ⟨Nat.le_of_ble_eq_true rfl, Nat.le_of_ble_eq_true rfl⟩ ?_
              have hct : ct (mLt lF lT lO aa bb (lO i)) ln 0 0 ≤ _ := ct_le _ _ _ _
              refine x_iconst F (v := nI (1)) dM_became_79 (by decide) ?_
              refine x_icmp_le F (tgt := 87) dM_became_80 (by decide) (fun c10 => ?_) (fun c10 => ?_)
              · skip
                have c10 : ct (mLt lF lT lO (aa) (bb) ((lO) (i))) ln 0 0 ≤ 1 := by
                  exact (nI_leI (a := ct (mLt lF lT lO (aa) (bb) ((lO) (i))) ln 0 0) (b := 1) (by omega) (by omega)).mp c10
                refine x_iconst F (v := nI (0)) dM_became_87 (by decide) ?_
                refine x_istore F [(6, .int (nI (0))), (7, .int (nI (i))), (5, .int (nI (ct (mLk lF lC lT aa co bb) ln 0 0))), (0, .ref (a)), (1, .int (aa)), (2, .long (co)), (4, .int (bb))] dM_became_88 (by decide) rfl ?_
                refine x_iinc F 1 [(7, .int (nI (i + 1))), (6, .int (nI (0))), (5, .int (nI (ct (mLk lF lC lT aa co bb) ln 0 0))), (0, .ref (a)), (1, .int (aa)), (2, .long (co)), (4, .int (bb))] dM_became_90 rfl (nI_add (i) 1) (by decide) rfl ?_
                refine x_goto F (tgt := 38) dM_became_93 (by decide) ?_
                exact xW.lve (lv' := [(7, .int (nI (i + 1))), (6, .int (bI (la (mSh ln lF lC lT lO aa co bb) (i + 1)).isSome)), (5, .int (nI (ct (mLk lF lC lT aa co bb) ln 0 0))), (0, .ref (a)), (1, .int (aa)), (2, .long (co)), (4, .int (bb))]) (by rw [la_or, c8, show mSh ln lF lC lT lO aa co bb i = false from by rw [mSh, c9]; simp; omega]; rfl) (ih (i + 1) (by omega))
              · skip
                have c10 : 1 < ct (mLt lF lT lO (aa) (bb) ((lO) (i))) ln 0 0 := by
                  have z : ¬ (ct (mLt lF lT lO (aa) (bb) ((lO) (i))) ln 0 0 ≤ 1) := fun zz => c10 ((nI_leI (a := ct (mLt lF lT lO (aa) (bb) ((lO) (i))) ln 0 0) (b := 1) (by omega) (by omega)).mpr zz)
                  omega
                refine x_iconst F (v := nI (1)) dM_became_83 (by decide) ?_
                refine x_goto F (tgt := 88) dM_became_84 (by decide) ?_
                refine x_istore F [(6, .int (nI (1))), (7, .int (nI (i))), (5, .int (nI (ct (mLk lF lC lT aa co bb) ln 0 0))), (0, .ref (a)), (1, .int (aa)), (2, .long (co)), (4, .int (bb))] dM_became_88 (by decide) rfl ?_
                refine x_iinc F 1 [(7, .int (nI (i + 1))), (6, .int (nI (1))), (5, .int (nI (ct (mLk lF lC lT aa co bb) ln 0 0))), (0, .ref (a)), (1, .int (aa)), (2, .long (co)), (4, .int (bb))] dM_became_90 rfl (nI_add (i) 1) (by decide) rfl ?_
                refine x_goto F (tgt := 38) dM_became_93 (by decide) ?_
                exact xW.lve (lv' := [(7, .int (nI (i + 1))), (6, .int (bI (la (mSh ln lF lC lT lO aa co bb) (i + 1)).isSome)), (5, .int (nI (ct (mLk lF lC lT aa co bb) ln 0 0))), (0, .ref (a)), (1, .int (aa)), (2, .long (co)), (4, .int (bb))]) (by rw [la_or, c8, show mSh ln lF lC lT lO aa co bb i = true from by rw [mSh, c9]; simp; omega]; rfl) (ih (i + 1) (by omega))
    refine x_iconst F (v := nI (0)) dM_became_32 (by decide) ?_
    refine x_istore F [(6, .int (nI (0))), (5, .int (nI (ct (mLk lF lC lT (aa) (co) (bb)) ln 0 0))), (0, .ref (a)), (1, .int (aa)), (2, .long (co)), (4, .int (bb))] dM_became_33 (by decide) rfl ?_
    refine x_iconst F (v := nI (0)) dM_became_35 (by decide) ?_
    refine x_istore F [(7, .int (nI (0))), (6, .int (nI (0))), (5, .int (nI (ct (mLk lF lC lT (aa) (co) (bb)) ln 0 0))), (0, .ref (a)), (1, .int (aa)), (2, .long (co)), (4, .int (bb))] dM_became_36 (by decide) rfl ?_
    exact loop ln 0 (by omega)
  · skip
    have c1 : (mOf rw cd (aa) (co) (bb)) = false := bI_0 c1
    rw [hok] at c1
    cases c1
set_option maxHeartbeats 4000000 in
set_option maxRecDepth 100000 in
theorem cM_becameT (l : Launch) (nx : Nat) (M : xH) (a : Nat) (th : Int32) (sg : Nat → Int32) (sn pr : Nat) (fk fp : Int32) (rws : Nat → Int32) (cd : Nat → Int64) (ds wc : Nat → Int32) (wd : Nat → Int64) (nn : Nat) (nE : Nat → Int32) (nC : Nat → Int64) (nK : Nat → Int32) (nO : Nat → Int64) (ln : Nat) (lF : Nat → Int32) (lC : Nat → Int64) (lT : Nat → Int32) (lO : Nat → Int64) (fn : Nat) (fC : Nat → Int64) (fP : Nat → Int32) (ak : Nat → Int64) (ac : Nat) (pt : Nat → Int32) (hT : mAt M a th sg sn pr fk fp rws cd ds wc wd nn nE nC nK nO ln lF lC lT lO fn fC fP ak ac pt) (rw : Nat → Nat) (hrw : mR rws rw) (aa : Int32) (co : Int64) (bb : Int32) (hok : mOf rw cd aa co bb = false) : xC l xcl yM_became (xw (Cond.code yM_became bM_became 8 (some .int))) ({ frames := 2, cells := 0, slots := 0, locals := 49 } : Room) [.ref (a), .int (aa), .long (co), .int (bb)] nx M (mPost (some (.int (nI (0)))) nx M a ((nI (1))) sg sn pr fk fp rws cd ds wc wd nn nE nC nK nO ln lF lC lT lO fn fC fP ak ac pt) := by
  obtain ⟨h0, h1, h2, h3, h4, h5, h6, h7, h8, h9, h10, h11, h12, h13, h14, h15, h16, h17, h18, b1, b2, b3, b4, b5, b6⟩ := id hT
  refine yC (by decide) (Nat.le_of_ble_eq_true rfl) ?_
  intro p e s m args below meth c D F hr hn
  refine x_aload_n F 0 dM_became_0 rfl rfl ?_
  refine x_iload_n F 1 dM_became_1 rfl rfl ?_
  refine x_lload_n F 2 dM_became_2 rfl rfl ?_
  refine x_iload F 3 dM_became_3 rfl ?_
  refine yV (n := 3) (As := [.int (aa), .long (co), .int (bb)]) (ci := 6) F kmM_188 kiM_isOf ksM_isOf knM kcM_isOf (by decide +kernel) dM_became_5 (cM_isOf l (nx) M (a) th sg sn pr fk fp rws cd ds wc wd nn nE nC nK nO ln lF lC lT lO fn fC fP ak ac pt hT rw hrw (aa) (co) (bb)) rfl h0 rfl rfl (Nat.le_of_ble_eq_true rfl) ⟨Nat.le_of_ble_eq_true rfl, Nat.le_of_ble_eq_true rfl⟩ ⟨Nat.le_of_ble_eq_true rfl, Nat.le_of_ble_eq_true rfl⟩ ?_
  refine x_if_ne F (tgt := 17) dM_became_8 (by decide) (fun c1 => ?_) (fun c1 => ?_)
  · skip
    have c1 : (mOf rw cd (aa) (co) (bb)) = true := bI_1 c1
    rw [hok] at c1
    cases c1
  · skip
    have c1 : (mOf rw cd (aa) (co) (bb)) = false := bI_0 c1
    refine x_aload_n F 0 dM_became_11 rfl rfl ?_
    refine x_iconst F (v := nI (1)) dM_became_12 (by decide) ?_
    refine yVr (n := 1) (As := [.int (nI (1))]) (ci := 6) F kmM_152 kiM_refuse ksM_refuse knM kcM_refuse (by decide +kernel) dM_became_13 (cM_refuse l (nx) M (a) th sg sn pr fk fp rws cd ds wc wd nn nE nC nK nO ln lF lC lT lO fn fC fP ak ac pt hT (nI (1))) rfl h0 rfl rfl (Nat.le_of_ble_eq_true rfl) ⟨Nat.le_of_ble_eq_true rfl, Nat.le_of_ble_eq_true rfl⟩ ⟨Nat.le_of_ble_eq_true rfl, Nat.le_of_ble_eq_true rfl⟩ (fun r' n' M388 hp => ?_)
    obtain ⟨hr', hn', hM388, hf388⟩ := hp
    rw [hn', hr']
    obtain ⟨v388_0, v388_1, v388_2, v388_3, v388_4, v388_5, v388_6, v388_7, v388_8, v388_9, v388_10, v388_11, v388_12, v388_13, v388_14, v388_15, v388_16, v388_17, v388_18, vb388_0, vb388_1, vb388_2, vb388_3, vb388_4, vb388_5⟩ := id hM388
    show xW p l e ({ frames := 2, cells := 0, slots := 0, locals := 49 } : Room) s m args below meth c D xcl (x_A M nx) 8 (MQ below (x_Q D xcl (x_A M nx) (mPost (some (.int (nI (0)))) nx M a ((nI (1))) sg sn pr fk fp rws cd ds wc wd nn nE nC nK nO ln lF lC lT lO fn fC fP ak ac pt)) args s 0 0 (x_A M nx)) 0 0 (nx) M388 16 [(0, .ref (a)), (1, .int (aa)), (2, .long (co)), (4, .int (bb))] [.int (nI (0))]
    exact x_iret F hr dM_became_16 (⟨rfl, rfl, ⟨v388_0, v388_1, v388_2, v388_3, v388_4, v388_5, v388_6, v388_7, v388_8, v388_9, v388_10, v388_11, v388_12, v388_13, v388_14, v388_15, v388_16, v388_17, v388_18, by omega, by omega, by omega, by omega, by omega, by omega⟩, fun b hb => (hf388 _ (by omega)).trans (rfl)⟩)
set_option maxHeartbeats 4000000 in
set_option maxRecDepth 100000 in
theorem cM_lost (l : Launch) (nx : Nat) (M : xH) (a : Nat) (th : Int32) (sg : Nat → Int32) (sn pr : Nat) (fk fp : Int32) (rws : Nat → Int32) (cd : Nat → Int64) (ds wc : Nat → Int32) (wd : Nat → Int64) (nn : Nat) (nE : Nat → Int32) (nC : Nat → Int64) (nK : Nat → Int32) (nO : Nat → Int64) (ln : Nat) (lF : Nat → Int32) (lC : Nat → Int64) (lT : Nat → Int32) (lO : Nat → Int64) (fn : Nat) (fC : Nat → Int64) (fP : Nat → Int32) (ak : Nat → Int64) (ac : Nat) (pt : Nat → Int32) (hT : mAt M a th sg sn pr fk fp rws cd ds wc wd nn nE nC nK nO ln lF lC lT lO fn fC fP ak ac pt) (rw : Nat → Nat) (hrw : mR rws rw) (k0 : Nat) (hk0 : k0 < 3) (bb : Int32) (hE : edOk (nI k0) bb = true) : xC l xcl yM_lost (xw (Cond.code yM_lost bM_lost 5 (some .int))) ({ frames := 2, cells := 0, slots := 0, locals := 51 } : Room) [.ref (a), .int (nI (k0)), .int (bb)] nx M (mPost (some (.int (nI (ct (mLs rw cd ds ln lF lC lT k0 bb) (rw k0) 0 0)))) nx M a ((nI (0))) sg sn pr fk fp rws cd ds wc wd nn nE nC nK nO ln lF lC lT lO fn fC fP ak ac pt) := by
  obtain ⟨h0, h1, h2, h3, h4, h5, h6, h7, h8, h9, h10, h11, h12, h13, h14, h15, h16, h17, h18, b1, b2, b3, b4, b5, b6⟩ := id hT
  refine yC (by decide) (Nat.le_of_ble_eq_true rfl) ?_
  intro p e s m args below meth c D F hr hn
  refine x_iload_n F 1 dM_lost_0 rfl rfl ?_
  refine yS (n := 1) (As := [.int (nI (k0))]) F kmM_163 ktM_isEdition knM kcM_isEdition (by decide +kernel) dM_lost_1 (cM_isEd l (nx) M (nI (k0))) rfl rfl (Nat.le_of_ble_eq_true rfl) ⟨Nat.le_of_ble_eq_true rfl, Nat.le_of_ble_eq_true rfl⟩ ⟨Nat.le_of_ble_eq_true rfl, Nat.le_of_ble_eq_true rfl⟩ ?_
  refine x_if_eq F (tgt := 19) dM_lost_4 (by decide) (fun c1 => ?_) (fun c1 => ?_)
  · skip
    have c1 : (inE (nI (k0))) = false := bI_0 c1
    simp [edOk, c1] at hE
  · skip
    have c1 : (inE (nI (k0))) = true := bI_1 c1
    refine x_iload_n F 2 dM_lost_7 rfl rfl ?_
    refine yS (n := 1) (As := [.int (bb)]) F kmM_163 ktM_isEdition knM kcM_isEdition (by decide +kernel) dM_lost_8 (cM_isEd l (nx) M (bb)) rfl rfl (Nat.le_of_ble_eq_true rfl) ⟨Nat.le_of_ble_eq_true rfl, Nat.le_of_ble_eq_true rfl⟩ ⟨Nat.le_of_ble_eq_true rfl, Nat.le_of_ble_eq_true rfl⟩ ?_
    refine x_if_eq F (tgt := 19) dM_lost_11 (by decide) (fun c2 => ?_) (fun c2 => ?_)
    · skip
      have c2 : (inE (bb)) = false := bI_0 c2
      simp [edOk, c1, c2] at hE
    · skip
      have c2 : (inE (bb)) = true := bI_1 c2
      refine x_iload_n F 1 dM_lost_14 rfl rfl ?_
      refine x_iload_n F 2 dM_lost_15 rfl rfl ?_
      refine x_icmp_ne F (tgt := 25) dM_lost_16 (by decide) (fun c3 => ?_) (fun c3 => ?_)
      · skip
        refine x_aload_n F 0 dM_lost_25 rfl rfl ?_
        refine x_iconst F (v := nI (0)) dM_lost_26 (by decide) ?_
        refine x_put (ci := 6) (ty := .int) F 0 (x_in inM) tM tM_ok nM rfl (by decide) (x_m kfM_69) dM_lost_27 rfl (by decide +kernel) rfl rfl h0 (Nat.le_of_ble_eq_true rfl) ?_
        show xW p l e ({ frames := 2, cells := 0, slots := 0, locals := 51 } : Room) s m args below meth c D xcl (x_A M nx) 5 (MQ below (x_Q D xcl (x_A M nx) (mPost (some (.int (nI (ct (mLs rw cd ds ln lF lC lT k0 bb) (rw k0) 0 0)))) nx M a ((nI (0))) sg sn pr fk fp rws cd ds wc wd nn nE nC nK nO ln lF lC lT lO fn fC fP ak ac pt)) args s 0 0 (x_A M nx)) 0 0 (nx) (x_up M (a) (.inr (6, [.int (nI (0)), .ref (a + 1), .int (nI (sn)), .int (nI (pr)), .int (fk), .int (fp), .ref (a + 2), .ref (a + 3), .ref (a + 4), .ref (a + 5), .ref (a + 6), .int (nI (nn)), .ref (a + 7), .ref (a + 8), .ref (a + 9), .ref (a + 10), .int (nI (ln)), .ref (a + 11), .ref (a + 12), .ref (a + 13), .ref (a + 14), .int (nI (fn)), .ref (a + 15), .ref (a + 16), .ref (a + 17), .int (nI (ac)), .ref (a + 18)]))) 30 [(0, .ref (a)), (1, .int (nI (k0))), (2, .int (bb))] []
        have loop : ∀ (k : Nat) (i cq : Nat), i + k = rw k0 → cq ≤ i → ct (mLs rw cd ds ln lF lC lT k0 bb) (rw k0) 0 0 = ct (mLs rw cd ds ln lF lC lT k0 bb) k i cq → xW p l e ({ frames := 2, cells := 0, slots := 0, locals := 51 } : Room) s m args below meth c D xcl (x_A M nx) 5 (MQ below (x_Q D xcl (x_A M nx) (mPost (some (.int (nI (ct (mLs rw cd ds ln lF lC lT k0 bb) (rw k0) 0 0)))) nx M a ((nI (0))) sg sn pr fk fp rws cd ds wc wd nn nE nC nK nO ln lF lC lT lO fn fC fP ak ac pt)) args s 0 0 (x_A M nx)) 0 0 (nx) (x_up M (a) (.inr (6, [.int (nI (0)), .ref (a + 1), .int (nI (sn)), .int (nI (pr)), .int (fk), .int (fp), .ref (a + 2), .ref (a + 3), .ref (a + 4), .ref (a + 5), .ref (a + 6), .int (nI (nn)), .ref (a + 7), .ref (a + 8), .ref (a + 9), .ref (a + 10), .int (nI (ln)), .ref (a + 11), .ref (a + 12), .ref (a + 13), .ref (a + 14), .int (nI (fn)), .ref (a + 15), .ref (a + 16), .ref (a + 17), .int (nI (ac)), .ref (a + 18)]))) 38 [(4, .int (nI (40 * k0 + i))), (3, .int (nI (cq))), (0, .ref (a)), (1, .int (nI (k0))), (2, .int (bb))] [] := by
          intro k
          induction k with
          | zero =>
            intro i cq hi hc hf
            have hr40 := (hrw k0 (by omega)).2
            refine x_iload F 0 dM_lost_38 rfl ?_
            refine x_bipush F (v := nI (40)) dM_lost_40 (by decide) ?_
            refine x_iload_n F 3 dM_lost_42 rfl rfl ?_
            refine x_imul F dM_lost_43 ?_
            refine xW.toi (nI ((40) * (k0))) (pk_mul _ _) ?_
            refine x_aload_n F 2 dM_lost_44 rfl rfl ?_
            refine x_get (ci := 6) F 6 (x_in inM) rfl (by decide) (x_m kfM_17) dM_lost_45 x_up_s rfl ?_
            refine x_iload_n F 3 dM_lost_48 rfl rfl ?_
            refine x_iald F dM_lost_49 (x_up_k h2 (by omega)) (pk_in (k0) (4) (by omega)) ?_
            refine xW.toi (nI (rw k0)) (by rw [nI_clamp (by omega)]; exact (hrw _ (by omega)).1) ?_
            refine x_iadd F dM_lost_50 ?_
            refine xW.toi (nI ((40) * (k0) + rw k0)) (nI_add _ _) ?_
            refine x_icmp_ge F (tgt := 94) dM_lost_51 (by decide) (fun c4 => ?_) (fun c4 => ?_)
            · skip
              have c4 : (40) * (k0) + rw k0 ≤ 40 * k0 + i := by
                exact (nI_leI (a := (40) * (k0) + rw k0) (b := 40 * k0 + i) (by omega) (by omega)).mp c4
              refine x_iload_n F 1 dM_lost_94 rfl rfl ?_
              exact x_iret F hr dM_lost_95 (by rw [hf]; exact ⟨rfl, rfl, ⟨x_up_s, (x_up_k h1 (by omega)), (x_up_k h2 (by omega)), (x_up_k h3 (by omega)), (x_up_k h4 (by omega)), (x_up_k h5 (by omega)), (x_up_k h6 (by omega)), (x_up_k h7 (by omega)), (x_up_k h8 (by omega)), (x_up_k h9 (by omega)), (x_up_k h10 (by omega)), (x_up_k h11 (by omega)), (x_up_k h12 (by omega)), (x_up_k h13 (by omega)), (x_up_k h14 (by omega)), (x_up_k h15 (by omega)), (x_up_k h16 (by omega)), (x_up_k h17 (by omega)), (x_up_k h18 (by omega)), by omega, by omega, by omega, by omega, by omega, by omega⟩, fun b hb => (x_up_n (by omega)).trans (rfl)⟩)
            · skip
              have c4 : 40 * k0 + i < (40) * (k0) + rw k0 := by
                have z : ¬ ((40) * (k0) + rw k0 ≤ 40 * k0 + i) := fun zz => c4 ((nI_leI (a := (40) * (k0) + rw k0) (b := 40 * k0 + i) (by omega) (by omega)).mpr zz)
                omega
              exact absurd c4 (by omega)
          | succ k ih =>
            intro i cq hi hc hf
            have hr40 := (hrw k0 (by omega)).2
            refine x_iload F 0 dM_lost_38 rfl ?_
            refine x_bipush F (v := nI (40)) dM_lost_40 (by decide) ?_
            refine x_iload_n F 3 dM_lost_42 rfl rfl ?_
            refine x_imul F dM_lost_43 ?_
            refine xW.toi (nI ((40) * (k0))) (pk_mul _ _) ?_
            refine x_aload_n F 2 dM_lost_44 rfl rfl ?_
            refine x_get (ci := 6) F 6 (x_in inM) rfl (by decide) (x_m kfM_17) dM_lost_45 x_up_s rfl ?_
            refine x_iload_n F 3 dM_lost_48 rfl rfl ?_
            refine x_iald F dM_lost_49 (x_up_k h2 (by omega)) (pk_in (k0) (4) (by omega)) ?_
            refine xW.toi (nI (rw k0)) (by rw [nI_clamp (by omega)]; exact (hrw _ (by omega)).1) ?_
            refine x_iadd F dM_lost_50 ?_
            refine xW.toi (nI ((40) * (k0) + rw k0)) (nI_add _ _) ?_
            refine x_icmp_ge F (tgt := 94) dM_lost_51 (by decide) (fun c5 => ?_) (fun c5 => ?_)
            · skip
              have c5 : (40) * (k0) + rw k0 ≤ 40 * k0 + i := by
                exact (nI_leI (a := (40) * (k0) + rw k0) (b := 40 * k0 + i) (by omega) (by omega)).mp c5
              exact absurd c5 (by omega)
            · skip
              have c5 : 40 * k0 + i < (40) * (k0) + rw k0 := by
                have z : ¬ ((40) * (k0) + rw k0 ≤ 40 * k0 + i) := fun zz => c5 ((nI_leI (a := (40) * (k0) + rw k0) (b := 40 * k0 + i) (by omega) (by omega)).mpr zz)
                omega
              refine x_iload_n F 1 dM_lost_54 rfl rfl ?_
              refine x_aload_n F 2 dM_lost_55 rfl rfl ?_
              refine x_iload_n F 3 dM_lost_56 rfl rfl ?_
              refine x_iload F 0 dM_lost_57 rfl ?_
              refine yV (n := 2) (As := [.int (nI (k0)), .int (nI (40 * k0 + i))]) (ci := 6) F kmM_166 kiM_below ksM_below knM kcM_below (by decide +kernel) dM_lost_59 (cM_below l (nx) (x_up M (a) (.inr (6, [.int (nI (0)), .ref (a + 1), .int (nI (sn)), .int (nI (pr)), .int (fk), .int (fp), .ref (a + 2), .ref (a + 3), .ref (a + 4), .ref (a + 5), .ref (a + 6), .int (nI (nn)), .ref (a + 7), .ref (a + 8), .ref (a + 9), .ref (a + 10), .int (nI (ln)), .ref (a + 11), .ref (a + 12), .ref (a + 13), .ref (a + 14), .int (nI (fn)), .ref (a + 15), .ref (a + 16), .ref (a + 17), .int (nI (ac)), .ref (a + 18)]))) (a) (nI (0)) sg sn pr fk fp rws cd ds wc wd nn nE nC nK nO ln lF lC lT lO fn fC fP ak ac pt ⟨x_up_s, (x_up_k h1 (by omega)), (x_up_k h2 (by omega)), (x_up_k h3 (by omega)), (x_up_k h4 (by omega)), (x_up_k h5 (by omega)), (x_up_k h6 (by omega)), (x_up_k h7 (by omega)), (x_up_k h8 (by omega)), (x_up_k h9 (by omega)), (x_up_k h10 (by omega)), (x_up_k h11 (by omega)), (x_up_k h12 (by omega)), (x_up_k h13 (by omega)), (x_up_k h14 (by omega)), (x_up_k h15 (by omega)), (x_up_k h16 (by omega)), (x_up_k h17 (by omega)), (x_up_k h18 (by omega)), by omega, by omega, by omega, by omega, by omega, by omega⟩ rw hrw k0 i (by omega) (by omega)) rfl x_up_s rfl rfl (Nat.le_of_ble_eq_true rfl) ⟨Nat.le_of_ble_eq_true rfl, Nat.le_of_ble_eq_true rfl⟩ ⟨Nat.le_of_ble_eq_true rfl, Nat.le_of_ble_eq_true rfl⟩ ?_
              have hbl := mBl_le ds (40 * k0) (rw k0) i
              refine x_if_ne F (tgt := 85) dM_lost_62 (by decide) (fun c6 => ?_) (fun c6 => ?_)
              · skip
                have c6 : mBl ds (40 * k0) (rw k0) i ≠ 0 := by
                  have z : ¬ (mBl ds (40 * k0) (rw k0) i = 0) := fun zz => c6 ((nI_eq (a := mBl ds (40 * k0) (rw k0) i) (b := 0) (by omega) (by omega)).mpr zz)
                  omega
                refine x_iconst F (v := nI (0)) dM_lost_85 (by decide) ?_
                refine x_iadd F dM_lost_86 ?_
                refine xW.toi (nI (cq + 0)) (nI_add _ _) ?_
                refine x_istore_n F [(3, .int (nI (cq + 0))), (4, .int (nI (40 * k0 + i))), (0, .ref (a)), (1, .int (nI (k0))), (2, .int (bb))] dM_lost_87 rfl (by decide) rfl ?_
                refine x_iinc F 1 [(4, .int (nI (40 * k0 + i + 1))), (3, .int (nI (cq + 0))), (0, .ref (a)), (1, .int (nI (k0))), (2, .int (bb))] dM_lost_88 rfl (nI_add (40 * k0 + i) 1) (by decide) rfl ?_
                refine x_goto F (tgt := 38) dM_lost_91 (by decide) ?_
                exact ih (i + 1) cq (by omega) (by omega) (by rw [hf, ct_s, if_neg (by rw [mLs, decide_eq_false c6]; simp)])
              · skip
                have c6 : mBl ds (40 * k0) (rw k0) i = 0 := by
                  exact (nI_eq (a := mBl ds (40 * k0) (rw k0) i) (b := 0) (by omega) (by omega)).mp c6
                refine x_aload_n F 2 dM_lost_65 rfl rfl ?_
                refine x_iload_n F 3 dM_lost_66 rfl rfl ?_
                refine x_aload_n F 2 dM_lost_67 rfl rfl ?_
                refine x_get (ci := 6) F 7 (x_in inM) rfl (by decide) (x_m kfM_20) dM_lost_68 x_up_s rfl ?_
                refine x_iload F 0 dM_lost_71 rfl ?_
                refine x_lald F dM_lost_73 (x_up_k h3 (by omega)) (pk_in (40 * k0 + i) (160) (by omega)) ?_
                refine xW.tol ((cd) (40 * k0 + i)) (by rw [nI_clamp (by omega)]) ?_
                refine x_iload_n F 4 dM_lost_74 rfl rfl ?_
                refine yV (n := 3) (As := [.int (nI (k0)), .long ((cd) (40 * k0 + i)), .int (bb)]) (ci := 6) F kmM_192 kiM_linksOf ksM_linksOf knM kcM_linksOf (by decide +kernel) dM_lost_75 (cM_linksOf l (nx) (x_up M (a) (.inr (6, [.int (nI (0)), .ref (a + 1), .int (nI (sn)), .int (nI (pr)), .int (fk), .int (fp), .ref (a + 2), .ref (a + 3), .ref (a + 4), .ref (a + 5), .ref (a + 6), .int (nI (nn)), .ref (a + 7), .ref (a + 8), .ref (a + 9), .ref (a + 10), .int (nI (ln)), .ref (a + 11), .ref (a + 12), .ref (a + 13), .ref (a + 14), .int (nI (fn)), .ref (a + 15), .ref (a + 16), .ref (a + 17), .int (nI (ac)), .ref (a + 18)]))) (a) (nI (0)) sg sn pr fk fp rws cd ds wc wd nn nE nC nK nO ln lF lC lT lO fn fC fP ak ac pt ⟨x_up_s, (x_up_k h1 (by omega)), (x_up_k h2 (by omega)), (x_up_k h3 (by omega)), (x_up_k h4 (by omega)), (x_up_k h5 (by omega)), (x_up_k h6 (by omega)), (x_up_k h7 (by omega)), (x_up_k h8 (by omega)), (x_up_k h9 (by omega)), (x_up_k h10 (by omega)), (x_up_k h11 (by omega)), (x_up_k h12 (by omega)), (x_up_k h13 (by omega)), (x_up_k h14 (by omega)), (x_up_k h15 (by omega)), (x_up_k h16 (by omega)), (x_up_k h17 (by omega)), (x_up_k h18 (by omega)), by omega, by omega, by omega, by omega, by omega, by omega⟩ (nI k0) (cd (40 * k0 + i)) bb) rfl x_up_s rfl rfl (Nat.le_of_ble_eq_true rfl) ⟨Nat.le_of_ble_eq_true rfl, Nat.le_of_ble_eq_true rfl⟩ ⟨Nat.le_of_ble_eq_true rfl, Nat.le_of_ble_eq_true rfl⟩ ?_
                have hct : ct (mLk lF lC lT (nI k0) (cd (40 * k0 + i)) bb) ln 0 0 ≤ _ := ct_le _ _ _ _
                refine x_if_ne F (tgt := 85) dM_lost_78 (by decide) (fun c7 => ?_) (fun c7 => ?_)
                · skip
                  have c7 : ct (mLk lF lC lT (nI k0) (cd (40 * k0 + i)) bb) ln 0 0 ≠ 0 := by
                    have z : ¬ (ct (mLk lF lC lT (nI k0) (cd (40 * k0 + i)) bb) ln 0 0 = 0) := fun zz => c7 ((nI_eq (a := ct (mLk lF lC lT (nI k0) (cd (40 * k0 + i)) bb) ln 0 0) (b := 0) (by omega) (by omega)).mpr zz)
                    omega
                  refine x_iconst F (v := nI (0)) dM_lost_85 (by decide) ?_
                  refine x_iadd F dM_lost_86 ?_
                  refine xW.toi (nI (cq + 0)) (nI_add _ _) ?_
                  refine x_istore_n F [(3, .int (nI (cq + 0))), (4, .int (nI (40 * k0 + i))), (0, .ref (a)), (1, .int (nI (k0))), (2, .int (bb))] dM_lost_87 rfl (by decide) rfl ?_
                  refine x_iinc F 1 [(4, .int (nI (40 * k0 + i + 1))), (3, .int (nI (cq + 0))), (0, .ref (a)), (1, .int (nI (k0))), (2, .int (bb))] dM_lost_88 rfl (nI_add (40 * k0 + i) 1) (by decide) rfl ?_
                  refine x_goto F (tgt := 38) dM_lost_91 (by decide) ?_
                  exact ih (i + 1) cq (by omega) (by omega) (by rw [hf, ct_s, if_neg (by rw [mLs, decide_eq_false c7]; simp)])
                · skip
                  have c7 : ct (mLk lF lC lT (nI k0) (cd (40 * k0 + i)) bb) ln 0 0 = 0 := by
                    exact (nI_eq (a := ct (mLk lF lC lT (nI k0) (cd (40 * k0 + i)) bb) ln 0 0) (b := 0) (by omega) (by omega)).mp c7
                  refine x_iconst F (v := nI (1)) dM_lost_81 (by decide) ?_
                  refine x_goto F (tgt := 86) dM_lost_82 (by decide) ?_
                  refine x_iadd F dM_lost_86 ?_
                  refine xW.toi (nI (cq + 1)) (nI_add _ _) ?_
                  refine x_istore_n F [(3, .int (nI (cq + 1))), (4, .int (nI (40 * k0 + i))), (0, .ref (a)), (1, .int (nI (k0))), (2, .int (bb))] dM_lost_87 rfl (by decide) rfl ?_
                  refine x_iinc F 1 [(4, .int (nI (40 * k0 + i + 1))), (3, .int (nI (cq + 1))), (0, .ref (a)), (1, .int (nI (k0))), (2, .int (bb))] dM_lost_88 rfl (nI_add (40 * k0 + i) 1) (by decide) rfl ?_
                  refine x_goto F (tgt := 38) dM_lost_91 (by decide) ?_
                  exact ih (i + 1) (cq + 1) (by omega) (by omega) (by rw [hf, ct_s, if_pos (by rw [mLs, decide_eq_true c6, decide_eq_true c7]; rfl)])
        refine x_iconst F (v := nI (0)) dM_lost_30 (by decide) ?_
        refine x_istore_n F [(3, .int (nI (0))), (0, .ref (a)), (1, .int (nI (k0))), (2, .int (bb))] dM_lost_31 rfl (by decide) rfl ?_
        refine x_bipush F (v := nI (40)) dM_lost_32 (by decide) ?_
        refine x_iload_n F 2 dM_lost_34 rfl rfl ?_
        refine x_imul F dM_lost_35 ?_
        refine xW.toi (nI ((40) * (k0))) (pk_mul _ _) ?_
        refine x_istore F [(4, .int (nI ((40) * (k0)))), (3, .int (nI (0))), (0, .ref (a)), (1, .int (nI (k0))), (2, .int (bb))] dM_lost_36 (by decide) rfl ?_
        exact loop (rw k0) 0 0 (by omega) (by omega) rfl
      · skip
        simp [edOk, c1, c2, c3] at hE
set_option maxHeartbeats 4000000 in
set_option maxRecDepth 100000 in
theorem cM_lostT (l : Launch) (nx : Nat) (M : xH) (a : Nat) (th : Int32) (sg : Nat → Int32) (sn pr : Nat) (fk fp : Int32) (rws : Nat → Int32) (cd : Nat → Int64) (ds wc : Nat → Int32) (wd : Nat → Int64) (nn : Nat) (nE : Nat → Int32) (nC : Nat → Int64) (nK : Nat → Int32) (nO : Nat → Int64) (ln : Nat) (lF : Nat → Int32) (lC : Nat → Int64) (lT : Nat → Int32) (lO : Nat → Int64) (fn : Nat) (fC : Nat → Int64) (fP : Nat → Int32) (ak : Nat → Int64) (ac : Nat) (pt : Nat → Int32) (hT : mAt M a th sg sn pr fk fp rws cd ds wc wd nn nE nC nK nO ln lF lC lT lO fn fC fP ak ac pt) (aa bb : Int32) (hE : edOk aa bb = false) : xC l xcl yM_lost (xw (Cond.code yM_lost bM_lost 5 (some .int))) ({ frames := 1, cells := 0, slots := 0, locals := 21 } : Room) [.ref (a), .int (aa), .int (bb)] nx M (mPost (some (.int (nI (0)))) nx M a ((nI (1))) sg sn pr fk fp rws cd ds wc wd nn nE nC nK nO ln lF lC lT lO fn fC fP ak ac pt) := by
  obtain ⟨h0, h1, h2, h3, h4, h5, h6, h7, h8, h9, h10, h11, h12, h13, h14, h15, h16, h17, h18, b1, b2, b3, b4, b5, b6⟩ := id hT
  refine yC (by decide) (Nat.le_of_ble_eq_true rfl) ?_
  intro p e s m args below meth c D F hr hn
  refine x_iload_n F 1 dM_lost_0 rfl rfl ?_
  refine yS (n := 1) (As := [.int (aa)]) F kmM_163 ktM_isEdition knM kcM_isEdition (by decide +kernel) dM_lost_1 (cM_isEd l (nx) M (aa)) rfl rfl (Nat.le_of_ble_eq_true rfl) ⟨Nat.le_of_ble_eq_true rfl, Nat.le_of_ble_eq_true rfl⟩ ⟨Nat.le_of_ble_eq_true rfl, Nat.le_of_ble_eq_true rfl⟩ ?_
  refine x_if_eq F (tgt := 19) dM_lost_4 (by decide) (fun c1 => ?_) (fun c1 => ?_)
  · skip
    have c1 : (inE (aa)) = false := bI_0 c1
    refine x_aload_n F 0 dM_lost_19 rfl rfl ?_
    refine x_iconst F (v := nI (1)) dM_lost_20 (by decide) ?_
    refine yVr (n := 1) (As := [.int (nI (1))]) (ci := 6) F kmM_152 kiM_refuse ksM_refuse knM kcM_refuse (by decide +kernel) dM_lost_21 (cM_refuse l (nx) M (a) th sg sn pr fk fp rws cd ds wc wd nn nE nC nK nO ln lF lC lT lO fn fC fP ak ac pt hT (nI (1))) rfl h0 rfl rfl (Nat.le_of_ble_eq_true rfl) ⟨Nat.le_of_ble_eq_true rfl, Nat.le_of_ble_eq_true rfl⟩ ⟨Nat.le_of_ble_eq_true rfl, Nat.le_of_ble_eq_true rfl⟩ (fun r' n' M392 hp => ?_)
    obtain ⟨hr', hn', hM392, hf392⟩ := hp
    rw [hn', hr']
    obtain ⟨v392_0, v392_1, v392_2, v392_3, v392_4, v392_5, v392_6, v392_7, v392_8, v392_9, v392_10, v392_11, v392_12, v392_13, v392_14, v392_15, v392_16, v392_17, v392_18, vb392_0, vb392_1, vb392_2, vb392_3, vb392_4, vb392_5⟩ := id hM392
    show xW p l e ({ frames := 1, cells := 0, slots := 0, locals := 21 } : Room) s m args below meth c D xcl (x_A M nx) 5 (MQ below (x_Q D xcl (x_A M nx) (mPost (some (.int (nI (0)))) nx M a ((nI (1))) sg sn pr fk fp rws cd ds wc wd nn nE nC nK nO ln lF lC lT lO fn fC fP ak ac pt)) args s 0 0 (x_A M nx)) 0 0 (nx) M392 24 [(0, .ref (a)), (1, .int (aa)), (2, .int (bb))] [.int (nI (0))]
    exact x_iret F hr dM_lost_24 (⟨rfl, rfl, ⟨v392_0, v392_1, v392_2, v392_3, v392_4, v392_5, v392_6, v392_7, v392_8, v392_9, v392_10, v392_11, v392_12, v392_13, v392_14, v392_15, v392_16, v392_17, v392_18, by omega, by omega, by omega, by omega, by omega, by omega⟩, fun b hb => (hf392 _ (by omega)).trans (rfl)⟩)
  · skip
    have c1 : (inE (aa)) = true := bI_1 c1
    refine x_iload_n F 2 dM_lost_7 rfl rfl ?_
    refine yS (n := 1) (As := [.int (bb)]) F kmM_163 ktM_isEdition knM kcM_isEdition (by decide +kernel) dM_lost_8 (cM_isEd l (nx) M (bb)) rfl rfl (Nat.le_of_ble_eq_true rfl) ⟨Nat.le_of_ble_eq_true rfl, Nat.le_of_ble_eq_true rfl⟩ ⟨Nat.le_of_ble_eq_true rfl, Nat.le_of_ble_eq_true rfl⟩ ?_
    refine x_if_eq F (tgt := 19) dM_lost_11 (by decide) (fun c2 => ?_) (fun c2 => ?_)
    · skip
      have c2 : (inE (bb)) = false := bI_0 c2
      refine x_aload_n F 0 dM_lost_19 rfl rfl ?_
      refine x_iconst F (v := nI (1)) dM_lost_20 (by decide) ?_
      refine yVr (n := 1) (As := [.int (nI (1))]) (ci := 6) F kmM_152 kiM_refuse ksM_refuse knM kcM_refuse (by decide +kernel) dM_lost_21 (cM_refuse l (nx) M (a) th sg sn pr fk fp rws cd ds wc wd nn nE nC nK nO ln lF lC lT lO fn fC fP ak ac pt hT (nI (1))) rfl h0 rfl rfl (Nat.le_of_ble_eq_true rfl) ⟨Nat.le_of_ble_eq_true rfl, Nat.le_of_ble_eq_true rfl⟩ ⟨Nat.le_of_ble_eq_true rfl, Nat.le_of_ble_eq_true rfl⟩ (fun r' n' M393 hp => ?_)
      obtain ⟨hr', hn', hM393, hf393⟩ := hp
      rw [hn', hr']
      obtain ⟨v393_0, v393_1, v393_2, v393_3, v393_4, v393_5, v393_6, v393_7, v393_8, v393_9, v393_10, v393_11, v393_12, v393_13, v393_14, v393_15, v393_16, v393_17, v393_18, vb393_0, vb393_1, vb393_2, vb393_3, vb393_4, vb393_5⟩ := id hM393
      show xW p l e ({ frames := 1, cells := 0, slots := 0, locals := 21 } : Room) s m args below meth c D xcl (x_A M nx) 5 (MQ below (x_Q D xcl (x_A M nx) (mPost (some (.int (nI (0)))) nx M a ((nI (1))) sg sn pr fk fp rws cd ds wc wd nn nE nC nK nO ln lF lC lT lO fn fC fP ak ac pt)) args s 0 0 (x_A M nx)) 0 0 (nx) M393 24 [(0, .ref (a)), (1, .int (aa)), (2, .int (bb))] [.int (nI (0))]
      exact x_iret F hr dM_lost_24 (⟨rfl, rfl, ⟨v393_0, v393_1, v393_2, v393_3, v393_4, v393_5, v393_6, v393_7, v393_8, v393_9, v393_10, v393_11, v393_12, v393_13, v393_14, v393_15, v393_16, v393_17, v393_18, by omega, by omega, by omega, by omega, by omega, by omega⟩, fun b hb => (hf393 _ (by omega)).trans (rfl)⟩)
    · skip
      have c2 : (inE (bb)) = true := bI_1 c2
      refine x_iload_n F 1 dM_lost_14 rfl rfl ?_
      refine x_iload_n F 2 dM_lost_15 rfl rfl ?_
      refine x_icmp_ne F (tgt := 25) dM_lost_16 (by decide) (fun c3 => ?_) (fun c3 => ?_)
      · skip
        simp [edOk, c1, c2, c3] at hE
      · skip
        refine x_aload_n F 0 dM_lost_19 rfl rfl ?_
        refine x_iconst F (v := nI (1)) dM_lost_20 (by decide) ?_
        refine yVr (n := 1) (As := [.int (nI (1))]) (ci := 6) F kmM_152 kiM_refuse ksM_refuse knM kcM_refuse (by decide +kernel) dM_lost_21 (cM_refuse l (nx) M (a) th sg sn pr fk fp rws cd ds wc wd nn nE nC nK nO ln lF lC lT lO fn fC fP ak ac pt hT (nI (1))) rfl h0 rfl rfl (Nat.le_of_ble_eq_true rfl) ⟨Nat.le_of_ble_eq_true rfl, Nat.le_of_ble_eq_true rfl⟩ ⟨Nat.le_of_ble_eq_true rfl, Nat.le_of_ble_eq_true rfl⟩ (fun r' n' M394 hp => ?_)
        obtain ⟨hr', hn', hM394, hf394⟩ := hp
        rw [hn', hr']
        obtain ⟨v394_0, v394_1, v394_2, v394_3, v394_4, v394_5, v394_6, v394_7, v394_8, v394_9, v394_10, v394_11, v394_12, v394_13, v394_14, v394_15, v394_16, v394_17, v394_18, vb394_0, vb394_1, vb394_2, vb394_3, vb394_4, vb394_5⟩ := id hM394
        show xW p l e ({ frames := 1, cells := 0, slots := 0, locals := 21 } : Room) s m args below meth c D xcl (x_A M nx) 5 (MQ below (x_Q D xcl (x_A M nx) (mPost (some (.int (nI (0)))) nx M a ((nI (1))) sg sn pr fk fp rws cd ds wc wd nn nE nC nK nO ln lF lC lT lO fn fC fP ak ac pt)) args s 0 0 (x_A M nx)) 0 0 (nx) M394 24 [(0, .ref (a)), (1, .int (aa)), (2, .int (bb))] [.int (nI (0))]
        exact x_iret F hr dM_lost_24 (⟨rfl, rfl, ⟨v394_0, v394_1, v394_2, v394_3, v394_4, v394_5, v394_6, v394_7, v394_8, v394_9, v394_10, v394_11, v394_12, v394_13, v394_14, v394_15, v394_16, v394_17, v394_18, by omega, by omega, by omega, by omega, by omega, by omega⟩, fun b hb => (hf394 _ (by omega)).trans (rfl)⟩)
set_option maxHeartbeats 4000000 in
set_option maxRecDepth 100000 in
theorem cM_found0 (l : Launch) (nx : Nat) (M : xH) (a : Nat) (th : Int32) (sg : Nat → Int32) (sn pr : Nat) (fk fp : Int32) (rws : Nat → Int32) (cd : Nat → Int64) (ds wc : Nat → Int32) (wd : Nat → Int64) (nn : Nat) (nE : Nat → Int32) (nC : Nat → Int64) (nK : Nat → Int32) (nO : Nat → Int64) (ln : Nat) (lF : Nat → Int32) (lC : Nat → Int64) (lT : Nat → Int32) (lO : Nat → Int64) (fn : Nat) (fC : Nat → Int64) (fP : Nat → Int32) (ak : Nat → Int64) (ac : Nat) (pt : Nat → Int32) (hT : mAt M a th sg sn pr fk fp rws cd ds wc wd nn nE nC nK nO ln lF lC lT lO fn fC fP ak ac pt) (k : Nat) (hk : k < fn) : xC l xcl yM_found (xw (Cond.code yM_found bM_found 3 (some .long))) ({ frames := 1, cells := 0, slots := 0, locals := 22 } : Room) [.ref (a), .int (nI (k)), .int (nI (0))] nx M (mPost (some (.long (fC k))) nx M a ((nI (0))) sg sn pr fk fp rws cd ds wc wd nn nE nC nK nO ln lF lC lT lO fn fC fP ak ac pt) := by
  obtain ⟨h0, h1, h2, h3, h4, h5, h6, h7, h8, h9, h10, h11, h12, h13, h14, h15, h16, h17, h18, b1, b2, b3, b4, b5, b6⟩ := id hT
  refine yC (by decide) (Nat.le_of_ble_eq_true rfl) ?_
  intro p e s m args below meth c D F hr hn
  refine x_aload_n F 0 dM_found_0 rfl rfl ?_
  refine x_iload_n F 1 dM_found_1 rfl rfl ?_
  refine x_if_lt F (tgt := 26) dM_found_2 (by decide) (fun c1 => ?_) (fun c1 => ?_)
  · skip
    have c1 : k < 0 := by
      exact (nI_ltI (a := k) (b := 0) (by omega) (by omega)).mp c1
    exact absurd c1 (by omega)
  · skip
    have c1 : 0 ≤ k := by
      have z : ¬ (k < 0) := fun zz => c1 ((nI_ltI (a := k) (b := 0) (by omega) (by omega)).mpr zz)
      omega
    refine x_iload_n F 1 dM_found_5 rfl rfl ?_
    refine x_aload_n F 0 dM_found_6 rfl rfl ?_
    refine x_get (ci := 6) F 21 (x_in inM) rfl (by decide) (x_m kfM_204) dM_found_7 h0 rfl ?_
    refine x_icmp_ge F (tgt := 26) dM_found_10 (by decide) (fun c2 => ?_) (fun c2 => ?_)
    · skip
      have c2 : fn ≤ k := by
        exact (nI_leI (a := fn) (b := k) (by omega) (by omega)).mp c2
      exact absurd c2 (by omega)
    · skip
      have c2 : k < fn := by
        have z : ¬ (fn ≤ k) := fun zz => c2 ((nI_leI (a := fn) (b := k) (by omega) (by omega)).mpr zz)
        omega
      refine x_iload_n F 2 dM_found_13 rfl rfl ?_
      refine x_iconst F (v := nI (0)) dM_found_14 (by decide) ?_
      refine x_iconst F (v := nI (1)) dM_found_15 (by decide) ?_
      refine yS (n := 3) (As := [.int (nI (0)), .int (nI (0)), .int (nI (1))]) F kmM_72 ktM_in knM kcM_in (by decide +kernel) dM_found_16 (cM_inN l (nx) M (0) (0) (1) (by omega) (by omega) (by omega)) rfl rfl (Nat.le_of_ble_eq_true rfl) ⟨Nat.le_of_ble_eq_true rfl, Nat.le_of_ble_eq_true rfl⟩ ⟨Nat.le_of_ble_eq_true rfl, Nat.le_of_ble_eq_true rfl⟩ ?_
      refine x_if_eq F (tgt := 26) dM_found_19 (by decide) (fun c3 => ?_) (fun c3 => ?_)
      · skip
        have c3 : (decide ((0) ≤ (0)) && decide ((0) ≤ (1))) = false := bI_0 c3
        simp at c3
      · skip
        have c3 : (decide ((0) ≤ (0)) && decide ((0) ≤ (1))) = true := bI_1 c3
        refine x_iconst F (v := nI (0)) dM_found_22 (by decide) ?_
        refine x_goto F (tgt := 27) dM_found_23 (by decide) ?_
        refine x_put (ci := 6) (ty := .int) F 0 (x_in inM) tM tM_ok nM rfl (by decide) (x_m kfM_69) dM_found_27 rfl (by decide +kernel) rfl rfl h0 (Nat.le_of_ble_eq_true rfl) ?_
        show xW p l e ({ frames := 1, cells := 0, slots := 0, locals := 22 } : Room) s m args below meth c D xcl (x_A M nx) 3 (MQ below (x_Q D xcl (x_A M nx) (mPost (some (.long (fC k))) nx M a ((nI (0))) sg sn pr fk fp rws cd ds wc wd nn nE nC nK nO ln lF lC lT lO fn fC fP ak ac pt)) args s 0 0 (x_A M nx)) 0 0 (nx) (x_up M (a) (.inr (6, [.int (nI (0)), .ref (a + 1), .int (nI (sn)), .int (nI (pr)), .int (fk), .int (fp), .ref (a + 2), .ref (a + 3), .ref (a + 4), .ref (a + 5), .ref (a + 6), .int (nI (nn)), .ref (a + 7), .ref (a + 8), .ref (a + 9), .ref (a + 10), .int (nI (ln)), .ref (a + 11), .ref (a + 12), .ref (a + 13), .ref (a + 14), .int (nI (fn)), .ref (a + 15), .ref (a + 16), .ref (a + 17), .int (nI (ac)), .ref (a + 18)]))) 30 [(0, .ref (a)), (1, .int (nI (k))), (2, .int (nI (0)))] []
        refine x_aload_n F 0 dM_found_30 rfl rfl ?_
        refine x_get (ci := 6) F 0 (x_in inM) rfl (by decide) (x_m kfM_69) dM_found_31 x_up_s rfl ?_
        refine x_if_le F (tgt := 41) dM_found_34 (by decide) (fun c4 => ?_) (fun c4 => ?_)
        · skip
          have c4 : 0 ≤ 0 := by
            exact (nI_leI (a := 0) (b := 0) (by omega) (by omega)).mp c4
          refine x_iload_n F 2 dM_found_41 rfl rfl ?_
          refine x_if_ne F (tgt := 54) dM_found_42 (by decide) (fun c5 => ?_) (fun c5 => ?_)
          · skip
            have c5 : 0 ≠ 0 := by
              have z : ¬ (0 = 0) := fun zz => c5 ((nI_eq (a := 0) (b := 0) (by omega) (by omega)).mpr zz)
              omega
            exact absurd c5 (by decide)
          · skip
            have c5 : 0 = 0 := by
              exact (nI_eq (a := 0) (b := 0) (by omega) (by omega)).mp c5
            refine x_aload_n F 0 dM_found_45 rfl rfl ?_
            refine x_get (ci := 6) F 22 (x_in inM) rfl (by decide) (x_m kfM_57) dM_found_46 x_up_s rfl ?_
            refine x_iload_n F 1 dM_found_49 rfl rfl ?_
            refine x_lald F dM_found_50 (x_up_k h15 (by omega)) (pk_in (k) (40) (by omega)) ?_
            refine xW.tol ((fC) (k)) (by rw [nI_clamp (by omega)]) ?_
            refine x_goto F (tgt := 61) dM_found_51 (by decide) ?_
            exact x_lret F hr dM_found_61 (⟨rfl, rfl, ⟨x_up_s, (x_up_k h1 (by omega)), (x_up_k h2 (by omega)), (x_up_k h3 (by omega)), (x_up_k h4 (by omega)), (x_up_k h5 (by omega)), (x_up_k h6 (by omega)), (x_up_k h7 (by omega)), (x_up_k h8 (by omega)), (x_up_k h9 (by omega)), (x_up_k h10 (by omega)), (x_up_k h11 (by omega)), (x_up_k h12 (by omega)), (x_up_k h13 (by omega)), (x_up_k h14 (by omega)), (x_up_k h15 (by omega)), (x_up_k h16 (by omega)), (x_up_k h17 (by omega)), (x_up_k h18 (by omega)), by omega, by omega, by omega, by omega, by omega, by omega⟩, fun b hb => (x_up_n (by omega)).trans (rfl)⟩)
        · skip
          have c4 : 0 < 0 := by
            have z : ¬ (0 ≤ 0) := fun zz => c4 ((nI_leI (a := 0) (b := 0) (by omega) (by omega)).mpr zz)
            omega
          exact absurd c4 (by decide)
set_option maxHeartbeats 4000000 in
set_option maxRecDepth 100000 in
theorem cM_found1 (l : Launch) (nx : Nat) (M : xH) (a : Nat) (th : Int32) (sg : Nat → Int32) (sn pr : Nat) (fk fp : Int32) (rws : Nat → Int32) (cd : Nat → Int64) (ds wc : Nat → Int32) (wd : Nat → Int64) (nn : Nat) (nE : Nat → Int32) (nC : Nat → Int64) (nK : Nat → Int32) (nO : Nat → Int64) (ln : Nat) (lF : Nat → Int32) (lC : Nat → Int64) (lT : Nat → Int32) (lO : Nat → Int64) (fn : Nat) (fC : Nat → Int64) (fP : Nat → Int32) (ak : Nat → Int64) (ac : Nat) (pt : Nat → Int32) (hT : mAt M a th sg sn pr fk fp rws cd ds wc wd nn nE nC nK nO ln lF lC lT lO fn fC fP ak ac pt) (k : Nat) (hk : k < fn) : xC l xcl yM_found (xw (Cond.code yM_found bM_found 3 (some .long))) ({ frames := 1, cells := 0, slots := 0, locals := 22 } : Room) [.ref (a), .int (nI (k)), .int (nI (1))] nx M (mPost (some (.long ((fP k).toInt64))) nx M a ((nI (0))) sg sn pr fk fp rws cd ds wc wd nn nE nC nK nO ln lF lC lT lO fn fC fP ak ac pt) := by
  obtain ⟨h0, h1, h2, h3, h4, h5, h6, h7, h8, h9, h10, h11, h12, h13, h14, h15, h16, h17, h18, b1, b2, b3, b4, b5, b6⟩ := id hT
  refine yC (by decide) (Nat.le_of_ble_eq_true rfl) ?_
  intro p e s m args below meth c D F hr hn
  refine x_aload_n F 0 dM_found_0 rfl rfl ?_
  refine x_iload_n F 1 dM_found_1 rfl rfl ?_
  refine x_if_lt F (tgt := 26) dM_found_2 (by decide) (fun c1 => ?_) (fun c1 => ?_)
  · skip
    have c1 : k < 0 := by
      exact (nI_ltI (a := k) (b := 0) (by omega) (by omega)).mp c1
    exact absurd c1 (by omega)
  · skip
    have c1 : 0 ≤ k := by
      have z : ¬ (k < 0) := fun zz => c1 ((nI_ltI (a := k) (b := 0) (by omega) (by omega)).mpr zz)
      omega
    refine x_iload_n F 1 dM_found_5 rfl rfl ?_
    refine x_aload_n F 0 dM_found_6 rfl rfl ?_
    refine x_get (ci := 6) F 21 (x_in inM) rfl (by decide) (x_m kfM_204) dM_found_7 h0 rfl ?_
    refine x_icmp_ge F (tgt := 26) dM_found_10 (by decide) (fun c2 => ?_) (fun c2 => ?_)
    · skip
      have c2 : fn ≤ k := by
        exact (nI_leI (a := fn) (b := k) (by omega) (by omega)).mp c2
      exact absurd c2 (by omega)
    · skip
      have c2 : k < fn := by
        have z : ¬ (fn ≤ k) := fun zz => c2 ((nI_leI (a := fn) (b := k) (by omega) (by omega)).mpr zz)
        omega
      refine x_iload_n F 2 dM_found_13 rfl rfl ?_
      refine x_iconst F (v := nI (0)) dM_found_14 (by decide) ?_
      refine x_iconst F (v := nI (1)) dM_found_15 (by decide) ?_
      refine yS (n := 3) (As := [.int (nI (1)), .int (nI (0)), .int (nI (1))]) F kmM_72 ktM_in knM kcM_in (by decide +kernel) dM_found_16 (cM_inN l (nx) M (1) (0) (1) (by omega) (by omega) (by omega)) rfl rfl (Nat.le_of_ble_eq_true rfl) ⟨Nat.le_of_ble_eq_true rfl, Nat.le_of_ble_eq_true rfl⟩ ⟨Nat.le_of_ble_eq_true rfl, Nat.le_of_ble_eq_true rfl⟩ ?_
      refine x_if_eq F (tgt := 26) dM_found_19 (by decide) (fun c3 => ?_) (fun c3 => ?_)
      · skip
        have c3 : (decide ((0) ≤ (1)) && decide ((1) ≤ (1))) = false := bI_0 c3
        simp at c3
      · skip
        have c3 : (decide ((0) ≤ (1)) && decide ((1) ≤ (1))) = true := bI_1 c3
        refine x_iconst F (v := nI (0)) dM_found_22 (by decide) ?_
        refine x_goto F (tgt := 27) dM_found_23 (by decide) ?_
        refine x_put (ci := 6) (ty := .int) F 0 (x_in inM) tM tM_ok nM rfl (by decide) (x_m kfM_69) dM_found_27 rfl (by decide +kernel) rfl rfl h0 (Nat.le_of_ble_eq_true rfl) ?_
        show xW p l e ({ frames := 1, cells := 0, slots := 0, locals := 22 } : Room) s m args below meth c D xcl (x_A M nx) 3 (MQ below (x_Q D xcl (x_A M nx) (mPost (some (.long ((fP k).toInt64))) nx M a ((nI (0))) sg sn pr fk fp rws cd ds wc wd nn nE nC nK nO ln lF lC lT lO fn fC fP ak ac pt)) args s 0 0 (x_A M nx)) 0 0 (nx) (x_up M (a) (.inr (6, [.int (nI (0)), .ref (a + 1), .int (nI (sn)), .int (nI (pr)), .int (fk), .int (fp), .ref (a + 2), .ref (a + 3), .ref (a + 4), .ref (a + 5), .ref (a + 6), .int (nI (nn)), .ref (a + 7), .ref (a + 8), .ref (a + 9), .ref (a + 10), .int (nI (ln)), .ref (a + 11), .ref (a + 12), .ref (a + 13), .ref (a + 14), .int (nI (fn)), .ref (a + 15), .ref (a + 16), .ref (a + 17), .int (nI (ac)), .ref (a + 18)]))) 30 [(0, .ref (a)), (1, .int (nI (k))), (2, .int (nI (1)))] []
        refine x_aload_n F 0 dM_found_30 rfl rfl ?_
        refine x_get (ci := 6) F 0 (x_in inM) rfl (by decide) (x_m kfM_69) dM_found_31 x_up_s rfl ?_
        refine x_if_le F (tgt := 41) dM_found_34 (by decide) (fun c4 => ?_) (fun c4 => ?_)
        · skip
          have c4 : 0 ≤ 0 := by
            exact (nI_leI (a := 0) (b := 0) (by omega) (by omega)).mp c4
          refine x_iload_n F 2 dM_found_41 rfl rfl ?_
          refine x_if_ne F (tgt := 54) dM_found_42 (by decide) (fun c5 => ?_) (fun c5 => ?_)
          · skip
            have c5 : 1 ≠ 0 := by
              have z : ¬ (1 = 0) := fun zz => c5 ((nI_eq (a := 1) (b := 0) (by omega) (by omega)).mpr zz)
              omega
            refine x_aload_n F 0 dM_found_54 rfl rfl ?_
            refine x_get (ci := 6) F 23 (x_in inM) rfl (by decide) (x_m kfM_60) dM_found_55 x_up_s rfl ?_
            refine x_iload_n F 1 dM_found_58 rfl rfl ?_
            refine x_iald F dM_found_59 (x_up_k h16 (by omega)) (pk_in (k) (40) (by omega)) ?_
            refine xW.toi ((fP) (k)) (by rw [nI_clamp (by omega)]) ?_
            refine x_i2l F dM_found_60 ?_
            exact x_lret F hr dM_found_61 (⟨rfl, rfl, ⟨x_up_s, (x_up_k h1 (by omega)), (x_up_k h2 (by omega)), (x_up_k h3 (by omega)), (x_up_k h4 (by omega)), (x_up_k h5 (by omega)), (x_up_k h6 (by omega)), (x_up_k h7 (by omega)), (x_up_k h8 (by omega)), (x_up_k h9 (by omega)), (x_up_k h10 (by omega)), (x_up_k h11 (by omega)), (x_up_k h12 (by omega)), (x_up_k h13 (by omega)), (x_up_k h14 (by omega)), (x_up_k h15 (by omega)), (x_up_k h16 (by omega)), (x_up_k h17 (by omega)), (x_up_k h18 (by omega)), by omega, by omega, by omega, by omega, by omega, by omega⟩, fun b hb => (x_up_n (by omega)).trans (rfl)⟩)
          · skip
            have c5 : 1 = 0 := by
              exact (nI_eq (a := 1) (b := 0) (by omega) (by omega)).mp c5
            exact absurd c5 (by decide)
        · skip
          have c4 : 0 < 0 := by
            have z : ¬ (0 ≤ 0) := fun zz => c4 ((nI_leI (a := 0) (b := 0) (by omega) (by omega)).mpr zz)
            omega
          exact absurd c4 (by decide)
set_option maxHeartbeats 4000000 in
set_option maxRecDepth 100000 in
theorem cM_foundT (l : Launch) (nx : Nat) (M : xH) (a : Nat) (th : Int32) (sg : Nat → Int32) (sn pr : Nat) (fk fp : Int32) (rws : Nat → Int32) (cd : Nat → Int64) (ds wc : Nat → Int32) (wd : Nat → Int64) (nn : Nat) (nE : Nat → Int32) (nC : Nat → Int64) (nK : Nat → Int32) (nO : Nat → Int64) (ln : Nat) (lF : Nat → Int32) (lC : Nat → Int64) (lT : Nat → Int32) (lO : Nat → Int64) (fn : Nat) (fC : Nat → Int64) (fP : Nat → Int32) (ak : Nat → Int64) (ac : Nat) (pt : Nat → Int32) (hT : mAt M a th sg sn pr fk fp rws cd ds wc wd nn nE nC nK nO ln lF lC lT lO fn fC fP ak ac pt) (i : Int32) (hi : ¬ vp_in i fn) (wh : Int32) : xC l xcl yM_found (xw (Cond.code yM_found bM_found 3 (some .long))) ({ frames := 0, cells := 0, slots := 0, locals := 0 } : Room) [.ref (a), .int (i), .int (wh)] nx M (mPost (some (.long (0))) nx M a ((nI (1))) sg sn pr fk fp rws cd ds wc wd nn nE nC nK nO ln lF lC lT lO fn fC fP ak ac pt) := by
  obtain ⟨h0, h1, h2, h3, h4, h5, h6, h7, h8, h9, h10, h11, h12, h13, h14, h15, h16, h17, h18, b1, b2, b3, b4, b5, b6⟩ := id hT
  refine yC (by decide) (Nat.le_of_ble_eq_true rfl) ?_
  intro p e s m args below meth c D F hr hn
  refine x_aload_n F 0 dM_found_0 rfl rfl ?_
  refine x_iload_n F 1 dM_found_1 rfl rfl ?_
  refine x_if_lt F (tgt := 26) dM_found_2 (by decide) (fun c1 => ?_) (fun c1 => ?_)
  · skip
    refine x_iconst F (v := nI (1)) dM_found_26 (by decide) ?_
    refine x_put (ci := 6) (ty := .int) F 0 (x_in inM) tM tM_ok nM rfl (by decide) (x_m kfM_69) dM_found_27 rfl (by decide +kernel) rfl rfl h0 (Nat.le_of_ble_eq_true rfl) ?_
    show xW p l e ({ frames := 0, cells := 0, slots := 0, locals := 0 } : Room) s m args below meth c D xcl (x_A M nx) 3 (MQ below (x_Q D xcl (x_A M nx) (mPost (some (.long (0))) nx M a ((nI (1))) sg sn pr fk fp rws cd ds wc wd nn nE nC nK nO ln lF lC lT lO fn fC fP ak ac pt)) args s 0 0 (x_A M nx)) 0 0 (nx) (x_up M (a) (.inr (6, [.int (nI (1)), .ref (a + 1), .int (nI (sn)), .int (nI (pr)), .int (fk), .int (fp), .ref (a + 2), .ref (a + 3), .ref (a + 4), .ref (a + 5), .ref (a + 6), .int (nI (nn)), .ref (a + 7), .ref (a + 8), .ref (a + 9), .ref (a + 10), .int (nI (ln)), .ref (a + 11), .ref (a + 12), .ref (a + 13), .ref (a + 14), .int (nI (fn)), .ref (a + 15), .ref (a + 16), .ref (a + 17), .int (nI (ac)), .ref (a + 18)]))) 30 [(0, .ref (a)), (1, .int (i)), (2, .int (wh))] []
    refine x_aload_n F 0 dM_found_30 rfl rfl ?_
    refine x_get (ci := 6) F 0 (x_in inM) rfl (by decide) (x_m kfM_69) dM_found_31 x_up_s rfl ?_
    refine x_if_le F (tgt := 41) dM_found_34 (by decide) (fun c2 => ?_) (fun c2 => ?_)
    · skip
      have c2 : 1 ≤ 0 := by
        exact (nI_leI (a := 1) (b := 0) (by omega) (by omega)).mp c2
      exact absurd c2 (by decide)
    · skip
      have c2 : 0 < 1 := by
        have z : ¬ (1 ≤ 0) := fun zz => c2 ((nI_leI (a := 1) (b := 0) (by omega) (by omega)).mpr zz)
        omega
      refine x_lconst F (v := 0) dM_found_37 (by decide) ?_
      refine x_goto F (tgt := 61) dM_found_38 (by decide) ?_
      exact x_lret F hr dM_found_61 (⟨rfl, rfl, ⟨x_up_s, (x_up_k h1 (by omega)), (x_up_k h2 (by omega)), (x_up_k h3 (by omega)), (x_up_k h4 (by omega)), (x_up_k h5 (by omega)), (x_up_k h6 (by omega)), (x_up_k h7 (by omega)), (x_up_k h8 (by omega)), (x_up_k h9 (by omega)), (x_up_k h10 (by omega)), (x_up_k h11 (by omega)), (x_up_k h12 (by omega)), (x_up_k h13 (by omega)), (x_up_k h14 (by omega)), (x_up_k h15 (by omega)), (x_up_k h16 (by omega)), (x_up_k h17 (by omega)), (x_up_k h18 (by omega)), by omega, by omega, by omega, by omega, by omega, by omega⟩, fun b hb => (x_up_n (by omega)).trans (rfl)⟩)
  · skip
    refine x_iload_n F 1 dM_found_5 rfl rfl ?_
    refine x_aload_n F 0 dM_found_6 rfl rfl ?_
    refine x_get (ci := 6) F 21 (x_in inM) rfl (by decide) (x_m kfM_204) dM_found_7 h0 rfl ?_
    refine x_icmp_ge F (tgt := 26) dM_found_10 (by decide) (fun c3 => ?_) (fun c3 => ?_)
    · skip
      refine x_iconst F (v := nI (1)) dM_found_26 (by decide) ?_
      refine x_put (ci := 6) (ty := .int) F 0 (x_in inM) tM tM_ok nM rfl (by decide) (x_m kfM_69) dM_found_27 rfl (by decide +kernel) rfl rfl h0 (Nat.le_of_ble_eq_true rfl) ?_
      show xW p l e ({ frames := 0, cells := 0, slots := 0, locals := 0 } : Room) s m args below meth c D xcl (x_A M nx) 3 (MQ below (x_Q D xcl (x_A M nx) (mPost (some (.long (0))) nx M a ((nI (1))) sg sn pr fk fp rws cd ds wc wd nn nE nC nK nO ln lF lC lT lO fn fC fP ak ac pt)) args s 0 0 (x_A M nx)) 0 0 (nx) (x_up M (a) (.inr (6, [.int (nI (1)), .ref (a + 1), .int (nI (sn)), .int (nI (pr)), .int (fk), .int (fp), .ref (a + 2), .ref (a + 3), .ref (a + 4), .ref (a + 5), .ref (a + 6), .int (nI (nn)), .ref (a + 7), .ref (a + 8), .ref (a + 9), .ref (a + 10), .int (nI (ln)), .ref (a + 11), .ref (a + 12), .ref (a + 13), .ref (a + 14), .int (nI (fn)), .ref (a + 15), .ref (a + 16), .ref (a + 17), .int (nI (ac)), .ref (a + 18)]))) 30 [(0, .ref (a)), (1, .int (i)), (2, .int (wh))] []
      refine x_aload_n F 0 dM_found_30 rfl rfl ?_
      refine x_get (ci := 6) F 0 (x_in inM) rfl (by decide) (x_m kfM_69) dM_found_31 x_up_s rfl ?_
      refine x_if_le F (tgt := 41) dM_found_34 (by decide) (fun c4 => ?_) (fun c4 => ?_)
      · skip
        have c4 : 1 ≤ 0 := by
          exact (nI_leI (a := 1) (b := 0) (by omega) (by omega)).mp c4
        exact absurd c4 (by decide)
      · skip
        have c4 : 0 < 1 := by
          have z : ¬ (1 ≤ 0) := fun zz => c4 ((nI_leI (a := 1) (b := 0) (by omega) (by omega)).mpr zz)
          omega
        refine x_lconst F (v := 0) dM_found_37 (by decide) ?_
        refine x_goto F (tgt := 61) dM_found_38 (by decide) ?_
        exact x_lret F hr dM_found_61 (⟨rfl, rfl, ⟨x_up_s, (x_up_k h1 (by omega)), (x_up_k h2 (by omega)), (x_up_k h3 (by omega)), (x_up_k h4 (by omega)), (x_up_k h5 (by omega)), (x_up_k h6 (by omega)), (x_up_k h7 (by omega)), (x_up_k h8 (by omega)), (x_up_k h9 (by omega)), (x_up_k h10 (by omega)), (x_up_k h11 (by omega)), (x_up_k h12 (by omega)), (x_up_k h13 (by omega)), (x_up_k h14 (by omega)), (x_up_k h15 (by omega)), (x_up_k h16 (by omega)), (x_up_k h17 (by omega)), (x_up_k h18 (by omega)), by omega, by omega, by omega, by omega, by omega, by omega⟩, fun b hb => (x_up_n (by omega)).trans (rfl)⟩)
    · skip
      exact absurd (x_out (by omega) hi c1 c3) id
set_option maxHeartbeats 4000000 in
set_option maxRecDepth 100000 in
theorem cM_foundW (l : Launch) (nx : Nat) (M : xH) (a : Nat) (th : Int32) (sg : Nat → Int32) (sn pr : Nat) (fk fp : Int32) (rws : Nat → Int32) (cd : Nat → Int64) (ds wc : Nat → Int32) (wd : Nat → Int64) (nn : Nat) (nE : Nat → Int32) (nC : Nat → Int64) (nK : Nat → Int32) (nO : Nat → Int64) (ln : Nat) (lF : Nat → Int32) (lC : Nat → Int64) (lT : Nat → Int32) (lO : Nat → Int64) (fn : Nat) (fC : Nat → Int64) (fP : Nat → Int32) (ak : Nat → Int64) (ac : Nat) (pt : Nat → Int32) (hT : mAt M a th sg sn pr fk fp rws cd ds wc wd nn nE nC nK nO ln lF lC lT lO fn fC fP ak ac pt) (k : Nat) (hk : k < fn) (wh : Int32) (hw2 : ¬ vp_in wh 2) : xC l xcl yM_found (xw (Cond.code yM_found bM_found 3 (some .long))) ({ frames := 1, cells := 0, slots := 0, locals := 22 } : Room) [.ref (a), .int (nI (k)), .int (wh)] nx M (mPost (some (.long (0))) nx M a ((nI (1))) sg sn pr fk fp rws cd ds wc wd nn nE nC nK nO ln lF lC lT lO fn fC fP ak ac pt) := by
  obtain ⟨h0, h1, h2, h3, h4, h5, h6, h7, h8, h9, h10, h11, h12, h13, h14, h15, h16, h17, h18, b1, b2, b3, b4, b5, b6⟩ := id hT
  refine yC (by decide) (Nat.le_of_ble_eq_true rfl) ?_
  intro p e s m args below meth c D F hr hn
  refine x_aload_n F 0 dM_found_0 rfl rfl ?_
  refine x_iload_n F 1 dM_found_1 rfl rfl ?_
  refine x_if_lt F (tgt := 26) dM_found_2 (by decide) (fun c1 => ?_) (fun c1 => ?_)
  · skip
    have c1 : k < 0 := by
      exact (nI_ltI (a := k) (b := 0) (by omega) (by omega)).mp c1
    exact absurd c1 (by omega)
  · skip
    have c1 : 0 ≤ k := by
      have z : ¬ (k < 0) := fun zz => c1 ((nI_ltI (a := k) (b := 0) (by omega) (by omega)).mpr zz)
      omega
    refine x_iload_n F 1 dM_found_5 rfl rfl ?_
    refine x_aload_n F 0 dM_found_6 rfl rfl ?_
    refine x_get (ci := 6) F 21 (x_in inM) rfl (by decide) (x_m kfM_204) dM_found_7 h0 rfl ?_
    refine x_icmp_ge F (tgt := 26) dM_found_10 (by decide) (fun c2 => ?_) (fun c2 => ?_)
    · skip
      have c2 : fn ≤ k := by
        exact (nI_leI (a := fn) (b := k) (by omega) (by omega)).mp c2
      exact absurd c2 (by omega)
    · skip
      have c2 : k < fn := by
        have z : ¬ (fn ≤ k) := fun zz => c2 ((nI_leI (a := fn) (b := k) (by omega) (by omega)).mpr zz)
        omega
      refine x_iload_n F 2 dM_found_13 rfl rfl ?_
      refine x_iconst F (v := nI (0)) dM_found_14 (by decide) ?_
      refine x_iconst F (v := nI (1)) dM_found_15 (by decide) ?_
      refine yS (n := 3) (As := [.int (wh), .int (nI (0)), .int (nI (1))]) F kmM_72 ktM_in knM kcM_in (by decide +kernel) dM_found_16 (cM_in l (nx) M (wh) (nI (0)) (nI (1))) rfl rfl (Nat.le_of_ble_eq_true rfl) ⟨Nat.le_of_ble_eq_true rfl, Nat.le_of_ble_eq_true rfl⟩ ⟨Nat.le_of_ble_eq_true rfl, Nat.le_of_ble_eq_true rfl⟩ ?_
      refine x_if_eq F (tgt := 26) dM_found_19 (by decide) (fun c3 => ?_) (fun c3 => ?_)
      · skip
        have c3 : (decide ((nI (0)) ≤ (wh)) && decide ((wh) ≤ (nI (1)))) = false := bI_0 c3
        refine x_iconst F (v := nI (1)) dM_found_26 (by decide) ?_
        refine x_put (ci := 6) (ty := .int) F 0 (x_in inM) tM tM_ok nM rfl (by decide) (x_m kfM_69) dM_found_27 rfl (by decide +kernel) rfl rfl h0 (Nat.le_of_ble_eq_true rfl) ?_
        show xW p l e ({ frames := 1, cells := 0, slots := 0, locals := 22 } : Room) s m args below meth c D xcl (x_A M nx) 3 (MQ below (x_Q D xcl (x_A M nx) (mPost (some (.long (0))) nx M a ((nI (1))) sg sn pr fk fp rws cd ds wc wd nn nE nC nK nO ln lF lC lT lO fn fC fP ak ac pt)) args s 0 0 (x_A M nx)) 0 0 (nx) (x_up M (a) (.inr (6, [.int (nI (1)), .ref (a + 1), .int (nI (sn)), .int (nI (pr)), .int (fk), .int (fp), .ref (a + 2), .ref (a + 3), .ref (a + 4), .ref (a + 5), .ref (a + 6), .int (nI (nn)), .ref (a + 7), .ref (a + 8), .ref (a + 9), .ref (a + 10), .int (nI (ln)), .ref (a + 11), .ref (a + 12), .ref (a + 13), .ref (a + 14), .int (nI (fn)), .ref (a + 15), .ref (a + 16), .ref (a + 17), .int (nI (ac)), .ref (a + 18)]))) 30 [(0, .ref (a)), (1, .int (nI (k))), (2, .int (wh))] []
        refine x_aload_n F 0 dM_found_30 rfl rfl ?_
        refine x_get (ci := 6) F 0 (x_in inM) rfl (by decide) (x_m kfM_69) dM_found_31 x_up_s rfl ?_
        refine x_if_le F (tgt := 41) dM_found_34 (by decide) (fun c4 => ?_) (fun c4 => ?_)
        · skip
          have c4 : 1 ≤ 0 := by
            exact (nI_leI (a := 1) (b := 0) (by omega) (by omega)).mp c4
          exact absurd c4 (by decide)
        · skip
          have c4 : 0 < 1 := by
            have z : ¬ (1 ≤ 0) := fun zz => c4 ((nI_leI (a := 1) (b := 0) (by omega) (by omega)).mpr zz)
            omega
          refine x_lconst F (v := 0) dM_found_37 (by decide) ?_
          refine x_goto F (tgt := 61) dM_found_38 (by decide) ?_
          exact x_lret F hr dM_found_61 (⟨rfl, rfl, ⟨x_up_s, (x_up_k h1 (by omega)), (x_up_k h2 (by omega)), (x_up_k h3 (by omega)), (x_up_k h4 (by omega)), (x_up_k h5 (by omega)), (x_up_k h6 (by omega)), (x_up_k h7 (by omega)), (x_up_k h8 (by omega)), (x_up_k h9 (by omega)), (x_up_k h10 (by omega)), (x_up_k h11 (by omega)), (x_up_k h12 (by omega)), (x_up_k h13 (by omega)), (x_up_k h14 (by omega)), (x_up_k h15 (by omega)), (x_up_k h16 (by omega)), (x_up_k h17 (by omega)), (x_up_k h18 (by omega)), by omega, by omega, by omega, by omega, by omega, by omega⟩, fun b hb => (x_up_n (by omega)).trans (rfl)⟩)
      · skip
        have c3 : (decide ((nI (0)) ≤ (wh)) && decide ((wh) ≤ (nI (1)))) = true := bI_1 c3
        rw [in_F (n := 1) (by decide) hw2] at c3
        cases c3
