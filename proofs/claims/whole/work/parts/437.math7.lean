/-! THE RELATION of a class's state and a reference's -/
def RL (γ : gS) (sg : Nat → Int32) (sn pr : Nat) (fk fp : Int32) (rws : Nat → Int32) (rw : Nat → Nat) (cd : Nat → Int64) (ds wc : Nat → Int32) (wd : Nat → Int64) (nn : Nat) (nE : Nat → Int32) (nC : Nat → Int64) (nK : Nat → Int32) (nO : Nat → Int64) (ln : Nat) (lF : Nat → Int32) (lC : Nat → Int64) (lT : Nat → Int32) (lO : Nat → Int64) (fn : Nat) (fC : Nat → Int64) (fP : Nat → Int32) : Prop :=
  (γ.2.1 = pr ∧ pr < 3) ∧ (γ.2.2.1.2.2.2.1 = sn ∧ γ.2.2.1.2.2.2.2.2.1 = fk ∧ γ.2.2.1.2.2.2.2.2.2 = fp ∧ ∃ tx : Nat → Nat, sAt γ.2.2.1.1 tx sn ∧ sAt sg tx sn ∧ ∀ i, i < sn → 0 < tx i) ∧ mR rws rw ∧ (∀ e, e < 3 → rw e = (γ.2.2.2.1 e).2.2.2.2.2.2.1 ∧ ∃ xs dg dd wn : Nat → Nat, tI (γ.2.2.2.1 e) xs dg dd wn ∧ ag (γ.2.2.2.1 e) wn cd ds wc wd (40 * e)) ∧ pE γ.2.2.2.2.1 nn nE nC nK nO ∧ pE γ.2.2.2.2.2.1 ln lF lC lT lO ∧ fE γ.2.2.2.2.2.2 fn fC fP
section RL
variable {γ : gS} {sg : Nat → Int32} {sn pr : Nat} {fk fp : Int32} {rws : Nat → Int32} {rw : Nat → Nat} {cd : Nat → Int64} {ds wc : Nat → Int32} {wd : Nat → Int64} {nn : Nat} {nE : Nat → Int32} {nC : Nat → Int64} {nK : Nat → Int32} {nO : Nat → Int64} {ln : Nat} {lF : Nat → Int32} {lC : Nat → Int64} {lT : Nat → Int32} {lO : Nat → Int64} {fn : Nat} {fC : Nat → Int64} {fP : Nat → Int32}
theorem ag_row1 {τ : tS} {wn : Nat → Nat} {cd : Nat → Int64} {ds wc : Nat → Int32} {wd : Nat → Int64} {f : Nat} (h : ag τ wn cd ds wc wd f) (co : Int64) : la (fun j => decide (τ.1 j = co)) τ.2.2.2.2.2.2.1 = la (fun k => decide (cd (f + k) = co)) τ.2.2.2.2.2.2.1 := la_ext (fun i hi => by rw [(h i hi).1])
theorem R_row (h : RL γ sg sn pr fk fp rws rw cd ds wc wd nn nE nC nK nO ln lF lC lT lO fn fC fP) {e : Nat} (he : e < 3) (co : Int64) : tFind (γ.2.2.2.1 e) co = mRow rw cd e co := by
  obtain ⟨-, -, -, hT, -⟩ := h
  obtain ⟨hr, xs, dg, dd, wn, ht, ha⟩ := hT e he
  rw [tFind_la ht, ag_row1 ha, mRow, hr]
theorem R_has (h : RL γ sg sn pr fk fp rws rw cd ds wc wd nn nE nC nK nO ln lF lC lT lO fn fC fP) {e : Nat} (he : e < 3) (co : Int64) : gHas γ (nI e) co = (mRow rw cd e co).isSome := by
  rw [gHas_n γ he, R_row h he]
theorem R_of (h : RL γ sg sn pr fk fp rws rw cd ds wc wd nn nE nC nK nO ln lF lC lT lO fn fC fP) (a : Int32) (co : Int64) (b : Int32) : (edOk a b && gHas γ a co) = mOf rw cd a co b := by
  cases hE : edOk a b with
  | false => rw [mOf, hE]; rfl
  | true =>
    have : inE a = true := by
      unfold edOk at hE
      simp only [Bool.and_eq_true] at hE
      exact hE.1
    obtain ⟨k, hk, rfl⟩ := inE_n this
    rw [mOf_n hk, hE, R_has h hk]
theorem edOk_b {a b : Int32} (h : edOk a b = true) : b ≠ -1 := by
  unfold edOk at h
  simp only [Bool.and_eq_true] at h
  intro z
  rw [z] at h
  exact absurd h.2.1 (by decide)
theorem edOk_n {a b : Int32} (h : edOk a b = true) : ∃ k j, k < 3 ∧ j < 3 ∧ k ≠ j ∧ a = nI k ∧ b = nI j := by
  unfold edOk at h
  simp only [Bool.and_eq_true, Bool.not_eq_true', decide_eq_false_iff_not] at h
  obtain ⟨k, hk, rfl⟩ := inE_n h.1
  obtain ⟨j, hj, rfl⟩ := inE_n h.2.1
  exact ⟨k, j, hk, hj, fun z => h.2.2 (by rw [z]), rfl, rfl⟩
theorem R_pHas {σ : pS} (h : pE σ ln lF lC lT lO) {b : Int32} (hb : b ≠ -1) (a : Int32) (co oo : Int64) : pHas σ a co b oo = (fi (mFi lF lC lT lO a co b oo) ln 0).isSome := by
  unfold pHas
  rw [pE_n h, fi_ext (Q := mFi lF lC lT lO a co b oo) (fun j _ hj => by
    rw [mLk_ext h hb (by omega), (pE_i h (show j < ln by omega)).2.2.2]
    exact Bool.and_comm _ _)]
theorem R_lk (h : RL γ sg sn pr fk fp rws rw cd ds wc wd nn nE nC nK nO ln lF lC lT lO fn fC fP) (h60 : ln ≤ 60) {k j : Nat} (hk : k < 3) (hj : j < 3) (hkj : k ≠ j) (co oo : Int64) : lkOk γ (nI k) co (nI j) oo = mLq rw cd ln lF lC lT lO k co j oo := by
  have hl : pE γ.2.2.2.2.2.1 ln lF lC lT lO := h.2.2.2.2.2.1
  unfold lkOk mLq
  rw [R_has h hk, R_has h hj, pE_n hl, R_pHas hl (nI_m1 (by omega)), decide_eq_false (show ¬ nI k = nI j from fun z => hkj ((nI_eq (by omega) (by omega)).mp z)), decide_eq_decide.mpr (show 60 ≤ ln ↔ ln = 60 by omega)]
  rfl
theorem R_lkF {a b : Int32} (h : edOk a b = false) (co oo : Int64) : lkOk γ a co b oo = false := by
  unfold lkOk gHas
  unfold edOk at h
  cases h1 : inE a with
  | false => rw [Bool.false_and, Bool.false_and, Bool.and_false]
  | true =>
    rw [h1, Bool.true_and] at h
    cases h2 : inE b with
    | false => rw [Bool.false_and, Bool.false_and, Bool.and_false, Bool.and_false]
    | true =>
      rw [h2, Bool.true_and] at h
      rw [h, Bool.false_and]
theorem R_ntA (h : RL γ sg sn pr fk fp rws rw cd ds wc wd nn nE nC nK nO ln lF lC lT lO fn fC fP) (co : Int64) (kd : Int32) (oo : Int64) : ntA γ co kd oo = mNA rw cd pr co kd oo := by
  have hp := h.1
  unfold ntA mNA
  rw [hp.1, R_has h hp.2, R_has h hp.2]
  have e : ((! decide (kd = 0)) && ! decide (kd = nI 1)) = ! (decide (nI 0 ≤ kd) && decide (kd ≤ nI 1)) := by
    rcases pk_ix kd (n := 2) (by omega) with q | q | ⟨j, hj, rfl⟩
    · have h1 : ¬ nI 0 ≤ kd := fun z => by
        have a1 := Int32.lt_iff_toInt_lt.mp q
        have a2 := Int32.le_iff_toInt_le.mp z
        rw [nI_toInt (by omega)] at a2
        have : (0 : Int32).toInt = 0 := rfl
        omega
      rw [decide_eq_false h1, decide_eq_false (show ¬ kd = 0 from fun z => h1 (by rw [z]; decide)), decide_eq_false (show ¬ kd = nI 1 from fun z => h1 (by rw [z]; decide))]; rfl
    · have h1 : ¬ kd ≤ nI 1 := fun z => by
        have a1 := Int32.le_iff_toInt_le.mp q
        have a2 := Int32.le_iff_toInt_le.mp z
        rw [nI_toInt (by omega)] at a1 a2
        omega
      rw [decide_eq_false h1, decide_eq_false (show ¬ kd = 0 from fun z => h1 (by rw [z]; decide)), decide_eq_false (show ¬ kd = nI 1 from fun z => h1 (by rw [z]; decide)), Bool.and_false]; rfl
    · rcases j with _ | _ | j
      · decide
      · decide
      · omega
  rw [e]
  cases (mRow rw cd pr co).isSome <;> cases (mRow rw cd pr oo).isSome <;> rfl
theorem R_ntS (h : RL γ sg sn pr fk fp rws rw cd ds wc wd nn nE nC nK nO ln lF lC lT lO fn fC fP) (h20 : nn ≤ 20) {co : Int64} {kd : Int32} {oo : Int64} (hA : mNA rw cd pr co kd oo = false) : ntS γ co kd oo = mNS nn pr nE nC nK nO co kd oo := by
  have hp := h.1
  have hl : pE γ.2.2.2.2.1 nn nE nC nK nO := h.2.2.2.2.1
  have hk : kd ≠ -1 := fun z => by
    unfold mNA at hA
    rw [z, show (decide (nI 0 ≤ (-1 : Int32)) && decide ((-1 : Int32) ≤ nI 1)) = false by decide] at hA
    simp at hA
  unfold ntS mNS
  rw [hp.1, pE_n hl, R_pHas hl hk, decide_eq_decide.mpr (show 20 ≤ nn ↔ nn = 20 by omega), fi_la]
  congr 2
  exact la_ext (fun i _ => by
    unfold mFi mLk mNt
    rw [Bool.and_assoc, Bool.and_assoc])
theorem R_nd (h : RL γ sg sn pr fk fp rws rw cd ds wc wd nn nE nC nK nO ln lF lC lT lO fn fC fP) (co : Int64) (x : Int32) : ndd γ co x = mNd rw cd pr nn nE nC nK nO co x := by
  have hp := h.1
  have hl : pE γ.2.2.2.2.1 nn nE nC nK nO := h.2.2.2.2.1
  unfold ndd mNd
  rw [hp.1, pE_n hl, nt_ext (Q := fun j => decide (nE j = nI pr) && decide (nC j = co)) (fun j _ hj => by
    have := pE_i hl (show j < nn by omega)
    rw [pMt_any, this.1, this.2.1])]
  cases hz : nt (fun j => decide (nE j = nI pr) && decide (nC j = co)) x nn 0 0 with
  | none => rfl
  | some j =>
    have := nt_lt hz
    have hi := pE_i hl (show j < nn by omega)
    show nI 2 * oi (tFind _ (γ.2.2.2.2.1.2.2.2.1 j)) + γ.2.2.2.2.1.2.2.1 j = nI 2 * oi (mRow rw cd pr (nO j)) + nK j
    rw [hi.2.2.1, hi.2.2.2, R_row h hp.2]
theorem R_ld (h : RL γ sg sn pr fk fp rws rw cd ds wc wd nn nE nC nK nO ln lF lC lT lO fn fC fP) {b : Int32} (hb : b ≠ -1) (a : Int32) (co : Int64) (x : Int32) : lkd γ a co b x = mLd ln lF lC lT lO a co b x := by
  have hl : pE γ.2.2.2.2.2.1 ln lF lC lT lO := h.2.2.2.2.2.1
  unfold lkd mLd
  rw [pE_n hl, nt_ext (Q := mLk lF lC lT a co b) (fun j _ hj => mLk_ext hl hb (by omega))]
  cases hz : nt (mLk lF lC lT a co b) x ln 0 0 with
  | none => rfl
  | some j =>
    have := nt_lt hz
    exact (pE_i hl (show j < ln by omega)).2.2.2
theorem bcl_ct {P Q : Nat → Bool} {k i c : Nat} {s : Bool} : bcl P Q k i c s = (ct P k i c, s || (fi (fun j => P j && Q j) k i).isSome) := by
  induction k generalizing i c s with
  | zero => show (c, s) = (c, s || false); rw [Bool.or_false]
  | succ k ih =>
    rw [bcl_s, ct_s, fi_s]
    cases hP : P i with
    | false =>
      rw [if_neg (by decide), if_neg (by decide), ih, if_neg (by simp)]
    | true =>
      rw [if_pos rfl, if_pos rfl, ih]
      cases hQ : Q i with
      | false => rw [Bool.or_false, if_neg (by simp)]
      | true => rw [Bool.or_true, Bool.true_or, if_pos (by simp)]; simp
theorem R_bc (h : RL γ sg sn pr fk fp rws rw cd ds wc wd nn nE nC nK nO ln lF lC lT lO fn fC fP) {b : Int32} (hb : b ≠ -1) (a : Int32) (co : Int64) : bcm γ a co b = mBc ln lF lC lT lO a co b := by
  have hl : pE γ.2.2.2.2.2.1 ln lF lC lT lO := h.2.2.2.2.2.1
  unfold bcm mBc
  rw [bcl_ct, pE_n hl, ct_ext (P := bcP γ a co b) (Q := mLk lF lC lT a co b) (fun j _ hj => mLk_ext hl hb (by omega)), Bool.false_or, fi_la]
  congr 2
  rw [la_ext (Q := mSh ln lF lC lT lO a co b) (fun j hj => by
    unfold mSh bcQ lTo
    rw [bcP, mLk_ext hl hb hj, (pE_i hl hj).2.2.2, pE_n hl]
    congr 3
    exact ct_ext (fun i _ hi => by
      have := pE_i hl (show i < ln by omega)
      unfold mLt
      rw [this.1, this.2.2.1, this.2.2.2]))]
theorem nt_0 {P : Nat → Bool} {k i : Nat} : (nt P (nI 0) k i 0).isNone = decide (ct P k i 0 = 0) := by
  induction k generalizing i with
  | zero => rfl
  | succ k ih =>
    rw [nt_s, ct_s]
    cases hP : P i with
    | false => rw [if_neg (by decide), if_neg (by decide)]; exact ih
    | true =>
      rw [if_pos rfl, if_pos rfl, if_pos rfl, ct_c]
      exact (decide_eq_false (by omega)).symm
theorem R_ls (h : RL γ sg sn pr fk fp rws rw cd ds wc wd nn nE nC nK nO ln lF lC lT lO fn fC fP) {b : Int32} (hb : b ≠ -1) {k : Nat} (hk : k < 3) : lst γ k b = ct (mLs rw cd ds ln lF lC lT k b) (rw k) 0 0 := by
  have hl : pE γ.2.2.2.2.2.1 ln lF lC lT lO := h.2.2.2.2.2.1
  obtain ⟨-, -, -, hT, -⟩ := h
  obtain ⟨hr, xs, dg, dd, wn, ht, ha⟩ := hT k hk
  unfold lst
  rw [hr]
  refine ct_ext (fun j _ hj => ?_)
  have hj : j < (γ.2.2.2.1 k).2.2.2.2.2.2.1 := by omega
  obtain ⟨-, -, a3, a4, -, a6, -, -⟩ := ht.2.1 j hj
  have h40 := ht.1
  unfold lsP mLs
  rw [nt_0, (ha j hj).1, hr, mBl_N (dd := dd) (fun i hi => ⟨by rw [(ha i hi).2.1, (ht.2.1 i hi).2.2.1], (ht.2.1 i hi).2.2.2.1⟩) hj, a6, pE_n hl, ct_ext (P := bcP γ (nI k) ((γ.2.2.2.1 k).1 j) b) (Q := mLk lF lC lT (nI k) ((γ.2.2.2.1 k).1 j) b) (fun i _ hi => by rw [bcP]; exact mLk_ext hl hb (by omega))]
  congr 1
  have hb : bN dd (γ.2.2.2.1 k).2.2.2.2.2.2.1 j ≤ 40 := by
    have := ct_le (fun i => decide (pN dd i = some j)) ((γ.2.2.2.1 k).2.2.2.2.2.2.1 - (j + 1)) (j + 1) 0
    show ct _ _ _ _ ≤ 40
    omega
  exact decide_eq_decide.mpr (nI_eq (b := 0) (by omega) (by omega))
theorem R_cp (h : RL γ sg sn pr fk fp rws rw cd ds wc wd nn nE nC nK nO ln lF lC lT lO fn fC fP) {k : Nat} (hk : k < 3) : (γ.2.2.2.1 k).2.2.2.2.2.2.2 = ct (fun j => decide (ds (40 * k + j) = 0)) (rw k) 0 0 := by
  obtain ⟨-, -, -, hT, -⟩ := h
  obtain ⟨hr, xs, dg, dd, wn, ht, ha⟩ := hT k hk
  rw [ht.2.2.2.2, hr]
  exact ct_ext (fun j _ hj => by
    have hj : j < (γ.2.2.2.1 k).2.2.2.2.2.2.1 := by omega
    have := (ht.2.1 j hj).2.2.2.1
    rw [(ha j hj).2.1, (ht.2.1 j hj).2.2.1]
    exact decide_eq_decide.mpr (nI_eq (b := 0) (by omega) (by omega)).symm)
end RL
