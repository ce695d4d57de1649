/-! points -/
theorem up_ext {pf pf' : Nat → Option Nat} {Q Q' : Nat → Bool} {n : Nat} (h : ∀ j, j < n → pf j = pf' j ∧ Q j = Q' j ∧ ∀ t, pf j = some t → t < n) {k : Nat} {r : Option Nat} (hr : ∀ t, r = some t → t < n) : up pf Q k r = up pf' Q' k r := by
  induction k generalizing r with
  | zero => rfl
  | succ k ih =>
    cases r with
    | none => rfl
    | some j =>
      obtain ⟨h1, h2, h3⟩ := h j (hr j rfl)
      rw [up_s, up_s, h2, ← h1, ih h3]
theorem up_fuel {dd : Nat → Nat} {Q : Nat → Bool} {k k' : Nat} {r : Option Nat} (h : ∀ j, r = some j → dd j < k ∧ dd j < k') : up (pN dd) Q k r = up (pN dd) Q k' r := by
  induction k generalizing k' r with
  | zero =>
    cases r with
    | none => rw [up_n, up_n]
    | some j => have := h j rfl; omega
  | succ k ih =>
    cases r with
    | none => rw [up_n, up_n]
    | some j =>
      have hj := h j rfl
      cases k' with
      | zero => omega
      | succ k' =>
        rw [up_s, up_s, ih (k' := k') (fun t ht => by
          have := (pQ_lt ht).2
          omega)]
theorem psum_ext {f g : Nat → Nat} {k i c : Nat} (h : ∀ j, i ≤ j → j < i + k → f j = g j) : psum f k i c = psum g k i c := by
  induction k generalizing i c with
  | zero => rfl
  | succ k ih => rw [psum_s, psum_s, h i (by omega) (by omega), ih (fun j a b => h j (by omega) (by omega))]
theorem psum_le {f : Nat → Nat} {m k i c : Nat} (h : ∀ j, f j ≤ m) : psum f k i c ≤ c + k * m := by
  induction k generalizing i c with
  | zero => show c ≤ c + 0 * m; omega
  | succ k ih =>
    rw [psum_s]
    have h1 := ih (i := i + 1) (c := c + f i)
    have h2 := h i
    rw [Nat.succ_mul]
    omega
/-- the reference's points -/
def mPt1 (ds : Nat → Int32) (wd : Nat → Int64) (f : Nat) (wn : Nat → Nat) (i : Nat) (w : Int64) : Nat := if mHas wd (f + i) (wn i) w then 4 else if up (mUp ds f) (fun t => mHas wd (f + t) (wn t) w) 40 (mUp ds f i) then 2 else 0
def mOut (cd : Nat → Int64) (ds : Nat → Int32) (nn : Nat) (nE : Nat → Int32) (nC : Nat → Int64) (nK : Nat → Int32) (nO : Nat → Int64) (pr f i : Nat) : Bool := up (mUp ds f) (fun t => (la (mNt nE nC nK nO (nI pr) (cd (f + t)) (nI 1) (cd (f + i))) nn).isSome) 40 (mUp ds f i)
def mPts (cd : Nat → Int64) (ds : Nat → Int32) (wd : Nat → Int64) (nn : Nat) (nE : Nat → Int32) (nC : Nat → Int64) (nK : Nat → Int32) (nO : Nat → Int64) (pr : Nat) (ak : Nat → Int64) (ac f : Nat) (wn : Nat → Nat) (i : Nat) : Nat := if (decide (0 < ac) && mOut cd ds nn nE nC nK nO pr f i) then psum (fun k => mPt1 ds wd f wn i (ak k)) ac 0 0 / 2 else psum (fun k => mPt1 ds wd f wn i (ak k)) ac 0 0
theorem mPt1_4 (ds : Nat → Int32) (wd : Nat → Int64) (f : Nat) (wn : Nat → Nat) (i : Nat) (w : Int64) : mPt1 ds wd f wn i w ≤ 4 := by
  unfold mPt1; split
  · omega
  · split <;> omega
theorem R_hw {τ : tS} {wn : Nat → Nat} {cd : Nat → Int64} {ds wc : Nat → Int32} {wd : Nat → Int64} {f : Nat} (ha : ag τ wn cd ds wc wd f) {j : Nat} (hj : j < τ.2.2.2.2.2.2.1) (w : Int64) : tHas τ.2.2.2.2.2.1 wn w j = mHas wd (f + j) (wn j) w := by
  unfold tHas mHas
  rw [fi_la]
  congr 1
  exact la_ext (fun i hi => by rw [(ha j hj).2.2.2 i hi])
theorem tI_W {τ : tS} {xs dg dd wn : Nat → Nat} (h : tI τ xs dg dd wn) : tWf τ.2.2.1 τ.2.2.2.2.1 (pN dd) wn τ.2.2.2.2.2.2.1 := fun i hi => ⟨(h.2.1 i hi).2.2.2.2.1, fun _ hj => (pQ_lt hj).1, (h.2.1 i hi).2.2.2.2.2.2.1, (h.2.1 i hi).2.2.2.2.2.2.2⟩
theorem tI_up {τ : tS} {xs dg dd wn : Nat → Nat} (h : tI τ xs dg dd wn) {cd : Nat → Int64} {ds wc : Nat → Int32} {wd : Nat → Int64} {f : Nat} (ha : ag τ wn cd ds wc wd f) {i : Nat} (hi : i < τ.2.2.2.2.2.2.1) : mUp ds f i = pN dd i := mUp_N (fun j hj => ⟨by rw [(ha j (by omega)).2.1, (h.2.1 j (by omega)).2.2.1], (h.2.1 j (by omega)).2.2.2.1⟩)
/-- one that is above, asked up the class's rows four times, up the reference's forty -/
theorem tI_any {τ : tS} {xs dg dd wn : Nat → Nat} (h : tI τ xs dg dd wn) {cd : Nat → Int64} {ds wc : Nat → Int32} {wd : Nat → Int64} {f : Nat} (ha : ag τ wn cd ds wc wd f) {i : Nat} (hi : i < τ.2.2.2.2.2.2.1) {Q Q' : Nat → Bool} (hQ : ∀ j, j < τ.2.2.2.2.2.2.1 → Q j = Q' j) : up (pN dd) Q 4 (pN dd i) = up (mUp ds f) Q' 40 (mUp ds f i) := by
  have h4 := (h.2.1 i hi).2.2.2.1
  rw [tI_up h ha hi, up_fuel (k' := 40) (fun j hj => by
    have := (pQ_lt hj).2
    omega)]
  exact up_ext (n := τ.2.2.2.2.2.2.1) (fun j hj => ⟨(tI_up h ha hj).symm, hQ j hj, fun t ht => by
    have := (pQ_lt ht).1
    omega⟩) (fun t ht => by
    have := (pQ_lt ht).1
    omega)
section RS
variable {γ : gS} {sg : Nat → Int32} {sn pr : Nat} {fk fp : Int32} {rws : Nat → Int32} {rw : Nat → Nat} {cd : Nat → Int64} {ds wc : Nat → Int32} {wd : Nat → Int64} {nn : Nat} {nE : Nat → Int32} {nC : Nat → Int64} {nK : Nat → Int32} {nO : Nat → Int64} {ln : Nat} {lF : Nat → Int32} {lC : Nat → Int64} {lT : Nat → Int32} {lO : Nat → Int64} {fn : Nat} {fC : Nat → Int64} {fP : Nat → Int32}
theorem R_ask {tx : Nat → Nat} {n : Nat} (h0 : ∀ i, i < n → 0 < tx i) (w1 ak : Nat → Int64) : ask tx n w1 = mwOk tx n 6 0 0 ak := by
  have hi := wds_ind (tx := tx) (n := n) (mo := 6) (f := 6) (k := 0) (q := 0) (wd := w1) (wd' := ak) (fun i hi => absurd hi (Nat.not_lt_zero _))
  have hb := wds_b (tx := tx) (n := n) (mo := 6) (f := 6) (k := 0) (q := 0) (wd := ak) rfl (Nat.zero_le _)
  unfold ask mwOk
  rw [hi.1, hi.2.2.1]
  congr 1
  refine decide_eq_decide.mpr ?_
  unfold hx
  split
  · rename_i hl
    have := h0 _ hl
    omega
  · omega
theorem R_pts (h : RL γ sg sn pr fk fp rws rw cd ds wc wd nn nE nC nK nO ln lF lC lT lO fn fC fP) {xs dg dd wn : Nat → Nat} (ht : tI (γ.2.2.2.1 pr) xs dg dd wn) (ha : ag (γ.2.2.2.1 pr) wn cd ds wc wd (40 * pr)) {ρ : rS} {ak : Nat → Int64} {ac : Nat} (hc : ρ.2.2.1 = ac) (hc0 : 0 < ac) (hw : ∀ i, i < ac → ρ.2.1 i = ak i) {i : Nat} (hi : i < (γ.2.2.2.1 pr).2.2.2.2.2.2.1) : gPts (gRd γ ρ) (pN dd) wn i = mPts cd ds wd nn nE nC nK nO pr ak ac (40 * pr) wn i := by
  have hp := h.1
  have hl : pE γ.2.2.2.2.1 nn nE nC nK nO := h.2.2.2.2.1
  unfold gPts mPts
  have e1 : gOut (gRd γ ρ) (pN dd) i = mOut cd ds nn nE nC nK nO pr (40 * pr) i := by
    unfold gOut mOut
    show up (pN dd) (fun t => pHas γ.2.2.2.2.1 (nI γ.2.1) ((γ.2.2.2.1 γ.2.1).1 t) (nI 1) ((γ.2.2.2.1 γ.2.1).1 i)) 4 (pN dd i) = _
    rw [hp.1]
    refine tI_any ht ha hi (fun j hj => ?_)
    rw [R_pHas hl (by decide), fi_la, (ha j hj).1, (ha i hi).1]
    congr 1
    exact la_ext (fun k _ => by
      unfold mFi mLk mNt
      rw [Bool.and_assoc, Bool.and_assoc])
  have e2 : psum (gPt1 (gRd γ ρ) (pN dd) wn i) (gRd γ ρ).2.2.1.2.2.1 0 0 = psum (fun k => mPt1 ds wd (40 * pr) wn i (ak k)) ac 0 0 := by
    show psum _ ρ.2.2.1 0 0 = _
    rw [hc]
    refine psum_ext (fun j _ hj => ?_)
    unfold gPt1 tPts mPt1
    show (if tHas (γ.2.2.2.1 γ.2.1).2.2.2.2.2.1 wn (ρ.2.1 j) i = true then 4 else if up (pN dd) (tHas (γ.2.2.2.1 γ.2.1).2.2.2.2.2.1 wn (ρ.2.1 j)) 4 (pN dd i) = true then 2 else 0) = _
    rw [hp.1, hw j (by omega), R_hw ha hi, tI_any ht ha hi (fun t ht => R_hw ha ht (ak j))]
  rw [e1, e2, decide_eq_true hc0, Bool.true_and]
theorem gPts_24 {γ : gS} {pf : Nat → Option Nat} {wn : Nat → Nat} {j : Nat} (h : γ.2.2.1.2.2.1 ≤ 6) : gPts γ pf wn j ≤ 24 := by
  have h1 : psum (gPt1 γ pf wn j) γ.2.2.1.2.2.1 0 0 ≤ 0 + γ.2.2.1.2.2.1 * 4 := psum_le (fun i => tPts_4 _ _ _)
  unfold gPts
  split <;> omega
/-- behind a search -/
theorem R_search (h : RL γ sg sn pr fk fp rws rw cd ds wc wd nn nE nC nK nO ln lF lC lT lO fn fC fP) {xs dg dd wn : Nat → Nat} (ht : tI (γ.2.2.2.1 pr) xs dg dd wn) (ha : ag (γ.2.2.2.1 pr) wn cd ds wc wd (40 * pr)) {tx : Nat → Nat} {ak : Nat → Int64} (h0 : ∀ i, i < sn → 0 < tx i) (hA : mwOk tx sn 6 0 0 ak = true) {pt : Nat → Int32} (hpt : ∀ i, i < rw pr → pt i = nI (mPts cd ds wd nn nE nC nK nO pr (wds tx sn 6 6 0 0 ak).2.2.2 (wds tx sn 6 6 0 0 ak).2.1 (40 * pr) wn i)) : RL (gFn (gRd γ (rSr γ.2.2.1 tx)) (gSr γ tx (pN dd) wn)) sg 0 pr (nI 0) (-1) rws rw cd ds wc wd nn nE nC nK nO ln lF lC lT lO (apA pt cd (40 * pr) (rw pr) 24 (fC, fP, 0)).2.2 (apA pt cd (40 * pr) (rw pr) 24 (fC, fP, 0)).1 (apA pt cd (40 * pr) (rw pr) 24 (fC, fP, 0)).2.1 := by
  obtain ⟨a1, a2, a3, a4, a5, a6, a7⟩ := id h
  have hr := (a4 pr a1.2).1
  have hask : ask tx γ.2.2.1.2.2.2.1 γ.2.2.1.2.1 = true := by rw [a2.1, R_ask h0 _ ak]; exact hA
  have hi := wds_ind (tx := tx) (n := sn) (mo := 6) (f := 6) (k := 0) (q := 0) (wd := γ.2.2.1.2.1) (wd' := ak) (fun i hi => absurd hi (Nat.not_lt_zero _))
  have hb := wds_b (tx := tx) (n := sn) (mo := 6) (f := 6) (k := 0) (q := 0) (wd := ak) rfl (Nat.zero_le _)
  have hpos : 0 < (wds tx sn 6 6 0 0 ak).2.1 := wds_pos (by omega) (by
    unfold mwOk at hA
    simp only [Bool.and_eq_true] at hA
    exact hA.1)
  have hc6 : (gRd γ (rSr γ.2.2.1 tx)).2.2.1.2.2.1 ≤ 6 := by
    show (wds tx γ.2.2.1.2.2.2.1 6 6 0 0 γ.2.2.1.2.1).2.1 ≤ 6
    rw [a2.1, hi.2.1]; exact hb.1
  refine ⟨a1, ⟨rfl, ?_, ?_, tx, fun i hi => absurd hi (Nat.not_lt_zero _), fun i hi => absurd hi (Nat.not_lt_zero _), fun i hi => absurd hi (Nat.not_lt_zero _)⟩, a3, a4, a5, a6, ?_⟩
  · show (if ask tx γ.2.2.1.2.2.2.1 γ.2.2.1.2.1 then nI 0 else nI 1) = nI 0
    rw [hask]; rfl
  · show (if ask tx γ.2.2.1.2.2.2.1 γ.2.2.1.2.1 then (-1) else _) = (-1 : Int32)
    rw [hask]; rfl
  · show fE (gSr γ tx (pN dd) wn) _ _ _
    unfold gSr
    rw [a1.1, hr]
    refine fE_sr (pf := mPts cd ds wd nn nE nC nK nO pr (wds tx sn 6 6 0 0 ak).2.2.2 (wds tx sn 6 6 0 0 ak).2.1 (40 * pr) wn) (fun i => gPts_24 hc6) (fun j hj => ⟨hpt j (by omega), ?_, (ha j hj).1⟩) _ _ _ _
    refine (R_pts h ht ha ?_ hpos (fun i hi2 => ?_) hj).symm
    · show (wds tx γ.2.2.1.2.2.2.1 6 6 0 0 γ.2.2.1.2.1).2.1 = _
      rw [a2.1]; exact hi.2.1
    · show (wds tx γ.2.2.1.2.2.2.1 6 6 0 0 γ.2.2.1.2.1).2.2.2 i = _
      rw [a2.1]; exact hi.2.2.2 i (by rw [hi.2.1]; exact hi2)
theorem R_searchT (h : RL γ sg sn pr fk fp rws rw cd ds wc wd nn nE nC nK nO ln lF lC lT lO fn fC fP) {tx : Nat → Nat} {ak : Nat → Int64} (h0 : ∀ i, i < sn → 0 < tx i) (hA : mwOk tx sn 6 0 0 ak = false) : RL (gRd γ (rSr γ.2.2.1 tx)) sg 0 pr (nI 1) (nI (wds tx sn 6 6 0 0 ak).2.2.1) rws rw cd ds wc wd nn nE nC nK nO ln lF lC lT lO fn fC fP := by
  obtain ⟨a1, a2, a3, a4, a5, a6, a7⟩ := id h
  have hask : ask tx γ.2.2.1.2.2.2.1 γ.2.2.1.2.1 = false := by rw [a2.1, R_ask h0 _ ak]; exact hA
  have hi := wds_ind (tx := tx) (n := sn) (mo := 6) (f := 6) (k := 0) (q := 0) (wd := γ.2.2.1.2.1) (wd' := ak) (fun i hi => absurd hi (Nat.not_lt_zero _))
  refine ⟨a1, ⟨rfl, ?_, ?_, tx, fun i hi => absurd hi (Nat.not_lt_zero _), fun i hi => absurd hi (Nat.not_lt_zero _), fun i hi => absurd hi (Nat.not_lt_zero _)⟩, a3, a4, a5, a6, a7⟩
  · show (if ask tx γ.2.2.1.2.2.2.1 γ.2.2.1.2.1 then nI 0 else nI 1) = nI 1
    rw [hask]; rfl
  · show (if ask tx γ.2.2.1.2.2.2.1 γ.2.2.1.2.1 then (-1) else nI (wds tx γ.2.2.1.2.2.2.1 6 6 0 0 γ.2.2.1.2.1).2.2.1) = _
    rw [hask, a2.1, hi.2.2.1]; rfl
/-- behind a reading -/
theorem R_read (h : RL γ sg sn pr fk fp rws rw cd ds wc wd nn nE nC nK nO ln lF lC lT lO fn fC fP) {τ : tS} {xs dg dd wn : Nat → Nat} (ht : tI τ xs dg dd wn) {rws' : Nat → Int32} {rw' : Nat → Nat} {cd' : Nat → Int64} {ds' wc' : Nat → Int32} {wd' : Nat → Int64} (ha : ag τ wn cd' ds' wc' wd' (40 * pr)) (hR : mR rws' rw') (hr1 : rw' pr = τ.2.2.2.2.2.2.1) (hr2 : ∀ e, e < 3 → e ≠ pr → rw' e = rw e) (hf1 : ∀ j, j < 120 → (j < 40 * pr ∨ 40 * pr + 40 ≤ j) → cd' j = cd j ∧ ds' j = ds j ∧ wc' j = wc j) (hf2 : ∀ j, j < 480 → (j < 160 * pr ∨ 160 * pr + 160 ≤ j) → wd' j = wd j) {w2 : Nat → Int64} {c2 q2 : Nat} : RL (gRead γ (γ.2.2.1.1, w2, c2, 0, q2, nI 0, -1) τ) sg 0 pr (nI 0) (-1) rws' rw' cd' ds' wc' wd' (ct (fgN nE (nI pr)) nn 0 0) (cpI (fgN nE (nI pr)) nE nn 0 0 nE) (cpL (fgN nE (nI pr)) nC nn 0 0 nC) (cpI (fgN nE (nI pr)) nK nn 0 0 nK) (cpL (fgN nE (nI pr)) nO nn 0 0 nO) (ct (fgL lF lT (nI pr)) ln 0 0) (cpI (fgL lF lT (nI pr)) lF ln 0 0 lF) (cpL (fgL lF lT (nI pr)) lC ln 0 0 lC) (cpI (fgL lF lT (nI pr)) lT ln 0 0 lT) (cpL (fgL lF lT (nI pr)) lO ln 0 0 lO) fn fC fP := by
  obtain ⟨a1, a2, a3, a4, a5, a6, a7⟩ := id h
  obtain ⟨tx, -⟩ := a2.2.2.2
  refine ⟨a1, ⟨rfl, rfl, rfl, tx, fun i hi => absurd hi (Nat.not_lt_zero _), fun i hi => absurd hi (Nat.not_lt_zero _), fun i hi => absurd hi (Nat.not_lt_zero _)⟩, hR, ?_, ?_, ?_, a7⟩
  · intro e he
    show rw' e = (swT γ.2.2.2.1 γ.2.1 τ e).2.2.2.2.2.2.1 ∧ ∃ xs dg dd wn, tI (swT γ.2.2.2.1 γ.2.1 τ e) xs dg dd wn ∧ ag (swT γ.2.2.2.1 γ.2.1 τ e) wn cd' ds' wc' wd' (40 * e)
    by_cases hep : e = pr
    · subst hep
      rw [show swT γ.2.2.2.1 γ.2.1 τ e = τ from if_pos a1.1.symm]
      exact ⟨hr1, xs, dg, dd, wn, ht, ha⟩
    · rw [show swT γ.2.2.2.1 γ.2.1 τ e = γ.2.2.2.1 e from (if_neg (by rw [a1.1]; exact hep)).trans (if_neg (by omega))]
      obtain ⟨hr, xs1, dg1, dd1, wn1, ht1, ha1⟩ := a4 e he
      exact ⟨(hr2 e he hep).trans hr, xs1, dg1, dd1, wn1, ht1, ag_fr ha1 (fun i hi => (ht1.2.1 i hi).2.2.2.2.2.2.2) ht1.1 (fun j b1 b2 => hf1 j (by omega) (by omega)) (fun j b1 b2 => hf2 j (by omega) (by omega))⟩
  · show pE (pFrom (nI γ.2.1) γ.2.2.2.2.1) _ _ _ _ _
    rw [a1.1]; exact pE_from a5 _
  · show pE (pMark (nI γ.2.1) (pFrom (nI γ.2.1) γ.2.2.2.2.2.1)) _ _ _ _ _
    rw [a1.1]; exact pE_both a6 _
theorem R_readT (h : RL γ sg sn pr fk fp rws rw cd ds wc wd nn nE nC nK nO ln lF lC lT lO fn fC fP) {rws' : Nat → Int32} {rw' : Nat → Nat} {cd' : Nat → Int64} {ds' wc' : Nat → Int32} {wd' : Nat → Int64} (hR : mR rws' rw') (hr2 : ∀ e, e < 3 → rw' e = rw e) (hf1 : ∀ j, j < 120 → cd' j = cd j ∧ ds' j = ds j ∧ wc' j = wc j) (hf2 : ∀ j, j < 480 → wd' j = wd j) {w2 : Nat → Int64} {c2 q2 : Nat} {τ2 : tS} {k p : Int32} : RL (gSpare γ (γ.2.2.1.1, w2, c2, 0, q2, k, p) τ2) sg 0 pr k p rws' rw' cd' ds' wc' wd' nn nE nC nK nO ln lF lC lT lO fn fC fP := by
  obtain ⟨a1, a2, a3, a4, a5, a6, a7⟩ := id h
  obtain ⟨tx, -⟩ := a2.2.2.2
  refine ⟨a1, ⟨rfl, rfl, rfl, tx, fun i hi => absurd hi (Nat.not_lt_zero _), fun i hi => absurd hi (Nat.not_lt_zero _), fun i hi => absurd hi (Nat.not_lt_zero _)⟩, hR, ?_, a5, a6, a7⟩
  intro e he
  show rw' e = (va_up γ.2.2.2.1 3 τ2 e).2.2.2.2.2.2.1 ∧ ∃ xs dg dd wn, tI (va_up γ.2.2.2.1 3 τ2 e) xs dg dd wn ∧ ag (va_up γ.2.2.2.1 3 τ2 e) wn cd' ds' wc' wd' (40 * e)
  rw [show va_up γ.2.2.2.1 3 τ2 e = γ.2.2.2.1 e from if_neg (by omega)]
  obtain ⟨hr, xs1, dg1, dd1, wn1, ht1, ha1⟩ := a4 e he
  exact ⟨(hr2 e he).trans hr, xs1, dg1, dd1, wn1, ht1, ag_fr ha1 (fun i hi => (ht1.2.1 i hi).2.2.2.2.2.2.2) ht1.1 (fun j b1 b2 => hf1 j (by omega)) (fun j b1 b2 => hf2 j (by omega))⟩
end RS
