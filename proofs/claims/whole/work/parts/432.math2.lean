/-! counting and looking, by what holds below -/
theorem ct_e (P : Nat → Bool) (k i c : Nat) : ct P (k + 1) i c = ct P k i c + (if P (i + k) then 1 else 0) := by
  induction k generalizing i c with
  | zero =>
    rw [ct_s]
    show (if P i = true then c + 1 else c) = c + (if P i = true then 1 else 0)
    split <;> rfl
  | succ k ih =>
    rw [ct_s P (k + 1), ct_s P k i, show i + (k + 1) = i + 1 + k by omega]
    split <;> exact ih _ _
theorem ct_c (P : Nat → Bool) (k i c : Nat) : ct P k i c = ct P k i 0 + c := by
  induction k generalizing c with
  | zero => show c = 0 + c; omega
  | succ k ih => rw [ct_e, ct_e P k i 0, ih c]; omega
theorem ct_ext {P Q : Nat → Bool} {k i c : Nat} (h : ∀ j, i ≤ j → j < i + k → P j = Q j) : ct P k i c = ct Q k i c := by
  induction k generalizing i c with
  | zero => rfl
  | succ k ih => rw [ct_s, ct_s, h i (by omega) (by omega), ih (fun j a b => h j (by omega) (by omega)), ih (fun j a b => h j (by omega) (by omega))]
theorem nt_ext {P Q : Nat → Bool} {x : Int32} {k i c : Nat} (h : ∀ j, i ≤ j → j < i + k → P j = Q j) : nt P x k i c = nt Q x k i c := by
  induction k generalizing i c with
  | zero => rfl
  | succ k ih => rw [nt_s, nt_s, h i (by omega) (by omega), ih (fun j a b => h j (by omega) (by omega)), ih (fun j a b => h j (by omega) (by omega))]
theorem fi_ext {P Q : Nat → Bool} {k i : Nat} (h : ∀ j, i ≤ j → j < i + k → P j = Q j) : fi P k i = fi Q k i := by
  induction k generalizing i with
  | zero => rfl
  | succ k ih => rw [fi_s, fi_s, h i (by omega) (by omega), ih (fun j a b => h j (by omega) (by omega))]
theorem fi_any {P : Nat → Bool} {k i : Nat} : (fi P k i).isSome = true ↔ ∃ j, i ≤ j ∧ j < i + k ∧ P j = true := by
  induction k generalizing i with
  | zero => exact ⟨fun h => (by cases h), fun ⟨j, a, b, c⟩ => (by omega)⟩
  | succ k ih =>
    rw [fi_s]
    by_cases hi : P i = true
    · rw [if_pos hi]
      exact ⟨fun _ => ⟨i, by omega, by omega, hi⟩, fun _ => rfl⟩
    · rw [if_neg hi, ih]
      exact ⟨fun ⟨j, a, b, c⟩ => ⟨j, by omega, by omega, c⟩, fun ⟨j, a, b, c⟩ => ⟨j, by
        rcases Nat.lt_or_ge i j with h | h
        · exact h
        · exact absurd (show P i = true by rw [show i = j by omega]; exact c) hi, by omega, c⟩⟩
theorem la_any {P : Nat → Bool} {n : Nat} : (la P n).isSome = true ↔ ∃ j, j < n ∧ P j = true := by
  induction n with
  | zero => exact ⟨fun h => (by cases h), fun ⟨j, a, b⟩ => (by omega)⟩
  | succ k ih =>
    rw [la_s]
    by_cases hi : P k = true
    · rw [if_pos hi]
      exact ⟨fun _ => ⟨k, by omega, hi⟩, fun _ => rfl⟩
    · rw [if_neg hi, ih]
      exact ⟨fun ⟨j, a, b⟩ => ⟨j, by omega, b⟩, fun ⟨j, a, b⟩ => ⟨j, by
        rcases Nat.lt_or_ge j k with h | h
        · exact h
        · exact absurd (show P k = true by rw [show k = j by omega]; exact b) hi, b⟩⟩
theorem fi_la {P : Nat → Bool} {n : Nat} : (fi P n 0).isSome = (la P n).isSome := by
  refine Bool.eq_iff_iff.mpr (fi_any.trans (Iff.trans ?_ la_any.symm))
  exact ⟨fun ⟨j, _, b, c⟩ => ⟨j, by omega, c⟩, fun ⟨j, a, b⟩ => ⟨j, by omega, by omega, b⟩⟩
theorem la_some {P : Nat → Bool} {n : Nat} (h : ∃ j, j < n ∧ P j = true) : ∃ j, la P n = some j := Option.isSome_iff_exists.mp (la_any.mpr h)
theorem la_none {P : Nat → Bool} {n : Nat} (h : ∀ j, j < n → P j = false) : la P n = none := by
  cases hz : la P n with
  | none => rfl
  | some j =>
    have := la_lt hz
    rw [h j this.1] at this
    cases this.2
/-- where it holds at one place at the most, the first is the last -/
theorem fi_la_eq {P : Nat → Bool} {n : Nat} (h : ∀ i j, i < n → j < n → P i = true → P j = true → i = j) : fi P n 0 = la P n := by
  cases hf : fi P n 0 with
  | none =>
    cases hl : la P n with
    | none => rfl
    | some j =>
      have := fi_la (P := P) (n := n)
      rw [hf, hl] at this; cases this
  | some i =>
    cases hl : la P n with
    | none =>
      have := fi_la (P := P) (n := n)
      rw [hf, hl] at this; cases this
    | some j =>
      have h1 := fi_lt hf
      have h2 := la_lt hl
      rw [h i j (by omega) h2.1 h1.2.2 h2.2]
/-! a tree as read -/
def uN (f : Nat → Nat) (k x : Nat) : Nat → Nat := fun j => if j = k then x else f j
theorem uN_s {f : Nat → Nat} {k x : Nat} : uN f k x k = x := if_pos rfl
theorem uN_n {f : Nat → Nat} {k x j : Nat} (h : j ≠ k) : uN f k x j = f j := if_neg h
def pQ (dd : Nat → Nat) (d n : Nat) : Option Nat := if d = 0 then none else la (fun j => decide (dd j + 1 = d)) n
def pN (dd : Nat → Nat) (i : Nat) : Option Nat := pQ dd (dd i) i
def bN (dd : Nat → Nat) (n i : Nat) : Nat := ct (fun j => decide (pN dd j = some i)) (n - (i + 1)) (i + 1) 0
def tI (τ : tS) (xs dg dd wn : Nat → Nat) : Prop :=
  τ.2.2.2.2.2.2.1 ≤ 40 ∧ (∀ i, i < τ.2.2.2.2.2.2.1 → τ.1 i = lN (xs i) ∧ cdg (xs i) (dg i) ∧ τ.2.1 i = nI (dd i) ∧ dd i ≤ 4 ∧ τ.2.2.1 i = oi (pN dd i) ∧ τ.2.2.2.1 i = nI (bN dd τ.2.2.2.2.2.2.1 i) ∧ τ.2.2.2.2.1 i = nI (wn i) ∧ wn i ≤ 4) ∧ (∀ i, i + 1 < τ.2.2.2.2.2.2.1 → kLt (xs (i + 1)) (dg (i + 1)) (xs i) (dg i)) ∧ (∀ i, i < τ.2.2.2.2.2.2.1 → ∀ v, v ≤ dd i → ∃ j, j ≤ i ∧ dd j = v) ∧ τ.2.2.2.2.2.2.2 = ct (fun j => decide (dd j = 0)) τ.2.2.2.2.2.2.1 0 0
theorem pQ_ext {dd dd' : Nat → Nat} {d n : Nat} (h : ∀ j, j < n → dd j = dd' j) : pQ dd d n = pQ dd' d n := by
  unfold pQ
  split
  · rfl
  · exact la_ext (fun i hi => by rw [h i hi])
theorem pN_ext {dd dd' : Nat → Nat} {i : Nat} (h : ∀ j, j ≤ i → dd j = dd' j) : pN dd i = pN dd' i := by
  unfold pN
  rw [h i (Nat.le_refl _)]
  exact pQ_ext (fun j hj => h j (by omega))
theorem pQ_lt {dd : Nat → Nat} {d n j : Nat} (h : pQ dd d n = some j) : j < n ∧ dd j + 1 = d := by
  unfold pQ at h
  split at h
  · cases h
  · have := la_lt h
    exact ⟨this.1, by simpa using this.2⟩
theorem nI_sub1 {a : Nat} (ha : 0 < a) : nI a - nI 1 = nI (a - 1) := by
  obtain ⟨b, rfl⟩ : ∃ b, a = b + 1 := ⟨a - 1, by omega⟩
  exact nI_pred b
theorem par_Q {ds : Nat → Int32} {dd : Nat → Nat} {d n : Nat} (hd : d < 2 ^ 30) (h : ∀ j, j < n → ds j = nI (dd j) ∧ dd j ≤ 4) : par ds (nI d) n = pQ dd d n := by
  unfold par pQ
  split
  · rename_i h0
    subst h0
    exact la_none (fun j hj => by
      rw [(h j hj).1, show nI 0 - nI 1 = (-1 : Int32) by decide]
      exact decide_eq_false (nI_m1 (by have := (h j hj).2; omega)))
  · exact la_ext (fun j hj => by
      rw [(h j hj).1, nI_sub1 (by omega)]
      have := (h j hj).2
      exact decide_eq_decide.mpr (by rw [nI_eq (by omega) (by omega)]; omega))
theorem mUp_N {ds : Nat → Int32} {dd : Nat → Nat} {f i : Nat} (h : ∀ j, j ≤ i → ds (f + j) = nI (dd j) ∧ dd j ≤ 4) : mUp ds f i = pN dd i := by
  have hi := h i (Nat.le_refl _)
  unfold mUp pN pQ
  rw [hi.1]
  by_cases h0 : dd i = 0
  · rw [if_pos (by rw [h0]; rfl), if_pos h0]
  · rw [if_neg (show ¬ nI (dd i) = 0 from fun z => h0 ((nI_eq (b := 0) (by omega) (by omega)).mp z)), if_neg h0]
    exact la_ext (fun j hj => by
      have := h j (by omega)
      rw [this.1, nI_sub1 (by omega)]
      exact decide_eq_decide.mpr (by rw [nI_eq (by omega) (by omega)]; omega))
theorem mBl_N {ds : Nat → Int32} {dd : Nat → Nat} {f n i : Nat} (h : ∀ j, j < n → ds (f + j) = nI (dd j) ∧ dd j ≤ 4) (hi : i < n) : mBl ds f n i = bN dd n i := by
  unfold mBl bN
  exact ct_ext (fun j a b => by rw [mUp_N (fun k hk => h k (by omega))])
theorem bN_s {dd dd' : Nat → Nat} {n i : Nat} (h : ∀ j, j < n → dd j = dd' j) (hi : i < n) : bN dd' (n + 1) i = bN dd n i + (if pN dd' n = some i then 1 else 0) := by
  unfold bN
  rw [show n + 1 - (i + 1) = (n - (i + 1)) + 1 by omega, ct_e, show i + 1 + (n - (i + 1)) = n by omega]
  congr 1
  · exact ct_ext (fun j a b => by rw [pN_ext (fun k hk => h k (by omega))])
  · by_cases hz : pN dd' n = some i
    · rw [if_pos hz, if_pos (decide_eq_true hz)]
    · rw [if_neg hz, if_neg (by rw [decide_eq_false hz]; decide)]
theorem bN_n (dd : Nat → Nat) (n : Nat) : bN dd (n + 1) n = 0 := by
  unfold bN
  rw [show n + 1 - (n + 1) = 0 by omega]
  rfl
theorem tI_ord {τ : tS} {xs dg dd wn : Nat → Nat} (h : tI τ xs dg dd wn) {i j : Nat} (hij : i < j) (hj : j < τ.2.2.2.2.2.2.1) : kLt (xs j) (dg j) (xs i) (dg i) := by
  obtain ⟨-, -, ho, -⟩ := h
  induction j with
  | zero => omega
  | succ j ih =>
    rcases Nat.lt_or_ge i j with h1 | h1
    · exact kLt_tr (ho j hj) (ih h1 (by omega))
    · rw [show i = j by omega]; exact ho j hj
theorem tI_dis {τ : tS} {xs dg dd wn : Nat → Nat} (h : tI τ xs dg dd wn) {i j : Nat} (hi : i < τ.2.2.2.2.2.2.1) (hj : j < τ.2.2.2.2.2.2.1) (e : τ.1 i = τ.1 j) : i = j := by
  have hc := h.2.1
  have c1 := (hc i hi).2.1
  have c2 := (hc j hj).2.1
  have e1 : xs i = xs j := by
    rw [(hc i hi).1, (hc j hj).1] at e
    have l1 := cdg_lt c1
    have l2 := cdg_lt c2
    exact (pk_lEQ (by omega) (by omega)).mp e
  rcases Nat.lt_trichotomy i j with h1 | h1 | h1
  · exact (kLt_ne (tI_ord h h1 hj) e1.symm c2 c1).elim
  · exact h1
  · exact (kLt_ne (tI_ord h h1 hi) e1 c1 c2).elim
/-- the class's row of a code, as the reference finds it -/
theorem tFind_la {τ : tS} {xs dg dd wn : Nat → Nat} (h : tI τ xs dg dd wn) (co : Int64) : tFind τ co = la (fun j => decide (τ.1 j = co)) τ.2.2.2.2.2.2.1 := by
  unfold tFind
  exact fi_la_eq (fun i j hi hj a b => tI_dis h hi hj ((of_decide_eq_true a).trans (of_decide_eq_true b).symm))
