/-! codes: the class's comparisons are the reference's -/
theorem cdg_pos {x d : Nat} (h : cdg x d) : 1 ≤ x := by
  have : 0 < 10 ^ d := Nat.pow_pos (by omega)
  have := h.1
  omega
def fF (x d : Nat) : Nat := x * 10 ^ (10 - d)
theorem fF_b {x d : Nat} (h : cdg x d) : 10 ^ 10 ≤ fF x d ∧ fF x d < 2 * 10 ^ 10 := by
  obtain ⟨h1, h2, h3⟩ := h
  have e : 10 ^ 10 = 10 ^ d * 10 ^ (10 - d) := by rw [← Nat.pow_add]; congr 1; omega
  have p : 0 < 10 ^ (10 - d) := Nat.pow_pos (by omega)
  unfold fF
  rw [e]
  refine ⟨Nat.mul_le_mul_right _ h1, ?_⟩
  rw [← Nat.mul_assoc]
  exact (Nat.mul_lt_mul_right p).mpr h2
theorem fl_F {x d k : Nat} (h : cdg x d) (hk : 10 - d ≤ k) : fl k (lN x) = lN (fF x d) := by
  induction k generalizing x d with
  | zero =>
    have := h.2.2
    rw [show d = 10 by omega]
    show lN x = lN (x * 10 ^ (10 - 10))
    simp
  | succ k ih =>
    have hx := cdg_lt h
    rw [fl_s, show (10000000000 : Int64) = lN 10000000000 from rfl]
    by_cases hd : d = 10
    · subst hd
      rw [if_neg (fun z => by
        have := (pk_lLT (by omega) (by omega)).mp z
        have := h.1
        omega)]
      show lN x = lN (x * 10 ^ (10 - 10))
      simp
    · have h3 := h.2.2
      have hp : (10:Nat) ^ d ≤ 10 ^ 9 := Nat.pow_le_pow_right (by omega) (by omega)
      rw [if_pos ((pk_lLT (by omega) (by omega)).mpr (by have := h.2.1; omega)), show (10 : Int64) = lN 10 from rfl, lN_mul]
      have h' : cdg (x * 10) (d + 1) := by
        obtain ⟨h1, h2, -⟩ := h
        exact ⟨by rw [Nat.pow_succ]; omega, by rw [Nat.pow_succ]; omega, by omega⟩
      rw [ih h' (by omega)]
      unfold fF
      rw [Nat.mul_assoc, show 10 * 10 ^ (10 - (d + 1)) = 10 ^ (10 - d) by rw [← Nat.pow_succ']; congr 1; omega]
/-- behind: by what is filled, then by itself -/
def kLt (x d y f : Nat) : Prop := fF y f < fF x d ∨ (fF y f = fF x d ∧ y < x)
theorem cb_k {x d y f : Nat} (hx : cdg x d) (hy : cdg y f) : cb (lN x) (lN y) = true ↔ kLt x d y f := by
  have b1 := fF_b hx
  have b2 := fF_b hy
  have l1 := cdg_lt hx
  have l2 := cdg_lt hy
  unfold cb
  rw [fl_F hx (by omega), fl_F hy (by omega)]
  split
  · rename_i h
    have h := (pk_lEQ (by omega) (by omega)).mp h
    rw [decide_eq_true_eq, pk_lLT (by omega) (by omega)]
    exact ⟨fun z => Or.inr ⟨h.symm, z⟩, fun z => by rcases z with z | z <;> omega⟩
  · rename_i h
    have h := fun z => h ((pk_lEQ (by omega) (by omega)).mpr z)
    rw [decide_eq_true_eq, pk_lLT (by omega) (by omega)]
    exact ⟨fun z => Or.inl z, fun z => by
      rcases z with z | z
      · exact z
      · exact absurd z.1.symm h⟩
theorem mbh_k {x d y f : Nat} (hx : cdg x d) (hy : cdg y f) : mbh x d y f = true ↔ kLt x d y f := by
  have px := cdg_pos hx
  have py := cdg_pos hy
  have d10 := hx.2.2
  have f10 := hy.2.2
  by_cases hdf : d < f
  · have e : fF x d = (x * 10 ^ (f - d)) * 10 ^ (10 - f) := by
      unfold fF; rw [Nat.mul_assoc, ← Nat.pow_add]; congr 2; omega
    have p : 0 < 10 ^ (10 - f) := Nat.pow_pos (by omega)
    have p2 : 0 < 10 ^ (f - d) := Nat.pow_pos (by omega)
    have h10 : 10 ≤ 10 ^ (f - d) := by
      have := Nat.pow_le_pow_right (n := 10) (by omega) (show 1 ≤ f - d by omega)
      omega
    have hm : mbh x d y f = true ↔ y < x * 10 ^ (f - d) := by
      unfold mbh mbg
      rw [if_pos hdf, decide_eq_false (show ¬ f < d by omega)]
      simp only [Bool.false_and, Bool.or_false, decide_eq_true_eq]
      rw [Nat.div_lt_iff_lt_mul p2]
    rw [hm]
    unfold kLt
    rw [e]
    show _ ↔ (y * 10 ^ (10 - f) < _ ∨ _)
    rw [Nat.mul_lt_mul_right p]
    constructor
    · exact fun z => Or.inl z
    · intro z
      rcases z with z | z
      · exact z
      · have h1 := z.1
        have h1 : y * 10 ^ (10 - f) = (x * 10 ^ (f - d)) * 10 ^ (10 - f) := h1
        have h2 := Nat.eq_of_mul_eq_mul_right p h1
        have h3 : x * 1 < x * 10 ^ (f - d) := (Nat.mul_lt_mul_left px).mpr (by omega)
        omega
  · have e : fF y f = (y * 10 ^ (d - f)) * 10 ^ (10 - d) := by
      unfold fF; rw [Nat.mul_assoc, ← Nat.pow_add]; congr 2; omega
    have p : 0 < 10 ^ (10 - d) := Nat.pow_pos (by omega)
    have p2 : 0 < 10 ^ (d - f) := Nat.pow_pos (by omega)
    have hk : kLt x d y f ↔ (y * 10 ^ (d - f) < x ∨ (y * 10 ^ (d - f) = x ∧ y < x)) := by
      unfold kLt
      rw [e]
      show (_ < x * 10 ^ (10 - d) ∨ (_ = x * 10 ^ (10 - d) ∧ _)) ↔ _
      rw [Nat.mul_lt_mul_right p, Nat.mul_left_inj (by omega)]
    rw [hk]
    unfold mbh mbg
    rw [if_neg hdf]
    simp only [Bool.or_eq_true, Bool.and_eq_true, decide_eq_true_eq]
    have q1 := Nat.div_add_mod x (10 ^ (d - f))
    have q2 := Nat.mod_lt x p2
    rcases Nat.lt_or_ge f d with hfd | hfd
    · have h10 : 10 ≤ 10 ^ (d - f) := by
        have := Nat.pow_le_pow_right (n := 10) (by omega) (show 1 ≤ d - f by omega)
        omega
      have key : y * 10 ^ (d - f) ≤ x ↔ y ≤ x / 10 ^ (d - f) := (Nat.le_div_iff_mul_le p2).symm
      have hy3 : y * 1 < y * 10 ^ (d - f) := (Nat.mul_lt_mul_left py).mpr (by omega)
      constructor
      · intro z
        have : y ≤ x / 10 ^ (d - f) := by rcases z with z | z <;> omega
        have := key.mpr this
        omega
      · intro z
        have : y ≤ x / 10 ^ (d - f) := key.mp (by omega)
        omega
    · rw [show d - f = 0 by omega]
      simp
      omega
theorem cb_mbh {x d y f : Nat} (hx : cdg x d) (hy : cdg y f) : cb (lN x) (lN y) = mbh x d y f := Bool.eq_iff_iff.mpr ((cb_k hx hy).trans (mbh_k hx hy).symm)
theorem bw_le {y h k : Nat} (hh : h ≤ y) (hy : y < 2 ^ 63) : bw (lN y) k (lN h) = lN h := by
  cases k with
  | zero => rfl
  | succ k => rw [bw_s, if_neg (fun z => by have := (pk_lLT hy (by omega)).mp z; omega)]
theorem bw_m {x d y f k : Nat} (hx : cdg x d) (hy : cdg y f) (hf : f ≤ d) (hk : d ≤ f + k) : (bw (lN y) k (lN x) = lN y) ↔ x / 10 ^ (d - f) = y := by
  have ly := cdg_lt hy
  induction k generalizing x d with
  | zero =>
    have lx := cdg_lt hx
    rw [show d - f = 0 by omega, Nat.pow_zero, Nat.div_one]
    exact pk_lEQ (by omega) (by omega)
  | succ k ih =>
    have lx := cdg_lt hx
    rw [bw_s]
    by_cases hyx : y < x
    · rw [if_pos ((pk_lLT (by omega) (by omega)).mpr hyx), show (10 : Int64) = lN 10 from rfl, pk_lDiv (by omega) (by omega) (by omega)]
      rcases Nat.lt_or_ge f d with hfd | hfd
      · obtain ⟨d', rfl⟩ : ∃ d', d = d' + 1 := ⟨d - 1, by omega⟩
        refine (ih (cdg_div hx) (by omega) (by omega)).trans ?_
        rw [Nat.div_div_eq_div_mul, ← Nat.pow_succ', show d' + 1 - f = d' - f + 1 by omega]
      · have hdf : d = f := by omega
        subst hdf
        have hlt : x / 10 < y := by
          have := hx.2.1
          have := hy.1
          omega
        rw [bw_le (by omega) (by omega), Nat.sub_self, Nat.pow_zero, Nat.div_one]
        constructor
        · intro z
          have := (pk_lEQ (by omega) (by omega)).mp z
          omega
        · intro z; omega
    · rw [if_neg (fun z => hyx ((pk_lLT (by omega) (by omega)).mp z))]
      rcases Nat.lt_or_ge f d with hfd | hfd
      · exfalso
        have h1 : (10:Nat) ^ (f + 1) ≤ 10 ^ d := Nat.pow_le_pow_right (by omega) (by omega)
        rw [Nat.pow_succ] at h1
        have := hx.1
        have := hy.2.1
        omega
      · rw [show d - f = 0 by omega, Nat.pow_zero, Nat.div_one]
        exact pk_lEQ (by omega) (by omega)
theorem fit_mbg {x d y f : Nat} (hx : cdg x d) (hy : cdg y f) : ((! decide (lN x = lN y)) && decide (bw (lN y) 10 (lN x) = lN y)) = mbg x d y f := by
  have ly := cdg_lt hy
  have lx := cdg_lt hx
  have d10 := hx.2.2
  unfold mbg
  rcases Nat.lt_or_ge f d with hfd | hfd
  · rw [decide_eq_true hfd, Bool.true_and, decide_eq_decide.mpr (bw_m hx hy (by omega) (by omega)), decide_eq_false (show ¬ lN x = lN y from fun z => by
      have z := (pk_lEQ (by omega) (by omega)).mp z
      have h1 : (10:Nat) ^ (f + 1) ≤ 10 ^ d := Nat.pow_le_pow_right (by omega) (by omega)
      rw [Nat.pow_succ] at h1
      have := hx.1
      have := hy.2.1
      omega)]
    rfl
  · rw [decide_eq_false (show ¬ f < d by omega), Bool.false_and]
    rcases Nat.lt_or_ge d f with hdf | hdf
    · have h1 : (10:Nat) ^ (d + 1) ≤ 10 ^ f := Nat.pow_le_pow_right (by omega) (by omega)
      rw [Nat.pow_succ] at h1
      have h2 := hx.2.1
      have h3 := hy.1
      rw [bw_le (by omega) (by omega), decide_eq_false (show ¬ lN x = lN y from fun z => by
        have z := (pk_lEQ (by omega) (by omega)).mp z
        omega)]
      rfl
    · have hdf : d = f := by omega
      subst hdf
      have := bw_m hx hy (Nat.le_refl _) (k := 10) (by omega)
      rw [Nat.sub_self, Nat.pow_zero, Nat.div_one] at this
      rw [decide_eq_decide.mpr this, decide_eq_decide.mpr (pk_lEQ (a := x) (b := y) (by omega) (by omega))]
      cases decide (x = y) <;> rfl
theorem kLt_tr {x d y f z g : Nat} (h1 : kLt x d y f) (h2 : kLt y f z g) : kLt x d z g := by
  unfold kLt at *
  omega
theorem kLt_ne {x d y f : Nat} (h : kLt x d y f) (e : x = y) (hx : cdg x d) (hy : cdg y f) : False := by
  subst e
  have hdf : d = f := by
    rcases Nat.lt_trichotomy d f with h1 | h1 | h1
    · have h1 : (10:Nat) ^ (d + 1) ≤ 10 ^ f := Nat.pow_le_pow_right (by omega) (by omega)
      rw [Nat.pow_succ] at h1
      have := hx.2.1
      have := hy.1
      omega
    · exact h1
    · have h1 : (10:Nat) ^ (f + 1) ≤ 10 ^ d := Nat.pow_le_pow_right (by omega) (by omega)
      rw [Nat.pow_succ] at h1
      have := hx.1
      have := hy.2.1
      omega
  subst hdf
  unfold kLt at h
  omega
