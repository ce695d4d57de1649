/-! words do not hang on what was there before -/
theorem wds_ind {tx : Nat → Nat} {n mo f k q : Nat} {wd wd' : Nat → Int64} (h : ∀ i, i < k → wd i = wd' i) : (wds tx n mo f k q wd).1 = (wds tx n mo f k q wd').1 ∧ (wds tx n mo f k q wd).2.1 = (wds tx n mo f k q wd').2.1 ∧ (wds tx n mo f k q wd).2.2.1 = (wds tx n mo f k q wd').2.2.1 ∧ ∀ i, i < (wds tx n mo f k q wd).2.1 → (wds tx n mo f k q wd).2.2.2 i = (wds tx n mo f k q wd').2.2.2 i := by
  have hu : ∀ v, ∀ i, i < k + 1 → vp_updL wd k v i = vp_updL wd' k v i := fun v i hi => by
    unfold vp_updL
    split
    · rfl
    · exact h i (by omega)
  induction f generalizing k q wd wd' with
  | zero => exact ⟨rfl, rfl, rfl, h⟩
  | succ f ih =>
    rw [wds_s, wds_s]
    split
    · exact ⟨rfl, rfl, rfl, h⟩
    · split
      · refine ih (hu _) (fun v i hi => ?_)
        unfold vp_updL
        split
        · rfl
        · have := hu (lN (wN tx q (lNn tx n q))) i (by omega)
          exact this
      · exact ⟨rfl, rfl, rfl, hu _⟩
theorem wds_pos {tx : Nat → Nat} {n mo f k q : Nat} {wd : Nat → Int64} (hf : 0 < f) (h : (wds tx n mo f k q wd).1 = true) : k < (wds tx n mo f k q wd).2.1 := by
  induction f generalizing k q wd with
  | zero => omega
  | succ f ih =>
    rw [wds_s] at h ⊢
    split at h
    · cases h
    · rename_i h0
      rw [if_neg h0]
      split
      · rename_i h1
        rw [if_pos h1] at h
        cases f with
        | zero => exact Nat.lt_succ_self _
        | succ f => exact Nat.lt_of_succ_lt (ih (by omega) h)
      · exact Nat.lt_succ_self _
/-- the reference's arrays, from f on, have a tree's rows -/
def ag (τ : tS) (wn : Nat → Nat) (cd : Nat → Int64) (ds wc : Nat → Int32) (wd : Nat → Int64) (f : Nat) : Prop := ∀ i, i < τ.2.2.2.2.2.2.1 → cd (f + i) = τ.1 i ∧ ds (f + i) = τ.2.1 i ∧ wc (f + i) = τ.2.2.2.2.1 i ∧ ∀ k, k < wn i → wd (4 * (f + i) + k) = τ.2.2.2.2.2.1 (i * 4 + k)
theorem cN_pos {tx : Nat → Nat} {q d : Nat} : 1 ≤ cN tx q d := by
  induction d with
  | zero => exact Nat.le_refl _
  | succ d ih => show 1 ≤ cN tx q d * 10 + _; omega
theorem dN_dg {tx : Nat → Nat} {n q : Nat} : cdg (cN tx q (dN tx n q)) (dN tx n q) := cN_dg (hrun_k _ _ _ _ _) (fun _ hi => (hrun_all (K := dig) rfl hi).1)
theorem rc_no {tx : Nat → Nat} {n q : Nat} (h : rc tx n q ≠ 0) : (2 ≤ dN tx n q ∧ dN tx n q % 2 = 0 ∧ dig (hx tx n (q + dN tx n q)) = false) ∧ rc tx n q = cN tx q (dN tx n q) := by
  unfold rc at h ⊢
  split
  · exact ⟨by assumption, rfl⟩
  · rename_i hz
    exact absurd (if_neg hz) h
theorem dN_ge {tx : Nat → Nat} {n q : Nat} (hq : q ≤ n) : (rD tx n q = 0 ↔ dN tx n q = 0) ∧ (rD tx n q ≤ 10 → dN tx n q = rD tx n q) ∧ (10 < rD tx n q → dN tx n q = 10) := by
  have : dN tx n q = min 10 (rD tx n q) := dN_r hq
  omega
/-- a code is read just where the reference reads one -/
theorem rc_m {tx : Nat → Nat} {n q : Nat} (hq : q ≤ n) : rc tx n q = (if rD tx n q = 0 then 0 else if 10 < rD tx n q then 0 else if rD tx n q % 2 = 1 then 0 else cN tx q (rD tx n q)) := by
  have hd : dN tx n q = min 10 (rD tx n q) := dN_r hq
  have hl : rD tx n q ≤ n - q := rn_le _ _ _ _
  by_cases h0 : rD tx n q = 0
  · rw [if_pos h0]
    unfold rc
    rw [if_neg (by omega)]
  · rw [if_neg h0]
    by_cases h1 : 10 < rD tx n q
    · rw [if_pos h1]
      unfold rc
      have e : dN tx n q = 10 := by omega
      have hk : dig (tx (q + 10)) = true := rn_all (K := dig) h1
      rw [if_neg (fun z => by
        have z := z.2.2
        rw [e, show hx tx n (q + 10) = tx (q + 10) from if_pos (by omega), hk] at z
        cases z)]
    · rw [if_neg h1]
      have e : dN tx n q = rD tx n q := by omega
      by_cases h2 : rD tx n q % 2 = 1
      · rw [if_pos h2]
        unfold rc
        rw [e, if_neg (by omega)]
      · rw [if_neg h2]
        unfold rc
        have hz : dig (hx tx n (q + rD tx n q)) = false := by
          unfold hx
          split
          · exact rn_end (K := dig) (by show rD tx n q < n - q; omega)
          · rfl
        rw [e, if_pos ⟨by omega, by omega, hz⟩]
theorem dsh_M (tx : Nat → Nat) (n q : Nat) : dsh tx n q = rM tx n q := rfl
theorem rM_0 {tx : Nat → Nat} {n q : Nat} (hq : q < n) : rM tx n q = 0 ↔ tx q ≠ 45 := by
  show rn (fun c => decide (c = 45)) tx (n - q) q = 0 ↔ _
  rw [show n - q = (n - q - 1) + 1 by omega, rn_s]
  split
  · rename_i h
    simp at h
    exact ⟨fun z => by omega, fun z => absurd h z⟩
  · rename_i h
    simp at h
    exact ⟨fun _ => h, fun _ => rfl⟩
theorem mds_Pre {τ : tS} {wn : Nat → Nat} {cd : Nat → Int64} {ds wc : Nat → Int32} {wd : Nat → Int64} (h : ag τ wn cd ds wc wd 120) : mds τ.2.1 τ.2.2.2.2.2.2.1 = mPre τ.2.2.2.2.2.2.1 ds := by
  cases hn : τ.2.2.2.2.2.2.1 with
  | zero => rfl
  | succ k =>
    show τ.2.1 k + nI 1 = ds (120 + k) + nI 1
    rw [(h k (by omega)).2.1]
/-- where the dashes are not too many, the row above is there -/
theorem ch_up {τ : tS} {xs dg dd wn : Nat → Nat} (h : tI τ xs dg dd wn) {m : Nat} (hm : ¬ mds τ.2.1 τ.2.2.2.2.2.2.1 < nI m) (hm3 : m < 2 ^ 31) (hp : 0 < m) : ∃ j, pQ dd m τ.2.2.2.2.2.2.1 = some j := by
  obtain ⟨h40, hc, -, hch, -⟩ := h
  cases hn : τ.2.2.2.2.2.2.1 with
  | zero =>
    rw [hn] at hm
    exact absurd ((nI_ltI (a := 0) (b := m) (by omega) hm3).mpr hp) hm
  | succ k =>
    rw [hn] at hm hc hch
    have h1 : mds τ.2.1 (k + 1) = nI (dd k + 1) := by
      show τ.2.1 k + nI 1 = _
      rw [(hc k (by omega)).2.2.1, nI_add]
    have h4 := (hc k (by omega)).2.2.2.1
    rw [h1, nI_ltI (by omega) hm3] at hm
    obtain ⟨j, hj, e⟩ := hch k (by omega) (m - 1) (by omega)
    unfold pQ
    rw [if_neg (by omega)]
    exact la_some ⟨j, by omega, decide_eq_true (by omega)⟩
theorem fit_Bad {τ : tS} {xs dg dd wn : Nat → Nat} {cd : Nat → Int64} {ds wc : Nat → Int32} {wd : Nat → Int64} (h : tI τ xs dg dd wn) (ha : ag τ wn cd ds wc wd 120) {m x d : Nat} (hm : ¬ mds τ.2.1 τ.2.2.2.2.2.2.1 < nI m) (hm4 : m ≤ 4) (hx : cdg x d) (hd : 2 ≤ d ∧ d % 2 = 0) : fit τ.1 τ.2.1 τ.2.2.2.2.2.2.1 m x = ! mBad ds xs dg τ.2.2.2.2.2.2.1 m x d := by
  have hc := h.2.1
  have hp := par_Q (ds := τ.2.1) (dd := dd) (d := m) (n := τ.2.2.2.2.2.2.1) (by omega) (fun j hj => ⟨(hc j hj).2.2.1, (hc j hj).2.2.2.1⟩)
  unfold fit mBad
  rw [hp]
  by_cases h0 : m = 0
  · rw [if_pos h0]
    subst h0
    show decide (lN x < 200) = ! ! decide (d = 2)
    rw [Bool.not_not, show (200 : Int64) = lN 200 from rfl]
    have lx := cdg_lt hx
    refine decide_eq_decide.mpr ((pk_lLT (by omega) (by omega)).trans ?_)
    constructor
    · intro z
      rcases Nat.lt_or_ge d 4 with q | q
      · omega
      · have : (10:Nat) ^ 4 ≤ 10 ^ d := Nat.pow_le_pow_right (by omega) q
        have := hx.1
        omega
    · intro z
      subst z
      exact hx.2.1
  · rw [if_neg h0]
    obtain ⟨j, hj⟩ := ch_up h hm (by omega) (by omega)
    have hl := pQ_lt hj
    have e : la (fun j => decide (ds (120 + j) = nI m - nI 1)) τ.2.2.2.2.2.2.1 = some j := by
      rw [← hj]
      unfold pQ
      rw [if_neg h0]
      exact la_ext (fun i hi => by
        have := (hc i hi).2.2.2.1
        rw [(ha i hi).2.1, (hc i hi).2.2.1, nI_sub1 (by omega)]
        exact decide_eq_decide.mpr (by rw [nI_eq (by omega) (by omega)]; omega))
    rw [hj, e]
    show ((! decide (lN x = τ.1 j)) && decide (bw (τ.1 j) 10 (lN x) = τ.1 j)) = ! ! mbg x d (xs j) (dg j)
    rw [Bool.not_not, (hc j hl.1).1]
    exact fit_mbg hx (hc j hl.1).2.1
theorem bhd_Beh {τ : tS} {xs dg dd wn : Nat → Nat} (h : tI τ xs dg dd wn) {x d : Nat} (hx : cdg x d) : bhd τ.1 τ.2.2.2.2.2.2.1 x = mBeh xs dg τ.2.2.2.2.2.2.1 x d := by
  have hc := h.2.1
  cases hn : τ.2.2.2.2.2.2.1 with
  | zero => rfl
  | succ k =>
    rw [hn] at hc
    show cb (lN x) (τ.1 k) = mbh x d (xs k) (dg k)
    rw [(hc k (by omega)).1]
    exact cb_mbh hx (hc k (by omega)).2.1
/-- a row's failure is the reference's: of its code first, of its words then -/
theorem rowK_m {τ : tS} {xs dg dd wn : Nat → Nat} {cd : Nat → Int64} {ds wc : Nat → Int32} {wd : Nat → Int64} (h : tI τ xs dg dd wn) (ha : ag τ wn cd ds wc wd 120) {tx : Nat → Nat} {n q : Nat} (hq : q < n) (w1 ak : Nat → Int64) : rowK tx n w1 τ.1 τ.2.1 τ.2.2.2.2.2.2.1 q = match mrc tx n ds xs dg τ.2.2.2.2.2.2.1 q with
    | some f => some f
    | none => if mwOk tx n 4 59 (q + rM tx n q + rD tx n (q + rM tx n q)) ak then none else some (1, (wds tx n 4 4 0 (q + rM tx n q + rD tx n (q + rM tx n q)) ak).2.2.1) := by
  have hml : rM tx n q ≤ n - q := rn_le _ _ _ _
  have hrl : rD tx n (q + rM tx n q) ≤ n - (q + rM tx n q) := rn_le _ _ _ _
  have h0 := rM_0 (tx := tx) hq
  have hx0 : hx tx n q = tx q := if_pos hq
  have h40 := h.1
  unfold rowK mrc
  rw [hx0, dsh_M, mds_Pre ha]
  by_cases c1 : rM tx n q = 0 ∧ dig (tx q) = false
  · rw [if_pos c1, if_pos ⟨h0.mp c1.1, c1.2⟩]
  · rw [if_neg c1, if_neg (fun z => c1 ⟨h0.mpr z.1, z.2⟩)]
    by_cases c2 : mPre τ.2.2.2.2.2.2.1 ds < nI (rM tx n q)
    · rw [if_pos c2, if_pos c2]
    · rw [if_neg c2, if_neg c2]
      by_cases c3 : τ.2.2.2.2.2.2.1 = 40
      · rw [if_pos c3, if_pos (by omega)]
      · rw [if_neg c3, if_neg (by omega)]
        by_cases c4 : 4 < rM tx n q
        · rw [if_pos c4, if_pos c4]
        · rw [if_neg c4, if_neg c4]
          unfold cwK
          have hrc := rc_m (tx := tx) (n := n) (q := q + rM tx n q) (by omega)
          have hdn := dN_ge (tx := tx) (n := n) (q := q + rM tx n q) (by omega)
          by_cases c5 : rD tx n (q + rM tx n q) = 0
          · rw [if_pos c5]
            rw [if_pos c5] at hrc
            rw [if_pos hrc, hdn.1.mp c5]; rfl
          · rw [if_neg c5]
            rw [if_neg c5] at hrc
            by_cases c6 : 10 < rD tx n (q + rM tx n q)
            · rw [if_pos c6]
              rw [if_pos c6] at hrc
              rw [if_pos hrc, hdn.2.2 c6]
            · rw [if_neg c6]
              rw [if_neg c6] at hrc
              have e := hdn.2.1 (by omega)
              by_cases c7 : rD tx n (q + rM tx n q) % 2 = 1
              · rw [if_pos c7]
                rw [if_pos c7] at hrc
                rw [if_pos hrc, e]
              · rw [if_neg c7]
                rw [if_neg c7] at hrc
                have hp := cN_pos (tx := tx) (q := q + rM tx n q) (d := rD tx n (q + rM tx n q))
                rw [if_neg (by omega)]
                have hcx : cdg (cN tx (q + rM tx n q) (rD tx n (q + rM tx n q))) (rD tx n (q + rM tx n q)) := cN_dg (by omega) (fun i hi => rn_all hi)
                rw [hrc, fit_Bad h ha (by rw [mds_Pre ha]; exact c2) (by omega) hcx (by omega), bhd_Beh h hcx]
                cases c8 : mBad ds xs dg τ.2.2.2.2.2.2.1 (rM tx n q) (cN tx (q + rM tx n q) (rD tx n (q + rM tx n q))) (rD tx n (q + rM tx n q)) with
                | true => rfl
                | false =>
                  cases c9 : mBeh xs dg τ.2.2.2.2.2.2.1 (cN tx (q + rM tx n q) (rD tx n (q + rM tx n q))) (rD tx n (q + rM tx n q)) with
                  | false => rfl
                  | true =>
                    rw [e]
                    have hi := wds_ind (tx := tx) (n := n) (mo := 4) (f := 4) (k := 0) (q := q + rM tx n q + rD tx n (q + rM tx n q)) (wd := w1) (wd' := ak) (fun i hi => absurd hi (Nat.not_lt_zero _))
                    rw [hi.1, hi.2.2.1]
                    unfold mwOk
                    cases (wds tx n 4 4 0 (q + rM tx n q + rD tx n (q + rM tx n q)) ak).1 with
                    | false => rfl
                    | true =>
                      by_cases c10 : hx tx n (wds tx n 4 4 0 (q + rM tx n q + rD tx n (q + rM tx n q)) ak).2.2.1 = 59
                      · rw [decide_eq_true c10]
                        show (if _ then _ else (if _ ≠ 59 then _ else _)) = _
                        rw [if_neg (by decide), if_neg (fun z => z c10)]; rfl
                      · rw [decide_eq_false c10]
                        show (if _ then _ else (if _ ≠ 59 then _ else _)) = _
                        rw [if_neg (by decide), if_pos c10]; rfl
