/-! a row more -/
theorem rowK_n {tx : Nat → Nat} {n : Nat} {w1 : Nat → Int64} {cd : Nat → Int64} {ds : Nat → Int32} {tn q : Nat} (h : rowK tx n w1 cd ds tn q = none) : ¬ mds ds tn < nI (dsh tx n q) ∧ tn < 40 ∧ dsh tx n q ≤ 4 ∧ rc tx n (q + dsh tx n q) ≠ 0 ∧ fit cd ds tn (dsh tx n q) (rc tx n (q + dsh tx n q)) = true ∧ bhd cd tn (rc tx n (q + dsh tx n q)) = true := by
  unfold rowK at h
  split at h
  · cases h
  · split at h
    · cases h
    · split at h
      · cases h
      · split at h
        · cases h
        · unfold cwK at h
          split at h
          · cases h
          · split at h
            · cases h
            · split at h
              · cases h
              · rename_i h1 h2 h3 h4 h5 h6 h7
                exact ⟨h2, by omega, by omega, h5, by simpa using h6, by simpa using h7⟩
theorem wcp_in {w : Nat → Int64} {b c : Nat} {wd : Nat → Int64} {k : Nat} (h : k < c) : wcp w b c wd (b + k) = w k := by
  induction c with
  | zero => omega
  | succ c ih =>
    show vp_updL (wcp w b c wd) (b + c) (w c) (b + k) = w k
    unfold vp_updL
    split
    · rw [show k = c by omega]
    · exact ih (by omega)
theorem wcp_out {w : Nat → Int64} {b c : Nat} {wd : Nat → Int64} {j : Nat} (h : j < b) : wcp w b c wd j = wd j := by
  induction c with
  | zero => rfl
  | succ c ih =>
    show vp_updL (wcp w b c wd) (b + c) (w c) j = wd j
    unfold vp_updL
    rw [if_neg (by omega)]
    exact ih
theorem upd_s {f : Nat → Int32} {k : Nat} {x : Int32} : upd f k x k = x := if_pos rfl
theorem uN_e {f : Nat → Nat} {k x : Nat} : ∀ j, j < k → f j = uN f k x j := fun j hj => (uN_n (by omega)).symm
theorem tI_row {τ : tS} {xs dg dd wn : Nat → Nat} (h : tI τ xs dg dd wn) {tx : Nat → Nat} {n q : Nat} {w1 : Nat → Int64} (hr : rowK tx n w1 τ.1 τ.2.1 τ.2.2.2.2.2.2.1 q = none) (hq : q ≤ n) : tI (tRow tx n w1 τ (dsh tx n q) (q + dsh tx n q)) (uN xs τ.2.2.2.2.2.2.1 (cN tx (q + dsh tx n q) (dN tx n (q + dsh tx n q)))) (uN dg τ.2.2.2.2.2.2.1 (dN tx n (q + dsh tx n q))) (uN dd τ.2.2.2.2.2.2.1 (dsh tx n q)) (uN wn τ.2.2.2.2.2.2.1 (wds tx n 4 4 0 (q + dsh tx n q + dN tx n (q + dsh tx n q)) w1).2.1) := by
  obtain ⟨r1, r2, r3, r4, r5, r6⟩ := rowK_n hr
  have hrc := rc_no r4
  have hcx : cdg (cN tx (q + dsh tx n q) (dN tx n (q + dsh tx n q))) (dN tx n (q + dsh tx n q)) := dN_dg
  have hd1 : dsh tx n q ≤ n - q := rn_le _ _ _ _
  have hd2 : q + dsh tx n q + dN tx n (q + dsh tx n q) ≤ n := hrun_n (K := dig) rfl _ _ _ _ (by omega)
  have hw := wds_b (tx := tx) (n := n) (mo := 4) (f := 4) (k := 0) (q := q + dsh tx n q + dN tx n (q + dsh tx n q)) (wd := w1) rfl hd2
  generalize hc : (wds tx n 4 4 0 (q + dsh tx n q + dN tx n (q + dsh tx n q)) w1).2.1 = c at hw
  have hup := ch_up h r1
  have hc0 := h.2.1
  have hP := par_Q (ds := τ.2.1) (dd := dd) (d := dsh tx n q) (n := τ.2.2.2.2.2.2.1) (by omega) (fun j hj => ⟨(hc0 j hj).2.2.1, (hc0 j hj).2.2.2.1⟩)
  obtain ⟨h40, hrows, hord, hch, hcp⟩ := id h
  have hpn : pN (uN dd τ.2.2.2.2.2.2.1 (dsh tx n q)) τ.2.2.2.2.2.2.1 = pQ dd (dsh tx n q) τ.2.2.2.2.2.2.1 := by
    unfold pN
    rw [uN_s]
    exact pQ_ext (fun j hj => uN_n (by omega))
  refine ⟨by show τ.2.2.2.2.2.2.1 + 1 ≤ 40; omega, ?_, ?_, ?_, ?_⟩
  · intro i hi
    have hi : i < τ.2.2.2.2.2.2.1 + 1 := hi
    by_cases hin : i = τ.2.2.2.2.2.2.1
    · subst hin
      refine ⟨?_, ?_, ?_, ?_, ?_, ?_, ?_, ?_⟩
      · show vp_updL τ.1 _ _ _ = _
        rw [vp_us, uN_s, hrc.2]
      · rw [uN_s, uN_s]; exact hcx
      · show upd τ.2.1 _ _ _ = _
        rw [upd_s, uN_s]
      · rw [uN_s]; exact r3
      · show upd τ.2.2.1 _ _ _ = _
        rw [upd_s, hpn, hP]
      · show chi τ.2.2.2.1 _ _ _ = nI (bN _ (τ.2.2.2.2.2.2.1 + 1) _)
        rw [bN_n, hP]
        cases hj : pQ dd (dsh tx n q) τ.2.2.2.2.2.2.1 with
        | none => exact upd_s
        | some j =>
          have := (pQ_lt hj).1
          show upd (upd τ.2.2.2.1 _ _) j _ _ = _
          rw [upd_ne (by omega), upd_s]
      · show upd τ.2.2.2.2.1 _ _ _ = _
        rw [upd_s, uN_s, hc]
      · rw [uN_s]; omega
    · have hi : i < τ.2.2.2.2.2.2.1 := by omega
      obtain ⟨a1, a2, a3, a4, a5, a6, a7, a8⟩ := hrows i hi
      refine ⟨?_, ?_, ?_, ?_, ?_, ?_, ?_, ?_⟩
      · show vp_updL τ.1 _ _ _ = _
        rw [updL_ne hin, uN_n hin]; exact a1
      · rw [uN_n hin, uN_n hin]; exact a2
      · show upd τ.2.1 _ _ _ = _
        rw [upd_ne hin, uN_n hin]; exact a3
      · rw [uN_n hin]; exact a4
      · show upd τ.2.2.1 _ _ _ = _
        rw [upd_ne hin, ← pN_ext (fun k hk => uN_e k (by omega))]; exact a5
      · show chi τ.2.2.2.1 _ _ _ = nI (bN _ (τ.2.2.2.2.2.2.1 + 1) _)
        rw [bN_s uN_e hi, hpn, hP]
        cases hj : pQ dd (dsh tx n q) τ.2.2.2.2.2.2.1 with
        | none =>
          show upd τ.2.2.2.1 _ _ _ = _
          rw [upd_ne hin, if_neg (by simp)]
          exact a6
        | some j =>
          show upd (upd τ.2.2.2.1 _ _) j _ _ = _
          by_cases hij : i = j
          · subst hij
            rw [upd_s, upd_ne hin, if_pos rfl, a6, nI_add]
          · rw [upd_ne hij, upd_ne hin, if_neg (fun z => hij (by injection z with z; exact z.symm))]
            exact a6
      · show upd τ.2.2.2.2.1 _ _ _ = _
        rw [upd_ne hin, uN_n hin]; exact a7
      · rw [uN_n hin]; exact a8
  · intro i hi
    have hi : i + 1 < τ.2.2.2.2.2.2.1 + 1 := hi
    by_cases hin : i + 1 = τ.2.2.2.2.2.2.1
    · rw [uN_n (show i ≠ τ.2.2.2.2.2.2.1 by omega), uN_n (show i ≠ τ.2.2.2.2.2.2.1 by omega), hin, uN_s, uN_s]
      rw [← hin] at r6
      rw [hrc.2] at r6
      have r6 : cb (lN _) (τ.1 i) = true := r6
      rw [(hrows i (by omega)).1] at r6
      exact (cb_k hcx (hrows i (by omega)).2.1).mp r6
    · rw [uN_n hin, uN_n hin, uN_n (show i ≠ τ.2.2.2.2.2.2.1 by omega), uN_n (show i ≠ τ.2.2.2.2.2.2.1 by omega)]
      exact hord i (by omega)
  · intro i hi v hv
    have hi : i < τ.2.2.2.2.2.2.1 + 1 := hi
    by_cases hin : i = τ.2.2.2.2.2.2.1
    · subst hin
      rw [uN_s] at hv
      by_cases hvd : v = dsh tx n q
      · exact ⟨_, Nat.le_refl _, by rw [uN_s, hvd]⟩
      · obtain ⟨j, hj⟩ := hup (by omega) (by omega)
        have hl := pQ_lt hj
        obtain ⟨k, k1, k2⟩ := hch j hl.1 v (by omega)
        exact ⟨k, by omega, by rw [uN_n (by omega)]; exact k2⟩
    · rw [uN_n hin] at hv
      obtain ⟨k, k1, k2⟩ := hch i (by omega) v hv
      exact ⟨k, k1, by rw [uN_n (by omega)]; exact k2⟩
  · show chp τ.2.2.2.2.2.2.2 _ = ct _ (τ.2.2.2.2.2.2.1 + 1) 0 0
    rw [ct_e, hP, ← ct_ext (P := fun j => decide (dd j = 0)) (fun j a b => by rw [← uN_e j (by omega)]), ← hcp, Nat.zero_add]
    show _ = _ + (if decide (uN dd _ _ _ = 0) = true then 1 else 0)
    rw [uN_s]
    by_cases h0 : dsh tx n q = 0
    · unfold pQ
      rw [if_pos h0, if_pos (decide_eq_true h0)]; rfl
    · obtain ⟨j, hj⟩ := hup (by omega) (by omega)
      rw [hj, if_neg (by simpa using h0)]; rfl
/-- the reference's words of a row: what was read, 0 behind -/
def wcq (ak : Nat → Int64) (c b : Nat) : Nat → (Nat → Int64) → (Nat → Int64)
  | 0, wd => wd
  | k + 1, wd => vp_updL (wcq ak c b k wd) (b + k) (if k < c then ak k else 0)
theorem wcq_s (ak : Nat → Int64) (c b k : Nat) (wd : Nat → Int64) : wcq ak c b (k + 1) wd = vp_updL (wcq ak c b k wd) (b + k) (if k < c then ak k else 0) := rfl
theorem wcq_in {ak : Nat → Int64} {c b m k : Nat} {wd : Nat → Int64} (h : k < m) : wcq ak c b m wd (b + k) = if k < c then ak k else 0 := by
  induction m with
  | zero => omega
  | succ m ih =>
    rw [wcq_s]
    unfold vp_updL
    split
    · rw [show k = m by omega]
    · exact ih (by omega)
theorem wcq_out {ak : Nat → Int64} {c b m j : Nat} {wd : Nat → Int64} (h : j < b) : wcq ak c b m wd j = wd j := by
  induction m with
  | zero => rfl
  | succ m ih =>
    rw [wcq_s]
    unfold vp_updL
    rw [if_neg (by omega)]
    exact ih
theorem ag_row {τ : tS} {wn : Nat → Nat} {cd : Nat → Int64} {ds wc : Nat → Int32} {wd : Nat → Int64} {f : Nat} (ha : ag τ wn cd ds wc wd f) {tx : Nat → Nat} {n m q x c : Nat} {w1 ak : Nat → Int64} (hx : lN (rc tx n q) = lN x) (hc : (wds tx n 4 4 0 (q + dN tx n q) w1).2.1 = c) (hc4 : c ≤ 4) (hw : ∀ i, i < c → (wds tx n 4 4 0 (q + dN tx n q) w1).2.2.2 i = ak i) (hn4 : ∀ i, i < τ.2.2.2.2.2.2.1 → wn i ≤ 4) : ag (tRow tx n w1 τ m q) (uN wn τ.2.2.2.2.2.2.1 c) (vp_updL cd (f + τ.2.2.2.2.2.2.1) (lN x)) (upd ds (f + τ.2.2.2.2.2.2.1) (nI m)) (upd wc (f + τ.2.2.2.2.2.2.1) (nI c)) (wcq ak c (4 * (f + τ.2.2.2.2.2.2.1)) 4 wd) f := by
  intro i hi
  have hi : i < τ.2.2.2.2.2.2.1 + 1 := hi
  by_cases hin : i = τ.2.2.2.2.2.2.1
  · subst hin
    refine ⟨?_, ?_, ?_, ?_⟩
    · show _ = vp_updL τ.1 _ _ _
      rw [vp_us, vp_us, hx]
    · show _ = upd τ.2.1 _ _ _
      rw [upd_s, upd_s]
    · show _ = upd τ.2.2.2.2.1 _ _ _
      rw [upd_s, upd_s, hc]
    · intro k hk
      rw [uN_s] at hk
      show _ = wcp _ _ _ τ.2.2.2.2.2.1 _
      rw [wcq_in (by omega), if_pos hk, hc, wcp_in hk, hw k hk]
  · have hi : i < τ.2.2.2.2.2.2.1 := by omega
    have h4 := hn4 i hi
    obtain ⟨a1, a2, a3, a4⟩ := ha i hi
    refine ⟨?_, ?_, ?_, ?_⟩
    · show _ = vp_updL τ.1 _ _ _
      rw [updL_ne (by omega), updL_ne hin]; exact a1
    · show _ = upd τ.2.1 _ _ _
      rw [upd_ne (by omega), upd_ne hin]; exact a2
    · show _ = upd τ.2.2.2.2.1 _ _ _
      rw [upd_ne (by omega), upd_ne hin]; exact a3
    · intro k hk
      rw [uN_n hin] at hk
      show _ = wcp _ _ _ τ.2.2.2.2.2.1 _
      rw [wcq_out (by omega), wcp_out (by omega)]; exact a4 k hk
theorem tI_clr {τ : tS} {xs dg dd wn : Nat → Nat} : tI (tClr τ) xs dg dd wn := ⟨Nat.zero_le _, fun i hi => absurd hi (Nat.not_lt_zero _), fun i hi => absurd hi (Nat.not_lt_zero _), fun i hi => absurd hi (Nat.not_lt_zero _), rfl⟩
/-- k places from s on, copied to d -/
def cpN {α : Type} (f : Nat → α) (d s k : Nat) : Nat → α := fun j => if d ≤ j ∧ j < d + k then f (s + (j - d)) else f j
theorem cpN_0 {α : Type} (f : Nat → α) (d s : Nat) : cpN f d s 0 = f := by
  funext j; unfold cpN; rw [if_neg (by omega)]
theorem cpN_i (f : Nat → Int32) (d s k : Nat) : upd (cpN f d s k) (d + k) (f (s + k)) = cpN f d s (k + 1) := by
  funext j
  unfold upd cpN
  by_cases hj : j = d + k
  · subst hj
    rw [if_pos rfl, if_pos (by omega), show d + k - d = k by omega]
  · rw [if_neg hj]
    by_cases h2 : d ≤ j ∧ j < d + k
    · rw [if_pos h2, if_pos (by omega)]
    · rw [if_neg h2, if_neg (by omega)]
theorem cpN_l (f : Nat → Int64) (d s k : Nat) : vp_updL (cpN f d s k) (d + k) (f (s + k)) = cpN f d s (k + 1) := by
  funext j
  unfold vp_updL cpN
  by_cases hj : j = d + k
  · subst hj
    rw [if_pos rfl, if_pos (by omega), show d + k - d = k by omega]
  · rw [if_neg hj]
    by_cases h2 : d ≤ j ∧ j < d + k
    · rw [if_pos h2, if_pos (by omega)]
    · rw [if_neg h2, if_neg (by omega)]
theorem cpN_o {α : Type} {f : Nat → α} {d s k j : Nat} (h : j < d ∨ d + k ≤ j) : cpN f d s k j = f j := if_neg (by omega)
theorem cpN_n {α : Type} {f : Nat → α} {d s k i : Nat} (h : i < k) : cpN f d s k (d + i) = f (s + i) := by
  unfold cpN
  rw [if_pos (by omega), show d + i - d = i by omega]
theorem ag_cp {τ : tS} {wn : Nat → Nat} {cd : Nat → Int64} {ds wc : Nat → Int32} {wd : Nat → Int64} (ha : ag τ wn cd ds wc wd 120) (hn4 : ∀ i, i < τ.2.2.2.2.2.2.1 → wn i ≤ 4) (f : Nat) : ag τ wn (cpN cd f 120 τ.2.2.2.2.2.2.1) (cpN ds f 120 τ.2.2.2.2.2.2.1) (cpN wc f 120 τ.2.2.2.2.2.2.1) (cpN wd (4 * f) 480 (4 * τ.2.2.2.2.2.2.1)) f := by
  intro i hi
  obtain ⟨a1, a2, a3, a4⟩ := ha i hi
  have h4 := hn4 i hi
  refine ⟨by rw [cpN_n hi]; exact a1, by rw [cpN_n hi]; exact a2, by rw [cpN_n hi]; exact a3, fun k hk => ?_⟩
  rw [show 4 * (f + i) + k = 4 * f + (4 * i + k) by omega, cpN_n (by omega), ← a4 k hk]
  congr 1
  omega
theorem ag_fr {τ : tS} {wn : Nat → Nat} {cd cd' : Nat → Int64} {ds wc ds' wc' : Nat → Int32} {wd wd' : Nat → Int64} {f : Nat} (ha : ag τ wn cd ds wc wd f) (hn4 : ∀ i, i < τ.2.2.2.2.2.2.1 → wn i ≤ 4) (hn : τ.2.2.2.2.2.2.1 ≤ 40) (h1 : ∀ j, f ≤ j → j < f + 40 → cd' j = cd j ∧ ds' j = ds j ∧ wc' j = wc j) (h2 : ∀ j, 4 * f ≤ j → j < 4 * f + 160 → wd' j = wd j) : ag τ wn cd' ds' wc' wd' f := by
  intro i hi
  obtain ⟨a1, a2, a3, a4⟩ := ha i hi
  have h4 := hn4 i hi
  obtain ⟨b1, b2, b3⟩ := h1 (f + i) (by omega) (by omega)
  exact ⟨b1.trans a1, b2.trans a2, b3.trans a3, fun k hk => (h2 _ (by omega) (by omega)).trans (a4 k hk)⟩
