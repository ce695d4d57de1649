theorem b_cases (b : Bool) : b = true ∨ b = false := by cases b <;> simp
theorem oo_cases (r : Option (Nat × Nat)) : r = none ∨ ∃ f, r = some f := by cases r with
  | none => exact Or.inl rfl
  | some f => exact Or.inr ⟨f, rfl⟩
theorem mR_3 {rws : Nat → Int32} {rw : Nat → Nat} (h : mR rws rw) {n : Nat} (hn : n ≤ 40) : mR (upd rws 3 (nI n)) (uN rw 3 n) := by
  intro i hi
  by_cases h3 : i = 3
  · subst h3
    rw [upd_s, uN_s]; exact ⟨rfl, hn⟩
  · rw [upd_ne h3, uN_n h3]; exact h i hi
theorem upd_2 (f : Nat → Int32) (k : Nat) (x y : Int32) : upd (upd f k x) k y = upd f k y := by
  funext j
  unfold upd
  split <;> rfl
theorem ag_cd {τ : tS} {xs dg dd wn : Nat → Nat} {cd : Nat → Int64} {ds wc : Nat → Int32} {wd : Nat → Int64} (h : tI τ xs dg dd wn) (ha : ag τ wn cd ds wc wd 120) : mCd cd xs dg τ.2.2.2.2.2.2.1 := fun i hi => ⟨by rw [(ha i hi).1, (h.2.1 i hi).1], (h.2.1 i hi).2.1⟩
theorem mrc_n {tx : Nat → Nat} {sn : Nat} {ds : Nat → Int32} {xs dg : Nat → Nat} {n q : Nat} (h : mrc tx sn ds xs dg n q = none) : n ≠ 40 ∧ rM tx sn q ≤ 4 ∧ rD tx sn (q + rM tx sn q) ≠ 0 ∧ rD tx sn (q + rM tx sn q) ≤ 10 := by
  unfold mrc at h
  split at h
  · cases h
  · split at h
    · cases h
    · split at h
      · cases h
      · split at h
        · cases h
        · split at h
          · cases h
          · split at h
            · cases h
            · rename_i h1 h2 h3 h4 h5 h6
              exact ⟨h3, by omega, h5, by omega⟩
/-- below its scratch rows the reference's arrays are as they were -/
def lowE (cd cd' : Nat → Int64) (ds ds' wc wc' : Nat → Int32) (wd wd' : Nat → Int64) : Prop := (∀ j, j < 120 → cd' j = cd j ∧ ds' j = ds j ∧ wc' j = wc j) ∧ ∀ j, j < 480 → wd' j = wd j
theorem lowE_rf {cd : Nat → Int64} {ds wc : Nat → Int32} {wd : Nat → Int64} : lowE cd cd ds ds wc wc wd wd := ⟨fun _ _ => ⟨rfl, rfl, rfl⟩, fun _ _ => rfl⟩
def mrPost (nx : Nat) (M : xH) (a : Nat) (th : Int32) (sg : Nat → Int32) (sn pr : Nat) (fk fp : Int32) (rws : Nat → Int32) (cd : Nat → Int64) (ds wc : Nat → Int32) (wd : Nat → Int64) (nn : Nat) (nE : Nat → Int32) (nC : Nat → Int64) (nK : Nat → Int32) (nO : Nat → Int64) (ln : Nat) (lF : Nat → Int32) (lC : Nat → Int64) (lT : Nat → Int32) (lO : Nat → Int64) (fn : Nat) (fC : Nat → Int64) (fP : Nat → Int32) (pt : Nat → Int32) (X : Option (Nat × Nat) × tS) : xO → Nat → xH → Prop := fun r n' M' => n' = nx ∧ (∀ b, (b < a ∨ a + 18 < b) → M' b = M b) ∧ match X.1 with
  | none => r = some (.int (nI 1)) ∧ ∃ (cd' : Nat → Int64) (ds' wc' : Nat → Int32) (wd' ak' : Nat → Int64) (ac' : Nat) (xs dg dd wn : Nat → Nat), tI X.2 xs dg dd wn ∧ ag X.2 wn cd' ds' wc' wd' 120 ∧ lowE cd cd' ds ds' wc wc' wd wd' ∧ mAt M' a th sg sn pr fk fp (upd rws 3 (nI X.2.2.2.2.2.2.2.1)) cd' ds' wc' wd' nn nE nC nK nO ln lF lC lT lO fn fC fP ak' ac' pt
  | some f => r = some (.int (nI 0)) ∧ ∃ (cd' : Nat → Int64) (ds' wc' : Nat → Int32) (wd' ak' : Nat → Int64) (ac' r3 : Nat), r3 ≤ 40 ∧ lowE cd cd' ds ds' wc wc' wd wd' ∧ mAt M' a th sg sn pr (nI f.1) (nI f.2) (upd rws 3 (nI r3)) cd' ds' wc' wd' nn nE nC nK nO ln lF lC lT lO fn fC fP ak' ac' pt
/-- a step of reading: what the class makes of a row that is right -/
theorem rd_step {τ : tS} {xs dg dd wn : Nat → Nat} {cd : Nat → Int64} {ds wc : Nat → Int32} {wd : Nat → Int64} (h : tI τ xs dg dd wn) (ha : ag τ wn cd ds wc wd 120) {tx : Nat → Nat} {n q : Nat} (hq : q < n) (w1 ak : Nat → Int64) (hk : mrc tx n ds xs dg τ.2.2.2.2.2.2.1 q = none) (hw : mwOk tx n 4 59 (q + rM tx n q + rD tx n (q + rM tx n q)) ak = true) : rowK tx n w1 τ.1 τ.2.1 τ.2.2.2.2.2.2.1 q = none ∧ (wds tx n 4 4 0 (q + dsh tx n q + dN tx n (q + dsh tx n q)) w1).2.2.1 = (wds tx n 4 4 0 (q + rM tx n q + rD tx n (q + rM tx n q)) ak).2.2.1 ∧ (wds tx n 4 4 0 (q + rM tx n q + rD tx n (q + rM tx n q)) ak).2.2.1 < n ∧ tI (tRow tx n w1 τ (dsh tx n q) (q + dsh tx n q)) (uN xs τ.2.2.2.2.2.2.1 (cN tx (q + dsh tx n q) (dN tx n (q + dsh tx n q)))) (uN dg τ.2.2.2.2.2.2.1 (dN tx n (q + dsh tx n q))) (uN dd τ.2.2.2.2.2.2.1 (dsh tx n q)) (uN wn τ.2.2.2.2.2.2.1 (wds tx n 4 4 0 (q + dsh tx n q + dN tx n (q + dsh tx n q)) w1).2.1) ∧ ag (tRow tx n w1 τ (dsh tx n q) (q + dsh tx n q)) (uN wn τ.2.2.2.2.2.2.1 (wds tx n 4 4 0 (q + dsh tx n q + dN tx n (q + dsh tx n q)) w1).2.1) (vp_updL cd (120 + τ.2.2.2.2.2.2.1) (lN (cN tx (q + rM tx n q) (rD tx n (q + rM tx n q))))) (upd ds (120 + τ.2.2.2.2.2.2.1) (nI (rM tx n q))) (upd wc (120 + τ.2.2.2.2.2.2.1) (nI (wds tx n 4 4 0 (q + rM tx n q + rD tx n (q + rM tx n q)) ak).2.1)) (wcq (wds tx n 4 4 0 (q + rM tx n q + rD tx n (q + rM tx n q)) ak).2.2.2 (wds tx n 4 4 0 (q + rM tx n q + rD tx n (q + rM tx n q)) ak).2.1 (4 * (120 + τ.2.2.2.2.2.2.1)) 4 wd) 120 := by
  have hml : rM tx n q ≤ n - q := rn_le _ _ _ _
  have hrl : rD tx n (q + rM tx n q) ≤ n - (q + rM tx n q) := rn_le _ _ _ _
  have hr : rowK tx n w1 τ.1 τ.2.1 τ.2.2.2.2.2.2.1 q = none := by
    rw [rowK_m h ha hq w1 ak, hk]
    show (if _ then _ else _) = _
    rw [if_pos hw]
  obtain ⟨m1, m2, m3, m4⟩ := mrc_n hk
  have e : dN tx n (q + rM tx n q) = rD tx n (q + rM tx n q) := (dN_ge (tx := tx) (n := n) (q := q + rM tx n q) (by omega)).2.1 m4
  have hi := wds_ind (tx := tx) (n := n) (mo := 4) (f := 4) (k := 0) (q := q + rM tx n q + rD tx n (q + rM tx n q)) (wd := w1) (wd' := ak) (fun i hi => absurd hi (Nat.not_lt_zero _))
  have hb := wds_b (tx := tx) (n := n) (mo := 4) (f := 4) (k := 0) (q := q + rM tx n q + rD tx n (q + rM tx n q)) (wd := ak) rfl (by omega)
  have h59 : (wds tx n 4 4 0 (q + rM tx n q + rD tx n (q + rM tx n q)) ak).2.2.1 < n := by
    unfold mwOk at hw
    simp only [Bool.and_eq_true, decide_eq_true_eq] at hw
    exact (hx_in (K := fun c => decide (c = 59)) rfl (tx := tx) (n := n) (by simpa using hw.2)).1
  have hrc : rc tx n (q + rM tx n q) = cN tx (q + rM tx n q) (rD tx n (q + rM tx n q)) := by
    have z : rc tx n (q + rM tx n q) = cN tx (q + rM tx n q) (dN tx n (q + rM tx n q)) := (rc_no (rowK_n hr).2.2.2.1).2
    rw [z, e]
  have hS : (wds tx n 4 4 0 (q + dsh tx n q + dN tx n (q + dsh tx n q)) w1) = (wds tx n 4 4 0 (q + rM tx n q + rD tx n (q + rM tx n q)) w1) := by
    show (wds tx n 4 4 0 (q + rM tx n q + dN tx n (q + rM tx n q)) w1) = _
    rw [e]
  refine ⟨hr, ?_, h59, tI_row h hr (by omega), ?_⟩
  · rw [hS]; exact hi.2.2.1
  · rw [show (wds tx n 4 4 0 (q + dsh tx n q + dN tx n (q + dsh tx n q)) w1).2.1 = (wds tx n 4 4 0 (q + rM tx n q + rD tx n (q + rM tx n q)) ak).2.1 from by rw [hS]; exact hi.2.1]
    refine ag_row (m := rM tx n q) ha ?_ ?_ hb.1 ?_ (fun i hi => (h.2.1 i hi).2.2.2.2.2.2.2)
    · show lN (rc tx n (q + rM tx n q)) = _
      rw [hrc]
    · show (wds tx n 4 4 0 (q + dsh tx n q + dN tx n (q + dsh tx n q)) w1).2.1 = _
      rw [hS]; exact hi.2.1
    · intro i hi2
      show (wds tx n 4 4 0 (q + dsh tx n q + dN tx n (q + dsh tx n q)) w1).2.2.2 i = _
      rw [hS]
      exact hi.2.2.2 i (by rw [hi.2.1]; exact hi2)
theorem rd_f1 {τ : tS} {xs dg dd wn : Nat → Nat} {cd : Nat → Int64} {ds wc : Nat → Int32} {wd : Nat → Int64} (h : tI τ xs dg dd wn) (ha : ag τ wn cd ds wc wd 120) {tx : Nat → Nat} {n q : Nat} (hq : q < n) (w1 : Nat → Int64) {f : Nat × Nat} (hk : mrc tx n ds xs dg τ.2.2.2.2.2.2.1 q = some f) : rowK tx n w1 τ.1 τ.2.1 τ.2.2.2.2.2.2.1 q = some f := by
  rw [rowK_m h ha hq w1 w1, hk]
theorem rd_f2 {τ : tS} {xs dg dd wn : Nat → Nat} {cd : Nat → Int64} {ds wc : Nat → Int32} {wd : Nat → Int64} (h : tI τ xs dg dd wn) (ha : ag τ wn cd ds wc wd 120) {tx : Nat → Nat} {n q : Nat} (hq : q < n) (w1 ak : Nat → Int64) (hk : mrc tx n ds xs dg τ.2.2.2.2.2.2.1 q = none) (hw : mwOk tx n 4 59 (q + rM tx n q + rD tx n (q + rM tx n q)) ak = false) : rowK tx n w1 τ.1 τ.2.1 τ.2.2.2.2.2.2.1 q = some (1, (wds tx n 4 4 0 (q + rM tx n q + rD tx n (q + rM tx n q)) ak).2.2.1) := by
  rw [rowK_m h ha hq w1 ak, hk]
  show (if _ then _ else _) = _
  rw [if_neg (by rw [hw]; decide)]
theorem lowE_row {cd cd' : Nat → Int64} {ds ds' wc wc' : Nat → Int32} {wd wd' : Nat → Int64} (h : lowE cd cd' ds ds' wc wc' wd wd') {n : Nat} {x : Int64} {m c : Int32} {ak : Nat → Int64} {k z : Nat} : lowE cd (vp_updL cd' (120 + n) x) ds (upd ds' (120 + n) m) wc (upd wc' (120 + n) c) wd (wcq ak k (4 * (120 + n)) z wd') :=
  ⟨fun j hj => ⟨(updL_ne (by omega)).trans (h.1 j hj).1, (upd_ne (by omega)).trans (h.1 j hj).2.1, (upd_ne (by omega)).trans (h.1 j hj).2.2⟩, fun j hj => (wcq_out (by omega)).trans (h.2 j hj)⟩
theorem mAt_rd {M : xH} {a : Nat} {th : Int32} {sg : Nat → Int32} {sn : Nat} {pr : Nat} {fk : Int32} {fp : Int32} {rws : Nat → Int32} {cd : Nat → Int64} {ds : Nat → Int32} {wc : Nat → Int32} {wd : Nat → Int64} {nn : Nat} {nE : Nat → Int32} {nC : Nat → Int64} {nK : Nat → Int32} {nO : Nat → Int64} {ln : Nat} {lF : Nat → Int32} {lC : Nat → Int64} {lT : Nat → Int32} {lO : Nat → Int64} {fn : Nat} {fC : Nat → Int64} {fP : Nat → Int32} {ak : Nat → Int64} {ac : Nat} {pt : Nat → Int32} {rws2 : Nat → Int32} {wd2 : Nat → Int64} (e1 : rws = rws2) (e2 : wd = wd2) (h : mAt M a th sg sn pr fk fp rws cd ds wc wd nn nE nC nK nO ln lF lC lT lO fn fC fP ak ac pt) : mAt M a th sg sn pr fk fp rws2 cd ds wc wd2 nn nE nC nK nO ln lF lC lT lO fn fC fP ak ac pt := by
  subst e1; subst e2; exact h
set_option maxHeartbeats 4000000 in
set_option maxRecDepth 100000 in
theorem cM_reads (l : Launch) (nx : Nat) (M : xH) (a : Nat) (th : Int32) (sg : Nat → Int32) (sn pr : Nat) (fk fp : Int32) (rws : Nat → Int32) (cd : Nat → Int64) (ds wc : Nat → Int32) (wd : Nat → Int64) (nn : Nat) (nE : Nat → Int32) (nC : Nat → Int64) (nK : Nat → Int32) (nO : Nat → Int64) (ln : Nat) (lF : Nat → Int32) (lC : Nat → Int64) (lT : Nat → Int32) (lO : Nat → Int64) (fn : Nat) (fC : Nat → Int64) (fP : Nat → Int32) (ak : Nat → Int64) (ac : Nat) (pt : Nat → Int32) (hT : mAt M a th sg sn pr fk fp rws cd ds wc wd nn nE nC nK nO ln lF lC lT lO fn fC fP ak ac pt) (tx : Nat → Nat) (hX : sAt sg tx sn) (rw : Nat → Nat) (hrw : mR rws rw) (w10 : Nat → Int64) (τ0 : tS) : xC l xcl yM_reads (xw (Cond.code yM_reads bM_reads 5 (some .boolean))) ({ frames := 5, cells := 0, slots := 0, locals := 123 } : Room) [.ref (a)] nx M (mrPost nx M a th sg sn pr fk fp rws cd ds wc wd nn nE nC nK nO ln lF lC lT lO fn fC fP pt (rdx tx sn w10 (tClr τ0))) := by
  obtain ⟨h0, h1, h2, h3, h4, h5, h6, h7, h8, h9, h10, h11, h12, h13, h14, h15, h16, h17, h18, b1, b2, b3, b4, b5, b6⟩ := id hT
  refine yC (by decide) (Nat.le_of_ble_eq_true rfl) ?_
  intro p e s m args below meth c D F hr hn
  have loop : ∀ (f : Nat) (q1 : Nat) (τ : tS) (w1 : Nat → Int64) (xs dg dd wn : Nat → Nat) (cd1 : Nat → Int64) (ds1 wc1 : Nat → Int32) (wd1 ak1 : Nat → Int64) (ac1 : Nat) (M1 : xH), τ.2.2.2.2.2.2.1 + f = 41 → q1 ≤ sn → ((0 < τ.2.2.2.2.2.2.1 ∧ 0 < sn) ∨ (τ.2.2.2.2.2.2.1 = 0 ∧ q1 = 0)) → tI τ xs dg dd wn → ag τ wn cd1 ds1 wc1 wd1 120 → lowE cd cd1 ds ds1 wc wc1 wd wd1 → rows tx sn 41 w10 (tClr τ0) 0 = rows tx sn f w1 τ q1 → mAt M1 a th sg sn pr fk fp (upd rws 3 (nI τ.2.2.2.2.2.2.1)) cd1 ds1 wc1 wd1 nn nE nC nK nO ln lF lC lT lO fn fC fP ak1 ac1 pt → (∀ b, (b < a ∨ a + 18 < b) → M1 b = M b) → xW p l e ({ frames := 5, cells := 0, slots := 0, locals := 123 } : Room) s m args below meth c D xcl (x_A M nx) 5 (MQ below (x_Q D xcl (x_A M nx) (mrPost nx M a th sg sn pr fk fp rws cd ds wc wd nn nE nC nK nO ln lF lC lT lO fn fC fP pt (rdx tx sn w10 (tClr τ0)))) args s 0 0 (x_A M nx)) 0 0 (nx) M1 9 [(1, .int (nI (q1))), (0, .ref (a))] [] := by
    intro f
    induction f with
    | zero =>
      intro q1 τ w1 xs dg dd wn cd1 ds1 wc1 wd1 ak1 ac1 M1 hnf hq1 hz hI hA hL hf hT1 hfr
      exact absurd hI.1 (by omega)
    | succ f ih =>
      intro q1 τ w1 xs dg dd wn cd1 ds1 wc1 wd1 ak1 ac1 M1 hnf hq1 hz hI hA hL hf hT1 hfr
      obtain ⟨g0, g1, g2, g3, g4, g5, g6, g7, g8, g9, g10, g11, g12, g13, g14, g15, g16, g17, g18, d1, d2, d3, d4, d5, d6⟩ := id hT1
      have h40 := hI.1
      have hml : rM tx sn q1 ≤ sn - q1 := rn_le _ _ _ _
      have hrl : rD tx sn (q1 + rM tx sn q1) ≤ sn - (q1 + rM tx sn q1) := rn_le _ _ _ _
      refine x_iload_n F 0 dM_reads_9 rfl rfl ?_
      refine x_if_lt F (tgt := 138) dM_reads_10 (by decide) (fun c1 => ?_) (fun c1 => ?_)
      · skip
        have c1 : q1 < 0 := by
          exact (nI_ltI (a := q1) (b := 0) (by omega) (by omega)).mp c1
        exact absurd c1 (by omega)
      · skip
        have c1 : 0 ≤ q1 := by
          have z : ¬ (q1 < 0) := fun zz => c1 ((nI_ltI (a := q1) (b := 0) (by omega) (by omega)).mpr zz)
          omega
        refine x_iload_n F 0 dM_reads_13 rfl rfl ?_
        refine x_aload_n F 1 dM_reads_14 rfl rfl ?_
        refine x_get (ci := 6) F 2 (x_in inM) rfl (by decide) (x_m kfM_83) dM_reads_15 g0 rfl ?_
        refine x_icmp_ge F (tgt := 138) dM_reads_18 (by decide) (fun c2 => ?_) (fun c2 => ?_)
        · skip
          have c2 : sn ≤ q1 := by
            exact (nI_leI (a := sn) (b := q1) (by omega) (by omega)).mp c2
          refine x_iload_n F 0 dM_reads_138 rfl rfl ?_
          refine x_if_ge F (tgt := 146) dM_reads_139 (by decide) (fun c3 => ?_) (fun c3 => ?_)
          · skip
            have c3 : 0 ≤ q1 := by
              exact (nI_leI (a := 0) (b := q1) (by omega) (by omega)).mp c3
            refine x_aload_n F 1 dM_reads_146 rfl rfl ?_
            refine x_get (ci := 6) F 6 (x_in inM) rfl (by decide) (x_m kfM_17) dM_reads_147 g0 rfl ?_
            refine x_iconst F (v := nI (3)) dM_reads_150 (by decide) ?_
            refine x_iald F dM_reads_151 g2 (pk_in (3) (4) (by omega)) ?_
            refine xW.toi (nI (τ.2.2.2.2.2.2.1)) (by rw [nI_clamp (by omega)]; exact upd_s) ?_
            refine x_if_gt F (tgt := 164) dM_reads_152 (by decide) (fun c4 => ?_) (fun c4 => ?_)
            · skip
              have c4 : 0 < τ.2.2.2.2.2.2.1 := by
                exact (nI_ltI (a := 0) (b := τ.2.2.2.2.2.2.1) (by omega) (by omega)).mp c4
              refine x_iconst F (v := nI (1)) dM_reads_164 (by decide) ?_
              refine x_goto F (tgt := 169) dM_reads_165 (by decide) ?_
              exact x_zret F hr (by rfl) dM_reads_169 (by rw [show rdx tx sn w10 (tClr τ0) = (none, τ) from by rw [rdx, if_neg (by omega), hf, rows_s, if_neg (by omega)]]; exact ⟨rfl, fun b hb => (hfr _ hb).trans (rfl), rfl, cd1, ds1, wc1, wd1, ak1, ac1, xs, dg, dd, wn, hI, hA, hL, hT1⟩)
            · skip
              have c4 : τ.2.2.2.2.2.2.1 ≤ 0 := by
                have z : ¬ (0 < τ.2.2.2.2.2.2.1) := fun zz => c4 ((nI_ltI (a := 0) (b := τ.2.2.2.2.2.2.1) (by omega) (by omega)).mpr zz)
                omega
              refine x_aload_n F 1 dM_reads_155 rfl rfl ?_
              refine x_iconst F (v := nI (1)) dM_reads_156 (by decide) ?_
              refine x_iconst F (v := nI (0)) dM_reads_157 (by decide) ?_
              refine yVr (n := 2) (As := [.int (nI (1)), .int (nI (0))]) (ci := 6) F kmM_115 kiM_fails ksM_fails knM kcM_fails (by decide +kernel) dM_reads_158 (cM_fails l (nx) M1 (a) th sg sn pr fk fp (upd rws 3 (nI τ.2.2.2.2.2.2.1)) cd1 ds1 wc1 wd1 nn nE nC nK nO ln lF lC lT lO fn fC fP ak1 ac1 pt hT1 (nI (1)) (nI (0))) rfl g0 rfl rfl (Nat.le_of_ble_eq_true rfl) ⟨Nat.le_of_ble_eq_true rfl, Nat.le_of_ble_eq_true rfl⟩ ⟨Nat.le_of_ble_eq_true rfl, Nat.le_of_ble_eq_true rfl⟩ (fun r' n' M510 hp => ?_)
              obtain ⟨hr', hn', hM510, hf510⟩ := hp
              rw [hn', hr']
              obtain ⟨v510_0, v510_1, v510_2, v510_3, v510_4, v510_5, v510_6, v510_7, v510_8, v510_9, v510_10, v510_11, v510_12, v510_13, v510_14, v510_15, v510_16, v510_17, v510_18, vb510_0, vb510_1, vb510_2, vb510_3, vb510_4, vb510_5⟩ := id hM510
              show xW p l e ({ frames := 5, cells := 0, slots := 0, locals := 123 } : Room) s m args below meth c D xcl (x_A M nx) 5 (MQ below (x_Q D xcl (x_A M nx) (mrPost nx M a th sg sn pr fk fp rws cd ds wc wd nn nE nC nK nO ln lF lC lT lO fn fC fP pt (rdx tx sn w10 (tClr τ0)))) args s 0 0 (x_A M nx)) 0 0 (nx) M510 161 [(1, .int (nI (q1))), (0, .ref (a))] [.int (nI (0))]
              refine x_if_eq F (tgt := 168) dM_reads_161 (by decide) (fun c5 => ?_) (fun c5 => ?_)
              · skip
                have c5 : 0 = 0 := by
                  exact (nI_eq (a := 0) (b := 0) (by omega) (by omega)).mp c5
                refine x_iconst F (v := nI (0)) dM_reads_168 (by decide) ?_
                exact x_zret F hr (by rfl) dM_reads_169 (by rw [show rdx tx sn w10 (tClr τ0) = (some (1, 0), tClr τ0) from by rw [rdx, if_pos (by omega)]]; exact ⟨rfl, fun b hb => (hf510 _ (by omega)).trans ((hfr _ hb).trans (rfl)), rfl, _, _, _, _, _, _, τ.2.2.2.2.2.2.1, h40, hL, hM510⟩)
              · skip
                have c5 : 0 ≠ 0 := by
                  have z : ¬ (0 = 0) := fun zz => c5 ((nI_eq (a := 0) (b := 0) (by omega) (by omega)).mpr zz)
                  omega
                exact absurd c5 (by decide)
          · skip
            have c3 : q1 < 0 := by
              have z : ¬ (0 ≤ q1) := fun zz => c3 ((nI_leI (a := 0) (b := q1) (by omega) (by omega)).mpr zz)
              omega
            exact absurd c3 (by omega)
        · skip
          have c2 : q1 < sn := by
            have z : ¬ (sn ≤ q1) := fun zz => c2 ((nI_leI (a := sn) (b := q1) (by omega) (by omega)).mpr zz)
            omega
          refine x_aload_n F 1 dM_reads_21 rfl rfl ?_
          refine x_iload_n F 0 dM_reads_22 rfl rfl ?_
          rcases oo_cases (mrc tx sn ds1 xs dg τ.2.2.2.2.2.2.1 q1) with hk | ⟨f0, hk⟩
          · skip
            obtain ⟨hk1, hk2, hk3, hk4⟩ := mrc_n hk
            refine yVr (n := 1) (As := [.int (nI (q1))]) (ci := 6) F kmM_135 kiM_readsCode ksM_readsCode knM kcM_readsCode (by decide +kernel) dM_reads_23 (xC.weak (post' := mPost (some (.int (nI 1))) (nx) M1 a th sg sn pr fk fp ((upd rws 3 (nI τ.2.2.2.2.2.2.1))) (vp_updL cd1 (120 + τ.2.2.2.2.2.2.1) (lN (cN tx (q1 + rM tx sn q1) (rD tx sn (q1 + rM tx sn q1))))) (upd ds1 (120 + τ.2.2.2.2.2.2.1) (nI (rM tx sn q1))) wc1 wd1 nn nE nC nK nO ln lF lC lT lO fn fC fP ak1 ac1 pt) (cM_readsCode l (nx) M1 (a) th sg sn pr fk fp (upd rws 3 (nI τ.2.2.2.2.2.2.1)) cd1 ds1 wc1 wd1 nn nE nC nK nO ln lF lC lT lO fn fC fP ak1 ac1 pt hT1 tx hX (uN rw 3 τ.2.2.2.2.2.2.1) (mR_3 hrw h40) (τ.2.2.2.2.2.2.1) q1 upd_s h40 c2 xs dg (ag_cd hI hA)) (fun r n' M' hp => by obtain ⟨p1, p2, p3⟩ := hp; rw [hk] at p3; exact ⟨p3.1, p1, p3.2, p2⟩)) rfl g0 rfl rfl (Nat.le_of_ble_eq_true rfl) ⟨Nat.le_of_ble_eq_true rfl, Nat.le_of_ble_eq_true rfl⟩ ⟨Nat.le_of_ble_eq_true rfl, Nat.le_of_ble_eq_true rfl⟩ (fun r' n' M511 hp => ?_)
            obtain ⟨hr', hn', hM511, hf511⟩ := hp
            rw [hn', hr']
            obtain ⟨v511_0, v511_1, v511_2, v511_3, v511_4, v511_5, v511_6, v511_7, v511_8, v511_9, v511_10, v511_11, v511_12, v511_13, v511_14, v511_15, v511_16, v511_17, v511_18, vb511_0, vb511_1, vb511_2, vb511_3, vb511_4, vb511_5⟩ := id hM511
            show xW p l e ({ frames := 5, cells := 0, slots := 0, locals := 123 } : Room) s m args below meth c D xcl (x_A M nx) 5 (MQ below (x_Q D xcl (x_A M nx) (mrPost nx M a th sg sn pr fk fp rws cd ds wc wd nn nE nC nK nO ln lF lC lT lO fn fC fP pt (rdx tx sn w10 (tClr τ0)))) args s 0 0 (x_A M nx)) 0 0 (nx) M511 26 [(1, .int (nI (q1))), (0, .ref (a))] [.int (nI (1))]
            refine x_if_ne F (tgt := 31) dM_reads_26 (by decide) (fun c6 => ?_) (fun c6 => ?_)
            · skip
              have c6 : 1 ≠ 0 := by
                have z : ¬ (1 = 0) := fun zz => c6 ((nI_eq (a := 1) (b := 0) (by omega) (by omega)).mpr zz)
                omega
              refine x_bipush F (v := nI (120)) dM_reads_31 (by decide) ?_
              refine x_aload_n F 1 dM_reads_33 rfl rfl ?_
              refine x_get (ci := 6) F 6 (x_in inM) rfl (by decide) (x_m kfM_17) dM_reads_34 v511_0 rfl ?_
              refine x_iconst F (v := nI (3)) dM_reads_37 (by decide) ?_
              refine x_iald F dM_reads_38 v511_2 (pk_in (3) (4) (by omega)) ?_
              refine xW.toi (nI (τ.2.2.2.2.2.2.1)) (by rw [nI_clamp (by omega)]; exact upd_s) ?_
              refine x_iadd F dM_reads_39 ?_
              refine xW.toi (nI (120 + τ.2.2.2.2.2.2.1)) (nI_add _ _) ?_
              refine x_istore_n F [(2, .int (nI (120 + τ.2.2.2.2.2.2.1))), (1, .int (nI (q1))), (0, .ref (a))] dM_reads_40 rfl (by decide) rfl ?_
              refine x_iload_n F 1 dM_reads_41 rfl rfl ?_
              refine x_aload_n F 2 dM_reads_42 rfl rfl ?_
              refine x_get (ci := 6) F 8 (x_in inM) rfl (by decide) (x_m kfM_24) dM_reads_43 v511_0 rfl ?_
              refine x_iload_n F 0 dM_reads_46 rfl rfl ?_
              refine x_iald F dM_reads_47 v511_4 (pk_in (120 + τ.2.2.2.2.2.2.1) (160) (by omega)) ?_
              refine xW.toi (nI (rM tx sn q1)) (by rw [nI_clamp (by omega)]; exact upd_s) ?_
              refine x_iadd F dM_reads_48 ?_
              refine xW.toi (nI (q1 + rM tx sn q1)) (nI_add _ _) ?_
              refine x_aload_n F 2 dM_reads_49 rfl rfl ?_
              refine x_get (ci := 6) F 7 (x_in inM) rfl (by decide) (x_m kfM_20) dM_reads_50 v511_0 rfl ?_
              refine x_iload_n F 0 dM_reads_53 rfl rfl ?_
              refine x_lald F dM_reads_54 v511_3 (pk_in (120 + τ.2.2.2.2.2.2.1) (160) (by omega)) ?_
              refine xW.tol (lN (cN tx (q1 + rM tx sn q1) (rD tx sn (q1 + rM tx sn q1)))) (by rw [nI_clamp (by omega)]; exact vp_us) ?_
              have hcx : cdg (cN tx (q1 + rM tx sn q1) (rD tx sn (q1 + rM tx sn q1))) (rD tx sn (q1 + rM tx sn q1)) := cN_dg (by omega) (fun i hi => rn_all hi)
              refine yS (n := 1) (As := [.long (lN (cN tx (q1 + rM tx sn q1) (rD tx sn (q1 + rM tx sn q1))))]) F kmM_99 ktM_digitsOf knM kcM_digitsOf (by decide +kernel) dM_reads_55 (cM_digitsOf l (nx) M511 (cN tx (q1 + rM tx sn q1) (rD tx sn (q1 + rM tx sn q1))) (rD tx sn (q1 + rM tx sn q1)) hcx) rfl rfl (Nat.le_of_ble_eq_true rfl) ⟨Nat.le_of_ble_eq_true rfl, Nat.le_of_ble_eq_true rfl⟩ ⟨Nat.le_of_ble_eq_true rfl, Nat.le_of_ble_eq_true rfl⟩ ?_
              refine x_iadd F dM_reads_58 ?_
              refine xW.toi (nI (q1 + rM tx sn q1 + rD tx sn (q1 + rM tx sn q1))) (nI_add _ _) ?_
              refine x_istore_n F [(3, .int (nI (q1 + rM tx sn q1 + rD tx sn (q1 + rM tx sn q1)))), (2, .int (nI (120 + τ.2.2.2.2.2.2.1))), (1, .int (nI (q1))), (0, .ref (a))] dM_reads_59 rfl (by decide) rfl ?_
              refine x_aload_n F 3 dM_reads_60 rfl rfl ?_
              refine x_iload_n F 0 dM_reads_61 rfl rfl ?_
              refine x_iconst F (v := nI (4)) dM_reads_62 (by decide) ?_
              refine x_bipush F (v := nI (59)) dM_reads_63 (by decide) ?_
              rcases b_cases (mwOk tx sn 4 59 (q1 + rM tx sn q1 + rD tx sn (q1 + rM tx sn q1)) ak1) with hw | hw
              · skip
                obtain ⟨s1, s2, s3, s4, s5⟩ := rd_step hI hA c2 w1 ak1 hk hw
                have s6 := wds_b (tx := tx) (n := sn) (mo := 4) (f := 4) (k := 0) (q := q1 + rM tx sn q1 + rD tx sn (q1 + rM tx sn q1)) (wd := ak1) rfl (by omega)
                refine yVr (n := 3) (As := [.int (nI (q1 + rM tx sn q1 + rD tx sn (q1 + rM tx sn q1))), .int (nI (4)), .int (nI (59))]) (ci := 6) F kmM_138 kiM_readsWords ksM_readsWords knM kcM_readsWords (by decide +kernel) dM_reads_65 (xC.weak (post' := mPost (some (.int (nI ((wds tx sn 4 4 0 (q1 + rM tx sn q1 + rD tx sn (q1 + rM tx sn q1)) ak1).2.2.1 + 1)))) (nx) M511 a th sg sn pr fk fp ((upd rws 3 (nI τ.2.2.2.2.2.2.1))) (vp_updL cd1 (120 + τ.2.2.2.2.2.2.1) (lN (cN tx (q1 + rM tx sn q1) (rD tx sn (q1 + rM tx sn q1))))) (upd ds1 (120 + τ.2.2.2.2.2.2.1) (nI (rM tx sn q1))) wc1 wd1 nn nE nC nK nO ln lF lC lT lO fn fC fP (wds tx sn 4 4 0 (q1 + rM tx sn q1 + rD tx sn (q1 + rM tx sn q1)) ak1).2.2.2 (wds tx sn 4 4 0 (q1 + rM tx sn q1 + rD tx sn (q1 + rM tx sn q1)) ak1).2.1 pt) (cM_readsWords l (nx) M511 (a) th sg sn pr fk fp ((upd rws 3 (nI τ.2.2.2.2.2.2.1))) (vp_updL cd1 (120 + τ.2.2.2.2.2.2.1) (lN (cN tx (q1 + rM tx sn q1) (rD tx sn (q1 + rM tx sn q1))))) (upd ds1 (120 + τ.2.2.2.2.2.2.1) (nI (rM tx sn q1))) wc1 wd1 nn nE nC nK nO ln lF lC lT lO fn fC fP ak1 ac1 pt hM511 tx hX (q1 + rM tx sn q1 + rD tx sn (q1 + rM tx sn q1)) 4 59 (by omega) (by omega) (by omega) (by omega) (by omega)) (fun r n' M' hp => by obtain ⟨p1, p2, p3⟩ := hp; rw [hw] at p3; exact ⟨p3.1, p1, p3.2, p2⟩)) rfl v511_0 rfl rfl (Nat.le_of_ble_eq_true rfl) ⟨Nat.le_of_ble_eq_true rfl, Nat.le_of_ble_eq_true rfl⟩ ⟨Nat.le_of_ble_eq_true rfl, Nat.le_of_ble_eq_true rfl⟩ (fun r' n' M512 hp => ?_)
                obtain ⟨hr', hn', hM512, hf512⟩ := hp
                rw [hn', hr']
                obtain ⟨v512_0, v512_1, v512_2, v512_3, v512_4, v512_5, v512_6, v512_7, v512_8, v512_9, v512_10, v512_11, v512_12, v512_13, v512_14, v512_15, v512_16, v512_17, v512_18, vb512_0, vb512_1, vb512_2, vb512_3, vb512_4, vb512_5⟩ := id hM512
                show xW p l e ({ frames := 5, cells := 0, slots := 0, locals := 123 } : Room) s m args below meth c D xcl (x_A M nx) 5 (MQ below (x_Q D xcl (x_A M nx) (mrPost nx M a th sg sn pr fk fp rws cd ds wc wd nn nE nC nK nO ln lF lC lT lO fn fC fP pt (rdx tx sn w10 (tClr τ0)))) args s 0 0 (x_A M nx)) 0 0 (nx) M512 68 [(3, .int (nI (q1 + rM tx sn q1 + rD tx sn (q1 + rM tx sn q1)))), (2, .int (nI (120 + τ.2.2.2.2.2.2.1))), (1, .int (nI (q1))), (0, .ref (a))] [.int (nI ((wds tx sn 4 4 0 (q1 + rM tx sn q1 + rD tx sn (q1 + rM tx sn q1)) ak1).2.2.1 + 1))]
                refine x_istore_n F [(1, .int (nI ((wds tx sn 4 4 0 (q1 + rM tx sn q1 + rD tx sn (q1 + rM tx sn q1)) ak1).2.2.1 + 1))), (3, .int (nI (q1 + rM tx sn q1 + rD tx sn (q1 + rM tx sn q1)))), (2, .int (nI (120 + τ.2.2.2.2.2.2.1))), (0, .ref (a))] dM_reads_68 rfl (by decide) rfl ?_
                refine x_aload_n F 3 dM_reads_69 rfl rfl ?_
                refine x_get (ci := 6) F 9 (x_in inM) rfl (by decide) (x_m kfM_27) dM_reads_70 v512_0 rfl ?_
                refine x_iload_n F 2 dM_reads_73 rfl rfl ?_
                refine x_aload_n F 3 dM_reads_74 rfl rfl ?_
                refine x_get (ci := 6) F 25 (x_in inM) rfl (by decide) (x_m kfM_129) dM_reads_75 v512_0 rfl ?_
                refine x_iast F dM_reads_78 v512_5 (pk_in (120 + τ.2.2.2.2.2.2.1) (160) (by omega)) ?_
                rw [nI_clamp (show 120 + τ.2.2.2.2.2.2.1 < 2 ^ 31 by omega)]
                show xW p l e ({ frames := 5, cells := 0, slots := 0, locals := 123 } : Room) s m args below meth c D xcl (x_A M nx) 5 (MQ below (x_Q D xcl (x_A M nx) (mrPost nx M a th sg sn pr fk fp rws cd ds wc wd nn nE nC nK nO ln lF lC lT lO fn fC fP pt (rdx tx sn w10 (tClr τ0)))) args s 0 0 (x_A M nx)) 0 0 (nx) (x_up M512 (a + 5) (.inl (.int, 160, .inl (upd (wc1) (120 + τ.2.2.2.2.2.2.1) (nI ((wds tx sn 4 4 0 (q1 + rM tx sn q1 + rD tx sn (q1 + rM tx sn q1)) ak1).2.1)))))) 79 [(1, .int (nI ((wds tx sn 4 4 0 (q1 + rM tx sn q1 + rD tx sn (q1 + rM tx sn q1)) ak1).2.2.1 + 1))), (3, .int (nI (q1 + rM tx sn q1 + rD tx sn (q1 + rM tx sn q1)))), (2, .int (nI (120 + τ.2.2.2.2.2.2.1))), (0, .ref (a))] []
                refine x_iconst F (v := nI (0)) dM_reads_79 (by decide) ?_
                refine x_istore F [(4, .int (nI (0))), (1, .int (nI ((wds tx sn 4 4 0 (q1 + rM tx sn q1 + rD tx sn (q1 + rM tx sn q1)) ak1).2.2.1 + 1))), (3, .int (nI (q1 + rM tx sn q1 + rD tx sn (q1 + rM tx sn q1)))), (2, .int (nI (120 + τ.2.2.2.2.2.2.1))), (0, .ref (a))] dM_reads_80 (by decide) rfl ?_
                have loop2 : ∀ (k : Nat) (i : Nat) (M3 : xH), i + k = 4 → mAt M3 a th sg sn pr fk fp (((upd rws 3 (nI τ.2.2.2.2.2.2.1)))) ((vp_updL cd1 (120 + τ.2.2.2.2.2.2.1) (lN (cN tx (q1 + rM tx sn q1) (rD tx sn (q1 + rM tx sn q1)))))) ((upd ds1 (120 + τ.2.2.2.2.2.2.1) (nI (rM tx sn q1)))) (upd (wc1) (120 + τ.2.2.2.2.2.2.1) (nI ((wds tx sn 4 4 0 (q1 + rM tx sn q1 + rD tx sn (q1 + rM tx sn q1)) ak1).2.1))) (wcq (wds tx sn 4 4 0 (q1 + rM tx sn q1 + rD tx sn (q1 + rM tx sn q1)) ak1).2.2.2 (wds tx sn 4 4 0 (q1 + rM tx sn q1 + rD tx sn (q1 + rM tx sn q1)) ak1).2.1 (4 * (120 + τ.2.2.2.2.2.2.1)) i wd1) nn nE nC nK nO ln lF lC lT lO fn fC fP ((wds tx sn 4 4 0 (q1 + rM tx sn q1 + rD tx sn (q1 + rM tx sn q1)) ak1).2.2.2) ((wds tx sn 4 4 0 (q1 + rM tx sn q1 + rD tx sn (q1 + rM tx sn q1)) ak1).2.1) pt → (∀ b, (b < a ∨ a + 18 < b) → M3 b = M b) → xW p l e ({ frames := 5, cells := 0, slots := 0, locals := 123 } : Room) s m args below meth c D xcl (x_A M nx) 5 (MQ below (x_Q D xcl (x_A M nx) (mrPost nx M a th sg sn pr fk fp rws cd ds wc wd nn nE nC nK nO ln lF lC lT lO fn fC fP pt (rdx tx sn w10 (tClr τ0)))) args s 0 0 (x_A M nx)) 0 0 (nx) M3 82 [(4, .int (nI (i))), (1, .int (nI ((wds tx sn 4 4 0 (q1 + rM tx sn q1 + rD tx sn (q1 + rM tx sn q1)) ak1).2.2.1 + 1))), (0, .ref (a)), (2, .int (nI (120 + τ.2.2.2.2.2.2.1)))] [] := by
                  intro k
                  induction k with
                  | zero =>
                    intro i M3 hi3 hT3 hfr3
                    obtain ⟨e0, e1, e2, e3, e4, e5, e6, e7, e8, e9, e10, e11, e12, e13, e14, e15, e16, e17, e18, y1, y2, y3, y4, y5, y6⟩ := id hT3
                    refine x_iload F 0 dM_reads_82 rfl ?_
                    refine x_iconst F (v := nI (4)) dM_reads_84 (by decide) ?_
                    refine x_icmp_ge F (tgt := 125) dM_reads_85 (by decide) (fun c7 => ?_) (fun c7 => ?_)
                    · skip
                      have c7 : 4 ≤ i := by
                        exact (nI_leI (a := 4) (b := i) (by omega) (by omega)).mp c7
                      refine x_aload_n F 2 dM_reads_125 rfl rfl ?_
                      refine x_get (ci := 6) F 6 (x_in inM) rfl (by decide) (x_m kfM_17) dM_reads_126 e0 rfl ?_
                      refine x_iconst F (v := nI (3)) dM_reads_129 (by decide) ?_
                      refine x_dup2 F dM_reads_130 rfl rfl ?_
                      refine x_iald F dM_reads_131 e2 (pk_in (3) (4) (by omega)) ?_
                      refine xW.toi (nI (τ.2.2.2.2.2.2.1)) (by rw [nI_clamp (by omega)]; exact upd_s) ?_
                      refine x_iconst F (v := nI (1)) dM_reads_132 (by decide) ?_
                      refine x_iadd F dM_reads_133 ?_
                      refine xW.toi (nI (τ.2.2.2.2.2.2.1 + 1)) (nI_add _ _) ?_
                      refine x_iast F dM_reads_134 e2 (pk_in (3) (4) (by omega)) ?_
                      rw [nI_clamp (show 3 < 2 ^ 31 by omega)]
                      show xW p l e ({ frames := 5, cells := 0, slots := 0, locals := 123 } : Room) s m args below meth c D xcl (x_A M nx) 5 (MQ below (x_Q D xcl (x_A M nx) (mrPost nx M a th sg sn pr fk fp rws cd ds wc wd nn nE nC nK nO ln lF lC lT lO fn fC fP pt (rdx tx sn w10 (tClr τ0)))) args s 0 0 (x_A M nx)) 0 0 (nx) (x_up M3 (a + 2) (.inl (.int, 4, .inl (upd ((((upd rws 3 (nI τ.2.2.2.2.2.2.1))))) (3) (nI (τ.2.2.2.2.2.2.1 + 1)))))) 135 [(4, .int (nI (i))), (1, .int (nI ((wds tx sn 4 4 0 (q1 + rM tx sn q1 + rD tx sn (q1 + rM tx sn q1)) ak1).2.2.1 + 1))), (0, .ref (a)), (2, .int (nI (120 + τ.2.2.2.2.2.2.1)))] []
                      refine x_goto F (tgt := 9) dM_reads_135 (by decide) ?_
                      refine xW.sub [1, 2] rfl ?_
                      exact ih ((wds tx sn 4 4 0 (q1 + rM tx sn q1 + rD tx sn (q1 + rM tx sn q1)) ak1).2.2.1 + 1) (tRow tx sn w1 τ (dsh tx sn q1) (q1 + dsh tx sn q1)) (wds tx sn 4 4 0 (q1 + dsh tx sn q1 + dN tx sn (q1 + dsh tx sn q1)) w1).2.2.2 _ _ _ _ _ _ _ _ _ _ _ (by show τ.2.2.2.2.2.2.1 + 1 + f = 41; omega) (by omega) (Or.inl ⟨Nat.succ_pos _, by omega⟩) s4 s5 (lowE_row hL) (by rw [hf, rows_s, if_pos c2, s1, ← s2]) (mAt_rd (rws := upd (upd rws 3 (nI τ.2.2.2.2.2.2.1)) 3 (nI (τ.2.2.2.2.2.2.1 + 1))) (wd := wcq (wds tx sn 4 4 0 (q1 + rM tx sn q1 + rD tx sn (q1 + rM tx sn q1)) ak1).2.2.2 (wds tx sn 4 4 0 (q1 + rM tx sn q1 + rD tx sn (q1 + rM tx sn q1)) ak1).2.1 (4 * (120 + τ.2.2.2.2.2.2.1)) i wd1) (upd_2 rws 3 (nI τ.2.2.2.2.2.2.1) (nI (τ.2.2.2.2.2.2.1 + 1))) (by rw [show i = 4 by omega]) ⟨(x_up_k e0 (by omega)), (x_up_k e1 (by omega)), x_up_s, (x_up_k e3 (by omega)), (x_up_k e4 (by omega)), (x_up_k e5 (by omega)), (x_up_k e6 (by omega)), (x_up_k e7 (by omega)), (x_up_k e8 (by omega)), (x_up_k e9 (by omega)), (x_up_k e10 (by omega)), (x_up_k e11 (by omega)), (x_up_k e12 (by omega)), (x_up_k e13 (by omega)), (x_up_k e14 (by omega)), (x_up_k e15 (by omega)), (x_up_k e16 (by omega)), (x_up_k e17 (by omega)), (x_up_k e18 (by omega)), by omega, by omega, by omega, by omega, by omega, by omega⟩) (fun b hb => (x_up_n (by omega)).trans ((hfr3 _ hb).trans (rfl)))
                    · skip
                      have c7 : i < 4 := by
                        have z : ¬ (4 ≤ i) := fun zz => c7 ((nI_leI (a := 4) (b := i) (by omega) (by omega)).mpr zz)
                        omega
                      exact absurd c7 (by omega)
                  | succ k ih2 =>
                    intro i M3 hi3 hT3 hfr3
                    obtain ⟨e0, e1, e2, e3, e4, e5, e6, e7, e8, e9, e10, e11, e12, e13, e14, e15, e16, e17, e18, y1, y2, y3, y4, y5, y6⟩ := id hT3
                    refine x_iload F 0 dM_reads_82 rfl ?_
                    refine x_iconst F (v := nI (4)) dM_reads_84 (by decide) ?_
                    refine x_icmp_ge F (tgt := 125) dM_reads_85 (by decide) (fun c8 => ?_) (fun c8 => ?_)
                    · skip
                      have c8 : 4 ≤ i := by
                        exact (nI_leI (a := 4) (b := i) (by omega) (by omega)).mp c8
                      exact absurd c8 (by omega)
                    · skip
                      have c8 : i < 4 := by
                        have z : ¬ (4 ≤ i) := fun zz => c8 ((nI_leI (a := 4) (b := i) (by omega) (by omega)).mpr zz)
                        omega
                      refine x_aload_n F 2 dM_reads_88 rfl rfl ?_
                      refine x_get (ci := 6) F 10 (x_in inM) rfl (by decide) (x_m kfM_30) dM_reads_89 e0 rfl ?_
                      refine x_iconst F (v := nI (4)) dM_reads_92 (by decide) ?_
                      refine x_iload_n F 3 dM_reads_93 rfl rfl ?_
                      refine x_imul F dM_reads_94 ?_
                      refine xW.toi (nI ((4) * (120 + τ.2.2.2.2.2.2.1))) (pk_mul _ _) ?_
                      refine x_iload F 0 dM_reads_95 rfl ?_
                      refine x_iadd F dM_reads_97 ?_
                      refine xW.toi (nI ((4) * (120 + τ.2.2.2.2.2.2.1) + i)) (nI_add _ _) ?_
                      refine x_iload F 0 dM_reads_98 rfl ?_
                      refine x_aload_n F 2 dM_reads_100 rfl rfl ?_
                      refine x_get (ci := 6) F 25 (x_in inM) rfl (by decide) (x_m kfM_129) dM_reads_101 e0 rfl ?_
                      refine x_icmp_ge F (tgt := 117) dM_reads_104 (by decide) (fun c9 => ?_) (fun c9 => ?_)
                      · skip
                        have c9 : ((wds tx sn 4 4 0 (q1 + rM tx sn q1 + rD tx sn (q1 + rM tx sn q1)) ak1).2.1) ≤ i := by
                          exact (nI_leI (a := ((wds tx sn 4 4 0 (q1 + rM tx sn q1 + rD tx sn (q1 + rM tx sn q1)) ak1).2.1)) (b := i) (by omega) (by omega)).mp c9
                        refine x_lconst F (v := 0) dM_reads_117 (by decide) ?_
                        refine x_last F dM_reads_118 e6 (pk_in ((4) * (120 + τ.2.2.2.2.2.2.1) + i) (640) (by omega)) ?_
                        rw [nI_clamp (show (4) * (120 + τ.2.2.2.2.2.2.1) + i < 2 ^ 31 by omega)]
                        show xW p l e ({ frames := 5, cells := 0, slots := 0, locals := 123 } : Room) s m args below meth c D xcl (x_A M nx) 5 (MQ below (x_Q D xcl (x_A M nx) (mrPost nx M a th sg sn pr fk fp rws cd ds wc wd nn nE nC nK nO ln lF lC lT lO fn fC fP pt (rdx tx sn w10 (tClr τ0)))) args s 0 0 (x_A M nx)) 0 0 (nx) (x_up M3 (a + 6) (.inl (.long, 640, .inr (.inl (vp_updL ((wcq (wds tx sn 4 4 0 (q1 + rM tx sn q1 + rD tx sn (q1 + rM tx sn q1)) ak1).2.2.2 (wds tx sn 4 4 0 (q1 + rM tx sn q1 + rD tx sn (q1 + rM tx sn q1)) ak1).2.1 (4 * (120 + τ.2.2.2.2.2.2.1)) i wd1)) ((4) * (120 + τ.2.2.2.2.2.2.1) + i) (0)))))) 119 [(4, .int (nI (i))), (1, .int (nI ((wds tx sn 4 4 0 (q1 + rM tx sn q1 + rD tx sn (q1 + rM tx sn q1)) ak1).2.2.1 + 1))), (0, .ref (a)), (2, .int (nI (120 + τ.2.2.2.2.2.2.1)))] []
                        refine x_iinc F 0 [(4, .int (nI (i + 1))), (1, .int (nI ((wds tx sn 4 4 0 (q1 + rM tx sn q1 + rD tx sn (q1 + rM tx sn q1)) ak1).2.2.1 + 1))), (0, .ref (a)), (2, .int (nI (120 + τ.2.2.2.2.2.2.1)))] dM_reads_119 rfl (nI_add (i) 1) (by decide) rfl ?_
                        refine x_goto F (tgt := 82) dM_reads_122 (by decide) ?_
                        exact ih2 (i + 1) _ (by omega) (by rw [wcq_s, if_neg (by omega)]; exact ⟨(x_up_k e0 (by omega)), (x_up_k e1 (by omega)), (x_up_k e2 (by omega)), (x_up_k e3 (by omega)), (x_up_k e4 (by omega)), (x_up_k e5 (by omega)), x_up_s, (x_up_k e7 (by omega)), (x_up_k e8 (by omega)), (x_up_k e9 (by omega)), (x_up_k e10 (by omega)), (x_up_k e11 (by omega)), (x_up_k e12 (by omega)), (x_up_k e13 (by omega)), (x_up_k e14 (by omega)), (x_up_k e15 (by omega)), (x_up_k e16 (by omega)), (x_up_k e17 (by omega)), (x_up_k e18 (by omega)), by omega, by omega, by omega, by omega, by omega, by omega⟩) (fun b hb => (x_up_n (by omega)).trans ((hfr3 _ hb).trans (rfl)))
                      · skip
                        have c9 : i < ((wds tx sn 4 4 0 (q1 + rM tx sn q1 + rD tx sn (q1 + rM tx sn q1)) ak1).2.1) := by
                          have z : ¬ (((wds tx sn 4 4 0 (q1 + rM tx sn q1 + rD tx sn (q1 + rM tx sn q1)) ak1).2.1) ≤ i) := fun zz => c9 ((nI_leI (a := ((wds tx sn 4 4 0 (q1 + rM tx sn q1 + rD tx sn (q1 + rM tx sn q1)) ak1).2.1)) (b := i) (by omega) (by omega)).mpr zz)
                          omega
                        refine x_aload_n F 2 dM_reads_107 rfl rfl ?_
                        refine x_get (ci := 6) F 24 (x_in inM) rfl (by decide) (x_m kfM_63) dM_reads_108 e0 rfl ?_
                        refine x_iload F 0 dM_reads_111 rfl ?_
                        refine x_lald F dM_reads_113 e17 (pk_in (i) (6) (by omega)) ?_
                        refine xW.tol ((((wds tx sn 4 4 0 (q1 + rM tx sn q1 + rD tx sn (q1 + rM tx sn q1)) ak1).2.2.2)) (i)) (by rw [nI_clamp (by omega)]) ?_
                        refine x_goto F (tgt := 118) dM_reads_114 (by decide) ?_
                        refine x_last F dM_reads_118 e6 (pk_in ((4) * (120 + τ.2.2.2.2.2.2.1) + i) (640) (by omega)) ?_
                        rw [nI_clamp (show (4) * (120 + τ.2.2.2.2.2.2.1) + i < 2 ^ 31 by omega)]
                        show xW p l e ({ frames := 5, cells := 0, slots := 0, locals := 123 } : Room) s m args below meth c D xcl (x_A M nx) 5 (MQ below (x_Q D xcl (x_A M nx) (mrPost nx M a th sg sn pr fk fp rws cd ds wc wd nn nE nC nK nO ln lF lC lT lO fn fC fP pt (rdx tx sn w10 (tClr τ0)))) args s 0 0 (x_A M nx)) 0 0 (nx) (x_up M3 (a + 6) (.inl (.long, 640, .inr (.inl (vp_updL ((wcq (wds tx sn 4 4 0 (q1 + rM tx sn q1 + rD tx sn (q1 + rM tx sn q1)) ak1).2.2.2 (wds tx sn 4 4 0 (q1 + rM tx sn q1 + rD tx sn (q1 + rM tx sn q1)) ak1).2.1 (4 * (120 + τ.2.2.2.2.2.2.1)) i wd1)) ((4) * (120 + τ.2.2.2.2.2.2.1) + i) ((((wds tx sn 4 4 0 (q1 + rM tx sn q1 + rD tx sn (q1 + rM tx sn q1)) ak1).2.2.2)) (i))))))) 119 [(4, .int (nI (i))), (1, .int (nI ((wds tx sn 4 4 0 (q1 + rM tx sn q1 + rD tx sn (q1 + rM tx sn q1)) ak1).2.2.1 + 1))), (0, .ref (a)), (2, .int (nI (120 + τ.2.2.2.2.2.2.1)))] []
                        refine x_iinc F 0 [(4, .int (nI (i + 1))), (1, .int (nI ((wds tx sn 4 4 0 (q1 + rM tx sn q1 + rD tx sn (q1 + rM tx sn q1)) ak1).2.2.1 + 1))), (0, .ref (a)), (2, .int (nI (120 + τ.2.2.2.2.2.2.1)))] dM_reads_119 rfl (nI_add (i) 1) (by decide) rfl ?_
                        refine x_goto F (tgt := 82) dM_reads_122 (by decide) ?_
                        exact ih2 (i + 1) _ (by omega) (by rw [wcq_s, if_pos (by omega)]; exact ⟨(x_up_k e0 (by omega)), (x_up_k e1 (by omega)), (x_up_k e2 (by omega)), (x_up_k e3 (by omega)), (x_up_k e4 (by omega)), (x_up_k e5 (by omega)), x_up_s, (x_up_k e7 (by omega)), (x_up_k e8 (by omega)), (x_up_k e9 (by omega)), (x_up_k e10 (by omega)), (x_up_k e11 (by omega)), (x_up_k e12 (by omega)), (x_up_k e13 (by omega)), (x_up_k e14 (by omega)), (x_up_k e15 (by omega)), (x_up_k e16 (by omega)), (x_up_k e17 (by omega)), (x_up_k e18 (by omega)), by omega, by omega, by omega, by omega, by omega, by omega⟩) (fun b hb => (x_up_n (by omega)).trans ((hfr3 _ hb).trans (rfl)))
                refine xW.sub [0, 1, 4, 3] rfl ?_
                exact loop2 4 0 _ (by omega) ⟨(x_up_k v512_0 (by omega)), (x_up_k v512_1 (by omega)), (x_up_k v512_2 (by omega)), (x_up_k v512_3 (by omega)), (x_up_k v512_4 (by omega)), x_up_s, (x_up_k v512_6 (by omega)), (x_up_k v512_7 (by omega)), (x_up_k v512_8 (by omega)), (x_up_k v512_9 (by omega)), (x_up_k v512_10 (by omega)), (x_up_k v512_11 (by omega)), (x_up_k v512_12 (by omega)), (x_up_k v512_13 (by omega)), (x_up_k v512_14 (by omega)), (x_up_k v512_15 (by omega)), (x_up_k v512_16 (by omega)), (x_up_k v512_17 (by omega)), (x_up_k v512_18 (by omega)), by omega, by omega, by omega, by omega, by omega, by omega⟩ (fun b hb => (x_up_n (by omega)).trans ((hf512 _ (by omega)).trans ((hf511 _ (by omega)).trans ((hfr _ hb).trans (rfl)))))
              · skip
                refine yVr (n := 3) (As := [.int (nI (q1 + rM tx sn q1 + rD tx sn (q1 + rM tx sn q1))), .int (nI (4)), .int (nI (59))]) (ci := 6) F kmM_138 kiM_readsWords ksM_readsWords knM kcM_readsWords (by decide +kernel) dM_reads_65 (xC.weak (post' := fun r n' M' => r = some (.int (-1)) ∧ n' = nx ∧ (∃ (ak2 : Nat → Int64) (ac2 : Nat), mAt M' a th sg sn pr (nI 1) (nI (wds tx sn 4 4 0 (q1 + rM tx sn q1 + rD tx sn (q1 + rM tx sn q1)) ak1).2.2.1) ((upd rws 3 (nI τ.2.2.2.2.2.2.1))) (vp_updL cd1 (120 + τ.2.2.2.2.2.2.1) (lN (cN tx (q1 + rM tx sn q1) (rD tx sn (q1 + rM tx sn q1))))) (upd ds1 (120 + τ.2.2.2.2.2.2.1) (nI (rM tx sn q1))) wc1 wd1 nn nE nC nK nO ln lF lC lT lO fn fC fP ak2 ac2 pt) ∧ (∀ b, (b < a ∨ a + 18 < b) → M' b = M511 b)) (cM_readsWords l (nx) M511 (a) th sg sn pr fk fp ((upd rws 3 (nI τ.2.2.2.2.2.2.1))) (vp_updL cd1 (120 + τ.2.2.2.2.2.2.1) (lN (cN tx (q1 + rM tx sn q1) (rD tx sn (q1 + rM tx sn q1))))) (upd ds1 (120 + τ.2.2.2.2.2.2.1) (nI (rM tx sn q1))) wc1 wd1 nn nE nC nK nO ln lF lC lT lO fn fC fP ak1 ac1 pt hM511 tx hX (q1 + rM tx sn q1 + rD tx sn (q1 + rM tx sn q1)) 4 59 (by omega) (by omega) (by omega) (by omega) (by omega)) (fun r n' M' hp => by obtain ⟨p1, p2, p3⟩ := hp; rw [hw] at p3; exact ⟨p3.1, p1, p3.2, p2⟩)) rfl v511_0 rfl rfl (Nat.le_of_ble_eq_true rfl) ⟨Nat.le_of_ble_eq_true rfl, Nat.le_of_ble_eq_true rfl⟩ ⟨Nat.le_of_ble_eq_true rfl, Nat.le_of_ble_eq_true rfl⟩ (fun r' n' M513 hp => ?_)
                obtain ⟨hr', hn', ⟨ak2, ac2, hM513⟩, hf513⟩ := hp
                rw [hn', hr']
                obtain ⟨v513_0, v513_1, v513_2, v513_3, v513_4, v513_5, v513_6, v513_7, v513_8, v513_9, v513_10, v513_11, v513_12, v513_13, v513_14, v513_15, v513_16, v513_17, v513_18, vb513_0, vb513_1, vb513_2, vb513_3, vb513_4, vb513_5⟩ := id hM513
                show xW p l e ({ frames := 5, cells := 0, slots := 0, locals := 123 } : Room) s m args below meth c D xcl (x_A M nx) 5 (MQ below (x_Q D xcl (x_A M nx) (mrPost nx M a th sg sn pr fk fp rws cd ds wc wd nn nE nC nK nO ln lF lC lT lO fn fC fP pt (rdx tx sn w10 (tClr τ0)))) args s 0 0 (x_A M nx)) 0 0 (nx) M513 68 [(3, .int (nI (q1 + rM tx sn q1 + rD tx sn (q1 + rM tx sn q1)))), (2, .int (nI (120 + τ.2.2.2.2.2.2.1))), (1, .int (nI (q1))), (0, .ref (a))] [.int ((-1))]
                refine x_istore_n F [(1, .int ((-1))), (3, .int (nI (q1 + rM tx sn q1 + rD tx sn (q1 + rM tx sn q1)))), (2, .int (nI (120 + τ.2.2.2.2.2.2.1))), (0, .ref (a))] dM_reads_68 rfl (by decide) rfl ?_
                refine x_aload_n F 3 dM_reads_69 rfl rfl ?_
                refine x_get (ci := 6) F 9 (x_in inM) rfl (by decide) (x_m kfM_27) dM_reads_70 v513_0 rfl ?_
                refine x_iload_n F 2 dM_reads_73 rfl rfl ?_
                refine x_aload_n F 3 dM_reads_74 rfl rfl ?_
                refine x_get (ci := 6) F 25 (x_in inM) rfl (by decide) (x_m kfM_129) dM_reads_75 v513_0 rfl ?_
                refine x_iast F dM_reads_78 v513_5 (pk_in (120 + τ.2.2.2.2.2.2.1) (160) (by omega)) ?_
                rw [nI_clamp (show 120 + τ.2.2.2.2.2.2.1 < 2 ^ 31 by omega)]
                show xW p l e ({ frames := 5, cells := 0, slots := 0, locals := 123 } : Room) s m args below meth c D xcl (x_A M nx) 5 (MQ below (x_Q D xcl (x_A M nx) (mrPost nx M a th sg sn pr fk fp rws cd ds wc wd nn nE nC nK nO ln lF lC lT lO fn fC fP pt (rdx tx sn w10 (tClr τ0)))) args s 0 0 (x_A M nx)) 0 0 (nx) (x_up M513 (a + 5) (.inl (.int, 160, .inl (upd (wc1) (120 + τ.2.2.2.2.2.2.1) (nI (ac2)))))) 79 [(1, .int ((-1))), (3, .int (nI (q1 + rM tx sn q1 + rD tx sn (q1 + rM tx sn q1)))), (2, .int (nI (120 + τ.2.2.2.2.2.2.1))), (0, .ref (a))] []
                refine x_iconst F (v := nI (0)) dM_reads_79 (by decide) ?_
                refine x_istore F [(4, .int (nI (0))), (1, .int ((-1))), (3, .int (nI (q1 + rM tx sn q1 + rD tx sn (q1 + rM tx sn q1)))), (2, .int (nI (120 + τ.2.2.2.2.2.2.1))), (0, .ref (a))] dM_reads_80 (by decide) rfl ?_
                have loop2 : ∀ (k : Nat) (i : Nat) (M3 : xH), i + k = 4 → mAt M3 a th sg sn pr ((nI 1)) ((nI (wds tx sn 4 4 0 (q1 + rM tx sn q1 + rD tx sn (q1 + rM tx sn q1)) ak1).2.2.1)) (((upd rws 3 (nI τ.2.2.2.2.2.2.1)))) ((vp_updL cd1 (120 + τ.2.2.2.2.2.2.1) (lN (cN tx (q1 + rM tx sn q1) (rD tx sn (q1 + rM tx sn q1)))))) ((upd ds1 (120 + τ.2.2.2.2.2.2.1) (nI (rM tx sn q1)))) (upd (wc1) (120 + τ.2.2.2.2.2.2.1) (nI (ac2))) (wcq ak2 ac2 (4 * (120 + τ.2.2.2.2.2.2.1)) i wd1) nn nE nC nK nO ln lF lC lT lO fn fC fP ak2 ac2 pt → (∀ b, (b < a ∨ a + 18 < b) → M3 b = M b) → xW p l e ({ frames := 5, cells := 0, slots := 0, locals := 123 } : Room) s m args below meth c D xcl (x_A M nx) 5 (MQ below (x_Q D xcl (x_A M nx) (mrPost nx M a th sg sn pr fk fp rws cd ds wc wd nn nE nC nK nO ln lF lC lT lO fn fC fP pt (rdx tx sn w10 (tClr τ0)))) args s 0 0 (x_A M nx)) 0 0 (nx) M3 82 [(4, .int (nI (i))), (1, .int ((-1))), (0, .ref (a)), (2, .int (nI (120 + τ.2.2.2.2.2.2.1)))] [] := by
                  intro k
                  induction k with
                  | zero =>
                    intro i M3 hi3 hT3 hfr3
                    obtain ⟨e0, e1, e2, e3, e4, e5, e6, e7, e8, e9, e10, e11, e12, e13, e14, e15, e16, e17, e18, y1, y2, y3, y4, y5, y6⟩ := id hT3
                    refine x_iload F 0 dM_reads_82 rfl ?_
                    refine x_iconst F (v := nI (4)) dM_reads_84 (by decide) ?_
                    refine x_icmp_ge F (tgt := 125) dM_reads_85 (by decide) (fun c10 => ?_) (fun c10 => ?_)
                    · skip
                      have c10 : 4 ≤ i := by
                        exact (nI_leI (a := 4) (b := i) (by omega) (by omega)).mp c10
                      refine x_aload_n F 2 dM_reads_125 rfl rfl ?_
                      refine x_get (ci := 6) F 6 (x_in inM) rfl (by decide) (x_m kfM_17) dM_reads_126 e0 rfl ?_
                      refine x_iconst F (v := nI (3)) dM_reads_129 (by decide) ?_
                      refine x_dup2 F dM_reads_130 rfl rfl ?_
                      refine x_iald F dM_reads_131 e2 (pk_in (3) (4) (by omega)) ?_
                      refine xW.toi (nI (τ.2.2.2.2.2.2.1)) (by rw [nI_clamp (by omega)]; exact upd_s) ?_
                      refine x_iconst F (v := nI (1)) dM_reads_132 (by decide) ?_
                      refine x_iadd F dM_reads_133 ?_
                      refine xW.toi (nI (τ.2.2.2.2.2.2.1 + 1)) (nI_add _ _) ?_
                      refine x_iast F dM_reads_134 e2 (pk_in (3) (4) (by omega)) ?_
                      rw [nI_clamp (show 3 < 2 ^ 31 by omega)]
                      show xW p l e ({ frames := 5, cells := 0, slots := 0, locals := 123 } : Room) s m args below meth c D xcl (x_A M nx) 5 (MQ below (x_Q D xcl (x_A M nx) (mrPost nx M a th sg sn pr fk fp rws cd ds wc wd nn nE nC nK nO ln lF lC lT lO fn fC fP pt (rdx tx sn w10 (tClr τ0)))) args s 0 0 (x_A M nx)) 0 0 (nx) (x_up M3 (a + 2) (.inl (.int, 4, .inl (upd ((((upd rws 3 (nI τ.2.2.2.2.2.2.1))))) (3) (nI (τ.2.2.2.2.2.2.1 + 1)))))) 135 [(4, .int (nI (i))), (1, .int ((-1))), (0, .ref (a)), (2, .int (nI (120 + τ.2.2.2.2.2.2.1)))] []
                      refine x_goto F (tgt := 9) dM_reads_135 (by decide) ?_
                      refine x_iload_n F 1 dM_reads_9 rfl rfl ?_
                      refine x_if_lt F (tgt := 138) dM_reads_10 (by decide) (fun c11 => ?_) (fun c11 => ?_)
                      · skip
                        refine x_iload_n F 1 dM_reads_138 rfl rfl ?_
                        refine x_if_ge F (tgt := 146) dM_reads_139 (by decide) (fun c12 => ?_) (fun c12 => ?_)
                        · skip
                          exact absurd c12 (by decide)
                        · skip
                          refine x_iconst F (v := nI (0)) dM_reads_142 (by decide) ?_
                          refine x_goto F (tgt := 169) dM_reads_143 (by decide) ?_
                          exact x_zret F hr (by rfl) dM_reads_169 (by rw [show rdx tx sn w10 (tClr τ0) = (some (1, (wds tx sn 4 4 0 (q1 + rM tx sn q1 + rD tx sn (q1 + rM tx sn q1)) ak1).2.2.1), τ) from by rw [rdx, if_neg (by omega), hf, rows_s, if_pos c2, rd_f2 hI hA c2 w1 ak1 hk hw]]; exact ⟨rfl, fun b hb => (x_up_n (by omega)).trans ((hfr3 _ hb).trans (rfl)), rfl, _, _, _, _, _, _, τ.2.2.2.2.2.2.1 + 1, by omega, lowE_row hL, mAt_rd (rws := upd (upd rws 3 (nI τ.2.2.2.2.2.2.1)) 3 (nI (τ.2.2.2.2.2.2.1 + 1))) (wd := wcq ak2 ac2 (4 * (120 + τ.2.2.2.2.2.2.1)) i wd1) (upd_2 rws 3 (nI τ.2.2.2.2.2.2.1) (nI (τ.2.2.2.2.2.2.1 + 1))) rfl ⟨(x_up_k e0 (by omega)), (x_up_k e1 (by omega)), x_up_s, (x_up_k e3 (by omega)), (x_up_k e4 (by omega)), (x_up_k e5 (by omega)), (x_up_k e6 (by omega)), (x_up_k e7 (by omega)), (x_up_k e8 (by omega)), (x_up_k e9 (by omega)), (x_up_k e10 (by omega)), (x_up_k e11 (by omega)), (x_up_k e12 (by omega)), (x_up_k e13 (by omega)), (x_up_k e14 (by omega)), (x_up_k e15 (by omega)), (x_up_k e16 (by omega)), (x_up_k e17 (by omega)), (x_up_k e18 (by omega)), by omega, by omega, by omega, by omega, by omega, by omega⟩⟩)
                      · skip
                        exact absurd (by decide) c11
                    · skip
                      have c10 : i < 4 := by
                        have z : ¬ (4 ≤ i) := fun zz => c10 ((nI_leI (a := 4) (b := i) (by omega) (by omega)).mpr zz)
                        omega
                      exact absurd c10 (by omega)
                  | succ k ih2 =>
                    intro i M3 hi3 hT3 hfr3
                    obtain ⟨e0, e1, e2, e3, e4, e5, e6, e7, e8, e9, e10, e11, e12, e13, e14, e15, e16, e17, e18, y1, y2, y3, y4, y5, y6⟩ := id hT3
                    refine x_iload F 0 dM_reads_82 rfl ?_
                    refine x_iconst F (v := nI (4)) dM_reads_84 (by decide) ?_
                    refine x_icmp_ge F (tgt := 125) dM_reads_85 (by decide) (fun c13 => ?_) (fun c13 => ?_)
                    · skip
                      have c13 : 4 ≤ i := by
                        exact (nI_leI (a := 4) (b := i) (by omega) (by omega)).mp c13
                      exact absurd c13 (by omega)
                    · skip
                      have c13 : i < 4 := by
                        have z : ¬ (4 ≤ i) := fun zz => c13 ((nI_leI (a := 4) (b := i) (by omega) (by omega)).mpr zz)
                        omega
                      refine x_aload_n F 2 dM_reads_88 rfl rfl ?_
                      refine x_get (ci := 6) F 10 (x_in inM) rfl (by decide) (x_m kfM_30) dM_reads_89 e0 rfl ?_
                      refine x_iconst F (v := nI (4)) dM_reads_92 (by decide) ?_
                      refine x_iload_n F 3 dM_reads_93 rfl rfl ?_
                      refine x_imul F dM_reads_94 ?_
                      refine xW.toi (nI ((4) * (120 + τ.2.2.2.2.2.2.1))) (pk_mul _ _) ?_
                      refine x_iload F 0 dM_reads_95 rfl ?_
                      refine x_iadd F dM_reads_97 ?_
                      refine xW.toi (nI ((4) * (120 + τ.2.2.2.2.2.2.1) + i)) (nI_add _ _) ?_
                      refine x_iload F 0 dM_reads_98 rfl ?_
                      refine x_aload_n F 2 dM_reads_100 rfl rfl ?_
                      refine x_get (ci := 6) F 25 (x_in inM) rfl (by decide) (x_m kfM_129) dM_reads_101 e0 rfl ?_
                      refine x_icmp_ge F (tgt := 117) dM_reads_104 (by decide) (fun c14 => ?_) (fun c14 => ?_)
                      · skip
                        have c14 : ac2 ≤ i := by
                          exact (nI_leI (a := ac2) (b := i) (by omega) (by omega)).mp c14
                        refine x_lconst F (v := 0) dM_reads_117 (by decide) ?_
                        refine x_last F dM_reads_118 e6 (pk_in ((4) * (120 + τ.2.2.2.2.2.2.1) + i) (640) (by omega)) ?_
                        rw [nI_clamp (show (4) * (120 + τ.2.2.2.2.2.2.1) + i < 2 ^ 31 by omega)]
                        show xW p l e ({ frames := 5, cells := 0, slots := 0, locals := 123 } : Room) s m args below meth c D xcl (x_A M nx) 5 (MQ below (x_Q D xcl (x_A M nx) (mrPost nx M a th sg sn pr fk fp rws cd ds wc wd nn nE nC nK nO ln lF lC lT lO fn fC fP pt (rdx tx sn w10 (tClr τ0)))) args s 0 0 (x_A M nx)) 0 0 (nx) (x_up M3 (a + 6) (.inl (.long, 640, .inr (.inl (vp_updL ((wcq ak2 ac2 (4 * (120 + τ.2.2.2.2.2.2.1)) i wd1)) ((4) * (120 + τ.2.2.2.2.2.2.1) + i) (0)))))) 119 [(4, .int (nI (i))), (1, .int ((-1))), (0, .ref (a)), (2, .int (nI (120 + τ.2.2.2.2.2.2.1)))] []
                        refine x_iinc F 0 [(4, .int (nI (i + 1))), (1, .int ((-1))), (0, .ref (a)), (2, .int (nI (120 + τ.2.2.2.2.2.2.1)))] dM_reads_119 rfl (nI_add (i) 1) (by decide) rfl ?_
                        refine x_goto F (tgt := 82) dM_reads_122 (by decide) ?_
                        exact ih2 (i + 1) _ (by omega) (by rw [wcq_s, if_neg (by omega)]; exact ⟨(x_up_k e0 (by omega)), (x_up_k e1 (by omega)), (x_up_k e2 (by omega)), (x_up_k e3 (by omega)), (x_up_k e4 (by omega)), (x_up_k e5 (by omega)), x_up_s, (x_up_k e7 (by omega)), (x_up_k e8 (by omega)), (x_up_k e9 (by omega)), (x_up_k e10 (by omega)), (x_up_k e11 (by omega)), (x_up_k e12 (by omega)), (x_up_k e13 (by omega)), (x_up_k e14 (by omega)), (x_up_k e15 (by omega)), (x_up_k e16 (by omega)), (x_up_k e17 (by omega)), (x_up_k e18 (by omega)), by omega, by omega, by omega, by omega, by omega, by omega⟩) (fun b hb => (x_up_n (by omega)).trans ((hfr3 _ hb).trans (rfl)))
                      · skip
                        have c14 : i < ac2 := by
                          have z : ¬ (ac2 ≤ i) := fun zz => c14 ((nI_leI (a := ac2) (b := i) (by omega) (by omega)).mpr zz)
                          omega
                        refine x_aload_n F 2 dM_reads_107 rfl rfl ?_
                        refine x_get (ci := 6) F 24 (x_in inM) rfl (by decide) (x_m kfM_63) dM_reads_108 e0 rfl ?_
                        refine x_iload F 0 dM_reads_111 rfl ?_
                        refine x_lald F dM_reads_113 e17 (pk_in (i) (6) (by omega)) ?_
                        refine xW.tol ((ak2) (i)) (by rw [nI_clamp (by omega)]) ?_
                        refine x_goto F (tgt := 118) dM_reads_114 (by decide) ?_
                        refine x_last F dM_reads_118 e6 (pk_in ((4) * (120 + τ.2.2.2.2.2.2.1) + i) (640) (by omega)) ?_
                        rw [nI_clamp (show (4) * (120 + τ.2.2.2.2.2.2.1) + i < 2 ^ 31 by omega)]
                        show xW p l e ({ frames := 5, cells := 0, slots := 0, locals := 123 } : Room) s m args below meth c D xcl (x_A M nx) 5 (MQ below (x_Q D xcl (x_A M nx) (mrPost nx M a th sg sn pr fk fp rws cd ds wc wd nn nE nC nK nO ln lF lC lT lO fn fC fP pt (rdx tx sn w10 (tClr τ0)))) args s 0 0 (x_A M nx)) 0 0 (nx) (x_up M3 (a + 6) (.inl (.long, 640, .inr (.inl (vp_updL ((wcq ak2 ac2 (4 * (120 + τ.2.2.2.2.2.2.1)) i wd1)) ((4) * (120 + τ.2.2.2.2.2.2.1) + i) ((ak2) (i))))))) 119 [(4, .int (nI (i))), (1, .int ((-1))), (0, .ref (a)), (2, .int (nI (120 + τ.2.2.2.2.2.2.1)))] []
                        refine x_iinc F 0 [(4, .int (nI (i + 1))), (1, .int ((-1))), (0, .ref (a)), (2, .int (nI (120 + τ.2.2.2.2.2.2.1)))] dM_reads_119 rfl (nI_add (i) 1) (by decide) rfl ?_
                        refine x_goto F (tgt := 82) dM_reads_122 (by decide) ?_
                        exact ih2 (i + 1) _ (by omega) (by rw [wcq_s, if_pos (by omega)]; exact ⟨(x_up_k e0 (by omega)), (x_up_k e1 (by omega)), (x_up_k e2 (by omega)), (x_up_k e3 (by omega)), (x_up_k e4 (by omega)), (x_up_k e5 (by omega)), x_up_s, (x_up_k e7 (by omega)), (x_up_k e8 (by omega)), (x_up_k e9 (by omega)), (x_up_k e10 (by omega)), (x_up_k e11 (by omega)), (x_up_k e12 (by omega)), (x_up_k e13 (by omega)), (x_up_k e14 (by omega)), (x_up_k e15 (by omega)), (x_up_k e16 (by omega)), (x_up_k e17 (by omega)), (x_up_k e18 (by omega)), by omega, by omega, by omega, by omega, by omega, by omega⟩) (fun b hb => (x_up_n (by omega)).trans ((hfr3 _ hb).trans (rfl)))
                refine xW.sub [0, 1, 4, 3] rfl ?_
                exact loop2 4 0 _ (by omega) ⟨(x_up_k v513_0 (by omega)), (x_up_k v513_1 (by omega)), (x_up_k v513_2 (by omega)), (x_up_k v513_3 (by omega)), (x_up_k v513_4 (by omega)), x_up_s, (x_up_k v513_6 (by omega)), (x_up_k v513_7 (by omega)), (x_up_k v513_8 (by omega)), (x_up_k v513_9 (by omega)), (x_up_k v513_10 (by omega)), (x_up_k v513_11 (by omega)), (x_up_k v513_12 (by omega)), (x_up_k v513_13 (by omega)), (x_up_k v513_14 (by omega)), (x_up_k v513_15 (by omega)), (x_up_k v513_16 (by omega)), (x_up_k v513_17 (by omega)), (x_up_k v513_18 (by omega)), by omega, by omega, by omega, by omega, by omega, by omega⟩ (fun b hb => (x_up_n (by omega)).trans ((hf513 _ (by omega)).trans ((hf511 _ (by omega)).trans ((hfr _ hb).trans (rfl)))))
            · skip
              have c6 : 1 = 0 := by
                exact (nI_eq (a := 1) (b := 0) (by omega) (by omega)).mp c6
              exact absurd c6 (by decide)
          · skip
            refine yVr (n := 1) (As := [.int (nI (q1))]) (ci := 6) F kmM_135 kiM_readsCode ksM_readsCode knM kcM_readsCode (by decide +kernel) dM_reads_23 (xC.weak (post' := fun r n' M' => r = some (.int (nI 0)) ∧ n' = nx ∧ (∃ (cd2 : Nat → Int64) (ds2 : Nat → Int32), (∀ i, i < 120 → cd2 i = cd1 i ∧ ds2 i = ds1 i) ∧ mAt M' a th sg sn pr (nI f0.1) (nI f0.2) ((upd rws 3 (nI τ.2.2.2.2.2.2.1))) cd2 ds2 wc1 wd1 nn nE nC nK nO ln lF lC lT lO fn fC fP ak1 ac1 pt) ∧ (∀ b, (b < a ∨ a + 18 < b) → M' b = M1 b)) (cM_readsCode l (nx) M1 (a) th sg sn pr fk fp (upd rws 3 (nI τ.2.2.2.2.2.2.1)) cd1 ds1 wc1 wd1 nn nE nC nK nO ln lF lC lT lO fn fC fP ak1 ac1 pt hT1 tx hX (uN rw 3 τ.2.2.2.2.2.2.1) (mR_3 hrw h40) (τ.2.2.2.2.2.2.1) q1 upd_s h40 c2 xs dg (ag_cd hI hA)) (fun r n' M' hp => by obtain ⟨p1, p2, p3⟩ := hp; rw [hk] at p3; exact ⟨p3.1, p1, p3.2, p2⟩)) rfl g0 rfl rfl (Nat.le_of_ble_eq_true rfl) ⟨Nat.le_of_ble_eq_true rfl, Nat.le_of_ble_eq_true rfl⟩ ⟨Nat.le_of_ble_eq_true rfl, Nat.le_of_ble_eq_true rfl⟩ (fun r' n' M514 hp => ?_)
            obtain ⟨hr', hn', ⟨cd2, ds2, hcd2, hM514⟩, hf514⟩ := hp
            rw [hn', hr']
            obtain ⟨v514_0, v514_1, v514_2, v514_3, v514_4, v514_5, v514_6, v514_7, v514_8, v514_9, v514_10, v514_11, v514_12, v514_13, v514_14, v514_15, v514_16, v514_17, v514_18, vb514_0, vb514_1, vb514_2, vb514_3, vb514_4, vb514_5⟩ := id hM514
            show xW p l e ({ frames := 5, cells := 0, slots := 0, locals := 123 } : Room) s m args below meth c D xcl (x_A M nx) 5 (MQ below (x_Q D xcl (x_A M nx) (mrPost nx M a th sg sn pr fk fp rws cd ds wc wd nn nE nC nK nO ln lF lC lT lO fn fC fP pt (rdx tx sn w10 (tClr τ0)))) args s 0 0 (x_A M nx)) 0 0 (nx) M514 26 [(1, .int (nI (q1))), (0, .ref (a))] [.int (nI (0))]
            refine x_if_ne F (tgt := 31) dM_reads_26 (by decide) (fun c15 => ?_) (fun c15 => ?_)
            · skip
              have c15 : 0 ≠ 0 := by
                have z : ¬ (0 = 0) := fun zz => c15 ((nI_eq (a := 0) (b := 0) (by omega) (by omega)).mpr zz)
                omega
              exact absurd c15 (by decide)
            · skip
              have c15 : 0 = 0 := by
                exact (nI_eq (a := 0) (b := 0) (by omega) (by omega)).mp c15
              refine x_iconst F (v := nI (0)) dM_reads_29 (by decide) ?_
              exact x_zret F hr (by rfl) dM_reads_30 (by rw [show rdx tx sn w10 (tClr τ0) = (some f0, τ) from by rw [rdx, if_neg (by omega), hf, rows_s, if_pos c2, rd_f1 hI hA c2 w1 hk]]; exact ⟨rfl, fun b hb => (hf514 _ (by omega)).trans ((hfr _ hb).trans (rfl)), rfl, cd2, ds2, _, _, _, _, τ.2.2.2.2.2.2.1, h40, ⟨fun j hj => ⟨(hcd2 j hj).1.trans (hL.1 j hj).1, (hcd2 j hj).2.trans (hL.1 j hj).2.1, (hL.1 j hj).2.2⟩, hL.2⟩, hM514⟩)
  refine x_aload_n F 0 dM_reads_0 rfl rfl ?_
  refine x_get (ci := 6) F 6 (x_in inM) rfl (by decide) (x_m kfM_17) dM_reads_1 h0 rfl ?_
  refine x_iconst F (v := nI (3)) dM_reads_4 (by decide) ?_
  refine x_iconst F (v := nI (0)) dM_reads_5 (by decide) ?_
  refine x_iast F dM_reads_6 h2 (pk_in (3) (4) (by omega)) ?_
  rw [nI_clamp (show 3 < 2 ^ 31 by omega)]
  show xW p l e ({ frames := 5, cells := 0, slots := 0, locals := 123 } : Room) s m args below meth c D xcl (x_A M nx) 5 (MQ below (x_Q D xcl (x_A M nx) (mrPost nx M a th sg sn pr fk fp rws cd ds wc wd nn nE nC nK nO ln lF lC lT lO fn fC fP pt (rdx tx sn w10 (tClr τ0)))) args s 0 0 (x_A M nx)) 0 0 (nx) (x_up M (a + 2) (.inl (.int, 4, .inl (upd (rws) (3) (nI (0)))))) 7 [(0, .ref (a))] []
  refine x_iconst F (v := nI (0)) dM_reads_7 (by decide) ?_
  refine x_istore_n F [(1, .int (nI (0))), (0, .ref (a))] dM_reads_8 rfl (by decide) rfl ?_
  exact loop 41 0 (tClr τ0) w10 (fun _ => 0) (fun _ => 0) (fun _ => 0) (fun _ => 0) cd ds wc wd ak ac _ rfl (Nat.zero_le _) (Or.inr ⟨rfl, rfl⟩) tI_clr (fun i hi => absurd hi (Nat.not_lt_zero _)) lowE_rf rfl ⟨(x_up_k h0 (by omega)), (x_up_k h1 (by omega)), x_up_s, (x_up_k h3 (by omega)), (x_up_k h4 (by omega)), (x_up_k h5 (by omega)), (x_up_k h6 (by omega)), (x_up_k h7 (by omega)), (x_up_k h8 (by omega)), (x_up_k h9 (by omega)), (x_up_k h10 (by omega)), (x_up_k h11 (by omega)), (x_up_k h12 (by omega)), (x_up_k h13 (by omega)), (x_up_k h14 (by omega)), (x_up_k h15 (by omega)), (x_up_k h16 (by omega)), (x_up_k h17 (by omega)), (x_up_k h18 (by omega)), by omega, by omega, by omega, by omega, by omega, by omega⟩ (fun b hb => (x_up_n (by omega)).trans (rfl))
set_option maxHeartbeats 4000000 in
set_option maxRecDepth 100000 in
theorem cM_pointsOf (l : Launch) (nx : Nat) (M : xH) (a : Nat) (th : Int32) (sg : Nat → Int32) (sn pr : Nat) (fk fp : Int32) (rws : Nat → Int32) (cd : Nat → Int64) (ds wc : Nat → Int32) (wd : Nat → Int64) (nn : Nat) (nE : Nat → Int32) (nC : Nat → Int64) (nK : Nat → Int32) (nO : Nat → Int64) (ln : Nat) (lF : Nat → Int32) (lC : Nat → Int64) (lT : Nat → Int32) (lO : Nat → Int64) (fn : Nat) (fC : Nat → Int64) (fP : Nat → Int32) (ak : Nat → Int64) (ac : Nat) (pt : Nat → Int32) (hT : mAt M a th sg sn pr fk fp rws cd ds wc wd nn nE nC nK nO ln lF lC lT lO fn fC fP ak ac pt) (rw : Nat → Nat) (hrw : mR rws rw) (wn : Nat → Nat) (hwn : ∀ t, t < rw pr → wc (40 * pr + t) = nI (wn t) ∧ wn t ≤ 4) (i0 : Nat) (hi0 : i0 < rw pr) : xC l xcl yM_pointsOf (xw (Cond.code yM_pointsOf bM_pointsOf 7 (some .int))) ({ frames := 2, cells := 0, slots := 0, locals := 53 } : Room) [.ref (a), .int (nI (40 * pr + i0))] nx M (x_is (some (.int (nI (mPts cd ds wd nn nE nC nK nO pr ak ac (40 * pr) wn i0)))) nx M) := by
  obtain ⟨h0, h1, h2, h3, h4, h5, h6, h7, h8, h9, h10, h11, h12, h13, h14, h15, h16, h17, h18, b1, b2, b3, b4, b5, b6⟩ := id hT
  have hr40 := (hrw pr (by omega)).2
  refine yC (by decide) (Nat.le_of_ble_eq_true rfl) ?_
  intro p e s m args below meth c D F hr hn
  have loop : ∀ (k : Nat) (j cq : Nat) (o : Bool), j + k = ac → cq ≤ 4 * j → o = (decide (0 < j) && mOut cd ds nn nE nC nK nO pr (40 * pr) i0) → psum (fun k => mPt1 ds wd (40 * pr) wn i0 (ak k)) ac 0 0 = psum (fun k => mPt1 ds wd (40 * pr) wn i0 (ak k)) k j cq → xW p l e ({ frames := 2, cells := 0, slots := 0, locals := 53 } : Room) s m args below meth c D xcl (x_A M nx) 7 (MQ below (x_Q D xcl (x_A M nx) (x_is (some (.int (nI (mPts cd ds wd nn nE nC nK nO pr ak ac (40 * pr) wn i0)))) nx M)) args s 0 0 (x_A M nx)) 0 0 (nx) M 7 [(4, .int (nI (j))), (2, .int (nI (cq))), (3, .int (bI (o))), (0, .ref (a)), (1, .int (nI (40 * pr + i0)))] [] := by
    intro k
    induction k with
    | zero =>
      intro j cq o hj hc ho hf
      refine x_iload F 0 dM_pointsOf_7 rfl ?_
      refine x_aload_n F 3 dM_pointsOf_9 rfl rfl ?_
      refine x_get (ci := 6) F 25 (x_in inM) rfl (by decide) (x_m kfM_129) dM_pointsOf_10 h0 rfl ?_
      refine x_icmp_ge F (tgt := 153) dM_pointsOf_13 (by decide) (fun c1 => ?_) (fun c1 => ?_)
      · skip
        have c1 : ac ≤ j := by
          exact (nI_leI (a := ac) (b := j) (by omega) (by omega)).mp c1
        refine x_iload_n F 2 dM_pointsOf_153 rfl rfl ?_
        refine x_if_eq F (tgt := 163) dM_pointsOf_154 (by decide) (fun c2 => ?_) (fun c2 => ?_)
        · skip
          have c2 : (o) = false := bI_0 c2
          refine x_iload_n F 1 dM_pointsOf_163 rfl rfl ?_
          exact x_iret F hr dM_pointsOf_164 (x_e (by rw [mPts, show (decide (0 < ac) && mOut cd ds nn nE nC nK nO pr (40 * pr) i0) = o from by rw [ho, show j = ac by omega], c2, hf]; rfl))
        · skip
          have c2 : (o) = true := bI_1 c2
          refine x_iload_n F 1 dM_pointsOf_157 rfl rfl ?_
          refine x_iconst F (v := nI (2)) dM_pointsOf_158 (by decide) ?_
          refine x_idiv F dM_pointsOf_159 (by decide) ?_
          refine xW.toi (nI (cq / 2)) (pk_div (by omega) (by omega) (by omega)) ?_
          refine x_goto F (tgt := 164) dM_pointsOf_160 (by decide) ?_
          exact x_iret F hr dM_pointsOf_164 (x_e (by rw [mPts, show (decide (0 < ac) && mOut cd ds nn nE nC nK nO pr (40 * pr) i0) = o from by rw [ho, show j = ac by omega], c2, hf]; rfl))
      · skip
        have c1 : j < ac := by
          have z : ¬ (ac ≤ j) := fun zz => c1 ((nI_leI (a := ac) (b := j) (by omega) (by omega)).mpr zz)
          omega
        exact absurd c1 (by omega)
    | succ k ih =>
      intro j cq o hj hc ho hf
      refine x_iload F 0 dM_pointsOf_7 rfl ?_
      refine x_aload_n F 3 dM_pointsOf_9 rfl rfl ?_
      refine x_get (ci := 6) F 25 (x_in inM) rfl (by decide) (x_m kfM_129) dM_pointsOf_10 h0 rfl ?_
      refine x_icmp_ge F (tgt := 153) dM_pointsOf_13 (by decide) (fun c3 => ?_) (fun c3 => ?_)
      · skip
        have c3 : ac ≤ j := by
          exact (nI_leI (a := ac) (b := j) (by omega) (by omega)).mp c3
        exact absurd c3 (by omega)
      · skip
        have c3 : j < ac := by
          have z : ¬ (ac ≤ j) := fun zz => c3 ((nI_leI (a := ac) (b := j) (by omega) (by omega)).mpr zz)
          omega
        refine x_iconst F (v := nI (0)) dM_pointsOf_16 (by decide) ?_
        refine x_istore F [(5, .int (nI (0))), (4, .int (nI (j))), (2, .int (nI (cq))), (3, .int (bI (o))), (0, .ref (a)), (1, .int (nI (40 * pr + i0)))] dM_pointsOf_17 (by decide) rfl ?_
        refine x_aload_n F 4 dM_pointsOf_19 rfl rfl ?_
        refine x_bipush F (v := nI (40)) dM_pointsOf_20 (by decide) ?_
        refine x_aload_n F 4 dM_pointsOf_22 rfl rfl ?_
        refine x_get (ci := 6) F 3 (x_in inM) rfl (by decide) (x_m kfM_156) dM_pointsOf_23 h0 rfl ?_
        refine x_imul F dM_pointsOf_26 ?_
        refine xW.toi (nI ((40) * (pr))) (pk_mul _ _) ?_
        refine x_iload_n F 5 dM_pointsOf_27 rfl rfl ?_
        refine yV (n := 2) (As := [.int (nI ((40) * (pr))), .int (nI (40 * pr + i0))]) (ci := 6) F kmM_123 kiM_above ksM_above knM kcM_above (by decide +kernel) dM_pointsOf_28 (cM_above l (nx) M (a) th sg sn pr fk fp rws cd ds wc wd nn nE nC nK nO ln lF lC lT lO fn fC fP ak ac pt hT (40 * pr) i0 (by omega)) rfl h0 rfl rfl (Nat.le_of_ble_eq_true rfl) ⟨Nat.le_of_ble_eq_true rfl, Nat.le_of_ble_eq_true rfl⟩ ⟨Nat.le_of_ble_eq_true rfl, Nat.le_of_ble_eq_true rfl⟩ ?_
        refine x_istore F [(6, .int (oj (40 * pr) (mUp ds (40 * pr) i0))), (5, .int (nI (0))), (4, .int (nI (j))), (2, .int (nI (cq))), (3, .int (bI (o))), (0, .ref (a)), (1, .int (nI (40 * pr + i0)))] dM_pointsOf_31 (by decide) rfl ?_
        have loop2 : ∀ (w2 : Nat) (r : Option Nat) (v o1 : Bool), (∀ t, r = some t → t < w2 ∧ t < rw pr) → (v || up (mUp ds (40 * pr)) (fun t => mHas wd (40 * pr + t) (wn t) (ak j)) w2 r) = up (mUp ds (40 * pr)) (fun t => mHas wd (40 * pr + t) (wn t) (ak j)) 40 (mUp ds (40 * pr) i0) → (o1 || up (mUp ds (40 * pr)) (fun t => (la (mNt nE nC nK nO (nI pr) (cd (40 * pr + t)) (nI 1) (cd (40 * pr + i0))) nn).isSome) w2 r) = (o || mOut cd ds nn nE nC nK nO pr (40 * pr) i0) → xW p l e ({ frames := 2, cells := 0, slots := 0, locals := 53 } : Room) s m args below meth c D xcl (x_A M nx) 7 (MQ below (x_Q D xcl (x_A M nx) (x_is (some (.int (nI (mPts cd ds wd nn nE nC nK nO pr ak ac (40 * pr) wn i0)))) nx M)) args s 0 0 (x_A M nx)) 0 0 (nx) M 33 [(6, .int (oj (40 * pr) r)), (5, .int (bI (v))), (3, .int (bI (o1))), (4, .int (nI (j))), (2, .int (nI (cq))), (0, .ref (a)), (1, .int (nI (40 * pr + i0)))] [] := by
          intro w2
          induction w2 with
          | zero =>
            intro r v o1 hb hV hO
            rcases o_cases (r) with hr0 | ⟨t, hr0⟩
            · skip
              rw [hr0, up_n, Bool.or_false] at hV hO
              refine xW.lve (lv' := [(6, .int ((-1))), (5, .int (bI (v))), (3, .int (bI (o1))), (4, .int (nI (j))), (2, .int (nI (cq))), (0, .ref (a)), (1, .int (nI (40 * pr + i0)))]) (by show ([(6, .int (oj (40 * pr) r)), (5, .int (bI (v))), (3, .int (bI (o1))), (4, .int (nI (j))), (2, .int (nI (cq))), (0, .ref (a)), (1, .int (nI (40 * pr + i0)))] : List (Nat × Value)) = _; rw [hr0]; rfl) ?_
              refine x_iload F 0 dM_pointsOf_33 rfl ?_
              refine x_if_lt F (tgt := 115) dM_pointsOf_35 (by decide) (fun c4 => ?_) (fun c4 => ?_)
              · skip
                refine x_iload_n F 4 dM_pointsOf_115 rfl rfl ?_
                refine x_aload_n F 5 dM_pointsOf_116 rfl rfl ?_
                refine x_iload_n F 6 dM_pointsOf_117 rfl rfl ?_
                refine x_aload_n F 5 dM_pointsOf_118 rfl rfl ?_
                refine x_get (ci := 6) F 24 (x_in inM) rfl (by decide) (x_m kfM_63) dM_pointsOf_119 h0 rfl ?_
                refine x_iload F 3 dM_pointsOf_122 rfl ?_
                refine x_lald F dM_pointsOf_124 h17 (pk_in (j) (6) (by omega)) ?_
                refine xW.tol ((ak) (j)) (by rw [nI_clamp (by omega)]) ?_
                refine yV (n := 2) (As := [.int (nI (40 * pr + i0)), .long ((ak) (j))]) (ci := 6) F kmM_200 kiM_has ksM_has knM kcM_has (by decide +kernel) dM_pointsOf_125 (cM_has l (nx) M (a) th sg sn pr fk fp rws cd ds wc wd nn nE nC nK nO ln lF lC lT lO fn fC fP ak ac pt hT (40 * pr + i0) (wn i0) (by omega) (hwn i0 hi0).1 (hwn i0 hi0).2 (ak j)) rfl h0 rfl rfl (Nat.le_of_ble_eq_true rfl) ⟨Nat.le_of_ble_eq_true rfl, Nat.le_of_ble_eq_true rfl⟩ ⟨Nat.le_of_ble_eq_true rfl, Nat.le_of_ble_eq_true rfl⟩ ?_
                refine x_if_eq F (tgt := 135) dM_pointsOf_128 (by decide) (fun c5 => ?_) (fun c5 => ?_)
                · skip
                  have c5 : (mHas wd (40 * pr + i0) (wn i0) (ak j)) = false := bI_0 c5
                  refine x_iload F 1 dM_pointsOf_135 rfl ?_
                  refine x_if_eq F (tgt := 144) dM_pointsOf_137 (by decide) (fun c6 => ?_) (fun c6 => ?_)
                  · skip
                    have c6 : (v) = false := bI_0 c6
                    refine x_iconst F (v := nI (0)) dM_pointsOf_144 (by decide) ?_
                    refine x_iadd F dM_pointsOf_145 ?_
                    refine xW.toi (nI (cq + 0)) (nI_add _ _) ?_
                    refine x_istore_n F [(2, .int (nI (cq + 0))), (6, .int ((-1))), (5, .int (bI (v))), (3, .int (bI (o1))), (4, .int (nI (j))), (0, .ref (a)), (1, .int (nI (40 * pr + i0)))] dM_pointsOf_146 rfl (by decide) rfl ?_
                    refine x_iinc F 4 [(4, .int (nI (j + 1))), (2, .int (nI (cq + 0))), (6, .int ((-1))), (5, .int (bI (v))), (3, .int (bI (o1))), (0, .ref (a)), (1, .int (nI (40 * pr + i0)))] dM_pointsOf_147 rfl (nI_add (j) 1) (by decide) rfl ?_
                    refine x_goto F (tgt := 7) dM_pointsOf_150 (by decide) ?_
                    refine xW.sub [0, 1, 4, 5, 6] rfl ?_
                    exact ih (j + 1) _ o1 (by omega) (by omega) (by rw [hO, ho]; cases mOut cd ds nn nE nC nK nO pr (40 * pr) i0 <;> simp) (by rw [hf, psum_s]; show psum (fun k => mPt1 ds wd (40 * pr) wn i0 (ak k)) k (j + 1) (cq + mPt1 ds wd (40 * pr) wn i0 (ak j)) = _; rw [(show mPt1 ds wd (40 * pr) wn i0 (ak j) = 0 by rw [mPt1, if_neg (by rw [c5]; decide), ← hV, c6]; rfl)])
                  · skip
                    have c6 : (v) = true := bI_1 c6
                    refine x_iconst F (v := nI (2)) dM_pointsOf_140 (by decide) ?_
                    refine x_goto F (tgt := 145) dM_pointsOf_141 (by decide) ?_
                    refine x_iadd F dM_pointsOf_145 ?_
                    refine xW.toi (nI (cq + 2)) (nI_add _ _) ?_
                    refine x_istore_n F [(2, .int (nI (cq + 2))), (6, .int ((-1))), (5, .int (bI (v))), (3, .int (bI (o1))), (4, .int (nI (j))), (0, .ref (a)), (1, .int (nI (40 * pr + i0)))] dM_pointsOf_146 rfl (by decide) rfl ?_
                    refine x_iinc F 4 [(4, .int (nI (j + 1))), (2, .int (nI (cq + 2))), (6, .int ((-1))), (5, .int (bI (v))), (3, .int (bI (o1))), (0, .ref (a)), (1, .int (nI (40 * pr + i0)))] dM_pointsOf_147 rfl (nI_add (j) 1) (by decide) rfl ?_
                    refine x_goto F (tgt := 7) dM_pointsOf_150 (by decide) ?_
                    refine xW.sub [0, 1, 4, 5, 6] rfl ?_
                    exact ih (j + 1) _ o1 (by omega) (by omega) (by rw [hO, ho]; cases mOut cd ds nn nE nC nK nO pr (40 * pr) i0 <;> simp) (by rw [hf, psum_s]; show psum (fun k => mPt1 ds wd (40 * pr) wn i0 (ak k)) k (j + 1) (cq + mPt1 ds wd (40 * pr) wn i0 (ak j)) = _; rw [(show mPt1 ds wd (40 * pr) wn i0 (ak j) = 2 by rw [mPt1, if_neg (by rw [c5]; decide), ← hV, c6]; rfl)])
                · skip
                  have c5 : (mHas wd (40 * pr + i0) (wn i0) (ak j)) = true := bI_1 c5
                  refine x_iconst F (v := nI (4)) dM_pointsOf_131 (by decide) ?_
                  refine x_goto F (tgt := 145) dM_pointsOf_132 (by decide) ?_
                  refine x_iadd F dM_pointsOf_145 ?_
                  refine xW.toi (nI (cq + 4)) (nI_add _ _) ?_
                  refine x_istore_n F [(2, .int (nI (cq + 4))), (6, .int ((-1))), (5, .int (bI (v))), (3, .int (bI (o1))), (4, .int (nI (j))), (0, .ref (a)), (1, .int (nI (40 * pr + i0)))] dM_pointsOf_146 rfl (by decide) rfl ?_
                  refine x_iinc F 4 [(4, .int (nI (j + 1))), (2, .int (nI (cq + 4))), (6, .int ((-1))), (5, .int (bI (v))), (3, .int (bI (o1))), (0, .ref (a)), (1, .int (nI (40 * pr + i0)))] dM_pointsOf_147 rfl (nI_add (j) 1) (by decide) rfl ?_
                  refine x_goto F (tgt := 7) dM_pointsOf_150 (by decide) ?_
                  refine xW.sub [0, 1, 4, 5, 6] rfl ?_
                  exact ih (j + 1) _ o1 (by omega) (by omega) (by rw [hO, ho]; cases mOut cd ds nn nE nC nK nO pr (40 * pr) i0 <;> simp) (by rw [hf, psum_s]; show psum (fun k => mPt1 ds wd (40 * pr) wn i0 (ak k)) k (j + 1) (cq + mPt1 ds wd (40 * pr) wn i0 (ak j)) = _; rw [(show mPt1 ds wd (40 * pr) wn i0 (ak j) = 4 by rw [mPt1, if_pos c5])])
              · skip
                exact absurd (by decide) c4
            · skip
              exact absurd (hb t hr0).1 (Nat.not_lt_zero _)
          | succ w2 ih2 =>
            intro r v o1 hb hV hO
            rcases o_cases (r) with hr0 | ⟨t, hr0⟩
            · skip
              rw [hr0, up_n, Bool.or_false] at hV hO
              refine xW.lve (lv' := [(6, .int ((-1))), (5, .int (bI (v))), (3, .int (bI (o1))), (4, .int (nI (j))), (2, .int (nI (cq))), (0, .ref (a)), (1, .int (nI (40 * pr + i0)))]) (by show ([(6, .int (oj (40 * pr) r)), (5, .int (bI (v))), (3, .int (bI (o1))), (4, .int (nI (j))), (2, .int (nI (cq))), (0, .ref (a)), (1, .int (nI (40 * pr + i0)))] : List (Nat × Value)) = _; rw [hr0]; rfl) ?_
              refine x_iload F 0 dM_pointsOf_33 rfl ?_
              refine x_if_lt F (tgt := 115) dM_pointsOf_35 (by decide) (fun c7 => ?_) (fun c7 => ?_)
              · skip
                refine x_iload_n F 4 dM_pointsOf_115 rfl rfl ?_
                refine x_aload_n F 5 dM_pointsOf_116 rfl rfl ?_
                refine x_iload_n F 6 dM_pointsOf_117 rfl rfl ?_
                refine x_aload_n F 5 dM_pointsOf_118 rfl rfl ?_
                refine x_get (ci := 6) F 24 (x_in inM) rfl (by decide) (x_m kfM_63) dM_pointsOf_119 h0 rfl ?_
                refine x_iload F 3 dM_pointsOf_122 rfl ?_
                refine x_lald F dM_pointsOf_124 h17 (pk_in (j) (6) (by omega)) ?_
                refine xW.tol ((ak) (j)) (by rw [nI_clamp (by omega)]) ?_
                refine yV (n := 2) (As := [.int (nI (40 * pr + i0)), .long ((ak) (j))]) (ci := 6) F kmM_200 kiM_has ksM_has knM kcM_has (by decide +kernel) dM_pointsOf_125 (cM_has l (nx) M (a) th sg sn pr fk fp rws cd ds wc wd nn nE nC nK nO ln lF lC lT lO fn fC fP ak ac pt hT (40 * pr + i0) (wn i0) (by omega) (hwn i0 hi0).1 (hwn i0 hi0).2 (ak j)) rfl h0 rfl rfl (Nat.le_of_ble_eq_true rfl) ⟨Nat.le_of_ble_eq_true rfl, Nat.le_of_ble_eq_true rfl⟩ ⟨Nat.le_of_ble_eq_true rfl, Nat.le_of_ble_eq_true rfl⟩ ?_
                refine x_if_eq F (tgt := 135) dM_pointsOf_128 (by decide) (fun c8 => ?_) (fun c8 => ?_)
                · skip
                  have c8 : (mHas wd (40 * pr + i0) (wn i0) (ak j)) = false := bI_0 c8
                  refine x_iload F 1 dM_pointsOf_135 rfl ?_
                  refine x_if_eq F (tgt := 144) dM_pointsOf_137 (by decide) (fun c9 => ?_) (fun c9 => ?_)
                  · skip
                    have c9 : (v) = false := bI_0 c9
                    refine x_iconst F (v := nI (0)) dM_pointsOf_144 (by decide) ?_
                    refine x_iadd F dM_pointsOf_145 ?_
                    refine xW.toi (nI (cq + 0)) (nI_add _ _) ?_
                    refine x_istore_n F [(2, .int (nI (cq + 0))), (6, .int ((-1))), (5, .int (bI (v))), (3, .int (bI (o1))), (4, .int (nI (j))), (0, .ref (a)), (1, .int (nI (40 * pr + i0)))] dM_pointsOf_146 rfl (by decide) rfl ?_
                    refine x_iinc F 4 [(4, .int (nI (j + 1))), (2, .int (nI (cq + 0))), (6, .int ((-1))), (5, .int (bI (v))), (3, .int (bI (o1))), (0, .ref (a)), (1, .int (nI (40 * pr + i0)))] dM_pointsOf_147 rfl (nI_add (j) 1) (by decide) rfl ?_
                    refine x_goto F (tgt := 7) dM_pointsOf_150 (by decide) ?_
                    refine xW.sub [0, 1, 4, 5, 6] rfl ?_
                    exact ih (j + 1) _ o1 (by omega) (by omega) (by rw [hO, ho]; cases mOut cd ds nn nE nC nK nO pr (40 * pr) i0 <;> simp) (by rw [hf, psum_s]; show psum (fun k => mPt1 ds wd (40 * pr) wn i0 (ak k)) k (j + 1) (cq + mPt1 ds wd (40 * pr) wn i0 (ak j)) = _; rw [(show mPt1 ds wd (40 * pr) wn i0 (ak j) = 0 by rw [mPt1, if_neg (by rw [c8]; decide), ← hV, c9]; rfl)])
                  · skip
                    have c9 : (v) = true := bI_1 c9
                    refine x_iconst F (v := nI (2)) dM_pointsOf_140 (by decide) ?_
                    refine x_goto F (tgt := 145) dM_pointsOf_141 (by decide) ?_
                    refine x_iadd F dM_pointsOf_145 ?_
                    refine xW.toi (nI (cq + 2)) (nI_add _ _) ?_
                    refine x_istore_n F [(2, .int (nI (cq + 2))), (6, .int ((-1))), (5, .int (bI (v))), (3, .int (bI (o1))), (4, .int (nI (j))), (0, .ref (a)), (1, .int (nI (40 * pr + i0)))] dM_pointsOf_146 rfl (by decide) rfl ?_
                    refine x_iinc F 4 [(4, .int (nI (j + 1))), (2, .int (nI (cq + 2))), (6, .int ((-1))), (5, .int (bI (v))), (3, .int (bI (o1))), (0, .ref (a)), (1, .int (nI (40 * pr + i0)))] dM_pointsOf_147 rfl (nI_add (j) 1) (by decide) rfl ?_
                    refine x_goto F (tgt := 7) dM_pointsOf_150 (by decide) ?_
                    refine xW.sub [0, 1, 4, 5, 6] rfl ?_
                    exact ih (j + 1) _ o1 (by omega) (by omega) (by rw [hO, ho]; cases mOut cd ds nn nE nC nK nO pr (40 * pr) i0 <;> simp) (by rw [hf, psum_s]; show psum (fun k => mPt1 ds wd (40 * pr) wn i0 (ak k)) k (j + 1) (cq + mPt1 ds wd (40 * pr) wn i0 (ak j)) = _; rw [(show mPt1 ds wd (40 * pr) wn i0 (ak j) = 2 by rw [mPt1, if_neg (by rw [c8]; decide), ← hV, c9]; rfl)])
                · skip
                  have c8 : (mHas wd (40 * pr + i0) (wn i0) (ak j)) = true := bI_1 c8
                  refine x_iconst F (v := nI (4)) dM_pointsOf_131 (by decide) ?_
                  refine x_goto F (tgt := 145) dM_pointsOf_132 (by decide) ?_
                  refine x_iadd F dM_pointsOf_145 ?_
                  refine xW.toi (nI (cq + 4)) (nI_add _ _) ?_
                  refine x_istore_n F [(2, .int (nI (cq + 4))), (6, .int ((-1))), (5, .int (bI (v))), (3, .int (bI (o1))), (4, .int (nI (j))), (0, .ref (a)), (1, .int (nI (40 * pr + i0)))] dM_pointsOf_146 rfl (by decide) rfl ?_
                  refine x_iinc F 4 [(4, .int (nI (j + 1))), (2, .int (nI (cq + 4))), (6, .int ((-1))), (5, .int (bI (v))), (3, .int (bI (o1))), (0, .ref (a)), (1, .int (nI (40 * pr + i0)))] dM_pointsOf_147 rfl (nI_add (j) 1) (by decide) rfl ?_
                  refine x_goto F (tgt := 7) dM_pointsOf_150 (by decide) ?_
                  refine xW.sub [0, 1, 4, 5, 6] rfl ?_
                  exact ih (j + 1) _ o1 (by omega) (by omega) (by rw [hO, ho]; cases mOut cd ds nn nE nC nK nO pr (40 * pr) i0 <;> simp) (by rw [hf, psum_s]; show psum (fun k => mPt1 ds wd (40 * pr) wn i0 (ak k)) k (j + 1) (cq + mPt1 ds wd (40 * pr) wn i0 (ak j)) = _; rw [(show mPt1 ds wd (40 * pr) wn i0 (ak j) = 4 by rw [mPt1, if_pos c8])])
              · skip
                exact absurd (by decide) c7
            · skip
              obtain ⟨ht1, ht2⟩ := hb t hr0
              rw [hr0, up_s] at hV hO
              refine xW.lve (lv' := [(6, .int (nI (40 * pr + t))), (5, .int (bI (v))), (3, .int (bI (o1))), (4, .int (nI (j))), (2, .int (nI (cq))), (0, .ref (a)), (1, .int (nI (40 * pr + i0)))]) (by show ([(6, .int (oj (40 * pr) r)), (5, .int (bI (v))), (3, .int (bI (o1))), (4, .int (nI (j))), (2, .int (nI (cq))), (0, .ref (a)), (1, .int (nI (40 * pr + i0)))] : List (Nat × Value)) = _; rw [hr0]; rfl) ?_
              refine x_iload F 0 dM_pointsOf_33 rfl ?_
              refine x_if_lt F (tgt := 115) dM_pointsOf_35 (by decide) (fun c10 => ?_) (fun c10 => ?_)
              · skip
                have c10 : 40 * pr + t < 0 := by
                  exact (nI_ltI (a := 40 * pr + t) (b := 0) (by omega) (by omega)).mp c10
                exact absurd c10 (by omega)
              · skip
                have c10 : 0 ≤ 40 * pr + t := by
                  have z : ¬ (40 * pr + t < 0) := fun zz => c10 ((nI_ltI (a := 40 * pr + t) (b := 0) (by omega) (by omega)).mpr zz)
                  omega
                refine x_iload F 1 dM_pointsOf_38 rfl ?_
                refine x_if_ne F (tgt := 59) dM_pointsOf_40 (by decide) (fun c11 => ?_) (fun c11 => ?_)
                · skip
                  have c11 : (v) = true := bI_1 c11
                  refine x_iconst F (v := nI (1)) dM_pointsOf_59 (by decide) ?_
                  refine x_goto F (tgt := 64) dM_pointsOf_60 (by decide) ?_
                  refine x_istore F [(5, .int (nI (1))), (6, .int (nI (40 * pr + t))), (3, .int (bI (o1))), (4, .int (nI (j))), (2, .int (nI (cq))), (0, .ref (a)), (1, .int (nI (40 * pr + i0)))] dM_pointsOf_64 (by decide) rfl ?_
                  refine x_iload_n F 2 dM_pointsOf_66 rfl rfl ?_
                  refine x_if_ne F (tgt := 91) dM_pointsOf_67 (by decide) (fun c12 => ?_) (fun c12 => ?_)
                  · skip
                    have c12 : (o1) = true := bI_1 c12
                    refine x_iconst F (v := nI (1)) dM_pointsOf_91 (by decide) ?_
                    refine x_goto F (tgt := 96) dM_pointsOf_92 (by decide) ?_
                    refine x_istore_n F [(3, .int (nI (1))), (5, .int (nI (1))), (6, .int (nI (40 * pr + t))), (4, .int (nI (j))), (2, .int (nI (cq))), (0, .ref (a)), (1, .int (nI (40 * pr + i0)))] dM_pointsOf_96 rfl (by decide) rfl ?_
                    refine x_aload_n F 5 dM_pointsOf_97 rfl rfl ?_
                    refine x_bipush F (v := nI (40)) dM_pointsOf_98 (by decide) ?_
                    refine x_aload_n F 5 dM_pointsOf_100 rfl rfl ?_
                    refine x_get (ci := 6) F 3 (x_in inM) rfl (by decide) (x_m kfM_156) dM_pointsOf_101 h0 rfl ?_
                    refine x_imul F dM_pointsOf_104 ?_
                    refine xW.toi (nI ((40) * (pr))) (pk_mul _ _) ?_
                    refine x_iload F 2 dM_pointsOf_105 rfl ?_
                    refine yV (n := 2) (As := [.int (nI ((40) * (pr))), .int (nI (40 * pr + t))]) (ci := 6) F kmM_123 kiM_above ksM_above knM kcM_above (by decide +kernel) dM_pointsOf_107 (cM_above l (nx) M (a) th sg sn pr fk fp rws cd ds wc wd nn nE nC nK nO ln lF lC lT lO fn fC fP ak ac pt hT (40 * pr) t (by omega)) rfl h0 rfl rfl (Nat.le_of_ble_eq_true rfl) ⟨Nat.le_of_ble_eq_true rfl, Nat.le_of_ble_eq_true rfl⟩ ⟨Nat.le_of_ble_eq_true rfl, Nat.le_of_ble_eq_true rfl⟩ ?_
                    refine x_istore F [(6, .int (oj (40 * pr) (mUp ds (40 * pr) t))), (3, .int (nI (1))), (5, .int (nI (1))), (4, .int (nI (j))), (2, .int (nI (cq))), (0, .ref (a)), (1, .int (nI (40 * pr + i0)))] dM_pointsOf_110 (by decide) rfl ?_
                    refine x_goto F (tgt := 33) dM_pointsOf_112 (by decide) ?_
                    refine xW.sub [0, 2, 1, 3, 4, 5, 6] rfl ?_
                    exact ih2 (mUp ds (40 * pr) t) true true (fun u hu => by have := mUp_lt hu; omega) (by rw [← hV]; simp [c11]) (by rw [← hO]; simp [c12])
                  · skip
                    have c12 : (o1) = false := bI_0 c12
                    refine x_aload_n F 5 dM_pointsOf_70 rfl rfl ?_
                    refine x_aload_n F 5 dM_pointsOf_71 rfl rfl ?_
                    refine x_get (ci := 6) F 7 (x_in inM) rfl (by decide) (x_m kfM_20) dM_pointsOf_72 h0 rfl ?_
                    refine x_iload F 1 dM_pointsOf_75 rfl ?_
                    refine x_lald F dM_pointsOf_77 h3 (pk_in (40 * pr + t) (160) (by omega)) ?_
                    refine xW.tol ((cd) (40 * pr + t)) (by rw [nI_clamp (by omega)]) ?_
                    refine x_iconst F (v := nI (1)) dM_pointsOf_78 (by decide) ?_
                    refine x_aload_n F 5 dM_pointsOf_79 rfl rfl ?_
                    refine x_get (ci := 6) F 7 (x_in inM) rfl (by decide) (x_m kfM_20) dM_pointsOf_80 h0 rfl ?_
                    refine x_iload_n F 6 dM_pointsOf_83 rfl rfl ?_
                    refine x_lald F dM_pointsOf_84 h3 (pk_in (40 * pr + i0) (160) (by omega)) ?_
                    refine xW.tol ((cd) (40 * pr + i0)) (by rw [nI_clamp (by omega)]) ?_
                    refine yV (n := 3) (As := [.long ((cd) (40 * pr + t)), .int (nI (1)), .long ((cd) (40 * pr + i0))]) (ci := 6) F kmM_177 kiM_hasNote ksM_hasNote knM kcM_hasNote (by decide +kernel) dM_pointsOf_85 (cM_hasNote l (nx) M (a) th sg sn pr fk fp rws cd ds wc wd nn nE nC nK nO ln lF lC lT lO fn fC fP ak ac pt hT (cd (40 * pr + t)) (nI 1) (cd (40 * pr + i0))) rfl h0 rfl rfl (Nat.le_of_ble_eq_true rfl) ⟨Nat.le_of_ble_eq_true rfl, Nat.le_of_ble_eq_true rfl⟩ ⟨Nat.le_of_ble_eq_true rfl, Nat.le_of_ble_eq_true rfl⟩ ?_
                    refine x_if_eq F (tgt := 95) dM_pointsOf_88 (by decide) (fun c13 => ?_) (fun c13 => ?_)
                    · skip
                      have c13 : ((la (mNt nE nC nK nO (nI pr) (cd (40 * pr + t)) (nI 1) (cd (40 * pr + i0))) nn).isSome) = false := bI_0 c13
                      refine x_iconst F (v := nI (0)) dM_pointsOf_95 (by decide) ?_
                      refine x_istore_n F [(3, .int (nI (0))), (5, .int (nI (1))), (6, .int (nI (40 * pr + t))), (4, .int (nI (j))), (2, .int (nI (cq))), (0, .ref (a)), (1, .int (nI (40 * pr + i0)))] dM_pointsOf_96 rfl (by decide) rfl ?_
                      refine x_aload_n F 5 dM_pointsOf_97 rfl rfl ?_
                      refine x_bipush F (v := nI (40)) dM_pointsOf_98 (by decide) ?_
                      refine x_aload_n F 5 dM_pointsOf_100 rfl rfl ?_
                      refine x_get (ci := 6) F 3 (x_in inM) rfl (by decide) (x_m kfM_156) dM_pointsOf_101 h0 rfl ?_
                      refine x_imul F dM_pointsOf_104 ?_
                      refine xW.toi (nI ((40) * (pr))) (pk_mul _ _) ?_
                      refine x_iload F 2 dM_pointsOf_105 rfl ?_
                      refine yV (n := 2) (As := [.int (nI ((40) * (pr))), .int (nI (40 * pr + t))]) (ci := 6) F kmM_123 kiM_above ksM_above knM kcM_above (by decide +kernel) dM_pointsOf_107 (cM_above l (nx) M (a) th sg sn pr fk fp rws cd ds wc wd nn nE nC nK nO ln lF lC lT lO fn fC fP ak ac pt hT (40 * pr) t (by omega)) rfl h0 rfl rfl (Nat.le_of_ble_eq_true rfl) ⟨Nat.le_of_ble_eq_true rfl, Nat.le_of_ble_eq_true rfl⟩ ⟨Nat.le_of_ble_eq_true rfl, Nat.le_of_ble_eq_true rfl⟩ ?_
                      refine x_istore F [(6, .int (oj (40 * pr) (mUp ds (40 * pr) t))), (3, .int (nI (0))), (5, .int (nI (1))), (4, .int (nI (j))), (2, .int (nI (cq))), (0, .ref (a)), (1, .int (nI (40 * pr + i0)))] dM_pointsOf_110 (by decide) rfl ?_
                      refine x_goto F (tgt := 33) dM_pointsOf_112 (by decide) ?_
                      refine xW.sub [0, 2, 1, 3, 4, 5, 6] rfl ?_
                      exact ih2 (mUp ds (40 * pr) t) true false (fun u hu => by have := mUp_lt hu; omega) (by rw [← hV]; simp [c11]) (by rw [← hO]; simp [c12, c13])
                    · skip
                      have c13 : ((la (mNt nE nC nK nO (nI pr) (cd (40 * pr + t)) (nI 1) (cd (40 * pr + i0))) nn).isSome) = true := bI_1 c13
                      refine x_iconst F (v := nI (1)) dM_pointsOf_91 (by decide) ?_
                      refine x_goto F (tgt := 96) dM_pointsOf_92 (by decide) ?_
                      refine x_istore_n F [(3, .int (nI (1))), (5, .int (nI (1))), (6, .int (nI (40 * pr + t))), (4, .int (nI (j))), (2, .int (nI (cq))), (0, .ref (a)), (1, .int (nI (40 * pr + i0)))] dM_pointsOf_96 rfl (by decide) rfl ?_
                      refine x_aload_n F 5 dM_pointsOf_97 rfl rfl ?_
                      refine x_bipush F (v := nI (40)) dM_pointsOf_98 (by decide) ?_
                      refine x_aload_n F 5 dM_pointsOf_100 rfl rfl ?_
                      refine x_get (ci := 6) F 3 (x_in inM) rfl (by decide) (x_m kfM_156) dM_pointsOf_101 h0 rfl ?_
                      refine x_imul F dM_pointsOf_104 ?_
                      refine xW.toi (nI ((40) * (pr))) (pk_mul _ _) ?_
                      refine x_iload F 2 dM_pointsOf_105 rfl ?_
                      refine yV (n := 2) (As := [.int (nI ((40) * (pr))), .int (nI (40 * pr + t))]) (ci := 6) F kmM_123 kiM_above ksM_above knM kcM_above (by decide +kernel) dM_pointsOf_107 (cM_above l (nx) M (a) th sg sn pr fk fp rws cd ds wc wd nn nE nC nK nO ln lF lC lT lO fn fC fP ak ac pt hT (40 * pr) t (by omega)) rfl h0 rfl rfl (Nat.le_of_ble_eq_true rfl) ⟨Nat.le_of_ble_eq_true rfl, Nat.le_of_ble_eq_true rfl⟩ ⟨Nat.le_of_ble_eq_true rfl, Nat.le_of_ble_eq_true rfl⟩ ?_
                      refine x_istore F [(6, .int (oj (40 * pr) (mUp ds (40 * pr) t))), (3, .int (nI (1))), (5, .int (nI (1))), (4, .int (nI (j))), (2, .int (nI (cq))), (0, .ref (a)), (1, .int (nI (40 * pr + i0)))] dM_pointsOf_110 (by decide) rfl ?_
                      refine x_goto F (tgt := 33) dM_pointsOf_112 (by decide) ?_
                      refine xW.sub [0, 2, 1, 3, 4, 5, 6] rfl ?_
                      exact ih2 (mUp ds (40 * pr) t) true true (fun u hu => by have := mUp_lt hu; omega) (by rw [← hV]; simp [c11]) (by rw [← hO]; simp [c12, c13])
                · skip
                  have c11 : (v) = false := bI_0 c11
                  refine x_aload_n F 5 dM_pointsOf_43 rfl rfl ?_
                  refine x_iload F 0 dM_pointsOf_44 rfl ?_
                  refine x_aload_n F 5 dM_pointsOf_46 rfl rfl ?_
                  refine x_get (ci := 6) F 24 (x_in inM) rfl (by decide) (x_m kfM_63) dM_pointsOf_47 h0 rfl ?_
                  refine x_iload F 3 dM_pointsOf_50 rfl ?_
                  refine x_lald F dM_pointsOf_52 h17 (pk_in (j) (6) (by omega)) ?_
                  refine xW.tol ((ak) (j)) (by rw [nI_clamp (by omega)]) ?_
                  refine yV (n := 2) (As := [.int (nI (40 * pr + t)), .long ((ak) (j))]) (ci := 6) F kmM_200 kiM_has ksM_has knM kcM_has (by decide +kernel) dM_pointsOf_53 (cM_has l (nx) M (a) th sg sn pr fk fp rws cd ds wc wd nn nE nC nK nO ln lF lC lT lO fn fC fP ak ac pt hT (40 * pr + t) (wn t) (by omega) (hwn t ht2).1 (hwn t ht2).2 (ak j)) rfl h0 rfl rfl (Nat.le_of_ble_eq_true rfl) ⟨Nat.le_of_ble_eq_true rfl, Nat.le_of_ble_eq_true rfl⟩ ⟨Nat.le_of_ble_eq_true rfl, Nat.le_of_ble_eq_true rfl⟩ ?_
                  refine x_if_eq F (tgt := 63) dM_pointsOf_56 (by decide) (fun c14 => ?_) (fun c14 => ?_)
                  · skip
                    have c14 : (mHas wd (40 * pr + t) (wn t) (ak j)) = false := bI_0 c14
                    refine x_iconst F (v := nI (0)) dM_pointsOf_63 (by decide) ?_
                    refine x_istore F [(5, .int (nI (0))), (6, .int (nI (40 * pr + t))), (3, .int (bI (o1))), (4, .int (nI (j))), (2, .int (nI (cq))), (0, .ref (a)), (1, .int (nI (40 * pr + i0)))] dM_pointsOf_64 (by decide) rfl ?_
                    refine x_iload_n F 2 dM_pointsOf_66 rfl rfl ?_
                    refine x_if_ne F (tgt := 91) dM_pointsOf_67 (by decide) (fun c15 => ?_) (fun c15 => ?_)
                    · skip
                      have c15 : (o1) = true := bI_1 c15
                      refine x_iconst F (v := nI (1)) dM_pointsOf_91 (by decide) ?_
                      refine x_goto F (tgt := 96) dM_pointsOf_92 (by decide) ?_
                      refine x_istore_n F [(3, .int (nI (1))), (5, .int (nI (0))), (6, .int (nI (40 * pr + t))), (4, .int (nI (j))), (2, .int (nI (cq))), (0, .ref (a)), (1, .int (nI (40 * pr + i0)))] dM_pointsOf_96 rfl (by decide) rfl ?_
                      refine x_aload_n F 5 dM_pointsOf_97 rfl rfl ?_
                      refine x_bipush F (v := nI (40)) dM_pointsOf_98 (by decide) ?_
                      refine x_aload_n F 5 dM_pointsOf_100 rfl rfl ?_
                      refine x_get (ci := 6) F 3 (x_in inM) rfl (by decide) (x_m kfM_156) dM_pointsOf_101 h0 rfl ?_
                      refine x_imul F dM_pointsOf_104 ?_
                      refine xW.toi (nI ((40) * (pr))) (pk_mul _ _) ?_
                      refine x_iload F 2 dM_pointsOf_105 rfl ?_
                      refine yV (n := 2) (As := [.int (nI ((40) * (pr))), .int (nI (40 * pr + t))]) (ci := 6) F kmM_123 kiM_above ksM_above knM kcM_above (by decide +kernel) dM_pointsOf_107 (cM_above l (nx) M (a) th sg sn pr fk fp rws cd ds wc wd nn nE nC nK nO ln lF lC lT lO fn fC fP ak ac pt hT (40 * pr) t (by omega)) rfl h0 rfl rfl (Nat.le_of_ble_eq_true rfl) ⟨Nat.le_of_ble_eq_true rfl, Nat.le_of_ble_eq_true rfl⟩ ⟨Nat.le_of_ble_eq_true rfl, Nat.le_of_ble_eq_true rfl⟩ ?_
                      refine x_istore F [(6, .int (oj (40 * pr) (mUp ds (40 * pr) t))), (3, .int (nI (1))), (5, .int (nI (0))), (4, .int (nI (j))), (2, .int (nI (cq))), (0, .ref (a)), (1, .int (nI (40 * pr + i0)))] dM_pointsOf_110 (by decide) rfl ?_
                      refine x_goto F (tgt := 33) dM_pointsOf_112 (by decide) ?_
                      refine xW.sub [0, 2, 1, 3, 4, 5, 6] rfl ?_
                      exact ih2 (mUp ds (40 * pr) t) false true (fun u hu => by have := mUp_lt hu; omega) (by rw [← hV]; simp [c11, c14]) (by rw [← hO]; simp [c15])
                    · skip
                      have c15 : (o1) = false := bI_0 c15
                      refine x_aload_n F 5 dM_pointsOf_70 rfl rfl ?_
                      refine x_aload_n F 5 dM_pointsOf_71 rfl rfl ?_
                      refine x_get (ci := 6) F 7 (x_in inM) rfl (by decide) (x_m kfM_20) dM_pointsOf_72 h0 rfl ?_
                      refine x_iload F 1 dM_pointsOf_75 rfl ?_
                      refine x_lald F dM_pointsOf_77 h3 (pk_in (40 * pr + t) (160) (by omega)) ?_
                      refine xW.tol ((cd) (40 * pr + t)) (by rw [nI_clamp (by omega)]) ?_
                      refine x_iconst F (v := nI (1)) dM_pointsOf_78 (by decide) ?_
                      refine x_aload_n F 5 dM_pointsOf_79 rfl rfl ?_
                      refine x_get (ci := 6) F 7 (x_in inM) rfl (by decide) (x_m kfM_20) dM_pointsOf_80 h0 rfl ?_
                      refine x_iload_n F 6 dM_pointsOf_83 rfl rfl ?_
                      refine x_lald F dM_pointsOf_84 h3 (pk_in (40 * pr + i0) (160) (by omega)) ?_
                      refine xW.tol ((cd) (40 * pr + i0)) (by rw [nI_clamp (by omega)]) ?_
                      refine yV (n := 3) (As := [.long ((cd) (40 * pr + t)), .int (nI (1)), .long ((cd) (40 * pr + i0))]) (ci := 6) F kmM_177 kiM_hasNote ksM_hasNote knM kcM_hasNote (by decide +kernel) dM_pointsOf_85 (cM_hasNote l (nx) M (a) th sg sn pr fk fp rws cd ds wc wd nn nE nC nK nO ln lF lC lT lO fn fC fP ak ac pt hT (cd (40 * pr + t)) (nI 1) (cd (40 * pr + i0))) rfl h0 rfl rfl (Nat.le_of_ble_eq_true rfl) ⟨Nat.le_of_ble_eq_true rfl, Nat.le_of_ble_eq_true rfl⟩ ⟨Nat.le_of_ble_eq_true rfl, Nat.le_of_ble_eq_true rfl⟩ ?_
                      refine x_if_eq F (tgt := 95) dM_pointsOf_88 (by decide) (fun c16 => ?_) (fun c16 => ?_)
                      · skip
                        have c16 : ((la (mNt nE nC nK nO (nI pr) (cd (40 * pr + t)) (nI 1) (cd (40 * pr + i0))) nn).isSome) = false := bI_0 c16
                        refine x_iconst F (v := nI (0)) dM_pointsOf_95 (by decide) ?_
                        refine x_istore_n F [(3, .int (nI (0))), (5, .int (nI (0))), (6, .int (nI (40 * pr + t))), (4, .int (nI (j))), (2, .int (nI (cq))), (0, .ref (a)), (1, .int (nI (40 * pr + i0)))] dM_pointsOf_96 rfl (by decide) rfl ?_
                        refine x_aload_n F 5 dM_pointsOf_97 rfl rfl ?_
                        refine x_bipush F (v := nI (40)) dM_pointsOf_98 (by decide) ?_
                        refine x_aload_n F 5 dM_pointsOf_100 rfl rfl ?_
                        refine x_get (ci := 6) F 3 (x_in inM) rfl (by decide) (x_m kfM_156) dM_pointsOf_101 h0 rfl ?_
                        refine x_imul F dM_pointsOf_104 ?_
                        refine xW.toi (nI ((40) * (pr))) (pk_mul _ _) ?_
                        refine x_iload F 2 dM_pointsOf_105 rfl ?_
                        refine yV (n := 2) (As := [.int (nI ((40) * (pr))), .int (nI (40 * pr + t))]) (ci := 6) F kmM_123 kiM_above ksM_above knM kcM_above (by decide +kernel) dM_pointsOf_107 (cM_above l (nx) M (a) th sg sn pr fk fp rws cd ds wc wd nn nE nC nK nO ln lF lC lT lO fn fC fP ak ac pt hT (40 * pr) t (by omega)) rfl h0 rfl rfl (Nat.le_of_ble_eq_true rfl) ⟨Nat.le_of_ble_eq_true rfl, Nat.le_of_ble_eq_true rfl⟩ ⟨Nat.le_of_ble_eq_true rfl, Nat.le_of_ble_eq_true rfl⟩ ?_
                        refine x_istore F [(6, .int (oj (40 * pr) (mUp ds (40 * pr) t))), (3, .int (nI (0))), (5, .int (nI (0))), (4, .int (nI (j))), (2, .int (nI (cq))), (0, .ref (a)), (1, .int (nI (40 * pr + i0)))] dM_pointsOf_110 (by decide) rfl ?_
                        refine x_goto F (tgt := 33) dM_pointsOf_112 (by decide) ?_
                        refine xW.sub [0, 2, 1, 3, 4, 5, 6] rfl ?_
                        exact ih2 (mUp ds (40 * pr) t) false false (fun u hu => by have := mUp_lt hu; omega) (by rw [← hV]; simp [c11, c14]) (by rw [← hO]; simp [c15, c16])
                      · skip
                        have c16 : ((la (mNt nE nC nK nO (nI pr) (cd (40 * pr + t)) (nI 1) (cd (40 * pr + i0))) nn).isSome) = true := bI_1 c16
                        refine x_iconst F (v := nI (1)) dM_pointsOf_91 (by decide) ?_
                        refine x_goto F (tgt := 96) dM_pointsOf_92 (by decide) ?_
                        refine x_istore_n F [(3, .int (nI (1))), (5, .int (nI (0))), (6, .int (nI (40 * pr + t))), (4, .int (nI (j))), (2, .int (nI (cq))), (0, .ref (a)), (1, .int (nI (40 * pr + i0)))] dM_pointsOf_96 rfl (by decide) rfl ?_
                        refine x_aload_n F 5 dM_pointsOf_97 rfl rfl ?_
                        refine x_bipush F (v := nI (40)) dM_pointsOf_98 (by decide) ?_
                        refine x_aload_n F 5 dM_pointsOf_100 rfl rfl ?_
                        refine x_get (ci := 6) F 3 (x_in inM) rfl (by decide) (x_m kfM_156) dM_pointsOf_101 h0 rfl ?_
                        refine x_imul F dM_pointsOf_104 ?_
                        refine xW.toi (nI ((40) * (pr))) (pk_mul _ _) ?_
                        refine x_iload F 2 dM_pointsOf_105 rfl ?_
                        refine yV (n := 2) (As := [.int (nI ((40) * (pr))), .int (nI (40 * pr + t))]) (ci := 6) F kmM_123 kiM_above ksM_above knM kcM_above (by decide +kernel) dM_pointsOf_107 (cM_above l (nx) M (a) th sg sn pr fk fp rws cd ds wc wd nn nE nC nK nO ln lF lC lT lO fn fC fP ak ac pt hT (40 * pr) t (by omega)) rfl h0 rfl rfl (Nat.le_of_ble_eq_true rfl) ⟨Nat.le_of_ble_eq_true rfl, Nat.le_of_ble_eq_true rfl⟩ ⟨Nat.le_of_ble_eq_true rfl, Nat.le_of_ble_eq_true rfl⟩ ?_
                        refine x_istore F [(6, .int (oj (40 * pr) (mUp ds (40 * pr) t))), (3, .int (nI (1))), (5, .int (nI (0))), (4, .int (nI (j))), (2, .int (nI (cq))), (0, .ref (a)), (1, .int (nI (40 * pr + i0)))] dM_pointsOf_110 (by decide) rfl ?_
                        refine x_goto F (tgt := 33) dM_pointsOf_112 (by decide) ?_
                        refine xW.sub [0, 2, 1, 3, 4, 5, 6] rfl ?_
                        exact ih2 (mUp ds (40 * pr) t) false true (fun u hu => by have := mUp_lt hu; omega) (by rw [← hV]; simp [c11, c14]) (by rw [← hO]; simp [c15, c16])
                  · skip
                    have c14 : (mHas wd (40 * pr + t) (wn t) (ak j)) = true := bI_1 c14
                    refine x_iconst F (v := nI (1)) dM_pointsOf_59 (by decide) ?_
                    refine x_goto F (tgt := 64) dM_pointsOf_60 (by decide) ?_
                    refine x_istore F [(5, .int (nI (1))), (6, .int (nI (40 * pr + t))), (3, .int (bI (o1))), (4, .int (nI (j))), (2, .int (nI (cq))), (0, .ref (a)), (1, .int (nI (40 * pr + i0)))] dM_pointsOf_64 (by decide) rfl ?_
                    refine x_iload_n F 2 dM_pointsOf_66 rfl rfl ?_
                    refine x_if_ne F (tgt := 91) dM_pointsOf_67 (by decide) (fun c17 => ?_) (fun c17 => ?_)
                    · skip
                      have c17 : (o1) = true := bI_1 c17
                      refine x_iconst F (v := nI (1)) dM_pointsOf_91 (by decide) ?_
                      refine x_goto F (tgt := 96) dM_pointsOf_92 (by decide) ?_
                      refine x_istore_n F [(3, .int (nI (1))), (5, .int (nI (1))), (6, .int (nI (40 * pr + t))), (4, .int (nI (j))), (2, .int (nI (cq))), (0, .ref (a)), (1, .int (nI (40 * pr + i0)))] dM_pointsOf_96 rfl (by decide) rfl ?_
                      refine x_aload_n F 5 dM_pointsOf_97 rfl rfl ?_
                      refine x_bipush F (v := nI (40)) dM_pointsOf_98 (by decide) ?_
                      refine x_aload_n F 5 dM_pointsOf_100 rfl rfl ?_
                      refine x_get (ci := 6) F 3 (x_in inM) rfl (by decide) (x_m kfM_156) dM_pointsOf_101 h0 rfl ?_
                      refine x_imul F dM_pointsOf_104 ?_
                      refine xW.toi (nI ((40) * (pr))) (pk_mul _ _) ?_
                      refine x_iload F 2 dM_pointsOf_105 rfl ?_
                      refine yV (n := 2) (As := [.int (nI ((40) * (pr))), .int (nI (40 * pr + t))]) (ci := 6) F kmM_123 kiM_above ksM_above knM kcM_above (by decide +kernel) dM_pointsOf_107 (cM_above l (nx) M (a) th sg sn pr fk fp rws cd ds wc wd nn nE nC nK nO ln lF lC lT lO fn fC fP ak ac pt hT (40 * pr) t (by omega)) rfl h0 rfl rfl (Nat.le_of_ble_eq_true rfl) ⟨Nat.le_of_ble_eq_true rfl, Nat.le_of_ble_eq_true rfl⟩ ⟨Nat.le_of_ble_eq_true rfl, Nat.le_of_ble_eq_true rfl⟩ ?_
                      refine x_istore F [(6, .int (oj (40 * pr) (mUp ds (40 * pr) t))), (3, .int (nI (1))), (5, .int (nI (1))), (4, .int (nI (j))), (2, .int (nI (cq))), (0, .ref (a)), (1, .int (nI (40 * pr + i0)))] dM_pointsOf_110 (by decide) rfl ?_
                      refine x_goto F (tgt := 33) dM_pointsOf_112 (by decide) ?_
                      refine xW.sub [0, 2, 1, 3, 4, 5, 6] rfl ?_
                      exact ih2 (mUp ds (40 * pr) t) true true (fun u hu => by have := mUp_lt hu; omega) (by rw [← hV]; simp [c11, c14]) (by rw [← hO]; simp [c17])
                    · skip
                      have c17 : (o1) = false := bI_0 c17
                      refine x_aload_n F 5 dM_pointsOf_70 rfl rfl ?_
                      refine x_aload_n F 5 dM_pointsOf_71 rfl rfl ?_
                      refine x_get (ci := 6) F 7 (x_in inM) rfl (by decide) (x_m kfM_20) dM_pointsOf_72 h0 rfl ?_
                      refine x_iload F 1 dM_pointsOf_75 rfl ?_
                      refine x_lald F dM_pointsOf_77 h3 (pk_in (40 * pr + t) (160) (by omega)) ?_
                      refine xW.tol ((cd) (40 * pr + t)) (by rw [nI_clamp (by omega)]) ?_
                      refine x_iconst F (v := nI (1)) dM_pointsOf_78 (by decide) ?_
                      refine x_aload_n F 5 dM_pointsOf_79 rfl rfl ?_
                      refine x_get (ci := 6) F 7 (x_in inM) rfl (by decide) (x_m kfM_20) dM_pointsOf_80 h0 rfl ?_
                      refine x_iload_n F 6 dM_pointsOf_83 rfl rfl ?_
                      refine x_lald F dM_pointsOf_84 h3 (pk_in (40 * pr + i0) (160) (by omega)) ?_
                      refine xW.tol ((cd) (40 * pr + i0)) (by rw [nI_clamp (by omega)]) ?_
                      refine yV (n := 3) (As := [.long ((cd) (40 * pr + t)), .int (nI (1)), .long ((cd) (40 * pr + i0))]) (ci := 6) F kmM_177 kiM_hasNote ksM_hasNote knM kcM_hasNote (by decide +kernel) dM_pointsOf_85 (cM_hasNote l (nx) M (a) th sg sn pr fk fp rws cd ds wc wd nn nE nC nK nO ln lF lC lT lO fn fC fP ak ac pt hT (cd (40 * pr + t)) (nI 1) (cd (40 * pr + i0))) rfl h0 rfl rfl (Nat.le_of_ble_eq_true rfl) ⟨Nat.le_of_ble_eq_true rfl, Nat.le_of_ble_eq_true rfl⟩ ⟨Nat.le_of_ble_eq_true rfl, Nat.le_of_ble_eq_true rfl⟩ ?_
                      refine x_if_eq F (tgt := 95) dM_pointsOf_88 (by decide) (fun c18 => ?_) (fun c18 => ?_)
                      · skip
                        have c18 : ((la (mNt nE nC nK nO (nI pr) (cd (40 * pr + t)) (nI 1) (cd (40 * pr + i0))) nn).isSome) = false := bI_0 c18
                        refine x_iconst F (v := nI (0)) dM_pointsOf_95 (by decide) ?_
                        refine x_istore_n F [(3, .int (nI (0))), (5, .int (nI (1))), (6, .int (nI (40 * pr + t))), (4, .int (nI (j))), (2, .int (nI (cq))), (0, .ref (a)), (1, .int (nI (40 * pr + i0)))] dM_pointsOf_96 rfl (by decide) rfl ?_
                        refine x_aload_n F 5 dM_pointsOf_97 rfl rfl ?_
                        refine x_bipush F (v := nI (40)) dM_pointsOf_98 (by decide) ?_
                        refine x_aload_n F 5 dM_pointsOf_100 rfl rfl ?_
                        refine x_get (ci := 6) F 3 (x_in inM) rfl (by decide) (x_m kfM_156) dM_pointsOf_101 h0 rfl ?_
                        refine x_imul F dM_pointsOf_104 ?_
                        refine xW.toi (nI ((40) * (pr))) (pk_mul _ _) ?_
                        refine x_iload F 2 dM_pointsOf_105 rfl ?_
                        refine yV (n := 2) (As := [.int (nI ((40) * (pr))), .int (nI (40 * pr + t))]) (ci := 6) F kmM_123 kiM_above ksM_above knM kcM_above (by decide +kernel) dM_pointsOf_107 (cM_above l (nx) M (a) th sg sn pr fk fp rws cd ds wc wd nn nE nC nK nO ln lF lC lT lO fn fC fP ak ac pt hT (40 * pr) t (by omega)) rfl h0 rfl rfl (Nat.le_of_ble_eq_true rfl) ⟨Nat.le_of_ble_eq_true rfl, Nat.le_of_ble_eq_true rfl⟩ ⟨Nat.le_of_ble_eq_true rfl, Nat.le_of_ble_eq_true rfl⟩ ?_
                        refine x_istore F [(6, .int (oj (40 * pr) (mUp ds (40 * pr) t))), (3, .int (nI (0))), (5, .int (nI (1))), (4, .int (nI (j))), (2, .int (nI (cq))), (0, .ref (a)), (1, .int (nI (40 * pr + i0)))] dM_pointsOf_110 (by decide) rfl ?_
                        refine x_goto F (tgt := 33) dM_pointsOf_112 (by decide) ?_
                        refine xW.sub [0, 2, 1, 3, 4, 5, 6] rfl ?_
                        exact ih2 (mUp ds (40 * pr) t) true false (fun u hu => by have := mUp_lt hu; omega) (by rw [← hV]; simp [c11, c14]) (by rw [← hO]; simp [c17, c18])
                      · skip
                        have c18 : ((la (mNt nE nC nK nO (nI pr) (cd (40 * pr + t)) (nI 1) (cd (40 * pr + i0))) nn).isSome) = true := bI_1 c18
                        refine x_iconst F (v := nI (1)) dM_pointsOf_91 (by decide) ?_
                        refine x_goto F (tgt := 96) dM_pointsOf_92 (by decide) ?_
                        refine x_istore_n F [(3, .int (nI (1))), (5, .int (nI (1))), (6, .int (nI (40 * pr + t))), (4, .int (nI (j))), (2, .int (nI (cq))), (0, .ref (a)), (1, .int (nI (40 * pr + i0)))] dM_pointsOf_96 rfl (by decide) rfl ?_
                        refine x_aload_n F 5 dM_pointsOf_97 rfl rfl ?_
                        refine x_bipush F (v := nI (40)) dM_pointsOf_98 (by decide) ?_
                        refine x_aload_n F 5 dM_pointsOf_100 rfl rfl ?_
                        refine x_get (ci := 6) F 3 (x_in inM) rfl (by decide) (x_m kfM_156) dM_pointsOf_101 h0 rfl ?_
                        refine x_imul F dM_pointsOf_104 ?_
                        refine xW.toi (nI ((40) * (pr))) (pk_mul _ _) ?_
                        refine x_iload F 2 dM_pointsOf_105 rfl ?_
                        refine yV (n := 2) (As := [.int (nI ((40) * (pr))), .int (nI (40 * pr + t))]) (ci := 6) F kmM_123 kiM_above ksM_above knM kcM_above (by decide +kernel) dM_pointsOf_107 (cM_above l (nx) M (a) th sg sn pr fk fp rws cd ds wc wd nn nE nC nK nO ln lF lC lT lO fn fC fP ak ac pt hT (40 * pr) t (by omega)) rfl h0 rfl rfl (Nat.le_of_ble_eq_true rfl) ⟨Nat.le_of_ble_eq_true rfl, Nat.le_of_ble_eq_true rfl⟩ ⟨Nat.le_of_ble_eq_true rfl, Nat.le_of_ble_eq_true rfl⟩ ?_
                        refine x_istore F [(6, .int (oj (40 * pr) (mUp ds (40 * pr) t))), (3, .int (nI (1))), (5, .int (nI (1))), (4, .int (nI (j))), (2, .int (nI (cq))), (0, .ref (a)), (1, .int (nI (40 * pr + i0)))] dM_pointsOf_110 (by decide) rfl ?_
                        refine x_goto F (tgt := 33) dM_pointsOf_112 (by decide) ?_
                        refine xW.sub [0, 2, 1, 3, 4, 5, 6] rfl ?_
                        exact ih2 (mUp ds (40 * pr) t) true true (fun u hu => by have := mUp_lt hu; omega) (by rw [← hV]; simp [c11, c14]) (by rw [← hO]; simp [c17, c18])
        refine xW.sub [0, 1, 4, 2, 3, 5, 6] rfl ?_
        exact loop2 40 (mUp ds (40 * pr) i0) false o (fun t ht => by have := mUp_lt ht; omega) (Bool.false_or _) rfl
  refine x_iconst F (v := nI (0)) dM_pointsOf_0 (by decide) ?_
  refine x_istore_n F [(2, .int (nI (0))), (0, .ref (a)), (1, .int (nI (40 * pr + i0)))] dM_pointsOf_1 rfl (by decide) rfl ?_
  refine x_iconst F (v := nI (0)) dM_pointsOf_2 (by decide) ?_
  refine x_istore_n F [(3, .int (nI (0))), (2, .int (nI (0))), (0, .ref (a)), (1, .int (nI (40 * pr + i0)))] dM_pointsOf_3 rfl (by decide) rfl ?_
  refine x_iconst F (v := nI (0)) dM_pointsOf_4 (by decide) ?_
  refine x_istore F [(4, .int (nI (0))), (3, .int (nI (0))), (2, .int (nI (0))), (0, .ref (a)), (1, .int (nI (40 * pr + i0)))] dM_pointsOf_5 (by decide) rfl ?_
  refine xW.sub [0, 2, 1, 3, 4] rfl ?_
  exact loop ac 0 0 false (by omega) (by omega) rfl rfl
