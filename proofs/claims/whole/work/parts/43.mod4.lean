theorem rn_all {K : Nat → Bool} {tx : Nat → Nat} {k q i : Nat} (h : i < rn K tx k q) : K (tx (q + i)) = true := by
  induction k generalizing q i with
  | zero => exact absurd h (Nat.not_lt_zero _)
  | succ k ih =>
    rw [rn_s] at h
    split at h
    · cases i with
      | zero => assumption
      | succ i =>
        have := ih (q := q + 1) (i := i) (by omega)
        rw [show q + (i + 1) = q + 1 + i by omega]; exact this
    · omega
theorem rn_end {K : Nat → Bool} {tx : Nat → Nat} {k q : Nat} (h : rn K tx k q < k) : K (tx (q + rn K tx k q)) = false := by
  induction k generalizing q with
  | zero => omega
  | succ k ih =>
    rw [rn_s] at h ⊢
    split
    · rename_i hk
      rw [if_pos hk] at h
      have := ih (q := q + 1) (by omega)
      rw [show q + (rn K tx k (q + 1) + 1) = q + 1 + rn K tx k (q + 1) by omega]; exact this
    · rename_i hk
      cases hz : K (tx q) with
      | false => simpa using hz
      | true => exact absurd hz hk
theorem hrun_min {K : Nat → Bool} (h0 : K 0 = false) (tx : Nat → Nat) {n k q : Nat} (hq : q ≤ n) : hrun K tx n k q = min k (rn K tx (n - q) q) := by
  induction k generalizing q with
  | zero => show 0 = _; omega
  | succ k ih =>
    rw [hrun_s]
    by_cases hqn : q < n
    · rw [show n - q = (n - (q + 1)) + 1 by omega, rn_s, show hx tx n q = tx q from if_pos hqn]
      split
      · rw [ih (q := q + 1) (by omega)]; omega
      · omega
    · rw [show hx tx n q = 0 from if_neg hqn, h0, show n - q = 0 by omega]
      show 0 = min (k + 1) 0
      omega
abbrev rL (tx : Nat → Nat) (n q : Nat) : Nat := rn let_ tx (n - q) q
theorem lNn_r {tx : Nat → Nat} {n q : Nat} (hq : q ≤ n) : lNn tx n q = min 8 (rL tx n q) := hrun_min rfl tx hq
theorem dN_r {tx : Nat → Nat} {n q : Nat} (hq : q ≤ n) : dN tx n q = min 10 (rn dig tx (n - q) q) := hrun_min rfl tx hq
/-- words are right up to their end -/
def mwOk (tx : Nat → Nat) (sn mo en q : Nat) (ak : Nat → Int64) : Bool := (wds tx sn mo mo 0 q ak).1 && decide (hx tx sn (wds tx sn mo mo 0 q ak).2.2.1 = en)
def mwPost (nx : Nat) (M : xH) (a : Nat) (th : Int32) (sg : Nat → Int32) (sn pr : Nat) (fk fp : Int32) (rws : Nat → Int32) (cd : Nat → Int64) (ds wc : Nat → Int32) (wd : Nat → Int64) (nn : Nat) (nE : Nat → Int32) (nC : Nat → Int64) (nK : Nat → Int32) (nO : Nat → Int64) (ln : Nat) (lF : Nat → Int32) (lC : Nat → Int64) (lT : Nat → Int32) (lO : Nat → Int64) (fn : Nat) (fC : Nat → Int64) (fP : Nat → Int32) (ak : Nat → Int64) (ac : Nat) (pt : Nat → Int32) (ok : Bool) (S : Bool × Nat × Nat × (Nat → Int64)) : xO → Nat → xH → Prop := fun r n' M' => n' = nx ∧ (∀ b, (b < a ∨ a + 18 < b) → M' b = M b) ∧ match ok with
  | true => r = some (.int (nI (S.2.2.1 + 1))) ∧ mAt M' a th sg sn pr fk fp rws cd ds wc wd nn nE nC nK nO ln lF lC lT lO fn fC fP S.2.2.2 S.2.1 pt
  | false => r = some (.int (-1)) ∧ ∃ (ak' : Nat → Int64) (ac' : Nat), mAt M' a th sg sn pr (nI 1) (nI S.2.2.1) rws cd ds wc wd nn nE nC nK nO ln lF lC lT lO fn fC fP ak' ac' pt
/-- what a row's code fails with -/
def mPre (n : Nat) (ds : Nat → Int32) : Int32 := match n with
  | 0 => nI 0
  | k + 1 => ds (120 + k) + nI 1
abbrev rM (tx : Nat → Nat) (sn q : Nat) : Nat := rn (fun c => decide (c = 45)) tx (sn - q) q
abbrev rD (tx : Nat → Nat) (sn q : Nat) : Nat := rn dig tx (sn - q) q
/-- whether the code, of r digits, is wrong below the row above it -/
def mBad (ds : Nat → Int32) (xs dg : Nat → Nat) (n m x r : Nat) : Bool := if m = 0 then ! decide (r = 2) else match la (fun j => decide (ds (120 + j) = nI m - nI 1)) n with
  | none => true
  | some j => ! mbg x r (xs j) (dg j)
def mBeh (xs dg : Nat → Nat) (n x r : Nat) : Bool := match n with
  | 0 => true
  | k + 1 => mbh x r (xs k) (dg k)
def mrc (tx : Nat → Nat) (sn : Nat) (ds : Nat → Int32) (xs dg : Nat → Nat) (n q : Nat) : Option (Nat × Nat) :=
  if rM tx sn q = 0 ∧ dig (tx q) = false then some (1, q) else
  if mPre n ds < nI (rM tx sn q) then some (2, q) else
  if n = 40 then some (5, q) else
  if 4 < rM tx sn q then some (1, q + 4) else
  if rD tx sn (q + rM tx sn q) = 0 then some (1, q + rM tx sn q) else
  if 10 < rD tx sn (q + rM tx sn q) then some (1, q + rM tx sn q + 10) else
  if rD tx sn (q + rM tx sn q) % 2 = 1 then some (1, q + rM tx sn q + rD tx sn (q + rM tx sn q)) else
  if mBad ds xs dg n (rM tx sn q) (cN tx (q + rM tx sn q) (rD tx sn (q + rM tx sn q))) (rD tx sn (q + rM tx sn q)) = true then some (3, q + rM tx sn q) else
  if mBeh xs dg n (cN tx (q + rM tx sn q) (rD tx sn (q + rM tx sn q))) (rD tx sn (q + rM tx sn q)) = false then some (4, q + rM tx sn q) else none
/-- the codes of the rows read so far -/
def mCd (cd : Nat → Int64) (xs dg : Nat → Nat) (n : Nat) : Prop := ∀ i, i < n → cd (120 + i) = lN (xs i) ∧ cdg (xs i) (dg i)
def mcPost (nx : Nat) (M : xH) (a : Nat) (th : Int32) (sg : Nat → Int32) (sn pr : Nat) (fk fp : Int32) (rws : Nat → Int32) (cd : Nat → Int64) (ds wc : Nat → Int32) (wd : Nat → Int64) (nn : Nat) (nE : Nat → Int32) (nC : Nat → Int64) (nK : Nat → Int32) (nO : Nat → Int64) (ln : Nat) (lF : Nat → Int32) (lC : Nat → Int64) (lT : Nat → Int32) (lO : Nat → Int64) (fn : Nat) (fC : Nat → Int64) (fP : Nat → Int32) (ak : Nat → Int64) (ac : Nat) (pt : Nat → Int32) (n m x : Nat) (k : Option (Nat × Nat)) : xO → Nat → xH → Prop := fun r n' M' => n' = nx ∧ (∀ b, (b < a ∨ a + 18 < b) → M' b = M b) ∧ match k with
  | none => r = some (.int (nI 1)) ∧ mAt M' a th sg sn pr fk fp rws (vp_updL cd (120 + n) (lN x)) (upd ds (120 + n) (nI m)) wc wd nn nE nC nK nO ln lF lC lT lO fn fC fP ak ac pt
  | some f => r = some (.int (nI 0)) ∧ ∃ (cd' : Nat → Int64) (ds' : Nat → Int32), (∀ i, i < 120 → cd' i = cd i ∧ ds' i = ds i) ∧ mAt M' a th sg sn pr (nI f.1) (nI f.2) rws cd' ds' wc wd nn nE nC nK nO ln lF lC lT lO fn fC fP ak ac pt
theorem cN_dg {tx : Nat → Nat} {q d : Nat} (hd : d ≤ 10) (h : ∀ i, i < d → dig (tx (q + i)) = true) : cdg (cN tx q d) d := by
  refine ⟨?_, ?_, hd⟩
  all_goals
    induction d with
    | zero => show _ ; simp [cN]
    | succ d ih =>
      have h1 := ih (by omega) (fun i hi => h i (by omega))
      have h2 := h d (by omega)
      simp [dig] at h2
      simp only [cN, Nat.pow_succ]
      omega
theorem vp_us {g : Nat → Int64} {n : Nat} {v : Int64} : vp_updL g n v n = v := by unfold vp_updL; rw [if_pos rfl]
theorem mbg_self (x d : Nat) : mbg x d x d = false := by rw [mbg, decide_eq_false (Nat.lt_irrefl d)]; rfl
theorem la_ext {P Q : Nat → Bool} {n : Nat} (h : ∀ i, i < n → P i = Q i) : la P n = la Q n := by
  induction n with
  | zero => rfl
  | succ k ih => rw [la_s, la_s, h k (by omega), ih (fun i hi => h i (by omega))]
theorem mUp_la {ds : Nat → Int32} {n m : Nat} {r : Option Nat} (hm : 0 < m ∧ m < 2 ^ 31) (h : mUp (upd ds (120 + n) (nI m)) 120 n = r) : la (fun j => decide (ds (120 + j) = nI m - nI 1)) n = r := by
  have e : upd ds (120 + n) (nI m) (120 + n) = nI m := by unfold upd; rw [if_pos rfl]
  rw [mUp, e, if_neg (fun z => by
    have := (nI_eq (a := m) (b := 0) hm.2 (by omega)).mp z
    omega)] at h
  rw [← h]
  exact la_ext (fun i hi => by rw [upd_ne (by omega)])
set_option maxHeartbeats 4000000 in
set_option maxRecDepth 100000 in
theorem cM_readsWords (l : Launch) (nx : Nat) (M : xH) (a : Nat) (th : Int32) (sg : Nat → Int32) (sn pr : Nat) (fk fp : Int32) (rws : Nat → Int32) (cd : Nat → Int64) (ds wc : Nat → Int32) (wd : Nat → Int64) (nn : Nat) (nE : Nat → Int32) (nC : Nat → Int64) (nK : Nat → Int32) (nO : Nat → Int64) (ln : Nat) (lF : Nat → Int32) (lC : Nat → Int64) (lT : Nat → Int32) (lO : Nat → Int64) (fn : Nat) (fC : Nat → Int64) (fP : Nat → Int32) (ak : Nat → Int64) (ac : Nat) (pt : Nat → Int32) (hT : mAt M a th sg sn pr fk fp rws cd ds wc wd nn nE nC nK nO ln lF lC lT lO fn fC fP ak ac pt) (tx : Nat → Nat) (hX : sAt sg tx sn) (q mo en : Nat) (hq : q ≤ sn) (hmo : 1 ≤ mo) (hmo6 : mo ≤ 6) (hen46 : 46 ≠ en) (hen97 : en < 97) : xC l xcl yM_readsWords (xw (Cond.code yM_readsWords bM_readsWords 7 (some .int))) ({ frames := 3, cells := 0, slots := 0, locals := 65 } : Room) [.ref (a), .int (nI (q)), .int (nI (mo)), .int (nI (en))] nx M (mwPost nx M a th sg sn pr fk fp rws cd ds wc wd nn nE nC nK nO ln lF lC lT lO fn fC fP ak ac pt (mwOk tx sn mo en q ak) (wds tx sn mo mo 0 q ak)) := by
  obtain ⟨h0, h1, h2, h3, h4, h5, h6, h7, h8, h9, h10, h11, h12, h13, h14, h15, h16, h17, h18, b1, b2, b3, b4, b5, b6⟩ := id hT
  refine yC (by decide) (Nat.le_of_ble_eq_true rfl) ?_
  intro p e s m args below meth c D F hr hn
  have loop : ∀ (f : Nat) (k1 q1 : Nat) (ak1 : Nat → Int64) (M1 : xH), k1 + f = mo → k1 < mo → q1 ≤ sn → wds tx sn mo mo 0 q ak = wds tx sn mo f k1 q1 ak1 → mAt M1 a th sg sn pr fk fp rws cd ds wc wd nn nE nC nK nO ln lF lC lT lO fn fC fP ak1 k1 pt → (∀ b, (b < a ∨ a + 18 < b) → M1 b = M b) → xW p l e ({ frames := 3, cells := 0, slots := 0, locals := 65 } : Room) s m args below meth c D xcl (x_A M nx) 7 (MQ below (x_Q D xcl (x_A M nx) (mwPost nx M a th sg sn pr fk fp rws cd ds wc wd nn nE nC nK nO ln lF lC lT lO fn fC fP ak ac pt (mwOk tx sn mo en q ak) (wds tx sn mo mo 0 q ak))) args s 0 0 (x_A M nx)) 0 0 (nx) M1 8 [(4, .int (nI (q1))), (0, .ref (a)), (1, .int (nI (q))), (2, .int (nI (mo))), (3, .int (nI (en)))] [] := by
    intro f
    induction f with
    | zero =>
      intro k1 q1 ak1 M1 hkf hk1 hq1 hf hT1 hfr
      exact absurd hk1 (by omega)
    | succ f ih =>
      intro k1 q1 ak1 M1 hkf hk1 hq1 hf hT1 hfr
      obtain ⟨g0, g1, g2, g3, g4, g5, g6, g7, g8, g9, g10, g11, g12, g13, g14, g15, g16, g17, g18, d1, d2, d3, d4, d5, d6⟩ := id hT1
      have hl := lNn_r (tx := tx) hq1
      have hrl : rL tx sn q1 ≤ sn - q1 := rn_le _ _ _ _
      refine x_aload_n F 1 dM_readsWords_8 rfl rfl ?_
      refine x_iload F 0 dM_readsWords_9 rfl ?_
      refine x_iconst F (v := nI (2)) dM_readsWords_11 (by decide) ?_
      refine yV (n := 2) (As := [.int (nI (q1)), .int (nI (2))]) (ci := 6) F kmM_111 kiM_run ksM_run knM kcM_run (by decide +kernel) dM_readsWords_12 (cM_run2 l (nx) M1 (a) th sg sn pr fk fp rws cd ds wc wd nn nE nC nK nO ln lF lC lT lO fn fC fP ak1 k1 pt hT1 tx hX (q1) (by omega)) rfl g0 rfl rfl (Nat.le_of_ble_eq_true rfl) ⟨Nat.le_of_ble_eq_true rfl, Nat.le_of_ble_eq_true rfl⟩ ⟨Nat.le_of_ble_eq_true rfl, Nat.le_of_ble_eq_true rfl⟩ ?_
      refine x_istore F [(5, .int (nI (rL tx sn q1))), (4, .int (nI (q1))), (0, .ref (a)), (1, .int (nI (q))), (2, .int (nI (mo))), (3, .int (nI (en)))] dM_readsWords_15 (by decide) rfl ?_
      refine x_iload F 0 dM_readsWords_17 rfl ?_
      refine x_if_eq F (tgt := 29) dM_readsWords_19 (by decide) (fun c1 => ?_) (fun c1 => ?_)
      · skip
        have c1 : rL tx sn q1 = 0 := by
          exact (nI_eq (a := rL tx sn q1) (b := 0) (by omega) (by omega)).mp c1
        refine x_aload_n F 2 dM_readsWords_29 rfl rfl ?_
        refine x_iconst F (v := nI (1)) dM_readsWords_30 (by decide) ?_
        refine x_iload F 0 dM_readsWords_31 rfl ?_
        refine x_if_ne F (tgt := 41) dM_readsWords_33 (by decide) (fun c2 => ?_) (fun c2 => ?_)
        · skip
          have c2 : rL tx sn q1 ≠ 0 := by
            have z : ¬ (rL tx sn q1 = 0) := fun zz => c2 ((nI_eq (a := rL tx sn q1) (b := 0) (by omega) (by omega)).mpr zz)
            omega
          have h8l : let_ (tx (q1 + 8)) = true := rn_all (K := let_) (i := 8) (by show 8 < rL tx sn q1; omega)
          have hx8 : hx tx sn (q1 + 8) = tx (q1 + 8) := if_pos (by omega)
          have h8b : 97 ≤ tx (q1 + 8) := by simp [let_] at h8l; exact h8l.1
          have hS8 : wds tx sn mo mo 0 q ak = (true, k1 + 1, q1 + 8, vp_updL ak1 k1 (lN (wN tx q1 8))) := by rw [hf, wds_s, show lNn tx sn q1 = 8 by omega, if_neg (by omega), if_neg (fun z => by have := z.1; omega)]
          have hen8 : ¬ hx tx sn (q1 + 8) = en := by omega
          refine x_iload F 1 dM_readsWords_41 rfl ?_
          refine x_bipush F (v := nI (8)) dM_readsWords_43 (by decide) ?_
          refine x_iadd F dM_readsWords_45 ?_
          refine xW.toi (nI (q1 + 8)) (nI_add _ _) ?_
          refine yVr (n := 2) (As := [.int (nI (1)), .int (nI (q1 + 8))]) (ci := 6) F kmM_115 kiM_fails ksM_fails knM kcM_fails (by decide +kernel) dM_readsWords_46 (cM_fails l (nx) M1 (a) th sg sn pr fk fp rws cd ds wc wd nn nE nC nK nO ln lF lC lT lO fn fC fP ak1 k1 pt hT1 (nI (1)) (nI (q1 + 8))) rfl g0 rfl rfl (Nat.le_of_ble_eq_true rfl) ⟨Nat.le_of_ble_eq_true rfl, Nat.le_of_ble_eq_true rfl⟩ ⟨Nat.le_of_ble_eq_true rfl, Nat.le_of_ble_eq_true rfl⟩ (fun r' n' M403 hp => ?_)
          obtain ⟨hr', hn', hM403, hf403⟩ := hp
          rw [hn', hr']
          obtain ⟨v403_0, v403_1, v403_2, v403_3, v403_4, v403_5, v403_6, v403_7, v403_8, v403_9, v403_10, v403_11, v403_12, v403_13, v403_14, v403_15, v403_16, v403_17, v403_18, vb403_0, vb403_1, vb403_2, vb403_3, vb403_4, vb403_5⟩ := id hM403
          show xW p l e ({ frames := 3, cells := 0, slots := 0, locals := 65 } : Room) s m args below meth c D xcl (x_A M nx) 7 (MQ below (x_Q D xcl (x_A M nx) (mwPost nx M a th sg sn pr fk fp rws cd ds wc wd nn nE nC nK nO ln lF lC lT lO fn fC fP ak ac pt (mwOk tx sn mo en q ak) (wds tx sn mo mo 0 q ak))) args s 0 0 (x_A M nx)) 0 0 (nx) M403 49 [(5, .int (nI (rL tx sn q1))), (4, .int (nI (q1))), (0, .ref (a)), (1, .int (nI (q))), (2, .int (nI (mo))), (3, .int (nI (en)))] [.int (nI (0))]
          refine x_if_eq F (tgt := 56) dM_readsWords_49 (by decide) (fun c3 => ?_) (fun c3 => ?_)
          · skip
            have c3 : 0 = 0 := by
              exact (nI_eq (a := 0) (b := 0) (by omega) (by omega)).mp c3
            refine x_iconst F (v := (-1)) dM_readsWords_56 (by decide) ?_
            exact x_iret F hr dM_readsWords_57 (by rw [show mwOk tx sn mo en q ak = false from by rw [mwOk, hS0]; rfl, hS0]; exact ⟨rfl, fun b hb => (hf403 _ (by omega)).trans ((hfr _ hb).trans (rfl)), rfl, _, _, hM403⟩)
          · skip
            have c3 : 0 ≠ 0 := by
              have z : ¬ (0 = 0) := fun zz => c3 ((nI_eq (a := 0) (b := 0) (by omega) (by omega)).mpr zz)
              omega
            exact absurd c3 (by decide)
        · skip
          have c2 : rL tx sn q1 = 0 := by
            exact (nI_eq (a := rL tx sn q1) (b := 0) (by omega) (by omega)).mp c2
          have hS0 : wds tx sn mo mo 0 q ak = (false, k1, q1, ak1) := by rw [hf, wds_s, if_pos (by omega)]
          refine x_iload F 1 dM_readsWords_36 rfl ?_
          refine x_goto F (tgt := 46) dM_readsWords_38 (by decide) ?_
          refine yVr (n := 2) (As := [.int (nI (1)), .int (nI (q1))]) (ci := 6) F kmM_115 kiM_fails ksM_fails knM kcM_fails (by decide +kernel) dM_readsWords_46 (cM_fails l (nx) M1 (a) th sg sn pr fk fp rws cd ds wc wd nn nE nC nK nO ln lF lC lT lO fn fC fP ak1 k1 pt hT1 (nI (1)) (nI (q1))) rfl g0 rfl rfl (Nat.le_of_ble_eq_true rfl) ⟨Nat.le_of_ble_eq_true rfl, Nat.le_of_ble_eq_true rfl⟩ ⟨Nat.le_of_ble_eq_true rfl, Nat.le_of_ble_eq_true rfl⟩ (fun r' n' M404 hp => ?_)
          obtain ⟨hr', hn', hM404, hf404⟩ := hp
          rw [hn', hr']
          obtain ⟨v404_0, v404_1, v404_2, v404_3, v404_4, v404_5, v404_6, v404_7, v404_8, v404_9, v404_10, v404_11, v404_12, v404_13, v404_14, v404_15, v404_16, v404_17, v404_18, vb404_0, vb404_1, vb404_2, vb404_3, vb404_4, vb404_5⟩ := id hM404
          show xW p l e ({ frames := 3, cells := 0, slots := 0, locals := 65 } : Room) s m args below meth c D xcl (x_A M nx) 7 (MQ below (x_Q D xcl (x_A M nx) (mwPost nx M a th sg sn pr fk fp rws cd ds wc wd nn nE nC nK nO ln lF lC lT lO fn fC fP ak ac pt (mwOk tx sn mo en q ak) (wds tx sn mo mo 0 q ak))) args s 0 0 (x_A M nx)) 0 0 (nx) M404 49 [(5, .int (nI (rL tx sn q1))), (4, .int (nI (q1))), (0, .ref (a)), (1, .int (nI (q))), (2, .int (nI (mo))), (3, .int (nI (en)))] [.int (nI (0))]
          refine x_if_eq F (tgt := 56) dM_readsWords_49 (by decide) (fun c4 => ?_) (fun c4 => ?_)
          · skip
            have c4 : 0 = 0 := by
              exact (nI_eq (a := 0) (b := 0) (by omega) (by omega)).mp c4
            refine x_iconst F (v := (-1)) dM_readsWords_56 (by decide) ?_
            exact x_iret F hr dM_readsWords_57 (by rw [show mwOk tx sn mo en q ak = false from by rw [mwOk, hS0]; rfl, hS0]; exact ⟨rfl, fun b hb => (hf404 _ (by omega)).trans ((hfr _ hb).trans (rfl)), rfl, _, _, hM404⟩)
          · skip
            have c4 : 0 ≠ 0 := by
              have z : ¬ (0 = 0) := fun zz => c4 ((nI_eq (a := 0) (b := 0) (by omega) (by omega)).mpr zz)
              omega
            exact absurd c4 (by decide)
      · skip
        have c1 : rL tx sn q1 ≠ 0 := by
          have z : ¬ (rL tx sn q1 = 0) := fun zz => c1 ((nI_eq (a := rL tx sn q1) (b := 0) (by omega) (by omega)).mpr zz)
          omega
        refine x_iload F 0 dM_readsWords_22 rfl ?_
        refine x_bipush F (v := nI (8)) dM_readsWords_24 (by decide) ?_
        refine x_icmp_le F (tgt := 58) dM_readsWords_26 (by decide) (fun c5 => ?_) (fun c5 => ?_)
        · skip
          have c5 : rL tx sn q1 ≤ 8 := by
            exact (nI_leI (a := rL tx sn q1) (b := 8) (by omega) (by omega)).mp c5
          have hl8 : lNn tx sn q1 = rL tx sn q1 := by omega
          refine x_aload_n F 2 dM_readsWords_58 rfl rfl ?_
          refine x_get (ci := 6) F 25 (x_in inM) rfl (by decide) (x_m kfM_129) dM_readsWords_59 g0 rfl ?_
          refine x_bipush F (v := nI (6)) dM_readsWords_62 (by decide) ?_
          refine x_icmp_ge F (tgt := 84) dM_readsWords_64 (by decide) (fun c6 => ?_) (fun c6 => ?_)
          · skip
            have c6 : 6 ≤ k1 := by
              exact (nI_leI (a := 6) (b := k1) (by omega) (by omega)).mp c6
            exact absurd c6 (by omega)
          · skip
            have c6 : k1 < 6 := by
              have z : ¬ (6 ≤ k1) := fun zz => c6 ((nI_leI (a := 6) (b := k1) (by omega) (by omega)).mpr zz)
              omega
            refine x_aload_n F 2 dM_readsWords_67 rfl rfl ?_
            refine x_get (ci := 6) F 24 (x_in inM) rfl (by decide) (x_m kfM_63) dM_readsWords_68 g0 rfl ?_
            refine x_aload_n F 2 dM_readsWords_71 rfl rfl ?_
            refine x_get (ci := 6) F 25 (x_in inM) rfl (by decide) (x_m kfM_129) dM_readsWords_72 g0 rfl ?_
            refine x_aload_n F 2 dM_readsWords_75 rfl rfl ?_
            refine x_iload F 1 dM_readsWords_76 rfl ?_
            refine x_iload F 0 dM_readsWords_78 rfl ?_
            refine yV (n := 2) (As := [.int (nI (q1)), .int (nI (rL tx sn q1))]) (ci := 6) F kmM_132 kiM_wordAt ksM_wordAt knM kcM_wordAt (by decide +kernel) dM_readsWords_80 (cM_wordAt l (nx) M1 (a) th sg sn pr fk fp rws cd ds wc wd nn nE nC nK nO ln lF lC lT lO fn fC fP ak1 k1 pt hT1 tx hX q1 (rL tx sn q1) (by omega) (fun i hi => rn_all hi)) rfl g0 rfl rfl (Nat.le_of_ble_eq_true rfl) ⟨Nat.le_of_ble_eq_true rfl, Nat.le_of_ble_eq_true rfl⟩ ⟨Nat.le_of_ble_eq_true rfl, Nat.le_of_ble_eq_true rfl⟩ ?_
            refine x_last F dM_readsWords_83 g17 (pk_in (k1) (6) (by omega)) ?_
            rw [nI_clamp (show k1 < 2 ^ 31 by omega)]
            show xW p l e ({ frames := 3, cells := 0, slots := 0, locals := 65 } : Room) s m args below meth c D xcl (x_A M nx) 7 (MQ below (x_Q D xcl (x_A M nx) (mwPost nx M a th sg sn pr fk fp rws cd ds wc wd nn nE nC nK nO ln lF lC lT lO fn fC fP ak ac pt (mwOk tx sn mo en q ak) (wds tx sn mo mo 0 q ak))) args s 0 0 (x_A M nx)) 0 0 (nx) (x_up M1 (a + 17) (.inl (.long, 6, .inr (.inl (vp_updL (ak1) (k1) (lN (wN tx q1 (rL tx sn q1)))))))) 84 [(5, .int (nI (rL tx sn q1))), (4, .int (nI (q1))), (0, .ref (a)), (1, .int (nI (q))), (2, .int (nI (mo))), (3, .int (nI (en)))] []
            refine x_aload_n F 2 dM_readsWords_84 rfl rfl ?_
            refine x_dup F dM_readsWords_85 rfl ?_
            refine x_get (ci := 6) F 25 (x_in inM) rfl (by decide) (x_m kfM_129) dM_readsWords_86 (x_up_k g0 (by omega)) rfl ?_
            refine x_iconst F (v := nI (1)) dM_readsWords_89 (by decide) ?_
            refine x_iadd F dM_readsWords_90 ?_
            refine xW.toi (nI (k1 + 1)) (nI_add _ _) ?_
            refine x_put (ci := 6) (ty := .int) F 25 (x_in inM) tM tM_ok nM rfl (by decide) (x_m kfM_129) dM_readsWords_91 rfl (by decide +kernel) rfl rfl (x_up_k g0 (by omega)) (Nat.le_of_ble_eq_true rfl) ?_
            show xW p l e ({ frames := 3, cells := 0, slots := 0, locals := 65 } : Room) s m args below meth c D xcl (x_A M nx) 7 (MQ below (x_Q D xcl (x_A M nx) (mwPost nx M a th sg sn pr fk fp rws cd ds wc wd nn nE nC nK nO ln lF lC lT lO fn fC fP ak ac pt (mwOk tx sn mo en q ak) (wds tx sn mo mo 0 q ak))) args s 0 0 (x_A M nx)) 0 0 (nx) (x_up (x_up M1 (a + 17) (.inl (.long, 6, .inr (.inl (vp_updL (ak1) (k1) (lN (wN tx q1 (rL tx sn q1)))))))) (a) (.inr (6, [.int (th), .ref (a + 1), .int (nI (sn)), .int (nI (pr)), .int (fk), .int (fp), .ref (a + 2), .ref (a + 3), .ref (a + 4), .ref (a + 5), .ref (a + 6), .int (nI (nn)), .ref (a + 7), .ref (a + 8), .ref (a + 9), .ref (a + 10), .int (nI (ln)), .ref (a + 11), .ref (a + 12), .ref (a + 13), .ref (a + 14), .int (nI (fn)), .ref (a + 15), .ref (a + 16), .ref (a + 17), .int (nI (k1 + 1)), .ref (a + 18)]))) 94 [(5, .int (nI (rL tx sn q1))), (4, .int (nI (q1))), (0, .ref (a)), (1, .int (nI (q))), (2, .int (nI (mo))), (3, .int (nI (en)))] []
            refine x_iload F 1 dM_readsWords_94 rfl ?_
            refine x_iload F 0 dM_readsWords_96 rfl ?_
            refine x_iadd F dM_readsWords_98 ?_
            refine xW.toi (nI (q1 + rL tx sn q1)) (nI_add _ _) ?_
            refine x_istore F [(4, .int (nI (q1 + rL tx sn q1))), (5, .int (nI (rL tx sn q1))), (0, .ref (a)), (1, .int (nI (q))), (2, .int (nI (mo))), (3, .int (nI (en)))] dM_readsWords_99 (by decide) rfl ?_
            refine x_iload F 0 dM_readsWords_101 rfl ?_
            refine x_aload_n F 2 dM_readsWords_103 rfl rfl ?_
            refine x_get (ci := 6) F 2 (x_in inM) rfl (by decide) (x_m kfM_83) dM_readsWords_104 x_up_s rfl ?_
            refine x_icmp_ge F (tgt := 120) dM_readsWords_107 (by decide) (fun c7 => ?_) (fun c7 => ?_)
            · skip
              have c7 : sn ≤ q1 + rL tx sn q1 := by
                exact (nI_leI (a := sn) (b := q1 + rL tx sn q1) (by omega) (by omega)).mp c7
              refine x_iconst F (v := nI (0)) dM_readsWords_120 (by decide) ?_
              refine xW.toi (nI (hx tx sn (q1 + rL tx sn q1))) (by rw [hx, if_neg (by omega)]) ?_
              have hxl : hx tx sn (q1 + rL tx sn q1) < 128 := hx_lt hX
              refine x_istore F [(6, .int (nI (hx tx sn (q1 + rL tx sn q1)))), (4, .int (nI (q1 + rL tx sn q1))), (5, .int (nI (rL tx sn q1))), (0, .ref (a)), (1, .int (nI (q))), (2, .int (nI (mo))), (3, .int (nI (en)))] dM_readsWords_121 (by decide) rfl ?_
              refine x_iload F 0 dM_readsWords_123 rfl ?_
              refine x_iload_n F 6 dM_readsWords_125 rfl rfl ?_
              refine x_icmp_ne F (tgt := 134) dM_readsWords_126 (by decide) (fun c8 => ?_) (fun c8 => ?_)
              · skip
                have c8 : hx tx sn (q1 + rL tx sn q1) ≠ en := by
                  have z : ¬ (hx tx sn (q1 + rL tx sn q1) = en) := fun zz => c8 ((nI_eq (a := hx tx sn (q1 + rL tx sn q1)) (b := en) (by omega) (by omega)).mpr zz)
                  omega
                refine x_iload F 0 dM_readsWords_134 rfl ?_
                refine x_bipush F (v := nI (46)) dM_readsWords_136 (by decide) ?_
                refine x_icmp_ne F (tgt := 149) dM_readsWords_138 (by decide) (fun c9 => ?_) (fun c9 => ?_)
                · skip
                  have c9 : hx tx sn (q1 + rL tx sn q1) ≠ 46 := by
                    have z : ¬ (hx tx sn (q1 + rL tx sn q1) = 46) := fun zz => c9 ((nI_eq (a := hx tx sn (q1 + rL tx sn q1)) (b := 46) (by omega) (by omega)).mpr zz)
                    omega
                  have hS : wds tx sn mo mo 0 q ak = (true, k1 + 1, q1 + rL tx sn q1, vp_updL ak1 k1 (lN (wN tx q1 (rL tx sn q1)))) := by rw [hf, wds_s, hl8, if_neg (by omega), if_neg (fun z => c9 z.1)]
                  refine x_aload_n F 3 dM_readsWords_149 rfl rfl ?_
                  refine x_iconst F (v := nI (1)) dM_readsWords_150 (by decide) ?_
                  refine x_iload F 1 dM_readsWords_151 rfl ?_
                  refine yVr (n := 2) (As := [.int (nI (1)), .int (nI (q1 + rL tx sn q1))]) (ci := 6) F kmM_115 kiM_fails ksM_fails knM kcM_fails (by decide +kernel) dM_readsWords_153 (cM_fails l (nx) (x_up (x_up M1 (a + 17) (.inl (.long, 6, .inr (.inl (vp_updL (ak1) (k1) (lN (wN tx q1 (rL tx sn q1)))))))) (a) (.inr (6, [.int (th), .ref (a + 1), .int (nI (sn)), .int (nI (pr)), .int (fk), .int (fp), .ref (a + 2), .ref (a + 3), .ref (a + 4), .ref (a + 5), .ref (a + 6), .int (nI (nn)), .ref (a + 7), .ref (a + 8), .ref (a + 9), .ref (a + 10), .int (nI (ln)), .ref (a + 11), .ref (a + 12), .ref (a + 13), .ref (a + 14), .int (nI (fn)), .ref (a + 15), .ref (a + 16), .ref (a + 17), .int (nI (k1 + 1)), .ref (a + 18)]))) (a) th sg sn pr fk fp rws cd ds wc wd nn nE nC nK nO ln lF lC lT lO fn fC fP (vp_updL (ak1) (k1) (lN (wN tx q1 (rL tx sn q1)))) (k1 + 1) pt ⟨x_up_s, (x_up_k (x_up_k g1 (by omega)) (by omega)), (x_up_k (x_up_k g2 (by omega)) (by omega)), (x_up_k (x_up_k g3 (by omega)) (by omega)), (x_up_k (x_up_k g4 (by omega)) (by omega)), (x_up_k (x_up_k g5 (by omega)) (by omega)), (x_up_k (x_up_k g6 (by omega)) (by omega)), (x_up_k (x_up_k g7 (by omega)) (by omega)), (x_up_k (x_up_k g8 (by omega)) (by omega)), (x_up_k (x_up_k g9 (by omega)) (by omega)), (x_up_k (x_up_k g10 (by omega)) (by omega)), (x_up_k (x_up_k g11 (by omega)) (by omega)), (x_up_k (x_up_k g12 (by omega)) (by omega)), (x_up_k (x_up_k g13 (by omega)) (by omega)), (x_up_k (x_up_k g14 (by omega)) (by omega)), (x_up_k (x_up_k g15 (by omega)) (by omega)), (x_up_k (x_up_k g16 (by omega)) (by omega)), (x_up_k x_up_s (by omega)), (x_up_k (x_up_k g18 (by omega)) (by omega)), by omega, by omega, by omega, by omega, by omega, by omega⟩ (nI (1)) (nI (q1 + rL tx sn q1))) rfl x_up_s rfl rfl (Nat.le_of_ble_eq_true rfl) ⟨Nat.le_of_ble_eq_true rfl, Nat.le_of_ble_eq_true rfl⟩ ⟨Nat.le_of_ble_eq_true rfl, Nat.le_of_ble_eq_true rfl⟩ (fun r' n' M405 hp => ?_)
                  obtain ⟨hr', hn', hM405, hf405⟩ := hp
                  rw [hn', hr']
                  obtain ⟨v405_0, v405_1, v405_2, v405_3, v405_4, v405_5, v405_6, v405_7, v405_8, v405_9, v405_10, v405_11, v405_12, v405_13, v405_14, v405_15, v405_16, v405_17, v405_18, vb405_0, vb405_1, vb405_2, vb405_3, vb405_4, vb405_5⟩ := id hM405
                  show xW p l e ({ frames := 3, cells := 0, slots := 0, locals := 65 } : Room) s m args below meth c D xcl (x_A M nx) 7 (MQ below (x_Q D xcl (x_A M nx) (mwPost nx M a th sg sn pr fk fp rws cd ds wc wd nn nE nC nK nO ln lF lC lT lO fn fC fP ak ac pt (mwOk tx sn mo en q ak) (wds tx sn mo mo 0 q ak))) args s 0 0 (x_A M nx)) 0 0 (nx) M405 156 [(6, .int (nI (hx tx sn (q1 + rL tx sn q1)))), (4, .int (nI (q1 + rL tx sn q1))), (5, .int (nI (rL tx sn q1))), (0, .ref (a)), (1, .int (nI (q))), (2, .int (nI (mo))), (3, .int (nI (en)))] [.int (nI (0))]
                  refine x_if_eq F (tgt := 163) dM_readsWords_156 (by decide) (fun c10 => ?_) (fun c10 => ?_)
                  · skip
                    have c10 : 0 = 0 := by
                      exact (nI_eq (a := 0) (b := 0) (by omega) (by omega)).mp c10
                    refine x_iconst F (v := (-1)) dM_readsWords_163 (by decide) ?_
                    exact x_iret F hr dM_readsWords_164 (by rw [show mwOk tx sn mo en q ak = false from by rw [mwOk, hS, decide_eq_false (show ¬ hx tx sn (q1 + rL tx sn q1) = en from c8)]; rfl, hS]; exact ⟨rfl, fun b hb => (hf405 _ (by omega)).trans ((x_up_n (by omega)).trans ((x_up_n (by omega)).trans ((hfr _ hb).trans (rfl)))), rfl, _, _, hM405⟩)
                  · skip
                    have c10 : 0 ≠ 0 := by
                      have z : ¬ (0 = 0) := fun zz => c10 ((nI_eq (a := 0) (b := 0) (by omega) (by omega)).mpr zz)
                      omega
                    exact absurd c10 (by decide)
                · skip
                  have c9 : hx tx sn (q1 + rL tx sn q1) = 46 := by
                    exact (nI_eq (a := hx tx sn (q1 + rL tx sn q1)) (b := 46) (by omega) (by omega)).mp c9
                  refine x_aload_n F 3 dM_readsWords_141 rfl rfl ?_
                  refine x_get (ci := 6) F 25 (x_in inM) rfl (by decide) (x_m kfM_129) dM_readsWords_142 x_up_s rfl ?_
                  refine x_iload_n F 5 dM_readsWords_145 rfl rfl ?_
                  refine x_icmp_ne F (tgt := 165) dM_readsWords_146 (by decide) (fun c11 => ?_) (fun c11 => ?_)
                  · skip
                    have c11 : k1 + 1 ≠ mo := by
                      have z : ¬ (k1 + 1 = mo) := fun zz => c11 ((nI_eq (a := k1 + 1) (b := mo) (by omega) (by omega)).mpr zz)
                      omega
                    refine x_iinc F 1 [(4, .int (nI (q1 + rL tx sn q1 + 1))), (6, .int (nI (hx tx sn (q1 + rL tx sn q1)))), (5, .int (nI (rL tx sn q1))), (0, .ref (a)), (1, .int (nI (q))), (2, .int (nI (mo))), (3, .int (nI (en)))] dM_readsWords_165 rfl (nI_add (q1 + rL tx sn q1) 1) (by decide) rfl ?_
                    refine x_goto F (tgt := 8) dM_readsWords_168 (by decide) ?_
                    refine xW.sub [0, 3, 4, 5, 6] rfl ?_
                    exact ih (k1 + 1) (q1 + rL tx sn q1 + 1) _ _ (by omega) (by omega) (by have := (hx_in (K := fun c => decide (c = 46)) rfl (tx := tx) (n := sn) (q := q1 + rL tx sn q1) (by simpa using c9)).1; omega) (by rw [hf, wds_s, hl8, if_neg (by omega), if_pos ⟨c9, c11⟩]) ⟨x_up_s, (x_up_k (x_up_k g1 (by omega)) (by omega)), (x_up_k (x_up_k g2 (by omega)) (by omega)), (x_up_k (x_up_k g3 (by omega)) (by omega)), (x_up_k (x_up_k g4 (by omega)) (by omega)), (x_up_k (x_up_k g5 (by omega)) (by omega)), (x_up_k (x_up_k g6 (by omega)) (by omega)), (x_up_k (x_up_k g7 (by omega)) (by omega)), (x_up_k (x_up_k g8 (by omega)) (by omega)), (x_up_k (x_up_k g9 (by omega)) (by omega)), (x_up_k (x_up_k g10 (by omega)) (by omega)), (x_up_k (x_up_k g11 (by omega)) (by omega)), (x_up_k (x_up_k g12 (by omega)) (by omega)), (x_up_k (x_up_k g13 (by omega)) (by omega)), (x_up_k (x_up_k g14 (by omega)) (by omega)), (x_up_k (x_up_k g15 (by omega)) (by omega)), (x_up_k (x_up_k g16 (by omega)) (by omega)), (x_up_k x_up_s (by omega)), (x_up_k (x_up_k g18 (by omega)) (by omega)), by omega, by omega, by omega, by omega, by omega, by omega⟩ (fun b hb => (x_up_n (by omega)).trans ((x_up_n (by omega)).trans ((hfr _ hb).trans (rfl))))
                  · skip
                    have c11 : k1 + 1 = mo := by
                      exact (nI_eq (a := k1 + 1) (b := mo) (by omega) (by omega)).mp c11
                    have hS : wds tx sn mo mo 0 q ak = (true, k1 + 1, q1 + rL tx sn q1, vp_updL ak1 k1 (lN (wN tx q1 (rL tx sn q1)))) := by rw [hf, wds_s, hl8, if_neg (by omega), if_neg (fun z => z.2 c11)]
                    refine x_aload_n F 3 dM_readsWords_149 rfl rfl ?_
                    refine x_iconst F (v := nI (1)) dM_readsWords_150 (by decide) ?_
                    refine x_iload F 1 dM_readsWords_151 rfl ?_
                    refine yVr (n := 2) (As := [.int (nI (1)), .int (nI (q1 + rL tx sn q1))]) (ci := 6) F kmM_115 kiM_fails ksM_fails knM kcM_fails (by decide +kernel) dM_readsWords_153 (cM_fails l (nx) (x_up (x_up M1 (a + 17) (.inl (.long, 6, .inr (.inl (vp_updL (ak1) (k1) (lN (wN tx q1 (rL tx sn q1)))))))) (a) (.inr (6, [.int (th), .ref (a + 1), .int (nI (sn)), .int (nI (pr)), .int (fk), .int (fp), .ref (a + 2), .ref (a + 3), .ref (a + 4), .ref (a + 5), .ref (a + 6), .int (nI (nn)), .ref (a + 7), .ref (a + 8), .ref (a + 9), .ref (a + 10), .int (nI (ln)), .ref (a + 11), .ref (a + 12), .ref (a + 13), .ref (a + 14), .int (nI (fn)), .ref (a + 15), .ref (a + 16), .ref (a + 17), .int (nI (k1 + 1)), .ref (a + 18)]))) (a) th sg sn pr fk fp rws cd ds wc wd nn nE nC nK nO ln lF lC lT lO fn fC fP (vp_updL (ak1) (k1) (lN (wN tx q1 (rL tx sn q1)))) (k1 + 1) pt ⟨x_up_s, (x_up_k (x_up_k g1 (by omega)) (by omega)), (x_up_k (x_up_k g2 (by omega)) (by omega)), (x_up_k (x_up_k g3 (by omega)) (by omega)), (x_up_k (x_up_k g4 (by omega)) (by omega)), (x_up_k (x_up_k g5 (by omega)) (by omega)), (x_up_k (x_up_k g6 (by omega)) (by omega)), (x_up_k (x_up_k g7 (by omega)) (by omega)), (x_up_k (x_up_k g8 (by omega)) (by omega)), (x_up_k (x_up_k g9 (by omega)) (by omega)), (x_up_k (x_up_k g10 (by omega)) (by omega)), (x_up_k (x_up_k g11 (by omega)) (by omega)), (x_up_k (x_up_k g12 (by omega)) (by omega)), (x_up_k (x_up_k g13 (by omega)) (by omega)), (x_up_k (x_up_k g14 (by omega)) (by omega)), (x_up_k (x_up_k g15 (by omega)) (by omega)), (x_up_k (x_up_k g16 (by omega)) (by omega)), (x_up_k x_up_s (by omega)), (x_up_k (x_up_k g18 (by omega)) (by omega)), by omega, by omega, by omega, by omega, by omega, by omega⟩ (nI (1)) (nI (q1 + rL tx sn q1))) rfl x_up_s rfl rfl (Nat.le_of_ble_eq_true rfl) ⟨Nat.le_of_ble_eq_true rfl, Nat.le_of_ble_eq_true rfl⟩ ⟨Nat.le_of_ble_eq_true rfl, Nat.le_of_ble_eq_true rfl⟩ (fun r' n' M406 hp => ?_)
                    obtain ⟨hr', hn', hM406, hf406⟩ := hp
                    rw [hn', hr']
                    obtain ⟨v406_0, v406_1, v406_2, v406_3, v406_4, v406_5, v406_6, v406_7, v406_8, v406_9, v406_10, v406_11, v406_12, v406_13, v406_14, v406_15, v406_16, v406_17, v406_18, vb406_0, vb406_1, vb406_2, vb406_3, vb406_4, vb406_5⟩ := id hM406
                    show xW p l e ({ frames := 3, cells := 0, slots := 0, locals := 65 } : Room) s m args below meth c D xcl (x_A M nx) 7 (MQ below (x_Q D xcl (x_A M nx) (mwPost nx M a th sg sn pr fk fp rws cd ds wc wd nn nE nC nK nO ln lF lC lT lO fn fC fP ak ac pt (mwOk tx sn mo en q ak) (wds tx sn mo mo 0 q ak))) args s 0 0 (x_A M nx)) 0 0 (nx) M406 156 [(6, .int (nI (hx tx sn (q1 + rL tx sn q1)))), (4, .int (nI (q1 + rL tx sn q1))), (5, .int (nI (rL tx sn q1))), (0, .ref (a)), (1, .int (nI (q))), (2, .int (nI (mo))), (3, .int (nI (en)))] [.int (nI (0))]
                    refine x_if_eq F (tgt := 163) dM_readsWords_156 (by decide) (fun c12 => ?_) (fun c12 => ?_)
                    · skip
                      have c12 : 0 = 0 := by
                        exact (nI_eq (a := 0) (b := 0) (by omega) (by omega)).mp c12
                      refine x_iconst F (v := (-1)) dM_readsWords_163 (by decide) ?_
                      exact x_iret F hr dM_readsWords_164 (by rw [show mwOk tx sn mo en q ak = false from by rw [mwOk, hS, decide_eq_false (show ¬ hx tx sn (q1 + rL tx sn q1) = en from c8)]; rfl, hS]; exact ⟨rfl, fun b hb => (hf406 _ (by omega)).trans ((x_up_n (by omega)).trans ((x_up_n (by omega)).trans ((hfr _ hb).trans (rfl)))), rfl, _, _, hM406⟩)
                    · skip
                      have c12 : 0 ≠ 0 := by
                        have z : ¬ (0 = 0) := fun zz => c12 ((nI_eq (a := 0) (b := 0) (by omega) (by omega)).mpr zz)
                        omega
                      exact absurd c12 (by decide)
              · skip
                have c8 : hx tx sn (q1 + rL tx sn q1) = en := by
                  exact (nI_eq (a := hx tx sn (q1 + rL tx sn q1)) (b := en) (by omega) (by omega)).mp c8
                have hS : wds tx sn mo mo 0 q ak = (true, k1 + 1, q1 + rL tx sn q1, vp_updL ak1 k1 (lN (wN tx q1 (rL tx sn q1)))) := by rw [hf, wds_s, hl8, if_neg (by omega), if_neg (fun z => hen46 (by rw [← c8]; exact z.1))]
                refine x_iload F 1 dM_readsWords_129 rfl ?_
                refine x_iconst F (v := nI (1)) dM_readsWords_131 (by decide) ?_
                refine x_iadd F dM_readsWords_132 ?_
                refine xW.toi (nI (q1 + rL tx sn q1 + 1)) (nI_add _ _) ?_
                exact x_iret F hr dM_readsWords_133 (by rw [show mwOk tx sn mo en q ak = true from by rw [mwOk, hS, decide_eq_true (show hx tx sn (q1 + rL tx sn q1) = en from c8)]; rfl, hS]; exact ⟨rfl, fun b hb => (x_up_n (by omega)).trans ((x_up_n (by omega)).trans ((hfr _ hb).trans (rfl))), rfl, ⟨x_up_s, (x_up_k (x_up_k g1 (by omega)) (by omega)), (x_up_k (x_up_k g2 (by omega)) (by omega)), (x_up_k (x_up_k g3 (by omega)) (by omega)), (x_up_k (x_up_k g4 (by omega)) (by omega)), (x_up_k (x_up_k g5 (by omega)) (by omega)), (x_up_k (x_up_k g6 (by omega)) (by omega)), (x_up_k (x_up_k g7 (by omega)) (by omega)), (x_up_k (x_up_k g8 (by omega)) (by omega)), (x_up_k (x_up_k g9 (by omega)) (by omega)), (x_up_k (x_up_k g10 (by omega)) (by omega)), (x_up_k (x_up_k g11 (by omega)) (by omega)), (x_up_k (x_up_k g12 (by omega)) (by omega)), (x_up_k (x_up_k g13 (by omega)) (by omega)), (x_up_k (x_up_k g14 (by omega)) (by omega)), (x_up_k (x_up_k g15 (by omega)) (by omega)), (x_up_k (x_up_k g16 (by omega)) (by omega)), (x_up_k x_up_s (by omega)), (x_up_k (x_up_k g18 (by omega)) (by omega)), by omega, by omega, by omega, by omega, by omega, by omega⟩⟩)
            · skip
              have c7 : q1 + rL tx sn q1 < sn := by
                have z : ¬ (sn ≤ q1 + rL tx sn q1) := fun zz => c7 ((nI_leI (a := sn) (b := q1 + rL tx sn q1) (by omega) (by omega)).mpr zz)
                omega
              refine x_aload_n F 2 dM_readsWords_110 rfl rfl ?_
              refine x_get (ci := 6) F 1 (x_in inM) rfl (by decide) (x_m kfM_7) dM_readsWords_111 x_up_s rfl ?_
              refine x_iload F 0 dM_readsWords_114 rfl ?_
              refine x_iald F dM_readsWords_116 (x_up_k (x_up_k g1 (by omega)) (by omega)) (pk_in (q1 + rL tx sn q1) (400) (by omega)) ?_
              refine xW.toi (nI (tx (q1 + rL tx sn q1))) (by rw [nI_clamp (by omega)]; exact (hX _ (by omega)).1) ?_
              refine x_goto F (tgt := 121) dM_readsWords_117 (by decide) ?_
              refine xW.toi (nI (hx tx sn (q1 + rL tx sn q1))) (by rw [hx, if_pos (by omega)]) ?_
              have hxl : hx tx sn (q1 + rL tx sn q1) < 128 := hx_lt hX
              refine x_istore F [(6, .int (nI (hx tx sn (q1 + rL tx sn q1)))), (4, .int (nI (q1 + rL tx sn q1))), (5, .int (nI (rL tx sn q1))), (0, .ref (a)), (1, .int (nI (q))), (2, .int (nI (mo))), (3, .int (nI (en)))] dM_readsWords_121 (by decide) rfl ?_
              refine x_iload F 0 dM_readsWords_123 rfl ?_
              refine x_iload_n F 6 dM_readsWords_125 rfl rfl ?_
              refine x_icmp_ne F (tgt := 134) dM_readsWords_126 (by decide) (fun c13 => ?_) (fun c13 => ?_)
              · skip
                have c13 : hx tx sn (q1 + rL tx sn q1) ≠ en := by
                  have z : ¬ (hx tx sn (q1 + rL tx sn q1) = en) := fun zz => c13 ((nI_eq (a := hx tx sn (q1 + rL tx sn q1)) (b := en) (by omega) (by omega)).mpr zz)
                  omega
                refine x_iload F 0 dM_readsWords_134 rfl ?_
                refine x_bipush F (v := nI (46)) dM_readsWords_136 (by decide) ?_
                refine x_icmp_ne F (tgt := 149) dM_readsWords_138 (by decide) (fun c14 => ?_) (fun c14 => ?_)
                · skip
                  have c14 : hx tx sn (q1 + rL tx sn q1) ≠ 46 := by
                    have z : ¬ (hx tx sn (q1 + rL tx sn q1) = 46) := fun zz => c14 ((nI_eq (a := hx tx sn (q1 + rL tx sn q1)) (b := 46) (by omega) (by omega)).mpr zz)
                    omega
                  have hS : wds tx sn mo mo 0 q ak = (true, k1 + 1, q1 + rL tx sn q1, vp_updL ak1 k1 (lN (wN tx q1 (rL tx sn q1)))) := by rw [hf, wds_s, hl8, if_neg (by omega), if_neg (fun z => c14 z.1)]
                  refine x_aload_n F 3 dM_readsWords_149 rfl rfl ?_
                  refine x_iconst F (v := nI (1)) dM_readsWords_150 (by decide) ?_
                  refine x_iload F 1 dM_readsWords_151 rfl ?_
                  refine yVr (n := 2) (As := [.int (nI (1)), .int (nI (q1 + rL tx sn q1))]) (ci := 6) F kmM_115 kiM_fails ksM_fails knM kcM_fails (by decide +kernel) dM_readsWords_153 (cM_fails l (nx) (x_up (x_up M1 (a + 17) (.inl (.long, 6, .inr (.inl (vp_updL (ak1) (k1) (lN (wN tx q1 (rL tx sn q1)))))))) (a) (.inr (6, [.int (th), .ref (a + 1), .int (nI (sn)), .int (nI (pr)), .int (fk), .int (fp), .ref (a + 2), .ref (a + 3), .ref (a + 4), .ref (a + 5), .ref (a + 6), .int (nI (nn)), .ref (a + 7), .ref (a + 8), .ref (a + 9), .ref (a + 10), .int (nI (ln)), .ref (a + 11), .ref (a + 12), .ref (a + 13), .ref (a + 14), .int (nI (fn)), .ref (a + 15), .ref (a + 16), .ref (a + 17), .int (nI (k1 + 1)), .ref (a + 18)]))) (a) th sg sn pr fk fp rws cd ds wc wd nn nE nC nK nO ln lF lC lT lO fn fC fP (vp_updL (ak1) (k1) (lN (wN tx q1 (rL tx sn q1)))) (k1 + 1) pt ⟨x_up_s, (x_up_k (x_up_k g1 (by omega)) (by omega)), (x_up_k (x_up_k g2 (by omega)) (by omega)), (x_up_k (x_up_k g3 (by omega)) (by omega)), (x_up_k (x_up_k g4 (by omega)) (by omega)), (x_up_k (x_up_k g5 (by omega)) (by omega)), (x_up_k (x_up_k g6 (by omega)) (by omega)), (x_up_k (x_up_k g7 (by omega)) (by omega)), (x_up_k (x_up_k g8 (by omega)) (by omega)), (x_up_k (x_up_k g9 (by omega)) (by omega)), (x_up_k (x_up_k g10 (by omega)) (by omega)), (x_up_k (x_up_k g11 (by omega)) (by omega)), (x_up_k (x_up_k g12 (by omega)) (by omega)), (x_up_k (x_up_k g13 (by omega)) (by omega)), (x_up_k (x_up_k g14 (by omega)) (by omega)), (x_up_k (x_up_k g15 (by omega)) (by omega)), (x_up_k (x_up_k g16 (by omega)) (by omega)), (x_up_k x_up_s (by omega)), (x_up_k (x_up_k g18 (by omega)) (by omega)), by omega, by omega, by omega, by omega, by omega, by omega⟩ (nI (1)) (nI (q1 + rL tx sn q1))) rfl x_up_s rfl rfl (Nat.le_of_ble_eq_true rfl) ⟨Nat.le_of_ble_eq_true rfl, Nat.le_of_ble_eq_true rfl⟩ ⟨Nat.le_of_ble_eq_true rfl, Nat.le_of_ble_eq_true rfl⟩ (fun r' n' M407 hp => ?_)
                  obtain ⟨hr', hn', hM407, hf407⟩ := hp
                  rw [hn', hr']
                  obtain ⟨v407_0, v407_1, v407_2, v407_3, v407_4, v407_5, v407_6, v407_7, v407_8, v407_9, v407_10, v407_11, v407_12, v407_13, v407_14, v407_15, v407_16, v407_17, v407_18, vb407_0, vb407_1, vb407_2, vb407_3, vb407_4, vb407_5⟩ := id hM407
                  show xW p l e ({ frames := 3, cells := 0, slots := 0, locals := 65 } : Room) s m args below meth c D xcl (x_A M nx) 7 (MQ below (x_Q D xcl (x_A M nx) (mwPost nx M a th sg sn pr fk fp rws cd ds wc wd nn nE nC nK nO ln lF lC lT lO fn fC fP ak ac pt (mwOk tx sn mo en q ak) (wds tx sn mo mo 0 q ak))) args s 0 0 (x_A M nx)) 0 0 (nx) M407 156 [(6, .int (nI (hx tx sn (q1 + rL tx sn q1)))), (4, .int (nI (q1 + rL tx sn q1))), (5, .int (nI (rL tx sn q1))), (0, .ref (a)), (1, .int (nI (q))), (2, .int (nI (mo))), (3, .int (nI (en)))] [.int (nI (0))]
                  refine x_if_eq F (tgt := 163) dM_readsWords_156 (by decide) (fun c15 => ?_) (fun c15 => ?_)
                  · skip
                    have c15 : 0 = 0 := by
                      exact (nI_eq (a := 0) (b := 0) (by omega) (by omega)).mp c15
                    refine x_iconst F (v := (-1)) dM_readsWords_163 (by decide) ?_
                    exact x_iret F hr dM_readsWords_164 (by rw [show mwOk tx sn mo en q ak = false from by rw [mwOk, hS, decide_eq_false (show ¬ hx tx sn (q1 + rL tx sn q1) = en from c13)]; rfl, hS]; exact ⟨rfl, fun b hb => (hf407 _ (by omega)).trans ((x_up_n (by omega)).trans ((x_up_n (by omega)).trans ((hfr _ hb).trans (rfl)))), rfl, _, _, hM407⟩)
                  · skip
                    have c15 : 0 ≠ 0 := by
                      have z : ¬ (0 = 0) := fun zz => c15 ((nI_eq (a := 0) (b := 0) (by omega) (by omega)).mpr zz)
                      omega
                    exact absurd c15 (by decide)
                · skip
                  have c14 : hx tx sn (q1 + rL tx sn q1) = 46 := by
                    exact (nI_eq (a := hx tx sn (q1 + rL tx sn q1)) (b := 46) (by omega) (by omega)).mp c14
                  refine x_aload_n F 3 dM_readsWords_141 rfl rfl ?_
                  refine x_get (ci := 6) F 25 (x_in inM) rfl (by decide) (x_m kfM_129) dM_readsWords_142 x_up_s rfl ?_
                  refine x_iload_n F 5 dM_readsWords_145 rfl rfl ?_
                  refine x_icmp_ne F (tgt := 165) dM_readsWords_146 (by decide) (fun c16 => ?_) (fun c16 => ?_)
                  · skip
                    have c16 : k1 + 1 ≠ mo := by
                      have z : ¬ (k1 + 1 = mo) := fun zz => c16 ((nI_eq (a := k1 + 1) (b := mo) (by omega) (by omega)).mpr zz)
                      omega
                    refine x_iinc F 1 [(4, .int (nI (q1 + rL tx sn q1 + 1))), (6, .int (nI (hx tx sn (q1 + rL tx sn q1)))), (5, .int (nI (rL tx sn q1))), (0, .ref (a)), (1, .int (nI (q))), (2, .int (nI (mo))), (3, .int (nI (en)))] dM_readsWords_165 rfl (nI_add (q1 + rL tx sn q1) 1) (by decide) rfl ?_
                    refine x_goto F (tgt := 8) dM_readsWords_168 (by decide) ?_
                    refine xW.sub [0, 3, 4, 5, 6] rfl ?_
                    exact ih (k1 + 1) (q1 + rL tx sn q1 + 1) _ _ (by omega) (by omega) (by have := (hx_in (K := fun c => decide (c = 46)) rfl (tx := tx) (n := sn) (q := q1 + rL tx sn q1) (by simpa using c14)).1; omega) (by rw [hf, wds_s, hl8, if_neg (by omega), if_pos ⟨c14, c16⟩]) ⟨x_up_s, (x_up_k (x_up_k g1 (by omega)) (by omega)), (x_up_k (x_up_k g2 (by omega)) (by omega)), (x_up_k (x_up_k g3 (by omega)) (by omega)), (x_up_k (x_up_k g4 (by omega)) (by omega)), (x_up_k (x_up_k g5 (by omega)) (by omega)), (x_up_k (x_up_k g6 (by omega)) (by omega)), (x_up_k (x_up_k g7 (by omega)) (by omega)), (x_up_k (x_up_k g8 (by omega)) (by omega)), (x_up_k (x_up_k g9 (by omega)) (by omega)), (x_up_k (x_up_k g10 (by omega)) (by omega)), (x_up_k (x_up_k g11 (by omega)) (by omega)), (x_up_k (x_up_k g12 (by omega)) (by omega)), (x_up_k (x_up_k g13 (by omega)) (by omega)), (x_up_k (x_up_k g14 (by omega)) (by omega)), (x_up_k (x_up_k g15 (by omega)) (by omega)), (x_up_k (x_up_k g16 (by omega)) (by omega)), (x_up_k x_up_s (by omega)), (x_up_k (x_up_k g18 (by omega)) (by omega)), by omega, by omega, by omega, by omega, by omega, by omega⟩ (fun b hb => (x_up_n (by omega)).trans ((x_up_n (by omega)).trans ((hfr _ hb).trans (rfl))))
                  · skip
                    have c16 : k1 + 1 = mo := by
                      exact (nI_eq (a := k1 + 1) (b := mo) (by omega) (by omega)).mp c16
                    have hS : wds tx sn mo mo 0 q ak = (true, k1 + 1, q1 + rL tx sn q1, vp_updL ak1 k1 (lN (wN tx q1 (rL tx sn q1)))) := by rw [hf, wds_s, hl8, if_neg (by omega), if_neg (fun z => z.2 c16)]
                    refine x_aload_n F 3 dM_readsWords_149 rfl rfl ?_
                    refine x_iconst F (v := nI (1)) dM_readsWords_150 (by decide) ?_
                    refine x_iload F 1 dM_readsWords_151 rfl ?_
                    refine yVr (n := 2) (As := [.int (nI (1)), .int (nI (q1 + rL tx sn q1))]) (ci := 6) F kmM_115 kiM_fails ksM_fails knM kcM_fails (by decide +kernel) dM_readsWords_153 (cM_fails l (nx) (x_up (x_up M1 (a + 17) (.inl (.long, 6, .inr (.inl (vp_updL (ak1) (k1) (lN (wN tx q1 (rL tx sn q1)))))))) (a) (.inr (6, [.int (th), .ref (a + 1), .int (nI (sn)), .int (nI (pr)), .int (fk), .int (fp), .ref (a + 2), .ref (a + 3), .ref (a + 4), .ref (a + 5), .ref (a + 6), .int (nI (nn)), .ref (a + 7), .ref (a + 8), .ref (a + 9), .ref (a + 10), .int (nI (ln)), .ref (a + 11), .ref (a + 12), .ref (a + 13), .ref (a + 14), .int (nI (fn)), .ref (a + 15), .ref (a + 16), .ref (a + 17), .int (nI (k1 + 1)), .ref (a + 18)]))) (a) th sg sn pr fk fp rws cd ds wc wd nn nE nC nK nO ln lF lC lT lO fn fC fP (vp_updL (ak1) (k1) (lN (wN tx q1 (rL tx sn q1)))) (k1 + 1) pt ⟨x_up_s, (x_up_k (x_up_k g1 (by omega)) (by omega)), (x_up_k (x_up_k g2 (by omega)) (by omega)), (x_up_k (x_up_k g3 (by omega)) (by omega)), (x_up_k (x_up_k g4 (by omega)) (by omega)), (x_up_k (x_up_k g5 (by omega)) (by omega)), (x_up_k (x_up_k g6 (by omega)) (by omega)), (x_up_k (x_up_k g7 (by omega)) (by omega)), (x_up_k (x_up_k g8 (by omega)) (by omega)), (x_up_k (x_up_k g9 (by omega)) (by omega)), (x_up_k (x_up_k g10 (by omega)) (by omega)), (x_up_k (x_up_k g11 (by omega)) (by omega)), (x_up_k (x_up_k g12 (by omega)) (by omega)), (x_up_k (x_up_k g13 (by omega)) (by omega)), (x_up_k (x_up_k g14 (by omega)) (by omega)), (x_up_k (x_up_k g15 (by omega)) (by omega)), (x_up_k (x_up_k g16 (by omega)) (by omega)), (x_up_k x_up_s (by omega)), (x_up_k (x_up_k g18 (by omega)) (by omega)), by omega, by omega, by omega, by omega, by omega, by omega⟩ (nI (1)) (nI (q1 + rL tx sn q1))) rfl x_up_s rfl rfl (Nat.le_of_ble_eq_true rfl) ⟨Nat.le_of_ble_eq_true rfl, Nat.le_of_ble_eq_true rfl⟩ ⟨Nat.le_of_ble_eq_true rfl, Nat.le_of_ble_eq_true rfl⟩ (fun r' n' M408 hp => ?_)
                    obtain ⟨hr', hn', hM408, hf408⟩ := hp
                    rw [hn', hr']
                    obtain ⟨v408_0, v408_1, v408_2, v408_3, v408_4, v408_5, v408_6, v408_7, v408_8, v408_9, v408_10, v408_11, v408_12, v408_13, v408_14, v408_15, v408_16, v408_17, v408_18, vb408_0, vb408_1, vb408_2, vb408_3, vb408_4, vb408_5⟩ := id hM408
                    show xW p l e ({ frames := 3, cells := 0, slots := 0, locals := 65 } : Room) s m args below meth c D xcl (x_A M nx) 7 (MQ below (x_Q D xcl (x_A M nx) (mwPost nx M a th sg sn pr fk fp rws cd ds wc wd nn nE nC nK nO ln lF lC lT lO fn fC fP ak ac pt (mwOk tx sn mo en q ak) (wds tx sn mo mo 0 q ak))) args s 0 0 (x_A M nx)) 0 0 (nx) M408 156 [(6, .int (nI (hx tx sn (q1 + rL tx sn q1)))), (4, .int (nI (q1 + rL tx sn q1))), (5, .int (nI (rL tx sn q1))), (0, .ref (a)), (1, .int (nI (q))), (2, .int (nI (mo))), (3, .int (nI (en)))] [.int (nI (0))]
                    refine x_if_eq F (tgt := 163) dM_readsWords_156 (by decide) (fun c17 => ?_) (fun c17 => ?_)
                    · skip
                      have c17 : 0 = 0 := by
                        exact (nI_eq (a := 0) (b := 0) (by omega) (by omega)).mp c17
                      refine x_iconst F (v := (-1)) dM_readsWords_163 (by decide) ?_
                      exact x_iret F hr dM_readsWords_164 (by rw [show mwOk tx sn mo en q ak = false from by rw [mwOk, hS, decide_eq_false (show ¬ hx tx sn (q1 + rL tx sn q1) = en from c13)]; rfl, hS]; exact ⟨rfl, fun b hb => (hf408 _ (by omega)).trans ((x_up_n (by omega)).trans ((x_up_n (by omega)).trans ((hfr _ hb).trans (rfl)))), rfl, _, _, hM408⟩)
                    · skip
                      have c17 : 0 ≠ 0 := by
                        have z : ¬ (0 = 0) := fun zz => c17 ((nI_eq (a := 0) (b := 0) (by omega) (by omega)).mpr zz)
                        omega
                      exact absurd c17 (by decide)
              · skip
                have c13 : hx tx sn (q1 + rL tx sn q1) = en := by
                  exact (nI_eq (a := hx tx sn (q1 + rL tx sn q1)) (b := en) (by omega) (by omega)).mp c13
                have hS : wds tx sn mo mo 0 q ak = (true, k1 + 1, q1 + rL tx sn q1, vp_updL ak1 k1 (lN (wN tx q1 (rL tx sn q1)))) := by rw [hf, wds_s, hl8, if_neg (by omega), if_neg (fun z => hen46 (by rw [← c13]; exact z.1))]
                refine x_iload F 1 dM_readsWords_129 rfl ?_
                refine x_iconst F (v := nI (1)) dM_readsWords_131 (by decide) ?_
                refine x_iadd F dM_readsWords_132 ?_
                refine xW.toi (nI (q1 + rL tx sn q1 + 1)) (nI_add _ _) ?_
                exact x_iret F hr dM_readsWords_133 (by rw [show mwOk tx sn mo en q ak = true from by rw [mwOk, hS, decide_eq_true (show hx tx sn (q1 + rL tx sn q1) = en from c13)]; rfl, hS]; exact ⟨rfl, fun b hb => (x_up_n (by omega)).trans ((x_up_n (by omega)).trans ((hfr _ hb).trans (rfl))), rfl, ⟨x_up_s, (x_up_k (x_up_k g1 (by omega)) (by omega)), (x_up_k (x_up_k g2 (by omega)) (by omega)), (x_up_k (x_up_k g3 (by omega)) (by omega)), (x_up_k (x_up_k g4 (by omega)) (by omega)), (x_up_k (x_up_k g5 (by omega)) (by omega)), (x_up_k (x_up_k g6 (by omega)) (by omega)), (x_up_k (x_up_k g7 (by omega)) (by omega)), (x_up_k (x_up_k g8 (by omega)) (by omega)), (x_up_k (x_up_k g9 (by omega)) (by omega)), (x_up_k (x_up_k g10 (by omega)) (by omega)), (x_up_k (x_up_k g11 (by omega)) (by omega)), (x_up_k (x_up_k g12 (by omega)) (by omega)), (x_up_k (x_up_k g13 (by omega)) (by omega)), (x_up_k (x_up_k g14 (by omega)) (by omega)), (x_up_k (x_up_k g15 (by omega)) (by omega)), (x_up_k (x_up_k g16 (by omega)) (by omega)), (x_up_k x_up_s (by omega)), (x_up_k (x_up_k g18 (by omega)) (by omega)), by omega, by omega, by omega, by omega, by omega, by omega⟩⟩)
        · skip
          have c5 : 8 < rL tx sn q1 := by
            have z : ¬ (rL tx sn q1 ≤ 8) := fun zz => c5 ((nI_leI (a := rL tx sn q1) (b := 8) (by omega) (by omega)).mpr zz)
            omega
          refine x_aload_n F 2 dM_readsWords_29 rfl rfl ?_
          refine x_iconst F (v := nI (1)) dM_readsWords_30 (by decide) ?_
          refine x_iload F 0 dM_readsWords_31 rfl ?_
          refine x_if_ne F (tgt := 41) dM_readsWords_33 (by decide) (fun c18 => ?_) (fun c18 => ?_)
          · skip
            have c18 : rL tx sn q1 ≠ 0 := by
              have z : ¬ (rL tx sn q1 = 0) := fun zz => c18 ((nI_eq (a := rL tx sn q1) (b := 0) (by omega) (by omega)).mpr zz)
              omega
            have h8l : let_ (tx (q1 + 8)) = true := rn_all (K := let_) (i := 8) (by show 8 < rL tx sn q1; omega)
            have hx8 : hx tx sn (q1 + 8) = tx (q1 + 8) := if_pos (by omega)
            have h8b : 97 ≤ tx (q1 + 8) := by simp [let_] at h8l; exact h8l.1
            have hS8 : wds tx sn mo mo 0 q ak = (true, k1 + 1, q1 + 8, vp_updL ak1 k1 (lN (wN tx q1 8))) := by rw [hf, wds_s, show lNn tx sn q1 = 8 by omega, if_neg (by omega), if_neg (fun z => by have := z.1; omega)]
            have hen8 : ¬ hx tx sn (q1 + 8) = en := by omega
            refine x_iload F 1 dM_readsWords_41 rfl ?_
            refine x_bipush F (v := nI (8)) dM_readsWords_43 (by decide) ?_
            refine x_iadd F dM_readsWords_45 ?_
            refine xW.toi (nI (q1 + 8)) (nI_add _ _) ?_
            refine yVr (n := 2) (As := [.int (nI (1)), .int (nI (q1 + 8))]) (ci := 6) F kmM_115 kiM_fails ksM_fails knM kcM_fails (by decide +kernel) dM_readsWords_46 (cM_fails l (nx) M1 (a) th sg sn pr fk fp rws cd ds wc wd nn nE nC nK nO ln lF lC lT lO fn fC fP ak1 k1 pt hT1 (nI (1)) (nI (q1 + 8))) rfl g0 rfl rfl (Nat.le_of_ble_eq_true rfl) ⟨Nat.le_of_ble_eq_true rfl, Nat.le_of_ble_eq_true rfl⟩ ⟨Nat.le_of_ble_eq_true rfl, Nat.le_of_ble_eq_true rfl⟩ (fun r' n' M409 hp => ?_)
            obtain ⟨hr', hn', hM409, hf409⟩ := hp
            rw [hn', hr']
            obtain ⟨v409_0, v409_1, v409_2, v409_3, v409_4, v409_5, v409_6, v409_7, v409_8, v409_9, v409_10, v409_11, v409_12, v409_13, v409_14, v409_15, v409_16, v409_17, v409_18, vb409_0, vb409_1, vb409_2, vb409_3, vb409_4, vb409_5⟩ := id hM409
            show xW p l e ({ frames := 3, cells := 0, slots := 0, locals := 65 } : Room) s m args below meth c D xcl (x_A M nx) 7 (MQ below (x_Q D xcl (x_A M nx) (mwPost nx M a th sg sn pr fk fp rws cd ds wc wd nn nE nC nK nO ln lF lC lT lO fn fC fP ak ac pt (mwOk tx sn mo en q ak) (wds tx sn mo mo 0 q ak))) args s 0 0 (x_A M nx)) 0 0 (nx) M409 49 [(5, .int (nI (rL tx sn q1))), (4, .int (nI (q1))), (0, .ref (a)), (1, .int (nI (q))), (2, .int (nI (mo))), (3, .int (nI (en)))] [.int (nI (0))]
            refine x_if_eq F (tgt := 56) dM_readsWords_49 (by decide) (fun c19 => ?_) (fun c19 => ?_)
            · skip
              have c19 : 0 = 0 := by
                exact (nI_eq (a := 0) (b := 0) (by omega) (by omega)).mp c19
              refine x_iconst F (v := (-1)) dM_readsWords_56 (by decide) ?_
              exact x_iret F hr dM_readsWords_57 (by rw [show mwOk tx sn mo en q ak = false from by rw [mwOk, hS8, decide_eq_false hen8]; rfl, hS8]; exact ⟨rfl, fun b hb => (hf409 _ (by omega)).trans ((hfr _ hb).trans (rfl)), rfl, _, _, hM409⟩)
            · skip
              have c19 : 0 ≠ 0 := by
                have z : ¬ (0 = 0) := fun zz => c19 ((nI_eq (a := 0) (b := 0) (by omega) (by omega)).mpr zz)
                omega
              exact absurd c19 (by decide)
          · skip
            have c18 : rL tx sn q1 = 0 := by
              exact (nI_eq (a := rL tx sn q1) (b := 0) (by omega) (by omega)).mp c18
            have hS0 : wds tx sn mo mo 0 q ak = (false, k1, q1, ak1) := by rw [hf, wds_s, if_pos (by omega)]
            refine x_iload F 1 dM_readsWords_36 rfl ?_
            refine x_goto F (tgt := 46) dM_readsWords_38 (by decide) ?_
            refine yVr (n := 2) (As := [.int (nI (1)), .int (nI (q1))]) (ci := 6) F kmM_115 kiM_fails ksM_fails knM kcM_fails (by decide +kernel) dM_readsWords_46 (cM_fails l (nx) M1 (a) th sg sn pr fk fp rws cd ds wc wd nn nE nC nK nO ln lF lC lT lO fn fC fP ak1 k1 pt hT1 (nI (1)) (nI (q1))) rfl g0 rfl rfl (Nat.le_of_ble_eq_true rfl) ⟨Nat.le_of_ble_eq_true rfl, Nat.le_of_ble_eq_true rfl⟩ ⟨Nat.le_of_ble_eq_true rfl, Nat.le_of_ble_eq_true rfl⟩ (fun r' n' M410 hp => ?_)
            obtain ⟨hr', hn', hM410, hf410⟩ := hp
            rw [hn', hr']
            obtain ⟨v410_0, v410_1, v410_2, v410_3, v410_4, v410_5, v410_6, v410_7, v410_8, v410_9, v410_10, v410_11, v410_12, v410_13, v410_14, v410_15, v410_16, v410_17, v410_18, vb410_0, vb410_1, vb410_2, vb410_3, vb410_4, vb410_5⟩ := id hM410
            show xW p l e ({ frames := 3, cells := 0, slots := 0, locals := 65 } : Room) s m args below meth c D xcl (x_A M nx) 7 (MQ below (x_Q D xcl (x_A M nx) (mwPost nx M a th sg sn pr fk fp rws cd ds wc wd nn nE nC nK nO ln lF lC lT lO fn fC fP ak ac pt (mwOk tx sn mo en q ak) (wds tx sn mo mo 0 q ak))) args s 0 0 (x_A M nx)) 0 0 (nx) M410 49 [(5, .int (nI (rL tx sn q1))), (4, .int (nI (q1))), (0, .ref (a)), (1, .int (nI (q))), (2, .int (nI (mo))), (3, .int (nI (en)))] [.int (nI (0))]
            refine x_if_eq F (tgt := 56) dM_readsWords_49 (by decide) (fun c20 => ?_) (fun c20 => ?_)
            · skip
              have c20 : 0 = 0 := by
                exact (nI_eq (a := 0) (b := 0) (by omega) (by omega)).mp c20
              refine x_iconst F (v := (-1)) dM_readsWords_56 (by decide) ?_
              exact x_iret F hr dM_readsWords_57 (by rw [show mwOk tx sn mo en q ak = false from by rw [mwOk, hS8, decide_eq_false hen8]; rfl, hS8]; exact ⟨rfl, fun b hb => (hf410 _ (by omega)).trans ((hfr _ hb).trans (rfl)), rfl, _, _, hM410⟩)
            · skip
              have c20 : 0 ≠ 0 := by
                have z : ¬ (0 = 0) := fun zz => c20 ((nI_eq (a := 0) (b := 0) (by omega) (by omega)).mpr zz)
                omega
              exact absurd c20 (by decide)
  refine x_iload_n F 1 dM_readsWords_0 rfl rfl ?_
  refine x_istore F [(4, .int (nI (q))), (0, .ref (a)), (1, .int (nI (q))), (2, .int (nI (mo))), (3, .int (nI (en)))] dM_readsWords_1 (by decide) rfl ?_
  refine x_aload_n F 1 dM_readsWords_3 rfl rfl ?_
  refine x_iconst F (v := nI (0)) dM_readsWords_4 (by decide) ?_
  refine x_put (ci := 6) (ty := .int) F 25 (x_in inM) tM tM_ok nM rfl (by decide) (x_m kfM_129) dM_readsWords_5 rfl (by decide +kernel) rfl rfl h0 (Nat.le_of_ble_eq_true rfl) ?_
  show xW p l e ({ frames := 3, cells := 0, slots := 0, locals := 65 } : Room) s m args below meth c D xcl (x_A M nx) 7 (MQ below (x_Q D xcl (x_A M nx) (mwPost nx M a th sg sn pr fk fp rws cd ds wc wd nn nE nC nK nO ln lF lC lT lO fn fC fP ak ac pt (mwOk tx sn mo en q ak) (wds tx sn mo mo 0 q ak))) args s 0 0 (x_A M nx)) 0 0 (nx) (x_up M (a) (.inr (6, [.int (th), .ref (a + 1), .int (nI (sn)), .int (nI (pr)), .int (fk), .int (fp), .ref (a + 2), .ref (a + 3), .ref (a + 4), .ref (a + 5), .ref (a + 6), .int (nI (nn)), .ref (a + 7), .ref (a + 8), .ref (a + 9), .ref (a + 10), .int (nI (ln)), .ref (a + 11), .ref (a + 12), .ref (a + 13), .ref (a + 14), .int (nI (fn)), .ref (a + 15), .ref (a + 16), .ref (a + 17), .int (nI (0)), .ref (a + 18)]))) 8 [(4, .int (nI (q))), (0, .ref (a)), (1, .int (nI (q))), (2, .int (nI (mo))), (3, .int (nI (en)))] []
  exact loop mo 0 q ak _ (by omega) (by omega) hq rfl ⟨x_up_s, (x_up_k h1 (by omega)), (x_up_k h2 (by omega)), (x_up_k h3 (by omega)), (x_up_k h4 (by omega)), (x_up_k h5 (by omega)), (x_up_k h6 (by omega)), (x_up_k h7 (by omega)), (x_up_k h8 (by omega)), (x_up_k h9 (by omega)), (x_up_k h10 (by omega)), (x_up_k h11 (by omega)), (x_up_k h12 (by omega)), (x_up_k h13 (by omega)), (x_up_k h14 (by omega)), (x_up_k h15 (by omega)), (x_up_k h16 (by omega)), (x_up_k h17 (by omega)), (x_up_k h18 (by omega)), by omega, by omega, by omega, by omega, by omega, by omega⟩ (fun b hb => (x_up_n (by omega)).trans (rfl))
set_option maxHeartbeats 4000000 in
set_option maxRecDepth 100000 in
theorem cM_readsCode (l : Launch) (nx : Nat) (M : xH) (a : Nat) (th : Int32) (sg : Nat → Int32) (sn pr : Nat) (fk fp : Int32) (rws : Nat → Int32) (cd : Nat → Int64) (ds wc : Nat → Int32) (wd : Nat → Int64) (nn : Nat) (nE : Nat → Int32) (nC : Nat → Int64) (nK : Nat → Int32) (nO : Nat → Int64) (ln : Nat) (lF : Nat → Int32) (lC : Nat → Int64) (lT : Nat → Int32) (lO : Nat → Int64) (fn : Nat) (fC : Nat → Int64) (fP : Nat → Int32) (ak : Nat → Int64) (ac : Nat) (pt : Nat → Int32) (hT : mAt M a th sg sn pr fk fp rws cd ds wc wd nn nE nC nK nO ln lF lC lT lO fn fC fP ak ac pt) (tx : Nat → Nat) (hX : sAt sg tx sn) (rw : Nat → Nat) (hrw : mR rws rw) (n q : Nat) (hn3 : rws 3 = nI n) (hn40 : n ≤ 40) (hq : q < sn) (xs dg : Nat → Nat) (hcd : mCd cd xs dg n) : xC l xcl yM_readsCode (xw (Cond.code yM_readsCode bM_readsCode 8 (some .boolean))) ({ frames := 4, cells := 0, slots := 0, locals := 96 } : Room) [.ref (a), .int (nI (q))] nx M (mcPost nx M a th sg sn pr fk fp rws cd ds wc wd nn nE nC nK nO ln lF lC lT lO fn fC fP ak ac pt n (rM tx sn q) (cN tx (q + rM tx sn q) (rD tx sn (q + rM tx sn q))) (mrc tx sn ds xs dg n q)) := by
  obtain ⟨h0, h1, h2, h3, h4, h5, h6, h7, h8, h9, h10, h11, h12, h13, h14, h15, h16, h17, h18, b1, b2, b3, b4, b5, b6⟩ := id hT
  refine yC (by decide) (Nat.le_of_ble_eq_true rfl) ?_
  intro p e s m args below meth c D F hr hn
  refine x_aload_n F 0 dM_readsCode_0 rfl rfl ?_
  refine x_get (ci := 6) F 6 (x_in inM) rfl (by decide) (x_m kfM_17) dM_readsCode_1 h0 rfl ?_
  refine x_iconst F (v := nI (3)) dM_readsCode_4 (by decide) ?_
  refine x_iald F dM_readsCode_5 h2 (pk_in (3) (4) (by omega)) ?_
  refine xW.toi (nI (n)) (by rw [nI_clamp (by omega)]; exact hn3) ?_
  refine x_istore_n F [(2, .int (nI (n))), (0, .ref (a)), (1, .int (nI (q)))] dM_readsCode_6 rfl (by decide) rfl ?_
  refine x_bipush F (v := nI (120)) dM_readsCode_7 (by decide) ?_
  refine x_iload_n F 0 dM_readsCode_9 rfl rfl ?_
  refine x_iadd F dM_readsCode_10 ?_
  refine xW.toi (nI (120 + n)) (nI_add _ _) ?_
  refine x_istore_n F [(3, .int (nI (120 + n))), (2, .int (nI (n))), (0, .ref (a)), (1, .int (nI (q)))] dM_readsCode_11 rfl (by decide) rfl ?_
  refine x_aload_n F 2 dM_readsCode_12 rfl rfl ?_
  refine x_iload_n F 3 dM_readsCode_13 rfl rfl ?_
  refine x_iconst F (v := nI (0)) dM_readsCode_14 (by decide) ?_
  refine yV (n := 2) (As := [.int (nI (q)), .int (nI (0))]) (ci := 6) F kmM_111 kiM_run ksM_run knM kcM_run (by decide +kernel) dM_readsCode_15 (cM_run0 l (nx) M (a) th sg sn pr fk fp rws cd ds wc wd nn nE nC nK nO ln lF lC lT lO fn fC fP ak ac pt hT tx hX (q) (by omega)) rfl h0 rfl rfl (Nat.le_of_ble_eq_true rfl) ⟨Nat.le_of_ble_eq_true rfl, Nat.le_of_ble_eq_true rfl⟩ ⟨Nat.le_of_ble_eq_true rfl, Nat.le_of_ble_eq_true rfl⟩ ?_
  refine x_istore F [(4, .int (nI (rM tx sn q))), (3, .int (nI (120 + n))), (2, .int (nI (n))), (0, .ref (a)), (1, .int (nI (q)))] dM_readsCode_18 (by decide) rfl ?_
  refine x_iload_n F 4 dM_readsCode_20 rfl rfl ?_
  refine x_iload F 0 dM_readsCode_21 rfl ?_
  refine x_iadd F dM_readsCode_23 ?_
  refine xW.toi (nI (q + rM tx sn q)) (nI_add _ _) ?_
  refine x_istore F [(5, .int (nI (q + rM tx sn q))), (4, .int (nI (rM tx sn q))), (3, .int (nI (120 + n))), (2, .int (nI (n))), (0, .ref (a)), (1, .int (nI (q)))] dM_readsCode_24 (by decide) rfl ?_
  have hml : rM tx sn q ≤ sn - q := rn_le _ _ _ _
  refine x_iload F 1 dM_readsCode_26 rfl ?_
  refine x_if_ne F (tgt := 50) dM_readsCode_28 (by decide) (fun c1 => ?_) (fun c1 => ?_)
  · skip
    have c1 : rM tx sn q ≠ 0 := by
      have z : ¬ (rM tx sn q = 0) := fun zz => c1 ((nI_eq (a := rM tx sn q) (b := 0) (by omega) (by omega)).mpr zz)
      omega
    refine x_iload F 1 dM_readsCode_50 rfl ?_
    refine x_iload_n F 3 dM_readsCode_52 rfl rfl ?_
    refine x_if_ne F (tgt := 60) dM_readsCode_53 (by decide) (fun c2 => ?_) (fun c2 => ?_)
    · skip
      have c2 : n ≠ 0 := by
        have z : ¬ (n = 0) := fun zz => c2 ((nI_eq (a := n) (b := 0) (by omega) (by omega)).mpr zz)
        omega
      obtain ⟨n0, hn1⟩ : ∃ n0, n = n0 + 1 := ⟨n - 1, by omega⟩
      refine x_aload_n F 4 dM_readsCode_60 rfl rfl ?_
      refine x_get (ci := 6) F 8 (x_in inM) rfl (by decide) (x_m kfM_24) dM_readsCode_61 h0 rfl ?_
      refine x_iload_n F 2 dM_readsCode_64 rfl rfl ?_
      refine x_iconst F (v := nI (1)) dM_readsCode_65 (by decide) ?_
      refine x_isub F dM_readsCode_66 ?_
      refine xW.toi (nI (120 + n0)) (by rw [hn1]; exact nI_pred (120 + n0)) ?_
      refine x_iald F dM_readsCode_67 h4 (pk_in (120 + n0) (160) (by omega)) ?_
      refine xW.toi (ds (120 + n0)) (by rw [nI_clamp (by omega)]; exact rfl) ?_
      refine x_iconst F (v := nI (1)) dM_readsCode_68 (by decide) ?_
      refine x_iadd F dM_readsCode_69 ?_
      refine xW.toi (ds (120 + n0) + nI 1) (rfl) ?_
      refine xW.toi (mPre n ds) (by rw [hn1]; rfl) ?_
      refine x_icmp_le F (tgt := 80) dM_readsCode_70 (by decide) (fun c3 => ?_) (fun c3 => ?_)
      · skip
        have h70 : ¬ mPre n ds < nI (rM tx sn q) := Int32.not_lt.mpr c3
        refine x_iload_n F 3 dM_readsCode_80 rfl rfl ?_
        refine x_bipush F (v := nI (40)) dM_readsCode_81 (by decide) ?_
        refine x_icmp_ne F (tgt := 93) dM_readsCode_83 (by decide) (fun c4 => ?_) (fun c4 => ?_)
        · skip
          have c4 : n ≠ 40 := by
            have z : ¬ (n = 40) := fun zz => c4 ((nI_eq (a := n) (b := 40) (by omega) (by omega)).mpr zz)
            omega
          refine x_iload F 1 dM_readsCode_93 rfl ?_
          refine x_iconst F (v := nI (4)) dM_readsCode_95 (by decide) ?_
          refine x_icmp_le F (tgt := 108) dM_readsCode_96 (by decide) (fun c5 => ?_) (fun c5 => ?_)
          · skip
            have c5 : rM tx sn q ≤ 4 := by
              exact (nI_leI (a := rM tx sn q) (b := 4) (by omega) (by omega)).mp c5
            refine x_aload_n F 4 dM_readsCode_108 rfl rfl ?_
            refine x_iload F 0 dM_readsCode_109 rfl ?_
            refine x_iconst F (v := nI (1)) dM_readsCode_111 (by decide) ?_
            refine yV (n := 2) (As := [.int (nI (q + rM tx sn q)), .int (nI (1))]) (ci := 6) F kmM_111 kiM_run ksM_run knM kcM_run (by decide +kernel) dM_readsCode_112 (cM_run1 l (nx) M (a) th sg sn pr fk fp rws cd ds wc wd nn nE nC nK nO ln lF lC lT lO fn fC fP ak ac pt hT tx hX (q + rM tx sn q) (by omega)) rfl h0 rfl rfl (Nat.le_of_ble_eq_true rfl) ⟨Nat.le_of_ble_eq_true rfl, Nat.le_of_ble_eq_true rfl⟩ ⟨Nat.le_of_ble_eq_true rfl, Nat.le_of_ble_eq_true rfl⟩ ?_
            refine x_istore F [(6, .int (nI (rD tx sn (q + rM tx sn q)))), (5, .int (nI (q + rM tx sn q))), (4, .int (nI (rM tx sn q))), (3, .int (nI (120 + n))), (2, .int (nI (n))), (0, .ref (a)), (1, .int (nI (q)))] dM_readsCode_115 (by decide) rfl ?_
            have hrl : rD tx sn (q + rM tx sn q) ≤ sn - (q + rM tx sn q) := rn_le _ _ _ _
            refine x_iload F 0 dM_readsCode_117 rfl ?_
            refine x_if_ne F (tgt := 130) dM_readsCode_119 (by decide) (fun c6 => ?_) (fun c6 => ?_)
            · skip
              have c6 : rD tx sn (q + rM tx sn q) ≠ 0 := by
                have z : ¬ (rD tx sn (q + rM tx sn q) = 0) := fun zz => c6 ((nI_eq (a := rD tx sn (q + rM tx sn q)) (b := 0) (by omega) (by omega)).mpr zz)
                omega
              refine x_iload F 0 dM_readsCode_130 rfl ?_
              refine x_bipush F (v := nI (10)) dM_readsCode_132 (by decide) ?_
              refine x_icmp_gt F (tgt := 145) dM_readsCode_134 (by decide) (fun c7 => ?_) (fun c7 => ?_)
              · skip
                have c7 : 10 < rD tx sn (q + rM tx sn q) := by
                  exact (nI_ltI (a := 10) (b := rD tx sn (q + rM tx sn q)) (by omega) (by omega)).mp c7
                refine x_aload_n F 5 dM_readsCode_145 rfl rfl ?_
                refine x_iconst F (v := nI (1)) dM_readsCode_146 (by decide) ?_
                refine x_iload F 0 dM_readsCode_147 rfl ?_
                refine x_bipush F (v := nI (10)) dM_readsCode_149 (by decide) ?_
                refine x_icmp_le F (tgt := 162) dM_readsCode_151 (by decide) (fun c8 => ?_) (fun c8 => ?_)
                · skip
                  have c8 : rD tx sn (q + rM tx sn q) ≤ 10 := by
                    exact (nI_leI (a := rD tx sn (q + rM tx sn q)) (b := 10) (by omega) (by omega)).mp c8
                  refine x_iload F 1 dM_readsCode_162 rfl ?_
                  refine x_iload F 0 dM_readsCode_164 rfl ?_
                  refine x_iadd F dM_readsCode_166 ?_
                  refine xW.toi (nI (q + rM tx sn q + rD tx sn (q + rM tx sn q))) (nI_add _ _) ?_
                  refine yVr (n := 2) (As := [.int (nI (1)), .int (nI (q + rM tx sn q + rD tx sn (q + rM tx sn q)))]) (ci := 6) F kmM_115 kiM_fails ksM_fails knM kcM_fails (by decide +kernel) dM_readsCode_167 (cM_fails l (nx) M (a) th sg sn pr fk fp rws cd ds wc wd nn nE nC nK nO ln lF lC lT lO fn fC fP ak ac pt hT (nI (1)) (nI (q + rM tx sn q + rD tx sn (q + rM tx sn q)))) rfl h0 rfl rfl (Nat.le_of_ble_eq_true rfl) ⟨Nat.le_of_ble_eq_true rfl, Nat.le_of_ble_eq_true rfl⟩ ⟨Nat.le_of_ble_eq_true rfl, Nat.le_of_ble_eq_true rfl⟩ (fun r' n' M516 hp => ?_)
                  obtain ⟨hr', hn', hM516, hf516⟩ := hp
                  rw [hn', hr']
                  obtain ⟨v516_0, v516_1, v516_2, v516_3, v516_4, v516_5, v516_6, v516_7, v516_8, v516_9, v516_10, v516_11, v516_12, v516_13, v516_14, v516_15, v516_16, v516_17, v516_18, vb516_0, vb516_1, vb516_2, vb516_3, vb516_4, vb516_5⟩ := id hM516
                  show xW p l e ({ frames := 4, cells := 0, slots := 0, locals := 96 } : Room) s m args below meth c D xcl (x_A M nx) 8 (MQ below (x_Q D xcl (x_A M nx) (mcPost nx M a th sg sn pr fk fp rws cd ds wc wd nn nE nC nK nO ln lF lC lT lO fn fC fP ak ac pt n (rM tx sn q) (cN tx (q + rM tx sn q) (rD tx sn (q + rM tx sn q))) (mrc tx sn ds xs dg n q))) args s 0 0 (x_A M nx)) 0 0 (nx) M516 170 [(6, .int (nI (rD tx sn (q + rM tx sn q)))), (5, .int (nI (q + rM tx sn q))), (4, .int (nI (rM tx sn q))), (3, .int (nI (120 + n))), (2, .int (nI (n))), (0, .ref (a)), (1, .int (nI (q)))] [.int (nI (0))]
                  exact x_zret F hr (by rfl) dM_readsCode_170 (by rw [show mrc tx sn ds xs dg n q = some (1, q + rM tx sn q + 10) from by rw [mrc, if_neg (fun z => c1 z.1), if_neg h70, if_neg c4, if_neg (by omega), if_neg c6, if_pos c7]]; exact ⟨rfl, fun b hb => (hf516 _ (by omega)).trans (rfl), rfl, _, _, (fun i hi => ⟨rfl, rfl⟩), hM516⟩)
                · skip
                  have c8 : 10 < rD tx sn (q + rM tx sn q) := by
                    have z : ¬ (rD tx sn (q + rM tx sn q) ≤ 10) := fun zz => c8 ((nI_leI (a := rD tx sn (q + rM tx sn q)) (b := 10) (by omega) (by omega)).mpr zz)
                    omega
                  refine x_iload F 1 dM_readsCode_154 rfl ?_
                  refine x_bipush F (v := nI (10)) dM_readsCode_156 (by decide) ?_
                  refine x_iadd F dM_readsCode_158 ?_
                  refine xW.toi (nI (q + rM tx sn q + 10)) (nI_add _ _) ?_
                  refine x_goto F (tgt := 167) dM_readsCode_159 (by decide) ?_
                  refine yVr (n := 2) (As := [.int (nI (1)), .int (nI (q + rM tx sn q + 10))]) (ci := 6) F kmM_115 kiM_fails ksM_fails knM kcM_fails (by decide +kernel) dM_readsCode_167 (cM_fails l (nx) M (a) th sg sn pr fk fp rws cd ds wc wd nn nE nC nK nO ln lF lC lT lO fn fC fP ak ac pt hT (nI (1)) (nI (q + rM tx sn q + 10))) rfl h0 rfl rfl (Nat.le_of_ble_eq_true rfl) ⟨Nat.le_of_ble_eq_true rfl, Nat.le_of_ble_eq_true rfl⟩ ⟨Nat.le_of_ble_eq_true rfl, Nat.le_of_ble_eq_true rfl⟩ (fun r' n' M517 hp => ?_)
                  obtain ⟨hr', hn', hM517, hf517⟩ := hp
                  rw [hn', hr']
                  obtain ⟨v517_0, v517_1, v517_2, v517_3, v517_4, v517_5, v517_6, v517_7, v517_8, v517_9, v517_10, v517_11, v517_12, v517_13, v517_14, v517_15, v517_16, v517_17, v517_18, vb517_0, vb517_1, vb517_2, vb517_3, vb517_4, vb517_5⟩ := id hM517
                  show xW p l e ({ frames := 4, cells := 0, slots := 0, locals := 96 } : Room) s m args below meth c D xcl (x_A M nx) 8 (MQ below (x_Q D xcl (x_A M nx) (mcPost nx M a th sg sn pr fk fp rws cd ds wc wd nn nE nC nK nO ln lF lC lT lO fn fC fP ak ac pt n (rM tx sn q) (cN tx (q + rM tx sn q) (rD tx sn (q + rM tx sn q))) (mrc tx sn ds xs dg n q))) args s 0 0 (x_A M nx)) 0 0 (nx) M517 170 [(6, .int (nI (rD tx sn (q + rM tx sn q)))), (5, .int (nI (q + rM tx sn q))), (4, .int (nI (rM tx sn q))), (3, .int (nI (120 + n))), (2, .int (nI (n))), (0, .ref (a)), (1, .int (nI (q)))] [.int (nI (0))]
                  exact x_zret F hr (by rfl) dM_readsCode_170 (by rw [show mrc tx sn ds xs dg n q = some (1, q + rM tx sn q + 10) from by rw [mrc, if_neg (fun z => c1 z.1), if_neg h70, if_neg c4, if_neg (by omega), if_neg c6, if_pos c7]]; exact ⟨rfl, fun b hb => (hf517 _ (by omega)).trans (rfl), rfl, _, _, (fun i hi => ⟨rfl, rfl⟩), hM517⟩)
              · skip
                have c7 : rD tx sn (q + rM tx sn q) ≤ 10 := by
                  have z : ¬ (10 < rD tx sn (q + rM tx sn q)) := fun zz => c7 ((nI_ltI (a := 10) (b := rD tx sn (q + rM tx sn q)) (by omega) (by omega)).mpr zz)
                  omega
                refine x_iload F 0 dM_readsCode_137 rfl ?_
                refine x_iconst F (v := nI (2)) dM_readsCode_139 (by decide) ?_
                refine x_irem F dM_readsCode_140 (by decide) ?_
                refine xW.toi (nI ((rD tx sn (q + rM tx sn q)) % 2)) (pk_rem (by omega) (by omega) (by omega)) ?_
                refine x_iconst F (v := nI (1)) dM_readsCode_141 (by decide) ?_
                refine x_icmp_ne F (tgt := 171) dM_readsCode_142 (by decide) (fun c9 => ?_) (fun c9 => ?_)
                · skip
                  have c9 : (rD tx sn (q + rM tx sn q)) % 2 ≠ 1 := by
                    have z : ¬ ((rD tx sn (q + rM tx sn q)) % 2 = 1) := fun zz => c9 ((nI_eq (a := (rD tx sn (q + rM tx sn q)) % 2) (b := 1) (by omega) (by omega)).mpr zz)
                    omega
                  refine x_aload_n F 5 dM_readsCode_171 rfl rfl ?_
                  refine x_get (ci := 6) F 8 (x_in inM) rfl (by decide) (x_m kfM_24) dM_readsCode_172 h0 rfl ?_
                  refine x_iload_n F 3 dM_readsCode_175 rfl rfl ?_
                  refine x_iload F 2 dM_readsCode_176 rfl ?_
                  refine x_iast F dM_readsCode_178 h4 (pk_in (120 + n) (160) (by omega)) ?_
                  rw [nI_clamp (show 120 + n < 2 ^ 31 by omega)]
                  show xW p l e ({ frames := 4, cells := 0, slots := 0, locals := 96 } : Room) s m args below meth c D xcl (x_A M nx) 8 (MQ below (x_Q D xcl (x_A M nx) (mcPost nx M a th sg sn pr fk fp rws cd ds wc wd nn nE nC nK nO ln lF lC lT lO fn fC fP ak ac pt n (rM tx sn q) (cN tx (q + rM tx sn q) (rD tx sn (q + rM tx sn q))) (mrc tx sn ds xs dg n q))) args s 0 0 (x_A M nx)) 0 0 (nx) (x_up M (a + 4) (.inl (.int, 160, .inl (upd (ds) (120 + n) (nI (rM tx sn q)))))) 179 [(6, .int (nI (rD tx sn (q + rM tx sn q)))), (5, .int (nI (q + rM tx sn q))), (4, .int (nI (rM tx sn q))), (3, .int (nI (120 + n))), (2, .int (nI (n))), (0, .ref (a)), (1, .int (nI (q)))] []
                  refine x_aload_n F 5 dM_readsCode_179 rfl rfl ?_
                  refine x_get (ci := 6) F 7 (x_in inM) rfl (by decide) (x_m kfM_20) dM_readsCode_180 (x_up_k h0 (by omega)) rfl ?_
                  refine x_iload_n F 3 dM_readsCode_183 rfl rfl ?_
                  refine x_aload_n F 5 dM_readsCode_184 rfl rfl ?_
                  refine x_iload F 1 dM_readsCode_185 rfl ?_
                  refine x_iload F 0 dM_readsCode_187 rfl ?_
                  refine yV (n := 2) (As := [.int (nI (q + rM tx sn q)), .int (nI (rD tx sn (q + rM tx sn q)))]) (ci := 6) F kmM_119 kiM_codeAt ksM_codeAt knM kcM_codeAt (by decide +kernel) dM_readsCode_189 (cM_codeAt l (nx) (x_up M (a + 4) (.inl (.int, 160, .inl (upd (ds) (120 + n) (nI (rM tx sn q)))))) (a) th sg sn pr fk fp rws cd (upd (ds) (120 + n) (nI (rM tx sn q))) wc wd nn nE nC nK nO ln lF lC lT lO fn fC fP ak ac pt ⟨(x_up_k h0 (by omega)), (x_up_k h1 (by omega)), (x_up_k h2 (by omega)), (x_up_k h3 (by omega)), x_up_s, (x_up_k h5 (by omega)), (x_up_k h6 (by omega)), (x_up_k h7 (by omega)), (x_up_k h8 (by omega)), (x_up_k h9 (by omega)), (x_up_k h10 (by omega)), (x_up_k h11 (by omega)), (x_up_k h12 (by omega)), (x_up_k h13 (by omega)), (x_up_k h14 (by omega)), (x_up_k h15 (by omega)), (x_up_k h16 (by omega)), (x_up_k h17 (by omega)), (x_up_k h18 (by omega)), by omega, by omega, by omega, by omega, by omega, by omega⟩ tx hX (q + rM tx sn q) (rD tx sn (q + rM tx sn q)) (by omega) (fun i hi => rn_all hi)) rfl (x_up_k h0 (by omega)) rfl rfl (Nat.le_of_ble_eq_true rfl) ⟨Nat.le_of_ble_eq_true rfl, Nat.le_of_ble_eq_true rfl⟩ ⟨Nat.le_of_ble_eq_true rfl, Nat.le_of_ble_eq_true rfl⟩ ?_
                  refine x_last F dM_readsCode_192 (x_up_k h3 (by omega)) (pk_in (120 + n) (160) (by omega)) ?_
                  rw [nI_clamp (show 120 + n < 2 ^ 31 by omega)]
                  show xW p l e ({ frames := 4, cells := 0, slots := 0, locals := 96 } : Room) s m args below meth c D xcl (x_A M nx) 8 (MQ below (x_Q D xcl (x_A M nx) (mcPost nx M a th sg sn pr fk fp rws cd ds wc wd nn nE nC nK nO ln lF lC lT lO fn fC fP ak ac pt n (rM tx sn q) (cN tx (q + rM tx sn q) (rD tx sn (q + rM tx sn q))) (mrc tx sn ds xs dg n q))) args s 0 0 (x_A M nx)) 0 0 (nx) (x_up (x_up M (a + 4) (.inl (.int, 160, .inl (upd (ds) (120 + n) (nI (rM tx sn q)))))) (a + 3) (.inl (.long, 160, .inr (.inl (vp_updL (cd) (120 + n) (lN (cN tx (q + rM tx sn q) (rD tx sn (q + rM tx sn q))))))))) 193 [(6, .int (nI (rD tx sn (q + rM tx sn q)))), (5, .int (nI (q + rM tx sn q))), (4, .int (nI (rM tx sn q))), (3, .int (nI (120 + n))), (2, .int (nI (n))), (0, .ref (a)), (1, .int (nI (q)))] []
                  have hX10 : cdg (cN tx (q + rM tx sn q) (rD tx sn (q + rM tx sn q))) (rD tx sn (q + rM tx sn q)) := cN_dg (by omega) (fun i hi => rn_all hi)
                  refine x_aload_n F 5 dM_readsCode_193 rfl rfl ?_
                  refine x_bipush F (v := nI (120)) dM_readsCode_194 (by decide) ?_
                  refine x_iload_n F 3 dM_readsCode_196 rfl rfl ?_
                  refine yV (n := 2) (As := [.int (nI (120)), .int (nI (120 + n))]) (ci := 6) F kmM_123 kiM_above ksM_above knM kcM_above (by decide +kernel) dM_readsCode_197 (cM_above l (nx) (x_up (x_up M (a + 4) (.inl (.int, 160, .inl (upd (ds) (120 + n) (nI (rM tx sn q)))))) (a + 3) (.inl (.long, 160, .inr (.inl (vp_updL (cd) (120 + n) (lN (cN tx (q + rM tx sn q) (rD tx sn (q + rM tx sn q))))))))) (a) th sg sn pr fk fp rws (vp_updL (cd) (120 + n) (lN (cN tx (q + rM tx sn q) (rD tx sn (q + rM tx sn q))))) (upd (ds) (120 + n) (nI (rM tx sn q))) wc wd nn nE nC nK nO ln lF lC lT lO fn fC fP ak ac pt ⟨(x_up_k (x_up_k h0 (by omega)) (by omega)), (x_up_k (x_up_k h1 (by omega)) (by omega)), (x_up_k (x_up_k h2 (by omega)) (by omega)), x_up_s, (x_up_k x_up_s (by omega)), (x_up_k (x_up_k h5 (by omega)) (by omega)), (x_up_k (x_up_k h6 (by omega)) (by omega)), (x_up_k (x_up_k h7 (by omega)) (by omega)), (x_up_k (x_up_k h8 (by omega)) (by omega)), (x_up_k (x_up_k h9 (by omega)) (by omega)), (x_up_k (x_up_k h10 (by omega)) (by omega)), (x_up_k (x_up_k h11 (by omega)) (by omega)), (x_up_k (x_up_k h12 (by omega)) (by omega)), (x_up_k (x_up_k h13 (by omega)) (by omega)), (x_up_k (x_up_k h14 (by omega)) (by omega)), (x_up_k (x_up_k h15 (by omega)) (by omega)), (x_up_k (x_up_k h16 (by omega)) (by omega)), (x_up_k (x_up_k h17 (by omega)) (by omega)), (x_up_k (x_up_k h18 (by omega)) (by omega)), by omega, by omega, by omega, by omega, by omega, by omega⟩ 120 n (by omega)) rfl (x_up_k (x_up_k h0 (by omega)) (by omega)) rfl rfl (Nat.le_of_ble_eq_true rfl) ⟨Nat.le_of_ble_eq_true rfl, Nat.le_of_ble_eq_true rfl⟩ ⟨Nat.le_of_ble_eq_true rfl, Nat.le_of_ble_eq_true rfl⟩ ?_
                  rcases o_cases (mUp (upd ds (120 + n) (nI (rM tx sn q))) 120 n) with hup | ⟨j, hup⟩
                  · skip
                    refine xW.ste (st' := [.int ((-1))]) (by show ([.int (oj 120 (mUp (upd ds (120 + n) (nI (rM tx sn q))) 120 n))] : List Value) = _; rw [hup]; rfl) ?_
                    refine x_istore F [(7, .int ((-1))), (6, .int (nI (rD tx sn (q + rM tx sn q)))), (5, .int (nI (q + rM tx sn q))), (4, .int (nI (rM tx sn q))), (3, .int (nI (120 + n))), (2, .int (nI (n))), (0, .ref (a)), (1, .int (nI (q)))] dM_readsCode_200 (by decide) rfl ?_
                    refine x_iload F 3 dM_readsCode_202 rfl ?_
                    refine x_if_ne F (tgt := 213) dM_readsCode_204 (by decide) (fun c10 => ?_) (fun c10 => ?_)
                    · skip
                      have c10 : rM tx sn q ≠ 0 := by
                        have z : ¬ (rM tx sn q = 0) := fun zz => c10 ((nI_eq (a := rM tx sn q) (b := 0) (by omega) (by omega)).mpr zz)
                        omega
                      refine x_iload F 3 dM_readsCode_213 rfl ?_
                      refine x_if_le F (tgt := 254) dM_readsCode_215 (by decide) (fun c11 => ?_) (fun c11 => ?_)
                      · skip
                        have c11 : rM tx sn q ≤ 0 := by
                          exact (nI_leI (a := rM tx sn q) (b := 0) (by omega) (by omega)).mp c11
                        have hbad : mBad ds xs dg n (rM tx sn q) (cN tx (q + rM tx sn q) (rD tx sn (q + rM tx sn q))) (rD tx sn (q + rM tx sn q)) = false := by rw [mBad, if_pos (by omega), decide_eq_true (by omega)]; rfl
                        refine x_iload_n F 5 dM_readsCode_254 rfl rfl ?_
                        refine x_if_eq F (tgt := 288) dM_readsCode_255 (by decide) (fun c12 => ?_) (fun c12 => ?_)
                        · skip
                          have c12 : n = 0 := by
                            exact (nI_eq (a := n) (b := 0) (by omega) (by omega)).mp c12
                          have hbeh : mBeh xs dg n (cN tx (q + rM tx sn q) (rD tx sn (q + rM tx sn q))) (rD tx sn (q + rM tx sn q)) = true := by rw [c12]; rfl
                          refine x_iconst F (v := nI (1)) dM_readsCode_288 (by decide) ?_
                          refine x_goto F (tgt := 293) dM_readsCode_289 (by decide) ?_
                          exact x_zret F hr (by rfl) dM_readsCode_293 (by rw [show mrc tx sn ds xs dg n q = none from by rw [mrc, if_neg (fun z => c1 z.1), if_neg h70, if_neg c4, if_neg (by omega), if_neg c6, if_neg (by omega), if_neg c9, if_neg (by rw [hbad]; decide), if_neg (by rw [hbeh]; decide)]]; exact ⟨rfl, fun b hb => (x_up_n (by omega)).trans ((x_up_n (by omega)).trans (rfl)), rfl, ⟨(x_up_k (x_up_k h0 (by omega)) (by omega)), (x_up_k (x_up_k h1 (by omega)) (by omega)), (x_up_k (x_up_k h2 (by omega)) (by omega)), x_up_s, (x_up_k x_up_s (by omega)), (x_up_k (x_up_k h5 (by omega)) (by omega)), (x_up_k (x_up_k h6 (by omega)) (by omega)), (x_up_k (x_up_k h7 (by omega)) (by omega)), (x_up_k (x_up_k h8 (by omega)) (by omega)), (x_up_k (x_up_k h9 (by omega)) (by omega)), (x_up_k (x_up_k h10 (by omega)) (by omega)), (x_up_k (x_up_k h11 (by omega)) (by omega)), (x_up_k (x_up_k h12 (by omega)) (by omega)), (x_up_k (x_up_k h13 (by omega)) (by omega)), (x_up_k (x_up_k h14 (by omega)) (by omega)), (x_up_k (x_up_k h15 (by omega)) (by omega)), (x_up_k (x_up_k h16 (by omega)) (by omega)), (x_up_k (x_up_k h17 (by omega)) (by omega)), (x_up_k (x_up_k h18 (by omega)) (by omega)), by omega, by omega, by omega, by omega, by omega, by omega⟩⟩)
                        · skip
                          have c12 : n ≠ 0 := by
                            have z : ¬ (n = 0) := fun zz => c12 ((nI_eq (a := n) (b := 0) (by omega) (by omega)).mpr zz)
                            omega
                          obtain ⟨n0, hn1⟩ : ∃ n0, n = n0 + 1 := ⟨n - 1, by omega⟩
                          refine x_aload_n F 6 dM_readsCode_258 rfl rfl ?_
                          refine x_get (ci := 6) F 7 (x_in inM) rfl (by decide) (x_m kfM_20) dM_readsCode_259 (x_up_k (x_up_k h0 (by omega)) (by omega)) rfl ?_
                          refine x_iload_n F 4 dM_readsCode_262 rfl rfl ?_
                          refine x_lald F dM_readsCode_263 x_up_s (pk_in (120 + n) (160) (by omega)) ?_
                          refine xW.tol (lN (cN tx (q + rM tx sn q) (rD tx sn (q + rM tx sn q)))) (by rw [nI_clamp (by omega)]; exact vp_us) ?_
                          refine x_aload_n F 6 dM_readsCode_264 rfl rfl ?_
                          refine x_get (ci := 6) F 7 (x_in inM) rfl (by decide) (x_m kfM_20) dM_readsCode_265 (x_up_k (x_up_k h0 (by omega)) (by omega)) rfl ?_
                          refine x_iload_n F 4 dM_readsCode_268 rfl rfl ?_
                          refine x_iconst F (v := nI (1)) dM_readsCode_269 (by decide) ?_
                          refine x_isub F dM_readsCode_270 ?_
                          refine xW.toi (nI (120 + n0)) (by rw [hn1]; exact nI_pred (120 + n0)) ?_
                          refine x_lald F dM_readsCode_271 x_up_s (pk_in (120 + n0) (160) (by omega)) ?_
                          refine xW.tol (lN (xs n0)) (by rw [nI_clamp (by omega)]; exact (updL_ne (by omega)).trans (hcd n0 (by omega)).1) ?_
                          refine yS (n := 2) (As := [.long (lN (cN tx (q + rM tx sn q) (rD tx sn (q + rM tx sn q)))), .long (lN (xs n0))]) F kmM_126 ktM_isBehind knM kcM_isBehind (by decide +kernel) dM_readsCode_272 (cM_isBehind l (nx) (x_up (x_up M (a + 4) (.inl (.int, 160, .inl (upd (ds) (120 + n) (nI (rM tx sn q)))))) (a + 3) (.inl (.long, 160, .inr (.inl (vp_updL (cd) (120 + n) (lN (cN tx (q + rM tx sn q) (rD tx sn (q + rM tx sn q))))))))) (cN tx (q + rM tx sn q) (rD tx sn (q + rM tx sn q))) (rD tx sn (q + rM tx sn q)) (xs n0) (dg n0) hX10 (hcd n0 (by omega)).2) rfl rfl (Nat.le_of_ble_eq_true rfl) ⟨Nat.le_of_ble_eq_true rfl, Nat.le_of_ble_eq_true rfl⟩ ⟨Nat.le_of_ble_eq_true rfl, Nat.le_of_ble_eq_true rfl⟩ ?_
                          refine x_if_ne F (tgt := 288) dM_readsCode_275 (by decide) (fun c13 => ?_) (fun c13 => ?_)
                          · skip
                            have c13 : (mbh (cN tx (q + rM tx sn q) (rD tx sn (q + rM tx sn q))) (rD tx sn (q + rM tx sn q)) (xs n0) (dg n0)) = true := bI_1 c13
                            have hbeh : mBeh xs dg n (cN tx (q + rM tx sn q) (rD tx sn (q + rM tx sn q))) (rD tx sn (q + rM tx sn q)) = true := by rw [hn1]; exact c13
                            refine x_iconst F (v := nI (1)) dM_readsCode_288 (by decide) ?_
                            refine x_goto F (tgt := 293) dM_readsCode_289 (by decide) ?_
                            exact x_zret F hr (by rfl) dM_readsCode_293 (by rw [show mrc tx sn ds xs dg n q = none from by rw [mrc, if_neg (fun z => c1 z.1), if_neg h70, if_neg c4, if_neg (by omega), if_neg c6, if_neg (by omega), if_neg c9, if_neg (by rw [hbad]; decide), if_neg (by rw [hbeh]; decide)]]; exact ⟨rfl, fun b hb => (x_up_n (by omega)).trans ((x_up_n (by omega)).trans (rfl)), rfl, ⟨(x_up_k (x_up_k h0 (by omega)) (by omega)), (x_up_k (x_up_k h1 (by omega)) (by omega)), (x_up_k (x_up_k h2 (by omega)) (by omega)), x_up_s, (x_up_k x_up_s (by omega)), (x_up_k (x_up_k h5 (by omega)) (by omega)), (x_up_k (x_up_k h6 (by omega)) (by omega)), (x_up_k (x_up_k h7 (by omega)) (by omega)), (x_up_k (x_up_k h8 (by omega)) (by omega)), (x_up_k (x_up_k h9 (by omega)) (by omega)), (x_up_k (x_up_k h10 (by omega)) (by omega)), (x_up_k (x_up_k h11 (by omega)) (by omega)), (x_up_k (x_up_k h12 (by omega)) (by omega)), (x_up_k (x_up_k h13 (by omega)) (by omega)), (x_up_k (x_up_k h14 (by omega)) (by omega)), (x_up_k (x_up_k h15 (by omega)) (by omega)), (x_up_k (x_up_k h16 (by omega)) (by omega)), (x_up_k (x_up_k h17 (by omega)) (by omega)), (x_up_k (x_up_k h18 (by omega)) (by omega)), by omega, by omega, by omega, by omega, by omega, by omega⟩⟩)
                          · skip
                            have c13 : (mbh (cN tx (q + rM tx sn q) (rD tx sn (q + rM tx sn q))) (rD tx sn (q + rM tx sn q)) (xs n0) (dg n0)) = false := bI_0 c13
                            have hbeh : mBeh xs dg n (cN tx (q + rM tx sn q) (rD tx sn (q + rM tx sn q))) (rD tx sn (q + rM tx sn q)) = false := by rw [hn1]; exact c13
                            refine x_aload_n F 6 dM_readsCode_278 rfl rfl ?_
                            refine x_iconst F (v := nI (4)) dM_readsCode_279 (by decide) ?_
                            refine x_iload F 2 dM_readsCode_280 rfl ?_
                            refine yVr (n := 2) (As := [.int (nI (4)), .int (nI (q + rM tx sn q))]) (ci := 6) F kmM_115 kiM_fails ksM_fails knM kcM_fails (by decide +kernel) dM_readsCode_282 (cM_fails l (nx) (x_up (x_up M (a + 4) (.inl (.int, 160, .inl (upd (ds) (120 + n) (nI (rM tx sn q)))))) (a + 3) (.inl (.long, 160, .inr (.inl (vp_updL (cd) (120 + n) (lN (cN tx (q + rM tx sn q) (rD tx sn (q + rM tx sn q))))))))) (a) th sg sn pr fk fp rws (vp_updL (cd) (120 + n) (lN (cN tx (q + rM tx sn q) (rD tx sn (q + rM tx sn q))))) (upd (ds) (120 + n) (nI (rM tx sn q))) wc wd nn nE nC nK nO ln lF lC lT lO fn fC fP ak ac pt ⟨(x_up_k (x_up_k h0 (by omega)) (by omega)), (x_up_k (x_up_k h1 (by omega)) (by omega)), (x_up_k (x_up_k h2 (by omega)) (by omega)), x_up_s, (x_up_k x_up_s (by omega)), (x_up_k (x_up_k h5 (by omega)) (by omega)), (x_up_k (x_up_k h6 (by omega)) (by omega)), (x_up_k (x_up_k h7 (by omega)) (by omega)), (x_up_k (x_up_k h8 (by omega)) (by omega)), (x_up_k (x_up_k h9 (by omega)) (by omega)), (x_up_k (x_up_k h10 (by omega)) (by omega)), (x_up_k (x_up_k h11 (by omega)) (by omega)), (x_up_k (x_up_k h12 (by omega)) (by omega)), (x_up_k (x_up_k h13 (by omega)) (by omega)), (x_up_k (x_up_k h14 (by omega)) (by omega)), (x_up_k (x_up_k h15 (by omega)) (by omega)), (x_up_k (x_up_k h16 (by omega)) (by omega)), (x_up_k (x_up_k h17 (by omega)) (by omega)), (x_up_k (x_up_k h18 (by omega)) (by omega)), by omega, by omega, by omega, by omega, by omega, by omega⟩ (nI (4)) (nI (q + rM tx sn q))) rfl (x_up_k (x_up_k h0 (by omega)) (by omega)) rfl rfl (Nat.le_of_ble_eq_true rfl) ⟨Nat.le_of_ble_eq_true rfl, Nat.le_of_ble_eq_true rfl⟩ ⟨Nat.le_of_ble_eq_true rfl, Nat.le_of_ble_eq_true rfl⟩ (fun r' n' M518 hp => ?_)
                            obtain ⟨hr', hn', hM518, hf518⟩ := hp
                            rw [hn', hr']
                            obtain ⟨v518_0, v518_1, v518_2, v518_3, v518_4, v518_5, v518_6, v518_7, v518_8, v518_9, v518_10, v518_11, v518_12, v518_13, v518_14, v518_15, v518_16, v518_17, v518_18, vb518_0, vb518_1, vb518_2, vb518_3, vb518_4, vb518_5⟩ := id hM518
                            show xW p l e ({ frames := 4, cells := 0, slots := 0, locals := 96 } : Room) s m args below meth c D xcl (x_A M nx) 8 (MQ below (x_Q D xcl (x_A M nx) (mcPost nx M a th sg sn pr fk fp rws cd ds wc wd nn nE nC nK nO ln lF lC lT lO fn fC fP ak ac pt n (rM tx sn q) (cN tx (q + rM tx sn q) (rD tx sn (q + rM tx sn q))) (mrc tx sn ds xs dg n q))) args s 0 0 (x_A M nx)) 0 0 (nx) M518 285 [(7, .int ((-1))), (6, .int (nI (rD tx sn (q + rM tx sn q)))), (5, .int (nI (q + rM tx sn q))), (4, .int (nI (rM tx sn q))), (3, .int (nI (120 + n))), (2, .int (nI (n))), (0, .ref (a)), (1, .int (nI (q)))] [.int (nI (0))]
                            refine x_if_eq F (tgt := 292) dM_readsCode_285 (by decide) (fun c14 => ?_) (fun c14 => ?_)
                            · skip
                              have c14 : 0 = 0 := by
                                exact (nI_eq (a := 0) (b := 0) (by omega) (by omega)).mp c14
                              refine x_iconst F (v := nI (0)) dM_readsCode_292 (by decide) ?_
                              exact x_zret F hr (by rfl) dM_readsCode_293 (by rw [show mrc tx sn ds xs dg n q = some (4, q + rM tx sn q) from by rw [mrc, if_neg (fun z => c1 z.1), if_neg h70, if_neg c4, if_neg (by omega), if_neg c6, if_neg (by omega), if_neg c9, if_neg (by rw [hbad]; decide), if_pos hbeh]]; exact ⟨rfl, fun b hb => (hf518 _ (by omega)).trans ((x_up_n (by omega)).trans ((x_up_n (by omega)).trans (rfl))), rfl, _, _, (fun i hi => ⟨updL_ne (by omega), upd_ne (by omega)⟩), hM518⟩)
                            · skip
                              have c14 : 0 ≠ 0 := by
                                have z : ¬ (0 = 0) := fun zz => c14 ((nI_eq (a := 0) (b := 0) (by omega) (by omega)).mpr zz)
                                omega
                              exact absurd c14 (by decide)
                      · skip
                        have c11 : 0 < rM tx sn q := by
                          have z : ¬ (rM tx sn q ≤ 0) := fun zz => c11 ((nI_leI (a := rM tx sn q) (b := 0) (by omega) (by omega)).mpr zz)
                          omega
                        refine x_aload_n F 6 dM_readsCode_218 rfl rfl ?_
                        refine x_get (ci := 6) F 7 (x_in inM) rfl (by decide) (x_m kfM_20) dM_readsCode_219 (x_up_k (x_up_k h0 (by omega)) (by omega)) rfl ?_
                        refine x_iload_n F 4 dM_readsCode_222 rfl rfl ?_
                        refine x_lald F dM_readsCode_223 x_up_s (pk_in (120 + n) (160) (by omega)) ?_
                        refine xW.tol (lN (cN tx (q + rM tx sn q) (rD tx sn (q + rM tx sn q)))) (by rw [nI_clamp (by omega)]; exact vp_us) ?_
                        refine x_aload_n F 6 dM_readsCode_224 rfl rfl ?_
                        refine x_get (ci := 6) F 7 (x_in inM) rfl (by decide) (x_m kfM_20) dM_readsCode_225 (x_up_k (x_up_k h0 (by omega)) (by omega)) rfl ?_
                        refine x_iload F 0 dM_readsCode_228 rfl ?_
                        refine x_if_ge F (tgt := 237) dM_readsCode_230 (by decide) (fun c15 => ?_) (fun c15 => ?_)
                        · skip
                          exact absurd c15 (by decide)
                        · skip
                          refine x_iload_n F 4 dM_readsCode_233 rfl rfl ?_
                          refine x_goto F (tgt := 239) dM_readsCode_234 (by decide) ?_
                          refine x_lald F dM_readsCode_239 x_up_s (pk_in (120 + n) (160) (by omega)) ?_
                          refine xW.tol (lN (cN tx (q + rM tx sn q) (rD tx sn (q + rM tx sn q)))) (by rw [nI_clamp (by omega)]; exact vp_us) ?_
                          refine yS (n := 2) (As := [.long (lN (cN tx (q + rM tx sn q) (rD tx sn (q + rM tx sn q)))), .long (lN (cN tx (q + rM tx sn q) (rD tx sn (q + rM tx sn q))))]) F kmM_107 ktM_begins knM kcM_begins (by decide +kernel) dM_readsCode_240 (cM_begins l (nx) (x_up (x_up M (a + 4) (.inl (.int, 160, .inl (upd (ds) (120 + n) (nI (rM tx sn q)))))) (a + 3) (.inl (.long, 160, .inr (.inl (vp_updL (cd) (120 + n) (lN (cN tx (q + rM tx sn q) (rD tx sn (q + rM tx sn q))))))))) (cN tx (q + rM tx sn q) (rD tx sn (q + rM tx sn q))) (rD tx sn (q + rM tx sn q)) (cN tx (q + rM tx sn q) (rD tx sn (q + rM tx sn q))) (rD tx sn (q + rM tx sn q)) hX10 hX10) rfl rfl (Nat.le_of_ble_eq_true rfl) ⟨Nat.le_of_ble_eq_true rfl, Nat.le_of_ble_eq_true rfl⟩ ⟨Nat.le_of_ble_eq_true rfl, Nat.le_of_ble_eq_true rfl⟩ ?_
                          refine x_if_ne F (tgt := 254) dM_readsCode_243 (by decide) (fun c16 => ?_) (fun c16 => ?_)
                          · skip
                            have c16 : (mbg (cN tx (q + rM tx sn q) (rD tx sn (q + rM tx sn q))) (rD tx sn (q + rM tx sn q)) (cN tx (q + rM tx sn q) (rD tx sn (q + rM tx sn q))) (rD tx sn (q + rM tx sn q))) = true := bI_1 c16
                            have hla := mUp_la (by omega) hup
                            have hbad : mBad ds xs dg n (rM tx sn q) (cN tx (q + rM tx sn q) (rD tx sn (q + rM tx sn q))) (rD tx sn (q + rM tx sn q)) = false := by rw [mBad, if_neg (by omega), hla]; rw [mbg_self] at c16; cases c16
                            refine x_iload_n F 5 dM_readsCode_254 rfl rfl ?_
                            refine x_if_eq F (tgt := 288) dM_readsCode_255 (by decide) (fun c17 => ?_) (fun c17 => ?_)
                            · skip
                              have c17 : n = 0 := by
                                exact (nI_eq (a := n) (b := 0) (by omega) (by omega)).mp c17
                              have hbeh : mBeh xs dg n (cN tx (q + rM tx sn q) (rD tx sn (q + rM tx sn q))) (rD tx sn (q + rM tx sn q)) = true := by rw [c17]; rfl
                              refine x_iconst F (v := nI (1)) dM_readsCode_288 (by decide) ?_
                              refine x_goto F (tgt := 293) dM_readsCode_289 (by decide) ?_
                              exact x_zret F hr (by rfl) dM_readsCode_293 (by rw [show mrc tx sn ds xs dg n q = none from by rw [mrc, if_neg (fun z => c1 z.1), if_neg h70, if_neg c4, if_neg (by omega), if_neg c6, if_neg (by omega), if_neg c9, if_neg (by rw [hbad]; decide), if_neg (by rw [hbeh]; decide)]]; exact ⟨rfl, fun b hb => (x_up_n (by omega)).trans ((x_up_n (by omega)).trans (rfl)), rfl, ⟨(x_up_k (x_up_k h0 (by omega)) (by omega)), (x_up_k (x_up_k h1 (by omega)) (by omega)), (x_up_k (x_up_k h2 (by omega)) (by omega)), x_up_s, (x_up_k x_up_s (by omega)), (x_up_k (x_up_k h5 (by omega)) (by omega)), (x_up_k (x_up_k h6 (by omega)) (by omega)), (x_up_k (x_up_k h7 (by omega)) (by omega)), (x_up_k (x_up_k h8 (by omega)) (by omega)), (x_up_k (x_up_k h9 (by omega)) (by omega)), (x_up_k (x_up_k h10 (by omega)) (by omega)), (x_up_k (x_up_k h11 (by omega)) (by omega)), (x_up_k (x_up_k h12 (by omega)) (by omega)), (x_up_k (x_up_k h13 (by omega)) (by omega)), (x_up_k (x_up_k h14 (by omega)) (by omega)), (x_up_k (x_up_k h15 (by omega)) (by omega)), (x_up_k (x_up_k h16 (by omega)) (by omega)), (x_up_k (x_up_k h17 (by omega)) (by omega)), (x_up_k (x_up_k h18 (by omega)) (by omega)), by omega, by omega, by omega, by omega, by omega, by omega⟩⟩)
                            · skip
                              have c17 : n ≠ 0 := by
                                have z : ¬ (n = 0) := fun zz => c17 ((nI_eq (a := n) (b := 0) (by omega) (by omega)).mpr zz)
                                omega
                              obtain ⟨n0, hn1⟩ : ∃ n0, n = n0 + 1 := ⟨n - 1, by omega⟩
                              refine x_aload_n F 6 dM_readsCode_258 rfl rfl ?_
                              refine x_get (ci := 6) F 7 (x_in inM) rfl (by decide) (x_m kfM_20) dM_readsCode_259 (x_up_k (x_up_k h0 (by omega)) (by omega)) rfl ?_
                              refine x_iload_n F 4 dM_readsCode_262 rfl rfl ?_
                              refine x_lald F dM_readsCode_263 x_up_s (pk_in (120 + n) (160) (by omega)) ?_
                              refine xW.tol (lN (cN tx (q + rM tx sn q) (rD tx sn (q + rM tx sn q)))) (by rw [nI_clamp (by omega)]; exact vp_us) ?_
                              refine x_aload_n F 6 dM_readsCode_264 rfl rfl ?_
                              refine x_get (ci := 6) F 7 (x_in inM) rfl (by decide) (x_m kfM_20) dM_readsCode_265 (x_up_k (x_up_k h0 (by omega)) (by omega)) rfl ?_
                              refine x_iload_n F 4 dM_readsCode_268 rfl rfl ?_
                              refine x_iconst F (v := nI (1)) dM_readsCode_269 (by decide) ?_
                              refine x_isub F dM_readsCode_270 ?_
                              refine xW.toi (nI (120 + n0)) (by rw [hn1]; exact nI_pred (120 + n0)) ?_
                              refine x_lald F dM_readsCode_271 x_up_s (pk_in (120 + n0) (160) (by omega)) ?_
                              refine xW.tol (lN (xs n0)) (by rw [nI_clamp (by omega)]; exact (updL_ne (by omega)).trans (hcd n0 (by omega)).1) ?_
                              refine yS (n := 2) (As := [.long (lN (cN tx (q + rM tx sn q) (rD tx sn (q + rM tx sn q)))), .long (lN (xs n0))]) F kmM_126 ktM_isBehind knM kcM_isBehind (by decide +kernel) dM_readsCode_272 (cM_isBehind l (nx) (x_up (x_up M (a + 4) (.inl (.int, 160, .inl (upd (ds) (120 + n) (nI (rM tx sn q)))))) (a + 3) (.inl (.long, 160, .inr (.inl (vp_updL (cd) (120 + n) (lN (cN tx (q + rM tx sn q) (rD tx sn (q + rM tx sn q))))))))) (cN tx (q + rM tx sn q) (rD tx sn (q + rM tx sn q))) (rD tx sn (q + rM tx sn q)) (xs n0) (dg n0) hX10 (hcd n0 (by omega)).2) rfl rfl (Nat.le_of_ble_eq_true rfl) ⟨Nat.le_of_ble_eq_true rfl, Nat.le_of_ble_eq_true rfl⟩ ⟨Nat.le_of_ble_eq_true rfl, Nat.le_of_ble_eq_true rfl⟩ ?_
                              refine x_if_ne F (tgt := 288) dM_readsCode_275 (by decide) (fun c18 => ?_) (fun c18 => ?_)
                              · skip
                                have c18 : (mbh (cN tx (q + rM tx sn q) (rD tx sn (q + rM tx sn q))) (rD tx sn (q + rM tx sn q)) (xs n0) (dg n0)) = true := bI_1 c18
                                have hbeh : mBeh xs dg n (cN tx (q + rM tx sn q) (rD tx sn (q + rM tx sn q))) (rD tx sn (q + rM tx sn q)) = true := by rw [hn1]; exact c18
                                refine x_iconst F (v := nI (1)) dM_readsCode_288 (by decide) ?_
                                refine x_goto F (tgt := 293) dM_readsCode_289 (by decide) ?_
                                exact x_zret F hr (by rfl) dM_readsCode_293 (by rw [show mrc tx sn ds xs dg n q = none from by rw [mrc, if_neg (fun z => c1 z.1), if_neg h70, if_neg c4, if_neg (by omega), if_neg c6, if_neg (by omega), if_neg c9, if_neg (by rw [hbad]; decide), if_neg (by rw [hbeh]; decide)]]; exact ⟨rfl, fun b hb => (x_up_n (by omega)).trans ((x_up_n (by omega)).trans (rfl)), rfl, ⟨(x_up_k (x_up_k h0 (by omega)) (by omega)), (x_up_k (x_up_k h1 (by omega)) (by omega)), (x_up_k (x_up_k h2 (by omega)) (by omega)), x_up_s, (x_up_k x_up_s (by omega)), (x_up_k (x_up_k h5 (by omega)) (by omega)), (x_up_k (x_up_k h6 (by omega)) (by omega)), (x_up_k (x_up_k h7 (by omega)) (by omega)), (x_up_k (x_up_k h8 (by omega)) (by omega)), (x_up_k (x_up_k h9 (by omega)) (by omega)), (x_up_k (x_up_k h10 (by omega)) (by omega)), (x_up_k (x_up_k h11 (by omega)) (by omega)), (x_up_k (x_up_k h12 (by omega)) (by omega)), (x_up_k (x_up_k h13 (by omega)) (by omega)), (x_up_k (x_up_k h14 (by omega)) (by omega)), (x_up_k (x_up_k h15 (by omega)) (by omega)), (x_up_k (x_up_k h16 (by omega)) (by omega)), (x_up_k (x_up_k h17 (by omega)) (by omega)), (x_up_k (x_up_k h18 (by omega)) (by omega)), by omega, by omega, by omega, by omega, by omega, by omega⟩⟩)
                              · skip
                                have c18 : (mbh (cN tx (q + rM tx sn q) (rD tx sn (q + rM tx sn q))) (rD tx sn (q + rM tx sn q)) (xs n0) (dg n0)) = false := bI_0 c18
                                have hbeh : mBeh xs dg n (cN tx (q + rM tx sn q) (rD tx sn (q + rM tx sn q))) (rD tx sn (q + rM tx sn q)) = false := by rw [hn1]; exact c18
                                refine x_aload_n F 6 dM_readsCode_278 rfl rfl ?_
                                refine x_iconst F (v := nI (4)) dM_readsCode_279 (by decide) ?_
                                refine x_iload F 2 dM_readsCode_280 rfl ?_
                                refine yVr (n := 2) (As := [.int (nI (4)), .int (nI (q + rM tx sn q))]) (ci := 6) F kmM_115 kiM_fails ksM_fails knM kcM_fails (by decide +kernel) dM_readsCode_282 (cM_fails l (nx) (x_up (x_up M (a + 4) (.inl (.int, 160, .inl (upd (ds) (120 + n) (nI (rM tx sn q)))))) (a + 3) (.inl (.long, 160, .inr (.inl (vp_updL (cd) (120 + n) (lN (cN tx (q + rM tx sn q) (rD tx sn (q + rM tx sn q))))))))) (a) th sg sn pr fk fp rws (vp_updL (cd) (120 + n) (lN (cN tx (q + rM tx sn q) (rD tx sn (q + rM tx sn q))))) (upd (ds) (120 + n) (nI (rM tx sn q))) wc wd nn nE nC nK nO ln lF lC lT lO fn fC fP ak ac pt ⟨(x_up_k (x_up_k h0 (by omega)) (by omega)), (x_up_k (x_up_k h1 (by omega)) (by omega)), (x_up_k (x_up_k h2 (by omega)) (by omega)), x_up_s, (x_up_k x_up_s (by omega)), (x_up_k (x_up_k h5 (by omega)) (by omega)), (x_up_k (x_up_k h6 (by omega)) (by omega)), (x_up_k (x_up_k h7 (by omega)) (by omega)), (x_up_k (x_up_k h8 (by omega)) (by omega)), (x_up_k (x_up_k h9 (by omega)) (by omega)), (x_up_k (x_up_k h10 (by omega)) (by omega)), (x_up_k (x_up_k h11 (by omega)) (by omega)), (x_up_k (x_up_k h12 (by omega)) (by omega)), (x_up_k (x_up_k h13 (by omega)) (by omega)), (x_up_k (x_up_k h14 (by omega)) (by omega)), (x_up_k (x_up_k h15 (by omega)) (by omega)), (x_up_k (x_up_k h16 (by omega)) (by omega)), (x_up_k (x_up_k h17 (by omega)) (by omega)), (x_up_k (x_up_k h18 (by omega)) (by omega)), by omega, by omega, by omega, by omega, by omega, by omega⟩ (nI (4)) (nI (q + rM tx sn q))) rfl (x_up_k (x_up_k h0 (by omega)) (by omega)) rfl rfl (Nat.le_of_ble_eq_true rfl) ⟨Nat.le_of_ble_eq_true rfl, Nat.le_of_ble_eq_true rfl⟩ ⟨Nat.le_of_ble_eq_true rfl, Nat.le_of_ble_eq_true rfl⟩ (fun r' n' M519 hp => ?_)
                                obtain ⟨hr', hn', hM519, hf519⟩ := hp
                                rw [hn', hr']
                                obtain ⟨v519_0, v519_1, v519_2, v519_3, v519_4, v519_5, v519_6, v519_7, v519_8, v519_9, v519_10, v519_11, v519_12, v519_13, v519_14, v519_15, v519_16, v519_17, v519_18, vb519_0, vb519_1, vb519_2, vb519_3, vb519_4, vb519_5⟩ := id hM519
                                show xW p l e ({ frames := 4, cells := 0, slots := 0, locals := 96 } : Room) s m args below meth c D xcl (x_A M nx) 8 (MQ below (x_Q D xcl (x_A M nx) (mcPost nx M a th sg sn pr fk fp rws cd ds wc wd nn nE nC nK nO ln lF lC lT lO fn fC fP ak ac pt n (rM tx sn q) (cN tx (q + rM tx sn q) (rD tx sn (q + rM tx sn q))) (mrc tx sn ds xs dg n q))) args s 0 0 (x_A M nx)) 0 0 (nx) M519 285 [(7, .int ((-1))), (6, .int (nI (rD tx sn (q + rM tx sn q)))), (5, .int (nI (q + rM tx sn q))), (4, .int (nI (rM tx sn q))), (3, .int (nI (120 + n))), (2, .int (nI (n))), (0, .ref (a)), (1, .int (nI (q)))] [.int (nI (0))]
                                refine x_if_eq F (tgt := 292) dM_readsCode_285 (by decide) (fun c19 => ?_) (fun c19 => ?_)
                                · skip
                                  have c19 : 0 = 0 := by
                                    exact (nI_eq (a := 0) (b := 0) (by omega) (by omega)).mp c19
                                  refine x_iconst F (v := nI (0)) dM_readsCode_292 (by decide) ?_
                                  exact x_zret F hr (by rfl) dM_readsCode_293 (by rw [show mrc tx sn ds xs dg n q = some (4, q + rM tx sn q) from by rw [mrc, if_neg (fun z => c1 z.1), if_neg h70, if_neg c4, if_neg (by omega), if_neg c6, if_neg (by omega), if_neg c9, if_neg (by rw [hbad]; decide), if_pos hbeh]]; exact ⟨rfl, fun b hb => (hf519 _ (by omega)).trans ((x_up_n (by omega)).trans ((x_up_n (by omega)).trans (rfl))), rfl, _, _, (fun i hi => ⟨updL_ne (by omega), upd_ne (by omega)⟩), hM519⟩)
                                · skip
                                  have c19 : 0 ≠ 0 := by
                                    have z : ¬ (0 = 0) := fun zz => c19 ((nI_eq (a := 0) (b := 0) (by omega) (by omega)).mpr zz)
                                    omega
                                  exact absurd c19 (by decide)
                          · skip
                            have c16 : (mbg (cN tx (q + rM tx sn q) (rD tx sn (q + rM tx sn q))) (rD tx sn (q + rM tx sn q)) (cN tx (q + rM tx sn q) (rD tx sn (q + rM tx sn q))) (rD tx sn (q + rM tx sn q))) = false := bI_0 c16
                            have hla := mUp_la (by omega) hup
                            have hbad : mBad ds xs dg n (rM tx sn q) (cN tx (q + rM tx sn q) (rD tx sn (q + rM tx sn q))) (rD tx sn (q + rM tx sn q)) = true := by rw [mBad, if_neg (by omega), hla]
                            refine x_aload_n F 6 dM_readsCode_246 rfl rfl ?_
                            refine x_iconst F (v := nI (3)) dM_readsCode_247 (by decide) ?_
                            refine x_iload F 2 dM_readsCode_248 rfl ?_
                            refine yVr (n := 2) (As := [.int (nI (3)), .int (nI (q + rM tx sn q))]) (ci := 6) F kmM_115 kiM_fails ksM_fails knM kcM_fails (by decide +kernel) dM_readsCode_250 (cM_fails l (nx) (x_up (x_up M (a + 4) (.inl (.int, 160, .inl (upd (ds) (120 + n) (nI (rM tx sn q)))))) (a + 3) (.inl (.long, 160, .inr (.inl (vp_updL (cd) (120 + n) (lN (cN tx (q + rM tx sn q) (rD tx sn (q + rM tx sn q))))))))) (a) th sg sn pr fk fp rws (vp_updL (cd) (120 + n) (lN (cN tx (q + rM tx sn q) (rD tx sn (q + rM tx sn q))))) (upd (ds) (120 + n) (nI (rM tx sn q))) wc wd nn nE nC nK nO ln lF lC lT lO fn fC fP ak ac pt ⟨(x_up_k (x_up_k h0 (by omega)) (by omega)), (x_up_k (x_up_k h1 (by omega)) (by omega)), (x_up_k (x_up_k h2 (by omega)) (by omega)), x_up_s, (x_up_k x_up_s (by omega)), (x_up_k (x_up_k h5 (by omega)) (by omega)), (x_up_k (x_up_k h6 (by omega)) (by omega)), (x_up_k (x_up_k h7 (by omega)) (by omega)), (x_up_k (x_up_k h8 (by omega)) (by omega)), (x_up_k (x_up_k h9 (by omega)) (by omega)), (x_up_k (x_up_k h10 (by omega)) (by omega)), (x_up_k (x_up_k h11 (by omega)) (by omega)), (x_up_k (x_up_k h12 (by omega)) (by omega)), (x_up_k (x_up_k h13 (by omega)) (by omega)), (x_up_k (x_up_k h14 (by omega)) (by omega)), (x_up_k (x_up_k h15 (by omega)) (by omega)), (x_up_k (x_up_k h16 (by omega)) (by omega)), (x_up_k (x_up_k h17 (by omega)) (by omega)), (x_up_k (x_up_k h18 (by omega)) (by omega)), by omega, by omega, by omega, by omega, by omega, by omega⟩ (nI (3)) (nI (q + rM tx sn q))) rfl (x_up_k (x_up_k h0 (by omega)) (by omega)) rfl rfl (Nat.le_of_ble_eq_true rfl) ⟨Nat.le_of_ble_eq_true rfl, Nat.le_of_ble_eq_true rfl⟩ ⟨Nat.le_of_ble_eq_true rfl, Nat.le_of_ble_eq_true rfl⟩ (fun r' n' M520 hp => ?_)
                            obtain ⟨hr', hn', hM520, hf520⟩ := hp
                            rw [hn', hr']
                            obtain ⟨v520_0, v520_1, v520_2, v520_3, v520_4, v520_5, v520_6, v520_7, v520_8, v520_9, v520_10, v520_11, v520_12, v520_13, v520_14, v520_15, v520_16, v520_17, v520_18, vb520_0, vb520_1, vb520_2, vb520_3, vb520_4, vb520_5⟩ := id hM520
                            show xW p l e ({ frames := 4, cells := 0, slots := 0, locals := 96 } : Room) s m args below meth c D xcl (x_A M nx) 8 (MQ below (x_Q D xcl (x_A M nx) (mcPost nx M a th sg sn pr fk fp rws cd ds wc wd nn nE nC nK nO ln lF lC lT lO fn fC fP ak ac pt n (rM tx sn q) (cN tx (q + rM tx sn q) (rD tx sn (q + rM tx sn q))) (mrc tx sn ds xs dg n q))) args s 0 0 (x_A M nx)) 0 0 (nx) M520 253 [(7, .int ((-1))), (6, .int (nI (rD tx sn (q + rM tx sn q)))), (5, .int (nI (q + rM tx sn q))), (4, .int (nI (rM tx sn q))), (3, .int (nI (120 + n))), (2, .int (nI (n))), (0, .ref (a)), (1, .int (nI (q)))] [.int (nI (0))]
                            exact x_zret F hr (by rfl) dM_readsCode_253 (by rw [show mrc tx sn ds xs dg n q = some (3, q + rM tx sn q) from by rw [mrc, if_neg (fun z => c1 z.1), if_neg h70, if_neg c4, if_neg (by omega), if_neg c6, if_neg (by omega), if_neg c9, if_pos hbad]]; exact ⟨rfl, fun b hb => (hf520 _ (by omega)).trans ((x_up_n (by omega)).trans ((x_up_n (by omega)).trans (rfl))), rfl, _, _, (fun i hi => ⟨updL_ne (by omega), upd_ne (by omega)⟩), hM520⟩)
                    · skip
                      have c10 : rM tx sn q = 0 := by
                        exact (nI_eq (a := rM tx sn q) (b := 0) (by omega) (by omega)).mp c10
                      refine x_iload F 1 dM_readsCode_207 rfl ?_
                      refine x_iconst F (v := nI (2)) dM_readsCode_209 (by decide) ?_
                      refine x_icmp_ne F (tgt := 246) dM_readsCode_210 (by decide) (fun c20 => ?_) (fun c20 => ?_)
                      · skip
                        have c20 : rD tx sn (q + rM tx sn q) ≠ 2 := by
                          have z : ¬ (rD tx sn (q + rM tx sn q) = 2) := fun zz => c20 ((nI_eq (a := rD tx sn (q + rM tx sn q)) (b := 2) (by omega) (by omega)).mpr zz)
                          omega
                        have hbad : mBad ds xs dg n (rM tx sn q) (cN tx (q + rM tx sn q) (rD tx sn (q + rM tx sn q))) (rD tx sn (q + rM tx sn q)) = true := by rw [mBad, if_pos c10, decide_eq_false c20]; rfl
                        refine x_aload_n F 6 dM_readsCode_246 rfl rfl ?_
                        refine x_iconst F (v := nI (3)) dM_readsCode_247 (by decide) ?_
                        refine x_iload F 2 dM_readsCode_248 rfl ?_
                        refine yVr (n := 2) (As := [.int (nI (3)), .int (nI (q + rM tx sn q))]) (ci := 6) F kmM_115 kiM_fails ksM_fails knM kcM_fails (by decide +kernel) dM_readsCode_250 (cM_fails l (nx) (x_up (x_up M (a + 4) (.inl (.int, 160, .inl (upd (ds) (120 + n) (nI (rM tx sn q)))))) (a + 3) (.inl (.long, 160, .inr (.inl (vp_updL (cd) (120 + n) (lN (cN tx (q + rM tx sn q) (rD tx sn (q + rM tx sn q))))))))) (a) th sg sn pr fk fp rws (vp_updL (cd) (120 + n) (lN (cN tx (q + rM tx sn q) (rD tx sn (q + rM tx sn q))))) (upd (ds) (120 + n) (nI (rM tx sn q))) wc wd nn nE nC nK nO ln lF lC lT lO fn fC fP ak ac pt ⟨(x_up_k (x_up_k h0 (by omega)) (by omega)), (x_up_k (x_up_k h1 (by omega)) (by omega)), (x_up_k (x_up_k h2 (by omega)) (by omega)), x_up_s, (x_up_k x_up_s (by omega)), (x_up_k (x_up_k h5 (by omega)) (by omega)), (x_up_k (x_up_k h6 (by omega)) (by omega)), (x_up_k (x_up_k h7 (by omega)) (by omega)), (x_up_k (x_up_k h8 (by omega)) (by omega)), (x_up_k (x_up_k h9 (by omega)) (by omega)), (x_up_k (x_up_k h10 (by omega)) (by omega)), (x_up_k (x_up_k h11 (by omega)) (by omega)), (x_up_k (x_up_k h12 (by omega)) (by omega)), (x_up_k (x_up_k h13 (by omega)) (by omega)), (x_up_k (x_up_k h14 (by omega)) (by omega)), (x_up_k (x_up_k h15 (by omega)) (by omega)), (x_up_k (x_up_k h16 (by omega)) (by omega)), (x_up_k (x_up_k h17 (by omega)) (by omega)), (x_up_k (x_up_k h18 (by omega)) (by omega)), by omega, by omega, by omega, by omega, by omega, by omega⟩ (nI (3)) (nI (q + rM tx sn q))) rfl (x_up_k (x_up_k h0 (by omega)) (by omega)) rfl rfl (Nat.le_of_ble_eq_true rfl) ⟨Nat.le_of_ble_eq_true rfl, Nat.le_of_ble_eq_true rfl⟩ ⟨Nat.le_of_ble_eq_true rfl, Nat.le_of_ble_eq_true rfl⟩ (fun r' n' M521 hp => ?_)
                        obtain ⟨hr', hn', hM521, hf521⟩ := hp
                        rw [hn', hr']
                        obtain ⟨v521_0, v521_1, v521_2, v521_3, v521_4, v521_5, v521_6, v521_7, v521_8, v521_9, v521_10, v521_11, v521_12, v521_13, v521_14, v521_15, v521_16, v521_17, v521_18, vb521_0, vb521_1, vb521_2, vb521_3, vb521_4, vb521_5⟩ := id hM521
                        show xW p l e ({ frames := 4, cells := 0, slots := 0, locals := 96 } : Room) s m args below meth c D xcl (x_A M nx) 8 (MQ below (x_Q D xcl (x_A M nx) (mcPost nx M a th sg sn pr fk fp rws cd ds wc wd nn nE nC nK nO ln lF lC lT lO fn fC fP ak ac pt n (rM tx sn q) (cN tx (q + rM tx sn q) (rD tx sn (q + rM tx sn q))) (mrc tx sn ds xs dg n q))) args s 0 0 (x_A M nx)) 0 0 (nx) M521 253 [(7, .int ((-1))), (6, .int (nI (rD tx sn (q + rM tx sn q)))), (5, .int (nI (q + rM tx sn q))), (4, .int (nI (rM tx sn q))), (3, .int (nI (120 + n))), (2, .int (nI (n))), (0, .ref (a)), (1, .int (nI (q)))] [.int (nI (0))]
                        exact x_zret F hr (by rfl) dM_readsCode_253 (by rw [show mrc tx sn ds xs dg n q = some (3, q + rM tx sn q) from by rw [mrc, if_neg (fun z => c1 z.1), if_neg h70, if_neg c4, if_neg (by omega), if_neg c6, if_neg (by omega), if_neg c9, if_pos hbad]]; exact ⟨rfl, fun b hb => (hf521 _ (by omega)).trans ((x_up_n (by omega)).trans ((x_up_n (by omega)).trans (rfl))), rfl, _, _, (fun i hi => ⟨updL_ne (by omega), upd_ne (by omega)⟩), hM521⟩)
                      · skip
                        have c20 : rD tx sn (q + rM tx sn q) = 2 := by
                          exact (nI_eq (a := rD tx sn (q + rM tx sn q)) (b := 2) (by omega) (by omega)).mp c20
                        refine x_iload F 3 dM_readsCode_213 rfl ?_
                        refine x_if_le F (tgt := 254) dM_readsCode_215 (by decide) (fun c21 => ?_) (fun c21 => ?_)
                        · skip
                          have c21 : rM tx sn q ≤ 0 := by
                            exact (nI_leI (a := rM tx sn q) (b := 0) (by omega) (by omega)).mp c21
                          have hbad : mBad ds xs dg n (rM tx sn q) (cN tx (q + rM tx sn q) (rD tx sn (q + rM tx sn q))) (rD tx sn (q + rM tx sn q)) = false := by rw [mBad, if_pos (by omega), decide_eq_true (by omega)]; rfl
                          refine x_iload_n F 5 dM_readsCode_254 rfl rfl ?_
                          refine x_if_eq F (tgt := 288) dM_readsCode_255 (by decide) (fun c22 => ?_) (fun c22 => ?_)
                          · skip
                            have c22 : n = 0 := by
                              exact (nI_eq (a := n) (b := 0) (by omega) (by omega)).mp c22
                            have hbeh : mBeh xs dg n (cN tx (q + rM tx sn q) (rD tx sn (q + rM tx sn q))) (rD tx sn (q + rM tx sn q)) = true := by rw [c22]; rfl
                            refine x_iconst F (v := nI (1)) dM_readsCode_288 (by decide) ?_
                            refine x_goto F (tgt := 293) dM_readsCode_289 (by decide) ?_
                            exact x_zret F hr (by rfl) dM_readsCode_293 (by rw [show mrc tx sn ds xs dg n q = none from by rw [mrc, if_neg (fun z => c1 z.1), if_neg h70, if_neg c4, if_neg (by omega), if_neg c6, if_neg (by omega), if_neg c9, if_neg (by rw [hbad]; decide), if_neg (by rw [hbeh]; decide)]]; exact ⟨rfl, fun b hb => (x_up_n (by omega)).trans ((x_up_n (by omega)).trans (rfl)), rfl, ⟨(x_up_k (x_up_k h0 (by omega)) (by omega)), (x_up_k (x_up_k h1 (by omega)) (by omega)), (x_up_k (x_up_k h2 (by omega)) (by omega)), x_up_s, (x_up_k x_up_s (by omega)), (x_up_k (x_up_k h5 (by omega)) (by omega)), (x_up_k (x_up_k h6 (by omega)) (by omega)), (x_up_k (x_up_k h7 (by omega)) (by omega)), (x_up_k (x_up_k h8 (by omega)) (by omega)), (x_up_k (x_up_k h9 (by omega)) (by omega)), (x_up_k (x_up_k h10 (by omega)) (by omega)), (x_up_k (x_up_k h11 (by omega)) (by omega)), (x_up_k (x_up_k h12 (by omega)) (by omega)), (x_up_k (x_up_k h13 (by omega)) (by omega)), (x_up_k (x_up_k h14 (by omega)) (by omega)), (x_up_k (x_up_k h15 (by omega)) (by omega)), (x_up_k (x_up_k h16 (by omega)) (by omega)), (x_up_k (x_up_k h17 (by omega)) (by omega)), (x_up_k (x_up_k h18 (by omega)) (by omega)), by omega, by omega, by omega, by omega, by omega, by omega⟩⟩)
                          · skip
                            have c22 : n ≠ 0 := by
                              have z : ¬ (n = 0) := fun zz => c22 ((nI_eq (a := n) (b := 0) (by omega) (by omega)).mpr zz)
                              omega
                            obtain ⟨n0, hn1⟩ : ∃ n0, n = n0 + 1 := ⟨n - 1, by omega⟩
                            refine x_aload_n F 6 dM_readsCode_258 rfl rfl ?_
                            refine x_get (ci := 6) F 7 (x_in inM) rfl (by decide) (x_m kfM_20) dM_readsCode_259 (x_up_k (x_up_k h0 (by omega)) (by omega)) rfl ?_
                            refine x_iload_n F 4 dM_readsCode_262 rfl rfl ?_
                            refine x_lald F dM_readsCode_263 x_up_s (pk_in (120 + n) (160) (by omega)) ?_
                            refine xW.tol (lN (cN tx (q + rM tx sn q) (rD tx sn (q + rM tx sn q)))) (by rw [nI_clamp (by omega)]; exact vp_us) ?_
                            refine x_aload_n F 6 dM_readsCode_264 rfl rfl ?_
                            refine x_get (ci := 6) F 7 (x_in inM) rfl (by decide) (x_m kfM_20) dM_readsCode_265 (x_up_k (x_up_k h0 (by omega)) (by omega)) rfl ?_
                            refine x_iload_n F 4 dM_readsCode_268 rfl rfl ?_
                            refine x_iconst F (v := nI (1)) dM_readsCode_269 (by decide) ?_
                            refine x_isub F dM_readsCode_270 ?_
                            refine xW.toi (nI (120 + n0)) (by rw [hn1]; exact nI_pred (120 + n0)) ?_
                            refine x_lald F dM_readsCode_271 x_up_s (pk_in (120 + n0) (160) (by omega)) ?_
                            refine xW.tol (lN (xs n0)) (by rw [nI_clamp (by omega)]; exact (updL_ne (by omega)).trans (hcd n0 (by omega)).1) ?_
                            refine yS (n := 2) (As := [.long (lN (cN tx (q + rM tx sn q) (rD tx sn (q + rM tx sn q)))), .long (lN (xs n0))]) F kmM_126 ktM_isBehind knM kcM_isBehind (by decide +kernel) dM_readsCode_272 (cM_isBehind l (nx) (x_up (x_up M (a + 4) (.inl (.int, 160, .inl (upd (ds) (120 + n) (nI (rM tx sn q)))))) (a + 3) (.inl (.long, 160, .inr (.inl (vp_updL (cd) (120 + n) (lN (cN tx (q + rM tx sn q) (rD tx sn (q + rM tx sn q))))))))) (cN tx (q + rM tx sn q) (rD tx sn (q + rM tx sn q))) (rD tx sn (q + rM tx sn q)) (xs n0) (dg n0) hX10 (hcd n0 (by omega)).2) rfl rfl (Nat.le_of_ble_eq_true rfl) ⟨Nat.le_of_ble_eq_true rfl, Nat.le_of_ble_eq_true rfl⟩ ⟨Nat.le_of_ble_eq_true rfl, Nat.le_of_ble_eq_true rfl⟩ ?_
                            refine x_if_ne F (tgt := 288) dM_readsCode_275 (by decide) (fun c23 => ?_) (fun c23 => ?_)
                            · skip
                              have c23 : (mbh (cN tx (q + rM tx sn q) (rD tx sn (q + rM tx sn q))) (rD tx sn (q + rM tx sn q)) (xs n0) (dg n0)) = true := bI_1 c23
                              have hbeh : mBeh xs dg n (cN tx (q + rM tx sn q) (rD tx sn (q + rM tx sn q))) (rD tx sn (q + rM tx sn q)) = true := by rw [hn1]; exact c23
                              refine x_iconst F (v := nI (1)) dM_readsCode_288 (by decide) ?_
                              refine x_goto F (tgt := 293) dM_readsCode_289 (by decide) ?_
                              exact x_zret F hr (by rfl) dM_readsCode_293 (by rw [show mrc tx sn ds xs dg n q = none from by rw [mrc, if_neg (fun z => c1 z.1), if_neg h70, if_neg c4, if_neg (by omega), if_neg c6, if_neg (by omega), if_neg c9, if_neg (by rw [hbad]; decide), if_neg (by rw [hbeh]; decide)]]; exact ⟨rfl, fun b hb => (x_up_n (by omega)).trans ((x_up_n (by omega)).trans (rfl)), rfl, ⟨(x_up_k (x_up_k h0 (by omega)) (by omega)), (x_up_k (x_up_k h1 (by omega)) (by omega)), (x_up_k (x_up_k h2 (by omega)) (by omega)), x_up_s, (x_up_k x_up_s (by omega)), (x_up_k (x_up_k h5 (by omega)) (by omega)), (x_up_k (x_up_k h6 (by omega)) (by omega)), (x_up_k (x_up_k h7 (by omega)) (by omega)), (x_up_k (x_up_k h8 (by omega)) (by omega)), (x_up_k (x_up_k h9 (by omega)) (by omega)), (x_up_k (x_up_k h10 (by omega)) (by omega)), (x_up_k (x_up_k h11 (by omega)) (by omega)), (x_up_k (x_up_k h12 (by omega)) (by omega)), (x_up_k (x_up_k h13 (by omega)) (by omega)), (x_up_k (x_up_k h14 (by omega)) (by omega)), (x_up_k (x_up_k h15 (by omega)) (by omega)), (x_up_k (x_up_k h16 (by omega)) (by omega)), (x_up_k (x_up_k h17 (by omega)) (by omega)), (x_up_k (x_up_k h18 (by omega)) (by omega)), by omega, by omega, by omega, by omega, by omega, by omega⟩⟩)
                            · skip
                              have c23 : (mbh (cN tx (q + rM tx sn q) (rD tx sn (q + rM tx sn q))) (rD tx sn (q + rM tx sn q)) (xs n0) (dg n0)) = false := bI_0 c23
                              have hbeh : mBeh xs dg n (cN tx (q + rM tx sn q) (rD tx sn (q + rM tx sn q))) (rD tx sn (q + rM tx sn q)) = false := by rw [hn1]; exact c23
                              refine x_aload_n F 6 dM_readsCode_278 rfl rfl ?_
                              refine x_iconst F (v := nI (4)) dM_readsCode_279 (by decide) ?_
                              refine x_iload F 2 dM_readsCode_280 rfl ?_
                              refine yVr (n := 2) (As := [.int (nI (4)), .int (nI (q + rM tx sn q))]) (ci := 6) F kmM_115 kiM_fails ksM_fails knM kcM_fails (by decide +kernel) dM_readsCode_282 (cM_fails l (nx) (x_up (x_up M (a + 4) (.inl (.int, 160, .inl (upd (ds) (120 + n) (nI (rM tx sn q)))))) (a + 3) (.inl (.long, 160, .inr (.inl (vp_updL (cd) (120 + n) (lN (cN tx (q + rM tx sn q) (rD tx sn (q + rM tx sn q))))))))) (a) th sg sn pr fk fp rws (vp_updL (cd) (120 + n) (lN (cN tx (q + rM tx sn q) (rD tx sn (q + rM tx sn q))))) (upd (ds) (120 + n) (nI (rM tx sn q))) wc wd nn nE nC nK nO ln lF lC lT lO fn fC fP ak ac pt ⟨(x_up_k (x_up_k h0 (by omega)) (by omega)), (x_up_k (x_up_k h1 (by omega)) (by omega)), (x_up_k (x_up_k h2 (by omega)) (by omega)), x_up_s, (x_up_k x_up_s (by omega)), (x_up_k (x_up_k h5 (by omega)) (by omega)), (x_up_k (x_up_k h6 (by omega)) (by omega)), (x_up_k (x_up_k h7 (by omega)) (by omega)), (x_up_k (x_up_k h8 (by omega)) (by omega)), (x_up_k (x_up_k h9 (by omega)) (by omega)), (x_up_k (x_up_k h10 (by omega)) (by omega)), (x_up_k (x_up_k h11 (by omega)) (by omega)), (x_up_k (x_up_k h12 (by omega)) (by omega)), (x_up_k (x_up_k h13 (by omega)) (by omega)), (x_up_k (x_up_k h14 (by omega)) (by omega)), (x_up_k (x_up_k h15 (by omega)) (by omega)), (x_up_k (x_up_k h16 (by omega)) (by omega)), (x_up_k (x_up_k h17 (by omega)) (by omega)), (x_up_k (x_up_k h18 (by omega)) (by omega)), by omega, by omega, by omega, by omega, by omega, by omega⟩ (nI (4)) (nI (q + rM tx sn q))) rfl (x_up_k (x_up_k h0 (by omega)) (by omega)) rfl rfl (Nat.le_of_ble_eq_true rfl) ⟨Nat.le_of_ble_eq_true rfl, Nat.le_of_ble_eq_true rfl⟩ ⟨Nat.le_of_ble_eq_true rfl, Nat.le_of_ble_eq_true rfl⟩ (fun r' n' M522 hp => ?_)
                              obtain ⟨hr', hn', hM522, hf522⟩ := hp
                              rw [hn', hr']
                              obtain ⟨v522_0, v522_1, v522_2, v522_3, v522_4, v522_5, v522_6, v522_7, v522_8, v522_9, v522_10, v522_11, v522_12, v522_13, v522_14, v522_15, v522_16, v522_17, v522_18, vb522_0, vb522_1, vb522_2, vb522_3, vb522_4, vb522_5⟩ := id hM522
                              show xW p l e ({ frames := 4, cells := 0, slots := 0, locals := 96 } : Room) s m args below meth c D xcl (x_A M nx) 8 (MQ below (x_Q D xcl (x_A M nx) (mcPost nx M a th sg sn pr fk fp rws cd ds wc wd nn nE nC nK nO ln lF lC lT lO fn fC fP ak ac pt n (rM tx sn q) (cN tx (q + rM tx sn q) (rD tx sn (q + rM tx sn q))) (mrc tx sn ds xs dg n q))) args s 0 0 (x_A M nx)) 0 0 (nx) M522 285 [(7, .int ((-1))), (6, .int (nI (rD tx sn (q + rM tx sn q)))), (5, .int (nI (q + rM tx sn q))), (4, .int (nI (rM tx sn q))), (3, .int (nI (120 + n))), (2, .int (nI (n))), (0, .ref (a)), (1, .int (nI (q)))] [.int (nI (0))]
                              refine x_if_eq F (tgt := 292) dM_readsCode_285 (by decide) (fun c24 => ?_) (fun c24 => ?_)
                              · skip
                                have c24 : 0 = 0 := by
                                  exact (nI_eq (a := 0) (b := 0) (by omega) (by omega)).mp c24
                                refine x_iconst F (v := nI (0)) dM_readsCode_292 (by decide) ?_
                                exact x_zret F hr (by rfl) dM_readsCode_293 (by rw [show mrc tx sn ds xs dg n q = some (4, q + rM tx sn q) from by rw [mrc, if_neg (fun z => c1 z.1), if_neg h70, if_neg c4, if_neg (by omega), if_neg c6, if_neg (by omega), if_neg c9, if_neg (by rw [hbad]; decide), if_pos hbeh]]; exact ⟨rfl, fun b hb => (hf522 _ (by omega)).trans ((x_up_n (by omega)).trans ((x_up_n (by omega)).trans (rfl))), rfl, _, _, (fun i hi => ⟨updL_ne (by omega), upd_ne (by omega)⟩), hM522⟩)
                              · skip
                                have c24 : 0 ≠ 0 := by
                                  have z : ¬ (0 = 0) := fun zz => c24 ((nI_eq (a := 0) (b := 0) (by omega) (by omega)).mpr zz)
                                  omega
                                exact absurd c24 (by decide)
                        · skip
                          have c21 : 0 < rM tx sn q := by
                            have z : ¬ (rM tx sn q ≤ 0) := fun zz => c21 ((nI_leI (a := rM tx sn q) (b := 0) (by omega) (by omega)).mpr zz)
                            omega
                          refine x_aload_n F 6 dM_readsCode_218 rfl rfl ?_
                          refine x_get (ci := 6) F 7 (x_in inM) rfl (by decide) (x_m kfM_20) dM_readsCode_219 (x_up_k (x_up_k h0 (by omega)) (by omega)) rfl ?_
                          refine x_iload_n F 4 dM_readsCode_222 rfl rfl ?_
                          refine x_lald F dM_readsCode_223 x_up_s (pk_in (120 + n) (160) (by omega)) ?_
                          refine xW.tol (lN (cN tx (q + rM tx sn q) (rD tx sn (q + rM tx sn q)))) (by rw [nI_clamp (by omega)]; exact vp_us) ?_
                          refine x_aload_n F 6 dM_readsCode_224 rfl rfl ?_
                          refine x_get (ci := 6) F 7 (x_in inM) rfl (by decide) (x_m kfM_20) dM_readsCode_225 (x_up_k (x_up_k h0 (by omega)) (by omega)) rfl ?_
                          refine x_iload F 0 dM_readsCode_228 rfl ?_
                          refine x_if_ge F (tgt := 237) dM_readsCode_230 (by decide) (fun c25 => ?_) (fun c25 => ?_)
                          · skip
                            exact absurd c25 (by decide)
                          · skip
                            refine x_iload_n F 4 dM_readsCode_233 rfl rfl ?_
                            refine x_goto F (tgt := 239) dM_readsCode_234 (by decide) ?_
                            refine x_lald F dM_readsCode_239 x_up_s (pk_in (120 + n) (160) (by omega)) ?_
                            refine xW.tol (lN (cN tx (q + rM tx sn q) (rD tx sn (q + rM tx sn q)))) (by rw [nI_clamp (by omega)]; exact vp_us) ?_
                            refine yS (n := 2) (As := [.long (lN (cN tx (q + rM tx sn q) (rD tx sn (q + rM tx sn q)))), .long (lN (cN tx (q + rM tx sn q) (rD tx sn (q + rM tx sn q))))]) F kmM_107 ktM_begins knM kcM_begins (by decide +kernel) dM_readsCode_240 (cM_begins l (nx) (x_up (x_up M (a + 4) (.inl (.int, 160, .inl (upd (ds) (120 + n) (nI (rM tx sn q)))))) (a + 3) (.inl (.long, 160, .inr (.inl (vp_updL (cd) (120 + n) (lN (cN tx (q + rM tx sn q) (rD tx sn (q + rM tx sn q))))))))) (cN tx (q + rM tx sn q) (rD tx sn (q + rM tx sn q))) (rD tx sn (q + rM tx sn q)) (cN tx (q + rM tx sn q) (rD tx sn (q + rM tx sn q))) (rD tx sn (q + rM tx sn q)) hX10 hX10) rfl rfl (Nat.le_of_ble_eq_true rfl) ⟨Nat.le_of_ble_eq_true rfl, Nat.le_of_ble_eq_true rfl⟩ ⟨Nat.le_of_ble_eq_true rfl, Nat.le_of_ble_eq_true rfl⟩ ?_
                            refine x_if_ne F (tgt := 254) dM_readsCode_243 (by decide) (fun c26 => ?_) (fun c26 => ?_)
                            · skip
                              have c26 : (mbg (cN tx (q + rM tx sn q) (rD tx sn (q + rM tx sn q))) (rD tx sn (q + rM tx sn q)) (cN tx (q + rM tx sn q) (rD tx sn (q + rM tx sn q))) (rD tx sn (q + rM tx sn q))) = true := bI_1 c26
                              have hla := mUp_la (by omega) hup
                              have hbad : mBad ds xs dg n (rM tx sn q) (cN tx (q + rM tx sn q) (rD tx sn (q + rM tx sn q))) (rD tx sn (q + rM tx sn q)) = false := by rw [mBad, if_neg (by omega), hla]; rw [mbg_self] at c26; cases c26
                              refine x_iload_n F 5 dM_readsCode_254 rfl rfl ?_
                              refine x_if_eq F (tgt := 288) dM_readsCode_255 (by decide) (fun c27 => ?_) (fun c27 => ?_)
                              · skip
                                have c27 : n = 0 := by
                                  exact (nI_eq (a := n) (b := 0) (by omega) (by omega)).mp c27
                                have hbeh : mBeh xs dg n (cN tx (q + rM tx sn q) (rD tx sn (q + rM tx sn q))) (rD tx sn (q + rM tx sn q)) = true := by rw [c27]; rfl
                                refine x_iconst F (v := nI (1)) dM_readsCode_288 (by decide) ?_
                                refine x_goto F (tgt := 293) dM_readsCode_289 (by decide) ?_
                                exact x_zret F hr (by rfl) dM_readsCode_293 (by rw [show mrc tx sn ds xs dg n q = none from by rw [mrc, if_neg (fun z => c1 z.1), if_neg h70, if_neg c4, if_neg (by omega), if_neg c6, if_neg (by omega), if_neg c9, if_neg (by rw [hbad]; decide), if_neg (by rw [hbeh]; decide)]]; exact ⟨rfl, fun b hb => (x_up_n (by omega)).trans ((x_up_n (by omega)).trans (rfl)), rfl, ⟨(x_up_k (x_up_k h0 (by omega)) (by omega)), (x_up_k (x_up_k h1 (by omega)) (by omega)), (x_up_k (x_up_k h2 (by omega)) (by omega)), x_up_s, (x_up_k x_up_s (by omega)), (x_up_k (x_up_k h5 (by omega)) (by omega)), (x_up_k (x_up_k h6 (by omega)) (by omega)), (x_up_k (x_up_k h7 (by omega)) (by omega)), (x_up_k (x_up_k h8 (by omega)) (by omega)), (x_up_k (x_up_k h9 (by omega)) (by omega)), (x_up_k (x_up_k h10 (by omega)) (by omega)), (x_up_k (x_up_k h11 (by omega)) (by omega)), (x_up_k (x_up_k h12 (by omega)) (by omega)), (x_up_k (x_up_k h13 (by omega)) (by omega)), (x_up_k (x_up_k h14 (by omega)) (by omega)), (x_up_k (x_up_k h15 (by omega)) (by omega)), (x_up_k (x_up_k h16 (by omega)) (by omega)), (x_up_k (x_up_k h17 (by omega)) (by omega)), (x_up_k (x_up_k h18 (by omega)) (by omega)), by omega, by omega, by omega, by omega, by omega, by omega⟩⟩)
                              · skip
                                have c27 : n ≠ 0 := by
                                  have z : ¬ (n = 0) := fun zz => c27 ((nI_eq (a := n) (b := 0) (by omega) (by omega)).mpr zz)
                                  omega
                                obtain ⟨n0, hn1⟩ : ∃ n0, n = n0 + 1 := ⟨n - 1, by omega⟩
                                refine x_aload_n F 6 dM_readsCode_258 rfl rfl ?_
                                refine x_get (ci := 6) F 7 (x_in inM) rfl (by decide) (x_m kfM_20) dM_readsCode_259 (x_up_k (x_up_k h0 (by omega)) (by omega)) rfl ?_
                                refine x_iload_n F 4 dM_readsCode_262 rfl rfl ?_
                                refine x_lald F dM_readsCode_263 x_up_s (pk_in (120 + n) (160) (by omega)) ?_
                                refine xW.tol (lN (cN tx (q + rM tx sn q) (rD tx sn (q + rM tx sn q)))) (by rw [nI_clamp (by omega)]; exact vp_us) ?_
                                refine x_aload_n F 6 dM_readsCode_264 rfl rfl ?_
                                refine x_get (ci := 6) F 7 (x_in inM) rfl (by decide) (x_m kfM_20) dM_readsCode_265 (x_up_k (x_up_k h0 (by omega)) (by omega)) rfl ?_
                                refine x_iload_n F 4 dM_readsCode_268 rfl rfl ?_
                                refine x_iconst F (v := nI (1)) dM_readsCode_269 (by decide) ?_
                                refine x_isub F dM_readsCode_270 ?_
                                refine xW.toi (nI (120 + n0)) (by rw [hn1]; exact nI_pred (120 + n0)) ?_
                                refine x_lald F dM_readsCode_271 x_up_s (pk_in (120 + n0) (160) (by omega)) ?_
                                refine xW.tol (lN (xs n0)) (by rw [nI_clamp (by omega)]; exact (updL_ne (by omega)).trans (hcd n0 (by omega)).1) ?_
                                refine yS (n := 2) (As := [.long (lN (cN tx (q + rM tx sn q) (rD tx sn (q + rM tx sn q)))), .long (lN (xs n0))]) F kmM_126 ktM_isBehind knM kcM_isBehind (by decide +kernel) dM_readsCode_272 (cM_isBehind l (nx) (x_up (x_up M (a + 4) (.inl (.int, 160, .inl (upd (ds) (120 + n) (nI (rM tx sn q)))))) (a + 3) (.inl (.long, 160, .inr (.inl (vp_updL (cd) (120 + n) (lN (cN tx (q + rM tx sn q) (rD tx sn (q + rM tx sn q))))))))) (cN tx (q + rM tx sn q) (rD tx sn (q + rM tx sn q))) (rD tx sn (q + rM tx sn q)) (xs n0) (dg n0) hX10 (hcd n0 (by omega)).2) rfl rfl (Nat.le_of_ble_eq_true rfl) ⟨Nat.le_of_ble_eq_true rfl, Nat.le_of_ble_eq_true rfl⟩ ⟨Nat.le_of_ble_eq_true rfl, Nat.le_of_ble_eq_true rfl⟩ ?_
                                refine x_if_ne F (tgt := 288) dM_readsCode_275 (by decide) (fun c28 => ?_) (fun c28 => ?_)
                                · skip
                                  have c28 : (mbh (cN tx (q + rM tx sn q) (rD tx sn (q + rM tx sn q))) (rD tx sn (q + rM tx sn q)) (xs n0) (dg n0)) = true := bI_1 c28
                                  have hbeh : mBeh xs dg n (cN tx (q + rM tx sn q) (rD tx sn (q + rM tx sn q))) (rD tx sn (q + rM tx sn q)) = true := by rw [hn1]; exact c28
                                  refine x_iconst F (v := nI (1)) dM_readsCode_288 (by decide) ?_
                                  refine x_goto F (tgt := 293) dM_readsCode_289 (by decide) ?_
                                  exact x_zret F hr (by rfl) dM_readsCode_293 (by rw [show mrc tx sn ds xs dg n q = none from by rw [mrc, if_neg (fun z => c1 z.1), if_neg h70, if_neg c4, if_neg (by omega), if_neg c6, if_neg (by omega), if_neg c9, if_neg (by rw [hbad]; decide), if_neg (by rw [hbeh]; decide)]]; exact ⟨rfl, fun b hb => (x_up_n (by omega)).trans ((x_up_n (by omega)).trans (rfl)), rfl, ⟨(x_up_k (x_up_k h0 (by omega)) (by omega)), (x_up_k (x_up_k h1 (by omega)) (by omega)), (x_up_k (x_up_k h2 (by omega)) (by omega)), x_up_s, (x_up_k x_up_s (by omega)), (x_up_k (x_up_k h5 (by omega)) (by omega)), (x_up_k (x_up_k h6 (by omega)) (by omega)), (x_up_k (x_up_k h7 (by omega)) (by omega)), (x_up_k (x_up_k h8 (by omega)) (by omega)), (x_up_k (x_up_k h9 (by omega)) (by omega)), (x_up_k (x_up_k h10 (by omega)) (by omega)), (x_up_k (x_up_k h11 (by omega)) (by omega)), (x_up_k (x_up_k h12 (by omega)) (by omega)), (x_up_k (x_up_k h13 (by omega)) (by omega)), (x_up_k (x_up_k h14 (by omega)) (by omega)), (x_up_k (x_up_k h15 (by omega)) (by omega)), (x_up_k (x_up_k h16 (by omega)) (by omega)), (x_up_k (x_up_k h17 (by omega)) (by omega)), (x_up_k (x_up_k h18 (by omega)) (by omega)), by omega, by omega, by omega, by omega, by omega, by omega⟩⟩)
                                · skip
                                  have c28 : (mbh (cN tx (q + rM tx sn q) (rD tx sn (q + rM tx sn q))) (rD tx sn (q + rM tx sn q)) (xs n0) (dg n0)) = false := bI_0 c28
                                  have hbeh : mBeh xs dg n (cN tx (q + rM tx sn q) (rD tx sn (q + rM tx sn q))) (rD tx sn (q + rM tx sn q)) = false := by rw [hn1]; exact c28
                                  refine x_aload_n F 6 dM_readsCode_278 rfl rfl ?_
                                  refine x_iconst F (v := nI (4)) dM_readsCode_279 (by decide) ?_
                                  refine x_iload F 2 dM_readsCode_280 rfl ?_
                                  refine yVr (n := 2) (As := [.int (nI (4)), .int (nI (q + rM tx sn q))]) (ci := 6) F kmM_115 kiM_fails ksM_fails knM kcM_fails (by decide +kernel) dM_readsCode_282 (cM_fails l (nx) (x_up (x_up M (a + 4) (.inl (.int, 160, .inl (upd (ds) (120 + n) (nI (rM tx sn q)))))) (a + 3) (.inl (.long, 160, .inr (.inl (vp_updL (cd) (120 + n) (lN (cN tx (q + rM tx sn q) (rD tx sn (q + rM tx sn q))))))))) (a) th sg sn pr fk fp rws (vp_updL (cd) (120 + n) (lN (cN tx (q + rM tx sn q) (rD tx sn (q + rM tx sn q))))) (upd (ds) (120 + n) (nI (rM tx sn q))) wc wd nn nE nC nK nO ln lF lC lT lO fn fC fP ak ac pt ⟨(x_up_k (x_up_k h0 (by omega)) (by omega)), (x_up_k (x_up_k h1 (by omega)) (by omega)), (x_up_k (x_up_k h2 (by omega)) (by omega)), x_up_s, (x_up_k x_up_s (by omega)), (x_up_k (x_up_k h5 (by omega)) (by omega)), (x_up_k (x_up_k h6 (by omega)) (by omega)), (x_up_k (x_up_k h7 (by omega)) (by omega)), (x_up_k (x_up_k h8 (by omega)) (by omega)), (x_up_k (x_up_k h9 (by omega)) (by omega)), (x_up_k (x_up_k h10 (by omega)) (by omega)), (x_up_k (x_up_k h11 (by omega)) (by omega)), (x_up_k (x_up_k h12 (by omega)) (by omega)), (x_up_k (x_up_k h13 (by omega)) (by omega)), (x_up_k (x_up_k h14 (by omega)) (by omega)), (x_up_k (x_up_k h15 (by omega)) (by omega)), (x_up_k (x_up_k h16 (by omega)) (by omega)), (x_up_k (x_up_k h17 (by omega)) (by omega)), (x_up_k (x_up_k h18 (by omega)) (by omega)), by omega, by omega, by omega, by omega, by omega, by omega⟩ (nI (4)) (nI (q + rM tx sn q))) rfl (x_up_k (x_up_k h0 (by omega)) (by omega)) rfl rfl (Nat.le_of_ble_eq_true rfl) ⟨Nat.le_of_ble_eq_true rfl, Nat.le_of_ble_eq_true rfl⟩ ⟨Nat.le_of_ble_eq_true rfl, Nat.le_of_ble_eq_true rfl⟩ (fun r' n' M523 hp => ?_)
                                  obtain ⟨hr', hn', hM523, hf523⟩ := hp
                                  rw [hn', hr']
                                  obtain ⟨v523_0, v523_1, v523_2, v523_3, v523_4, v523_5, v523_6, v523_7, v523_8, v523_9, v523_10, v523_11, v523_12, v523_13, v523_14, v523_15, v523_16, v523_17, v523_18, vb523_0, vb523_1, vb523_2, vb523_3, vb523_4, vb523_5⟩ := id hM523
                                  show xW p l e ({ frames := 4, cells := 0, slots := 0, locals := 96 } : Room) s m args below meth c D xcl (x_A M nx) 8 (MQ below (x_Q D xcl (x_A M nx) (mcPost nx M a th sg sn pr fk fp rws cd ds wc wd nn nE nC nK nO ln lF lC lT lO fn fC fP ak ac pt n (rM tx sn q) (cN tx (q + rM tx sn q) (rD tx sn (q + rM tx sn q))) (mrc tx sn ds xs dg n q))) args s 0 0 (x_A M nx)) 0 0 (nx) M523 285 [(7, .int ((-1))), (6, .int (nI (rD tx sn (q + rM tx sn q)))), (5, .int (nI (q + rM tx sn q))), (4, .int (nI (rM tx sn q))), (3, .int (nI (120 + n))), (2, .int (nI (n))), (0, .ref (a)), (1, .int (nI (q)))] [.int (nI (0))]
                                  refine x_if_eq F (tgt := 292) dM_readsCode_285 (by decide) (fun c29 => ?_) (fun c29 => ?_)
                                  · skip
                                    have c29 : 0 = 0 := by
                                      exact (nI_eq (a := 0) (b := 0) (by omega) (by omega)).mp c29
                                    refine x_iconst F (v := nI (0)) dM_readsCode_292 (by decide) ?_
                                    exact x_zret F hr (by rfl) dM_readsCode_293 (by rw [show mrc tx sn ds xs dg n q = some (4, q + rM tx sn q) from by rw [mrc, if_neg (fun z => c1 z.1), if_neg h70, if_neg c4, if_neg (by omega), if_neg c6, if_neg (by omega), if_neg c9, if_neg (by rw [hbad]; decide), if_pos hbeh]]; exact ⟨rfl, fun b hb => (hf523 _ (by omega)).trans ((x_up_n (by omega)).trans ((x_up_n (by omega)).trans (rfl))), rfl, _, _, (fun i hi => ⟨updL_ne (by omega), upd_ne (by omega)⟩), hM523⟩)
                                  · skip
                                    have c29 : 0 ≠ 0 := by
                                      have z : ¬ (0 = 0) := fun zz => c29 ((nI_eq (a := 0) (b := 0) (by omega) (by omega)).mpr zz)
                                      omega
                                    exact absurd c29 (by decide)
                            · skip
                              have c26 : (mbg (cN tx (q + rM tx sn q) (rD tx sn (q + rM tx sn q))) (rD tx sn (q + rM tx sn q)) (cN tx (q + rM tx sn q) (rD tx sn (q + rM tx sn q))) (rD tx sn (q + rM tx sn q))) = false := bI_0 c26
                              have hla := mUp_la (by omega) hup
                              have hbad : mBad ds xs dg n (rM tx sn q) (cN tx (q + rM tx sn q) (rD tx sn (q + rM tx sn q))) (rD tx sn (q + rM tx sn q)) = true := by rw [mBad, if_neg (by omega), hla]
                              refine x_aload_n F 6 dM_readsCode_246 rfl rfl ?_
                              refine x_iconst F (v := nI (3)) dM_readsCode_247 (by decide) ?_
                              refine x_iload F 2 dM_readsCode_248 rfl ?_
                              refine yVr (n := 2) (As := [.int (nI (3)), .int (nI (q + rM tx sn q))]) (ci := 6) F kmM_115 kiM_fails ksM_fails knM kcM_fails (by decide +kernel) dM_readsCode_250 (cM_fails l (nx) (x_up (x_up M (a + 4) (.inl (.int, 160, .inl (upd (ds) (120 + n) (nI (rM tx sn q)))))) (a + 3) (.inl (.long, 160, .inr (.inl (vp_updL (cd) (120 + n) (lN (cN tx (q + rM tx sn q) (rD tx sn (q + rM tx sn q))))))))) (a) th sg sn pr fk fp rws (vp_updL (cd) (120 + n) (lN (cN tx (q + rM tx sn q) (rD tx sn (q + rM tx sn q))))) (upd (ds) (120 + n) (nI (rM tx sn q))) wc wd nn nE nC nK nO ln lF lC lT lO fn fC fP ak ac pt ⟨(x_up_k (x_up_k h0 (by omega)) (by omega)), (x_up_k (x_up_k h1 (by omega)) (by omega)), (x_up_k (x_up_k h2 (by omega)) (by omega)), x_up_s, (x_up_k x_up_s (by omega)), (x_up_k (x_up_k h5 (by omega)) (by omega)), (x_up_k (x_up_k h6 (by omega)) (by omega)), (x_up_k (x_up_k h7 (by omega)) (by omega)), (x_up_k (x_up_k h8 (by omega)) (by omega)), (x_up_k (x_up_k h9 (by omega)) (by omega)), (x_up_k (x_up_k h10 (by omega)) (by omega)), (x_up_k (x_up_k h11 (by omega)) (by omega)), (x_up_k (x_up_k h12 (by omega)) (by omega)), (x_up_k (x_up_k h13 (by omega)) (by omega)), (x_up_k (x_up_k h14 (by omega)) (by omega)), (x_up_k (x_up_k h15 (by omega)) (by omega)), (x_up_k (x_up_k h16 (by omega)) (by omega)), (x_up_k (x_up_k h17 (by omega)) (by omega)), (x_up_k (x_up_k h18 (by omega)) (by omega)), by omega, by omega, by omega, by omega, by omega, by omega⟩ (nI (3)) (nI (q + rM tx sn q))) rfl (x_up_k (x_up_k h0 (by omega)) (by omega)) rfl rfl (Nat.le_of_ble_eq_true rfl) ⟨Nat.le_of_ble_eq_true rfl, Nat.le_of_ble_eq_true rfl⟩ ⟨Nat.le_of_ble_eq_true rfl, Nat.le_of_ble_eq_true rfl⟩ (fun r' n' M524 hp => ?_)
                              obtain ⟨hr', hn', hM524, hf524⟩ := hp
                              rw [hn', hr']
                              obtain ⟨v524_0, v524_1, v524_2, v524_3, v524_4, v524_5, v524_6, v524_7, v524_8, v524_9, v524_10, v524_11, v524_12, v524_13, v524_14, v524_15, v524_16, v524_17, v524_18, vb524_0, vb524_1, vb524_2, vb524_3, vb524_4, vb524_5⟩ := id hM524
                              show xW p l e ({ frames := 4, cells := 0, slots := 0, locals := 96 } : Room) s m args below meth c D xcl (x_A M nx) 8 (MQ below (x_Q D xcl (x_A M nx) (mcPost nx M a th sg sn pr fk fp rws cd ds wc wd nn nE nC nK nO ln lF lC lT lO fn fC fP ak ac pt n (rM tx sn q) (cN tx (q + rM tx sn q) (rD tx sn (q + rM tx sn q))) (mrc tx sn ds xs dg n q))) args s 0 0 (x_A M nx)) 0 0 (nx) M524 253 [(7, .int ((-1))), (6, .int (nI (rD tx sn (q + rM tx sn q)))), (5, .int (nI (q + rM tx sn q))), (4, .int (nI (rM tx sn q))), (3, .int (nI (120 + n))), (2, .int (nI (n))), (0, .ref (a)), (1, .int (nI (q)))] [.int (nI (0))]
                              exact x_zret F hr (by rfl) dM_readsCode_253 (by rw [show mrc tx sn ds xs dg n q = some (3, q + rM tx sn q) from by rw [mrc, if_neg (fun z => c1 z.1), if_neg h70, if_neg c4, if_neg (by omega), if_neg c6, if_neg (by omega), if_neg c9, if_pos hbad]]; exact ⟨rfl, fun b hb => (hf524 _ (by omega)).trans ((x_up_n (by omega)).trans ((x_up_n (by omega)).trans (rfl))), rfl, _, _, (fun i hi => ⟨updL_ne (by omega), upd_ne (by omega)⟩), hM524⟩)
                  · skip
                    have hj : j < n := mUp_lt hup
                    refine xW.ste (st' := [.int (nI (120 + j))]) (by show ([.int (oj 120 (mUp (upd ds (120 + n) (nI (rM tx sn q))) 120 n))] : List Value) = _; rw [hup]; rfl) ?_
                    refine x_istore F [(7, .int (nI (120 + j))), (6, .int (nI (rD tx sn (q + rM tx sn q)))), (5, .int (nI (q + rM tx sn q))), (4, .int (nI (rM tx sn q))), (3, .int (nI (120 + n))), (2, .int (nI (n))), (0, .ref (a)), (1, .int (nI (q)))] dM_readsCode_200 (by decide) rfl ?_
                    refine x_iload F 3 dM_readsCode_202 rfl ?_
                    refine x_if_ne F (tgt := 213) dM_readsCode_204 (by decide) (fun c30 => ?_) (fun c30 => ?_)
                    · skip
                      have c30 : rM tx sn q ≠ 0 := by
                        have z : ¬ (rM tx sn q = 0) := fun zz => c30 ((nI_eq (a := rM tx sn q) (b := 0) (by omega) (by omega)).mpr zz)
                        omega
                      refine x_iload F 3 dM_readsCode_213 rfl ?_
                      refine x_if_le F (tgt := 254) dM_readsCode_215 (by decide) (fun c31 => ?_) (fun c31 => ?_)
                      · skip
                        have c31 : rM tx sn q ≤ 0 := by
                          exact (nI_leI (a := rM tx sn q) (b := 0) (by omega) (by omega)).mp c31
                        have hbad : mBad ds xs dg n (rM tx sn q) (cN tx (q + rM tx sn q) (rD tx sn (q + rM tx sn q))) (rD tx sn (q + rM tx sn q)) = false := by rw [mBad, if_pos (by omega), decide_eq_true (by omega)]; rfl
                        refine x_iload_n F 5 dM_readsCode_254 rfl rfl ?_
                        refine x_if_eq F (tgt := 288) dM_readsCode_255 (by decide) (fun c32 => ?_) (fun c32 => ?_)
                        · skip
                          have c32 : n = 0 := by
                            exact (nI_eq (a := n) (b := 0) (by omega) (by omega)).mp c32
                          have hbeh : mBeh xs dg n (cN tx (q + rM tx sn q) (rD tx sn (q + rM tx sn q))) (rD tx sn (q + rM tx sn q)) = true := by rw [c32]; rfl
                          refine x_iconst F (v := nI (1)) dM_readsCode_288 (by decide) ?_
                          refine x_goto F (tgt := 293) dM_readsCode_289 (by decide) ?_
                          exact x_zret F hr (by rfl) dM_readsCode_293 (by rw [show mrc tx sn ds xs dg n q = none from by rw [mrc, if_neg (fun z => c1 z.1), if_neg h70, if_neg c4, if_neg (by omega), if_neg c6, if_neg (by omega), if_neg c9, if_neg (by rw [hbad]; decide), if_neg (by rw [hbeh]; decide)]]; exact ⟨rfl, fun b hb => (x_up_n (by omega)).trans ((x_up_n (by omega)).trans (rfl)), rfl, ⟨(x_up_k (x_up_k h0 (by omega)) (by omega)), (x_up_k (x_up_k h1 (by omega)) (by omega)), (x_up_k (x_up_k h2 (by omega)) (by omega)), x_up_s, (x_up_k x_up_s (by omega)), (x_up_k (x_up_k h5 (by omega)) (by omega)), (x_up_k (x_up_k h6 (by omega)) (by omega)), (x_up_k (x_up_k h7 (by omega)) (by omega)), (x_up_k (x_up_k h8 (by omega)) (by omega)), (x_up_k (x_up_k h9 (by omega)) (by omega)), (x_up_k (x_up_k h10 (by omega)) (by omega)), (x_up_k (x_up_k h11 (by omega)) (by omega)), (x_up_k (x_up_k h12 (by omega)) (by omega)), (x_up_k (x_up_k h13 (by omega)) (by omega)), (x_up_k (x_up_k h14 (by omega)) (by omega)), (x_up_k (x_up_k h15 (by omega)) (by omega)), (x_up_k (x_up_k h16 (by omega)) (by omega)), (x_up_k (x_up_k h17 (by omega)) (by omega)), (x_up_k (x_up_k h18 (by omega)) (by omega)), by omega, by omega, by omega, by omega, by omega, by omega⟩⟩)
                        · skip
                          have c32 : n ≠ 0 := by
                            have z : ¬ (n = 0) := fun zz => c32 ((nI_eq (a := n) (b := 0) (by omega) (by omega)).mpr zz)
                            omega
                          obtain ⟨n0, hn1⟩ : ∃ n0, n = n0 + 1 := ⟨n - 1, by omega⟩
                          refine x_aload_n F 6 dM_readsCode_258 rfl rfl ?_
                          refine x_get (ci := 6) F 7 (x_in inM) rfl (by decide) (x_m kfM_20) dM_readsCode_259 (x_up_k (x_up_k h0 (by omega)) (by omega)) rfl ?_
                          refine x_iload_n F 4 dM_readsCode_262 rfl rfl ?_
                          refine x_lald F dM_readsCode_263 x_up_s (pk_in (120 + n) (160) (by omega)) ?_
                          refine xW.tol (lN (cN tx (q + rM tx sn q) (rD tx sn (q + rM tx sn q)))) (by rw [nI_clamp (by omega)]; exact vp_us) ?_
                          refine x_aload_n F 6 dM_readsCode_264 rfl rfl ?_
                          refine x_get (ci := 6) F 7 (x_in inM) rfl (by decide) (x_m kfM_20) dM_readsCode_265 (x_up_k (x_up_k h0 (by omega)) (by omega)) rfl ?_
                          refine x_iload_n F 4 dM_readsCode_268 rfl rfl ?_
                          refine x_iconst F (v := nI (1)) dM_readsCode_269 (by decide) ?_
                          refine x_isub F dM_readsCode_270 ?_
                          refine xW.toi (nI (120 + n0)) (by rw [hn1]; exact nI_pred (120 + n0)) ?_
                          refine x_lald F dM_readsCode_271 x_up_s (pk_in (120 + n0) (160) (by omega)) ?_
                          refine xW.tol (lN (xs n0)) (by rw [nI_clamp (by omega)]; exact (updL_ne (by omega)).trans (hcd n0 (by omega)).1) ?_
                          refine yS (n := 2) (As := [.long (lN (cN tx (q + rM tx sn q) (rD tx sn (q + rM tx sn q)))), .long (lN (xs n0))]) F kmM_126 ktM_isBehind knM kcM_isBehind (by decide +kernel) dM_readsCode_272 (cM_isBehind l (nx) (x_up (x_up M (a + 4) (.inl (.int, 160, .inl (upd (ds) (120 + n) (nI (rM tx sn q)))))) (a + 3) (.inl (.long, 160, .inr (.inl (vp_updL (cd) (120 + n) (lN (cN tx (q + rM tx sn q) (rD tx sn (q + rM tx sn q))))))))) (cN tx (q + rM tx sn q) (rD tx sn (q + rM tx sn q))) (rD tx sn (q + rM tx sn q)) (xs n0) (dg n0) hX10 (hcd n0 (by omega)).2) rfl rfl (Nat.le_of_ble_eq_true rfl) ⟨Nat.le_of_ble_eq_true rfl, Nat.le_of_ble_eq_true rfl⟩ ⟨Nat.le_of_ble_eq_true rfl, Nat.le_of_ble_eq_true rfl⟩ ?_
                          refine x_if_ne F (tgt := 288) dM_readsCode_275 (by decide) (fun c33 => ?_) (fun c33 => ?_)
                          · skip
                            have c33 : (mbh (cN tx (q + rM tx sn q) (rD tx sn (q + rM tx sn q))) (rD tx sn (q + rM tx sn q)) (xs n0) (dg n0)) = true := bI_1 c33
                            have hbeh : mBeh xs dg n (cN tx (q + rM tx sn q) (rD tx sn (q + rM tx sn q))) (rD tx sn (q + rM tx sn q)) = true := by rw [hn1]; exact c33
                            refine x_iconst F (v := nI (1)) dM_readsCode_288 (by decide) ?_
                            refine x_goto F (tgt := 293) dM_readsCode_289 (by decide) ?_
                            exact x_zret F hr (by rfl) dM_readsCode_293 (by rw [show mrc tx sn ds xs dg n q = none from by rw [mrc, if_neg (fun z => c1 z.1), if_neg h70, if_neg c4, if_neg (by omega), if_neg c6, if_neg (by omega), if_neg c9, if_neg (by rw [hbad]; decide), if_neg (by rw [hbeh]; decide)]]; exact ⟨rfl, fun b hb => (x_up_n (by omega)).trans ((x_up_n (by omega)).trans (rfl)), rfl, ⟨(x_up_k (x_up_k h0 (by omega)) (by omega)), (x_up_k (x_up_k h1 (by omega)) (by omega)), (x_up_k (x_up_k h2 (by omega)) (by omega)), x_up_s, (x_up_k x_up_s (by omega)), (x_up_k (x_up_k h5 (by omega)) (by omega)), (x_up_k (x_up_k h6 (by omega)) (by omega)), (x_up_k (x_up_k h7 (by omega)) (by omega)), (x_up_k (x_up_k h8 (by omega)) (by omega)), (x_up_k (x_up_k h9 (by omega)) (by omega)), (x_up_k (x_up_k h10 (by omega)) (by omega)), (x_up_k (x_up_k h11 (by omega)) (by omega)), (x_up_k (x_up_k h12 (by omega)) (by omega)), (x_up_k (x_up_k h13 (by omega)) (by omega)), (x_up_k (x_up_k h14 (by omega)) (by omega)), (x_up_k (x_up_k h15 (by omega)) (by omega)), (x_up_k (x_up_k h16 (by omega)) (by omega)), (x_up_k (x_up_k h17 (by omega)) (by omega)), (x_up_k (x_up_k h18 (by omega)) (by omega)), by omega, by omega, by omega, by omega, by omega, by omega⟩⟩)
                          · skip
                            have c33 : (mbh (cN tx (q + rM tx sn q) (rD tx sn (q + rM tx sn q))) (rD tx sn (q + rM tx sn q)) (xs n0) (dg n0)) = false := bI_0 c33
                            have hbeh : mBeh xs dg n (cN tx (q + rM tx sn q) (rD tx sn (q + rM tx sn q))) (rD tx sn (q + rM tx sn q)) = false := by rw [hn1]; exact c33
                            refine x_aload_n F 6 dM_readsCode_278 rfl rfl ?_
                            refine x_iconst F (v := nI (4)) dM_readsCode_279 (by decide) ?_
                            refine x_iload F 2 dM_readsCode_280 rfl ?_
                            refine yVr (n := 2) (As := [.int (nI (4)), .int (nI (q + rM tx sn q))]) (ci := 6) F kmM_115 kiM_fails ksM_fails knM kcM_fails (by decide +kernel) dM_readsCode_282 (cM_fails l (nx) (x_up (x_up M (a + 4) (.inl (.int, 160, .inl (upd (ds) (120 + n) (nI (rM tx sn q)))))) (a + 3) (.inl (.long, 160, .inr (.inl (vp_updL (cd) (120 + n) (lN (cN tx (q + rM tx sn q) (rD tx sn (q + rM tx sn q))))))))) (a) th sg sn pr fk fp rws (vp_updL (cd) (120 + n) (lN (cN tx (q + rM tx sn q) (rD tx sn (q + rM tx sn q))))) (upd (ds) (120 + n) (nI (rM tx sn q))) wc wd nn nE nC nK nO ln lF lC lT lO fn fC fP ak ac pt ⟨(x_up_k (x_up_k h0 (by omega)) (by omega)), (x_up_k (x_up_k h1 (by omega)) (by omega)), (x_up_k (x_up_k h2 (by omega)) (by omega)), x_up_s, (x_up_k x_up_s (by omega)), (x_up_k (x_up_k h5 (by omega)) (by omega)), (x_up_k (x_up_k h6 (by omega)) (by omega)), (x_up_k (x_up_k h7 (by omega)) (by omega)), (x_up_k (x_up_k h8 (by omega)) (by omega)), (x_up_k (x_up_k h9 (by omega)) (by omega)), (x_up_k (x_up_k h10 (by omega)) (by omega)), (x_up_k (x_up_k h11 (by omega)) (by omega)), (x_up_k (x_up_k h12 (by omega)) (by omega)), (x_up_k (x_up_k h13 (by omega)) (by omega)), (x_up_k (x_up_k h14 (by omega)) (by omega)), (x_up_k (x_up_k h15 (by omega)) (by omega)), (x_up_k (x_up_k h16 (by omega)) (by omega)), (x_up_k (x_up_k h17 (by omega)) (by omega)), (x_up_k (x_up_k h18 (by omega)) (by omega)), by omega, by omega, by omega, by omega, by omega, by omega⟩ (nI (4)) (nI (q + rM tx sn q))) rfl (x_up_k (x_up_k h0 (by omega)) (by omega)) rfl rfl (Nat.le_of_ble_eq_true rfl) ⟨Nat.le_of_ble_eq_true rfl, Nat.le_of_ble_eq_true rfl⟩ ⟨Nat.le_of_ble_eq_true rfl, Nat.le_of_ble_eq_true rfl⟩ (fun r' n' M525 hp => ?_)
                            obtain ⟨hr', hn', hM525, hf525⟩ := hp
                            rw [hn', hr']
                            obtain ⟨v525_0, v525_1, v525_2, v525_3, v525_4, v525_5, v525_6, v525_7, v525_8, v525_9, v525_10, v525_11, v525_12, v525_13, v525_14, v525_15, v525_16, v525_17, v525_18, vb525_0, vb525_1, vb525_2, vb525_3, vb525_4, vb525_5⟩ := id hM525
                            show xW p l e ({ frames := 4, cells := 0, slots := 0, locals := 96 } : Room) s m args below meth c D xcl (x_A M nx) 8 (MQ below (x_Q D xcl (x_A M nx) (mcPost nx M a th sg sn pr fk fp rws cd ds wc wd nn nE nC nK nO ln lF lC lT lO fn fC fP ak ac pt n (rM tx sn q) (cN tx (q + rM tx sn q) (rD tx sn (q + rM tx sn q))) (mrc tx sn ds xs dg n q))) args s 0 0 (x_A M nx)) 0 0 (nx) M525 285 [(7, .int (nI (120 + j))), (6, .int (nI (rD tx sn (q + rM tx sn q)))), (5, .int (nI (q + rM tx sn q))), (4, .int (nI (rM tx sn q))), (3, .int (nI (120 + n))), (2, .int (nI (n))), (0, .ref (a)), (1, .int (nI (q)))] [.int (nI (0))]
                            refine x_if_eq F (tgt := 292) dM_readsCode_285 (by decide) (fun c34 => ?_) (fun c34 => ?_)
                            · skip
                              have c34 : 0 = 0 := by
                                exact (nI_eq (a := 0) (b := 0) (by omega) (by omega)).mp c34
                              refine x_iconst F (v := nI (0)) dM_readsCode_292 (by decide) ?_
                              exact x_zret F hr (by rfl) dM_readsCode_293 (by rw [show mrc tx sn ds xs dg n q = some (4, q + rM tx sn q) from by rw [mrc, if_neg (fun z => c1 z.1), if_neg h70, if_neg c4, if_neg (by omega), if_neg c6, if_neg (by omega), if_neg c9, if_neg (by rw [hbad]; decide), if_pos hbeh]]; exact ⟨rfl, fun b hb => (hf525 _ (by omega)).trans ((x_up_n (by omega)).trans ((x_up_n (by omega)).trans (rfl))), rfl, _, _, (fun i hi => ⟨updL_ne (by omega), upd_ne (by omega)⟩), hM525⟩)
                            · skip
                              have c34 : 0 ≠ 0 := by
                                have z : ¬ (0 = 0) := fun zz => c34 ((nI_eq (a := 0) (b := 0) (by omega) (by omega)).mpr zz)
                                omega
                              exact absurd c34 (by decide)
                      · skip
                        have c31 : 0 < rM tx sn q := by
                          have z : ¬ (rM tx sn q ≤ 0) := fun zz => c31 ((nI_leI (a := rM tx sn q) (b := 0) (by omega) (by omega)).mpr zz)
                          omega
                        refine x_aload_n F 6 dM_readsCode_218 rfl rfl ?_
                        refine x_get (ci := 6) F 7 (x_in inM) rfl (by decide) (x_m kfM_20) dM_readsCode_219 (x_up_k (x_up_k h0 (by omega)) (by omega)) rfl ?_
                        refine x_iload_n F 4 dM_readsCode_222 rfl rfl ?_
                        refine x_lald F dM_readsCode_223 x_up_s (pk_in (120 + n) (160) (by omega)) ?_
                        refine xW.tol (lN (cN tx (q + rM tx sn q) (rD tx sn (q + rM tx sn q)))) (by rw [nI_clamp (by omega)]; exact vp_us) ?_
                        refine x_aload_n F 6 dM_readsCode_224 rfl rfl ?_
                        refine x_get (ci := 6) F 7 (x_in inM) rfl (by decide) (x_m kfM_20) dM_readsCode_225 (x_up_k (x_up_k h0 (by omega)) (by omega)) rfl ?_
                        refine x_iload F 0 dM_readsCode_228 rfl ?_
                        refine x_if_ge F (tgt := 237) dM_readsCode_230 (by decide) (fun c35 => ?_) (fun c35 => ?_)
                        · skip
                          have c35 : 0 ≤ 120 + j := by
                            exact (nI_leI (a := 0) (b := 120 + j) (by omega) (by omega)).mp c35
                          refine x_iload F 0 dM_readsCode_237 rfl ?_
                          refine x_lald F dM_readsCode_239 x_up_s (pk_in (120 + j) (160) (by omega)) ?_
                          refine xW.tol (lN (xs j)) (by rw [nI_clamp (by omega)]; exact (updL_ne (by omega)).trans (hcd j hj).1) ?_
                          refine yS (n := 2) (As := [.long (lN (cN tx (q + rM tx sn q) (rD tx sn (q + rM tx sn q)))), .long (lN (xs j))]) F kmM_107 ktM_begins knM kcM_begins (by decide +kernel) dM_readsCode_240 (cM_begins l (nx) (x_up (x_up M (a + 4) (.inl (.int, 160, .inl (upd (ds) (120 + n) (nI (rM tx sn q)))))) (a + 3) (.inl (.long, 160, .inr (.inl (vp_updL (cd) (120 + n) (lN (cN tx (q + rM tx sn q) (rD tx sn (q + rM tx sn q))))))))) (cN tx (q + rM tx sn q) (rD tx sn (q + rM tx sn q))) (rD tx sn (q + rM tx sn q)) (xs j) (dg j) hX10 (hcd j hj).2) rfl rfl (Nat.le_of_ble_eq_true rfl) ⟨Nat.le_of_ble_eq_true rfl, Nat.le_of_ble_eq_true rfl⟩ ⟨Nat.le_of_ble_eq_true rfl, Nat.le_of_ble_eq_true rfl⟩ ?_
                          refine x_if_ne F (tgt := 254) dM_readsCode_243 (by decide) (fun c36 => ?_) (fun c36 => ?_)
                          · skip
                            have c36 : (mbg (cN tx (q + rM tx sn q) (rD tx sn (q + rM tx sn q))) (rD tx sn (q + rM tx sn q)) (xs j) (dg j)) = true := bI_1 c36
                            have hla := mUp_la (by omega) hup
                            have hbad : mBad ds xs dg n (rM tx sn q) (cN tx (q + rM tx sn q) (rD tx sn (q + rM tx sn q))) (rD tx sn (q + rM tx sn q)) = false := by rw [mBad, if_neg (by omega), hla]; show (! mbg (cN tx (q + rM tx sn q) (rD tx sn (q + rM tx sn q))) (rD tx sn (q + rM tx sn q)) (xs j) (dg j)) = false; rw [c36]; rfl
                            refine x_iload_n F 5 dM_readsCode_254 rfl rfl ?_
                            refine x_if_eq F (tgt := 288) dM_readsCode_255 (by decide) (fun c37 => ?_) (fun c37 => ?_)
                            · skip
                              have c37 : n = 0 := by
                                exact (nI_eq (a := n) (b := 0) (by omega) (by omega)).mp c37
                              have hbeh : mBeh xs dg n (cN tx (q + rM tx sn q) (rD tx sn (q + rM tx sn q))) (rD tx sn (q + rM tx sn q)) = true := by rw [c37]; rfl
                              refine x_iconst F (v := nI (1)) dM_readsCode_288 (by decide) ?_
                              refine x_goto F (tgt := 293) dM_readsCode_289 (by decide) ?_
                              exact x_zret F hr (by rfl) dM_readsCode_293 (by rw [show mrc tx sn ds xs dg n q = none from by rw [mrc, if_neg (fun z => c1 z.1), if_neg h70, if_neg c4, if_neg (by omega), if_neg c6, if_neg (by omega), if_neg c9, if_neg (by rw [hbad]; decide), if_neg (by rw [hbeh]; decide)]]; exact ⟨rfl, fun b hb => (x_up_n (by omega)).trans ((x_up_n (by omega)).trans (rfl)), rfl, ⟨(x_up_k (x_up_k h0 (by omega)) (by omega)), (x_up_k (x_up_k h1 (by omega)) (by omega)), (x_up_k (x_up_k h2 (by omega)) (by omega)), x_up_s, (x_up_k x_up_s (by omega)), (x_up_k (x_up_k h5 (by omega)) (by omega)), (x_up_k (x_up_k h6 (by omega)) (by omega)), (x_up_k (x_up_k h7 (by omega)) (by omega)), (x_up_k (x_up_k h8 (by omega)) (by omega)), (x_up_k (x_up_k h9 (by omega)) (by omega)), (x_up_k (x_up_k h10 (by omega)) (by omega)), (x_up_k (x_up_k h11 (by omega)) (by omega)), (x_up_k (x_up_k h12 (by omega)) (by omega)), (x_up_k (x_up_k h13 (by omega)) (by omega)), (x_up_k (x_up_k h14 (by omega)) (by omega)), (x_up_k (x_up_k h15 (by omega)) (by omega)), (x_up_k (x_up_k h16 (by omega)) (by omega)), (x_up_k (x_up_k h17 (by omega)) (by omega)), (x_up_k (x_up_k h18 (by omega)) (by omega)), by omega, by omega, by omega, by omega, by omega, by omega⟩⟩)
                            · skip
                              have c37 : n ≠ 0 := by
                                have z : ¬ (n = 0) := fun zz => c37 ((nI_eq (a := n) (b := 0) (by omega) (by omega)).mpr zz)
                                omega
                              obtain ⟨n0, hn1⟩ : ∃ n0, n = n0 + 1 := ⟨n - 1, by omega⟩
                              refine x_aload_n F 6 dM_readsCode_258 rfl rfl ?_
                              refine x_get (ci := 6) F 7 (x_in inM) rfl (by decide) (x_m kfM_20) dM_readsCode_259 (x_up_k (x_up_k h0 (by omega)) (by omega)) rfl ?_
                              refine x_iload_n F 4 dM_readsCode_262 rfl rfl ?_
                              refine x_lald F dM_readsCode_263 x_up_s (pk_in (120 + n) (160) (by omega)) ?_
                              refine xW.tol (lN (cN tx (q + rM tx sn q) (rD tx sn (q + rM tx sn q)))) (by rw [nI_clamp (by omega)]; exact vp_us) ?_
                              refine x_aload_n F 6 dM_readsCode_264 rfl rfl ?_
                              refine x_get (ci := 6) F 7 (x_in inM) rfl (by decide) (x_m kfM_20) dM_readsCode_265 (x_up_k (x_up_k h0 (by omega)) (by omega)) rfl ?_
                              refine x_iload_n F 4 dM_readsCode_268 rfl rfl ?_
                              refine x_iconst F (v := nI (1)) dM_readsCode_269 (by decide) ?_
                              refine x_isub F dM_readsCode_270 ?_
                              refine xW.toi (nI (120 + n0)) (by rw [hn1]; exact nI_pred (120 + n0)) ?_
                              refine x_lald F dM_readsCode_271 x_up_s (pk_in (120 + n0) (160) (by omega)) ?_
                              refine xW.tol (lN (xs n0)) (by rw [nI_clamp (by omega)]; exact (updL_ne (by omega)).trans (hcd n0 (by omega)).1) ?_
                              refine yS (n := 2) (As := [.long (lN (cN tx (q + rM tx sn q) (rD tx sn (q + rM tx sn q)))), .long (lN (xs n0))]) F kmM_126 ktM_isBehind knM kcM_isBehind (by decide +kernel) dM_readsCode_272 (cM_isBehind l (nx) (x_up (x_up M (a + 4) (.inl (.int, 160, .inl (upd (ds) (120 + n) (nI (rM tx sn q)))))) (a + 3) (.inl (.long, 160, .inr (.inl (vp_updL (cd) (120 + n) (lN (cN tx (q + rM tx sn q) (rD tx sn (q + rM tx sn q))))))))) (cN tx (q + rM tx sn q) (rD tx sn (q + rM tx sn q))) (rD tx sn (q + rM tx sn q)) (xs n0) (dg n0) hX10 (hcd n0 (by omega)).2) rfl rfl (Nat.le_of_ble_eq_true rfl) ⟨Nat.le_of_ble_eq_true rfl, Nat.le_of_ble_eq_true rfl⟩ ⟨Nat.le_of_ble_eq_true rfl, Nat.le_of_ble_eq_true rfl⟩ ?_
                              refine x_if_ne F (tgt := 288) dM_readsCode_275 (by decide) (fun c38 => ?_) (fun c38 => ?_)
                              · skip
                                have c38 : (mbh (cN tx (q + rM tx sn q) (rD tx sn (q + rM tx sn q))) (rD tx sn (q + rM tx sn q)) (xs n0) (dg n0)) = true := bI_1 c38
                                have hbeh : mBeh xs dg n (cN tx (q + rM tx sn q) (rD tx sn (q + rM tx sn q))) (rD tx sn (q + rM tx sn q)) = true := by rw [hn1]; exact c38
                                refine x_iconst F (v := nI (1)) dM_readsCode_288 (by decide) ?_
                                refine x_goto F (tgt := 293) dM_readsCode_289 (by decide) ?_
                                exact x_zret F hr (by rfl) dM_readsCode_293 (by rw [show mrc tx sn ds xs dg n q = none from by rw [mrc, if_neg (fun z => c1 z.1), if_neg h70, if_neg c4, if_neg (by omega), if_neg c6, if_neg (by omega), if_neg c9, if_neg (by rw [hbad]; decide), if_neg (by rw [hbeh]; decide)]]; exact ⟨rfl, fun b hb => (x_up_n (by omega)).trans ((x_up_n (by omega)).trans (rfl)), rfl, ⟨(x_up_k (x_up_k h0 (by omega)) (by omega)), (x_up_k (x_up_k h1 (by omega)) (by omega)), (x_up_k (x_up_k h2 (by omega)) (by omega)), x_up_s, (x_up_k x_up_s (by omega)), (x_up_k (x_up_k h5 (by omega)) (by omega)), (x_up_k (x_up_k h6 (by omega)) (by omega)), (x_up_k (x_up_k h7 (by omega)) (by omega)), (x_up_k (x_up_k h8 (by omega)) (by omega)), (x_up_k (x_up_k h9 (by omega)) (by omega)), (x_up_k (x_up_k h10 (by omega)) (by omega)), (x_up_k (x_up_k h11 (by omega)) (by omega)), (x_up_k (x_up_k h12 (by omega)) (by omega)), (x_up_k (x_up_k h13 (by omega)) (by omega)), (x_up_k (x_up_k h14 (by omega)) (by omega)), (x_up_k (x_up_k h15 (by omega)) (by omega)), (x_up_k (x_up_k h16 (by omega)) (by omega)), (x_up_k (x_up_k h17 (by omega)) (by omega)), (x_up_k (x_up_k h18 (by omega)) (by omega)), by omega, by omega, by omega, by omega, by omega, by omega⟩⟩)
                              · skip
                                have c38 : (mbh (cN tx (q + rM tx sn q) (rD tx sn (q + rM tx sn q))) (rD tx sn (q + rM tx sn q)) (xs n0) (dg n0)) = false := bI_0 c38
                                have hbeh : mBeh xs dg n (cN tx (q + rM tx sn q) (rD tx sn (q + rM tx sn q))) (rD tx sn (q + rM tx sn q)) = false := by rw [hn1]; exact c38
                                refine x_aload_n F 6 dM_readsCode_278 rfl rfl ?_
                                refine x_iconst F (v := nI (4)) dM_readsCode_279 (by decide) ?_
                                refine x_iload F 2 dM_readsCode_280 rfl ?_
                                refine yVr (n := 2) (As := [.int (nI (4)), .int (nI (q + rM tx sn q))]) (ci := 6) F kmM_115 kiM_fails ksM_fails knM kcM_fails (by decide +kernel) dM_readsCode_282 (cM_fails l (nx) (x_up (x_up M (a + 4) (.inl (.int, 160, .inl (upd (ds) (120 + n) (nI (rM tx sn q)))))) (a + 3) (.inl (.long, 160, .inr (.inl (vp_updL (cd) (120 + n) (lN (cN tx (q + rM tx sn q) (rD tx sn (q + rM tx sn q))))))))) (a) th sg sn pr fk fp rws (vp_updL (cd) (120 + n) (lN (cN tx (q + rM tx sn q) (rD tx sn (q + rM tx sn q))))) (upd (ds) (120 + n) (nI (rM tx sn q))) wc wd nn nE nC nK nO ln lF lC lT lO fn fC fP ak ac pt ⟨(x_up_k (x_up_k h0 (by omega)) (by omega)), (x_up_k (x_up_k h1 (by omega)) (by omega)), (x_up_k (x_up_k h2 (by omega)) (by omega)), x_up_s, (x_up_k x_up_s (by omega)), (x_up_k (x_up_k h5 (by omega)) (by omega)), (x_up_k (x_up_k h6 (by omega)) (by omega)), (x_up_k (x_up_k h7 (by omega)) (by omega)), (x_up_k (x_up_k h8 (by omega)) (by omega)), (x_up_k (x_up_k h9 (by omega)) (by omega)), (x_up_k (x_up_k h10 (by omega)) (by omega)), (x_up_k (x_up_k h11 (by omega)) (by omega)), (x_up_k (x_up_k h12 (by omega)) (by omega)), (x_up_k (x_up_k h13 (by omega)) (by omega)), (x_up_k (x_up_k h14 (by omega)) (by omega)), (x_up_k (x_up_k h15 (by omega)) (by omega)), (x_up_k (x_up_k h16 (by omega)) (by omega)), (x_up_k (x_up_k h17 (by omega)) (by omega)), (x_up_k (x_up_k h18 (by omega)) (by omega)), by omega, by omega, by omega, by omega, by omega, by omega⟩ (nI (4)) (nI (q + rM tx sn q))) rfl (x_up_k (x_up_k h0 (by omega)) (by omega)) rfl rfl (Nat.le_of_ble_eq_true rfl) ⟨Nat.le_of_ble_eq_true rfl, Nat.le_of_ble_eq_true rfl⟩ ⟨Nat.le_of_ble_eq_true rfl, Nat.le_of_ble_eq_true rfl⟩ (fun r' n' M526 hp => ?_)
                                obtain ⟨hr', hn', hM526, hf526⟩ := hp
                                rw [hn', hr']
                                obtain ⟨v526_0, v526_1, v526_2, v526_3, v526_4, v526_5, v526_6, v526_7, v526_8, v526_9, v526_10, v526_11, v526_12, v526_13, v526_14, v526_15, v526_16, v526_17, v526_18, vb526_0, vb526_1, vb526_2, vb526_3, vb526_4, vb526_5⟩ := id hM526
                                show xW p l e ({ frames := 4, cells := 0, slots := 0, locals := 96 } : Room) s m args below meth c D xcl (x_A M nx) 8 (MQ below (x_Q D xcl (x_A M nx) (mcPost nx M a th sg sn pr fk fp rws cd ds wc wd nn nE nC nK nO ln lF lC lT lO fn fC fP ak ac pt n (rM tx sn q) (cN tx (q + rM tx sn q) (rD tx sn (q + rM tx sn q))) (mrc tx sn ds xs dg n q))) args s 0 0 (x_A M nx)) 0 0 (nx) M526 285 [(7, .int (nI (120 + j))), (6, .int (nI (rD tx sn (q + rM tx sn q)))), (5, .int (nI (q + rM tx sn q))), (4, .int (nI (rM tx sn q))), (3, .int (nI (120 + n))), (2, .int (nI (n))), (0, .ref (a)), (1, .int (nI (q)))] [.int (nI (0))]
                                refine x_if_eq F (tgt := 292) dM_readsCode_285 (by decide) (fun c39 => ?_) (fun c39 => ?_)
                                · skip
                                  have c39 : 0 = 0 := by
                                    exact (nI_eq (a := 0) (b := 0) (by omega) (by omega)).mp c39
                                  refine x_iconst F (v := nI (0)) dM_readsCode_292 (by decide) ?_
                                  exact x_zret F hr (by rfl) dM_readsCode_293 (by rw [show mrc tx sn ds xs dg n q = some (4, q + rM tx sn q) from by rw [mrc, if_neg (fun z => c1 z.1), if_neg h70, if_neg c4, if_neg (by omega), if_neg c6, if_neg (by omega), if_neg c9, if_neg (by rw [hbad]; decide), if_pos hbeh]]; exact ⟨rfl, fun b hb => (hf526 _ (by omega)).trans ((x_up_n (by omega)).trans ((x_up_n (by omega)).trans (rfl))), rfl, _, _, (fun i hi => ⟨updL_ne (by omega), upd_ne (by omega)⟩), hM526⟩)
                                · skip
                                  have c39 : 0 ≠ 0 := by
                                    have z : ¬ (0 = 0) := fun zz => c39 ((nI_eq (a := 0) (b := 0) (by omega) (by omega)).mpr zz)
                                    omega
                                  exact absurd c39 (by decide)
                          · skip
                            have c36 : (mbg (cN tx (q + rM tx sn q) (rD tx sn (q + rM tx sn q))) (rD tx sn (q + rM tx sn q)) (xs j) (dg j)) = false := bI_0 c36
                            have hla := mUp_la (by omega) hup
                            have hbad : mBad ds xs dg n (rM tx sn q) (cN tx (q + rM tx sn q) (rD tx sn (q + rM tx sn q))) (rD tx sn (q + rM tx sn q)) = true := by rw [mBad, if_neg (by omega), hla]; show (! mbg (cN tx (q + rM tx sn q) (rD tx sn (q + rM tx sn q))) (rD tx sn (q + rM tx sn q)) (xs j) (dg j)) = true; rw [c36]; rfl
                            refine x_aload_n F 6 dM_readsCode_246 rfl rfl ?_
                            refine x_iconst F (v := nI (3)) dM_readsCode_247 (by decide) ?_
                            refine x_iload F 2 dM_readsCode_248 rfl ?_
                            refine yVr (n := 2) (As := [.int (nI (3)), .int (nI (q + rM tx sn q))]) (ci := 6) F kmM_115 kiM_fails ksM_fails knM kcM_fails (by decide +kernel) dM_readsCode_250 (cM_fails l (nx) (x_up (x_up M (a + 4) (.inl (.int, 160, .inl (upd (ds) (120 + n) (nI (rM tx sn q)))))) (a + 3) (.inl (.long, 160, .inr (.inl (vp_updL (cd) (120 + n) (lN (cN tx (q + rM tx sn q) (rD tx sn (q + rM tx sn q))))))))) (a) th sg sn pr fk fp rws (vp_updL (cd) (120 + n) (lN (cN tx (q + rM tx sn q) (rD tx sn (q + rM tx sn q))))) (upd (ds) (120 + n) (nI (rM tx sn q))) wc wd nn nE nC nK nO ln lF lC lT lO fn fC fP ak ac pt ⟨(x_up_k (x_up_k h0 (by omega)) (by omega)), (x_up_k (x_up_k h1 (by omega)) (by omega)), (x_up_k (x_up_k h2 (by omega)) (by omega)), x_up_s, (x_up_k x_up_s (by omega)), (x_up_k (x_up_k h5 (by omega)) (by omega)), (x_up_k (x_up_k h6 (by omega)) (by omega)), (x_up_k (x_up_k h7 (by omega)) (by omega)), (x_up_k (x_up_k h8 (by omega)) (by omega)), (x_up_k (x_up_k h9 (by omega)) (by omega)), (x_up_k (x_up_k h10 (by omega)) (by omega)), (x_up_k (x_up_k h11 (by omega)) (by omega)), (x_up_k (x_up_k h12 (by omega)) (by omega)), (x_up_k (x_up_k h13 (by omega)) (by omega)), (x_up_k (x_up_k h14 (by omega)) (by omega)), (x_up_k (x_up_k h15 (by omega)) (by omega)), (x_up_k (x_up_k h16 (by omega)) (by omega)), (x_up_k (x_up_k h17 (by omega)) (by omega)), (x_up_k (x_up_k h18 (by omega)) (by omega)), by omega, by omega, by omega, by omega, by omega, by omega⟩ (nI (3)) (nI (q + rM tx sn q))) rfl (x_up_k (x_up_k h0 (by omega)) (by omega)) rfl rfl (Nat.le_of_ble_eq_true rfl) ⟨Nat.le_of_ble_eq_true rfl, Nat.le_of_ble_eq_true rfl⟩ ⟨Nat.le_of_ble_eq_true rfl, Nat.le_of_ble_eq_true rfl⟩ (fun r' n' M527 hp => ?_)
                            obtain ⟨hr', hn', hM527, hf527⟩ := hp
                            rw [hn', hr']
                            obtain ⟨v527_0, v527_1, v527_2, v527_3, v527_4, v527_5, v527_6, v527_7, v527_8, v527_9, v527_10, v527_11, v527_12, v527_13, v527_14, v527_15, v527_16, v527_17, v527_18, vb527_0, vb527_1, vb527_2, vb527_3, vb527_4, vb527_5⟩ := id hM527
                            show xW p l e ({ frames := 4, cells := 0, slots := 0, locals := 96 } : Room) s m args below meth c D xcl (x_A M nx) 8 (MQ below (x_Q D xcl (x_A M nx) (mcPost nx M a th sg sn pr fk fp rws cd ds wc wd nn nE nC nK nO ln lF lC lT lO fn fC fP ak ac pt n (rM tx sn q) (cN tx (q + rM tx sn q) (rD tx sn (q + rM tx sn q))) (mrc tx sn ds xs dg n q))) args s 0 0 (x_A M nx)) 0 0 (nx) M527 253 [(7, .int (nI (120 + j))), (6, .int (nI (rD tx sn (q + rM tx sn q)))), (5, .int (nI (q + rM tx sn q))), (4, .int (nI (rM tx sn q))), (3, .int (nI (120 + n))), (2, .int (nI (n))), (0, .ref (a)), (1, .int (nI (q)))] [.int (nI (0))]
                            exact x_zret F hr (by rfl) dM_readsCode_253 (by rw [show mrc tx sn ds xs dg n q = some (3, q + rM tx sn q) from by rw [mrc, if_neg (fun z => c1 z.1), if_neg h70, if_neg c4, if_neg (by omega), if_neg c6, if_neg (by omega), if_neg c9, if_pos hbad]]; exact ⟨rfl, fun b hb => (hf527 _ (by omega)).trans ((x_up_n (by omega)).trans ((x_up_n (by omega)).trans (rfl))), rfl, _, _, (fun i hi => ⟨updL_ne (by omega), upd_ne (by omega)⟩), hM527⟩)
                        · skip
                          have c35 : 120 + j < 0 := by
                            have z : ¬ (0 ≤ 120 + j) := fun zz => c35 ((nI_leI (a := 0) (b := 120 + j) (by omega) (by omega)).mpr zz)
                            omega
                          refine x_iload_n F 4 dM_readsCode_233 rfl rfl ?_
                          refine x_goto F (tgt := 239) dM_readsCode_234 (by decide) ?_
                          refine x_lald F dM_readsCode_239 x_up_s (pk_in (120 + n) (160) (by omega)) ?_
                          refine xW.tol (lN (cN tx (q + rM tx sn q) (rD tx sn (q + rM tx sn q)))) (by rw [nI_clamp (by omega)]; exact vp_us) ?_
                          refine yS (n := 2) (As := [.long (lN (cN tx (q + rM tx sn q) (rD tx sn (q + rM tx sn q)))), .long (lN (cN tx (q + rM tx sn q) (rD tx sn (q + rM tx sn q))))]) F kmM_107 ktM_begins knM kcM_begins (by decide +kernel) dM_readsCode_240 (cM_begins l (nx) (x_up (x_up M (a + 4) (.inl (.int, 160, .inl (upd (ds) (120 + n) (nI (rM tx sn q)))))) (a + 3) (.inl (.long, 160, .inr (.inl (vp_updL (cd) (120 + n) (lN (cN tx (q + rM tx sn q) (rD tx sn (q + rM tx sn q))))))))) (cN tx (q + rM tx sn q) (rD tx sn (q + rM tx sn q))) (rD tx sn (q + rM tx sn q)) (cN tx (q + rM tx sn q) (rD tx sn (q + rM tx sn q))) (rD tx sn (q + rM tx sn q)) hX10 hX10) rfl rfl (Nat.le_of_ble_eq_true rfl) ⟨Nat.le_of_ble_eq_true rfl, Nat.le_of_ble_eq_true rfl⟩ ⟨Nat.le_of_ble_eq_true rfl, Nat.le_of_ble_eq_true rfl⟩ ?_
                          refine x_if_ne F (tgt := 254) dM_readsCode_243 (by decide) (fun c40 => ?_) (fun c40 => ?_)
                          · skip
                            have c40 : (mbg (cN tx (q + rM tx sn q) (rD tx sn (q + rM tx sn q))) (rD tx sn (q + rM tx sn q)) (cN tx (q + rM tx sn q) (rD tx sn (q + rM tx sn q))) (rD tx sn (q + rM tx sn q))) = true := bI_1 c40
                            have hla := mUp_la (by omega) hup
                            have hbad : mBad ds xs dg n (rM tx sn q) (cN tx (q + rM tx sn q) (rD tx sn (q + rM tx sn q))) (rD tx sn (q + rM tx sn q)) = false := by rw [mBad, if_neg (by omega), hla]; show (! mbg (cN tx (q + rM tx sn q) (rD tx sn (q + rM tx sn q))) (rD tx sn (q + rM tx sn q)) (xs j) (dg j)) = false; rw [c40]; rfl
                            refine x_iload_n F 5 dM_readsCode_254 rfl rfl ?_
                            refine x_if_eq F (tgt := 288) dM_readsCode_255 (by decide) (fun c41 => ?_) (fun c41 => ?_)
                            · skip
                              have c41 : n = 0 := by
                                exact (nI_eq (a := n) (b := 0) (by omega) (by omega)).mp c41
                              have hbeh : mBeh xs dg n (cN tx (q + rM tx sn q) (rD tx sn (q + rM tx sn q))) (rD tx sn (q + rM tx sn q)) = true := by rw [c41]; rfl
                              refine x_iconst F (v := nI (1)) dM_readsCode_288 (by decide) ?_
                              refine x_goto F (tgt := 293) dM_readsCode_289 (by decide) ?_
                              exact x_zret F hr (by rfl) dM_readsCode_293 (by rw [show mrc tx sn ds xs dg n q = none from by rw [mrc, if_neg (fun z => c1 z.1), if_neg h70, if_neg c4, if_neg (by omega), if_neg c6, if_neg (by omega), if_neg c9, if_neg (by rw [hbad]; decide), if_neg (by rw [hbeh]; decide)]]; exact ⟨rfl, fun b hb => (x_up_n (by omega)).trans ((x_up_n (by omega)).trans (rfl)), rfl, ⟨(x_up_k (x_up_k h0 (by omega)) (by omega)), (x_up_k (x_up_k h1 (by omega)) (by omega)), (x_up_k (x_up_k h2 (by omega)) (by omega)), x_up_s, (x_up_k x_up_s (by omega)), (x_up_k (x_up_k h5 (by omega)) (by omega)), (x_up_k (x_up_k h6 (by omega)) (by omega)), (x_up_k (x_up_k h7 (by omega)) (by omega)), (x_up_k (x_up_k h8 (by omega)) (by omega)), (x_up_k (x_up_k h9 (by omega)) (by omega)), (x_up_k (x_up_k h10 (by omega)) (by omega)), (x_up_k (x_up_k h11 (by omega)) (by omega)), (x_up_k (x_up_k h12 (by omega)) (by omega)), (x_up_k (x_up_k h13 (by omega)) (by omega)), (x_up_k (x_up_k h14 (by omega)) (by omega)), (x_up_k (x_up_k h15 (by omega)) (by omega)), (x_up_k (x_up_k h16 (by omega)) (by omega)), (x_up_k (x_up_k h17 (by omega)) (by omega)), (x_up_k (x_up_k h18 (by omega)) (by omega)), by omega, by omega, by omega, by omega, by omega, by omega⟩⟩)
                            · skip
                              have c41 : n ≠ 0 := by
                                have z : ¬ (n = 0) := fun zz => c41 ((nI_eq (a := n) (b := 0) (by omega) (by omega)).mpr zz)
                                omega
                              obtain ⟨n0, hn1⟩ : ∃ n0, n = n0 + 1 := ⟨n - 1, by omega⟩
                              refine x_aload_n F 6 dM_readsCode_258 rfl rfl ?_
                              refine x_get (ci := 6) F 7 (x_in inM) rfl (by decide) (x_m kfM_20) dM_readsCode_259 (x_up_k (x_up_k h0 (by omega)) (by omega)) rfl ?_
                              refine x_iload_n F 4 dM_readsCode_262 rfl rfl ?_
                              refine x_lald F dM_readsCode_263 x_up_s (pk_in (120 + n) (160) (by omega)) ?_
                              refine xW.tol (lN (cN tx (q + rM tx sn q) (rD tx sn (q + rM tx sn q)))) (by rw [nI_clamp (by omega)]; exact vp_us) ?_
                              refine x_aload_n F 6 dM_readsCode_264 rfl rfl ?_
                              refine x_get (ci := 6) F 7 (x_in inM) rfl (by decide) (x_m kfM_20) dM_readsCode_265 (x_up_k (x_up_k h0 (by omega)) (by omega)) rfl ?_
                              refine x_iload_n F 4 dM_readsCode_268 rfl rfl ?_
                              refine x_iconst F (v := nI (1)) dM_readsCode_269 (by decide) ?_
                              refine x_isub F dM_readsCode_270 ?_
                              refine xW.toi (nI (120 + n0)) (by rw [hn1]; exact nI_pred (120 + n0)) ?_
                              refine x_lald F dM_readsCode_271 x_up_s (pk_in (120 + n0) (160) (by omega)) ?_
                              refine xW.tol (lN (xs n0)) (by rw [nI_clamp (by omega)]; exact (updL_ne (by omega)).trans (hcd n0 (by omega)).1) ?_
                              refine yS (n := 2) (As := [.long (lN (cN tx (q + rM tx sn q) (rD tx sn (q + rM tx sn q)))), .long (lN (xs n0))]) F kmM_126 ktM_isBehind knM kcM_isBehind (by decide +kernel) dM_readsCode_272 (cM_isBehind l (nx) (x_up (x_up M (a + 4) (.inl (.int, 160, .inl (upd (ds) (120 + n) (nI (rM tx sn q)))))) (a + 3) (.inl (.long, 160, .inr (.inl (vp_updL (cd) (120 + n) (lN (cN tx (q + rM tx sn q) (rD tx sn (q + rM tx sn q))))))))) (cN tx (q + rM tx sn q) (rD tx sn (q + rM tx sn q))) (rD tx sn (q + rM tx sn q)) (xs n0) (dg n0) hX10 (hcd n0 (by omega)).2) rfl rfl (Nat.le_of_ble_eq_true rfl) ⟨Nat.le_of_ble_eq_true rfl, Nat.le_of_ble_eq_true rfl⟩ ⟨Nat.le_of_ble_eq_true rfl, Nat.le_of_ble_eq_true rfl⟩ ?_
                              refine x_if_ne F (tgt := 288) dM_readsCode_275 (by decide) (fun c42 => ?_) (fun c42 => ?_)
                              · skip
                                have c42 : (mbh (cN tx (q + rM tx sn q) (rD tx sn (q + rM tx sn q))) (rD tx sn (q + rM tx sn q)) (xs n0) (dg n0)) = true := bI_1 c42
                                have hbeh : mBeh xs dg n (cN tx (q + rM tx sn q) (rD tx sn (q + rM tx sn q))) (rD tx sn (q + rM tx sn q)) = true := by rw [hn1]; exact c42
                                refine x_iconst F (v := nI (1)) dM_readsCode_288 (by decide) ?_
                                refine x_goto F (tgt := 293) dM_readsCode_289 (by decide) ?_
                                exact x_zret F hr (by rfl) dM_readsCode_293 (by rw [show mrc tx sn ds xs dg n q = none from by rw [mrc, if_neg (fun z => c1 z.1), if_neg h70, if_neg c4, if_neg (by omega), if_neg c6, if_neg (by omega), if_neg c9, if_neg (by rw [hbad]; decide), if_neg (by rw [hbeh]; decide)]]; exact ⟨rfl, fun b hb => (x_up_n (by omega)).trans ((x_up_n (by omega)).trans (rfl)), rfl, ⟨(x_up_k (x_up_k h0 (by omega)) (by omega)), (x_up_k (x_up_k h1 (by omega)) (by omega)), (x_up_k (x_up_k h2 (by omega)) (by omega)), x_up_s, (x_up_k x_up_s (by omega)), (x_up_k (x_up_k h5 (by omega)) (by omega)), (x_up_k (x_up_k h6 (by omega)) (by omega)), (x_up_k (x_up_k h7 (by omega)) (by omega)), (x_up_k (x_up_k h8 (by omega)) (by omega)), (x_up_k (x_up_k h9 (by omega)) (by omega)), (x_up_k (x_up_k h10 (by omega)) (by omega)), (x_up_k (x_up_k h11 (by omega)) (by omega)), (x_up_k (x_up_k h12 (by omega)) (by omega)), (x_up_k (x_up_k h13 (by omega)) (by omega)), (x_up_k (x_up_k h14 (by omega)) (by omega)), (x_up_k (x_up_k h15 (by omega)) (by omega)), (x_up_k (x_up_k h16 (by omega)) (by omega)), (x_up_k (x_up_k h17 (by omega)) (by omega)), (x_up_k (x_up_k h18 (by omega)) (by omega)), by omega, by omega, by omega, by omega, by omega, by omega⟩⟩)
                              · skip
                                have c42 : (mbh (cN tx (q + rM tx sn q) (rD tx sn (q + rM tx sn q))) (rD tx sn (q + rM tx sn q)) (xs n0) (dg n0)) = false := bI_0 c42
                                have hbeh : mBeh xs dg n (cN tx (q + rM tx sn q) (rD tx sn (q + rM tx sn q))) (rD tx sn (q + rM tx sn q)) = false := by rw [hn1]; exact c42
                                refine x_aload_n F 6 dM_readsCode_278 rfl rfl ?_
                                refine x_iconst F (v := nI (4)) dM_readsCode_279 (by decide) ?_
                                refine x_iload F 2 dM_readsCode_280 rfl ?_
                                refine yVr (n := 2) (As := [.int (nI (4)), .int (nI (q + rM tx sn q))]) (ci := 6) F kmM_115 kiM_fails ksM_fails knM kcM_fails (by decide +kernel) dM_readsCode_282 (cM_fails l (nx) (x_up (x_up M (a + 4) (.inl (.int, 160, .inl (upd (ds) (120 + n) (nI (rM tx sn q)))))) (a + 3) (.inl (.long, 160, .inr (.inl (vp_updL (cd) (120 + n) (lN (cN tx (q + rM tx sn q) (rD tx sn (q + rM tx sn q))))))))) (a) th sg sn pr fk fp rws (vp_updL (cd) (120 + n) (lN (cN tx (q + rM tx sn q) (rD tx sn (q + rM tx sn q))))) (upd (ds) (120 + n) (nI (rM tx sn q))) wc wd nn nE nC nK nO ln lF lC lT lO fn fC fP ak ac pt ⟨(x_up_k (x_up_k h0 (by omega)) (by omega)), (x_up_k (x_up_k h1 (by omega)) (by omega)), (x_up_k (x_up_k h2 (by omega)) (by omega)), x_up_s, (x_up_k x_up_s (by omega)), (x_up_k (x_up_k h5 (by omega)) (by omega)), (x_up_k (x_up_k h6 (by omega)) (by omega)), (x_up_k (x_up_k h7 (by omega)) (by omega)), (x_up_k (x_up_k h8 (by omega)) (by omega)), (x_up_k (x_up_k h9 (by omega)) (by omega)), (x_up_k (x_up_k h10 (by omega)) (by omega)), (x_up_k (x_up_k h11 (by omega)) (by omega)), (x_up_k (x_up_k h12 (by omega)) (by omega)), (x_up_k (x_up_k h13 (by omega)) (by omega)), (x_up_k (x_up_k h14 (by omega)) (by omega)), (x_up_k (x_up_k h15 (by omega)) (by omega)), (x_up_k (x_up_k h16 (by omega)) (by omega)), (x_up_k (x_up_k h17 (by omega)) (by omega)), (x_up_k (x_up_k h18 (by omega)) (by omega)), by omega, by omega, by omega, by omega, by omega, by omega⟩ (nI (4)) (nI (q + rM tx sn q))) rfl (x_up_k (x_up_k h0 (by omega)) (by omega)) rfl rfl (Nat.le_of_ble_eq_true rfl) ⟨Nat.le_of_ble_eq_true rfl, Nat.le_of_ble_eq_true rfl⟩ ⟨Nat.le_of_ble_eq_true rfl, Nat.le_of_ble_eq_true rfl⟩ (fun r' n' M528 hp => ?_)
                                obtain ⟨hr', hn', hM528, hf528⟩ := hp
                                rw [hn', hr']
                                obtain ⟨v528_0, v528_1, v528_2, v528_3, v528_4, v528_5, v528_6, v528_7, v528_8, v528_9, v528_10, v528_11, v528_12, v528_13, v528_14, v528_15, v528_16, v528_17, v528_18, vb528_0, vb528_1, vb528_2, vb528_3, vb528_4, vb528_5⟩ := id hM528
                                show xW p l e ({ frames := 4, cells := 0, slots := 0, locals := 96 } : Room) s m args below meth c D xcl (x_A M nx) 8 (MQ below (x_Q D xcl (x_A M nx) (mcPost nx M a th sg sn pr fk fp rws cd ds wc wd nn nE nC nK nO ln lF lC lT lO fn fC fP ak ac pt n (rM tx sn q) (cN tx (q + rM tx sn q) (rD tx sn (q + rM tx sn q))) (mrc tx sn ds xs dg n q))) args s 0 0 (x_A M nx)) 0 0 (nx) M528 285 [(7, .int (nI (120 + j))), (6, .int (nI (rD tx sn (q + rM tx sn q)))), (5, .int (nI (q + rM tx sn q))), (4, .int (nI (rM tx sn q))), (3, .int (nI (120 + n))), (2, .int (nI (n))), (0, .ref (a)), (1, .int (nI (q)))] [.int (nI (0))]
                                refine x_if_eq F (tgt := 292) dM_readsCode_285 (by decide) (fun c43 => ?_) (fun c43 => ?_)
                                · skip
                                  have c43 : 0 = 0 := by
                                    exact (nI_eq (a := 0) (b := 0) (by omega) (by omega)).mp c43
                                  refine x_iconst F (v := nI (0)) dM_readsCode_292 (by decide) ?_
                                  exact x_zret F hr (by rfl) dM_readsCode_293 (by rw [show mrc tx sn ds xs dg n q = some (4, q + rM tx sn q) from by rw [mrc, if_neg (fun z => c1 z.1), if_neg h70, if_neg c4, if_neg (by omega), if_neg c6, if_neg (by omega), if_neg c9, if_neg (by rw [hbad]; decide), if_pos hbeh]]; exact ⟨rfl, fun b hb => (hf528 _ (by omega)).trans ((x_up_n (by omega)).trans ((x_up_n (by omega)).trans (rfl))), rfl, _, _, (fun i hi => ⟨updL_ne (by omega), upd_ne (by omega)⟩), hM528⟩)
                                · skip
                                  have c43 : 0 ≠ 0 := by
                                    have z : ¬ (0 = 0) := fun zz => c43 ((nI_eq (a := 0) (b := 0) (by omega) (by omega)).mpr zz)
                                    omega
                                  exact absurd c43 (by decide)
                          · skip
                            have c40 : (mbg (cN tx (q + rM tx sn q) (rD tx sn (q + rM tx sn q))) (rD tx sn (q + rM tx sn q)) (cN tx (q + rM tx sn q) (rD tx sn (q + rM tx sn q))) (rD tx sn (q + rM tx sn q))) = false := bI_0 c40
                            have hla := mUp_la (by omega) hup
                            have hbad : mBad ds xs dg n (rM tx sn q) (cN tx (q + rM tx sn q) (rD tx sn (q + rM tx sn q))) (rD tx sn (q + rM tx sn q)) = true := by rw [mBad, if_neg (by omega), hla]; show (! mbg (cN tx (q + rM tx sn q) (rD tx sn (q + rM tx sn q))) (rD tx sn (q + rM tx sn q)) (xs j) (dg j)) = true; rw [c40]; rfl
                            refine x_aload_n F 6 dM_readsCode_246 rfl rfl ?_
                            refine x_iconst F (v := nI (3)) dM_readsCode_247 (by decide) ?_
                            refine x_iload F 2 dM_readsCode_248 rfl ?_
                            refine yVr (n := 2) (As := [.int (nI (3)), .int (nI (q + rM tx sn q))]) (ci := 6) F kmM_115 kiM_fails ksM_fails knM kcM_fails (by decide +kernel) dM_readsCode_250 (cM_fails l (nx) (x_up (x_up M (a + 4) (.inl (.int, 160, .inl (upd (ds) (120 + n) (nI (rM tx sn q)))))) (a + 3) (.inl (.long, 160, .inr (.inl (vp_updL (cd) (120 + n) (lN (cN tx (q + rM tx sn q) (rD tx sn (q + rM tx sn q))))))))) (a) th sg sn pr fk fp rws (vp_updL (cd) (120 + n) (lN (cN tx (q + rM tx sn q) (rD tx sn (q + rM tx sn q))))) (upd (ds) (120 + n) (nI (rM tx sn q))) wc wd nn nE nC nK nO ln lF lC lT lO fn fC fP ak ac pt ⟨(x_up_k (x_up_k h0 (by omega)) (by omega)), (x_up_k (x_up_k h1 (by omega)) (by omega)), (x_up_k (x_up_k h2 (by omega)) (by omega)), x_up_s, (x_up_k x_up_s (by omega)), (x_up_k (x_up_k h5 (by omega)) (by omega)), (x_up_k (x_up_k h6 (by omega)) (by omega)), (x_up_k (x_up_k h7 (by omega)) (by omega)), (x_up_k (x_up_k h8 (by omega)) (by omega)), (x_up_k (x_up_k h9 (by omega)) (by omega)), (x_up_k (x_up_k h10 (by omega)) (by omega)), (x_up_k (x_up_k h11 (by omega)) (by omega)), (x_up_k (x_up_k h12 (by omega)) (by omega)), (x_up_k (x_up_k h13 (by omega)) (by omega)), (x_up_k (x_up_k h14 (by omega)) (by omega)), (x_up_k (x_up_k h15 (by omega)) (by omega)), (x_up_k (x_up_k h16 (by omega)) (by omega)), (x_up_k (x_up_k h17 (by omega)) (by omega)), (x_up_k (x_up_k h18 (by omega)) (by omega)), by omega, by omega, by omega, by omega, by omega, by omega⟩ (nI (3)) (nI (q + rM tx sn q))) rfl (x_up_k (x_up_k h0 (by omega)) (by omega)) rfl rfl (Nat.le_of_ble_eq_true rfl) ⟨Nat.le_of_ble_eq_true rfl, Nat.le_of_ble_eq_true rfl⟩ ⟨Nat.le_of_ble_eq_true rfl, Nat.le_of_ble_eq_true rfl⟩ (fun r' n' M529 hp => ?_)
                            obtain ⟨hr', hn', hM529, hf529⟩ := hp
                            rw [hn', hr']
                            obtain ⟨v529_0, v529_1, v529_2, v529_3, v529_4, v529_5, v529_6, v529_7, v529_8, v529_9, v529_10, v529_11, v529_12, v529_13, v529_14, v529_15, v529_16, v529_17, v529_18, vb529_0, vb529_1, vb529_2, vb529_3, vb529_4, vb529_5⟩ := id hM529
                            show xW p l e ({ frames := 4, cells := 0, slots := 0, locals := 96 } : Room) s m args below meth c D xcl (x_A M nx) 8 (MQ below (x_Q D xcl (x_A M nx) (mcPost nx M a th sg sn pr fk fp rws cd ds wc wd nn nE nC nK nO ln lF lC lT lO fn fC fP ak ac pt n (rM tx sn q) (cN tx (q + rM tx sn q) (rD tx sn (q + rM tx sn q))) (mrc tx sn ds xs dg n q))) args s 0 0 (x_A M nx)) 0 0 (nx) M529 253 [(7, .int (nI (120 + j))), (6, .int (nI (rD tx sn (q + rM tx sn q)))), (5, .int (nI (q + rM tx sn q))), (4, .int (nI (rM tx sn q))), (3, .int (nI (120 + n))), (2, .int (nI (n))), (0, .ref (a)), (1, .int (nI (q)))] [.int (nI (0))]
                            exact x_zret F hr (by rfl) dM_readsCode_253 (by rw [show mrc tx sn ds xs dg n q = some (3, q + rM tx sn q) from by rw [mrc, if_neg (fun z => c1 z.1), if_neg h70, if_neg c4, if_neg (by omega), if_neg c6, if_neg (by omega), if_neg c9, if_pos hbad]]; exact ⟨rfl, fun b hb => (hf529 _ (by omega)).trans ((x_up_n (by omega)).trans ((x_up_n (by omega)).trans (rfl))), rfl, _, _, (fun i hi => ⟨updL_ne (by omega), upd_ne (by omega)⟩), hM529⟩)
                    · skip
                      have c30 : rM tx sn q = 0 := by
                        exact (nI_eq (a := rM tx sn q) (b := 0) (by omega) (by omega)).mp c30
                      refine x_iload F 1 dM_readsCode_207 rfl ?_
                      refine x_iconst F (v := nI (2)) dM_readsCode_209 (by decide) ?_
                      refine x_icmp_ne F (tgt := 246) dM_readsCode_210 (by decide) (fun c44 => ?_) (fun c44 => ?_)
                      · skip
                        have c44 : rD tx sn (q + rM tx sn q) ≠ 2 := by
                          have z : ¬ (rD tx sn (q + rM tx sn q) = 2) := fun zz => c44 ((nI_eq (a := rD tx sn (q + rM tx sn q)) (b := 2) (by omega) (by omega)).mpr zz)
                          omega
                        have hbad : mBad ds xs dg n (rM tx sn q) (cN tx (q + rM tx sn q) (rD tx sn (q + rM tx sn q))) (rD tx sn (q + rM tx sn q)) = true := by rw [mBad, if_pos c30, decide_eq_false c44]; rfl
                        refine x_aload_n F 6 dM_readsCode_246 rfl rfl ?_
                        refine x_iconst F (v := nI (3)) dM_readsCode_247 (by decide) ?_
                        refine x_iload F 2 dM_readsCode_248 rfl ?_
                        refine yVr (n := 2) (As := [.int (nI (3)), .int (nI (q + rM tx sn q))]) (ci := 6) F kmM_115 kiM_fails ksM_fails knM kcM_fails (by decide +kernel) dM_readsCode_250 (cM_fails l (nx) (x_up (x_up M (a + 4) (.inl (.int, 160, .inl (upd (ds) (120 + n) (nI (rM tx sn q)))))) (a + 3) (.inl (.long, 160, .inr (.inl (vp_updL (cd) (120 + n) (lN (cN tx (q + rM tx sn q) (rD tx sn (q + rM tx sn q))))))))) (a) th sg sn pr fk fp rws (vp_updL (cd) (120 + n) (lN (cN tx (q + rM tx sn q) (rD tx sn (q + rM tx sn q))))) (upd (ds) (120 + n) (nI (rM tx sn q))) wc wd nn nE nC nK nO ln lF lC lT lO fn fC fP ak ac pt ⟨(x_up_k (x_up_k h0 (by omega)) (by omega)), (x_up_k (x_up_k h1 (by omega)) (by omega)), (x_up_k (x_up_k h2 (by omega)) (by omega)), x_up_s, (x_up_k x_up_s (by omega)), (x_up_k (x_up_k h5 (by omega)) (by omega)), (x_up_k (x_up_k h6 (by omega)) (by omega)), (x_up_k (x_up_k h7 (by omega)) (by omega)), (x_up_k (x_up_k h8 (by omega)) (by omega)), (x_up_k (x_up_k h9 (by omega)) (by omega)), (x_up_k (x_up_k h10 (by omega)) (by omega)), (x_up_k (x_up_k h11 (by omega)) (by omega)), (x_up_k (x_up_k h12 (by omega)) (by omega)), (x_up_k (x_up_k h13 (by omega)) (by omega)), (x_up_k (x_up_k h14 (by omega)) (by omega)), (x_up_k (x_up_k h15 (by omega)) (by omega)), (x_up_k (x_up_k h16 (by omega)) (by omega)), (x_up_k (x_up_k h17 (by omega)) (by omega)), (x_up_k (x_up_k h18 (by omega)) (by omega)), by omega, by omega, by omega, by omega, by omega, by omega⟩ (nI (3)) (nI (q + rM tx sn q))) rfl (x_up_k (x_up_k h0 (by omega)) (by omega)) rfl rfl (Nat.le_of_ble_eq_true rfl) ⟨Nat.le_of_ble_eq_true rfl, Nat.le_of_ble_eq_true rfl⟩ ⟨Nat.le_of_ble_eq_true rfl, Nat.le_of_ble_eq_true rfl⟩ (fun r' n' M530 hp => ?_)
                        obtain ⟨hr', hn', hM530, hf530⟩ := hp
                        rw [hn', hr']
                        obtain ⟨v530_0, v530_1, v530_2, v530_3, v530_4, v530_5, v530_6, v530_7, v530_8, v530_9, v530_10, v530_11, v530_12, v530_13, v530_14, v530_15, v530_16, v530_17, v530_18, vb530_0, vb530_1, vb530_2, vb530_3, vb530_4, vb530_5⟩ := id hM530
                        show xW p l e ({ frames := 4, cells := 0, slots := 0, locals := 96 } : Room) s m args below meth c D xcl (x_A M nx) 8 (MQ below (x_Q D xcl (x_A M nx) (mcPost nx M a th sg sn pr fk fp rws cd ds wc wd nn nE nC nK nO ln lF lC lT lO fn fC fP ak ac pt n (rM tx sn q) (cN tx (q + rM tx sn q) (rD tx sn (q + rM tx sn q))) (mrc tx sn ds xs dg n q))) args s 0 0 (x_A M nx)) 0 0 (nx) M530 253 [(7, .int (nI (120 + j))), (6, .int (nI (rD tx sn (q + rM tx sn q)))), (5, .int (nI (q + rM tx sn q))), (4, .int (nI (rM tx sn q))), (3, .int (nI (120 + n))), (2, .int (nI (n))), (0, .ref (a)), (1, .int (nI (q)))] [.int (nI (0))]
                        exact x_zret F hr (by rfl) dM_readsCode_253 (by rw [show mrc tx sn ds xs dg n q = some (3, q + rM tx sn q) from by rw [mrc, if_neg (fun z => c1 z.1), if_neg h70, if_neg c4, if_neg (by omega), if_neg c6, if_neg (by omega), if_neg c9, if_pos hbad]]; exact ⟨rfl, fun b hb => (hf530 _ (by omega)).trans ((x_up_n (by omega)).trans ((x_up_n (by omega)).trans (rfl))), rfl, _, _, (fun i hi => ⟨updL_ne (by omega), upd_ne (by omega)⟩), hM530⟩)
                      · skip
                        have c44 : rD tx sn (q + rM tx sn q) = 2 := by
                          exact (nI_eq (a := rD tx sn (q + rM tx sn q)) (b := 2) (by omega) (by omega)).mp c44
                        refine x_iload F 3 dM_readsCode_213 rfl ?_
                        refine x_if_le F (tgt := 254) dM_readsCode_215 (by decide) (fun c45 => ?_) (fun c45 => ?_)
                        · skip
                          have c45 : rM tx sn q ≤ 0 := by
                            exact (nI_leI (a := rM tx sn q) (b := 0) (by omega) (by omega)).mp c45
                          have hbad : mBad ds xs dg n (rM tx sn q) (cN tx (q + rM tx sn q) (rD tx sn (q + rM tx sn q))) (rD tx sn (q + rM tx sn q)) = false := by rw [mBad, if_pos (by omega), decide_eq_true (by omega)]; rfl
                          refine x_iload_n F 5 dM_readsCode_254 rfl rfl ?_
                          refine x_if_eq F (tgt := 288) dM_readsCode_255 (by decide) (fun c46 => ?_) (fun c46 => ?_)
                          · skip
                            have c46 : n = 0 := by
                              exact (nI_eq (a := n) (b := 0) (by omega) (by omega)).mp c46
                            have hbeh : mBeh xs dg n (cN tx (q + rM tx sn q) (rD tx sn (q + rM tx sn q))) (rD tx sn (q + rM tx sn q)) = true := by rw [c46]; rfl
                            refine x_iconst F (v := nI (1)) dM_readsCode_288 (by decide) ?_
                            refine x_goto F (tgt := 293) dM_readsCode_289 (by decide) ?_
                            exact x_zret F hr (by rfl) dM_readsCode_293 (by rw [show mrc tx sn ds xs dg n q = none from by rw [mrc, if_neg (fun z => c1 z.1), if_neg h70, if_neg c4, if_neg (by omega), if_neg c6, if_neg (by omega), if_neg c9, if_neg (by rw [hbad]; decide), if_neg (by rw [hbeh]; decide)]]; exact ⟨rfl, fun b hb => (x_up_n (by omega)).trans ((x_up_n (by omega)).trans (rfl)), rfl, ⟨(x_up_k (x_up_k h0 (by omega)) (by omega)), (x_up_k (x_up_k h1 (by omega)) (by omega)), (x_up_k (x_up_k h2 (by omega)) (by omega)), x_up_s, (x_up_k x_up_s (by omega)), (x_up_k (x_up_k h5 (by omega)) (by omega)), (x_up_k (x_up_k h6 (by omega)) (by omega)), (x_up_k (x_up_k h7 (by omega)) (by omega)), (x_up_k (x_up_k h8 (by omega)) (by omega)), (x_up_k (x_up_k h9 (by omega)) (by omega)), (x_up_k (x_up_k h10 (by omega)) (by omega)), (x_up_k (x_up_k h11 (by omega)) (by omega)), (x_up_k (x_up_k h12 (by omega)) (by omega)), (x_up_k (x_up_k h13 (by omega)) (by omega)), (x_up_k (x_up_k h14 (by omega)) (by omega)), (x_up_k (x_up_k h15 (by omega)) (by omega)), (x_up_k (x_up_k h16 (by omega)) (by omega)), (x_up_k (x_up_k h17 (by omega)) (by omega)), (x_up_k (x_up_k h18 (by omega)) (by omega)), by omega, by omega, by omega, by omega, by omega, by omega⟩⟩)
                          · skip
                            have c46 : n ≠ 0 := by
                              have z : ¬ (n = 0) := fun zz => c46 ((nI_eq (a := n) (b := 0) (by omega) (by omega)).mpr zz)
                              omega
                            obtain ⟨n0, hn1⟩ : ∃ n0, n = n0 + 1 := ⟨n - 1, by omega⟩
                            refine x_aload_n F 6 dM_readsCode_258 rfl rfl ?_
                            refine x_get (ci := 6) F 7 (x_in inM) rfl (by decide) (x_m kfM_20) dM_readsCode_259 (x_up_k (x_up_k h0 (by omega)) (by omega)) rfl ?_
                            refine x_iload_n F 4 dM_readsCode_262 rfl rfl ?_
                            refine x_lald F dM_readsCode_263 x_up_s (pk_in (120 + n) (160) (by omega)) ?_
                            refine xW.tol (lN (cN tx (q + rM tx sn q) (rD tx sn (q + rM tx sn q)))) (by rw [nI_clamp (by omega)]; exact vp_us) ?_
                            refine x_aload_n F 6 dM_readsCode_264 rfl rfl ?_
                            refine x_get (ci := 6) F 7 (x_in inM) rfl (by decide) (x_m kfM_20) dM_readsCode_265 (x_up_k (x_up_k h0 (by omega)) (by omega)) rfl ?_
                            refine x_iload_n F 4 dM_readsCode_268 rfl rfl ?_
                            refine x_iconst F (v := nI (1)) dM_readsCode_269 (by decide) ?_
                            refine x_isub F dM_readsCode_270 ?_
                            refine xW.toi (nI (120 + n0)) (by rw [hn1]; exact nI_pred (120 + n0)) ?_
                            refine x_lald F dM_readsCode_271 x_up_s (pk_in (120 + n0) (160) (by omega)) ?_
                            refine xW.tol (lN (xs n0)) (by rw [nI_clamp (by omega)]; exact (updL_ne (by omega)).trans (hcd n0 (by omega)).1) ?_
                            refine yS (n := 2) (As := [.long (lN (cN tx (q + rM tx sn q) (rD tx sn (q + rM tx sn q)))), .long (lN (xs n0))]) F kmM_126 ktM_isBehind knM kcM_isBehind (by decide +kernel) dM_readsCode_272 (cM_isBehind l (nx) (x_up (x_up M (a + 4) (.inl (.int, 160, .inl (upd (ds) (120 + n) (nI (rM tx sn q)))))) (a + 3) (.inl (.long, 160, .inr (.inl (vp_updL (cd) (120 + n) (lN (cN tx (q + rM tx sn q) (rD tx sn (q + rM tx sn q))))))))) (cN tx (q + rM tx sn q) (rD tx sn (q + rM tx sn q))) (rD tx sn (q + rM tx sn q)) (xs n0) (dg n0) hX10 (hcd n0 (by omega)).2) rfl rfl (Nat.le_of_ble_eq_true rfl) ⟨Nat.le_of_ble_eq_true rfl, Nat.le_of_ble_eq_true rfl⟩ ⟨Nat.le_of_ble_eq_true rfl, Nat.le_of_ble_eq_true rfl⟩ ?_
                            refine x_if_ne F (tgt := 288) dM_readsCode_275 (by decide) (fun c47 => ?_) (fun c47 => ?_)
                            · skip
                              have c47 : (mbh (cN tx (q + rM tx sn q) (rD tx sn (q + rM tx sn q))) (rD tx sn (q + rM tx sn q)) (xs n0) (dg n0)) = true := bI_1 c47
                              have hbeh : mBeh xs dg n (cN tx (q + rM tx sn q) (rD tx sn (q + rM tx sn q))) (rD tx sn (q + rM tx sn q)) = true := by rw [hn1]; exact c47
                              refine x_iconst F (v := nI (1)) dM_readsCode_288 (by decide) ?_
                              refine x_goto F (tgt := 293) dM_readsCode_289 (by decide) ?_
                              exact x_zret F hr (by rfl) dM_readsCode_293 (by rw [show mrc tx sn ds xs dg n q = none from by rw [mrc, if_neg (fun z => c1 z.1), if_neg h70, if_neg c4, if_neg (by omega), if_neg c6, if_neg (by omega), if_neg c9, if_neg (by rw [hbad]; decide), if_neg (by rw [hbeh]; decide)]]; exact ⟨rfl, fun b hb => (x_up_n (by omega)).trans ((x_up_n (by omega)).trans (rfl)), rfl, ⟨(x_up_k (x_up_k h0 (by omega)) (by omega)), (x_up_k (x_up_k h1 (by omega)) (by omega)), (x_up_k (x_up_k h2 (by omega)) (by omega)), x_up_s, (x_up_k x_up_s (by omega)), (x_up_k (x_up_k h5 (by omega)) (by omega)), (x_up_k (x_up_k h6 (by omega)) (by omega)), (x_up_k (x_up_k h7 (by omega)) (by omega)), (x_up_k (x_up_k h8 (by omega)) (by omega)), (x_up_k (x_up_k h9 (by omega)) (by omega)), (x_up_k (x_up_k h10 (by omega)) (by omega)), (x_up_k (x_up_k h11 (by omega)) (by omega)), (x_up_k (x_up_k h12 (by omega)) (by omega)), (x_up_k (x_up_k h13 (by omega)) (by omega)), (x_up_k (x_up_k h14 (by omega)) (by omega)), (x_up_k (x_up_k h15 (by omega)) (by omega)), (x_up_k (x_up_k h16 (by omega)) (by omega)), (x_up_k (x_up_k h17 (by omega)) (by omega)), (x_up_k (x_up_k h18 (by omega)) (by omega)), by omega, by omega, by omega, by omega, by omega, by omega⟩⟩)
                            · skip
                              have c47 : (mbh (cN tx (q + rM tx sn q) (rD tx sn (q + rM tx sn q))) (rD tx sn (q + rM tx sn q)) (xs n0) (dg n0)) = false := bI_0 c47
                              have hbeh : mBeh xs dg n (cN tx (q + rM tx sn q) (rD tx sn (q + rM tx sn q))) (rD tx sn (q + rM tx sn q)) = false := by rw [hn1]; exact c47
                              refine x_aload_n F 6 dM_readsCode_278 rfl rfl ?_
                              refine x_iconst F (v := nI (4)) dM_readsCode_279 (by decide) ?_
                              refine x_iload F 2 dM_readsCode_280 rfl ?_
                              refine yVr (n := 2) (As := [.int (nI (4)), .int (nI (q + rM tx sn q))]) (ci := 6) F kmM_115 kiM_fails ksM_fails knM kcM_fails (by decide +kernel) dM_readsCode_282 (cM_fails l (nx) (x_up (x_up M (a + 4) (.inl (.int, 160, .inl (upd (ds) (120 + n) (nI (rM tx sn q)))))) (a + 3) (.inl (.long, 160, .inr (.inl (vp_updL (cd) (120 + n) (lN (cN tx (q + rM tx sn q) (rD tx sn (q + rM tx sn q))))))))) (a) th sg sn pr fk fp rws (vp_updL (cd) (120 + n) (lN (cN tx (q + rM tx sn q) (rD tx sn (q + rM tx sn q))))) (upd (ds) (120 + n) (nI (rM tx sn q))) wc wd nn nE nC nK nO ln lF lC lT lO fn fC fP ak ac pt ⟨(x_up_k (x_up_k h0 (by omega)) (by omega)), (x_up_k (x_up_k h1 (by omega)) (by omega)), (x_up_k (x_up_k h2 (by omega)) (by omega)), x_up_s, (x_up_k x_up_s (by omega)), (x_up_k (x_up_k h5 (by omega)) (by omega)), (x_up_k (x_up_k h6 (by omega)) (by omega)), (x_up_k (x_up_k h7 (by omega)) (by omega)), (x_up_k (x_up_k h8 (by omega)) (by omega)), (x_up_k (x_up_k h9 (by omega)) (by omega)), (x_up_k (x_up_k h10 (by omega)) (by omega)), (x_up_k (x_up_k h11 (by omega)) (by omega)), (x_up_k (x_up_k h12 (by omega)) (by omega)), (x_up_k (x_up_k h13 (by omega)) (by omega)), (x_up_k (x_up_k h14 (by omega)) (by omega)), (x_up_k (x_up_k h15 (by omega)) (by omega)), (x_up_k (x_up_k h16 (by omega)) (by omega)), (x_up_k (x_up_k h17 (by omega)) (by omega)), (x_up_k (x_up_k h18 (by omega)) (by omega)), by omega, by omega, by omega, by omega, by omega, by omega⟩ (nI (4)) (nI (q + rM tx sn q))) rfl (x_up_k (x_up_k h0 (by omega)) (by omega)) rfl rfl (Nat.le_of_ble_eq_true rfl) ⟨Nat.le_of_ble_eq_true rfl, Nat.le_of_ble_eq_true rfl⟩ ⟨Nat.le_of_ble_eq_true rfl, Nat.le_of_ble_eq_true rfl⟩ (fun r' n' M531 hp => ?_)
                              obtain ⟨hr', hn', hM531, hf531⟩ := hp
                              rw [hn', hr']
                              obtain ⟨v531_0, v531_1, v531_2, v531_3, v531_4, v531_5, v531_6, v531_7, v531_8, v531_9, v531_10, v531_11, v531_12, v531_13, v531_14, v531_15, v531_16, v531_17, v531_18, vb531_0, vb531_1, vb531_2, vb531_3, vb531_4, vb531_5⟩ := id hM531
                              show xW p l e ({ frames := 4, cells := 0, slots := 0, locals := 96 } : Room) s m args below meth c D xcl (x_A M nx) 8 (MQ below (x_Q D xcl (x_A M nx) (mcPost nx M a th sg sn pr fk fp rws cd ds wc wd nn nE nC nK nO ln lF lC lT lO fn fC fP ak ac pt n (rM tx sn q) (cN tx (q + rM tx sn q) (rD tx sn (q + rM tx sn q))) (mrc tx sn ds xs dg n q))) args s 0 0 (x_A M nx)) 0 0 (nx) M531 285 [(7, .int (nI (120 + j))), (6, .int (nI (rD tx sn (q + rM tx sn q)))), (5, .int (nI (q + rM tx sn q))), (4, .int (nI (rM tx sn q))), (3, .int (nI (120 + n))), (2, .int (nI (n))), (0, .ref (a)), (1, .int (nI (q)))] [.int (nI (0))]
                              refine x_if_eq F (tgt := 292) dM_readsCode_285 (by decide) (fun c48 => ?_) (fun c48 => ?_)
                              · skip
                                have c48 : 0 = 0 := by
                                  exact (nI_eq (a := 0) (b := 0) (by omega) (by omega)).mp c48
                                refine x_iconst F (v := nI (0)) dM_readsCode_292 (by decide) ?_
                                exact x_zret F hr (by rfl) dM_readsCode_293 (by rw [show mrc tx sn ds xs dg n q = some (4, q + rM tx sn q) from by rw [mrc, if_neg (fun z => c1 z.1), if_neg h70, if_neg c4, if_neg (by omega), if_neg c6, if_neg (by omega), if_neg c9, if_neg (by rw [hbad]; decide), if_pos hbeh]]; exact ⟨rfl, fun b hb => (hf531 _ (by omega)).trans ((x_up_n (by omega)).trans ((x_up_n (by omega)).trans (rfl))), rfl, _, _, (fun i hi => ⟨updL_ne (by omega), upd_ne (by omega)⟩), hM531⟩)
                              · skip
                                have c48 : 0 ≠ 0 := by
                                  have z : ¬ (0 = 0) := fun zz => c48 ((nI_eq (a := 0) (b := 0) (by omega) (by omega)).mpr zz)
                                  omega
                                exact absurd c48 (by decide)
                        · skip
                          have c45 : 0 < rM tx sn q := by
                            have z : ¬ (rM tx sn q ≤ 0) := fun zz => c45 ((nI_leI (a := rM tx sn q) (b := 0) (by omega) (by omega)).mpr zz)
                            omega
                          refine x_aload_n F 6 dM_readsCode_218 rfl rfl ?_
                          refine x_get (ci := 6) F 7 (x_in inM) rfl (by decide) (x_m kfM_20) dM_readsCode_219 (x_up_k (x_up_k h0 (by omega)) (by omega)) rfl ?_
                          refine x_iload_n F 4 dM_readsCode_222 rfl rfl ?_
                          refine x_lald F dM_readsCode_223 x_up_s (pk_in (120 + n) (160) (by omega)) ?_
                          refine xW.tol (lN (cN tx (q + rM tx sn q) (rD tx sn (q + rM tx sn q)))) (by rw [nI_clamp (by omega)]; exact vp_us) ?_
                          refine x_aload_n F 6 dM_readsCode_224 rfl rfl ?_
                          refine x_get (ci := 6) F 7 (x_in inM) rfl (by decide) (x_m kfM_20) dM_readsCode_225 (x_up_k (x_up_k h0 (by omega)) (by omega)) rfl ?_
                          refine x_iload F 0 dM_readsCode_228 rfl ?_
                          refine x_if_ge F (tgt := 237) dM_readsCode_230 (by decide) (fun c49 => ?_) (fun c49 => ?_)
                          · skip
                            have c49 : 0 ≤ 120 + j := by
                              exact (nI_leI (a := 0) (b := 120 + j) (by omega) (by omega)).mp c49
                            refine x_iload F 0 dM_readsCode_237 rfl ?_
                            refine x_lald F dM_readsCode_239 x_up_s (pk_in (120 + j) (160) (by omega)) ?_
                            refine xW.tol (lN (xs j)) (by rw [nI_clamp (by omega)]; exact (updL_ne (by omega)).trans (hcd j hj).1) ?_
                            refine yS (n := 2) (As := [.long (lN (cN tx (q + rM tx sn q) (rD tx sn (q + rM tx sn q)))), .long (lN (xs j))]) F kmM_107 ktM_begins knM kcM_begins (by decide +kernel) dM_readsCode_240 (cM_begins l (nx) (x_up (x_up M (a + 4) (.inl (.int, 160, .inl (upd (ds) (120 + n) (nI (rM tx sn q)))))) (a + 3) (.inl (.long, 160, .inr (.inl (vp_updL (cd) (120 + n) (lN (cN tx (q + rM tx sn q) (rD tx sn (q + rM tx sn q))))))))) (cN tx (q + rM tx sn q) (rD tx sn (q + rM tx sn q))) (rD tx sn (q + rM tx sn q)) (xs j) (dg j) hX10 (hcd j hj).2) rfl rfl (Nat.le_of_ble_eq_true rfl) ⟨Nat.le_of_ble_eq_true rfl, Nat.le_of_ble_eq_true rfl⟩ ⟨Nat.le_of_ble_eq_true rfl, Nat.le_of_ble_eq_true rfl⟩ ?_
                            refine x_if_ne F (tgt := 254) dM_readsCode_243 (by decide) (fun c50 => ?_) (fun c50 => ?_)
                            · skip
                              have c50 : (mbg (cN tx (q + rM tx sn q) (rD tx sn (q + rM tx sn q))) (rD tx sn (q + rM tx sn q)) (xs j) (dg j)) = true := bI_1 c50
                              have hla := mUp_la (by omega) hup
                              have hbad : mBad ds xs dg n (rM tx sn q) (cN tx (q + rM tx sn q) (rD tx sn (q + rM tx sn q))) (rD tx sn (q + rM tx sn q)) = false := by rw [mBad, if_neg (by omega), hla]; show (! mbg (cN tx (q + rM tx sn q) (rD tx sn (q + rM tx sn q))) (rD tx sn (q + rM tx sn q)) (xs j) (dg j)) = false; rw [c50]; rfl
                              refine x_iload_n F 5 dM_readsCode_254 rfl rfl ?_
                              refine x_if_eq F (tgt := 288) dM_readsCode_255 (by decide) (fun c51 => ?_) (fun c51 => ?_)
                              · skip
                                have c51 : n = 0 := by
                                  exact (nI_eq (a := n) (b := 0) (by omega) (by omega)).mp c51
                                have hbeh : mBeh xs dg n (cN tx (q + rM tx sn q) (rD tx sn (q + rM tx sn q))) (rD tx sn (q + rM tx sn q)) = true := by rw [c51]; rfl
                                refine x_iconst F (v := nI (1)) dM_readsCode_288 (by decide) ?_
                                refine x_goto F (tgt := 293) dM_readsCode_289 (by decide) ?_
                                exact x_zret F hr (by rfl) dM_readsCode_293 (by rw [show mrc tx sn ds xs dg n q = none from by rw [mrc, if_neg (fun z => c1 z.1), if_neg h70, if_neg c4, if_neg (by omega), if_neg c6, if_neg (by omega), if_neg c9, if_neg (by rw [hbad]; decide), if_neg (by rw [hbeh]; decide)]]; exact ⟨rfl, fun b hb => (x_up_n (by omega)).trans ((x_up_n (by omega)).trans (rfl)), rfl, ⟨(x_up_k (x_up_k h0 (by omega)) (by omega)), (x_up_k (x_up_k h1 (by omega)) (by omega)), (x_up_k (x_up_k h2 (by omega)) (by omega)), x_up_s, (x_up_k x_up_s (by omega)), (x_up_k (x_up_k h5 (by omega)) (by omega)), (x_up_k (x_up_k h6 (by omega)) (by omega)), (x_up_k (x_up_k h7 (by omega)) (by omega)), (x_up_k (x_up_k h8 (by omega)) (by omega)), (x_up_k (x_up_k h9 (by omega)) (by omega)), (x_up_k (x_up_k h10 (by omega)) (by omega)), (x_up_k (x_up_k h11 (by omega)) (by omega)), (x_up_k (x_up_k h12 (by omega)) (by omega)), (x_up_k (x_up_k h13 (by omega)) (by omega)), (x_up_k (x_up_k h14 (by omega)) (by omega)), (x_up_k (x_up_k h15 (by omega)) (by omega)), (x_up_k (x_up_k h16 (by omega)) (by omega)), (x_up_k (x_up_k h17 (by omega)) (by omega)), (x_up_k (x_up_k h18 (by omega)) (by omega)), by omega, by omega, by omega, by omega, by omega, by omega⟩⟩)
                              · skip
                                have c51 : n ≠ 0 := by
                                  have z : ¬ (n = 0) := fun zz => c51 ((nI_eq (a := n) (b := 0) (by omega) (by omega)).mpr zz)
                                  omega
                                obtain ⟨n0, hn1⟩ : ∃ n0, n = n0 + 1 := ⟨n - 1, by omega⟩
                                refine x_aload_n F 6 dM_readsCode_258 rfl rfl ?_
                                refine x_get (ci := 6) F 7 (x_in inM) rfl (by decide) (x_m kfM_20) dM_readsCode_259 (x_up_k (x_up_k h0 (by omega)) (by omega)) rfl ?_
                                refine x_iload_n F 4 dM_readsCode_262 rfl rfl ?_
                                refine x_lald F dM_readsCode_263 x_up_s (pk_in (120 + n) (160) (by omega)) ?_
                                refine xW.tol (lN (cN tx (q + rM tx sn q) (rD tx sn (q + rM tx sn q)))) (by rw [nI_clamp (by omega)]; exact vp_us) ?_
                                refine x_aload_n F 6 dM_readsCode_264 rfl rfl ?_
                                refine x_get (ci := 6) F 7 (x_in inM) rfl (by decide) (x_m kfM_20) dM_readsCode_265 (x_up_k (x_up_k h0 (by omega)) (by omega)) rfl ?_
                                refine x_iload_n F 4 dM_readsCode_268 rfl rfl ?_
                                refine x_iconst F (v := nI (1)) dM_readsCode_269 (by decide) ?_
                                refine x_isub F dM_readsCode_270 ?_
                                refine xW.toi (nI (120 + n0)) (by rw [hn1]; exact nI_pred (120 + n0)) ?_
                                refine x_lald F dM_readsCode_271 x_up_s (pk_in (120 + n0) (160) (by omega)) ?_
                                refine xW.tol (lN (xs n0)) (by rw [nI_clamp (by omega)]; exact (updL_ne (by omega)).trans (hcd n0 (by omega)).1) ?_
                                refine yS (n := 2) (As := [.long (lN (cN tx (q + rM tx sn q) (rD tx sn (q + rM tx sn q)))), .long (lN (xs n0))]) F kmM_126 ktM_isBehind knM kcM_isBehind (by decide +kernel) dM_readsCode_272 (cM_isBehind l (nx) (x_up (x_up M (a + 4) (.inl (.int, 160, .inl (upd (ds) (120 + n) (nI (rM tx sn q)))))) (a + 3) (.inl (.long, 160, .inr (.inl (vp_updL (cd) (120 + n) (lN (cN tx (q + rM tx sn q) (rD tx sn (q + rM tx sn q))))))))) (cN tx (q + rM tx sn q) (rD tx sn (q + rM tx sn q))) (rD tx sn (q + rM tx sn q)) (xs n0) (dg n0) hX10 (hcd n0 (by omega)).2) rfl rfl (Nat.le_of_ble_eq_true rfl) ⟨Nat.le_of_ble_eq_true rfl, Nat.le_of_ble_eq_true rfl⟩ ⟨Nat.le_of_ble_eq_true rfl, Nat.le_of_ble_eq_true rfl⟩ ?_
                                refine x_if_ne F (tgt := 288) dM_readsCode_275 (by decide) (fun c52 => ?_) (fun c52 => ?_)
                                · skip
                                  have c52 : (mbh (cN tx (q + rM tx sn q) (rD tx sn (q + rM tx sn q))) (rD tx sn (q + rM tx sn q)) (xs n0) (dg n0)) = true := bI_1 c52
                                  have hbeh : mBeh xs dg n (cN tx (q + rM tx sn q) (rD tx sn (q + rM tx sn q))) (rD tx sn (q + rM tx sn q)) = true := by rw [hn1]; exact c52
                                  refine x_iconst F (v := nI (1)) dM_readsCode_288 (by decide) ?_
                                  refine x_goto F (tgt := 293) dM_readsCode_289 (by decide) ?_
                                  exact x_zret F hr (by rfl) dM_readsCode_293 (by rw [show mrc tx sn ds xs dg n q = none from by rw [mrc, if_neg (fun z => c1 z.1), if_neg h70, if_neg c4, if_neg (by omega), if_neg c6, if_neg (by omega), if_neg c9, if_neg (by rw [hbad]; decide), if_neg (by rw [hbeh]; decide)]]; exact ⟨rfl, fun b hb => (x_up_n (by omega)).trans ((x_up_n (by omega)).trans (rfl)), rfl, ⟨(x_up_k (x_up_k h0 (by omega)) (by omega)), (x_up_k (x_up_k h1 (by omega)) (by omega)), (x_up_k (x_up_k h2 (by omega)) (by omega)), x_up_s, (x_up_k x_up_s (by omega)), (x_up_k (x_up_k h5 (by omega)) (by omega)), (x_up_k (x_up_k h6 (by omega)) (by omega)), (x_up_k (x_up_k h7 (by omega)) (by omega)), (x_up_k (x_up_k h8 (by omega)) (by omega)), (x_up_k (x_up_k h9 (by omega)) (by omega)), (x_up_k (x_up_k h10 (by omega)) (by omega)), (x_up_k (x_up_k h11 (by omega)) (by omega)), (x_up_k (x_up_k h12 (by omega)) (by omega)), (x_up_k (x_up_k h13 (by omega)) (by omega)), (x_up_k (x_up_k h14 (by omega)) (by omega)), (x_up_k (x_up_k h15 (by omega)) (by omega)), (x_up_k (x_up_k h16 (by omega)) (by omega)), (x_up_k (x_up_k h17 (by omega)) (by omega)), (x_up_k (x_up_k h18 (by omega)) (by omega)), by omega, by omega, by omega, by omega, by omega, by omega⟩⟩)
                                · skip
                                  have c52 : (mbh (cN tx (q + rM tx sn q) (rD tx sn (q + rM tx sn q))) (rD tx sn (q + rM tx sn q)) (xs n0) (dg n0)) = false := bI_0 c52
                                  have hbeh : mBeh xs dg n (cN tx (q + rM tx sn q) (rD tx sn (q + rM tx sn q))) (rD tx sn (q + rM tx sn q)) = false := by rw [hn1]; exact c52
                                  refine x_aload_n F 6 dM_readsCode_278 rfl rfl ?_
                                  refine x_iconst F (v := nI (4)) dM_readsCode_279 (by decide) ?_
                                  refine x_iload F 2 dM_readsCode_280 rfl ?_
                                  refine yVr (n := 2) (As := [.int (nI (4)), .int (nI (q + rM tx sn q))]) (ci := 6) F kmM_115 kiM_fails ksM_fails knM kcM_fails (by decide +kernel) dM_readsCode_282 (cM_fails l (nx) (x_up (x_up M (a + 4) (.inl (.int, 160, .inl (upd (ds) (120 + n) (nI (rM tx sn q)))))) (a + 3) (.inl (.long, 160, .inr (.inl (vp_updL (cd) (120 + n) (lN (cN tx (q + rM tx sn q) (rD tx sn (q + rM tx sn q))))))))) (a) th sg sn pr fk fp rws (vp_updL (cd) (120 + n) (lN (cN tx (q + rM tx sn q) (rD tx sn (q + rM tx sn q))))) (upd (ds) (120 + n) (nI (rM tx sn q))) wc wd nn nE nC nK nO ln lF lC lT lO fn fC fP ak ac pt ⟨(x_up_k (x_up_k h0 (by omega)) (by omega)), (x_up_k (x_up_k h1 (by omega)) (by omega)), (x_up_k (x_up_k h2 (by omega)) (by omega)), x_up_s, (x_up_k x_up_s (by omega)), (x_up_k (x_up_k h5 (by omega)) (by omega)), (x_up_k (x_up_k h6 (by omega)) (by omega)), (x_up_k (x_up_k h7 (by omega)) (by omega)), (x_up_k (x_up_k h8 (by omega)) (by omega)), (x_up_k (x_up_k h9 (by omega)) (by omega)), (x_up_k (x_up_k h10 (by omega)) (by omega)), (x_up_k (x_up_k h11 (by omega)) (by omega)), (x_up_k (x_up_k h12 (by omega)) (by omega)), (x_up_k (x_up_k h13 (by omega)) (by omega)), (x_up_k (x_up_k h14 (by omega)) (by omega)), (x_up_k (x_up_k h15 (by omega)) (by omega)), (x_up_k (x_up_k h16 (by omega)) (by omega)), (x_up_k (x_up_k h17 (by omega)) (by omega)), (x_up_k (x_up_k h18 (by omega)) (by omega)), by omega, by omega, by omega, by omega, by omega, by omega⟩ (nI (4)) (nI (q + rM tx sn q))) rfl (x_up_k (x_up_k h0 (by omega)) (by omega)) rfl rfl (Nat.le_of_ble_eq_true rfl) ⟨Nat.le_of_ble_eq_true rfl, Nat.le_of_ble_eq_true rfl⟩ ⟨Nat.le_of_ble_eq_true rfl, Nat.le_of_ble_eq_true rfl⟩ (fun r' n' M532 hp => ?_)
                                  obtain ⟨hr', hn', hM532, hf532⟩ := hp
                                  rw [hn', hr']
                                  obtain ⟨v532_0, v532_1, v532_2, v532_3, v532_4, v532_5, v532_6, v532_7, v532_8, v532_9, v532_10, v532_11, v532_12, v532_13, v532_14, v532_15, v532_16, v532_17, v532_18, vb532_0, vb532_1, vb532_2, vb532_3, vb532_4, vb532_5⟩ := id hM532
                                  show xW p l e ({ frames := 4, cells := 0, slots := 0, locals := 96 } : Room) s m args below meth c D xcl (x_A M nx) 8 (MQ below (x_Q D xcl (x_A M nx) (mcPost nx M a th sg sn pr fk fp rws cd ds wc wd nn nE nC nK nO ln lF lC lT lO fn fC fP ak ac pt n (rM tx sn q) (cN tx (q + rM tx sn q) (rD tx sn (q + rM tx sn q))) (mrc tx sn ds xs dg n q))) args s 0 0 (x_A M nx)) 0 0 (nx) M532 285 [(7, .int (nI (120 + j))), (6, .int (nI (rD tx sn (q + rM tx sn q)))), (5, .int (nI (q + rM tx sn q))), (4, .int (nI (rM tx sn q))), (3, .int (nI (120 + n))), (2, .int (nI (n))), (0, .ref (a)), (1, .int (nI (q)))] [.int (nI (0))]
                                  refine x_if_eq F (tgt := 292) dM_readsCode_285 (by decide) (fun c53 => ?_) (fun c53 => ?_)
                                  · skip
                                    have c53 : 0 = 0 := by
                                      exact (nI_eq (a := 0) (b := 0) (by omega) (by omega)).mp c53
                                    refine x_iconst F (v := nI (0)) dM_readsCode_292 (by decide) ?_
                                    exact x_zret F hr (by rfl) dM_readsCode_293 (by rw [show mrc tx sn ds xs dg n q = some (4, q + rM tx sn q) from by rw [mrc, if_neg (fun z => c1 z.1), if_neg h70, if_neg c4, if_neg (by omega), if_neg c6, if_neg (by omega), if_neg c9, if_neg (by rw [hbad]; decide), if_pos hbeh]]; exact ⟨rfl, fun b hb => (hf532 _ (by omega)).trans ((x_up_n (by omega)).trans ((x_up_n (by omega)).trans (rfl))), rfl, _, _, (fun i hi => ⟨updL_ne (by omega), upd_ne (by omega)⟩), hM532⟩)
                                  · skip
                                    have c53 : 0 ≠ 0 := by
                                      have z : ¬ (0 = 0) := fun zz => c53 ((nI_eq (a := 0) (b := 0) (by omega) (by omega)).mpr zz)
                                      omega
                                    exact absurd c53 (by decide)
                            · skip
                              have c50 : (mbg (cN tx (q + rM tx sn q) (rD tx sn (q + rM tx sn q))) (rD tx sn (q + rM tx sn q)) (xs j) (dg j)) = false := bI_0 c50
                              have hla := mUp_la (by omega) hup
                              have hbad : mBad ds xs dg n (rM tx sn q) (cN tx (q + rM tx sn q) (rD tx sn (q + rM tx sn q))) (rD tx sn (q + rM tx sn q)) = true := by rw [mBad, if_neg (by omega), hla]; show (! mbg (cN tx (q + rM tx sn q) (rD tx sn (q + rM tx sn q))) (rD tx sn (q + rM tx sn q)) (xs j) (dg j)) = true; rw [c50]; rfl
                              refine x_aload_n F 6 dM_readsCode_246 rfl rfl ?_
                              refine x_iconst F (v := nI (3)) dM_readsCode_247 (by decide) ?_
                              refine x_iload F 2 dM_readsCode_248 rfl ?_
                              refine yVr (n := 2) (As := [.int (nI (3)), .int (nI (q + rM tx sn q))]) (ci := 6) F kmM_115 kiM_fails ksM_fails knM kcM_fails (by decide +kernel) dM_readsCode_250 (cM_fails l (nx) (x_up (x_up M (a + 4) (.inl (.int, 160, .inl (upd (ds) (120 + n) (nI (rM tx sn q)))))) (a + 3) (.inl (.long, 160, .inr (.inl (vp_updL (cd) (120 + n) (lN (cN tx (q + rM tx sn q) (rD tx sn (q + rM tx sn q))))))))) (a) th sg sn pr fk fp rws (vp_updL (cd) (120 + n) (lN (cN tx (q + rM tx sn q) (rD tx sn (q + rM tx sn q))))) (upd (ds) (120 + n) (nI (rM tx sn q))) wc wd nn nE nC nK nO ln lF lC lT lO fn fC fP ak ac pt ⟨(x_up_k (x_up_k h0 (by omega)) (by omega)), (x_up_k (x_up_k h1 (by omega)) (by omega)), (x_up_k (x_up_k h2 (by omega)) (by omega)), x_up_s, (x_up_k x_up_s (by omega)), (x_up_k (x_up_k h5 (by omega)) (by omega)), (x_up_k (x_up_k h6 (by omega)) (by omega)), (x_up_k (x_up_k h7 (by omega)) (by omega)), (x_up_k (x_up_k h8 (by omega)) (by omega)), (x_up_k (x_up_k h9 (by omega)) (by omega)), (x_up_k (x_up_k h10 (by omega)) (by omega)), (x_up_k (x_up_k h11 (by omega)) (by omega)), (x_up_k (x_up_k h12 (by omega)) (by omega)), (x_up_k (x_up_k h13 (by omega)) (by omega)), (x_up_k (x_up_k h14 (by omega)) (by omega)), (x_up_k (x_up_k h15 (by omega)) (by omega)), (x_up_k (x_up_k h16 (by omega)) (by omega)), (x_up_k (x_up_k h17 (by omega)) (by omega)), (x_up_k (x_up_k h18 (by omega)) (by omega)), by omega, by omega, by omega, by omega, by omega, by omega⟩ (nI (3)) (nI (q + rM tx sn q))) rfl (x_up_k (x_up_k h0 (by omega)) (by omega)) rfl rfl (Nat.le_of_ble_eq_true rfl) ⟨Nat.le_of_ble_eq_true rfl, Nat.le_of_ble_eq_true rfl⟩ ⟨Nat.le_of_ble_eq_true rfl, Nat.le_of_ble_eq_true rfl⟩ (fun r' n' M533 hp => ?_)
                              obtain ⟨hr', hn', hM533, hf533⟩ := hp
                              rw [hn', hr']
                              obtain ⟨v533_0, v533_1, v533_2, v533_3, v533_4, v533_5, v533_6, v533_7, v533_8, v533_9, v533_10, v533_11, v533_12, v533_13, v533_14, v533_15, v533_16, v533_17, v533_18, vb533_0, vb533_1, vb533_2, vb533_3, vb533_4, vb533_5⟩ := id hM533
                              show xW p l e ({ frames := 4, cells := 0, slots := 0, locals := 96 } : Room) s m args below meth c D xcl (x_A M nx) 8 (MQ below (x_Q D xcl (x_A M nx) (mcPost nx M a th sg sn pr fk fp rws cd ds wc wd nn nE nC nK nO ln lF lC lT lO fn fC fP ak ac pt n (rM tx sn q) (cN tx (q + rM tx sn q) (rD tx sn (q + rM tx sn q))) (mrc tx sn ds xs dg n q))) args s 0 0 (x_A M nx)) 0 0 (nx) M533 253 [(7, .int (nI (120 + j))), (6, .int (nI (rD tx sn (q + rM tx sn q)))), (5, .int (nI (q + rM tx sn q))), (4, .int (nI (rM tx sn q))), (3, .int (nI (120 + n))), (2, .int (nI (n))), (0, .ref (a)), (1, .int (nI (q)))] [.int (nI (0))]
                              exact x_zret F hr (by rfl) dM_readsCode_253 (by rw [show mrc tx sn ds xs dg n q = some (3, q + rM tx sn q) from by rw [mrc, if_neg (fun z => c1 z.1), if_neg h70, if_neg c4, if_neg (by omega), if_neg c6, if_neg (by omega), if_neg c9, if_pos hbad]]; exact ⟨rfl, fun b hb => (hf533 _ (by omega)).trans ((x_up_n (by omega)).trans ((x_up_n (by omega)).trans (rfl))), rfl, _, _, (fun i hi => ⟨updL_ne (by omega), upd_ne (by omega)⟩), hM533⟩)
                          · skip
                            have c49 : 120 + j < 0 := by
                              have z : ¬ (0 ≤ 120 + j) := fun zz => c49 ((nI_leI (a := 0) (b := 120 + j) (by omega) (by omega)).mpr zz)
                              omega
                            refine x_iload_n F 4 dM_readsCode_233 rfl rfl ?_
                            refine x_goto F (tgt := 239) dM_readsCode_234 (by decide) ?_
                            refine x_lald F dM_readsCode_239 x_up_s (pk_in (120 + n) (160) (by omega)) ?_
                            refine xW.tol (lN (cN tx (q + rM tx sn q) (rD tx sn (q + rM tx sn q)))) (by rw [nI_clamp (by omega)]; exact vp_us) ?_
                            refine yS (n := 2) (As := [.long (lN (cN tx (q + rM tx sn q) (rD tx sn (q + rM tx sn q)))), .long (lN (cN tx (q + rM tx sn q) (rD tx sn (q + rM tx sn q))))]) F kmM_107 ktM_begins knM kcM_begins (by decide +kernel) dM_readsCode_240 (cM_begins l (nx) (x_up (x_up M (a + 4) (.inl (.int, 160, .inl (upd (ds) (120 + n) (nI (rM tx sn q)))))) (a + 3) (.inl (.long, 160, .inr (.inl (vp_updL (cd) (120 + n) (lN (cN tx (q + rM tx sn q) (rD tx sn (q + rM tx sn q))))))))) (cN tx (q + rM tx sn q) (rD tx sn (q + rM tx sn q))) (rD tx sn (q + rM tx sn q)) (cN tx (q + rM tx sn q) (rD tx sn (q + rM tx sn q))) (rD tx sn (q + rM tx sn q)) hX10 hX10) rfl rfl (Nat.le_of_ble_eq_true rfl) ⟨Nat.le_of_ble_eq_true rfl, Nat.le_of_ble_eq_true rfl⟩ ⟨Nat.le_of_ble_eq_true rfl, Nat.le_of_ble_eq_true rfl⟩ ?_
                            refine x_if_ne F (tgt := 254) dM_readsCode_243 (by decide) (fun c54 => ?_) (fun c54 => ?_)
                            · skip
                              have c54 : (mbg (cN tx (q + rM tx sn q) (rD tx sn (q + rM tx sn q))) (rD tx sn (q + rM tx sn q)) (cN tx (q + rM tx sn q) (rD tx sn (q + rM tx sn q))) (rD tx sn (q + rM tx sn q))) = true := bI_1 c54
                              have hla := mUp_la (by omega) hup
                              have hbad : mBad ds xs dg n (rM tx sn q) (cN tx (q + rM tx sn q) (rD tx sn (q + rM tx sn q))) (rD tx sn (q + rM tx sn q)) = false := by rw [mBad, if_neg (by omega), hla]; show (! mbg (cN tx (q + rM tx sn q) (rD tx sn (q + rM tx sn q))) (rD tx sn (q + rM tx sn q)) (xs j) (dg j)) = false; rw [c54]; rfl
                              refine x_iload_n F 5 dM_readsCode_254 rfl rfl ?_
                              refine x_if_eq F (tgt := 288) dM_readsCode_255 (by decide) (fun c55 => ?_) (fun c55 => ?_)
                              · skip
                                have c55 : n = 0 := by
                                  exact (nI_eq (a := n) (b := 0) (by omega) (by omega)).mp c55
                                have hbeh : mBeh xs dg n (cN tx (q + rM tx sn q) (rD tx sn (q + rM tx sn q))) (rD tx sn (q + rM tx sn q)) = true := by rw [c55]; rfl
                                refine x_iconst F (v := nI (1)) dM_readsCode_288 (by decide) ?_
                                refine x_goto F (tgt := 293) dM_readsCode_289 (by decide) ?_
                                exact x_zret F hr (by rfl) dM_readsCode_293 (by rw [show mrc tx sn ds xs dg n q = none from by rw [mrc, if_neg (fun z => c1 z.1), if_neg h70, if_neg c4, if_neg (by omega), if_neg c6, if_neg (by omega), if_neg c9, if_neg (by rw [hbad]; decide), if_neg (by rw [hbeh]; decide)]]; exact ⟨rfl, fun b hb => (x_up_n (by omega)).trans ((x_up_n (by omega)).trans (rfl)), rfl, ⟨(x_up_k (x_up_k h0 (by omega)) (by omega)), (x_up_k (x_up_k h1 (by omega)) (by omega)), (x_up_k (x_up_k h2 (by omega)) (by omega)), x_up_s, (x_up_k x_up_s (by omega)), (x_up_k (x_up_k h5 (by omega)) (by omega)), (x_up_k (x_up_k h6 (by omega)) (by omega)), (x_up_k (x_up_k h7 (by omega)) (by omega)), (x_up_k (x_up_k h8 (by omega)) (by omega)), (x_up_k (x_up_k h9 (by omega)) (by omega)), (x_up_k (x_up_k h10 (by omega)) (by omega)), (x_up_k (x_up_k h11 (by omega)) (by omega)), (x_up_k (x_up_k h12 (by omega)) (by omega)), (x_up_k (x_up_k h13 (by omega)) (by omega)), (x_up_k (x_up_k h14 (by omega)) (by omega)), (x_up_k (x_up_k h15 (by omega)) (by omega)), (x_up_k (x_up_k h16 (by omega)) (by omega)), (x_up_k (x_up_k h17 (by omega)) (by omega)), (x_up_k (x_up_k h18 (by omega)) (by omega)), by omega, by omega, by omega, by omega, by omega, by omega⟩⟩)
                              · skip
                                have c55 : n ≠ 0 := by
                                  have z : ¬ (n = 0) := fun zz => c55 ((nI_eq (a := n) (b := 0) (by omega) (by omega)).mpr zz)
                                  omega
                                obtain ⟨n0, hn1⟩ : ∃ n0, n = n0 + 1 := ⟨n - 1, by omega⟩
                                refine x_aload_n F 6 dM_readsCode_258 rfl rfl ?_
                                refine x_get (ci := 6) F 7 (x_in inM) rfl (by decide) (x_m kfM_20) dM_readsCode_259 (x_up_k (x_up_k h0 (by omega)) (by omega)) rfl ?_
                                refine x_iload_n F 4 dM_readsCode_262 rfl rfl ?_
                                refine x_lald F dM_readsCode_263 x_up_s (pk_in (120 + n) (160) (by omega)) ?_
                                refine xW.tol (lN (cN tx (q + rM tx sn q) (rD tx sn (q + rM tx sn q)))) (by rw [nI_clamp (by omega)]; exact vp_us) ?_
                                refine x_aload_n F 6 dM_readsCode_264 rfl rfl ?_
                                refine x_get (ci := 6) F 7 (x_in inM) rfl (by decide) (x_m kfM_20) dM_readsCode_265 (x_up_k (x_up_k h0 (by omega)) (by omega)) rfl ?_
                                refine x_iload_n F 4 dM_readsCode_268 rfl rfl ?_
                                refine x_iconst F (v := nI (1)) dM_readsCode_269 (by decide) ?_
                                refine x_isub F dM_readsCode_270 ?_
                                refine xW.toi (nI (120 + n0)) (by rw [hn1]; exact nI_pred (120 + n0)) ?_
                                refine x_lald F dM_readsCode_271 x_up_s (pk_in (120 + n0) (160) (by omega)) ?_
                                refine xW.tol (lN (xs n0)) (by rw [nI_clamp (by omega)]; exact (updL_ne (by omega)).trans (hcd n0 (by omega)).1) ?_
                                refine yS (n := 2) (As := [.long (lN (cN tx (q + rM tx sn q) (rD tx sn (q + rM tx sn q)))), .long (lN (xs n0))]) F kmM_126 ktM_isBehind knM kcM_isBehind (by decide +kernel) dM_readsCode_272 (cM_isBehind l (nx) (x_up (x_up M (a + 4) (.inl (.int, 160, .inl (upd (ds) (120 + n) (nI (rM tx sn q)))))) (a + 3) (.inl (.long, 160, .inr (.inl (vp_updL (cd) (120 + n) (lN (cN tx (q + rM tx sn q) (rD tx sn (q + rM tx sn q))))))))) (cN tx (q + rM tx sn q) (rD tx sn (q + rM tx sn q))) (rD tx sn (q + rM tx sn q)) (xs n0) (dg n0) hX10 (hcd n0 (by omega)).2) rfl rfl (Nat.le_of_ble_eq_true rfl) ⟨Nat.le_of_ble_eq_true rfl, Nat.le_of_ble_eq_true rfl⟩ ⟨Nat.le_of_ble_eq_true rfl, Nat.le_of_ble_eq_true rfl⟩ ?_
                                refine x_if_ne F (tgt := 288) dM_readsCode_275 (by decide) (fun c56 => ?_) (fun c56 => ?_)
                                · skip
                                  have c56 : (mbh (cN tx (q + rM tx sn q) (rD tx sn (q + rM tx sn q))) (rD tx sn (q + rM tx sn q)) (xs n0) (dg n0)) = true := bI_1 c56
                                  have hbeh : mBeh xs dg n (cN tx (q + rM tx sn q) (rD tx sn (q + rM tx sn q))) (rD tx sn (q + rM tx sn q)) = true := by rw [hn1]; exact c56
                                  refine x_iconst F (v := nI (1)) dM_readsCode_288 (by decide) ?_
                                  refine x_goto F (tgt := 293) dM_readsCode_289 (by decide) ?_
                                  exact x_zret F hr (by rfl) dM_readsCode_293 (by rw [show mrc tx sn ds xs dg n q = none from by rw [mrc, if_neg (fun z => c1 z.1), if_neg h70, if_neg c4, if_neg (by omega), if_neg c6, if_neg (by omega), if_neg c9, if_neg (by rw [hbad]; decide), if_neg (by rw [hbeh]; decide)]]; exact ⟨rfl, fun b hb => (x_up_n (by omega)).trans ((x_up_n (by omega)).trans (rfl)), rfl, ⟨(x_up_k (x_up_k h0 (by omega)) (by omega)), (x_up_k (x_up_k h1 (by omega)) (by omega)), (x_up_k (x_up_k h2 (by omega)) (by omega)), x_up_s, (x_up_k x_up_s (by omega)), (x_up_k (x_up_k h5 (by omega)) (by omega)), (x_up_k (x_up_k h6 (by omega)) (by omega)), (x_up_k (x_up_k h7 (by omega)) (by omega)), (x_up_k (x_up_k h8 (by omega)) (by omega)), (x_up_k (x_up_k h9 (by omega)) (by omega)), (x_up_k (x_up_k h10 (by omega)) (by omega)), (x_up_k (x_up_k h11 (by omega)) (by omega)), (x_up_k (x_up_k h12 (by omega)) (by omega)), (x_up_k (x_up_k h13 (by omega)) (by omega)), (x_up_k (x_up_k h14 (by omega)) (by omega)), (x_up_k (x_up_k h15 (by omega)) (by omega)), (x_up_k (x_up_k h16 (by omega)) (by omega)), (x_up_k (x_up_k h17 (by omega)) (by omega)), (x_up_k (x_up_k h18 (by omega)) (by omega)), by omega, by omega, by omega, by omega, by omega, by omega⟩⟩)
                                · skip
                                  have c56 : (mbh (cN tx (q + rM tx sn q) (rD tx sn (q + rM tx sn q))) (rD tx sn (q + rM tx sn q)) (xs n0) (dg n0)) = false := bI_0 c56
                                  have hbeh : mBeh xs dg n (cN tx (q + rM tx sn q) (rD tx sn (q + rM tx sn q))) (rD tx sn (q + rM tx sn q)) = false := by rw [hn1]; exact c56
                                  refine x_aload_n F 6 dM_readsCode_278 rfl rfl ?_
                                  refine x_iconst F (v := nI (4)) dM_readsCode_279 (by decide) ?_
                                  refine x_iload F 2 dM_readsCode_280 rfl ?_
                                  refine yVr (n := 2) (As := [.int (nI (4)), .int (nI (q + rM tx sn q))]) (ci := 6) F kmM_115 kiM_fails ksM_fails knM kcM_fails (by decide +kernel) dM_readsCode_282 (cM_fails l (nx) (x_up (x_up M (a + 4) (.inl (.int, 160, .inl (upd (ds) (120 + n) (nI (rM tx sn q)))))) (a + 3) (.inl (.long, 160, .inr (.inl (vp_updL (cd) (120 + n) (lN (cN tx (q + rM tx sn q) (rD tx sn (q + rM tx sn q))))))))) (a) th sg sn pr fk fp rws (vp_updL (cd) (120 + n) (lN (cN tx (q + rM tx sn q) (rD tx sn (q + rM tx sn q))))) (upd (ds) (120 + n) (nI (rM tx sn q))) wc wd nn nE nC nK nO ln lF lC lT lO fn fC fP ak ac pt ⟨(x_up_k (x_up_k h0 (by omega)) (by omega)), (x_up_k (x_up_k h1 (by omega)) (by omega)), (x_up_k (x_up_k h2 (by omega)) (by omega)), x_up_s, (x_up_k x_up_s (by omega)), (x_up_k (x_up_k h5 (by omega)) (by omega)), (x_up_k (x_up_k h6 (by omega)) (by omega)), (x_up_k (x_up_k h7 (by omega)) (by omega)), (x_up_k (x_up_k h8 (by omega)) (by omega)), (x_up_k (x_up_k h9 (by omega)) (by omega)), (x_up_k (x_up_k h10 (by omega)) (by omega)), (x_up_k (x_up_k h11 (by omega)) (by omega)), (x_up_k (x_up_k h12 (by omega)) (by omega)), (x_up_k (x_up_k h13 (by omega)) (by omega)), (x_up_k (x_up_k h14 (by omega)) (by omega)), (x_up_k (x_up_k h15 (by omega)) (by omega)), (x_up_k (x_up_k h16 (by omega)) (by omega)), (x_up_k (x_up_k h17 (by omega)) (by omega)), (x_up_k (x_up_k h18 (by omega)) (by omega)), by omega, by omega, by omega, by omega, by omega, by omega⟩ (nI (4)) (nI (q + rM tx sn q))) rfl (x_up_k (x_up_k h0 (by omega)) (by omega)) rfl rfl (Nat.le_of_ble_eq_true rfl) ⟨Nat.le_of_ble_eq_true rfl, Nat.le_of_ble_eq_true rfl⟩ ⟨Nat.le_of_ble_eq_true rfl, Nat.le_of_ble_eq_true rfl⟩ (fun r' n' M534 hp => ?_)
                                  obtain ⟨hr', hn', hM534, hf534⟩ := hp
                                  rw [hn', hr']
                                  obtain ⟨v534_0, v534_1, v534_2, v534_3, v534_4, v534_5, v534_6, v534_7, v534_8, v534_9, v534_10, v534_11, v534_12, v534_13, v534_14, v534_15, v534_16, v534_17, v534_18, vb534_0, vb534_1, vb534_2, vb534_3, vb534_4, vb534_5⟩ := id hM534
                                  show xW p l e ({ frames := 4, cells := 0, slots := 0, locals := 96 } : Room) s m args below meth c D xcl (x_A M nx) 8 (MQ below (x_Q D xcl (x_A M nx) (mcPost nx M a th sg sn pr fk fp rws cd ds wc wd nn nE nC nK nO ln lF lC lT lO fn fC fP ak ac pt n (rM tx sn q) (cN tx (q + rM tx sn q) (rD tx sn (q + rM tx sn q))) (mrc tx sn ds xs dg n q))) args s 0 0 (x_A M nx)) 0 0 (nx) M534 285 [(7, .int (nI (120 + j))), (6, .int (nI (rD tx sn (q + rM tx sn q)))), (5, .int (nI (q + rM tx sn q))), (4, .int (nI (rM tx sn q))), (3, .int (nI (120 + n))), (2, .int (nI (n))), (0, .ref (a)), (1, .int (nI (q)))] [.int (nI (0))]
                                  refine x_if_eq F (tgt := 292) dM_readsCode_285 (by decide) (fun c57 => ?_) (fun c57 => ?_)
                                  · skip
                                    have c57 : 0 = 0 := by
                                      exact (nI_eq (a := 0) (b := 0) (by omega) (by omega)).mp c57
                                    refine x_iconst F (v := nI (0)) dM_readsCode_292 (by decide) ?_
                                    exact x_zret F hr (by rfl) dM_readsCode_293 (by rw [show mrc tx sn ds xs dg n q = some (4, q + rM tx sn q) from by rw [mrc, if_neg (fun z => c1 z.1), if_neg h70, if_neg c4, if_neg (by omega), if_neg c6, if_neg (by omega), if_neg c9, if_neg (by rw [hbad]; decide), if_pos hbeh]]; exact ⟨rfl, fun b hb => (hf534 _ (by omega)).trans ((x_up_n (by omega)).trans ((x_up_n (by omega)).trans (rfl))), rfl, _, _, (fun i hi => ⟨updL_ne (by omega), upd_ne (by omega)⟩), hM534⟩)
                                  · skip
                                    have c57 : 0 ≠ 0 := by
                                      have z : ¬ (0 = 0) := fun zz => c57 ((nI_eq (a := 0) (b := 0) (by omega) (by omega)).mpr zz)
                                      omega
                                    exact absurd c57 (by decide)
                            · skip
                              have c54 : (mbg (cN tx (q + rM tx sn q) (rD tx sn (q + rM tx sn q))) (rD tx sn (q + rM tx sn q)) (cN tx (q + rM tx sn q) (rD tx sn (q + rM tx sn q))) (rD tx sn (q + rM tx sn q))) = false := bI_0 c54
                              have hla := mUp_la (by omega) hup
                              have hbad : mBad ds xs dg n (rM tx sn q) (cN tx (q + rM tx sn q) (rD tx sn (q + rM tx sn q))) (rD tx sn (q + rM tx sn q)) = true := by rw [mBad, if_neg (by omega), hla]; show (! mbg (cN tx (q + rM tx sn q) (rD tx sn (q + rM tx sn q))) (rD tx sn (q + rM tx sn q)) (xs j) (dg j)) = true; rw [c54]; rfl
                              refine x_aload_n F 6 dM_readsCode_246 rfl rfl ?_
                              refine x_iconst F (v := nI (3)) dM_readsCode_247 (by decide) ?_
                              refine x_iload F 2 dM_readsCode_248 rfl ?_
                              refine yVr (n := 2) (As := [.int (nI (3)), .int (nI (q + rM tx sn q))]) (ci := 6) F kmM_115 kiM_fails ksM_fails knM kcM_fails (by decide +kernel) dM_readsCode_250 (cM_fails l (nx) (x_up (x_up M (a + 4) (.inl (.int, 160, .inl (upd (ds) (120 + n) (nI (rM tx sn q)))))) (a + 3) (.inl (.long, 160, .inr (.inl (vp_updL (cd) (120 + n) (lN (cN tx (q + rM tx sn q) (rD tx sn (q + rM tx sn q))))))))) (a) th sg sn pr fk fp rws (vp_updL (cd) (120 + n) (lN (cN tx (q + rM tx sn q) (rD tx sn (q + rM tx sn q))))) (upd (ds) (120 + n) (nI (rM tx sn q))) wc wd nn nE nC nK nO ln lF lC lT lO fn fC fP ak ac pt ⟨(x_up_k (x_up_k h0 (by omega)) (by omega)), (x_up_k (x_up_k h1 (by omega)) (by omega)), (x_up_k (x_up_k h2 (by omega)) (by omega)), x_up_s, (x_up_k x_up_s (by omega)), (x_up_k (x_up_k h5 (by omega)) (by omega)), (x_up_k (x_up_k h6 (by omega)) (by omega)), (x_up_k (x_up_k h7 (by omega)) (by omega)), (x_up_k (x_up_k h8 (by omega)) (by omega)), (x_up_k (x_up_k h9 (by omega)) (by omega)), (x_up_k (x_up_k h10 (by omega)) (by omega)), (x_up_k (x_up_k h11 (by omega)) (by omega)), (x_up_k (x_up_k h12 (by omega)) (by omega)), (x_up_k (x_up_k h13 (by omega)) (by omega)), (x_up_k (x_up_k h14 (by omega)) (by omega)), (x_up_k (x_up_k h15 (by omega)) (by omega)), (x_up_k (x_up_k h16 (by omega)) (by omega)), (x_up_k (x_up_k h17 (by omega)) (by omega)), (x_up_k (x_up_k h18 (by omega)) (by omega)), by omega, by omega, by omega, by omega, by omega, by omega⟩ (nI (3)) (nI (q + rM tx sn q))) rfl (x_up_k (x_up_k h0 (by omega)) (by omega)) rfl rfl (Nat.le_of_ble_eq_true rfl) ⟨Nat.le_of_ble_eq_true rfl, Nat.le_of_ble_eq_true rfl⟩ ⟨Nat.le_of_ble_eq_true rfl, Nat.le_of_ble_eq_true rfl⟩ (fun r' n' M535 hp => ?_)
                              obtain ⟨hr', hn', hM535, hf535⟩ := hp
                              rw [hn', hr']
                              obtain ⟨v535_0, v535_1, v535_2, v535_3, v535_4, v535_5, v535_6, v535_7, v535_8, v535_9, v535_10, v535_11, v535_12, v535_13, v535_14, v535_15, v535_16, v535_17, v535_18, vb535_0, vb535_1, vb535_2, vb535_3, vb535_4, vb535_5⟩ := id hM535
                              show xW p l e ({ frames := 4, cells := 0, slots := 0, locals := 96 } : Room) s m args below meth c D xcl (x_A M nx) 8 (MQ below (x_Q D xcl (x_A M nx) (mcPost nx M a th sg sn pr fk fp rws cd ds wc wd nn nE nC nK nO ln lF lC lT lO fn fC fP ak ac pt n (rM tx sn q) (cN tx (q + rM tx sn q) (rD tx sn (q + rM tx sn q))) (mrc tx sn ds xs dg n q))) args s 0 0 (x_A M nx)) 0 0 (nx) M535 253 [(7, .int (nI (120 + j))), (6, .int (nI (rD tx sn (q + rM tx sn q)))), (5, .int (nI (q + rM tx sn q))), (4, .int (nI (rM tx sn q))), (3, .int (nI (120 + n))), (2, .int (nI (n))), (0, .ref (a)), (1, .int (nI (q)))] [.int (nI (0))]
                              exact x_zret F hr (by rfl) dM_readsCode_253 (by rw [show mrc tx sn ds xs dg n q = some (3, q + rM tx sn q) from by rw [mrc, if_neg (fun z => c1 z.1), if_neg h70, if_neg c4, if_neg (by omega), if_neg c6, if_neg (by omega), if_neg c9, if_pos hbad]]; exact ⟨rfl, fun b hb => (hf535 _ (by omega)).trans ((x_up_n (by omega)).trans ((x_up_n (by omega)).trans (rfl))), rfl, _, _, (fun i hi => ⟨updL_ne (by omega), upd_ne (by omega)⟩), hM535⟩)
                · skip
                  have c9 : (rD tx sn (q + rM tx sn q)) % 2 = 1 := by
                    exact (nI_eq (a := (rD tx sn (q + rM tx sn q)) % 2) (b := 1) (by omega) (by omega)).mp c9
                  refine x_aload_n F 5 dM_readsCode_145 rfl rfl ?_
                  refine x_iconst F (v := nI (1)) dM_readsCode_146 (by decide) ?_
                  refine x_iload F 0 dM_readsCode_147 rfl ?_
                  refine x_bipush F (v := nI (10)) dM_readsCode_149 (by decide) ?_
                  refine x_icmp_le F (tgt := 162) dM_readsCode_151 (by decide) (fun c58 => ?_) (fun c58 => ?_)
                  · skip
                    have c58 : rD tx sn (q + rM tx sn q) ≤ 10 := by
                      exact (nI_leI (a := rD tx sn (q + rM tx sn q)) (b := 10) (by omega) (by omega)).mp c58
                    refine x_iload F 1 dM_readsCode_162 rfl ?_
                    refine x_iload F 0 dM_readsCode_164 rfl ?_
                    refine x_iadd F dM_readsCode_166 ?_
                    refine xW.toi (nI (q + rM tx sn q + rD tx sn (q + rM tx sn q))) (nI_add _ _) ?_
                    refine yVr (n := 2) (As := [.int (nI (1)), .int (nI (q + rM tx sn q + rD tx sn (q + rM tx sn q)))]) (ci := 6) F kmM_115 kiM_fails ksM_fails knM kcM_fails (by decide +kernel) dM_readsCode_167 (cM_fails l (nx) M (a) th sg sn pr fk fp rws cd ds wc wd nn nE nC nK nO ln lF lC lT lO fn fC fP ak ac pt hT (nI (1)) (nI (q + rM tx sn q + rD tx sn (q + rM tx sn q)))) rfl h0 rfl rfl (Nat.le_of_ble_eq_true rfl) ⟨Nat.le_of_ble_eq_true rfl, Nat.le_of_ble_eq_true rfl⟩ ⟨Nat.le_of_ble_eq_true rfl, Nat.le_of_ble_eq_true rfl⟩ (fun r' n' M536 hp => ?_)
                    obtain ⟨hr', hn', hM536, hf536⟩ := hp
                    rw [hn', hr']
                    obtain ⟨v536_0, v536_1, v536_2, v536_3, v536_4, v536_5, v536_6, v536_7, v536_8, v536_9, v536_10, v536_11, v536_12, v536_13, v536_14, v536_15, v536_16, v536_17, v536_18, vb536_0, vb536_1, vb536_2, vb536_3, vb536_4, vb536_5⟩ := id hM536
                    show xW p l e ({ frames := 4, cells := 0, slots := 0, locals := 96 } : Room) s m args below meth c D xcl (x_A M nx) 8 (MQ below (x_Q D xcl (x_A M nx) (mcPost nx M a th sg sn pr fk fp rws cd ds wc wd nn nE nC nK nO ln lF lC lT lO fn fC fP ak ac pt n (rM tx sn q) (cN tx (q + rM tx sn q) (rD tx sn (q + rM tx sn q))) (mrc tx sn ds xs dg n q))) args s 0 0 (x_A M nx)) 0 0 (nx) M536 170 [(6, .int (nI (rD tx sn (q + rM tx sn q)))), (5, .int (nI (q + rM tx sn q))), (4, .int (nI (rM tx sn q))), (3, .int (nI (120 + n))), (2, .int (nI (n))), (0, .ref (a)), (1, .int (nI (q)))] [.int (nI (0))]
                    exact x_zret F hr (by rfl) dM_readsCode_170 (by rw [show mrc tx sn ds xs dg n q = some (1, q + rM tx sn q + rD tx sn (q + rM tx sn q)) from by rw [mrc, if_neg (fun z => c1 z.1), if_neg h70, if_neg c4, if_neg (by omega), if_neg c6, if_neg (by omega), if_pos c9]]; exact ⟨rfl, fun b hb => (hf536 _ (by omega)).trans (rfl), rfl, _, _, (fun i hi => ⟨rfl, rfl⟩), hM536⟩)
                  · skip
                    have c58 : 10 < rD tx sn (q + rM tx sn q) := by
                      have z : ¬ (rD tx sn (q + rM tx sn q) ≤ 10) := fun zz => c58 ((nI_leI (a := rD tx sn (q + rM tx sn q)) (b := 10) (by omega) (by omega)).mpr zz)
                      omega
                    refine x_iload F 1 dM_readsCode_154 rfl ?_
                    refine x_bipush F (v := nI (10)) dM_readsCode_156 (by decide) ?_
                    refine x_iadd F dM_readsCode_158 ?_
                    refine xW.toi (nI (q + rM tx sn q + 10)) (nI_add _ _) ?_
                    refine x_goto F (tgt := 167) dM_readsCode_159 (by decide) ?_
                    refine yVr (n := 2) (As := [.int (nI (1)), .int (nI (q + rM tx sn q + 10))]) (ci := 6) F kmM_115 kiM_fails ksM_fails knM kcM_fails (by decide +kernel) dM_readsCode_167 (cM_fails l (nx) M (a) th sg sn pr fk fp rws cd ds wc wd nn nE nC nK nO ln lF lC lT lO fn fC fP ak ac pt hT (nI (1)) (nI (q + rM tx sn q + 10))) rfl h0 rfl rfl (Nat.le_of_ble_eq_true rfl) ⟨Nat.le_of_ble_eq_true rfl, Nat.le_of_ble_eq_true rfl⟩ ⟨Nat.le_of_ble_eq_true rfl, Nat.le_of_ble_eq_true rfl⟩ (fun r' n' M537 hp => ?_)
                    obtain ⟨hr', hn', hM537, hf537⟩ := hp
                    rw [hn', hr']
                    obtain ⟨v537_0, v537_1, v537_2, v537_3, v537_4, v537_5, v537_6, v537_7, v537_8, v537_9, v537_10, v537_11, v537_12, v537_13, v537_14, v537_15, v537_16, v537_17, v537_18, vb537_0, vb537_1, vb537_2, vb537_3, vb537_4, vb537_5⟩ := id hM537
                    show xW p l e ({ frames := 4, cells := 0, slots := 0, locals := 96 } : Room) s m args below meth c D xcl (x_A M nx) 8 (MQ below (x_Q D xcl (x_A M nx) (mcPost nx M a th sg sn pr fk fp rws cd ds wc wd nn nE nC nK nO ln lF lC lT lO fn fC fP ak ac pt n (rM tx sn q) (cN tx (q + rM tx sn q) (rD tx sn (q + rM tx sn q))) (mrc tx sn ds xs dg n q))) args s 0 0 (x_A M nx)) 0 0 (nx) M537 170 [(6, .int (nI (rD tx sn (q + rM tx sn q)))), (5, .int (nI (q + rM tx sn q))), (4, .int (nI (rM tx sn q))), (3, .int (nI (120 + n))), (2, .int (nI (n))), (0, .ref (a)), (1, .int (nI (q)))] [.int (nI (0))]
                    exact x_zret F hr (by rfl) dM_readsCode_170 (by rw [show mrc tx sn ds xs dg n q = some (1, q + rM tx sn q + rD tx sn (q + rM tx sn q)) from by rw [mrc, if_neg (fun z => c1 z.1), if_neg h70, if_neg c4, if_neg (by omega), if_neg c6, if_neg (by omega), if_pos c9]]; exact ⟨rfl, fun b hb => (hf537 _ (by omega)).trans (rfl), rfl, _, _, (fun i hi => ⟨rfl, rfl⟩), hM537⟩)
            · skip
              have c6 : rD tx sn (q + rM tx sn q) = 0 := by
                exact (nI_eq (a := rD tx sn (q + rM tx sn q)) (b := 0) (by omega) (by omega)).mp c6
              refine x_aload_n F 5 dM_readsCode_122 rfl rfl ?_
              refine x_iconst F (v := nI (1)) dM_readsCode_123 (by decide) ?_
              refine x_iload F 1 dM_readsCode_124 rfl ?_
              refine yVr (n := 2) (As := [.int (nI (1)), .int (nI (q + rM tx sn q))]) (ci := 6) F kmM_115 kiM_fails ksM_fails knM kcM_fails (by decide +kernel) dM_readsCode_126 (cM_fails l (nx) M (a) th sg sn pr fk fp rws cd ds wc wd nn nE nC nK nO ln lF lC lT lO fn fC fP ak ac pt hT (nI (1)) (nI (q + rM tx sn q))) rfl h0 rfl rfl (Nat.le_of_ble_eq_true rfl) ⟨Nat.le_of_ble_eq_true rfl, Nat.le_of_ble_eq_true rfl⟩ ⟨Nat.le_of_ble_eq_true rfl, Nat.le_of_ble_eq_true rfl⟩ (fun r' n' M538 hp => ?_)
              obtain ⟨hr', hn', hM538, hf538⟩ := hp
              rw [hn', hr']
              obtain ⟨v538_0, v538_1, v538_2, v538_3, v538_4, v538_5, v538_6, v538_7, v538_8, v538_9, v538_10, v538_11, v538_12, v538_13, v538_14, v538_15, v538_16, v538_17, v538_18, vb538_0, vb538_1, vb538_2, vb538_3, vb538_4, vb538_5⟩ := id hM538
              show xW p l e ({ frames := 4, cells := 0, slots := 0, locals := 96 } : Room) s m args below meth c D xcl (x_A M nx) 8 (MQ below (x_Q D xcl (x_A M nx) (mcPost nx M a th sg sn pr fk fp rws cd ds wc wd nn nE nC nK nO ln lF lC lT lO fn fC fP ak ac pt n (rM tx sn q) (cN tx (q + rM tx sn q) (rD tx sn (q + rM tx sn q))) (mrc tx sn ds xs dg n q))) args s 0 0 (x_A M nx)) 0 0 (nx) M538 129 [(6, .int (nI (rD tx sn (q + rM tx sn q)))), (5, .int (nI (q + rM tx sn q))), (4, .int (nI (rM tx sn q))), (3, .int (nI (120 + n))), (2, .int (nI (n))), (0, .ref (a)), (1, .int (nI (q)))] [.int (nI (0))]
              exact x_zret F hr (by rfl) dM_readsCode_129 (by rw [show mrc tx sn ds xs dg n q = some (1, q + rM tx sn q) from by rw [mrc, if_neg (fun z => c1 z.1), if_neg h70, if_neg c4, if_neg (by omega), if_pos c6]]; exact ⟨rfl, fun b hb => (hf538 _ (by omega)).trans (rfl), rfl, _, _, (fun i hi => ⟨rfl, rfl⟩), hM538⟩)
          · skip
            have c5 : 4 < rM tx sn q := by
              have z : ¬ (rM tx sn q ≤ 4) := fun zz => c5 ((nI_leI (a := rM tx sn q) (b := 4) (by omega) (by omega)).mpr zz)
              omega
            refine x_aload_n F 4 dM_readsCode_99 rfl rfl ?_
            refine x_iconst F (v := nI (1)) dM_readsCode_100 (by decide) ?_
            refine x_iload_n F 5 dM_readsCode_101 rfl rfl ?_
            refine x_iconst F (v := nI (4)) dM_readsCode_102 (by decide) ?_
            refine x_iadd F dM_readsCode_103 ?_
            refine xW.toi (nI (q + 4)) (nI_add _ _) ?_
            refine yVr (n := 2) (As := [.int (nI (1)), .int (nI (q + 4))]) (ci := 6) F kmM_115 kiM_fails ksM_fails knM kcM_fails (by decide +kernel) dM_readsCode_104 (cM_fails l (nx) M (a) th sg sn pr fk fp rws cd ds wc wd nn nE nC nK nO ln lF lC lT lO fn fC fP ak ac pt hT (nI (1)) (nI (q + 4))) rfl h0 rfl rfl (Nat.le_of_ble_eq_true rfl) ⟨Nat.le_of_ble_eq_true rfl, Nat.le_of_ble_eq_true rfl⟩ ⟨Nat.le_of_ble_eq_true rfl, Nat.le_of_ble_eq_true rfl⟩ (fun r' n' M539 hp => ?_)
            obtain ⟨hr', hn', hM539, hf539⟩ := hp
            rw [hn', hr']
            obtain ⟨v539_0, v539_1, v539_2, v539_3, v539_4, v539_5, v539_6, v539_7, v539_8, v539_9, v539_10, v539_11, v539_12, v539_13, v539_14, v539_15, v539_16, v539_17, v539_18, vb539_0, vb539_1, vb539_2, vb539_3, vb539_4, vb539_5⟩ := id hM539
            show xW p l e ({ frames := 4, cells := 0, slots := 0, locals := 96 } : Room) s m args below meth c D xcl (x_A M nx) 8 (MQ below (x_Q D xcl (x_A M nx) (mcPost nx M a th sg sn pr fk fp rws cd ds wc wd nn nE nC nK nO ln lF lC lT lO fn fC fP ak ac pt n (rM tx sn q) (cN tx (q + rM tx sn q) (rD tx sn (q + rM tx sn q))) (mrc tx sn ds xs dg n q))) args s 0 0 (x_A M nx)) 0 0 (nx) M539 107 [(5, .int (nI (q + rM tx sn q))), (4, .int (nI (rM tx sn q))), (3, .int (nI (120 + n))), (2, .int (nI (n))), (0, .ref (a)), (1, .int (nI (q)))] [.int (nI (0))]
            exact x_zret F hr (by rfl) dM_readsCode_107 (by rw [show mrc tx sn ds xs dg n q = some (1, q + 4) from by rw [mrc, if_neg (fun z => c1 z.1), if_neg h70, if_neg c4, if_pos c5]]; exact ⟨rfl, fun b hb => (hf539 _ (by omega)).trans (rfl), rfl, _, _, (fun i hi => ⟨rfl, rfl⟩), hM539⟩)
        · skip
          have c4 : n = 40 := by
            exact (nI_eq (a := n) (b := 40) (by omega) (by omega)).mp c4
          refine x_aload_n F 4 dM_readsCode_86 rfl rfl ?_
          refine x_iconst F (v := nI (5)) dM_readsCode_87 (by decide) ?_
          refine x_iload_n F 5 dM_readsCode_88 rfl rfl ?_
          refine yVr (n := 2) (As := [.int (nI (5)), .int (nI (q))]) (ci := 6) F kmM_115 kiM_fails ksM_fails knM kcM_fails (by decide +kernel) dM_readsCode_89 (cM_fails l (nx) M (a) th sg sn pr fk fp rws cd ds wc wd nn nE nC nK nO ln lF lC lT lO fn fC fP ak ac pt hT (nI (5)) (nI (q))) rfl h0 rfl rfl (Nat.le_of_ble_eq_true rfl) ⟨Nat.le_of_ble_eq_true rfl, Nat.le_of_ble_eq_true rfl⟩ ⟨Nat.le_of_ble_eq_true rfl, Nat.le_of_ble_eq_true rfl⟩ (fun r' n' M540 hp => ?_)
          obtain ⟨hr', hn', hM540, hf540⟩ := hp
          rw [hn', hr']
          obtain ⟨v540_0, v540_1, v540_2, v540_3, v540_4, v540_5, v540_6, v540_7, v540_8, v540_9, v540_10, v540_11, v540_12, v540_13, v540_14, v540_15, v540_16, v540_17, v540_18, vb540_0, vb540_1, vb540_2, vb540_3, vb540_4, vb540_5⟩ := id hM540
          show xW p l e ({ frames := 4, cells := 0, slots := 0, locals := 96 } : Room) s m args below meth c D xcl (x_A M nx) 8 (MQ below (x_Q D xcl (x_A M nx) (mcPost nx M a th sg sn pr fk fp rws cd ds wc wd nn nE nC nK nO ln lF lC lT lO fn fC fP ak ac pt n (rM tx sn q) (cN tx (q + rM tx sn q) (rD tx sn (q + rM tx sn q))) (mrc tx sn ds xs dg n q))) args s 0 0 (x_A M nx)) 0 0 (nx) M540 92 [(5, .int (nI (q + rM tx sn q))), (4, .int (nI (rM tx sn q))), (3, .int (nI (120 + n))), (2, .int (nI (n))), (0, .ref (a)), (1, .int (nI (q)))] [.int (nI (0))]
          exact x_zret F hr (by rfl) dM_readsCode_92 (by rw [show mrc tx sn ds xs dg n q = some (5, q) from by rw [mrc, if_neg (fun z => c1 z.1), if_neg h70, if_pos c4]]; exact ⟨rfl, fun b hb => (hf540 _ (by omega)).trans (rfl), rfl, _, _, (fun i hi => ⟨rfl, rfl⟩), hM540⟩)
      · skip
        have h70 : mPre n ds < nI (rM tx sn q) := Int32.not_le.mp c3
        refine x_aload_n F 4 dM_readsCode_73 rfl rfl ?_
        refine x_iconst F (v := nI (2)) dM_readsCode_74 (by decide) ?_
        refine x_iload_n F 5 dM_readsCode_75 rfl rfl ?_
        refine yVr (n := 2) (As := [.int (nI (2)), .int (nI (q))]) (ci := 6) F kmM_115 kiM_fails ksM_fails knM kcM_fails (by decide +kernel) dM_readsCode_76 (cM_fails l (nx) M (a) th sg sn pr fk fp rws cd ds wc wd nn nE nC nK nO ln lF lC lT lO fn fC fP ak ac pt hT (nI (2)) (nI (q))) rfl h0 rfl rfl (Nat.le_of_ble_eq_true rfl) ⟨Nat.le_of_ble_eq_true rfl, Nat.le_of_ble_eq_true rfl⟩ ⟨Nat.le_of_ble_eq_true rfl, Nat.le_of_ble_eq_true rfl⟩ (fun r' n' M541 hp => ?_)
        obtain ⟨hr', hn', hM541, hf541⟩ := hp
        rw [hn', hr']
        obtain ⟨v541_0, v541_1, v541_2, v541_3, v541_4, v541_5, v541_6, v541_7, v541_8, v541_9, v541_10, v541_11, v541_12, v541_13, v541_14, v541_15, v541_16, v541_17, v541_18, vb541_0, vb541_1, vb541_2, vb541_3, vb541_4, vb541_5⟩ := id hM541
        show xW p l e ({ frames := 4, cells := 0, slots := 0, locals := 96 } : Room) s m args below meth c D xcl (x_A M nx) 8 (MQ below (x_Q D xcl (x_A M nx) (mcPost nx M a th sg sn pr fk fp rws cd ds wc wd nn nE nC nK nO ln lF lC lT lO fn fC fP ak ac pt n (rM tx sn q) (cN tx (q + rM tx sn q) (rD tx sn (q + rM tx sn q))) (mrc tx sn ds xs dg n q))) args s 0 0 (x_A M nx)) 0 0 (nx) M541 79 [(5, .int (nI (q + rM tx sn q))), (4, .int (nI (rM tx sn q))), (3, .int (nI (120 + n))), (2, .int (nI (n))), (0, .ref (a)), (1, .int (nI (q)))] [.int (nI (0))]
        exact x_zret F hr (by rfl) dM_readsCode_79 (by rw [show mrc tx sn ds xs dg n q = some (2, q) from by rw [mrc, if_neg (fun z => c1 z.1), if_pos h70]]; exact ⟨rfl, fun b hb => (hf541 _ (by omega)).trans (rfl), rfl, _, _, (fun i hi => ⟨rfl, rfl⟩), hM541⟩)
    · skip
      have c2 : n = 0 := by
        exact (nI_eq (a := n) (b := 0) (by omega) (by omega)).mp c2
      refine x_iconst F (v := nI (0)) dM_readsCode_56 (by decide) ?_
      refine x_goto F (tgt := 70) dM_readsCode_57 (by decide) ?_
      refine xW.toi (mPre n ds) (by rw [c2]; rfl) ?_
      refine x_icmp_le F (tgt := 80) dM_readsCode_70 (by decide) (fun c59 => ?_) (fun c59 => ?_)
      · skip
        have h70 : ¬ mPre n ds < nI (rM tx sn q) := Int32.not_lt.mpr c59
        refine x_iload_n F 3 dM_readsCode_80 rfl rfl ?_
        refine x_bipush F (v := nI (40)) dM_readsCode_81 (by decide) ?_
        refine x_icmp_ne F (tgt := 93) dM_readsCode_83 (by decide) (fun c60 => ?_) (fun c60 => ?_)
        · skip
          have c60 : n ≠ 40 := by
            have z : ¬ (n = 40) := fun zz => c60 ((nI_eq (a := n) (b := 40) (by omega) (by omega)).mpr zz)
            omega
          refine x_iload F 1 dM_readsCode_93 rfl ?_
          refine x_iconst F (v := nI (4)) dM_readsCode_95 (by decide) ?_
          refine x_icmp_le F (tgt := 108) dM_readsCode_96 (by decide) (fun c61 => ?_) (fun c61 => ?_)
          · skip
            have c61 : rM tx sn q ≤ 4 := by
              exact (nI_leI (a := rM tx sn q) (b := 4) (by omega) (by omega)).mp c61
            refine x_aload_n F 4 dM_readsCode_108 rfl rfl ?_
            refine x_iload F 0 dM_readsCode_109 rfl ?_
            refine x_iconst F (v := nI (1)) dM_readsCode_111 (by decide) ?_
            refine yV (n := 2) (As := [.int (nI (q + rM tx sn q)), .int (nI (1))]) (ci := 6) F kmM_111 kiM_run ksM_run knM kcM_run (by decide +kernel) dM_readsCode_112 (cM_run1 l (nx) M (a) th sg sn pr fk fp rws cd ds wc wd nn nE nC nK nO ln lF lC lT lO fn fC fP ak ac pt hT tx hX (q + rM tx sn q) (by omega)) rfl h0 rfl rfl (Nat.le_of_ble_eq_true rfl) ⟨Nat.le_of_ble_eq_true rfl, Nat.le_of_ble_eq_true rfl⟩ ⟨Nat.le_of_ble_eq_true rfl, Nat.le_of_ble_eq_true rfl⟩ ?_
            refine x_istore F [(6, .int (nI (rD tx sn (q + rM tx sn q)))), (5, .int (nI (q + rM tx sn q))), (4, .int (nI (rM tx sn q))), (3, .int (nI (120 + n))), (2, .int (nI (n))), (0, .ref (a)), (1, .int (nI (q)))] dM_readsCode_115 (by decide) rfl ?_
            have hrl : rD tx sn (q + rM tx sn q) ≤ sn - (q + rM tx sn q) := rn_le _ _ _ _
            refine x_iload F 0 dM_readsCode_117 rfl ?_
            refine x_if_ne F (tgt := 130) dM_readsCode_119 (by decide) (fun c62 => ?_) (fun c62 => ?_)
            · skip
              have c62 : rD tx sn (q + rM tx sn q) ≠ 0 := by
                have z : ¬ (rD tx sn (q + rM tx sn q) = 0) := fun zz => c62 ((nI_eq (a := rD tx sn (q + rM tx sn q)) (b := 0) (by omega) (by omega)).mpr zz)
                omega
              refine x_iload F 0 dM_readsCode_130 rfl ?_
              refine x_bipush F (v := nI (10)) dM_readsCode_132 (by decide) ?_
              refine x_icmp_gt F (tgt := 145) dM_readsCode_134 (by decide) (fun c63 => ?_) (fun c63 => ?_)
              · skip
                have c63 : 10 < rD tx sn (q + rM tx sn q) := by
                  exact (nI_ltI (a := 10) (b := rD tx sn (q + rM tx sn q)) (by omega) (by omega)).mp c63
                refine x_aload_n F 5 dM_readsCode_145 rfl rfl ?_
                refine x_iconst F (v := nI (1)) dM_readsCode_146 (by decide) ?_
                refine x_iload F 0 dM_readsCode_147 rfl ?_
                refine x_bipush F (v := nI (10)) dM_readsCode_149 (by decide) ?_
                refine x_icmp_le F (tgt := 162) dM_readsCode_151 (by decide) (fun c64 => ?_) (fun c64 => ?_)
                · skip
                  have c64 : rD tx sn (q + rM tx sn q) ≤ 10 := by
                    exact (nI_leI (a := rD tx sn (q + rM tx sn q)) (b := 10) (by omega) (by omega)).mp c64
                  refine x_iload F 1 dM_readsCode_162 rfl ?_
                  refine x_iload F 0 dM_readsCode_164 rfl ?_
                  refine x_iadd F dM_readsCode_166 ?_
                  refine xW.toi (nI (q + rM tx sn q + rD tx sn (q + rM tx sn q))) (nI_add _ _) ?_
                  refine yVr (n := 2) (As := [.int (nI (1)), .int (nI (q + rM tx sn q + rD tx sn (q + rM tx sn q)))]) (ci := 6) F kmM_115 kiM_fails ksM_fails knM kcM_fails (by decide +kernel) dM_readsCode_167 (cM_fails l (nx) M (a) th sg sn pr fk fp rws cd ds wc wd nn nE nC nK nO ln lF lC lT lO fn fC fP ak ac pt hT (nI (1)) (nI (q + rM tx sn q + rD tx sn (q + rM tx sn q)))) rfl h0 rfl rfl (Nat.le_of_ble_eq_true rfl) ⟨Nat.le_of_ble_eq_true rfl, Nat.le_of_ble_eq_true rfl⟩ ⟨Nat.le_of_ble_eq_true rfl, Nat.le_of_ble_eq_true rfl⟩ (fun r' n' M542 hp => ?_)
                  obtain ⟨hr', hn', hM542, hf542⟩ := hp
                  rw [hn', hr']
                  obtain ⟨v542_0, v542_1, v542_2, v542_3, v542_4, v542_5, v542_6, v542_7, v542_8, v542_9, v542_10, v542_11, v542_12, v542_13, v542_14, v542_15, v542_16, v542_17, v542_18, vb542_0, vb542_1, vb542_2, vb542_3, vb542_4, vb542_5⟩ := id hM542
                  show xW p l e ({ frames := 4, cells := 0, slots := 0, locals := 96 } : Room) s m args below meth c D xcl (x_A M nx) 8 (MQ below (x_Q D xcl (x_A M nx) (mcPost nx M a th sg sn pr fk fp rws cd ds wc wd nn nE nC nK nO ln lF lC lT lO fn fC fP ak ac pt n (rM tx sn q) (cN tx (q + rM tx sn q) (rD tx sn (q + rM tx sn q))) (mrc tx sn ds xs dg n q))) args s 0 0 (x_A M nx)) 0 0 (nx) M542 170 [(6, .int (nI (rD tx sn (q + rM tx sn q)))), (5, .int (nI (q + rM tx sn q))), (4, .int (nI (rM tx sn q))), (3, .int (nI (120 + n))), (2, .int (nI (n))), (0, .ref (a)), (1, .int (nI (q)))] [.int (nI (0))]
                  exact x_zret F hr (by rfl) dM_readsCode_170 (by rw [show mrc tx sn ds xs dg n q = some (1, q + rM tx sn q + 10) from by rw [mrc, if_neg (fun z => c1 z.1), if_neg h70, if_neg c60, if_neg (by omega), if_neg c62, if_pos c63]]; exact ⟨rfl, fun b hb => (hf542 _ (by omega)).trans (rfl), rfl, _, _, (fun i hi => ⟨rfl, rfl⟩), hM542⟩)
                · skip
                  have c64 : 10 < rD tx sn (q + rM tx sn q) := by
                    have z : ¬ (rD tx sn (q + rM tx sn q) ≤ 10) := fun zz => c64 ((nI_leI (a := rD tx sn (q + rM tx sn q)) (b := 10) (by omega) (by omega)).mpr zz)
                    omega
                  refine x_iload F 1 dM_readsCode_154 rfl ?_
                  refine x_bipush F (v := nI (10)) dM_readsCode_156 (by decide) ?_
                  refine x_iadd F dM_readsCode_158 ?_
                  refine xW.toi (nI (q + rM tx sn q + 10)) (nI_add _ _) ?_
                  refine x_goto F (tgt := 167) dM_readsCode_159 (by decide) ?_
                  refine yVr (n := 2) (As := [.int (nI (1)), .int (nI (q + rM tx sn q + 10))]) (ci := 6) F kmM_115 kiM_fails ksM_fails knM kcM_fails (by decide +kernel) dM_readsCode_167 (cM_fails l (nx) M (a) th sg sn pr fk fp rws cd ds wc wd nn nE nC nK nO ln lF lC lT lO fn fC fP ak ac pt hT (nI (1)) (nI (q + rM tx sn q + 10))) rfl h0 rfl rfl (Nat.le_of_ble_eq_true rfl) ⟨Nat.le_of_ble_eq_true rfl, Nat.le_of_ble_eq_true rfl⟩ ⟨Nat.le_of_ble_eq_true rfl, Nat.le_of_ble_eq_true rfl⟩ (fun r' n' M543 hp => ?_)
                  obtain ⟨hr', hn', hM543, hf543⟩ := hp
                  rw [hn', hr']
                  obtain ⟨v543_0, v543_1, v543_2, v543_3, v543_4, v543_5, v543_6, v543_7, v543_8, v543_9, v543_10, v543_11, v543_12, v543_13, v543_14, v543_15, v543_16, v543_17, v543_18, vb543_0, vb543_1, vb543_2, vb543_3, vb543_4, vb543_5⟩ := id hM543
                  show xW p l e ({ frames := 4, cells := 0, slots := 0, locals := 96 } : Room) s m args below meth c D xcl (x_A M nx) 8 (MQ below (x_Q D xcl (x_A M nx) (mcPost nx M a th sg sn pr fk fp rws cd ds wc wd nn nE nC nK nO ln lF lC lT lO fn fC fP ak ac pt n (rM tx sn q) (cN tx (q + rM tx sn q) (rD tx sn (q + rM tx sn q))) (mrc tx sn ds xs dg n q))) args s 0 0 (x_A M nx)) 0 0 (nx) M543 170 [(6, .int (nI (rD tx sn (q + rM tx sn q)))), (5, .int (nI (q + rM tx sn q))), (4, .int (nI (rM tx sn q))), (3, .int (nI (120 + n))), (2, .int (nI (n))), (0, .ref (a)), (1, .int (nI (q)))] [.int (nI (0))]
                  exact x_zret F hr (by rfl) dM_readsCode_170 (by rw [show mrc tx sn ds xs dg n q = some (1, q + rM tx sn q + 10) from by rw [mrc, if_neg (fun z => c1 z.1), if_neg h70, if_neg c60, if_neg (by omega), if_neg c62, if_pos c63]]; exact ⟨rfl, fun b hb => (hf543 _ (by omega)).trans (rfl), rfl, _, _, (fun i hi => ⟨rfl, rfl⟩), hM543⟩)
              · skip
                have c63 : rD tx sn (q + rM tx sn q) ≤ 10 := by
                  have z : ¬ (10 < rD tx sn (q + rM tx sn q)) := fun zz => c63 ((nI_ltI (a := 10) (b := rD tx sn (q + rM tx sn q)) (by omega) (by omega)).mpr zz)
                  omega
                refine x_iload F 0 dM_readsCode_137 rfl ?_
                refine x_iconst F (v := nI (2)) dM_readsCode_139 (by decide) ?_
                refine x_irem F dM_readsCode_140 (by decide) ?_
                refine xW.toi (nI ((rD tx sn (q + rM tx sn q)) % 2)) (pk_rem (by omega) (by omega) (by omega)) ?_
                refine x_iconst F (v := nI (1)) dM_readsCode_141 (by decide) ?_
                refine x_icmp_ne F (tgt := 171) dM_readsCode_142 (by decide) (fun c65 => ?_) (fun c65 => ?_)
                · skip
                  have c65 : (rD tx sn (q + rM tx sn q)) % 2 ≠ 1 := by
                    have z : ¬ ((rD tx sn (q + rM tx sn q)) % 2 = 1) := fun zz => c65 ((nI_eq (a := (rD tx sn (q + rM tx sn q)) % 2) (b := 1) (by omega) (by omega)).mpr zz)
                    omega
                  refine x_aload_n F 5 dM_readsCode_171 rfl rfl ?_
                  refine x_get (ci := 6) F 8 (x_in inM) rfl (by decide) (x_m kfM_24) dM_readsCode_172 h0 rfl ?_
                  refine x_iload_n F 3 dM_readsCode_175 rfl rfl ?_
                  refine x_iload F 2 dM_readsCode_176 rfl ?_
                  refine x_iast F dM_readsCode_178 h4 (pk_in (120 + n) (160) (by omega)) ?_
                  rw [nI_clamp (show 120 + n < 2 ^ 31 by omega)]
                  show xW p l e ({ frames := 4, cells := 0, slots := 0, locals := 96 } : Room) s m args below meth c D xcl (x_A M nx) 8 (MQ below (x_Q D xcl (x_A M nx) (mcPost nx M a th sg sn pr fk fp rws cd ds wc wd nn nE nC nK nO ln lF lC lT lO fn fC fP ak ac pt n (rM tx sn q) (cN tx (q + rM tx sn q) (rD tx sn (q + rM tx sn q))) (mrc tx sn ds xs dg n q))) args s 0 0 (x_A M nx)) 0 0 (nx) (x_up M (a + 4) (.inl (.int, 160, .inl (upd (ds) (120 + n) (nI (rM tx sn q)))))) 179 [(6, .int (nI (rD tx sn (q + rM tx sn q)))), (5, .int (nI (q + rM tx sn q))), (4, .int (nI (rM tx sn q))), (3, .int (nI (120 + n))), (2, .int (nI (n))), (0, .ref (a)), (1, .int (nI (q)))] []
                  refine x_aload_n F 5 dM_readsCode_179 rfl rfl ?_
                  refine x_get (ci := 6) F 7 (x_in inM) rfl (by decide) (x_m kfM_20) dM_readsCode_180 (x_up_k h0 (by omega)) rfl ?_
                  refine x_iload_n F 3 dM_readsCode_183 rfl rfl ?_
                  refine x_aload_n F 5 dM_readsCode_184 rfl rfl ?_
                  refine x_iload F 1 dM_readsCode_185 rfl ?_
                  refine x_iload F 0 dM_readsCode_187 rfl ?_
                  refine yV (n := 2) (As := [.int (nI (q + rM tx sn q)), .int (nI (rD tx sn (q + rM tx sn q)))]) (ci := 6) F kmM_119 kiM_codeAt ksM_codeAt knM kcM_codeAt (by decide +kernel) dM_readsCode_189 (cM_codeAt l (nx) (x_up M (a + 4) (.inl (.int, 160, .inl (upd (ds) (120 + n) (nI (rM tx sn q)))))) (a) th sg sn pr fk fp rws cd (upd (ds) (120 + n) (nI (rM tx sn q))) wc wd nn nE nC nK nO ln lF lC lT lO fn fC fP ak ac pt ⟨(x_up_k h0 (by omega)), (x_up_k h1 (by omega)), (x_up_k h2 (by omega)), (x_up_k h3 (by omega)), x_up_s, (x_up_k h5 (by omega)), (x_up_k h6 (by omega)), (x_up_k h7 (by omega)), (x_up_k h8 (by omega)), (x_up_k h9 (by omega)), (x_up_k h10 (by omega)), (x_up_k h11 (by omega)), (x_up_k h12 (by omega)), (x_up_k h13 (by omega)), (x_up_k h14 (by omega)), (x_up_k h15 (by omega)), (x_up_k h16 (by omega)), (x_up_k h17 (by omega)), (x_up_k h18 (by omega)), by omega, by omega, by omega, by omega, by omega, by omega⟩ tx hX (q + rM tx sn q) (rD tx sn (q + rM tx sn q)) (by omega) (fun i hi => rn_all hi)) rfl (x_up_k h0 (by omega)) rfl rfl (Nat.le_of_ble_eq_true rfl) ⟨Nat.le_of_ble_eq_true rfl, Nat.le_of_ble_eq_true rfl⟩ ⟨Nat.le_of_ble_eq_true rfl, Nat.le_of_ble_eq_true rfl⟩ ?_
                  refine x_last F dM_readsCode_192 (x_up_k h3 (by omega)) (pk_in (120 + n) (160) (by omega)) ?_
                  rw [nI_clamp (show 120 + n < 2 ^ 31 by omega)]
                  show xW p l e ({ frames := 4, cells := 0, slots := 0, locals := 96 } : Room) s m args below meth c D xcl (x_A M nx) 8 (MQ below (x_Q D xcl (x_A M nx) (mcPost nx M a th sg sn pr fk fp rws cd ds wc wd nn nE nC nK nO ln lF lC lT lO fn fC fP ak ac pt n (rM tx sn q) (cN tx (q + rM tx sn q) (rD tx sn (q + rM tx sn q))) (mrc tx sn ds xs dg n q))) args s 0 0 (x_A M nx)) 0 0 (nx) (x_up (x_up M (a + 4) (.inl (.int, 160, .inl (upd (ds) (120 + n) (nI (rM tx sn q)))))) (a + 3) (.inl (.long, 160, .inr (.inl (vp_updL (cd) (120 + n) (lN (cN tx (q + rM tx sn q) (rD tx sn (q + rM tx sn q))))))))) 193 [(6, .int (nI (rD tx sn (q + rM tx sn q)))), (5, .int (nI (q + rM tx sn q))), (4, .int (nI (rM tx sn q))), (3, .int (nI (120 + n))), (2, .int (nI (n))), (0, .ref (a)), (1, .int (nI (q)))] []
                  have hX10 : cdg (cN tx (q + rM tx sn q) (rD tx sn (q + rM tx sn q))) (rD tx sn (q + rM tx sn q)) := cN_dg (by omega) (fun i hi => rn_all hi)
                  refine x_aload_n F 5 dM_readsCode_193 rfl rfl ?_
                  refine x_bipush F (v := nI (120)) dM_readsCode_194 (by decide) ?_
                  refine x_iload_n F 3 dM_readsCode_196 rfl rfl ?_
                  refine yV (n := 2) (As := [.int (nI (120)), .int (nI (120 + n))]) (ci := 6) F kmM_123 kiM_above ksM_above knM kcM_above (by decide +kernel) dM_readsCode_197 (cM_above l (nx) (x_up (x_up M (a + 4) (.inl (.int, 160, .inl (upd (ds) (120 + n) (nI (rM tx sn q)))))) (a + 3) (.inl (.long, 160, .inr (.inl (vp_updL (cd) (120 + n) (lN (cN tx (q + rM tx sn q) (rD tx sn (q + rM tx sn q))))))))) (a) th sg sn pr fk fp rws (vp_updL (cd) (120 + n) (lN (cN tx (q + rM tx sn q) (rD tx sn (q + rM tx sn q))))) (upd (ds) (120 + n) (nI (rM tx sn q))) wc wd nn nE nC nK nO ln lF lC lT lO fn fC fP ak ac pt ⟨(x_up_k (x_up_k h0 (by omega)) (by omega)), (x_up_k (x_up_k h1 (by omega)) (by omega)), (x_up_k (x_up_k h2 (by omega)) (by omega)), x_up_s, (x_up_k x_up_s (by omega)), (x_up_k (x_up_k h5 (by omega)) (by omega)), (x_up_k (x_up_k h6 (by omega)) (by omega)), (x_up_k (x_up_k h7 (by omega)) (by omega)), (x_up_k (x_up_k h8 (by omega)) (by omega)), (x_up_k (x_up_k h9 (by omega)) (by omega)), (x_up_k (x_up_k h10 (by omega)) (by omega)), (x_up_k (x_up_k h11 (by omega)) (by omega)), (x_up_k (x_up_k h12 (by omega)) (by omega)), (x_up_k (x_up_k h13 (by omega)) (by omega)), (x_up_k (x_up_k h14 (by omega)) (by omega)), (x_up_k (x_up_k h15 (by omega)) (by omega)), (x_up_k (x_up_k h16 (by omega)) (by omega)), (x_up_k (x_up_k h17 (by omega)) (by omega)), (x_up_k (x_up_k h18 (by omega)) (by omega)), by omega, by omega, by omega, by omega, by omega, by omega⟩ 120 n (by omega)) rfl (x_up_k (x_up_k h0 (by omega)) (by omega)) rfl rfl (Nat.le_of_ble_eq_true rfl) ⟨Nat.le_of_ble_eq_true rfl, Nat.le_of_ble_eq_true rfl⟩ ⟨Nat.le_of_ble_eq_true rfl, Nat.le_of_ble_eq_true rfl⟩ ?_
                  rcases o_cases (mUp (upd ds (120 + n) (nI (rM tx sn q))) 120 n) with hup | ⟨j, hup⟩
                  · skip
                    refine xW.ste (st' := [.int ((-1))]) (by show ([.int (oj 120 (mUp (upd ds (120 + n) (nI (rM tx sn q))) 120 n))] : List Value) = _; rw [hup]; rfl) ?_
                    refine x_istore F [(7, .int ((-1))), (6, .int (nI (rD tx sn (q + rM tx sn q)))), (5, .int (nI (q + rM tx sn q))), (4, .int (nI (rM tx sn q))), (3, .int (nI (120 + n))), (2, .int (nI (n))), (0, .ref (a)), (1, .int (nI (q)))] dM_readsCode_200 (by decide) rfl ?_
                    refine x_iload F 3 dM_readsCode_202 rfl ?_
                    refine x_if_ne F (tgt := 213) dM_readsCode_204 (by decide) (fun c66 => ?_) (fun c66 => ?_)
                    · skip
                      have c66 : rM tx sn q ≠ 0 := by
                        have z : ¬ (rM tx sn q = 0) := fun zz => c66 ((nI_eq (a := rM tx sn q) (b := 0) (by omega) (by omega)).mpr zz)
                        omega
                      refine x_iload F 3 dM_readsCode_213 rfl ?_
                      refine x_if_le F (tgt := 254) dM_readsCode_215 (by decide) (fun c67 => ?_) (fun c67 => ?_)
                      · skip
                        have c67 : rM tx sn q ≤ 0 := by
                          exact (nI_leI (a := rM tx sn q) (b := 0) (by omega) (by omega)).mp c67
                        have hbad : mBad ds xs dg n (rM tx sn q) (cN tx (q + rM tx sn q) (rD tx sn (q + rM tx sn q))) (rD tx sn (q + rM tx sn q)) = false := by rw [mBad, if_pos (by omega), decide_eq_true (by omega)]; rfl
                        refine x_iload_n F 5 dM_readsCode_254 rfl rfl ?_
                        refine x_if_eq F (tgt := 288) dM_readsCode_255 (by decide) (fun c68 => ?_) (fun c68 => ?_)
                        · skip
                          have c68 : n = 0 := by
                            exact (nI_eq (a := n) (b := 0) (by omega) (by omega)).mp c68
                          have hbeh : mBeh xs dg n (cN tx (q + rM tx sn q) (rD tx sn (q + rM tx sn q))) (rD tx sn (q + rM tx sn q)) = true := by rw [c68]; rfl
                          refine x_iconst F (v := nI (1)) dM_readsCode_288 (by decide) ?_
                          refine x_goto F (tgt := 293) dM_readsCode_289 (by decide) ?_
                          exact x_zret F hr (by rfl) dM_readsCode_293 (by rw [show mrc tx sn ds xs dg n q = none from by rw [mrc, if_neg (fun z => c1 z.1), if_neg h70, if_neg c60, if_neg (by omega), if_neg c62, if_neg (by omega), if_neg c65, if_neg (by rw [hbad]; decide), if_neg (by rw [hbeh]; decide)]]; exact ⟨rfl, fun b hb => (x_up_n (by omega)).trans ((x_up_n (by omega)).trans (rfl)), rfl, ⟨(x_up_k (x_up_k h0 (by omega)) (by omega)), (x_up_k (x_up_k h1 (by omega)) (by omega)), (x_up_k (x_up_k h2 (by omega)) (by omega)), x_up_s, (x_up_k x_up_s (by omega)), (x_up_k (x_up_k h5 (by omega)) (by omega)), (x_up_k (x_up_k h6 (by omega)) (by omega)), (x_up_k (x_up_k h7 (by omega)) (by omega)), (x_up_k (x_up_k h8 (by omega)) (by omega)), (x_up_k (x_up_k h9 (by omega)) (by omega)), (x_up_k (x_up_k h10 (by omega)) (by omega)), (x_up_k (x_up_k h11 (by omega)) (by omega)), (x_up_k (x_up_k h12 (by omega)) (by omega)), (x_up_k (x_up_k h13 (by omega)) (by omega)), (x_up_k (x_up_k h14 (by omega)) (by omega)), (x_up_k (x_up_k h15 (by omega)) (by omega)), (x_up_k (x_up_k h16 (by omega)) (by omega)), (x_up_k (x_up_k h17 (by omega)) (by omega)), (x_up_k (x_up_k h18 (by omega)) (by omega)), by omega, by omega, by omega, by omega, by omega, by omega⟩⟩)
                        · skip
                          have c68 : n ≠ 0 := by
                            have z : ¬ (n = 0) := fun zz => c68 ((nI_eq (a := n) (b := 0) (by omega) (by omega)).mpr zz)
                            omega
                          obtain ⟨n0, hn1⟩ : ∃ n0, n = n0 + 1 := ⟨n - 1, by omega⟩
                          refine x_aload_n F 6 dM_readsCode_258 rfl rfl ?_
                          refine x_get (ci := 6) F 7 (x_in inM) rfl (by decide) (x_m kfM_20) dM_readsCode_259 (x_up_k (x_up_k h0 (by omega)) (by omega)) rfl ?_
                          refine x_iload_n F 4 dM_readsCode_262 rfl rfl ?_
                          refine x_lald F dM_readsCode_263 x_up_s (pk_in (120 + n) (160) (by omega)) ?_
                          refine xW.tol (lN (cN tx (q + rM tx sn q) (rD tx sn (q + rM tx sn q)))) (by rw [nI_clamp (by omega)]; exact vp_us) ?_
                          refine x_aload_n F 6 dM_readsCode_264 rfl rfl ?_
                          refine x_get (ci := 6) F 7 (x_in inM) rfl (by decide) (x_m kfM_20) dM_readsCode_265 (x_up_k (x_up_k h0 (by omega)) (by omega)) rfl ?_
                          refine x_iload_n F 4 dM_readsCode_268 rfl rfl ?_
                          refine x_iconst F (v := nI (1)) dM_readsCode_269 (by decide) ?_
                          refine x_isub F dM_readsCode_270 ?_
                          refine xW.toi (nI (120 + n0)) (by rw [hn1]; exact nI_pred (120 + n0)) ?_
                          refine x_lald F dM_readsCode_271 x_up_s (pk_in (120 + n0) (160) (by omega)) ?_
                          refine xW.tol (lN (xs n0)) (by rw [nI_clamp (by omega)]; exact (updL_ne (by omega)).trans (hcd n0 (by omega)).1) ?_
                          refine yS (n := 2) (As := [.long (lN (cN tx (q + rM tx sn q) (rD tx sn (q + rM tx sn q)))), .long (lN (xs n0))]) F kmM_126 ktM_isBehind knM kcM_isBehind (by decide +kernel) dM_readsCode_272 (cM_isBehind l (nx) (x_up (x_up M (a + 4) (.inl (.int, 160, .inl (upd (ds) (120 + n) (nI (rM tx sn q)))))) (a + 3) (.inl (.long, 160, .inr (.inl (vp_updL (cd) (120 + n) (lN (cN tx (q + rM tx sn q) (rD tx sn (q + rM tx sn q))))))))) (cN tx (q + rM tx sn q) (rD tx sn (q + rM tx sn q))) (rD tx sn (q + rM tx sn q)) (xs n0) (dg n0) hX10 (hcd n0 (by omega)).2) rfl rfl (Nat.le_of_ble_eq_true rfl) ⟨Nat.le_of_ble_eq_true rfl, Nat.le_of_ble_eq_true rfl⟩ ⟨Nat.le_of_ble_eq_true rfl, Nat.le_of_ble_eq_true rfl⟩ ?_
                          refine x_if_ne F (tgt := 288) dM_readsCode_275 (by decide) (fun c69 => ?_) (fun c69 => ?_)
                          · skip
                            have c69 : (mbh (cN tx (q + rM tx sn q) (rD tx sn (q + rM tx sn q))) (rD tx sn (q + rM tx sn q)) (xs n0) (dg n0)) = true := bI_1 c69
                            have hbeh : mBeh xs dg n (cN tx (q + rM tx sn q) (rD tx sn (q + rM tx sn q))) (rD tx sn (q + rM tx sn q)) = true := by rw [hn1]; exact c69
                            refine x_iconst F (v := nI (1)) dM_readsCode_288 (by decide) ?_
                            refine x_goto F (tgt := 293) dM_readsCode_289 (by decide) ?_
                            exact x_zret F hr (by rfl) dM_readsCode_293 (by rw [show mrc tx sn ds xs dg n q = none from by rw [mrc, if_neg (fun z => c1 z.1), if_neg h70, if_neg c60, if_neg (by omega), if_neg c62, if_neg (by omega), if_neg c65, if_neg (by rw [hbad]; decide), if_neg (by rw [hbeh]; decide)]]; exact ⟨rfl, fun b hb => (x_up_n (by omega)).trans ((x_up_n (by omega)).trans (rfl)), rfl, ⟨(x_up_k (x_up_k h0 (by omega)) (by omega)), (x_up_k (x_up_k h1 (by omega)) (by omega)), (x_up_k (x_up_k h2 (by omega)) (by omega)), x_up_s, (x_up_k x_up_s (by omega)), (x_up_k (x_up_k h5 (by omega)) (by omega)), (x_up_k (x_up_k h6 (by omega)) (by omega)), (x_up_k (x_up_k h7 (by omega)) (by omega)), (x_up_k (x_up_k h8 (by omega)) (by omega)), (x_up_k (x_up_k h9 (by omega)) (by omega)), (x_up_k (x_up_k h10 (by omega)) (by omega)), (x_up_k (x_up_k h11 (by omega)) (by omega)), (x_up_k (x_up_k h12 (by omega)) (by omega)), (x_up_k (x_up_k h13 (by omega)) (by omega)), (x_up_k (x_up_k h14 (by omega)) (by omega)), (x_up_k (x_up_k h15 (by omega)) (by omega)), (x_up_k (x_up_k h16 (by omega)) (by omega)), (x_up_k (x_up_k h17 (by omega)) (by omega)), (x_up_k (x_up_k h18 (by omega)) (by omega)), by omega, by omega, by omega, by omega, by omega, by omega⟩⟩)
                          · skip
                            have c69 : (mbh (cN tx (q + rM tx sn q) (rD tx sn (q + rM tx sn q))) (rD tx sn (q + rM tx sn q)) (xs n0) (dg n0)) = false := bI_0 c69
                            have hbeh : mBeh xs dg n (cN tx (q + rM tx sn q) (rD tx sn (q + rM tx sn q))) (rD tx sn (q + rM tx sn q)) = false := by rw [hn1]; exact c69
                            refine x_aload_n F 6 dM_readsCode_278 rfl rfl ?_
                            refine x_iconst F (v := nI (4)) dM_readsCode_279 (by decide) ?_
                            refine x_iload F 2 dM_readsCode_280 rfl ?_
                            refine yVr (n := 2) (As := [.int (nI (4)), .int (nI (q + rM tx sn q))]) (ci := 6) F kmM_115 kiM_fails ksM_fails knM kcM_fails (by decide +kernel) dM_readsCode_282 (cM_fails l (nx) (x_up (x_up M (a + 4) (.inl (.int, 160, .inl (upd (ds) (120 + n) (nI (rM tx sn q)))))) (a + 3) (.inl (.long, 160, .inr (.inl (vp_updL (cd) (120 + n) (lN (cN tx (q + rM tx sn q) (rD tx sn (q + rM tx sn q))))))))) (a) th sg sn pr fk fp rws (vp_updL (cd) (120 + n) (lN (cN tx (q + rM tx sn q) (rD tx sn (q + rM tx sn q))))) (upd (ds) (120 + n) (nI (rM tx sn q))) wc wd nn nE nC nK nO ln lF lC lT lO fn fC fP ak ac pt ⟨(x_up_k (x_up_k h0 (by omega)) (by omega)), (x_up_k (x_up_k h1 (by omega)) (by omega)), (x_up_k (x_up_k h2 (by omega)) (by omega)), x_up_s, (x_up_k x_up_s (by omega)), (x_up_k (x_up_k h5 (by omega)) (by omega)), (x_up_k (x_up_k h6 (by omega)) (by omega)), (x_up_k (x_up_k h7 (by omega)) (by omega)), (x_up_k (x_up_k h8 (by omega)) (by omega)), (x_up_k (x_up_k h9 (by omega)) (by omega)), (x_up_k (x_up_k h10 (by omega)) (by omega)), (x_up_k (x_up_k h11 (by omega)) (by omega)), (x_up_k (x_up_k h12 (by omega)) (by omega)), (x_up_k (x_up_k h13 (by omega)) (by omega)), (x_up_k (x_up_k h14 (by omega)) (by omega)), (x_up_k (x_up_k h15 (by omega)) (by omega)), (x_up_k (x_up_k h16 (by omega)) (by omega)), (x_up_k (x_up_k h17 (by omega)) (by omega)), (x_up_k (x_up_k h18 (by omega)) (by omega)), by omega, by omega, by omega, by omega, by omega, by omega⟩ (nI (4)) (nI (q + rM tx sn q))) rfl (x_up_k (x_up_k h0 (by omega)) (by omega)) rfl rfl (Nat.le_of_ble_eq_true rfl) ⟨Nat.le_of_ble_eq_true rfl, Nat.le_of_ble_eq_true rfl⟩ ⟨Nat.le_of_ble_eq_true rfl, Nat.le_of_ble_eq_true rfl⟩ (fun r' n' M544 hp => ?_)
                            obtain ⟨hr', hn', hM544, hf544⟩ := hp
                            rw [hn', hr']
                            obtain ⟨v544_0, v544_1, v544_2, v544_3, v544_4, v544_5, v544_6, v544_7, v544_8, v544_9, v544_10, v544_11, v544_12, v544_13, v544_14, v544_15, v544_16, v544_17, v544_18, vb544_0, vb544_1, vb544_2, vb544_3, vb544_4, vb544_5⟩ := id hM544
                            show xW p l e ({ frames := 4, cells := 0, slots := 0, locals := 96 } : Room) s m args below meth c D xcl (x_A M nx) 8 (MQ below (x_Q D xcl (x_A M nx) (mcPost nx M a th sg sn pr fk fp rws cd ds wc wd nn nE nC nK nO ln lF lC lT lO fn fC fP ak ac pt n (rM tx sn q) (cN tx (q + rM tx sn q) (rD tx sn (q + rM tx sn q))) (mrc tx sn ds xs dg n q))) args s 0 0 (x_A M nx)) 0 0 (nx) M544 285 [(7, .int ((-1))), (6, .int (nI (rD tx sn (q + rM tx sn q)))), (5, .int (nI (q + rM tx sn q))), (4, .int (nI (rM tx sn q))), (3, .int (nI (120 + n))), (2, .int (nI (n))), (0, .ref (a)), (1, .int (nI (q)))] [.int (nI (0))]
                            refine x_if_eq F (tgt := 292) dM_readsCode_285 (by decide) (fun c70 => ?_) (fun c70 => ?_)
                            · skip
                              have c70 : 0 = 0 := by
                                exact (nI_eq (a := 0) (b := 0) (by omega) (by omega)).mp c70
                              refine x_iconst F (v := nI (0)) dM_readsCode_292 (by decide) ?_
                              exact x_zret F hr (by rfl) dM_readsCode_293 (by rw [show mrc tx sn ds xs dg n q = some (4, q + rM tx sn q) from by rw [mrc, if_neg (fun z => c1 z.1), if_neg h70, if_neg c60, if_neg (by omega), if_neg c62, if_neg (by omega), if_neg c65, if_neg (by rw [hbad]; decide), if_pos hbeh]]; exact ⟨rfl, fun b hb => (hf544 _ (by omega)).trans ((x_up_n (by omega)).trans ((x_up_n (by omega)).trans (rfl))), rfl, _, _, (fun i hi => ⟨updL_ne (by omega), upd_ne (by omega)⟩), hM544⟩)
                            · skip
                              have c70 : 0 ≠ 0 := by
                                have z : ¬ (0 = 0) := fun zz => c70 ((nI_eq (a := 0) (b := 0) (by omega) (by omega)).mpr zz)
                                omega
                              exact absurd c70 (by decide)
                      · skip
                        have c67 : 0 < rM tx sn q := by
                          have z : ¬ (rM tx sn q ≤ 0) := fun zz => c67 ((nI_leI (a := rM tx sn q) (b := 0) (by omega) (by omega)).mpr zz)
                          omega
                        refine x_aload_n F 6 dM_readsCode_218 rfl rfl ?_
                        refine x_get (ci := 6) F 7 (x_in inM) rfl (by decide) (x_m kfM_20) dM_readsCode_219 (x_up_k (x_up_k h0 (by omega)) (by omega)) rfl ?_
                        refine x_iload_n F 4 dM_readsCode_222 rfl rfl ?_
                        refine x_lald F dM_readsCode_223 x_up_s (pk_in (120 + n) (160) (by omega)) ?_
                        refine xW.tol (lN (cN tx (q + rM tx sn q) (rD tx sn (q + rM tx sn q)))) (by rw [nI_clamp (by omega)]; exact vp_us) ?_
                        refine x_aload_n F 6 dM_readsCode_224 rfl rfl ?_
                        refine x_get (ci := 6) F 7 (x_in inM) rfl (by decide) (x_m kfM_20) dM_readsCode_225 (x_up_k (x_up_k h0 (by omega)) (by omega)) rfl ?_
                        refine x_iload F 0 dM_readsCode_228 rfl ?_
                        refine x_if_ge F (tgt := 237) dM_readsCode_230 (by decide) (fun c71 => ?_) (fun c71 => ?_)
                        · skip
                          exact absurd c71 (by decide)
                        · skip
                          refine x_iload_n F 4 dM_readsCode_233 rfl rfl ?_
                          refine x_goto F (tgt := 239) dM_readsCode_234 (by decide) ?_
                          refine x_lald F dM_readsCode_239 x_up_s (pk_in (120 + n) (160) (by omega)) ?_
                          refine xW.tol (lN (cN tx (q + rM tx sn q) (rD tx sn (q + rM tx sn q)))) (by rw [nI_clamp (by omega)]; exact vp_us) ?_
                          refine yS (n := 2) (As := [.long (lN (cN tx (q + rM tx sn q) (rD tx sn (q + rM tx sn q)))), .long (lN (cN tx (q + rM tx sn q) (rD tx sn (q + rM tx sn q))))]) F kmM_107 ktM_begins knM kcM_begins (by decide +kernel) dM_readsCode_240 (cM_begins l (nx) (x_up (x_up M (a + 4) (.inl (.int, 160, .inl (upd (ds) (120 + n) (nI (rM tx sn q)))))) (a + 3) (.inl (.long, 160, .inr (.inl (vp_updL (cd) (120 + n) (lN (cN tx (q + rM tx sn q) (rD tx sn (q + rM tx sn q))))))))) (cN tx (q + rM tx sn q) (rD tx sn (q + rM tx sn q))) (rD tx sn (q + rM tx sn q)) (cN tx (q + rM tx sn q) (rD tx sn (q + rM tx sn q))) (rD tx sn (q + rM tx sn q)) hX10 hX10) rfl rfl (Nat.le_of_ble_eq_true rfl) ⟨Nat.le_of_ble_eq_true rfl, Nat.le_of_ble_eq_true rfl⟩ ⟨Nat.le_of_ble_eq_true rfl, Nat.le_of_ble_eq_true rfl⟩ ?_
                          refine x_if_ne F (tgt := 254) dM_readsCode_243 (by decide) (fun c72 => ?_) (fun c72 => ?_)
                          · skip
                            have c72 : (mbg (cN tx (q + rM tx sn q) (rD tx sn (q + rM tx sn q))) (rD tx sn (q + rM tx sn q)) (cN tx (q + rM tx sn q) (rD tx sn (q + rM tx sn q))) (rD tx sn (q + rM tx sn q))) = true := bI_1 c72
                            have hla := mUp_la (by omega) hup
                            have hbad : mBad ds xs dg n (rM tx sn q) (cN tx (q + rM tx sn q) (rD tx sn (q + rM tx sn q))) (rD tx sn (q + rM tx sn q)) = false := by rw [mBad, if_neg (by omega), hla]; rw [mbg_self] at c72; cases c72
                            refine x_iload_n F 5 dM_readsCode_254 rfl rfl ?_
                            refine x_if_eq F (tgt := 288) dM_readsCode_255 (by decide) (fun c73 => ?_) (fun c73 => ?_)
                            · skip
                              have c73 : n = 0 := by
                                exact (nI_eq (a := n) (b := 0) (by omega) (by omega)).mp c73
                              have hbeh : mBeh xs dg n (cN tx (q + rM tx sn q) (rD tx sn (q + rM tx sn q))) (rD tx sn (q + rM tx sn q)) = true := by rw [c73]; rfl
                              refine x_iconst F (v := nI (1)) dM_readsCode_288 (by decide) ?_
                              refine x_goto F (tgt := 293) dM_readsCode_289 (by decide) ?_
                              exact x_zret F hr (by rfl) dM_readsCode_293 (by rw [show mrc tx sn ds xs dg n q = none from by rw [mrc, if_neg (fun z => c1 z.1), if_neg h70, if_neg c60, if_neg (by omega), if_neg c62, if_neg (by omega), if_neg c65, if_neg (by rw [hbad]; decide), if_neg (by rw [hbeh]; decide)]]; exact ⟨rfl, fun b hb => (x_up_n (by omega)).trans ((x_up_n (by omega)).trans (rfl)), rfl, ⟨(x_up_k (x_up_k h0 (by omega)) (by omega)), (x_up_k (x_up_k h1 (by omega)) (by omega)), (x_up_k (x_up_k h2 (by omega)) (by omega)), x_up_s, (x_up_k x_up_s (by omega)), (x_up_k (x_up_k h5 (by omega)) (by omega)), (x_up_k (x_up_k h6 (by omega)) (by omega)), (x_up_k (x_up_k h7 (by omega)) (by omega)), (x_up_k (x_up_k h8 (by omega)) (by omega)), (x_up_k (x_up_k h9 (by omega)) (by omega)), (x_up_k (x_up_k h10 (by omega)) (by omega)), (x_up_k (x_up_k h11 (by omega)) (by omega)), (x_up_k (x_up_k h12 (by omega)) (by omega)), (x_up_k (x_up_k h13 (by omega)) (by omega)), (x_up_k (x_up_k h14 (by omega)) (by omega)), (x_up_k (x_up_k h15 (by omega)) (by omega)), (x_up_k (x_up_k h16 (by omega)) (by omega)), (x_up_k (x_up_k h17 (by omega)) (by omega)), (x_up_k (x_up_k h18 (by omega)) (by omega)), by omega, by omega, by omega, by omega, by omega, by omega⟩⟩)
                            · skip
                              have c73 : n ≠ 0 := by
                                have z : ¬ (n = 0) := fun zz => c73 ((nI_eq (a := n) (b := 0) (by omega) (by omega)).mpr zz)
                                omega
                              obtain ⟨n0, hn1⟩ : ∃ n0, n = n0 + 1 := ⟨n - 1, by omega⟩
                              refine x_aload_n F 6 dM_readsCode_258 rfl rfl ?_
                              refine x_get (ci := 6) F 7 (x_in inM) rfl (by decide) (x_m kfM_20) dM_readsCode_259 (x_up_k (x_up_k h0 (by omega)) (by omega)) rfl ?_
                              refine x_iload_n F 4 dM_readsCode_262 rfl rfl ?_
                              refine x_lald F dM_readsCode_263 x_up_s (pk_in (120 + n) (160) (by omega)) ?_
                              refine xW.tol (lN (cN tx (q + rM tx sn q) (rD tx sn (q + rM tx sn q)))) (by rw [nI_clamp (by omega)]; exact vp_us) ?_
                              refine x_aload_n F 6 dM_readsCode_264 rfl rfl ?_
                              refine x_get (ci := 6) F 7 (x_in inM) rfl (by decide) (x_m kfM_20) dM_readsCode_265 (x_up_k (x_up_k h0 (by omega)) (by omega)) rfl ?_
                              refine x_iload_n F 4 dM_readsCode_268 rfl rfl ?_
                              refine x_iconst F (v := nI (1)) dM_readsCode_269 (by decide) ?_
                              refine x_isub F dM_readsCode_270 ?_
                              refine xW.toi (nI (120 + n0)) (by rw [hn1]; exact nI_pred (120 + n0)) ?_
                              refine x_lald F dM_readsCode_271 x_up_s (pk_in (120 + n0) (160) (by omega)) ?_
                              refine xW.tol (lN (xs n0)) (by rw [nI_clamp (by omega)]; exact (updL_ne (by omega)).trans (hcd n0 (by omega)).1) ?_
                              refine yS (n := 2) (As := [.long (lN (cN tx (q + rM tx sn q) (rD tx sn (q + rM tx sn q)))), .long (lN (xs n0))]) F kmM_126 ktM_isBehind knM kcM_isBehind (by decide +kernel) dM_readsCode_272 (cM_isBehind l (nx) (x_up (x_up M (a + 4) (.inl (.int, 160, .inl (upd (ds) (120 + n) (nI (rM tx sn q)))))) (a + 3) (.inl (.long, 160, .inr (.inl (vp_updL (cd) (120 + n) (lN (cN tx (q + rM tx sn q) (rD tx sn (q + rM tx sn q))))))))) (cN tx (q + rM tx sn q) (rD tx sn (q + rM tx sn q))) (rD tx sn (q + rM tx sn q)) (xs n0) (dg n0) hX10 (hcd n0 (by omega)).2) rfl rfl (Nat.le_of_ble_eq_true rfl) ⟨Nat.le_of_ble_eq_true rfl, Nat.le_of_ble_eq_true rfl⟩ ⟨Nat.le_of_ble_eq_true rfl, Nat.le_of_ble_eq_true rfl⟩ ?_
                              refine x_if_ne F (tgt := 288) dM_readsCode_275 (by decide) (fun c74 => ?_) (fun c74 => ?_)
                              · skip
                                have c74 : (mbh (cN tx (q + rM tx sn q) (rD tx sn (q + rM tx sn q))) (rD tx sn (q + rM tx sn q)) (xs n0) (dg n0)) = true := bI_1 c74
                                have hbeh : mBeh xs dg n (cN tx (q + rM tx sn q) (rD tx sn (q + rM tx sn q))) (rD tx sn (q + rM tx sn q)) = true := by rw [hn1]; exact c74
                                refine x_iconst F (v := nI (1)) dM_readsCode_288 (by decide) ?_
                                refine x_goto F (tgt := 293) dM_readsCode_289 (by decide) ?_
                                exact x_zret F hr (by rfl) dM_readsCode_293 (by rw [show mrc tx sn ds xs dg n q = none from by rw [mrc, if_neg (fun z => c1 z.1), if_neg h70, if_neg c60, if_neg (by omega), if_neg c62, if_neg (by omega), if_neg c65, if_neg (by rw [hbad]; decide), if_neg (by rw [hbeh]; decide)]]; exact ⟨rfl, fun b hb => (x_up_n (by omega)).trans ((x_up_n (by omega)).trans (rfl)), rfl, ⟨(x_up_k (x_up_k h0 (by omega)) (by omega)), (x_up_k (x_up_k h1 (by omega)) (by omega)), (x_up_k (x_up_k h2 (by omega)) (by omega)), x_up_s, (x_up_k x_up_s (by omega)), (x_up_k (x_up_k h5 (by omega)) (by omega)), (x_up_k (x_up_k h6 (by omega)) (by omega)), (x_up_k (x_up_k h7 (by omega)) (by omega)), (x_up_k (x_up_k h8 (by omega)) (by omega)), (x_up_k (x_up_k h9 (by omega)) (by omega)), (x_up_k (x_up_k h10 (by omega)) (by omega)), (x_up_k (x_up_k h11 (by omega)) (by omega)), (x_up_k (x_up_k h12 (by omega)) (by omega)), (x_up_k (x_up_k h13 (by omega)) (by omega)), (x_up_k (x_up_k h14 (by omega)) (by omega)), (x_up_k (x_up_k h15 (by omega)) (by omega)), (x_up_k (x_up_k h16 (by omega)) (by omega)), (x_up_k (x_up_k h17 (by omega)) (by omega)), (x_up_k (x_up_k h18 (by omega)) (by omega)), by omega, by omega, by omega, by omega, by omega, by omega⟩⟩)
                              · skip
                                have c74 : (mbh (cN tx (q + rM tx sn q) (rD tx sn (q + rM tx sn q))) (rD tx sn (q + rM tx sn q)) (xs n0) (dg n0)) = false := bI_0 c74
                                have hbeh : mBeh xs dg n (cN tx (q + rM tx sn q) (rD tx sn (q + rM tx sn q))) (rD tx sn (q + rM tx sn q)) = false := by rw [hn1]; exact c74
                                refine x_aload_n F 6 dM_readsCode_278 rfl rfl ?_
                                refine x_iconst F (v := nI (4)) dM_readsCode_279 (by decide) ?_
                                refine x_iload F 2 dM_readsCode_280 rfl ?_
                                refine yVr (n := 2) (As := [.int (nI (4)), .int (nI (q + rM tx sn q))]) (ci := 6) F kmM_115 kiM_fails ksM_fails knM kcM_fails (by decide +kernel) dM_readsCode_282 (cM_fails l (nx) (x_up (x_up M (a + 4) (.inl (.int, 160, .inl (upd (ds) (120 + n) (nI (rM tx sn q)))))) (a + 3) (.inl (.long, 160, .inr (.inl (vp_updL (cd) (120 + n) (lN (cN tx (q + rM tx sn q) (rD tx sn (q + rM tx sn q))))))))) (a) th sg sn pr fk fp rws (vp_updL (cd) (120 + n) (lN (cN tx (q + rM tx sn q) (rD tx sn (q + rM tx sn q))))) (upd (ds) (120 + n) (nI (rM tx sn q))) wc wd nn nE nC nK nO ln lF lC lT lO fn fC fP ak ac pt ⟨(x_up_k (x_up_k h0 (by omega)) (by omega)), (x_up_k (x_up_k h1 (by omega)) (by omega)), (x_up_k (x_up_k h2 (by omega)) (by omega)), x_up_s, (x_up_k x_up_s (by omega)), (x_up_k (x_up_k h5 (by omega)) (by omega)), (x_up_k (x_up_k h6 (by omega)) (by omega)), (x_up_k (x_up_k h7 (by omega)) (by omega)), (x_up_k (x_up_k h8 (by omega)) (by omega)), (x_up_k (x_up_k h9 (by omega)) (by omega)), (x_up_k (x_up_k h10 (by omega)) (by omega)), (x_up_k (x_up_k h11 (by omega)) (by omega)), (x_up_k (x_up_k h12 (by omega)) (by omega)), (x_up_k (x_up_k h13 (by omega)) (by omega)), (x_up_k (x_up_k h14 (by omega)) (by omega)), (x_up_k (x_up_k h15 (by omega)) (by omega)), (x_up_k (x_up_k h16 (by omega)) (by omega)), (x_up_k (x_up_k h17 (by omega)) (by omega)), (x_up_k (x_up_k h18 (by omega)) (by omega)), by omega, by omega, by omega, by omega, by omega, by omega⟩ (nI (4)) (nI (q + rM tx sn q))) rfl (x_up_k (x_up_k h0 (by omega)) (by omega)) rfl rfl (Nat.le_of_ble_eq_true rfl) ⟨Nat.le_of_ble_eq_true rfl, Nat.le_of_ble_eq_true rfl⟩ ⟨Nat.le_of_ble_eq_true rfl, Nat.le_of_ble_eq_true rfl⟩ (fun r' n' M545 hp => ?_)
                                obtain ⟨hr', hn', hM545, hf545⟩ := hp
                                rw [hn', hr']
                                obtain ⟨v545_0, v545_1, v545_2, v545_3, v545_4, v545_5, v545_6, v545_7, v545_8, v545_9, v545_10, v545_11, v545_12, v545_13, v545_14, v545_15, v545_16, v545_17, v545_18, vb545_0, vb545_1, vb545_2, vb545_3, vb545_4, vb545_5⟩ := id hM545
                                show xW p l e ({ frames := 4, cells := 0, slots := 0, locals := 96 } : Room) s m args below meth c D xcl (x_A M nx) 8 (MQ below (x_Q D xcl (x_A M nx) (mcPost nx M a th sg sn pr fk fp rws cd ds wc wd nn nE nC nK nO ln lF lC lT lO fn fC fP ak ac pt n (rM tx sn q) (cN tx (q + rM tx sn q) (rD tx sn (q + rM tx sn q))) (mrc tx sn ds xs dg n q))) args s 0 0 (x_A M nx)) 0 0 (nx) M545 285 [(7, .int ((-1))), (6, .int (nI (rD tx sn (q + rM tx sn q)))), (5, .int (nI (q + rM tx sn q))), (4, .int (nI (rM tx sn q))), (3, .int (nI (120 + n))), (2, .int (nI (n))), (0, .ref (a)), (1, .int (nI (q)))] [.int (nI (0))]
                                refine x_if_eq F (tgt := 292) dM_readsCode_285 (by decide) (fun c75 => ?_) (fun c75 => ?_)
                                · skip
                                  have c75 : 0 = 0 := by
                                    exact (nI_eq (a := 0) (b := 0) (by omega) (by omega)).mp c75
                                  refine x_iconst F (v := nI (0)) dM_readsCode_292 (by decide) ?_
                                  exact x_zret F hr (by rfl) dM_readsCode_293 (by rw [show mrc tx sn ds xs dg n q = some (4, q + rM tx sn q) from by rw [mrc, if_neg (fun z => c1 z.1), if_neg h70, if_neg c60, if_neg (by omega), if_neg c62, if_neg (by omega), if_neg c65, if_neg (by rw [hbad]; decide), if_pos hbeh]]; exact ⟨rfl, fun b hb => (hf545 _ (by omega)).trans ((x_up_n (by omega)).trans ((x_up_n (by omega)).trans (rfl))), rfl, _, _, (fun i hi => ⟨updL_ne (by omega), upd_ne (by omega)⟩), hM545⟩)
                                · skip
                                  have c75 : 0 ≠ 0 := by
                                    have z : ¬ (0 = 0) := fun zz => c75 ((nI_eq (a := 0) (b := 0) (by omega) (by omega)).mpr zz)
                                    omega
                                  exact absurd c75 (by decide)
                          · skip
                            have c72 : (mbg (cN tx (q + rM tx sn q) (rD tx sn (q + rM tx sn q))) (rD tx sn (q + rM tx sn q)) (cN tx (q + rM tx sn q) (rD tx sn (q + rM tx sn q))) (rD tx sn (q + rM tx sn q))) = false := bI_0 c72
                            have hla := mUp_la (by omega) hup
                            have hbad : mBad ds xs dg n (rM tx sn q) (cN tx (q + rM tx sn q) (rD tx sn (q + rM tx sn q))) (rD tx sn (q + rM tx sn q)) = true := by rw [mBad, if_neg (by omega), hla]
                            refine x_aload_n F 6 dM_readsCode_246 rfl rfl ?_
                            refine x_iconst F (v := nI (3)) dM_readsCode_247 (by decide) ?_
                            refine x_iload F 2 dM_readsCode_248 rfl ?_
                            refine yVr (n := 2) (As := [.int (nI (3)), .int (nI (q + rM tx sn q))]) (ci := 6) F kmM_115 kiM_fails ksM_fails knM kcM_fails (by decide +kernel) dM_readsCode_250 (cM_fails l (nx) (x_up (x_up M (a + 4) (.inl (.int, 160, .inl (upd (ds) (120 + n) (nI (rM tx sn q)))))) (a + 3) (.inl (.long, 160, .inr (.inl (vp_updL (cd) (120 + n) (lN (cN tx (q + rM tx sn q) (rD tx sn (q + rM tx sn q))))))))) (a) th sg sn pr fk fp rws (vp_updL (cd) (120 + n) (lN (cN tx (q + rM tx sn q) (rD tx sn (q + rM tx sn q))))) (upd (ds) (120 + n) (nI (rM tx sn q))) wc wd nn nE nC nK nO ln lF lC lT lO fn fC fP ak ac pt ⟨(x_up_k (x_up_k h0 (by omega)) (by omega)), (x_up_k (x_up_k h1 (by omega)) (by omega)), (x_up_k (x_up_k h2 (by omega)) (by omega)), x_up_s, (x_up_k x_up_s (by omega)), (x_up_k (x_up_k h5 (by omega)) (by omega)), (x_up_k (x_up_k h6 (by omega)) (by omega)), (x_up_k (x_up_k h7 (by omega)) (by omega)), (x_up_k (x_up_k h8 (by omega)) (by omega)), (x_up_k (x_up_k h9 (by omega)) (by omega)), (x_up_k (x_up_k h10 (by omega)) (by omega)), (x_up_k (x_up_k h11 (by omega)) (by omega)), (x_up_k (x_up_k h12 (by omega)) (by omega)), (x_up_k (x_up_k h13 (by omega)) (by omega)), (x_up_k (x_up_k h14 (by omega)) (by omega)), (x_up_k (x_up_k h15 (by omega)) (by omega)), (x_up_k (x_up_k h16 (by omega)) (by omega)), (x_up_k (x_up_k h17 (by omega)) (by omega)), (x_up_k (x_up_k h18 (by omega)) (by omega)), by omega, by omega, by omega, by omega, by omega, by omega⟩ (nI (3)) (nI (q + rM tx sn q))) rfl (x_up_k (x_up_k h0 (by omega)) (by omega)) rfl rfl (Nat.le_of_ble_eq_true rfl) ⟨Nat.le_of_ble_eq_true rfl, Nat.le_of_ble_eq_true rfl⟩ ⟨Nat.le_of_ble_eq_true rfl, Nat.le_of_ble_eq_true rfl⟩ (fun r' n' M546 hp => ?_)
                            obtain ⟨hr', hn', hM546, hf546⟩ := hp
                            rw [hn', hr']
                            obtain ⟨v546_0, v546_1, v546_2, v546_3, v546_4, v546_5, v546_6, v546_7, v546_8, v546_9, v546_10, v546_11, v546_12, v546_13, v546_14, v546_15, v546_16, v546_17, v546_18, vb546_0, vb546_1, vb546_2, vb546_3, vb546_4, vb546_5⟩ := id hM546
                            show xW p l e ({ frames := 4, cells := 0, slots := 0, locals := 96 } : Room) s m args below meth c D xcl (x_A M nx) 8 (MQ below (x_Q D xcl (x_A M nx) (mcPost nx M a th sg sn pr fk fp rws cd ds wc wd nn nE nC nK nO ln lF lC lT lO fn fC fP ak ac pt n (rM tx sn q) (cN tx (q + rM tx sn q) (rD tx sn (q + rM tx sn q))) (mrc tx sn ds xs dg n q))) args s 0 0 (x_A M nx)) 0 0 (nx) M546 253 [(7, .int ((-1))), (6, .int (nI (rD tx sn (q + rM tx sn q)))), (5, .int (nI (q + rM tx sn q))), (4, .int (nI (rM tx sn q))), (3, .int (nI (120 + n))), (2, .int (nI (n))), (0, .ref (a)), (1, .int (nI (q)))] [.int (nI (0))]
                            exact x_zret F hr (by rfl) dM_readsCode_253 (by rw [show mrc tx sn ds xs dg n q = some (3, q + rM tx sn q) from by rw [mrc, if_neg (fun z => c1 z.1), if_neg h70, if_neg c60, if_neg (by omega), if_neg c62, if_neg (by omega), if_neg c65, if_pos hbad]]; exact ⟨rfl, fun b hb => (hf546 _ (by omega)).trans ((x_up_n (by omega)).trans ((x_up_n (by omega)).trans (rfl))), rfl, _, _, (fun i hi => ⟨updL_ne (by omega), upd_ne (by omega)⟩), hM546⟩)
                    · skip
                      have c66 : rM tx sn q = 0 := by
                        exact (nI_eq (a := rM tx sn q) (b := 0) (by omega) (by omega)).mp c66
                      refine x_iload F 1 dM_readsCode_207 rfl ?_
                      refine x_iconst F (v := nI (2)) dM_readsCode_209 (by decide) ?_
                      refine x_icmp_ne F (tgt := 246) dM_readsCode_210 (by decide) (fun c76 => ?_) (fun c76 => ?_)
                      · skip
                        have c76 : rD tx sn (q + rM tx sn q) ≠ 2 := by
                          have z : ¬ (rD tx sn (q + rM tx sn q) = 2) := fun zz => c76 ((nI_eq (a := rD tx sn (q + rM tx sn q)) (b := 2) (by omega) (by omega)).mpr zz)
                          omega
                        have hbad : mBad ds xs dg n (rM tx sn q) (cN tx (q + rM tx sn q) (rD tx sn (q + rM tx sn q))) (rD tx sn (q + rM tx sn q)) = true := by rw [mBad, if_pos c66, decide_eq_false c76]; rfl
                        refine x_aload_n F 6 dM_readsCode_246 rfl rfl ?_
                        refine x_iconst F (v := nI (3)) dM_readsCode_247 (by decide) ?_
                        refine x_iload F 2 dM_readsCode_248 rfl ?_
                        refine yVr (n := 2) (As := [.int (nI (3)), .int (nI (q + rM tx sn q))]) (ci := 6) F kmM_115 kiM_fails ksM_fails knM kcM_fails (by decide +kernel) dM_readsCode_250 (cM_fails l (nx) (x_up (x_up M (a + 4) (.inl (.int, 160, .inl (upd (ds) (120 + n) (nI (rM tx sn q)))))) (a + 3) (.inl (.long, 160, .inr (.inl (vp_updL (cd) (120 + n) (lN (cN tx (q + rM tx sn q) (rD tx sn (q + rM tx sn q))))))))) (a) th sg sn pr fk fp rws (vp_updL (cd) (120 + n) (lN (cN tx (q + rM tx sn q) (rD tx sn (q + rM tx sn q))))) (upd (ds) (120 + n) (nI (rM tx sn q))) wc wd nn nE nC nK nO ln lF lC lT lO fn fC fP ak ac pt ⟨(x_up_k (x_up_k h0 (by omega)) (by omega)), (x_up_k (x_up_k h1 (by omega)) (by omega)), (x_up_k (x_up_k h2 (by omega)) (by omega)), x_up_s, (x_up_k x_up_s (by omega)), (x_up_k (x_up_k h5 (by omega)) (by omega)), (x_up_k (x_up_k h6 (by omega)) (by omega)), (x_up_k (x_up_k h7 (by omega)) (by omega)), (x_up_k (x_up_k h8 (by omega)) (by omega)), (x_up_k (x_up_k h9 (by omega)) (by omega)), (x_up_k (x_up_k h10 (by omega)) (by omega)), (x_up_k (x_up_k h11 (by omega)) (by omega)), (x_up_k (x_up_k h12 (by omega)) (by omega)), (x_up_k (x_up_k h13 (by omega)) (by omega)), (x_up_k (x_up_k h14 (by omega)) (by omega)), (x_up_k (x_up_k h15 (by omega)) (by omega)), (x_up_k (x_up_k h16 (by omega)) (by omega)), (x_up_k (x_up_k h17 (by omega)) (by omega)), (x_up_k (x_up_k h18 (by omega)) (by omega)), by omega, by omega, by omega, by omega, by omega, by omega⟩ (nI (3)) (nI (q + rM tx sn q))) rfl (x_up_k (x_up_k h0 (by omega)) (by omega)) rfl rfl (Nat.le_of_ble_eq_true rfl) ⟨Nat.le_of_ble_eq_true rfl, Nat.le_of_ble_eq_true rfl⟩ ⟨Nat.le_of_ble_eq_true rfl, Nat.le_of_ble_eq_true rfl⟩ (fun r' n' M547 hp => ?_)
                        obtain ⟨hr', hn', hM547, hf547⟩ := hp
                        rw [hn', hr']
                        obtain ⟨v547_0, v547_1, v547_2, v547_3, v547_4, v547_5, v547_6, v547_7, v547_8, v547_9, v547_10, v547_11, v547_12, v547_13, v547_14, v547_15, v547_16, v547_17, v547_18, vb547_0, vb547_1, vb547_2, vb547_3, vb547_4, vb547_5⟩ := id hM547
                        show xW p l e ({ frames := 4, cells := 0, slots := 0, locals := 96 } : Room) s m args below meth c D xcl (x_A M nx) 8 (MQ below (x_Q D xcl (x_A M nx) (mcPost nx M a th sg sn pr fk fp rws cd ds wc wd nn nE nC nK nO ln lF lC lT lO fn fC fP ak ac pt n (rM tx sn q) (cN tx (q + rM tx sn q) (rD tx sn (q + rM tx sn q))) (mrc tx sn ds xs dg n q))) args s 0 0 (x_A M nx)) 0 0 (nx) M547 253 [(7, .int ((-1))), (6, .int (nI (rD tx sn (q + rM tx sn q)))), (5, .int (nI (q + rM tx sn q))), (4, .int (nI (rM tx sn q))), (3, .int (nI (120 + n))), (2, .int (nI (n))), (0, .ref (a)), (1, .int (nI (q)))] [.int (nI (0))]
                        exact x_zret F hr (by rfl) dM_readsCode_253 (by rw [show mrc tx sn ds xs dg n q = some (3, q + rM tx sn q) from by rw [mrc, if_neg (fun z => c1 z.1), if_neg h70, if_neg c60, if_neg (by omega), if_neg c62, if_neg (by omega), if_neg c65, if_pos hbad]]; exact ⟨rfl, fun b hb => (hf547 _ (by omega)).trans ((x_up_n (by omega)).trans ((x_up_n (by omega)).trans (rfl))), rfl, _, _, (fun i hi => ⟨updL_ne (by omega), upd_ne (by omega)⟩), hM547⟩)
                      · skip
                        have c76 : rD tx sn (q + rM tx sn q) = 2 := by
                          exact (nI_eq (a := rD tx sn (q + rM tx sn q)) (b := 2) (by omega) (by omega)).mp c76
                        refine x_iload F 3 dM_readsCode_213 rfl ?_
                        refine x_if_le F (tgt := 254) dM_readsCode_215 (by decide) (fun c77 => ?_) (fun c77 => ?_)
                        · skip
                          have c77 : rM tx sn q ≤ 0 := by
                            exact (nI_leI (a := rM tx sn q) (b := 0) (by omega) (by omega)).mp c77
                          have hbad : mBad ds xs dg n (rM tx sn q) (cN tx (q + rM tx sn q) (rD tx sn (q + rM tx sn q))) (rD tx sn (q + rM tx sn q)) = false := by rw [mBad, if_pos (by omega), decide_eq_true (by omega)]; rfl
                          refine x_iload_n F 5 dM_readsCode_254 rfl rfl ?_
                          refine x_if_eq F (tgt := 288) dM_readsCode_255 (by decide) (fun c78 => ?_) (fun c78 => ?_)
                          · skip
                            have c78 : n = 0 := by
                              exact (nI_eq (a := n) (b := 0) (by omega) (by omega)).mp c78
                            have hbeh : mBeh xs dg n (cN tx (q + rM tx sn q) (rD tx sn (q + rM tx sn q))) (rD tx sn (q + rM tx sn q)) = true := by rw [c78]; rfl
                            refine x_iconst F (v := nI (1)) dM_readsCode_288 (by decide) ?_
                            refine x_goto F (tgt := 293) dM_readsCode_289 (by decide) ?_
                            exact x_zret F hr (by rfl) dM_readsCode_293 (by rw [show mrc tx sn ds xs dg n q = none from by rw [mrc, if_neg (fun z => c1 z.1), if_neg h70, if_neg c60, if_neg (by omega), if_neg c62, if_neg (by omega), if_neg c65, if_neg (by rw [hbad]; decide), if_neg (by rw [hbeh]; decide)]]; exact ⟨rfl, fun b hb => (x_up_n (by omega)).trans ((x_up_n (by omega)).trans (rfl)), rfl, ⟨(x_up_k (x_up_k h0 (by omega)) (by omega)), (x_up_k (x_up_k h1 (by omega)) (by omega)), (x_up_k (x_up_k h2 (by omega)) (by omega)), x_up_s, (x_up_k x_up_s (by omega)), (x_up_k (x_up_k h5 (by omega)) (by omega)), (x_up_k (x_up_k h6 (by omega)) (by omega)), (x_up_k (x_up_k h7 (by omega)) (by omega)), (x_up_k (x_up_k h8 (by omega)) (by omega)), (x_up_k (x_up_k h9 (by omega)) (by omega)), (x_up_k (x_up_k h10 (by omega)) (by omega)), (x_up_k (x_up_k h11 (by omega)) (by omega)), (x_up_k (x_up_k h12 (by omega)) (by omega)), (x_up_k (x_up_k h13 (by omega)) (by omega)), (x_up_k (x_up_k h14 (by omega)) (by omega)), (x_up_k (x_up_k h15 (by omega)) (by omega)), (x_up_k (x_up_k h16 (by omega)) (by omega)), (x_up_k (x_up_k h17 (by omega)) (by omega)), (x_up_k (x_up_k h18 (by omega)) (by omega)), by omega, by omega, by omega, by omega, by omega, by omega⟩⟩)
                          · skip
                            have c78 : n ≠ 0 := by
                              have z : ¬ (n = 0) := fun zz => c78 ((nI_eq (a := n) (b := 0) (by omega) (by omega)).mpr zz)
                              omega
                            obtain ⟨n0, hn1⟩ : ∃ n0, n = n0 + 1 := ⟨n - 1, by omega⟩
                            refine x_aload_n F 6 dM_readsCode_258 rfl rfl ?_
                            refine x_get (ci := 6) F 7 (x_in inM) rfl (by decide) (x_m kfM_20) dM_readsCode_259 (x_up_k (x_up_k h0 (by omega)) (by omega)) rfl ?_
                            refine x_iload_n F 4 dM_readsCode_262 rfl rfl ?_
                            refine x_lald F dM_readsCode_263 x_up_s (pk_in (120 + n) (160) (by omega)) ?_
                            refine xW.tol (lN (cN tx (q + rM tx sn q) (rD tx sn (q + rM tx sn q)))) (by rw [nI_clamp (by omega)]; exact vp_us) ?_
                            refine x_aload_n F 6 dM_readsCode_264 rfl rfl ?_
                            refine x_get (ci := 6) F 7 (x_in inM) rfl (by decide) (x_m kfM_20) dM_readsCode_265 (x_up_k (x_up_k h0 (by omega)) (by omega)) rfl ?_
                            refine x_iload_n F 4 dM_readsCode_268 rfl rfl ?_
                            refine x_iconst F (v := nI (1)) dM_readsCode_269 (by decide) ?_
                            refine x_isub F dM_readsCode_270 ?_
                            refine xW.toi (nI (120 + n0)) (by rw [hn1]; exact nI_pred (120 + n0)) ?_
                            refine x_lald F dM_readsCode_271 x_up_s (pk_in (120 + n0) (160) (by omega)) ?_
                            refine xW.tol (lN (xs n0)) (by rw [nI_clamp (by omega)]; exact (updL_ne (by omega)).trans (hcd n0 (by omega)).1) ?_
                            refine yS (n := 2) (As := [.long (lN (cN tx (q + rM tx sn q) (rD tx sn (q + rM tx sn q)))), .long (lN (xs n0))]) F kmM_126 ktM_isBehind knM kcM_isBehind (by decide +kernel) dM_readsCode_272 (cM_isBehind l (nx) (x_up (x_up M (a + 4) (.inl (.int, 160, .inl (upd (ds) (120 + n) (nI (rM tx sn q)))))) (a + 3) (.inl (.long, 160, .inr (.inl (vp_updL (cd) (120 + n) (lN (cN tx (q + rM tx sn q) (rD tx sn (q + rM tx sn q))))))))) (cN tx (q + rM tx sn q) (rD tx sn (q + rM tx sn q))) (rD tx sn (q + rM tx sn q)) (xs n0) (dg n0) hX10 (hcd n0 (by omega)).2) rfl rfl (Nat.le_of_ble_eq_true rfl) ⟨Nat.le_of_ble_eq_true rfl, Nat.le_of_ble_eq_true rfl⟩ ⟨Nat.le_of_ble_eq_true rfl, Nat.le_of_ble_eq_true rfl⟩ ?_
                            refine x_if_ne F (tgt := 288) dM_readsCode_275 (by decide) (fun c79 => ?_) (fun c79 => ?_)
                            · skip
                              have c79 : (mbh (cN tx (q + rM tx sn q) (rD tx sn (q + rM tx sn q))) (rD tx sn (q + rM tx sn q)) (xs n0) (dg n0)) = true := bI_1 c79
                              have hbeh : mBeh xs dg n (cN tx (q + rM tx sn q) (rD tx sn (q + rM tx sn q))) (rD tx sn (q + rM tx sn q)) = true := by rw [hn1]; exact c79
                              refine x_iconst F (v := nI (1)) dM_readsCode_288 (by decide) ?_
                              refine x_goto F (tgt := 293) dM_readsCode_289 (by decide) ?_
                              exact x_zret F hr (by rfl) dM_readsCode_293 (by rw [show mrc tx sn ds xs dg n q = none from by rw [mrc, if_neg (fun z => c1 z.1), if_neg h70, if_neg c60, if_neg (by omega), if_neg c62, if_neg (by omega), if_neg c65, if_neg (by rw [hbad]; decide), if_neg (by rw [hbeh]; decide)]]; exact ⟨rfl, fun b hb => (x_up_n (by omega)).trans ((x_up_n (by omega)).trans (rfl)), rfl, ⟨(x_up_k (x_up_k h0 (by omega)) (by omega)), (x_up_k (x_up_k h1 (by omega)) (by omega)), (x_up_k (x_up_k h2 (by omega)) (by omega)), x_up_s, (x_up_k x_up_s (by omega)), (x_up_k (x_up_k h5 (by omega)) (by omega)), (x_up_k (x_up_k h6 (by omega)) (by omega)), (x_up_k (x_up_k h7 (by omega)) (by omega)), (x_up_k (x_up_k h8 (by omega)) (by omega)), (x_up_k (x_up_k h9 (by omega)) (by omega)), (x_up_k (x_up_k h10 (by omega)) (by omega)), (x_up_k (x_up_k h11 (by omega)) (by omega)), (x_up_k (x_up_k h12 (by omega)) (by omega)), (x_up_k (x_up_k h13 (by omega)) (by omega)), (x_up_k (x_up_k h14 (by omega)) (by omega)), (x_up_k (x_up_k h15 (by omega)) (by omega)), (x_up_k (x_up_k h16 (by omega)) (by omega)), (x_up_k (x_up_k h17 (by omega)) (by omega)), (x_up_k (x_up_k h18 (by omega)) (by omega)), by omega, by omega, by omega, by omega, by omega, by omega⟩⟩)
                            · skip
                              have c79 : (mbh (cN tx (q + rM tx sn q) (rD tx sn (q + rM tx sn q))) (rD tx sn (q + rM tx sn q)) (xs n0) (dg n0)) = false := bI_0 c79
                              have hbeh : mBeh xs dg n (cN tx (q + rM tx sn q) (rD tx sn (q + rM tx sn q))) (rD tx sn (q + rM tx sn q)) = false := by rw [hn1]; exact c79
                              refine x_aload_n F 6 dM_readsCode_278 rfl rfl ?_
                              refine x_iconst F (v := nI (4)) dM_readsCode_279 (by decide) ?_
                              refine x_iload F 2 dM_readsCode_280 rfl ?_
                              refine yVr (n := 2) (As := [.int (nI (4)), .int (nI (q + rM tx sn q))]) (ci := 6) F kmM_115 kiM_fails ksM_fails knM kcM_fails (by decide +kernel) dM_readsCode_282 (cM_fails l (nx) (x_up (x_up M (a + 4) (.inl (.int, 160, .inl (upd (ds) (120 + n) (nI (rM tx sn q)))))) (a + 3) (.inl (.long, 160, .inr (.inl (vp_updL (cd) (120 + n) (lN (cN tx (q + rM tx sn q) (rD tx sn (q + rM tx sn q))))))))) (a) th sg sn pr fk fp rws (vp_updL (cd) (120 + n) (lN (cN tx (q + rM tx sn q) (rD tx sn (q + rM tx sn q))))) (upd (ds) (120 + n) (nI (rM tx sn q))) wc wd nn nE nC nK nO ln lF lC lT lO fn fC fP ak ac pt ⟨(x_up_k (x_up_k h0 (by omega)) (by omega)), (x_up_k (x_up_k h1 (by omega)) (by omega)), (x_up_k (x_up_k h2 (by omega)) (by omega)), x_up_s, (x_up_k x_up_s (by omega)), (x_up_k (x_up_k h5 (by omega)) (by omega)), (x_up_k (x_up_k h6 (by omega)) (by omega)), (x_up_k (x_up_k h7 (by omega)) (by omega)), (x_up_k (x_up_k h8 (by omega)) (by omega)), (x_up_k (x_up_k h9 (by omega)) (by omega)), (x_up_k (x_up_k h10 (by omega)) (by omega)), (x_up_k (x_up_k h11 (by omega)) (by omega)), (x_up_k (x_up_k h12 (by omega)) (by omega)), (x_up_k (x_up_k h13 (by omega)) (by omega)), (x_up_k (x_up_k h14 (by omega)) (by omega)), (x_up_k (x_up_k h15 (by omega)) (by omega)), (x_up_k (x_up_k h16 (by omega)) (by omega)), (x_up_k (x_up_k h17 (by omega)) (by omega)), (x_up_k (x_up_k h18 (by omega)) (by omega)), by omega, by omega, by omega, by omega, by omega, by omega⟩ (nI (4)) (nI (q + rM tx sn q))) rfl (x_up_k (x_up_k h0 (by omega)) (by omega)) rfl rfl (Nat.le_of_ble_eq_true rfl) ⟨Nat.le_of_ble_eq_true rfl, Nat.le_of_ble_eq_true rfl⟩ ⟨Nat.le_of_ble_eq_true rfl, Nat.le_of_ble_eq_true rfl⟩ (fun r' n' M548 hp => ?_)
                              obtain ⟨hr', hn', hM548, hf548⟩ := hp
                              rw [hn', hr']
                              obtain ⟨v548_0, v548_1, v548_2, v548_3, v548_4, v548_5, v548_6, v548_7, v548_8, v548_9, v548_10, v548_11, v548_12, v548_13, v548_14, v548_15, v548_16, v548_17, v548_18, vb548_0, vb548_1, vb548_2, vb548_3, vb548_4, vb548_5⟩ := id hM548
                              show xW p l e ({ frames := 4, cells := 0, slots := 0, locals := 96 } : Room) s m args below meth c D xcl (x_A M nx) 8 (MQ below (x_Q D xcl (x_A M nx) (mcPost nx M a th sg sn pr fk fp rws cd ds wc wd nn nE nC nK nO ln lF lC lT lO fn fC fP ak ac pt n (rM tx sn q) (cN tx (q + rM tx sn q) (rD tx sn (q + rM tx sn q))) (mrc tx sn ds xs dg n q))) args s 0 0 (x_A M nx)) 0 0 (nx) M548 285 [(7, .int ((-1))), (6, .int (nI (rD tx sn (q + rM tx sn q)))), (5, .int (nI (q + rM tx sn q))), (4, .int (nI (rM tx sn q))), (3, .int (nI (120 + n))), (2, .int (nI (n))), (0, .ref (a)), (1, .int (nI (q)))] [.int (nI (0))]
                              refine x_if_eq F (tgt := 292) dM_readsCode_285 (by decide) (fun c80 => ?_) (fun c80 => ?_)
                              · skip
                                have c80 : 0 = 0 := by
                                  exact (nI_eq (a := 0) (b := 0) (by omega) (by omega)).mp c80
                                refine x_iconst F (v := nI (0)) dM_readsCode_292 (by decide) ?_
                                exact x_zret F hr (by rfl) dM_readsCode_293 (by rw [show mrc tx sn ds xs dg n q = some (4, q + rM tx sn q) from by rw [mrc, if_neg (fun z => c1 z.1), if_neg h70, if_neg c60, if_neg (by omega), if_neg c62, if_neg (by omega), if_neg c65, if_neg (by rw [hbad]; decide), if_pos hbeh]]; exact ⟨rfl, fun b hb => (hf548 _ (by omega)).trans ((x_up_n (by omega)).trans ((x_up_n (by omega)).trans (rfl))), rfl, _, _, (fun i hi => ⟨updL_ne (by omega), upd_ne (by omega)⟩), hM548⟩)
                              · skip
                                have c80 : 0 ≠ 0 := by
                                  have z : ¬ (0 = 0) := fun zz => c80 ((nI_eq (a := 0) (b := 0) (by omega) (by omega)).mpr zz)
                                  omega
                                exact absurd c80 (by decide)
                        · skip
                          have c77 : 0 < rM tx sn q := by
                            have z : ¬ (rM tx sn q ≤ 0) := fun zz => c77 ((nI_leI (a := rM tx sn q) (b := 0) (by omega) (by omega)).mpr zz)
                            omega
                          refine x_aload_n F 6 dM_readsCode_218 rfl rfl ?_
                          refine x_get (ci := 6) F 7 (x_in inM) rfl (by decide) (x_m kfM_20) dM_readsCode_219 (x_up_k (x_up_k h0 (by omega)) (by omega)) rfl ?_
                          refine x_iload_n F 4 dM_readsCode_222 rfl rfl ?_
                          refine x_lald F dM_readsCode_223 x_up_s (pk_in (120 + n) (160) (by omega)) ?_
                          refine xW.tol (lN (cN tx (q + rM tx sn q) (rD tx sn (q + rM tx sn q)))) (by rw [nI_clamp (by omega)]; exact vp_us) ?_
                          refine x_aload_n F 6 dM_readsCode_224 rfl rfl ?_
                          refine x_get (ci := 6) F 7 (x_in inM) rfl (by decide) (x_m kfM_20) dM_readsCode_225 (x_up_k (x_up_k h0 (by omega)) (by omega)) rfl ?_
                          refine x_iload F 0 dM_readsCode_228 rfl ?_
                          refine x_if_ge F (tgt := 237) dM_readsCode_230 (by decide) (fun c81 => ?_) (fun c81 => ?_)
                          · skip
                            exact absurd c81 (by decide)
                          · skip
                            refine x_iload_n F 4 dM_readsCode_233 rfl rfl ?_
                            refine x_goto F (tgt := 239) dM_readsCode_234 (by decide) ?_
                            refine x_lald F dM_readsCode_239 x_up_s (pk_in (120 + n) (160) (by omega)) ?_
                            refine xW.tol (lN (cN tx (q + rM tx sn q) (rD tx sn (q + rM tx sn q)))) (by rw [nI_clamp (by omega)]; exact vp_us) ?_
                            refine yS (n := 2) (As := [.long (lN (cN tx (q + rM tx sn q) (rD tx sn (q + rM tx sn q)))), .long (lN (cN tx (q + rM tx sn q) (rD tx sn (q + rM tx sn q))))]) F kmM_107 ktM_begins knM kcM_begins (by decide +kernel) dM_readsCode_240 (cM_begins l (nx) (x_up (x_up M (a + 4) (.inl (.int, 160, .inl (upd (ds) (120 + n) (nI (rM tx sn q)))))) (a + 3) (.inl (.long, 160, .inr (.inl (vp_updL (cd) (120 + n) (lN (cN tx (q + rM tx sn q) (rD tx sn (q + rM tx sn q))))))))) (cN tx (q + rM tx sn q) (rD tx sn (q + rM tx sn q))) (rD tx sn (q + rM tx sn q)) (cN tx (q + rM tx sn q) (rD tx sn (q + rM tx sn q))) (rD tx sn (q + rM tx sn q)) hX10 hX10) rfl rfl (Nat.le_of_ble_eq_true rfl) ⟨Nat.le_of_ble_eq_true rfl, Nat.le_of_ble_eq_true rfl⟩ ⟨Nat.le_of_ble_eq_true rfl, Nat.le_of_ble_eq_true rfl⟩ ?_
                            refine x_if_ne F (tgt := 254) dM_readsCode_243 (by decide) (fun c82 => ?_) (fun c82 => ?_)
                            · skip
                              have c82 : (mbg (cN tx (q + rM tx sn q) (rD tx sn (q + rM tx sn q))) (rD tx sn (q + rM tx sn q)) (cN tx (q + rM tx sn q) (rD tx sn (q + rM tx sn q))) (rD tx sn (q + rM tx sn q))) = true := bI_1 c82
                              have hla := mUp_la (by omega) hup
                              have hbad : mBad ds xs dg n (rM tx sn q) (cN tx (q + rM tx sn q) (rD tx sn (q + rM tx sn q))) (rD tx sn (q + rM tx sn q)) = false := by rw [mBad, if_neg (by omega), hla]; rw [mbg_self] at c82; cases c82
                              refine x_iload_n F 5 dM_readsCode_254 rfl rfl ?_
                              refine x_if_eq F (tgt := 288) dM_readsCode_255 (by decide) (fun c83 => ?_) (fun c83 => ?_)
                              · skip
                                have c83 : n = 0 := by
                                  exact (nI_eq (a := n) (b := 0) (by omega) (by omega)).mp c83
                                have hbeh : mBeh xs dg n (cN tx (q + rM tx sn q) (rD tx sn (q + rM tx sn q))) (rD tx sn (q + rM tx sn q)) = true := by rw [c83]; rfl
                                refine x_iconst F (v := nI (1)) dM_readsCode_288 (by decide) ?_
                                refine x_goto F (tgt := 293) dM_readsCode_289 (by decide) ?_
                                exact x_zret F hr (by rfl) dM_readsCode_293 (by rw [show mrc tx sn ds xs dg n q = none from by rw [mrc, if_neg (fun z => c1 z.1), if_neg h70, if_neg c60, if_neg (by omega), if_neg c62, if_neg (by omega), if_neg c65, if_neg (by rw [hbad]; decide), if_neg (by rw [hbeh]; decide)]]; exact ⟨rfl, fun b hb => (x_up_n (by omega)).trans ((x_up_n (by omega)).trans (rfl)), rfl, ⟨(x_up_k (x_up_k h0 (by omega)) (by omega)), (x_up_k (x_up_k h1 (by omega)) (by omega)), (x_up_k (x_up_k h2 (by omega)) (by omega)), x_up_s, (x_up_k x_up_s (by omega)), (x_up_k (x_up_k h5 (by omega)) (by omega)), (x_up_k (x_up_k h6 (by omega)) (by omega)), (x_up_k (x_up_k h7 (by omega)) (by omega)), (x_up_k (x_up_k h8 (by omega)) (by omega)), (x_up_k (x_up_k h9 (by omega)) (by omega)), (x_up_k (x_up_k h10 (by omega)) (by omega)), (x_up_k (x_up_k h11 (by omega)) (by omega)), (x_up_k (x_up_k h12 (by omega)) (by omega)), (x_up_k (x_up_k h13 (by omega)) (by omega)), (x_up_k (x_up_k h14 (by omega)) (by omega)), (x_up_k (x_up_k h15 (by omega)) (by omega)), (x_up_k (x_up_k h16 (by omega)) (by omega)), (x_up_k (x_up_k h17 (by omega)) (by omega)), (x_up_k (x_up_k h18 (by omega)) (by omega)), by omega, by omega, by omega, by omega, by omega, by omega⟩⟩)
                              · skip
                                have c83 : n ≠ 0 := by
                                  have z : ¬ (n = 0) := fun zz => c83 ((nI_eq (a := n) (b := 0) (by omega) (by omega)).mpr zz)
                                  omega
                                obtain ⟨n0, hn1⟩ : ∃ n0, n = n0 + 1 := ⟨n - 1, by omega⟩
                                refine x_aload_n F 6 dM_readsCode_258 rfl rfl ?_
                                refine x_get (ci := 6) F 7 (x_in inM) rfl (by decide) (x_m kfM_20) dM_readsCode_259 (x_up_k (x_up_k h0 (by omega)) (by omega)) rfl ?_
                                refine x_iload_n F 4 dM_readsCode_262 rfl rfl ?_
                                refine x_lald F dM_readsCode_263 x_up_s (pk_in (120 + n) (160) (by omega)) ?_
                                refine xW.tol (lN (cN tx (q + rM tx sn q) (rD tx sn (q + rM tx sn q)))) (by rw [nI_clamp (by omega)]; exact vp_us) ?_
                                refine x_aload_n F 6 dM_readsCode_264 rfl rfl ?_
                                refine x_get (ci := 6) F 7 (x_in inM) rfl (by decide) (x_m kfM_20) dM_readsCode_265 (x_up_k (x_up_k h0 (by omega)) (by omega)) rfl ?_
                                refine x_iload_n F 4 dM_readsCode_268 rfl rfl ?_
                                refine x_iconst F (v := nI (1)) dM_readsCode_269 (by decide) ?_
                                refine x_isub F dM_readsCode_270 ?_
                                refine xW.toi (nI (120 + n0)) (by rw [hn1]; exact nI_pred (120 + n0)) ?_
                                refine x_lald F dM_readsCode_271 x_up_s (pk_in (120 + n0) (160) (by omega)) ?_
                                refine xW.tol (lN (xs n0)) (by rw [nI_clamp (by omega)]; exact (updL_ne (by omega)).trans (hcd n0 (by omega)).1) ?_
                                refine yS (n := 2) (As := [.long (lN (cN tx (q + rM tx sn q) (rD tx sn (q + rM tx sn q)))), .long (lN (xs n0))]) F kmM_126 ktM_isBehind knM kcM_isBehind (by decide +kernel) dM_readsCode_272 (cM_isBehind l (nx) (x_up (x_up M (a + 4) (.inl (.int, 160, .inl (upd (ds) (120 + n) (nI (rM tx sn q)))))) (a + 3) (.inl (.long, 160, .inr (.inl (vp_updL (cd) (120 + n) (lN (cN tx (q + rM tx sn q) (rD tx sn (q + rM tx sn q))))))))) (cN tx (q + rM tx sn q) (rD tx sn (q + rM tx sn q))) (rD tx sn (q + rM tx sn q)) (xs n0) (dg n0) hX10 (hcd n0 (by omega)).2) rfl rfl (Nat.le_of_ble_eq_true rfl) ⟨Nat.le_of_ble_eq_true rfl, Nat.le_of_ble_eq_true rfl⟩ ⟨Nat.le_of_ble_eq_true rfl, Nat.le_of_ble_eq_true rfl⟩ ?_
                                refine x_if_ne F (tgt := 288) dM_readsCode_275 (by decide) (fun c84 => ?_) (fun c84 => ?_)
                                · skip
                                  have c84 : (mbh (cN tx (q + rM tx sn q) (rD tx sn (q + rM tx sn q))) (rD tx sn (q + rM tx sn q)) (xs n0) (dg n0)) = true := bI_1 c84
                                  have hbeh : mBeh xs dg n (cN tx (q + rM tx sn q) (rD tx sn (q + rM tx sn q))) (rD tx sn (q + rM tx sn q)) = true := by rw [hn1]; exact c84
                                  refine x_iconst F (v := nI (1)) dM_readsCode_288 (by decide) ?_
                                  refine x_goto F (tgt := 293) dM_readsCode_289 (by decide) ?_
                                  exact x_zret F hr (by rfl) dM_readsCode_293 (by rw [show mrc tx sn ds xs dg n q = none from by rw [mrc, if_neg (fun z => c1 z.1), if_neg h70, if_neg c60, if_neg (by omega), if_neg c62, if_neg (by omega), if_neg c65, if_neg (by rw [hbad]; decide), if_neg (by rw [hbeh]; decide)]]; exact ⟨rfl, fun b hb => (x_up_n (by omega)).trans ((x_up_n (by omega)).trans (rfl)), rfl, ⟨(x_up_k (x_up_k h0 (by omega)) (by omega)), (x_up_k (x_up_k h1 (by omega)) (by omega)), (x_up_k (x_up_k h2 (by omega)) (by omega)), x_up_s, (x_up_k x_up_s (by omega)), (x_up_k (x_up_k h5 (by omega)) (by omega)), (x_up_k (x_up_k h6 (by omega)) (by omega)), (x_up_k (x_up_k h7 (by omega)) (by omega)), (x_up_k (x_up_k h8 (by omega)) (by omega)), (x_up_k (x_up_k h9 (by omega)) (by omega)), (x_up_k (x_up_k h10 (by omega)) (by omega)), (x_up_k (x_up_k h11 (by omega)) (by omega)), (x_up_k (x_up_k h12 (by omega)) (by omega)), (x_up_k (x_up_k h13 (by omega)) (by omega)), (x_up_k (x_up_k h14 (by omega)) (by omega)), (x_up_k (x_up_k h15 (by omega)) (by omega)), (x_up_k (x_up_k h16 (by omega)) (by omega)), (x_up_k (x_up_k h17 (by omega)) (by omega)), (x_up_k (x_up_k h18 (by omega)) (by omega)), by omega, by omega, by omega, by omega, by omega, by omega⟩⟩)
                                · skip
                                  have c84 : (mbh (cN tx (q + rM tx sn q) (rD tx sn (q + rM tx sn q))) (rD tx sn (q + rM tx sn q)) (xs n0) (dg n0)) = false := bI_0 c84
                                  have hbeh : mBeh xs dg n (cN tx (q + rM tx sn q) (rD tx sn (q + rM tx sn q))) (rD tx sn (q + rM tx sn q)) = false := by rw [hn1]; exact c84
                                  refine x_aload_n F 6 dM_readsCode_278 rfl rfl ?_
                                  refine x_iconst F (v := nI (4)) dM_readsCode_279 (by decide) ?_
                                  refine x_iload F 2 dM_readsCode_280 rfl ?_
                                  refine yVr (n := 2) (As := [.int (nI (4)), .int (nI (q + rM tx sn q))]) (ci := 6) F kmM_115 kiM_fails ksM_fails knM kcM_fails (by decide +kernel) dM_readsCode_282 (cM_fails l (nx) (x_up (x_up M (a + 4) (.inl (.int, 160, .inl (upd (ds) (120 + n) (nI (rM tx sn q)))))) (a + 3) (.inl (.long, 160, .inr (.inl (vp_updL (cd) (120 + n) (lN (cN tx (q + rM tx sn q) (rD tx sn (q + rM tx sn q))))))))) (a) th sg sn pr fk fp rws (vp_updL (cd) (120 + n) (lN (cN tx (q + rM tx sn q) (rD tx sn (q + rM tx sn q))))) (upd (ds) (120 + n) (nI (rM tx sn q))) wc wd nn nE nC nK nO ln lF lC lT lO fn fC fP ak ac pt ⟨(x_up_k (x_up_k h0 (by omega)) (by omega)), (x_up_k (x_up_k h1 (by omega)) (by omega)), (x_up_k (x_up_k h2 (by omega)) (by omega)), x_up_s, (x_up_k x_up_s (by omega)), (x_up_k (x_up_k h5 (by omega)) (by omega)), (x_up_k (x_up_k h6 (by omega)) (by omega)), (x_up_k (x_up_k h7 (by omega)) (by omega)), (x_up_k (x_up_k h8 (by omega)) (by omega)), (x_up_k (x_up_k h9 (by omega)) (by omega)), (x_up_k (x_up_k h10 (by omega)) (by omega)), (x_up_k (x_up_k h11 (by omega)) (by omega)), (x_up_k (x_up_k h12 (by omega)) (by omega)), (x_up_k (x_up_k h13 (by omega)) (by omega)), (x_up_k (x_up_k h14 (by omega)) (by omega)), (x_up_k (x_up_k h15 (by omega)) (by omega)), (x_up_k (x_up_k h16 (by omega)) (by omega)), (x_up_k (x_up_k h17 (by omega)) (by omega)), (x_up_k (x_up_k h18 (by omega)) (by omega)), by omega, by omega, by omega, by omega, by omega, by omega⟩ (nI (4)) (nI (q + rM tx sn q))) rfl (x_up_k (x_up_k h0 (by omega)) (by omega)) rfl rfl (Nat.le_of_ble_eq_true rfl) ⟨Nat.le_of_ble_eq_true rfl, Nat.le_of_ble_eq_true rfl⟩ ⟨Nat.le_of_ble_eq_true rfl, Nat.le_of_ble_eq_true rfl⟩ (fun r' n' M549 hp => ?_)
                                  obtain ⟨hr', hn', hM549, hf549⟩ := hp
                                  rw [hn', hr']
                                  obtain ⟨v549_0, v549_1, v549_2, v549_3, v549_4, v549_5, v549_6, v549_7, v549_8, v549_9, v549_10, v549_11, v549_12, v549_13, v549_14, v549_15, v549_16, v549_17, v549_18, vb549_0, vb549_1, vb549_2, vb549_3, vb549_4, vb549_5⟩ := id hM549
                                  show xW p l e ({ frames := 4, cells := 0, slots := 0, locals := 96 } : Room) s m args below meth c D xcl (x_A M nx) 8 (MQ below (x_Q D xcl (x_A M nx) (mcPost nx M a th sg sn pr fk fp rws cd ds wc wd nn nE nC nK nO ln lF lC lT lO fn fC fP ak ac pt n (rM tx sn q) (cN tx (q + rM tx sn q) (rD tx sn (q + rM tx sn q))) (mrc tx sn ds xs dg n q))) args s 0 0 (x_A M nx)) 0 0 (nx) M549 285 [(7, .int ((-1))), (6, .int (nI (rD tx sn (q + rM tx sn q)))), (5, .int (nI (q + rM tx sn q))), (4, .int (nI (rM tx sn q))), (3, .int (nI (120 + n))), (2, .int (nI (n))), (0, .ref (a)), (1, .int (nI (q)))] [.int (nI (0))]
                                  refine x_if_eq F (tgt := 292) dM_readsCode_285 (by decide) (fun c85 => ?_) (fun c85 => ?_)
                                  · skip
                                    have c85 : 0 = 0 := by
                                      exact (nI_eq (a := 0) (b := 0) (by omega) (by omega)).mp c85
                                    refine x_iconst F (v := nI (0)) dM_readsCode_292 (by decide) ?_
                                    exact x_zret F hr (by rfl) dM_readsCode_293 (by rw [show mrc tx sn ds xs dg n q = some (4, q + rM tx sn q) from by rw [mrc, if_neg (fun z => c1 z.1), if_neg h70, if_neg c60, if_neg (by omega), if_neg c62, if_neg (by omega), if_neg c65, if_neg (by rw [hbad]; decide), if_pos hbeh]]; exact ⟨rfl, fun b hb => (hf549 _ (by omega)).trans ((x_up_n (by omega)).trans ((x_up_n (by omega)).trans (rfl))), rfl, _, _, (fun i hi => ⟨updL_ne (by omega), upd_ne (by omega)⟩), hM549⟩)
                                  · skip
                                    have c85 : 0 ≠ 0 := by
                                      have z : ¬ (0 = 0) := fun zz => c85 ((nI_eq (a := 0) (b := 0) (by omega) (by omega)).mpr zz)
                                      omega
                                    exact absurd c85 (by decide)
                            · skip
                              have c82 : (mbg (cN tx (q + rM tx sn q) (rD tx sn (q + rM tx sn q))) (rD tx sn (q + rM tx sn q)) (cN tx (q + rM tx sn q) (rD tx sn (q + rM tx sn q))) (rD tx sn (q + rM tx sn q))) = false := bI_0 c82
                              have hla := mUp_la (by omega) hup
                              have hbad : mBad ds xs dg n (rM tx sn q) (cN tx (q + rM tx sn q) (rD tx sn (q + rM tx sn q))) (rD tx sn (q + rM tx sn q)) = true := by rw [mBad, if_neg (by omega), hla]
                              refine x_aload_n F 6 dM_readsCode_246 rfl rfl ?_
                              refine x_iconst F (v := nI (3)) dM_readsCode_247 (by decide) ?_
                              refine x_iload F 2 dM_readsCode_248 rfl ?_
                              refine yVr (n := 2) (As := [.int (nI (3)), .int (nI (q + rM tx sn q))]) (ci := 6) F kmM_115 kiM_fails ksM_fails knM kcM_fails (by decide +kernel) dM_readsCode_250 (cM_fails l (nx) (x_up (x_up M (a + 4) (.inl (.int, 160, .inl (upd (ds) (120 + n) (nI (rM tx sn q)))))) (a + 3) (.inl (.long, 160, .inr (.inl (vp_updL (cd) (120 + n) (lN (cN tx (q + rM tx sn q) (rD tx sn (q + rM tx sn q))))))))) (a) th sg sn pr fk fp rws (vp_updL (cd) (120 + n) (lN (cN tx (q + rM tx sn q) (rD tx sn (q + rM tx sn q))))) (upd (ds) (120 + n) (nI (rM tx sn q))) wc wd nn nE nC nK nO ln lF lC lT lO fn fC fP ak ac pt ⟨(x_up_k (x_up_k h0 (by omega)) (by omega)), (x_up_k (x_up_k h1 (by omega)) (by omega)), (x_up_k (x_up_k h2 (by omega)) (by omega)), x_up_s, (x_up_k x_up_s (by omega)), (x_up_k (x_up_k h5 (by omega)) (by omega)), (x_up_k (x_up_k h6 (by omega)) (by omega)), (x_up_k (x_up_k h7 (by omega)) (by omega)), (x_up_k (x_up_k h8 (by omega)) (by omega)), (x_up_k (x_up_k h9 (by omega)) (by omega)), (x_up_k (x_up_k h10 (by omega)) (by omega)), (x_up_k (x_up_k h11 (by omega)) (by omega)), (x_up_k (x_up_k h12 (by omega)) (by omega)), (x_up_k (x_up_k h13 (by omega)) (by omega)), (x_up_k (x_up_k h14 (by omega)) (by omega)), (x_up_k (x_up_k h15 (by omega)) (by omega)), (x_up_k (x_up_k h16 (by omega)) (by omega)), (x_up_k (x_up_k h17 (by omega)) (by omega)), (x_up_k (x_up_k h18 (by omega)) (by omega)), by omega, by omega, by omega, by omega, by omega, by omega⟩ (nI (3)) (nI (q + rM tx sn q))) rfl (x_up_k (x_up_k h0 (by omega)) (by omega)) rfl rfl (Nat.le_of_ble_eq_true rfl) ⟨Nat.le_of_ble_eq_true rfl, Nat.le_of_ble_eq_true rfl⟩ ⟨Nat.le_of_ble_eq_true rfl, Nat.le_of_ble_eq_true rfl⟩ (fun r' n' M550 hp => ?_)
                              obtain ⟨hr', hn', hM550, hf550⟩ := hp
                              rw [hn', hr']
                              obtain ⟨v550_0, v550_1, v550_2, v550_3, v550_4, v550_5, v550_6, v550_7, v550_8, v550_9, v550_10, v550_11, v550_12, v550_13, v550_14, v550_15, v550_16, v550_17, v550_18, vb550_0, vb550_1, vb550_2, vb550_3, vb550_4, vb550_5⟩ := id hM550
                              show xW p l e ({ frames := 4, cells := 0, slots := 0, locals := 96 } : Room) s m args below meth c D xcl (x_A M nx) 8 (MQ below (x_Q D xcl (x_A M nx) (mcPost nx M a th sg sn pr fk fp rws cd ds wc wd nn nE nC nK nO ln lF lC lT lO fn fC fP ak ac pt n (rM tx sn q) (cN tx (q + rM tx sn q) (rD tx sn (q + rM tx sn q))) (mrc tx sn ds xs dg n q))) args s 0 0 (x_A M nx)) 0 0 (nx) M550 253 [(7, .int ((-1))), (6, .int (nI (rD tx sn (q + rM tx sn q)))), (5, .int (nI (q + rM tx sn q))), (4, .int (nI (rM tx sn q))), (3, .int (nI (120 + n))), (2, .int (nI (n))), (0, .ref (a)), (1, .int (nI (q)))] [.int (nI (0))]
                              exact x_zret F hr (by rfl) dM_readsCode_253 (by rw [show mrc tx sn ds xs dg n q = some (3, q + rM tx sn q) from by rw [mrc, if_neg (fun z => c1 z.1), if_neg h70, if_neg c60, if_neg (by omega), if_neg c62, if_neg (by omega), if_neg c65, if_pos hbad]]; exact ⟨rfl, fun b hb => (hf550 _ (by omega)).trans ((x_up_n (by omega)).trans ((x_up_n (by omega)).trans (rfl))), rfl, _, _, (fun i hi => ⟨updL_ne (by omega), upd_ne (by omega)⟩), hM550⟩)
                  · skip
                    have hj : j < n := mUp_lt hup
                    refine xW.ste (st' := [.int (nI (120 + j))]) (by show ([.int (oj 120 (mUp (upd ds (120 + n) (nI (rM tx sn q))) 120 n))] : List Value) = _; rw [hup]; rfl) ?_
                    refine x_istore F [(7, .int (nI (120 + j))), (6, .int (nI (rD tx sn (q + rM tx sn q)))), (5, .int (nI (q + rM tx sn q))), (4, .int (nI (rM tx sn q))), (3, .int (nI (120 + n))), (2, .int (nI (n))), (0, .ref (a)), (1, .int (nI (q)))] dM_readsCode_200 (by decide) rfl ?_
                    refine x_iload F 3 dM_readsCode_202 rfl ?_
                    refine x_if_ne F (tgt := 213) dM_readsCode_204 (by decide) (fun c86 => ?_) (fun c86 => ?_)
                    · skip
                      have c86 : rM tx sn q ≠ 0 := by
                        have z : ¬ (rM tx sn q = 0) := fun zz => c86 ((nI_eq (a := rM tx sn q) (b := 0) (by omega) (by omega)).mpr zz)
                        omega
                      refine x_iload F 3 dM_readsCode_213 rfl ?_
                      refine x_if_le F (tgt := 254) dM_readsCode_215 (by decide) (fun c87 => ?_) (fun c87 => ?_)
                      · skip
                        have c87 : rM tx sn q ≤ 0 := by
                          exact (nI_leI (a := rM tx sn q) (b := 0) (by omega) (by omega)).mp c87
                        have hbad : mBad ds xs dg n (rM tx sn q) (cN tx (q + rM tx sn q) (rD tx sn (q + rM tx sn q))) (rD tx sn (q + rM tx sn q)) = false := by rw [mBad, if_pos (by omega), decide_eq_true (by omega)]; rfl
                        refine x_iload_n F 5 dM_readsCode_254 rfl rfl ?_
                        refine x_if_eq F (tgt := 288) dM_readsCode_255 (by decide) (fun c88 => ?_) (fun c88 => ?_)
                        · skip
                          have c88 : n = 0 := by
                            exact (nI_eq (a := n) (b := 0) (by omega) (by omega)).mp c88
                          have hbeh : mBeh xs dg n (cN tx (q + rM tx sn q) (rD tx sn (q + rM tx sn q))) (rD tx sn (q + rM tx sn q)) = true := by rw [c88]; rfl
                          refine x_iconst F (v := nI (1)) dM_readsCode_288 (by decide) ?_
                          refine x_goto F (tgt := 293) dM_readsCode_289 (by decide) ?_
                          exact x_zret F hr (by rfl) dM_readsCode_293 (by rw [show mrc tx sn ds xs dg n q = none from by rw [mrc, if_neg (fun z => c1 z.1), if_neg h70, if_neg c60, if_neg (by omega), if_neg c62, if_neg (by omega), if_neg c65, if_neg (by rw [hbad]; decide), if_neg (by rw [hbeh]; decide)]]; exact ⟨rfl, fun b hb => (x_up_n (by omega)).trans ((x_up_n (by omega)).trans (rfl)), rfl, ⟨(x_up_k (x_up_k h0 (by omega)) (by omega)), (x_up_k (x_up_k h1 (by omega)) (by omega)), (x_up_k (x_up_k h2 (by omega)) (by omega)), x_up_s, (x_up_k x_up_s (by omega)), (x_up_k (x_up_k h5 (by omega)) (by omega)), (x_up_k (x_up_k h6 (by omega)) (by omega)), (x_up_k (x_up_k h7 (by omega)) (by omega)), (x_up_k (x_up_k h8 (by omega)) (by omega)), (x_up_k (x_up_k h9 (by omega)) (by omega)), (x_up_k (x_up_k h10 (by omega)) (by omega)), (x_up_k (x_up_k h11 (by omega)) (by omega)), (x_up_k (x_up_k h12 (by omega)) (by omega)), (x_up_k (x_up_k h13 (by omega)) (by omega)), (x_up_k (x_up_k h14 (by omega)) (by omega)), (x_up_k (x_up_k h15 (by omega)) (by omega)), (x_up_k (x_up_k h16 (by omega)) (by omega)), (x_up_k (x_up_k h17 (by omega)) (by omega)), (x_up_k (x_up_k h18 (by omega)) (by omega)), by omega, by omega, by omega, by omega, by omega, by omega⟩⟩)
                        · skip
                          have c88 : n ≠ 0 := by
                            have z : ¬ (n = 0) := fun zz => c88 ((nI_eq (a := n) (b := 0) (by omega) (by omega)).mpr zz)
                            omega
                          obtain ⟨n0, hn1⟩ : ∃ n0, n = n0 + 1 := ⟨n - 1, by omega⟩
                          refine x_aload_n F 6 dM_readsCode_258 rfl rfl ?_
                          refine x_get (ci := 6) F 7 (x_in inM) rfl (by decide) (x_m kfM_20) dM_readsCode_259 (x_up_k (x_up_k h0 (by omega)) (by omega)) rfl ?_
                          refine x_iload_n F 4 dM_readsCode_262 rfl rfl ?_
                          refine x_lald F dM_readsCode_263 x_up_s (pk_in (120 + n) (160) (by omega)) ?_
                          refine xW.tol (lN (cN tx (q + rM tx sn q) (rD tx sn (q + rM tx sn q)))) (by rw [nI_clamp (by omega)]; exact vp_us) ?_
                          refine x_aload_n F 6 dM_readsCode_264 rfl rfl ?_
                          refine x_get (ci := 6) F 7 (x_in inM) rfl (by decide) (x_m kfM_20) dM_readsCode_265 (x_up_k (x_up_k h0 (by omega)) (by omega)) rfl ?_
                          refine x_iload_n F 4 dM_readsCode_268 rfl rfl ?_
                          refine x_iconst F (v := nI (1)) dM_readsCode_269 (by decide) ?_
                          refine x_isub F dM_readsCode_270 ?_
                          refine xW.toi (nI (120 + n0)) (by rw [hn1]; exact nI_pred (120 + n0)) ?_
                          refine x_lald F dM_readsCode_271 x_up_s (pk_in (120 + n0) (160) (by omega)) ?_
                          refine xW.tol (lN (xs n0)) (by rw [nI_clamp (by omega)]; exact (updL_ne (by omega)).trans (hcd n0 (by omega)).1) ?_
                          refine yS (n := 2) (As := [.long (lN (cN tx (q + rM tx sn q) (rD tx sn (q + rM tx sn q)))), .long (lN (xs n0))]) F kmM_126 ktM_isBehind knM kcM_isBehind (by decide +kernel) dM_readsCode_272 (cM_isBehind l (nx) (x_up (x_up M (a + 4) (.inl (.int, 160, .inl (upd (ds) (120 + n) (nI (rM tx sn q)))))) (a + 3) (.inl (.long, 160, .inr (.inl (vp_updL (cd) (120 + n) (lN (cN tx (q + rM tx sn q) (rD tx sn (q + rM tx sn q))))))))) (cN tx (q + rM tx sn q) (rD tx sn (q + rM tx sn q))) (rD tx sn (q + rM tx sn q)) (xs n0) (dg n0) hX10 (hcd n0 (by omega)).2) rfl rfl (Nat.le_of_ble_eq_true rfl) ⟨Nat.le_of_ble_eq_true rfl, Nat.le_of_ble_eq_true rfl⟩ ⟨Nat.le_of_ble_eq_true rfl, Nat.le_of_ble_eq_true rfl⟩ ?_
                          refine x_if_ne F (tgt := 288) dM_readsCode_275 (by decide) (fun c89 => ?_) (fun c89 => ?_)
                          · skip
                            have c89 : (mbh (cN tx (q + rM tx sn q) (rD tx sn (q + rM tx sn q))) (rD tx sn (q + rM tx sn q)) (xs n0) (dg n0)) = true := bI_1 c89
                            have hbeh : mBeh xs dg n (cN tx (q + rM tx sn q) (rD tx sn (q + rM tx sn q))) (rD tx sn (q + rM tx sn q)) = true := by rw [hn1]; exact c89
                            refine x_iconst F (v := nI (1)) dM_readsCode_288 (by decide) ?_
                            refine x_goto F (tgt := 293) dM_readsCode_289 (by decide) ?_
                            exact x_zret F hr (by rfl) dM_readsCode_293 (by rw [show mrc tx sn ds xs dg n q = none from by rw [mrc, if_neg (fun z => c1 z.1), if_neg h70, if_neg c60, if_neg (by omega), if_neg c62, if_neg (by omega), if_neg c65, if_neg (by rw [hbad]; decide), if_neg (by rw [hbeh]; decide)]]; exact ⟨rfl, fun b hb => (x_up_n (by omega)).trans ((x_up_n (by omega)).trans (rfl)), rfl, ⟨(x_up_k (x_up_k h0 (by omega)) (by omega)), (x_up_k (x_up_k h1 (by omega)) (by omega)), (x_up_k (x_up_k h2 (by omega)) (by omega)), x_up_s, (x_up_k x_up_s (by omega)), (x_up_k (x_up_k h5 (by omega)) (by omega)), (x_up_k (x_up_k h6 (by omega)) (by omega)), (x_up_k (x_up_k h7 (by omega)) (by omega)), (x_up_k (x_up_k h8 (by omega)) (by omega)), (x_up_k (x_up_k h9 (by omega)) (by omega)), (x_up_k (x_up_k h10 (by omega)) (by omega)), (x_up_k (x_up_k h11 (by omega)) (by omega)), (x_up_k (x_up_k h12 (by omega)) (by omega)), (x_up_k (x_up_k h13 (by omega)) (by omega)), (x_up_k (x_up_k h14 (by omega)) (by omega)), (x_up_k (x_up_k h15 (by omega)) (by omega)), (x_up_k (x_up_k h16 (by omega)) (by omega)), (x_up_k (x_up_k h17 (by omega)) (by omega)), (x_up_k (x_up_k h18 (by omega)) (by omega)), by omega, by omega, by omega, by omega, by omega, by omega⟩⟩)
                          · skip
                            have c89 : (mbh (cN tx (q + rM tx sn q) (rD tx sn (q + rM tx sn q))) (rD tx sn (q + rM tx sn q)) (xs n0) (dg n0)) = false := bI_0 c89
                            have hbeh : mBeh xs dg n (cN tx (q + rM tx sn q) (rD tx sn (q + rM tx sn q))) (rD tx sn (q + rM tx sn q)) = false := by rw [hn1]; exact c89
                            refine x_aload_n F 6 dM_readsCode_278 rfl rfl ?_
                            refine x_iconst F (v := nI (4)) dM_readsCode_279 (by decide) ?_
                            refine x_iload F 2 dM_readsCode_280 rfl ?_
                            refine yVr (n := 2) (As := [.int (nI (4)), .int (nI (q + rM tx sn q))]) (ci := 6) F kmM_115 kiM_fails ksM_fails knM kcM_fails (by decide +kernel) dM_readsCode_282 (cM_fails l (nx) (x_up (x_up M (a + 4) (.inl (.int, 160, .inl (upd (ds) (120 + n) (nI (rM tx sn q)))))) (a + 3) (.inl (.long, 160, .inr (.inl (vp_updL (cd) (120 + n) (lN (cN tx (q + rM tx sn q) (rD tx sn (q + rM tx sn q))))))))) (a) th sg sn pr fk fp rws (vp_updL (cd) (120 + n) (lN (cN tx (q + rM tx sn q) (rD tx sn (q + rM tx sn q))))) (upd (ds) (120 + n) (nI (rM tx sn q))) wc wd nn nE nC nK nO ln lF lC lT lO fn fC fP ak ac pt ⟨(x_up_k (x_up_k h0 (by omega)) (by omega)), (x_up_k (x_up_k h1 (by omega)) (by omega)), (x_up_k (x_up_k h2 (by omega)) (by omega)), x_up_s, (x_up_k x_up_s (by omega)), (x_up_k (x_up_k h5 (by omega)) (by omega)), (x_up_k (x_up_k h6 (by omega)) (by omega)), (x_up_k (x_up_k h7 (by omega)) (by omega)), (x_up_k (x_up_k h8 (by omega)) (by omega)), (x_up_k (x_up_k h9 (by omega)) (by omega)), (x_up_k (x_up_k h10 (by omega)) (by omega)), (x_up_k (x_up_k h11 (by omega)) (by omega)), (x_up_k (x_up_k h12 (by omega)) (by omega)), (x_up_k (x_up_k h13 (by omega)) (by omega)), (x_up_k (x_up_k h14 (by omega)) (by omega)), (x_up_k (x_up_k h15 (by omega)) (by omega)), (x_up_k (x_up_k h16 (by omega)) (by omega)), (x_up_k (x_up_k h17 (by omega)) (by omega)), (x_up_k (x_up_k h18 (by omega)) (by omega)), by omega, by omega, by omega, by omega, by omega, by omega⟩ (nI (4)) (nI (q + rM tx sn q))) rfl (x_up_k (x_up_k h0 (by omega)) (by omega)) rfl rfl (Nat.le_of_ble_eq_true rfl) ⟨Nat.le_of_ble_eq_true rfl, Nat.le_of_ble_eq_true rfl⟩ ⟨Nat.le_of_ble_eq_true rfl, Nat.le_of_ble_eq_true rfl⟩ (fun r' n' M551 hp => ?_)
                            obtain ⟨hr', hn', hM551, hf551⟩ := hp
                            rw [hn', hr']
                            obtain ⟨v551_0, v551_1, v551_2, v551_3, v551_4, v551_5, v551_6, v551_7, v551_8, v551_9, v551_10, v551_11, v551_12, v551_13, v551_14, v551_15, v551_16, v551_17, v551_18, vb551_0, vb551_1, vb551_2, vb551_3, vb551_4, vb551_5⟩ := id hM551
                            show xW p l e ({ frames := 4, cells := 0, slots := 0, locals := 96 } : Room) s m args below meth c D xcl (x_A M nx) 8 (MQ below (x_Q D xcl (x_A M nx) (mcPost nx M a th sg sn pr fk fp rws cd ds wc wd nn nE nC nK nO ln lF lC lT lO fn fC fP ak ac pt n (rM tx sn q) (cN tx (q + rM tx sn q) (rD tx sn (q + rM tx sn q))) (mrc tx sn ds xs dg n q))) args s 0 0 (x_A M nx)) 0 0 (nx) M551 285 [(7, .int (nI (120 + j))), (6, .int (nI (rD tx sn (q + rM tx sn q)))), (5, .int (nI (q + rM tx sn q))), (4, .int (nI (rM tx sn q))), (3, .int (nI (120 + n))), (2, .int (nI (n))), (0, .ref (a)), (1, .int (nI (q)))] [.int (nI (0))]
                            refine x_if_eq F (tgt := 292) dM_readsCode_285 (by decide) (fun c90 => ?_) (fun c90 => ?_)
                            · skip
                              have c90 : 0 = 0 := by
                                exact (nI_eq (a := 0) (b := 0) (by omega) (by omega)).mp c90
                              refine x_iconst F (v := nI (0)) dM_readsCode_292 (by decide) ?_
                              exact x_zret F hr (by rfl) dM_readsCode_293 (by rw [show mrc tx sn ds xs dg n q = some (4, q + rM tx sn q) from by rw [mrc, if_neg (fun z => c1 z.1), if_neg h70, if_neg c60, if_neg (by omega), if_neg c62, if_neg (by omega), if_neg c65, if_neg (by rw [hbad]; decide), if_pos hbeh]]; exact ⟨rfl, fun b hb => (hf551 _ (by omega)).trans ((x_up_n (by omega)).trans ((x_up_n (by omega)).trans (rfl))), rfl, _, _, (fun i hi => ⟨updL_ne (by omega), upd_ne (by omega)⟩), hM551⟩)
                            · skip
                              have c90 : 0 ≠ 0 := by
                                have z : ¬ (0 = 0) := fun zz => c90 ((nI_eq (a := 0) (b := 0) (by omega) (by omega)).mpr zz)
                                omega
                              exact absurd c90 (by decide)
                      · skip
                        have c87 : 0 < rM tx sn q := by
                          have z : ¬ (rM tx sn q ≤ 0) := fun zz => c87 ((nI_leI (a := rM tx sn q) (b := 0) (by omega) (by omega)).mpr zz)
                          omega
                        refine x_aload_n F 6 dM_readsCode_218 rfl rfl ?_
                        refine x_get (ci := 6) F 7 (x_in inM) rfl (by decide) (x_m kfM_20) dM_readsCode_219 (x_up_k (x_up_k h0 (by omega)) (by omega)) rfl ?_
                        refine x_iload_n F 4 dM_readsCode_222 rfl rfl ?_
                        refine x_lald F dM_readsCode_223 x_up_s (pk_in (120 + n) (160) (by omega)) ?_
                        refine xW.tol (lN (cN tx (q + rM tx sn q) (rD tx sn (q + rM tx sn q)))) (by rw [nI_clamp (by omega)]; exact vp_us) ?_
                        refine x_aload_n F 6 dM_readsCode_224 rfl rfl ?_
                        refine x_get (ci := 6) F 7 (x_in inM) rfl (by decide) (x_m kfM_20) dM_readsCode_225 (x_up_k (x_up_k h0 (by omega)) (by omega)) rfl ?_
                        refine x_iload F 0 dM_readsCode_228 rfl ?_
                        refine x_if_ge F (tgt := 237) dM_readsCode_230 (by decide) (fun c91 => ?_) (fun c91 => ?_)
                        · skip
                          have c91 : 0 ≤ 120 + j := by
                            exact (nI_leI (a := 0) (b := 120 + j) (by omega) (by omega)).mp c91
                          refine x_iload F 0 dM_readsCode_237 rfl ?_
                          refine x_lald F dM_readsCode_239 x_up_s (pk_in (120 + j) (160) (by omega)) ?_
                          refine xW.tol (lN (xs j)) (by rw [nI_clamp (by omega)]; exact (updL_ne (by omega)).trans (hcd j hj).1) ?_
                          refine yS (n := 2) (As := [.long (lN (cN tx (q + rM tx sn q) (rD tx sn (q + rM tx sn q)))), .long (lN (xs j))]) F kmM_107 ktM_begins knM kcM_begins (by decide +kernel) dM_readsCode_240 (cM_begins l (nx) (x_up (x_up M (a + 4) (.inl (.int, 160, .inl (upd (ds) (120 + n) (nI (rM tx sn q)))))) (a + 3) (.inl (.long, 160, .inr (.inl (vp_updL (cd) (120 + n) (lN (cN tx (q + rM tx sn q) (rD tx sn (q + rM tx sn q))))))))) (cN tx (q + rM tx sn q) (rD tx sn (q + rM tx sn q))) (rD tx sn (q + rM tx sn q)) (xs j) (dg j) hX10 (hcd j hj).2) rfl rfl (Nat.le_of_ble_eq_true rfl) ⟨Nat.le_of_ble_eq_true rfl, Nat.le_of_ble_eq_true rfl⟩ ⟨Nat.le_of_ble_eq_true rfl, Nat.le_of_ble_eq_true rfl⟩ ?_
                          refine x_if_ne F (tgt := 254) dM_readsCode_243 (by decide) (fun c92 => ?_) (fun c92 => ?_)
                          · skip
                            have c92 : (mbg (cN tx (q + rM tx sn q) (rD tx sn (q + rM tx sn q))) (rD tx sn (q + rM tx sn q)) (xs j) (dg j)) = true := bI_1 c92
                            have hla := mUp_la (by omega) hup
                            have hbad : mBad ds xs dg n (rM tx sn q) (cN tx (q + rM tx sn q) (rD tx sn (q + rM tx sn q))) (rD tx sn (q + rM tx sn q)) = false := by rw [mBad, if_neg (by omega), hla]; show (! mbg (cN tx (q + rM tx sn q) (rD tx sn (q + rM tx sn q))) (rD tx sn (q + rM tx sn q)) (xs j) (dg j)) = false; rw [c92]; rfl
                            refine x_iload_n F 5 dM_readsCode_254 rfl rfl ?_
                            refine x_if_eq F (tgt := 288) dM_readsCode_255 (by decide) (fun c93 => ?_) (fun c93 => ?_)
                            · skip
                              have c93 : n = 0 := by
                                exact (nI_eq (a := n) (b := 0) (by omega) (by omega)).mp c93
                              have hbeh : mBeh xs dg n (cN tx (q + rM tx sn q) (rD tx sn (q + rM tx sn q))) (rD tx sn (q + rM tx sn q)) = true := by rw [c93]; rfl
                              refine x_iconst F (v := nI (1)) dM_readsCode_288 (by decide) ?_
                              refine x_goto F (tgt := 293) dM_readsCode_289 (by decide) ?_
                              exact x_zret F hr (by rfl) dM_readsCode_293 (by rw [show mrc tx sn ds xs dg n q = none from by rw [mrc, if_neg (fun z => c1 z.1), if_neg h70, if_neg c60, if_neg (by omega), if_neg c62, if_neg (by omega), if_neg c65, if_neg (by rw [hbad]; decide), if_neg (by rw [hbeh]; decide)]]; exact ⟨rfl, fun b hb => (x_up_n (by omega)).trans ((x_up_n (by omega)).trans (rfl)), rfl, ⟨(x_up_k (x_up_k h0 (by omega)) (by omega)), (x_up_k (x_up_k h1 (by omega)) (by omega)), (x_up_k (x_up_k h2 (by omega)) (by omega)), x_up_s, (x_up_k x_up_s (by omega)), (x_up_k (x_up_k h5 (by omega)) (by omega)), (x_up_k (x_up_k h6 (by omega)) (by omega)), (x_up_k (x_up_k h7 (by omega)) (by omega)), (x_up_k (x_up_k h8 (by omega)) (by omega)), (x_up_k (x_up_k h9 (by omega)) (by omega)), (x_up_k (x_up_k h10 (by omega)) (by omega)), (x_up_k (x_up_k h11 (by omega)) (by omega)), (x_up_k (x_up_k h12 (by omega)) (by omega)), (x_up_k (x_up_k h13 (by omega)) (by omega)), (x_up_k (x_up_k h14 (by omega)) (by omega)), (x_up_k (x_up_k h15 (by omega)) (by omega)), (x_up_k (x_up_k h16 (by omega)) (by omega)), (x_up_k (x_up_k h17 (by omega)) (by omega)), (x_up_k (x_up_k h18 (by omega)) (by omega)), by omega, by omega, by omega, by omega, by omega, by omega⟩⟩)
                            · skip
                              have c93 : n ≠ 0 := by
                                have z : ¬ (n = 0) := fun zz => c93 ((nI_eq (a := n) (b := 0) (by omega) (by omega)).mpr zz)
                                omega
                              obtain ⟨n0, hn1⟩ : ∃ n0, n = n0 + 1 := ⟨n - 1, by omega⟩
                              refine x_aload_n F 6 dM_readsCode_258 rfl rfl ?_
                              refine x_get (ci := 6) F 7 (x_in inM) rfl (by decide) (x_m kfM_20) dM_readsCode_259 (x_up_k (x_up_k h0 (by omega)) (by omega)) rfl ?_
                              refine x_iload_n F 4 dM_readsCode_262 rfl rfl ?_
                              refine x_lald F dM_readsCode_263 x_up_s (pk_in (120 + n) (160) (by omega)) ?_
                              refine xW.tol (lN (cN tx (q + rM tx sn q) (rD tx sn (q + rM tx sn q)))) (by rw [nI_clamp (by omega)]; exact vp_us) ?_
                              refine x_aload_n F 6 dM_readsCode_264 rfl rfl ?_
                              refine x_get (ci := 6) F 7 (x_in inM) rfl (by decide) (x_m kfM_20) dM_readsCode_265 (x_up_k (x_up_k h0 (by omega)) (by omega)) rfl ?_
                              refine x_iload_n F 4 dM_readsCode_268 rfl rfl ?_
                              refine x_iconst F (v := nI (1)) dM_readsCode_269 (by decide) ?_
                              refine x_isub F dM_readsCode_270 ?_
                              refine xW.toi (nI (120 + n0)) (by rw [hn1]; exact nI_pred (120 + n0)) ?_
                              refine x_lald F dM_readsCode_271 x_up_s (pk_in (120 + n0) (160) (by omega)) ?_
                              refine xW.tol (lN (xs n0)) (by rw [nI_clamp (by omega)]; exact (updL_ne (by omega)).trans (hcd n0 (by omega)).1) ?_
                              refine yS (n := 2) (As := [.long (lN (cN tx (q + rM tx sn q) (rD tx sn (q + rM tx sn q)))), .long (lN (xs n0))]) F kmM_126 ktM_isBehind knM kcM_isBehind (by decide +kernel) dM_readsCode_272 (cM_isBehind l (nx) (x_up (x_up M (a + 4) (.inl (.int, 160, .inl (upd (ds) (120 + n) (nI (rM tx sn q)))))) (a + 3) (.inl (.long, 160, .inr (.inl (vp_updL (cd) (120 + n) (lN (cN tx (q + rM tx sn q) (rD tx sn (q + rM tx sn q))))))))) (cN tx (q + rM tx sn q) (rD tx sn (q + rM tx sn q))) (rD tx sn (q + rM tx sn q)) (xs n0) (dg n0) hX10 (hcd n0 (by omega)).2) rfl rfl (Nat.le_of_ble_eq_true rfl) ⟨Nat.le_of_ble_eq_true rfl, Nat.le_of_ble_eq_true rfl⟩ ⟨Nat.le_of_ble_eq_true rfl, Nat.le_of_ble_eq_true rfl⟩ ?_
                              refine x_if_ne F (tgt := 288) dM_readsCode_275 (by decide) (fun c94 => ?_) (fun c94 => ?_)
                              · skip
                                have c94 : (mbh (cN tx (q + rM tx sn q) (rD tx sn (q + rM tx sn q))) (rD tx sn (q + rM tx sn q)) (xs n0) (dg n0)) = true := bI_1 c94
                                have hbeh : mBeh xs dg n (cN tx (q + rM tx sn q) (rD tx sn (q + rM tx sn q))) (rD tx sn (q + rM tx sn q)) = true := by rw [hn1]; exact c94
                                refine x_iconst F (v := nI (1)) dM_readsCode_288 (by decide) ?_
                                refine x_goto F (tgt := 293) dM_readsCode_289 (by decide) ?_
                                exact x_zret F hr (by rfl) dM_readsCode_293 (by rw [show mrc tx sn ds xs dg n q = none from by rw [mrc, if_neg (fun z => c1 z.1), if_neg h70, if_neg c60, if_neg (by omega), if_neg c62, if_neg (by omega), if_neg c65, if_neg (by rw [hbad]; decide), if_neg (by rw [hbeh]; decide)]]; exact ⟨rfl, fun b hb => (x_up_n (by omega)).trans ((x_up_n (by omega)).trans (rfl)), rfl, ⟨(x_up_k (x_up_k h0 (by omega)) (by omega)), (x_up_k (x_up_k h1 (by omega)) (by omega)), (x_up_k (x_up_k h2 (by omega)) (by omega)), x_up_s, (x_up_k x_up_s (by omega)), (x_up_k (x_up_k h5 (by omega)) (by omega)), (x_up_k (x_up_k h6 (by omega)) (by omega)), (x_up_k (x_up_k h7 (by omega)) (by omega)), (x_up_k (x_up_k h8 (by omega)) (by omega)), (x_up_k (x_up_k h9 (by omega)) (by omega)), (x_up_k (x_up_k h10 (by omega)) (by omega)), (x_up_k (x_up_k h11 (by omega)) (by omega)), (x_up_k (x_up_k h12 (by omega)) (by omega)), (x_up_k (x_up_k h13 (by omega)) (by omega)), (x_up_k (x_up_k h14 (by omega)) (by omega)), (x_up_k (x_up_k h15 (by omega)) (by omega)), (x_up_k (x_up_k h16 (by omega)) (by omega)), (x_up_k (x_up_k h17 (by omega)) (by omega)), (x_up_k (x_up_k h18 (by omega)) (by omega)), by omega, by omega, by omega, by omega, by omega, by omega⟩⟩)
                              · skip
                                have c94 : (mbh (cN tx (q + rM tx sn q) (rD tx sn (q + rM tx sn q))) (rD tx sn (q + rM tx sn q)) (xs n0) (dg n0)) = false := bI_0 c94
                                have hbeh : mBeh xs dg n (cN tx (q + rM tx sn q) (rD tx sn (q + rM tx sn q))) (rD tx sn (q + rM tx sn q)) = false := by rw [hn1]; exact c94
                                refine x_aload_n F 6 dM_readsCode_278 rfl rfl ?_
                                refine x_iconst F (v := nI (4)) dM_readsCode_279 (by decide) ?_
                                refine x_iload F 2 dM_readsCode_280 rfl ?_
                                refine yVr (n := 2) (As := [.int (nI (4)), .int (nI (q + rM tx sn q))]) (ci := 6) F kmM_115 kiM_fails ksM_fails knM kcM_fails (by decide +kernel) dM_readsCode_282 (cM_fails l (nx) (x_up (x_up M (a + 4) (.inl (.int, 160, .inl (upd (ds) (120 + n) (nI (rM tx sn q)))))) (a + 3) (.inl (.long, 160, .inr (.inl (vp_updL (cd) (120 + n) (lN (cN tx (q + rM tx sn q) (rD tx sn (q + rM tx sn q))))))))) (a) th sg sn pr fk fp rws (vp_updL (cd) (120 + n) (lN (cN tx (q + rM tx sn q) (rD tx sn (q + rM tx sn q))))) (upd (ds) (120 + n) (nI (rM tx sn q))) wc wd nn nE nC nK nO ln lF lC lT lO fn fC fP ak ac pt ⟨(x_up_k (x_up_k h0 (by omega)) (by omega)), (x_up_k (x_up_k h1 (by omega)) (by omega)), (x_up_k (x_up_k h2 (by omega)) (by omega)), x_up_s, (x_up_k x_up_s (by omega)), (x_up_k (x_up_k h5 (by omega)) (by omega)), (x_up_k (x_up_k h6 (by omega)) (by omega)), (x_up_k (x_up_k h7 (by omega)) (by omega)), (x_up_k (x_up_k h8 (by omega)) (by omega)), (x_up_k (x_up_k h9 (by omega)) (by omega)), (x_up_k (x_up_k h10 (by omega)) (by omega)), (x_up_k (x_up_k h11 (by omega)) (by omega)), (x_up_k (x_up_k h12 (by omega)) (by omega)), (x_up_k (x_up_k h13 (by omega)) (by omega)), (x_up_k (x_up_k h14 (by omega)) (by omega)), (x_up_k (x_up_k h15 (by omega)) (by omega)), (x_up_k (x_up_k h16 (by omega)) (by omega)), (x_up_k (x_up_k h17 (by omega)) (by omega)), (x_up_k (x_up_k h18 (by omega)) (by omega)), by omega, by omega, by omega, by omega, by omega, by omega⟩ (nI (4)) (nI (q + rM tx sn q))) rfl (x_up_k (x_up_k h0 (by omega)) (by omega)) rfl rfl (Nat.le_of_ble_eq_true rfl) ⟨Nat.le_of_ble_eq_true rfl, Nat.le_of_ble_eq_true rfl⟩ ⟨Nat.le_of_ble_eq_true rfl, Nat.le_of_ble_eq_true rfl⟩ (fun r' n' M552 hp => ?_)
                                obtain ⟨hr', hn', hM552, hf552⟩ := hp
                                rw [hn', hr']
                                obtain ⟨v552_0, v552_1, v552_2, v552_3, v552_4, v552_5, v552_6, v552_7, v552_8, v552_9, v552_10, v552_11, v552_12, v552_13, v552_14, v552_15, v552_16, v552_17, v552_18, vb552_0, vb552_1, vb552_2, vb552_3, vb552_4, vb552_5⟩ := id hM552
                                show xW p l e ({ frames := 4, cells := 0, slots := 0, locals := 96 } : Room) s m args below meth c D xcl (x_A M nx) 8 (MQ below (x_Q D xcl (x_A M nx) (mcPost nx M a th sg sn pr fk fp rws cd ds wc wd nn nE nC nK nO ln lF lC lT lO fn fC fP ak ac pt n (rM tx sn q) (cN tx (q + rM tx sn q) (rD tx sn (q + rM tx sn q))) (mrc tx sn ds xs dg n q))) args s 0 0 (x_A M nx)) 0 0 (nx) M552 285 [(7, .int (nI (120 + j))), (6, .int (nI (rD tx sn (q + rM tx sn q)))), (5, .int (nI (q + rM tx sn q))), (4, .int (nI (rM tx sn q))), (3, .int (nI (120 + n))), (2, .int (nI (n))), (0, .ref (a)), (1, .int (nI (q)))] [.int (nI (0))]
                                refine x_if_eq F (tgt := 292) dM_readsCode_285 (by decide) (fun c95 => ?_) (fun c95 => ?_)
                                · skip
                                  have c95 : 0 = 0 := by
                                    exact (nI_eq (a := 0) (b := 0) (by omega) (by omega)).mp c95
                                  refine x_iconst F (v := nI (0)) dM_readsCode_292 (by decide) ?_
                                  exact x_zret F hr (by rfl) dM_readsCode_293 (by rw [show mrc tx sn ds xs dg n q = some (4, q + rM tx sn q) from by rw [mrc, if_neg (fun z => c1 z.1), if_neg h70, if_neg c60, if_neg (by omega), if_neg c62, if_neg (by omega), if_neg c65, if_neg (by rw [hbad]; decide), if_pos hbeh]]; exact ⟨rfl, fun b hb => (hf552 _ (by omega)).trans ((x_up_n (by omega)).trans ((x_up_n (by omega)).trans (rfl))), rfl, _, _, (fun i hi => ⟨updL_ne (by omega), upd_ne (by omega)⟩), hM552⟩)
                                · skip
                                  have c95 : 0 ≠ 0 := by
                                    have z : ¬ (0 = 0) := fun zz => c95 ((nI_eq (a := 0) (b := 0) (by omega) (by omega)).mpr zz)
                                    omega
                                  exact absurd c95 (by decide)
                          · skip
                            have c92 : (mbg (cN tx (q + rM tx sn q) (rD tx sn (q + rM tx sn q))) (rD tx sn (q + rM tx sn q)) (xs j) (dg j)) = false := bI_0 c92
                            have hla := mUp_la (by omega) hup
                            have hbad : mBad ds xs dg n (rM tx sn q) (cN tx (q + rM tx sn q) (rD tx sn (q + rM tx sn q))) (rD tx sn (q + rM tx sn q)) = true := by rw [mBad, if_neg (by omega), hla]; show (! mbg (cN tx (q + rM tx sn q) (rD tx sn (q + rM tx sn q))) (rD tx sn (q + rM tx sn q)) (xs j) (dg j)) = true; rw [c92]; rfl
                            refine x_aload_n F 6 dM_readsCode_246 rfl rfl ?_
                            refine x_iconst F (v := nI (3)) dM_readsCode_247 (by decide) ?_
                            refine x_iload F 2 dM_readsCode_248 rfl ?_
                            refine yVr (n := 2) (As := [.int (nI (3)), .int (nI (q + rM tx sn q))]) (ci := 6) F kmM_115 kiM_fails ksM_fails knM kcM_fails (by decide +kernel) dM_readsCode_250 (cM_fails l (nx) (x_up (x_up M (a + 4) (.inl (.int, 160, .inl (upd (ds) (120 + n) (nI (rM tx sn q)))))) (a + 3) (.inl (.long, 160, .inr (.inl (vp_updL (cd) (120 + n) (lN (cN tx (q + rM tx sn q) (rD tx sn (q + rM tx sn q))))))))) (a) th sg sn pr fk fp rws (vp_updL (cd) (120 + n) (lN (cN tx (q + rM tx sn q) (rD tx sn (q + rM tx sn q))))) (upd (ds) (120 + n) (nI (rM tx sn q))) wc wd nn nE nC nK nO ln lF lC lT lO fn fC fP ak ac pt ⟨(x_up_k (x_up_k h0 (by omega)) (by omega)), (x_up_k (x_up_k h1 (by omega)) (by omega)), (x_up_k (x_up_k h2 (by omega)) (by omega)), x_up_s, (x_up_k x_up_s (by omega)), (x_up_k (x_up_k h5 (by omega)) (by omega)), (x_up_k (x_up_k h6 (by omega)) (by omega)), (x_up_k (x_up_k h7 (by omega)) (by omega)), (x_up_k (x_up_k h8 (by omega)) (by omega)), (x_up_k (x_up_k h9 (by omega)) (by omega)), (x_up_k (x_up_k h10 (by omega)) (by omega)), (x_up_k (x_up_k h11 (by omega)) (by omega)), (x_up_k (x_up_k h12 (by omega)) (by omega)), (x_up_k (x_up_k h13 (by omega)) (by omega)), (x_up_k (x_up_k h14 (by omega)) (by omega)), (x_up_k (x_up_k h15 (by omega)) (by omega)), (x_up_k (x_up_k h16 (by omega)) (by omega)), (x_up_k (x_up_k h17 (by omega)) (by omega)), (x_up_k (x_up_k h18 (by omega)) (by omega)), by omega, by omega, by omega, by omega, by omega, by omega⟩ (nI (3)) (nI (q + rM tx sn q))) rfl (x_up_k (x_up_k h0 (by omega)) (by omega)) rfl rfl (Nat.le_of_ble_eq_true rfl) ⟨Nat.le_of_ble_eq_true rfl, Nat.le_of_ble_eq_true rfl⟩ ⟨Nat.le_of_ble_eq_true rfl, Nat.le_of_ble_eq_true rfl⟩ (fun r' n' M553 hp => ?_)
                            obtain ⟨hr', hn', hM553, hf553⟩ := hp
                            rw [hn', hr']
                            obtain ⟨v553_0, v553_1, v553_2, v553_3, v553_4, v553_5, v553_6, v553_7, v553_8, v553_9, v553_10, v553_11, v553_12, v553_13, v553_14, v553_15, v553_16, v553_17, v553_18, vb553_0, vb553_1, vb553_2, vb553_3, vb553_4, vb553_5⟩ := id hM553
                            show xW p l e ({ frames := 4, cells := 0, slots := 0, locals := 96 } : Room) s m args below meth c D xcl (x_A M nx) 8 (MQ below (x_Q D xcl (x_A M nx) (mcPost nx M a th sg sn pr fk fp rws cd ds wc wd nn nE nC nK nO ln lF lC lT lO fn fC fP ak ac pt n (rM tx sn q) (cN tx (q + rM tx sn q) (rD tx sn (q + rM tx sn q))) (mrc tx sn ds xs dg n q))) args s 0 0 (x_A M nx)) 0 0 (nx) M553 253 [(7, .int (nI (120 + j))), (6, .int (nI (rD tx sn (q + rM tx sn q)))), (5, .int (nI (q + rM tx sn q))), (4, .int (nI (rM tx sn q))), (3, .int (nI (120 + n))), (2, .int (nI (n))), (0, .ref (a)), (1, .int (nI (q)))] [.int (nI (0))]
                            exact x_zret F hr (by rfl) dM_readsCode_253 (by rw [show mrc tx sn ds xs dg n q = some (3, q + rM tx sn q) from by rw [mrc, if_neg (fun z => c1 z.1), if_neg h70, if_neg c60, if_neg (by omega), if_neg c62, if_neg (by omega), if_neg c65, if_pos hbad]]; exact ⟨rfl, fun b hb => (hf553 _ (by omega)).trans ((x_up_n (by omega)).trans ((x_up_n (by omega)).trans (rfl))), rfl, _, _, (fun i hi => ⟨updL_ne (by omega), upd_ne (by omega)⟩), hM553⟩)
                        · skip
                          have c91 : 120 + j < 0 := by
                            have z : ¬ (0 ≤ 120 + j) := fun zz => c91 ((nI_leI (a := 0) (b := 120 + j) (by omega) (by omega)).mpr zz)
                            omega
                          refine x_iload_n F 4 dM_readsCode_233 rfl rfl ?_
                          refine x_goto F (tgt := 239) dM_readsCode_234 (by decide) ?_
                          refine x_lald F dM_readsCode_239 x_up_s (pk_in (120 + n) (160) (by omega)) ?_
                          refine xW.tol (lN (cN tx (q + rM tx sn q) (rD tx sn (q + rM tx sn q)))) (by rw [nI_clamp (by omega)]; exact vp_us) ?_
                          refine yS (n := 2) (As := [.long (lN (cN tx (q + rM tx sn q) (rD tx sn (q + rM tx sn q)))), .long (lN (cN tx (q + rM tx sn q) (rD tx sn (q + rM tx sn q))))]) F kmM_107 ktM_begins knM kcM_begins (by decide +kernel) dM_readsCode_240 (cM_begins l (nx) (x_up (x_up M (a + 4) (.inl (.int, 160, .inl (upd (ds) (120 + n) (nI (rM tx sn q)))))) (a + 3) (.inl (.long, 160, .inr (.inl (vp_updL (cd) (120 + n) (lN (cN tx (q + rM tx sn q) (rD tx sn (q + rM tx sn q))))))))) (cN tx (q + rM tx sn q) (rD tx sn (q + rM tx sn q))) (rD tx sn (q + rM tx sn q)) (cN tx (q + rM tx sn q) (rD tx sn (q + rM tx sn q))) (rD tx sn (q + rM tx sn q)) hX10 hX10) rfl rfl (Nat.le_of_ble_eq_true rfl) ⟨Nat.le_of_ble_eq_true rfl, Nat.le_of_ble_eq_true rfl⟩ ⟨Nat.le_of_ble_eq_true rfl, Nat.le_of_ble_eq_true rfl⟩ ?_
                          refine x_if_ne F (tgt := 254) dM_readsCode_243 (by decide) (fun c96 => ?_) (fun c96 => ?_)
                          · skip
                            have c96 : (mbg (cN tx (q + rM tx sn q) (rD tx sn (q + rM tx sn q))) (rD tx sn (q + rM tx sn q)) (cN tx (q + rM tx sn q) (rD tx sn (q + rM tx sn q))) (rD tx sn (q + rM tx sn q))) = true := bI_1 c96
                            have hla := mUp_la (by omega) hup
                            have hbad : mBad ds xs dg n (rM tx sn q) (cN tx (q + rM tx sn q) (rD tx sn (q + rM tx sn q))) (rD tx sn (q + rM tx sn q)) = false := by rw [mBad, if_neg (by omega), hla]; show (! mbg (cN tx (q + rM tx sn q) (rD tx sn (q + rM tx sn q))) (rD tx sn (q + rM tx sn q)) (xs j) (dg j)) = false; rw [c96]; rfl
                            refine x_iload_n F 5 dM_readsCode_254 rfl rfl ?_
                            refine x_if_eq F (tgt := 288) dM_readsCode_255 (by decide) (fun c97 => ?_) (fun c97 => ?_)
                            · skip
                              have c97 : n = 0 := by
                                exact (nI_eq (a := n) (b := 0) (by omega) (by omega)).mp c97
                              have hbeh : mBeh xs dg n (cN tx (q + rM tx sn q) (rD tx sn (q + rM tx sn q))) (rD tx sn (q + rM tx sn q)) = true := by rw [c97]; rfl
                              refine x_iconst F (v := nI (1)) dM_readsCode_288 (by decide) ?_
                              refine x_goto F (tgt := 293) dM_readsCode_289 (by decide) ?_
                              exact x_zret F hr (by rfl) dM_readsCode_293 (by rw [show mrc tx sn ds xs dg n q = none from by rw [mrc, if_neg (fun z => c1 z.1), if_neg h70, if_neg c60, if_neg (by omega), if_neg c62, if_neg (by omega), if_neg c65, if_neg (by rw [hbad]; decide), if_neg (by rw [hbeh]; decide)]]; exact ⟨rfl, fun b hb => (x_up_n (by omega)).trans ((x_up_n (by omega)).trans (rfl)), rfl, ⟨(x_up_k (x_up_k h0 (by omega)) (by omega)), (x_up_k (x_up_k h1 (by omega)) (by omega)), (x_up_k (x_up_k h2 (by omega)) (by omega)), x_up_s, (x_up_k x_up_s (by omega)), (x_up_k (x_up_k h5 (by omega)) (by omega)), (x_up_k (x_up_k h6 (by omega)) (by omega)), (x_up_k (x_up_k h7 (by omega)) (by omega)), (x_up_k (x_up_k h8 (by omega)) (by omega)), (x_up_k (x_up_k h9 (by omega)) (by omega)), (x_up_k (x_up_k h10 (by omega)) (by omega)), (x_up_k (x_up_k h11 (by omega)) (by omega)), (x_up_k (x_up_k h12 (by omega)) (by omega)), (x_up_k (x_up_k h13 (by omega)) (by omega)), (x_up_k (x_up_k h14 (by omega)) (by omega)), (x_up_k (x_up_k h15 (by omega)) (by omega)), (x_up_k (x_up_k h16 (by omega)) (by omega)), (x_up_k (x_up_k h17 (by omega)) (by omega)), (x_up_k (x_up_k h18 (by omega)) (by omega)), by omega, by omega, by omega, by omega, by omega, by omega⟩⟩)
                            · skip
                              have c97 : n ≠ 0 := by
                                have z : ¬ (n = 0) := fun zz => c97 ((nI_eq (a := n) (b := 0) (by omega) (by omega)).mpr zz)
                                omega
                              obtain ⟨n0, hn1⟩ : ∃ n0, n = n0 + 1 := ⟨n - 1, by omega⟩
                              refine x_aload_n F 6 dM_readsCode_258 rfl rfl ?_
                              refine x_get (ci := 6) F 7 (x_in inM) rfl (by decide) (x_m kfM_20) dM_readsCode_259 (x_up_k (x_up_k h0 (by omega)) (by omega)) rfl ?_
                              refine x_iload_n F 4 dM_readsCode_262 rfl rfl ?_
                              refine x_lald F dM_readsCode_263 x_up_s (pk_in (120 + n) (160) (by omega)) ?_
                              refine xW.tol (lN (cN tx (q + rM tx sn q) (rD tx sn (q + rM tx sn q)))) (by rw [nI_clamp (by omega)]; exact vp_us) ?_
                              refine x_aload_n F 6 dM_readsCode_264 rfl rfl ?_
                              refine x_get (ci := 6) F 7 (x_in inM) rfl (by decide) (x_m kfM_20) dM_readsCode_265 (x_up_k (x_up_k h0 (by omega)) (by omega)) rfl ?_
                              refine x_iload_n F 4 dM_readsCode_268 rfl rfl ?_
                              refine x_iconst F (v := nI (1)) dM_readsCode_269 (by decide) ?_
                              refine x_isub F dM_readsCode_270 ?_
                              refine xW.toi (nI (120 + n0)) (by rw [hn1]; exact nI_pred (120 + n0)) ?_
                              refine x_lald F dM_readsCode_271 x_up_s (pk_in (120 + n0) (160) (by omega)) ?_
                              refine xW.tol (lN (xs n0)) (by rw [nI_clamp (by omega)]; exact (updL_ne (by omega)).trans (hcd n0 (by omega)).1) ?_
                              refine yS (n := 2) (As := [.long (lN (cN tx (q + rM tx sn q) (rD tx sn (q + rM tx sn q)))), .long (lN (xs n0))]) F kmM_126 ktM_isBehind knM kcM_isBehind (by decide +kernel) dM_readsCode_272 (cM_isBehind l (nx) (x_up (x_up M (a + 4) (.inl (.int, 160, .inl (upd (ds) (120 + n) (nI (rM tx sn q)))))) (a + 3) (.inl (.long, 160, .inr (.inl (vp_updL (cd) (120 + n) (lN (cN tx (q + rM tx sn q) (rD tx sn (q + rM tx sn q))))))))) (cN tx (q + rM tx sn q) (rD tx sn (q + rM tx sn q))) (rD tx sn (q + rM tx sn q)) (xs n0) (dg n0) hX10 (hcd n0 (by omega)).2) rfl rfl (Nat.le_of_ble_eq_true rfl) ⟨Nat.le_of_ble_eq_true rfl, Nat.le_of_ble_eq_true rfl⟩ ⟨Nat.le_of_ble_eq_true rfl, Nat.le_of_ble_eq_true rfl⟩ ?_
                              refine x_if_ne F (tgt := 288) dM_readsCode_275 (by decide) (fun c98 => ?_) (fun c98 => ?_)
                              · skip
                                have c98 : (mbh (cN tx (q + rM tx sn q) (rD tx sn (q + rM tx sn q))) (rD tx sn (q + rM tx sn q)) (xs n0) (dg n0)) = true := bI_1 c98
                                have hbeh : mBeh xs dg n (cN tx (q + rM tx sn q) (rD tx sn (q + rM tx sn q))) (rD tx sn (q + rM tx sn q)) = true := by rw [hn1]; exact c98
                                refine x_iconst F (v := nI (1)) dM_readsCode_288 (by decide) ?_
                                refine x_goto F (tgt := 293) dM_readsCode_289 (by decide) ?_
                                exact x_zret F hr (by rfl) dM_readsCode_293 (by rw [show mrc tx sn ds xs dg n q = none from by rw [mrc, if_neg (fun z => c1 z.1), if_neg h70, if_neg c60, if_neg (by omega), if_neg c62, if_neg (by omega), if_neg c65, if_neg (by rw [hbad]; decide), if_neg (by rw [hbeh]; decide)]]; exact ⟨rfl, fun b hb => (x_up_n (by omega)).trans ((x_up_n (by omega)).trans (rfl)), rfl, ⟨(x_up_k (x_up_k h0 (by omega)) (by omega)), (x_up_k (x_up_k h1 (by omega)) (by omega)), (x_up_k (x_up_k h2 (by omega)) (by omega)), x_up_s, (x_up_k x_up_s (by omega)), (x_up_k (x_up_k h5 (by omega)) (by omega)), (x_up_k (x_up_k h6 (by omega)) (by omega)), (x_up_k (x_up_k h7 (by omega)) (by omega)), (x_up_k (x_up_k h8 (by omega)) (by omega)), (x_up_k (x_up_k h9 (by omega)) (by omega)), (x_up_k (x_up_k h10 (by omega)) (by omega)), (x_up_k (x_up_k h11 (by omega)) (by omega)), (x_up_k (x_up_k h12 (by omega)) (by omega)), (x_up_k (x_up_k h13 (by omega)) (by omega)), (x_up_k (x_up_k h14 (by omega)) (by omega)), (x_up_k (x_up_k h15 (by omega)) (by omega)), (x_up_k (x_up_k h16 (by omega)) (by omega)), (x_up_k (x_up_k h17 (by omega)) (by omega)), (x_up_k (x_up_k h18 (by omega)) (by omega)), by omega, by omega, by omega, by omega, by omega, by omega⟩⟩)
                              · skip
                                have c98 : (mbh (cN tx (q + rM tx sn q) (rD tx sn (q + rM tx sn q))) (rD tx sn (q + rM tx sn q)) (xs n0) (dg n0)) = false := bI_0 c98
                                have hbeh : mBeh xs dg n (cN tx (q + rM tx sn q) (rD tx sn (q + rM tx sn q))) (rD tx sn (q + rM tx sn q)) = false := by rw [hn1]; exact c98
                                refine x_aload_n F 6 dM_readsCode_278 rfl rfl ?_
                                refine x_iconst F (v := nI (4)) dM_readsCode_279 (by decide) ?_
                                refine x_iload F 2 dM_readsCode_280 rfl ?_
                                refine yVr (n := 2) (As := [.int (nI (4)), .int (nI (q + rM tx sn q))]) (ci := 6) F kmM_115 kiM_fails ksM_fails knM kcM_fails (by decide +kernel) dM_readsCode_282 (cM_fails l (nx) (x_up (x_up M (a + 4) (.inl (.int, 160, .inl (upd (ds) (120 + n) (nI (rM tx sn q)))))) (a + 3) (.inl (.long, 160, .inr (.inl (vp_updL (cd) (120 + n) (lN (cN tx (q + rM tx sn q) (rD tx sn (q + rM tx sn q))))))))) (a) th sg sn pr fk fp rws (vp_updL (cd) (120 + n) (lN (cN tx (q + rM tx sn q) (rD tx sn (q + rM tx sn q))))) (upd (ds) (120 + n) (nI (rM tx sn q))) wc wd nn nE nC nK nO ln lF lC lT lO fn fC fP ak ac pt ⟨(x_up_k (x_up_k h0 (by omega)) (by omega)), (x_up_k (x_up_k h1 (by omega)) (by omega)), (x_up_k (x_up_k h2 (by omega)) (by omega)), x_up_s, (x_up_k x_up_s (by omega)), (x_up_k (x_up_k h5 (by omega)) (by omega)), (x_up_k (x_up_k h6 (by omega)) (by omega)), (x_up_k (x_up_k h7 (by omega)) (by omega)), (x_up_k (x_up_k h8 (by omega)) (by omega)), (x_up_k (x_up_k h9 (by omega)) (by omega)), (x_up_k (x_up_k h10 (by omega)) (by omega)), (x_up_k (x_up_k h11 (by omega)) (by omega)), (x_up_k (x_up_k h12 (by omega)) (by omega)), (x_up_k (x_up_k h13 (by omega)) (by omega)), (x_up_k (x_up_k h14 (by omega)) (by omega)), (x_up_k (x_up_k h15 (by omega)) (by omega)), (x_up_k (x_up_k h16 (by omega)) (by omega)), (x_up_k (x_up_k h17 (by omega)) (by omega)), (x_up_k (x_up_k h18 (by omega)) (by omega)), by omega, by omega, by omega, by omega, by omega, by omega⟩ (nI (4)) (nI (q + rM tx sn q))) rfl (x_up_k (x_up_k h0 (by omega)) (by omega)) rfl rfl (Nat.le_of_ble_eq_true rfl) ⟨Nat.le_of_ble_eq_true rfl, Nat.le_of_ble_eq_true rfl⟩ ⟨Nat.le_of_ble_eq_true rfl, Nat.le_of_ble_eq_true rfl⟩ (fun r' n' M554 hp => ?_)
                                obtain ⟨hr', hn', hM554, hf554⟩ := hp
                                rw [hn', hr']
                                obtain ⟨v554_0, v554_1, v554_2, v554_3, v554_4, v554_5, v554_6, v554_7, v554_8, v554_9, v554_10, v554_11, v554_12, v554_13, v554_14, v554_15, v554_16, v554_17, v554_18, vb554_0, vb554_1, vb554_2, vb554_3, vb554_4, vb554_5⟩ := id hM554
                                show xW p l e ({ frames := 4, cells := 0, slots := 0, locals := 96 } : Room) s m args below meth c D xcl (x_A M nx) 8 (MQ below (x_Q D xcl (x_A M nx) (mcPost nx M a th sg sn pr fk fp rws cd ds wc wd nn nE nC nK nO ln lF lC lT lO fn fC fP ak ac pt n (rM tx sn q) (cN tx (q + rM tx sn q) (rD tx sn (q + rM tx sn q))) (mrc tx sn ds xs dg n q))) args s 0 0 (x_A M nx)) 0 0 (nx) M554 285 [(7, .int (nI (120 + j))), (6, .int (nI (rD tx sn (q + rM tx sn q)))), (5, .int (nI (q + rM tx sn q))), (4, .int (nI (rM tx sn q))), (3, .int (nI (120 + n))), (2, .int (nI (n))), (0, .ref (a)), (1, .int (nI (q)))] [.int (nI (0))]
                                refine x_if_eq F (tgt := 292) dM_readsCode_285 (by decide) (fun c99 => ?_) (fun c99 => ?_)
                                · skip
                                  have c99 : 0 = 0 := by
                                    exact (nI_eq (a := 0) (b := 0) (by omega) (by omega)).mp c99
                                  refine x_iconst F (v := nI (0)) dM_readsCode_292 (by decide) ?_
                                  exact x_zret F hr (by rfl) dM_readsCode_293 (by rw [show mrc tx sn ds xs dg n q = some (4, q + rM tx sn q) from by rw [mrc, if_neg (fun z => c1 z.1), if_neg h70, if_neg c60, if_neg (by omega), if_neg c62, if_neg (by omega), if_neg c65, if_neg (by rw [hbad]; decide), if_pos hbeh]]; exact ⟨rfl, fun b hb => (hf554 _ (by omega)).trans ((x_up_n (by omega)).trans ((x_up_n (by omega)).trans (rfl))), rfl, _, _, (fun i hi => ⟨updL_ne (by omega), upd_ne (by omega)⟩), hM554⟩)
                                · skip
                                  have c99 : 0 ≠ 0 := by
                                    have z : ¬ (0 = 0) := fun zz => c99 ((nI_eq (a := 0) (b := 0) (by omega) (by omega)).mpr zz)
                                    omega
                                  exact absurd c99 (by decide)
                          · skip
                            have c96 : (mbg (cN tx (q + rM tx sn q) (rD tx sn (q + rM tx sn q))) (rD tx sn (q + rM tx sn q)) (cN tx (q + rM tx sn q) (rD tx sn (q + rM tx sn q))) (rD tx sn (q + rM tx sn q))) = false := bI_0 c96
                            have hla := mUp_la (by omega) hup
                            have hbad : mBad ds xs dg n (rM tx sn q) (cN tx (q + rM tx sn q) (rD tx sn (q + rM tx sn q))) (rD tx sn (q + rM tx sn q)) = true := by rw [mBad, if_neg (by omega), hla]; show (! mbg (cN tx (q + rM tx sn q) (rD tx sn (q + rM tx sn q))) (rD tx sn (q + rM tx sn q)) (xs j) (dg j)) = true; rw [c96]; rfl
                            refine x_aload_n F 6 dM_readsCode_246 rfl rfl ?_
                            refine x_iconst F (v := nI (3)) dM_readsCode_247 (by decide) ?_
                            refine x_iload F 2 dM_readsCode_248 rfl ?_
                            refine yVr (n := 2) (As := [.int (nI (3)), .int (nI (q + rM tx sn q))]) (ci := 6) F kmM_115 kiM_fails ksM_fails knM kcM_fails (by decide +kernel) dM_readsCode_250 (cM_fails l (nx) (x_up (x_up M (a + 4) (.inl (.int, 160, .inl (upd (ds) (120 + n) (nI (rM tx sn q)))))) (a + 3) (.inl (.long, 160, .inr (.inl (vp_updL (cd) (120 + n) (lN (cN tx (q + rM tx sn q) (rD tx sn (q + rM tx sn q))))))))) (a) th sg sn pr fk fp rws (vp_updL (cd) (120 + n) (lN (cN tx (q + rM tx sn q) (rD tx sn (q + rM tx sn q))))) (upd (ds) (120 + n) (nI (rM tx sn q))) wc wd nn nE nC nK nO ln lF lC lT lO fn fC fP ak ac pt ⟨(x_up_k (x_up_k h0 (by omega)) (by omega)), (x_up_k (x_up_k h1 (by omega)) (by omega)), (x_up_k (x_up_k h2 (by omega)) (by omega)), x_up_s, (x_up_k x_up_s (by omega)), (x_up_k (x_up_k h5 (by omega)) (by omega)), (x_up_k (x_up_k h6 (by omega)) (by omega)), (x_up_k (x_up_k h7 (by omega)) (by omega)), (x_up_k (x_up_k h8 (by omega)) (by omega)), (x_up_k (x_up_k h9 (by omega)) (by omega)), (x_up_k (x_up_k h10 (by omega)) (by omega)), (x_up_k (x_up_k h11 (by omega)) (by omega)), (x_up_k (x_up_k h12 (by omega)) (by omega)), (x_up_k (x_up_k h13 (by omega)) (by omega)), (x_up_k (x_up_k h14 (by omega)) (by omega)), (x_up_k (x_up_k h15 (by omega)) (by omega)), (x_up_k (x_up_k h16 (by omega)) (by omega)), (x_up_k (x_up_k h17 (by omega)) (by omega)), (x_up_k (x_up_k h18 (by omega)) (by omega)), by omega, by omega, by omega, by omega, by omega, by omega⟩ (nI (3)) (nI (q + rM tx sn q))) rfl (x_up_k (x_up_k h0 (by omega)) (by omega)) rfl rfl (Nat.le_of_ble_eq_true rfl) ⟨Nat.le_of_ble_eq_true rfl, Nat.le_of_ble_eq_true rfl⟩ ⟨Nat.le_of_ble_eq_true rfl, Nat.le_of_ble_eq_true rfl⟩ (fun r' n' M555 hp => ?_)
                            obtain ⟨hr', hn', hM555, hf555⟩ := hp
                            rw [hn', hr']
                            obtain ⟨v555_0, v555_1, v555_2, v555_3, v555_4, v555_5, v555_6, v555_7, v555_8, v555_9, v555_10, v555_11, v555_12, v555_13, v555_14, v555_15, v555_16, v555_17, v555_18, vb555_0, vb555_1, vb555_2, vb555_3, vb555_4, vb555_5⟩ := id hM555
                            show xW p l e ({ frames := 4, cells := 0, slots := 0, locals := 96 } : Room) s m args below meth c D xcl (x_A M nx) 8 (MQ below (x_Q D xcl (x_A M nx) (mcPost nx M a th sg sn pr fk fp rws cd ds wc wd nn nE nC nK nO ln lF lC lT lO fn fC fP ak ac pt n (rM tx sn q) (cN tx (q + rM tx sn q) (rD tx sn (q + rM tx sn q))) (mrc tx sn ds xs dg n q))) args s 0 0 (x_A M nx)) 0 0 (nx) M555 253 [(7, .int (nI (120 + j))), (6, .int (nI (rD tx sn (q + rM tx sn q)))), (5, .int (nI (q + rM tx sn q))), (4, .int (nI (rM tx sn q))), (3, .int (nI (120 + n))), (2, .int (nI (n))), (0, .ref (a)), (1, .int (nI (q)))] [.int (nI (0))]
                            exact x_zret F hr (by rfl) dM_readsCode_253 (by rw [show mrc tx sn ds xs dg n q = some (3, q + rM tx sn q) from by rw [mrc, if_neg (fun z => c1 z.1), if_neg h70, if_neg c60, if_neg (by omega), if_neg c62, if_neg (by omega), if_neg c65, if_pos hbad]]; exact ⟨rfl, fun b hb => (hf555 _ (by omega)).trans ((x_up_n (by omega)).trans ((x_up_n (by omega)).trans (rfl))), rfl, _, _, (fun i hi => ⟨updL_ne (by omega), upd_ne (by omega)⟩), hM555⟩)
                    · skip
                      have c86 : rM tx sn q = 0 := by
                        exact (nI_eq (a := rM tx sn q) (b := 0) (by omega) (by omega)).mp c86
                      refine x_iload F 1 dM_readsCode_207 rfl ?_
                      refine x_iconst F (v := nI (2)) dM_readsCode_209 (by decide) ?_
                      refine x_icmp_ne F (tgt := 246) dM_readsCode_210 (by decide) (fun c100 => ?_) (fun c100 => ?_)
                      · skip
                        have c100 : rD tx sn (q + rM tx sn q) ≠ 2 := by
                          have z : ¬ (rD tx sn (q + rM tx sn q) = 2) := fun zz => c100 ((nI_eq (a := rD tx sn (q + rM tx sn q)) (b := 2) (by omega) (by omega)).mpr zz)
                          omega
                        have hbad : mBad ds xs dg n (rM tx sn q) (cN tx (q + rM tx sn q) (rD tx sn (q + rM tx sn q))) (rD tx sn (q + rM tx sn q)) = true := by rw [mBad, if_pos c86, decide_eq_false c100]; rfl
                        refine x_aload_n F 6 dM_readsCode_246 rfl rfl ?_
                        refine x_iconst F (v := nI (3)) dM_readsCode_247 (by decide) ?_
                        refine x_iload F 2 dM_readsCode_248 rfl ?_
                        refine yVr (n := 2) (As := [.int (nI (3)), .int (nI (q + rM tx sn q))]) (ci := 6) F kmM_115 kiM_fails ksM_fails knM kcM_fails (by decide +kernel) dM_readsCode_250 (cM_fails l (nx) (x_up (x_up M (a + 4) (.inl (.int, 160, .inl (upd (ds) (120 + n) (nI (rM tx sn q)))))) (a + 3) (.inl (.long, 160, .inr (.inl (vp_updL (cd) (120 + n) (lN (cN tx (q + rM tx sn q) (rD tx sn (q + rM tx sn q))))))))) (a) th sg sn pr fk fp rws (vp_updL (cd) (120 + n) (lN (cN tx (q + rM tx sn q) (rD tx sn (q + rM tx sn q))))) (upd (ds) (120 + n) (nI (rM tx sn q))) wc wd nn nE nC nK nO ln lF lC lT lO fn fC fP ak ac pt ⟨(x_up_k (x_up_k h0 (by omega)) (by omega)), (x_up_k (x_up_k h1 (by omega)) (by omega)), (x_up_k (x_up_k h2 (by omega)) (by omega)), x_up_s, (x_up_k x_up_s (by omega)), (x_up_k (x_up_k h5 (by omega)) (by omega)), (x_up_k (x_up_k h6 (by omega)) (by omega)), (x_up_k (x_up_k h7 (by omega)) (by omega)), (x_up_k (x_up_k h8 (by omega)) (by omega)), (x_up_k (x_up_k h9 (by omega)) (by omega)), (x_up_k (x_up_k h10 (by omega)) (by omega)), (x_up_k (x_up_k h11 (by omega)) (by omega)), (x_up_k (x_up_k h12 (by omega)) (by omega)), (x_up_k (x_up_k h13 (by omega)) (by omega)), (x_up_k (x_up_k h14 (by omega)) (by omega)), (x_up_k (x_up_k h15 (by omega)) (by omega)), (x_up_k (x_up_k h16 (by omega)) (by omega)), (x_up_k (x_up_k h17 (by omega)) (by omega)), (x_up_k (x_up_k h18 (by omega)) (by omega)), by omega, by omega, by omega, by omega, by omega, by omega⟩ (nI (3)) (nI (q + rM tx sn q))) rfl (x_up_k (x_up_k h0 (by omega)) (by omega)) rfl rfl (Nat.le_of_ble_eq_true rfl) ⟨Nat.le_of_ble_eq_true rfl, Nat.le_of_ble_eq_true rfl⟩ ⟨Nat.le_of_ble_eq_true rfl, Nat.le_of_ble_eq_true rfl⟩ (fun r' n' M556 hp => ?_)
                        obtain ⟨hr', hn', hM556, hf556⟩ := hp
                        rw [hn', hr']
                        obtain ⟨v556_0, v556_1, v556_2, v556_3, v556_4, v556_5, v556_6, v556_7, v556_8, v556_9, v556_10, v556_11, v556_12, v556_13, v556_14, v556_15, v556_16, v556_17, v556_18, vb556_0, vb556_1, vb556_2, vb556_3, vb556_4, vb556_5⟩ := id hM556
                        show xW p l e ({ frames := 4, cells := 0, slots := 0, locals := 96 } : Room) s m args below meth c D xcl (x_A M nx) 8 (MQ below (x_Q D xcl (x_A M nx) (mcPost nx M a th sg sn pr fk fp rws cd ds wc wd nn nE nC nK nO ln lF lC lT lO fn fC fP ak ac pt n (rM tx sn q) (cN tx (q + rM tx sn q) (rD tx sn (q + rM tx sn q))) (mrc tx sn ds xs dg n q))) args s 0 0 (x_A M nx)) 0 0 (nx) M556 253 [(7, .int (nI (120 + j))), (6, .int (nI (rD tx sn (q + rM tx sn q)))), (5, .int (nI (q + rM tx sn q))), (4, .int (nI (rM tx sn q))), (3, .int (nI (120 + n))), (2, .int (nI (n))), (0, .ref (a)), (1, .int (nI (q)))] [.int (nI (0))]
                        exact x_zret F hr (by rfl) dM_readsCode_253 (by rw [show mrc tx sn ds xs dg n q = some (3, q + rM tx sn q) from by rw [mrc, if_neg (fun z => c1 z.1), if_neg h70, if_neg c60, if_neg (by omega), if_neg c62, if_neg (by omega), if_neg c65, if_pos hbad]]; exact ⟨rfl, fun b hb => (hf556 _ (by omega)).trans ((x_up_n (by omega)).trans ((x_up_n (by omega)).trans (rfl))), rfl, _, _, (fun i hi => ⟨updL_ne (by omega), upd_ne (by omega)⟩), hM556⟩)
                      · skip
                        have c100 : rD tx sn (q + rM tx sn q) = 2 := by
                          exact (nI_eq (a := rD tx sn (q + rM tx sn q)) (b := 2) (by omega) (by omega)).mp c100
                        refine x_iload F 3 dM_readsCode_213 rfl ?_
                        refine x_if_le F (tgt := 254) dM_readsCode_215 (by decide) (fun c101 => ?_) (fun c101 => ?_)
                        · skip
                          have c101 : rM tx sn q ≤ 0 := by
                            exact (nI_leI (a := rM tx sn q) (b := 0) (by omega) (by omega)).mp c101
                          have hbad : mBad ds xs dg n (rM tx sn q) (cN tx (q + rM tx sn q) (rD tx sn (q + rM tx sn q))) (rD tx sn (q + rM tx sn q)) = false := by rw [mBad, if_pos (by omega), decide_eq_true (by omega)]; rfl
                          refine x_iload_n F 5 dM_readsCode_254 rfl rfl ?_
                          refine x_if_eq F (tgt := 288) dM_readsCode_255 (by decide) (fun c102 => ?_) (fun c102 => ?_)
                          · skip
                            have c102 : n = 0 := by
                              exact (nI_eq (a := n) (b := 0) (by omega) (by omega)).mp c102
                            have hbeh : mBeh xs dg n (cN tx (q + rM tx sn q) (rD tx sn (q + rM tx sn q))) (rD tx sn (q + rM tx sn q)) = true := by rw [c102]; rfl
                            refine x_iconst F (v := nI (1)) dM_readsCode_288 (by decide) ?_
                            refine x_goto F (tgt := 293) dM_readsCode_289 (by decide) ?_
                            exact x_zret F hr (by rfl) dM_readsCode_293 (by rw [show mrc tx sn ds xs dg n q = none from by rw [mrc, if_neg (fun z => c1 z.1), if_neg h70, if_neg c60, if_neg (by omega), if_neg c62, if_neg (by omega), if_neg c65, if_neg (by rw [hbad]; decide), if_neg (by rw [hbeh]; decide)]]; exact ⟨rfl, fun b hb => (x_up_n (by omega)).trans ((x_up_n (by omega)).trans (rfl)), rfl, ⟨(x_up_k (x_up_k h0 (by omega)) (by omega)), (x_up_k (x_up_k h1 (by omega)) (by omega)), (x_up_k (x_up_k h2 (by omega)) (by omega)), x_up_s, (x_up_k x_up_s (by omega)), (x_up_k (x_up_k h5 (by omega)) (by omega)), (x_up_k (x_up_k h6 (by omega)) (by omega)), (x_up_k (x_up_k h7 (by omega)) (by omega)), (x_up_k (x_up_k h8 (by omega)) (by omega)), (x_up_k (x_up_k h9 (by omega)) (by omega)), (x_up_k (x_up_k h10 (by omega)) (by omega)), (x_up_k (x_up_k h11 (by omega)) (by omega)), (x_up_k (x_up_k h12 (by omega)) (by omega)), (x_up_k (x_up_k h13 (by omega)) (by omega)), (x_up_k (x_up_k h14 (by omega)) (by omega)), (x_up_k (x_up_k h15 (by omega)) (by omega)), (x_up_k (x_up_k h16 (by omega)) (by omega)), (x_up_k (x_up_k h17 (by omega)) (by omega)), (x_up_k (x_up_k h18 (by omega)) (by omega)), by omega, by omega, by omega, by omega, by omega, by omega⟩⟩)
                          · skip
                            have c102 : n ≠ 0 := by
                              have z : ¬ (n = 0) := fun zz => c102 ((nI_eq (a := n) (b := 0) (by omega) (by omega)).mpr zz)
                              omega
                            obtain ⟨n0, hn1⟩ : ∃ n0, n = n0 + 1 := ⟨n - 1, by omega⟩
                            refine x_aload_n F 6 dM_readsCode_258 rfl rfl ?_
                            refine x_get (ci := 6) F 7 (x_in inM) rfl (by decide) (x_m kfM_20) dM_readsCode_259 (x_up_k (x_up_k h0 (by omega)) (by omega)) rfl ?_
                            refine x_iload_n F 4 dM_readsCode_262 rfl rfl ?_
                            refine x_lald F dM_readsCode_263 x_up_s (pk_in (120 + n) (160) (by omega)) ?_
                            refine xW.tol (lN (cN tx (q + rM tx sn q) (rD tx sn (q + rM tx sn q)))) (by rw [nI_clamp (by omega)]; exact vp_us) ?_
                            refine x_aload_n F 6 dM_readsCode_264 rfl rfl ?_
                            refine x_get (ci := 6) F 7 (x_in inM) rfl (by decide) (x_m kfM_20) dM_readsCode_265 (x_up_k (x_up_k h0 (by omega)) (by omega)) rfl ?_
                            refine x_iload_n F 4 dM_readsCode_268 rfl rfl ?_
                            refine x_iconst F (v := nI (1)) dM_readsCode_269 (by decide) ?_
                            refine x_isub F dM_readsCode_270 ?_
                            refine xW.toi (nI (120 + n0)) (by rw [hn1]; exact nI_pred (120 + n0)) ?_
                            refine x_lald F dM_readsCode_271 x_up_s (pk_in (120 + n0) (160) (by omega)) ?_
                            refine xW.tol (lN (xs n0)) (by rw [nI_clamp (by omega)]; exact (updL_ne (by omega)).trans (hcd n0 (by omega)).1) ?_
                            refine yS (n := 2) (As := [.long (lN (cN tx (q + rM tx sn q) (rD tx sn (q + rM tx sn q)))), .long (lN (xs n0))]) F kmM_126 ktM_isBehind knM kcM_isBehind (by decide +kernel) dM_readsCode_272 (cM_isBehind l (nx) (x_up (x_up M (a + 4) (.inl (.int, 160, .inl (upd (ds) (120 + n) (nI (rM tx sn q)))))) (a + 3) (.inl (.long, 160, .inr (.inl (vp_updL (cd) (120 + n) (lN (cN tx (q + rM tx sn q) (rD tx sn (q + rM tx sn q))))))))) (cN tx (q + rM tx sn q) (rD tx sn (q + rM tx sn q))) (rD tx sn (q + rM tx sn q)) (xs n0) (dg n0) hX10 (hcd n0 (by omega)).2) rfl rfl (Nat.le_of_ble_eq_true rfl) ⟨Nat.le_of_ble_eq_true rfl, Nat.le_of_ble_eq_true rfl⟩ ⟨Nat.le_of_ble_eq_true rfl, Nat.le_of_ble_eq_true rfl⟩ ?_
                            refine x_if_ne F (tgt := 288) dM_readsCode_275 (by decide) (fun c103 => ?_) (fun c103 => ?_)
                            · skip
                              have c103 : (mbh (cN tx (q + rM tx sn q) (rD tx sn (q + rM tx sn q))) (rD tx sn (q + rM tx sn q)) (xs n0) (dg n0)) = true := bI_1 c103
                              have hbeh : mBeh xs dg n (cN tx (q + rM tx sn q) (rD tx sn (q + rM tx sn q))) (rD tx sn (q + rM tx sn q)) = true := by rw [hn1]; exact c103
                              refine x_iconst F (v := nI (1)) dM_readsCode_288 (by decide) ?_
                              refine x_goto F (tgt := 293) dM_readsCode_289 (by decide) ?_
                              exact x_zret F hr (by rfl) dM_readsCode_293 (by rw [show mrc tx sn ds xs dg n q = none from by rw [mrc, if_neg (fun z => c1 z.1), if_neg h70, if_neg c60, if_neg (by omega), if_neg c62, if_neg (by omega), if_neg c65, if_neg (by rw [hbad]; decide), if_neg (by rw [hbeh]; decide)]]; exact ⟨rfl, fun b hb => (x_up_n (by omega)).trans ((x_up_n (by omega)).trans (rfl)), rfl, ⟨(x_up_k (x_up_k h0 (by omega)) (by omega)), (x_up_k (x_up_k h1 (by omega)) (by omega)), (x_up_k (x_up_k h2 (by omega)) (by omega)), x_up_s, (x_up_k x_up_s (by omega)), (x_up_k (x_up_k h5 (by omega)) (by omega)), (x_up_k (x_up_k h6 (by omega)) (by omega)), (x_up_k (x_up_k h7 (by omega)) (by omega)), (x_up_k (x_up_k h8 (by omega)) (by omega)), (x_up_k (x_up_k h9 (by omega)) (by omega)), (x_up_k (x_up_k h10 (by omega)) (by omega)), (x_up_k (x_up_k h11 (by omega)) (by omega)), (x_up_k (x_up_k h12 (by omega)) (by omega)), (x_up_k (x_up_k h13 (by omega)) (by omega)), (x_up_k (x_up_k h14 (by omega)) (by omega)), (x_up_k (x_up_k h15 (by omega)) (by omega)), (x_up_k (x_up_k h16 (by omega)) (by omega)), (x_up_k (x_up_k h17 (by omega)) (by omega)), (x_up_k (x_up_k h18 (by omega)) (by omega)), by omega, by omega, by omega, by omega, by omega, by omega⟩⟩)
                            · skip
                              have c103 : (mbh (cN tx (q + rM tx sn q) (rD tx sn (q + rM tx sn q))) (rD tx sn (q + rM tx sn q)) (xs n0) (dg n0)) = false := bI_0 c103
                              have hbeh : mBeh xs dg n (cN tx (q + rM tx sn q) (rD tx sn (q + rM tx sn q))) (rD tx sn (q + rM tx sn q)) = false := by rw [hn1]; exact c103
                              refine x_aload_n F 6 dM_readsCode_278 rfl rfl ?_
                              refine x_iconst F (v := nI (4)) dM_readsCode_279 (by decide) ?_
                              refine x_iload F 2 dM_readsCode_280 rfl ?_
                              refine yVr (n := 2) (As := [.int (nI (4)), .int (nI (q + rM tx sn q))]) (ci := 6) F kmM_115 kiM_fails ksM_fails knM kcM_fails (by decide +kernel) dM_readsCode_282 (cM_fails l (nx) (x_up (x_up M (a + 4) (.inl (.int, 160, .inl (upd (ds) (120 + n) (nI (rM tx sn q)))))) (a + 3) (.inl (.long, 160, .inr (.inl (vp_updL (cd) (120 + n) (lN (cN tx (q + rM tx sn q) (rD tx sn (q + rM tx sn q))))))))) (a) th sg sn pr fk fp rws (vp_updL (cd) (120 + n) (lN (cN tx (q + rM tx sn q) (rD tx sn (q + rM tx sn q))))) (upd (ds) (120 + n) (nI (rM tx sn q))) wc wd nn nE nC nK nO ln lF lC lT lO fn fC fP ak ac pt ⟨(x_up_k (x_up_k h0 (by omega)) (by omega)), (x_up_k (x_up_k h1 (by omega)) (by omega)), (x_up_k (x_up_k h2 (by omega)) (by omega)), x_up_s, (x_up_k x_up_s (by omega)), (x_up_k (x_up_k h5 (by omega)) (by omega)), (x_up_k (x_up_k h6 (by omega)) (by omega)), (x_up_k (x_up_k h7 (by omega)) (by omega)), (x_up_k (x_up_k h8 (by omega)) (by omega)), (x_up_k (x_up_k h9 (by omega)) (by omega)), (x_up_k (x_up_k h10 (by omega)) (by omega)), (x_up_k (x_up_k h11 (by omega)) (by omega)), (x_up_k (x_up_k h12 (by omega)) (by omega)), (x_up_k (x_up_k h13 (by omega)) (by omega)), (x_up_k (x_up_k h14 (by omega)) (by omega)), (x_up_k (x_up_k h15 (by omega)) (by omega)), (x_up_k (x_up_k h16 (by omega)) (by omega)), (x_up_k (x_up_k h17 (by omega)) (by omega)), (x_up_k (x_up_k h18 (by omega)) (by omega)), by omega, by omega, by omega, by omega, by omega, by omega⟩ (nI (4)) (nI (q + rM tx sn q))) rfl (x_up_k (x_up_k h0 (by omega)) (by omega)) rfl rfl (Nat.le_of_ble_eq_true rfl) ⟨Nat.le_of_ble_eq_true rfl, Nat.le_of_ble_eq_true rfl⟩ ⟨Nat.le_of_ble_eq_true rfl, Nat.le_of_ble_eq_true rfl⟩ (fun r' n' M557 hp => ?_)
                              obtain ⟨hr', hn', hM557, hf557⟩ := hp
                              rw [hn', hr']
                              obtain ⟨v557_0, v557_1, v557_2, v557_3, v557_4, v557_5, v557_6, v557_7, v557_8, v557_9, v557_10, v557_11, v557_12, v557_13, v557_14, v557_15, v557_16, v557_17, v557_18, vb557_0, vb557_1, vb557_2, vb557_3, vb557_4, vb557_5⟩ := id hM557
                              show xW p l e ({ frames := 4, cells := 0, slots := 0, locals := 96 } : Room) s m args below meth c D xcl (x_A M nx) 8 (MQ below (x_Q D xcl (x_A M nx) (mcPost nx M a th sg sn pr fk fp rws cd ds wc wd nn nE nC nK nO ln lF lC lT lO fn fC fP ak ac pt n (rM tx sn q) (cN tx (q + rM tx sn q) (rD tx sn (q + rM tx sn q))) (mrc tx sn ds xs dg n q))) args s 0 0 (x_A M nx)) 0 0 (nx) M557 285 [(7, .int (nI (120 + j))), (6, .int (nI (rD tx sn (q + rM tx sn q)))), (5, .int (nI (q + rM tx sn q))), (4, .int (nI (rM tx sn q))), (3, .int (nI (120 + n))), (2, .int (nI (n))), (0, .ref (a)), (1, .int (nI (q)))] [.int (nI (0))]
                              refine x_if_eq F (tgt := 292) dM_readsCode_285 (by decide) (fun c104 => ?_) (fun c104 => ?_)
                              · skip
                                have c104 : 0 = 0 := by
                                  exact (nI_eq (a := 0) (b := 0) (by omega) (by omega)).mp c104
                                refine x_iconst F (v := nI (0)) dM_readsCode_292 (by decide) ?_
                                exact x_zret F hr (by rfl) dM_readsCode_293 (by rw [show mrc tx sn ds xs dg n q = some (4, q + rM tx sn q) from by rw [mrc, if_neg (fun z => c1 z.1), if_neg h70, if_neg c60, if_neg (by omega), if_neg c62, if_neg (by omega), if_neg c65, if_neg (by rw [hbad]; decide), if_pos hbeh]]; exact ⟨rfl, fun b hb => (hf557 _ (by omega)).trans ((x_up_n (by omega)).trans ((x_up_n (by omega)).trans (rfl))), rfl, _, _, (fun i hi => ⟨updL_ne (by omega), upd_ne (by omega)⟩), hM557⟩)
                              · skip
                                have c104 : 0 ≠ 0 := by
                                  have z : ¬ (0 = 0) := fun zz => c104 ((nI_eq (a := 0) (b := 0) (by omega) (by omega)).mpr zz)
                                  omega
                                exact absurd c104 (by decide)
                        · skip
                          have c101 : 0 < rM tx sn q := by
                            have z : ¬ (rM tx sn q ≤ 0) := fun zz => c101 ((nI_leI (a := rM tx sn q) (b := 0) (by omega) (by omega)).mpr zz)
                            omega
                          refine x_aload_n F 6 dM_readsCode_218 rfl rfl ?_
                          refine x_get (ci := 6) F 7 (x_in inM) rfl (by decide) (x_m kfM_20) dM_readsCode_219 (x_up_k (x_up_k h0 (by omega)) (by omega)) rfl ?_
                          refine x_iload_n F 4 dM_readsCode_222 rfl rfl ?_
                          refine x_lald F dM_readsCode_223 x_up_s (pk_in (120 + n) (160) (by omega)) ?_
                          refine xW.tol (lN (cN tx (q + rM tx sn q) (rD tx sn (q + rM tx sn q)))) (by rw [nI_clamp (by omega)]; exact vp_us) ?_
                          refine x_aload_n F 6 dM_readsCode_224 rfl rfl ?_
                          refine x_get (ci := 6) F 7 (x_in inM) rfl (by decide) (x_m kfM_20) dM_readsCode_225 (x_up_k (x_up_k h0 (by omega)) (by omega)) rfl ?_
                          refine x_iload F 0 dM_readsCode_228 rfl ?_
                          refine x_if_ge F (tgt := 237) dM_readsCode_230 (by decide) (fun c105 => ?_) (fun c105 => ?_)
                          · skip
                            have c105 : 0 ≤ 120 + j := by
                              exact (nI_leI (a := 0) (b := 120 + j) (by omega) (by omega)).mp c105
                            refine x_iload F 0 dM_readsCode_237 rfl ?_
                            refine x_lald F dM_readsCode_239 x_up_s (pk_in (120 + j) (160) (by omega)) ?_
                            refine xW.tol (lN (xs j)) (by rw [nI_clamp (by omega)]; exact (updL_ne (by omega)).trans (hcd j hj).1) ?_
                            refine yS (n := 2) (As := [.long (lN (cN tx (q + rM tx sn q) (rD tx sn (q + rM tx sn q)))), .long (lN (xs j))]) F kmM_107 ktM_begins knM kcM_begins (by decide +kernel) dM_readsCode_240 (cM_begins l (nx) (x_up (x_up M (a + 4) (.inl (.int, 160, .inl (upd (ds) (120 + n) (nI (rM tx sn q)))))) (a + 3) (.inl (.long, 160, .inr (.inl (vp_updL (cd) (120 + n) (lN (cN tx (q + rM tx sn q) (rD tx sn (q + rM tx sn q))))))))) (cN tx (q + rM tx sn q) (rD tx sn (q + rM tx sn q))) (rD tx sn (q + rM tx sn q)) (xs j) (dg j) hX10 (hcd j hj).2) rfl rfl (Nat.le_of_ble_eq_true rfl) ⟨Nat.le_of_ble_eq_true rfl, Nat.le_of_ble_eq_true rfl⟩ ⟨Nat.le_of_ble_eq_true rfl, Nat.le_of_ble_eq_true rfl⟩ ?_
                            refine x_if_ne F (tgt := 254) dM_readsCode_243 (by decide) (fun c106 => ?_) (fun c106 => ?_)
                            · skip
                              have c106 : (mbg (cN tx (q + rM tx sn q) (rD tx sn (q + rM tx sn q))) (rD tx sn (q + rM tx sn q)) (xs j) (dg j)) = true := bI_1 c106
                              have hla := mUp_la (by omega) hup
                              have hbad : mBad ds xs dg n (rM tx sn q) (cN tx (q + rM tx sn q) (rD tx sn (q + rM tx sn q))) (rD tx sn (q + rM tx sn q)) = false := by rw [mBad, if_neg (by omega), hla]; show (! mbg (cN tx (q + rM tx sn q) (rD tx sn (q + rM tx sn q))) (rD tx sn (q + rM tx sn q)) (xs j) (dg j)) = false; rw [c106]; rfl
                              refine x_iload_n F 5 dM_readsCode_254 rfl rfl ?_
                              refine x_if_eq F (tgt := 288) dM_readsCode_255 (by decide) (fun c107 => ?_) (fun c107 => ?_)
                              · skip
                                have c107 : n = 0 := by
                                  exact (nI_eq (a := n) (b := 0) (by omega) (by omega)).mp c107
                                have hbeh : mBeh xs dg n (cN tx (q + rM tx sn q) (rD tx sn (q + rM tx sn q))) (rD tx sn (q + rM tx sn q)) = true := by rw [c107]; rfl
                                refine x_iconst F (v := nI (1)) dM_readsCode_288 (by decide) ?_
                                refine x_goto F (tgt := 293) dM_readsCode_289 (by decide) ?_
                                exact x_zret F hr (by rfl) dM_readsCode_293 (by rw [show mrc tx sn ds xs dg n q = none from by rw [mrc, if_neg (fun z => c1 z.1), if_neg h70, if_neg c60, if_neg (by omega), if_neg c62, if_neg (by omega), if_neg c65, if_neg (by rw [hbad]; decide), if_neg (by rw [hbeh]; decide)]]; exact ⟨rfl, fun b hb => (x_up_n (by omega)).trans ((x_up_n (by omega)).trans (rfl)), rfl, ⟨(x_up_k (x_up_k h0 (by omega)) (by omega)), (x_up_k (x_up_k h1 (by omega)) (by omega)), (x_up_k (x_up_k h2 (by omega)) (by omega)), x_up_s, (x_up_k x_up_s (by omega)), (x_up_k (x_up_k h5 (by omega)) (by omega)), (x_up_k (x_up_k h6 (by omega)) (by omega)), (x_up_k (x_up_k h7 (by omega)) (by omega)), (x_up_k (x_up_k h8 (by omega)) (by omega)), (x_up_k (x_up_k h9 (by omega)) (by omega)), (x_up_k (x_up_k h10 (by omega)) (by omega)), (x_up_k (x_up_k h11 (by omega)) (by omega)), (x_up_k (x_up_k h12 (by omega)) (by omega)), (x_up_k (x_up_k h13 (by omega)) (by omega)), (x_up_k (x_up_k h14 (by omega)) (by omega)), (x_up_k (x_up_k h15 (by omega)) (by omega)), (x_up_k (x_up_k h16 (by omega)) (by omega)), (x_up_k (x_up_k h17 (by omega)) (by omega)), (x_up_k (x_up_k h18 (by omega)) (by omega)), by omega, by omega, by omega, by omega, by omega, by omega⟩⟩)
                              · skip
                                have c107 : n ≠ 0 := by
                                  have z : ¬ (n = 0) := fun zz => c107 ((nI_eq (a := n) (b := 0) (by omega) (by omega)).mpr zz)
                                  omega
                                obtain ⟨n0, hn1⟩ : ∃ n0, n = n0 + 1 := ⟨n - 1, by omega⟩
                                refine x_aload_n F 6 dM_readsCode_258 rfl rfl ?_
                                refine x_get (ci := 6) F 7 (x_in inM) rfl (by decide) (x_m kfM_20) dM_readsCode_259 (x_up_k (x_up_k h0 (by omega)) (by omega)) rfl ?_
                                refine x_iload_n F 4 dM_readsCode_262 rfl rfl ?_
                                refine x_lald F dM_readsCode_263 x_up_s (pk_in (120 + n) (160) (by omega)) ?_
                                refine xW.tol (lN (cN tx (q + rM tx sn q) (rD tx sn (q + rM tx sn q)))) (by rw [nI_clamp (by omega)]; exact vp_us) ?_
                                refine x_aload_n F 6 dM_readsCode_264 rfl rfl ?_
                                refine x_get (ci := 6) F 7 (x_in inM) rfl (by decide) (x_m kfM_20) dM_readsCode_265 (x_up_k (x_up_k h0 (by omega)) (by omega)) rfl ?_
                                refine x_iload_n F 4 dM_readsCode_268 rfl rfl ?_
                                refine x_iconst F (v := nI (1)) dM_readsCode_269 (by decide) ?_
                                refine x_isub F dM_readsCode_270 ?_
                                refine xW.toi (nI (120 + n0)) (by rw [hn1]; exact nI_pred (120 + n0)) ?_
                                refine x_lald F dM_readsCode_271 x_up_s (pk_in (120 + n0) (160) (by omega)) ?_
                                refine xW.tol (lN (xs n0)) (by rw [nI_clamp (by omega)]; exact (updL_ne (by omega)).trans (hcd n0 (by omega)).1) ?_
                                refine yS (n := 2) (As := [.long (lN (cN tx (q + rM tx sn q) (rD tx sn (q + rM tx sn q)))), .long (lN (xs n0))]) F kmM_126 ktM_isBehind knM kcM_isBehind (by decide +kernel) dM_readsCode_272 (cM_isBehind l (nx) (x_up (x_up M (a + 4) (.inl (.int, 160, .inl (upd (ds) (120 + n) (nI (rM tx sn q)))))) (a + 3) (.inl (.long, 160, .inr (.inl (vp_updL (cd) (120 + n) (lN (cN tx (q + rM tx sn q) (rD tx sn (q + rM tx sn q))))))))) (cN tx (q + rM tx sn q) (rD tx sn (q + rM tx sn q))) (rD tx sn (q + rM tx sn q)) (xs n0) (dg n0) hX10 (hcd n0 (by omega)).2) rfl rfl (Nat.le_of_ble_eq_true rfl) ⟨Nat.le_of_ble_eq_true rfl, Nat.le_of_ble_eq_true rfl⟩ ⟨Nat.le_of_ble_eq_true rfl, Nat.le_of_ble_eq_true rfl⟩ ?_
                                refine x_if_ne F (tgt := 288) dM_readsCode_275 (by decide) (fun c108 => ?_) (fun c108 => ?_)
                                · skip
                                  have c108 : (mbh (cN tx (q + rM tx sn q) (rD tx sn (q + rM tx sn q))) (rD tx sn (q + rM tx sn q)) (xs n0) (dg n0)) = true := bI_1 c108
                                  have hbeh : mBeh xs dg n (cN tx (q + rM tx sn q) (rD tx sn (q + rM tx sn q))) (rD tx sn (q + rM tx sn q)) = true := by rw [hn1]; exact c108
                                  refine x_iconst F (v := nI (1)) dM_readsCode_288 (by decide) ?_
                                  refine x_goto F (tgt := 293) dM_readsCode_289 (by decide) ?_
                                  exact x_zret F hr (by rfl) dM_readsCode_293 (by rw [show mrc tx sn ds xs dg n q = none from by rw [mrc, if_neg (fun z => c1 z.1), if_neg h70, if_neg c60, if_neg (by omega), if_neg c62, if_neg (by omega), if_neg c65, if_neg (by rw [hbad]; decide), if_neg (by rw [hbeh]; decide)]]; exact ⟨rfl, fun b hb => (x_up_n (by omega)).trans ((x_up_n (by omega)).trans (rfl)), rfl, ⟨(x_up_k (x_up_k h0 (by omega)) (by omega)), (x_up_k (x_up_k h1 (by omega)) (by omega)), (x_up_k (x_up_k h2 (by omega)) (by omega)), x_up_s, (x_up_k x_up_s (by omega)), (x_up_k (x_up_k h5 (by omega)) (by omega)), (x_up_k (x_up_k h6 (by omega)) (by omega)), (x_up_k (x_up_k h7 (by omega)) (by omega)), (x_up_k (x_up_k h8 (by omega)) (by omega)), (x_up_k (x_up_k h9 (by omega)) (by omega)), (x_up_k (x_up_k h10 (by omega)) (by omega)), (x_up_k (x_up_k h11 (by omega)) (by omega)), (x_up_k (x_up_k h12 (by omega)) (by omega)), (x_up_k (x_up_k h13 (by omega)) (by omega)), (x_up_k (x_up_k h14 (by omega)) (by omega)), (x_up_k (x_up_k h15 (by omega)) (by omega)), (x_up_k (x_up_k h16 (by omega)) (by omega)), (x_up_k (x_up_k h17 (by omega)) (by omega)), (x_up_k (x_up_k h18 (by omega)) (by omega)), by omega, by omega, by omega, by omega, by omega, by omega⟩⟩)
                                · skip
                                  have c108 : (mbh (cN tx (q + rM tx sn q) (rD tx sn (q + rM tx sn q))) (rD tx sn (q + rM tx sn q)) (xs n0) (dg n0)) = false := bI_0 c108
                                  have hbeh : mBeh xs dg n (cN tx (q + rM tx sn q) (rD tx sn (q + rM tx sn q))) (rD tx sn (q + rM tx sn q)) = false := by rw [hn1]; exact c108
                                  refine x_aload_n F 6 dM_readsCode_278 rfl rfl ?_
                                  refine x_iconst F (v := nI (4)) dM_readsCode_279 (by decide) ?_
                                  refine x_iload F 2 dM_readsCode_280 rfl ?_
                                  refine yVr (n := 2) (As := [.int (nI (4)), .int (nI (q + rM tx sn q))]) (ci := 6) F kmM_115 kiM_fails ksM_fails knM kcM_fails (by decide +kernel) dM_readsCode_282 (cM_fails l (nx) (x_up (x_up M (a + 4) (.inl (.int, 160, .inl (upd (ds) (120 + n) (nI (rM tx sn q)))))) (a + 3) (.inl (.long, 160, .inr (.inl (vp_updL (cd) (120 + n) (lN (cN tx (q + rM tx sn q) (rD tx sn (q + rM tx sn q))))))))) (a) th sg sn pr fk fp rws (vp_updL (cd) (120 + n) (lN (cN tx (q + rM tx sn q) (rD tx sn (q + rM tx sn q))))) (upd (ds) (120 + n) (nI (rM tx sn q))) wc wd nn nE nC nK nO ln lF lC lT lO fn fC fP ak ac pt ⟨(x_up_k (x_up_k h0 (by omega)) (by omega)), (x_up_k (x_up_k h1 (by omega)) (by omega)), (x_up_k (x_up_k h2 (by omega)) (by omega)), x_up_s, (x_up_k x_up_s (by omega)), (x_up_k (x_up_k h5 (by omega)) (by omega)), (x_up_k (x_up_k h6 (by omega)) (by omega)), (x_up_k (x_up_k h7 (by omega)) (by omega)), (x_up_k (x_up_k h8 (by omega)) (by omega)), (x_up_k (x_up_k h9 (by omega)) (by omega)), (x_up_k (x_up_k h10 (by omega)) (by omega)), (x_up_k (x_up_k h11 (by omega)) (by omega)), (x_up_k (x_up_k h12 (by omega)) (by omega)), (x_up_k (x_up_k h13 (by omega)) (by omega)), (x_up_k (x_up_k h14 (by omega)) (by omega)), (x_up_k (x_up_k h15 (by omega)) (by omega)), (x_up_k (x_up_k h16 (by omega)) (by omega)), (x_up_k (x_up_k h17 (by omega)) (by omega)), (x_up_k (x_up_k h18 (by omega)) (by omega)), by omega, by omega, by omega, by omega, by omega, by omega⟩ (nI (4)) (nI (q + rM tx sn q))) rfl (x_up_k (x_up_k h0 (by omega)) (by omega)) rfl rfl (Nat.le_of_ble_eq_true rfl) ⟨Nat.le_of_ble_eq_true rfl, Nat.le_of_ble_eq_true rfl⟩ ⟨Nat.le_of_ble_eq_true rfl, Nat.le_of_ble_eq_true rfl⟩ (fun r' n' M558 hp => ?_)
                                  obtain ⟨hr', hn', hM558, hf558⟩ := hp
                                  rw [hn', hr']
                                  obtain ⟨v558_0, v558_1, v558_2, v558_3, v558_4, v558_5, v558_6, v558_7, v558_8, v558_9, v558_10, v558_11, v558_12, v558_13, v558_14, v558_15, v558_16, v558_17, v558_18, vb558_0, vb558_1, vb558_2, vb558_3, vb558_4, vb558_5⟩ := id hM558
                                  show xW p l e ({ frames := 4, cells := 0, slots := 0, locals := 96 } : Room) s m args below meth c D xcl (x_A M nx) 8 (MQ below (x_Q D xcl (x_A M nx) (mcPost nx M a th sg sn pr fk fp rws cd ds wc wd nn nE nC nK nO ln lF lC lT lO fn fC fP ak ac pt n (rM tx sn q) (cN tx (q + rM tx sn q) (rD tx sn (q + rM tx sn q))) (mrc tx sn ds xs dg n q))) args s 0 0 (x_A M nx)) 0 0 (nx) M558 285 [(7, .int (nI (120 + j))), (6, .int (nI (rD tx sn (q + rM tx sn q)))), (5, .int (nI (q + rM tx sn q))), (4, .int (nI (rM tx sn q))), (3, .int (nI (120 + n))), (2, .int (nI (n))), (0, .ref (a)), (1, .int (nI (q)))] [.int (nI (0))]
                                  refine x_if_eq F (tgt := 292) dM_readsCode_285 (by decide) (fun c109 => ?_) (fun c109 => ?_)
                                  · skip
                                    have c109 : 0 = 0 := by
                                      exact (nI_eq (a := 0) (b := 0) (by omega) (by omega)).mp c109
                                    refine x_iconst F (v := nI (0)) dM_readsCode_292 (by decide) ?_
                                    exact x_zret F hr (by rfl) dM_readsCode_293 (by rw [show mrc tx sn ds xs dg n q = some (4, q + rM tx sn q) from by rw [mrc, if_neg (fun z => c1 z.1), if_neg h70, if_neg c60, if_neg (by omega), if_neg c62, if_neg (by omega), if_neg c65, if_neg (by rw [hbad]; decide), if_pos hbeh]]; exact ⟨rfl, fun b hb => (hf558 _ (by omega)).trans ((x_up_n (by omega)).trans ((x_up_n (by omega)).trans (rfl))), rfl, _, _, (fun i hi => ⟨updL_ne (by omega), upd_ne (by omega)⟩), hM558⟩)
                                  · skip
                                    have c109 : 0 ≠ 0 := by
                                      have z : ¬ (0 = 0) := fun zz => c109 ((nI_eq (a := 0) (b := 0) (by omega) (by omega)).mpr zz)
                                      omega
                                    exact absurd c109 (by decide)
                            · skip
                              have c106 : (mbg (cN tx (q + rM tx sn q) (rD tx sn (q + rM tx sn q))) (rD tx sn (q + rM tx sn q)) (xs j) (dg j)) = false := bI_0 c106
                              have hla := mUp_la (by omega) hup
                              have hbad : mBad ds xs dg n (rM tx sn q) (cN tx (q + rM tx sn q) (rD tx sn (q + rM tx sn q))) (rD tx sn (q + rM tx sn q)) = true := by rw [mBad, if_neg (by omega), hla]; show (! mbg (cN tx (q + rM tx sn q) (rD tx sn (q + rM tx sn q))) (rD tx sn (q + rM tx sn q)) (xs j) (dg j)) = true; rw [c106]; rfl
                              refine x_aload_n F 6 dM_readsCode_246 rfl rfl ?_
                              refine x_iconst F (v := nI (3)) dM_readsCode_247 (by decide) ?_
                              refine x_iload F 2 dM_readsCode_248 rfl ?_
                              refine yVr (n := 2) (As := [.int (nI (3)), .int (nI (q + rM tx sn q))]) (ci := 6) F kmM_115 kiM_fails ksM_fails knM kcM_fails (by decide +kernel) dM_readsCode_250 (cM_fails l (nx) (x_up (x_up M (a + 4) (.inl (.int, 160, .inl (upd (ds) (120 + n) (nI (rM tx sn q)))))) (a + 3) (.inl (.long, 160, .inr (.inl (vp_updL (cd) (120 + n) (lN (cN tx (q + rM tx sn q) (rD tx sn (q + rM tx sn q))))))))) (a) th sg sn pr fk fp rws (vp_updL (cd) (120 + n) (lN (cN tx (q + rM tx sn q) (rD tx sn (q + rM tx sn q))))) (upd (ds) (120 + n) (nI (rM tx sn q))) wc wd nn nE nC nK nO ln lF lC lT lO fn fC fP ak ac pt ⟨(x_up_k (x_up_k h0 (by omega)) (by omega)), (x_up_k (x_up_k h1 (by omega)) (by omega)), (x_up_k (x_up_k h2 (by omega)) (by omega)), x_up_s, (x_up_k x_up_s (by omega)), (x_up_k (x_up_k h5 (by omega)) (by omega)), (x_up_k (x_up_k h6 (by omega)) (by omega)), (x_up_k (x_up_k h7 (by omega)) (by omega)), (x_up_k (x_up_k h8 (by omega)) (by omega)), (x_up_k (x_up_k h9 (by omega)) (by omega)), (x_up_k (x_up_k h10 (by omega)) (by omega)), (x_up_k (x_up_k h11 (by omega)) (by omega)), (x_up_k (x_up_k h12 (by omega)) (by omega)), (x_up_k (x_up_k h13 (by omega)) (by omega)), (x_up_k (x_up_k h14 (by omega)) (by omega)), (x_up_k (x_up_k h15 (by omega)) (by omega)), (x_up_k (x_up_k h16 (by omega)) (by omega)), (x_up_k (x_up_k h17 (by omega)) (by omega)), (x_up_k (x_up_k h18 (by omega)) (by omega)), by omega, by omega, by omega, by omega, by omega, by omega⟩ (nI (3)) (nI (q + rM tx sn q))) rfl (x_up_k (x_up_k h0 (by omega)) (by omega)) rfl rfl (Nat.le_of_ble_eq_true rfl) ⟨Nat.le_of_ble_eq_true rfl, Nat.le_of_ble_eq_true rfl⟩ ⟨Nat.le_of_ble_eq_true rfl, Nat.le_of_ble_eq_true rfl⟩ (fun r' n' M559 hp => ?_)
                              obtain ⟨hr', hn', hM559, hf559⟩ := hp
                              rw [hn', hr']
                              obtain ⟨v559_0, v559_1, v559_2, v559_3, v559_4, v559_5, v559_6, v559_7, v559_8, v559_9, v559_10, v559_11, v559_12, v559_13, v559_14, v559_15, v559_16, v559_17, v559_18, vb559_0, vb559_1, vb559_2, vb559_3, vb559_4, vb559_5⟩ := id hM559
                              show xW p l e ({ frames := 4, cells := 0, slots := 0, locals := 96 } : Room) s m args below meth c D xcl (x_A M nx) 8 (MQ below (x_Q D xcl (x_A M nx) (mcPost nx M a th sg sn pr fk fp rws cd ds wc wd nn nE nC nK nO ln lF lC lT lO fn fC fP ak ac pt n (rM tx sn q) (cN tx (q + rM tx sn q) (rD tx sn (q + rM tx sn q))) (mrc tx sn ds xs dg n q))) args s 0 0 (x_A M nx)) 0 0 (nx) M559 253 [(7, .int (nI (120 + j))), (6, .int (nI (rD tx sn (q + rM tx sn q)))), (5, .int (nI (q + rM tx sn q))), (4, .int (nI (rM tx sn q))), (3, .int (nI (120 + n))), (2, .int (nI (n))), (0, .ref (a)), (1, .int (nI (q)))] [.int (nI (0))]
                              exact x_zret F hr (by rfl) dM_readsCode_253 (by rw [show mrc tx sn ds xs dg n q = some (3, q + rM tx sn q) from by rw [mrc, if_neg (fun z => c1 z.1), if_neg h70, if_neg c60, if_neg (by omega), if_neg c62, if_neg (by omega), if_neg c65, if_pos hbad]]; exact ⟨rfl, fun b hb => (hf559 _ (by omega)).trans ((x_up_n (by omega)).trans ((x_up_n (by omega)).trans (rfl))), rfl, _, _, (fun i hi => ⟨updL_ne (by omega), upd_ne (by omega)⟩), hM559⟩)
                          · skip
                            have c105 : 120 + j < 0 := by
                              have z : ¬ (0 ≤ 120 + j) := fun zz => c105 ((nI_leI (a := 0) (b := 120 + j) (by omega) (by omega)).mpr zz)
                              omega
                            refine x_iload_n F 4 dM_readsCode_233 rfl rfl ?_
                            refine x_goto F (tgt := 239) dM_readsCode_234 (by decide) ?_
                            refine x_lald F dM_readsCode_239 x_up_s (pk_in (120 + n) (160) (by omega)) ?_
                            refine xW.tol (lN (cN tx (q + rM tx sn q) (rD tx sn (q + rM tx sn q)))) (by rw [nI_clamp (by omega)]; exact vp_us) ?_
                            refine yS (n := 2) (As := [.long (lN (cN tx (q + rM tx sn q) (rD tx sn (q + rM tx sn q)))), .long (lN (cN tx (q + rM tx sn q) (rD tx sn (q + rM tx sn q))))]) F kmM_107 ktM_begins knM kcM_begins (by decide +kernel) dM_readsCode_240 (cM_begins l (nx) (x_up (x_up M (a + 4) (.inl (.int, 160, .inl (upd (ds) (120 + n) (nI (rM tx sn q)))))) (a + 3) (.inl (.long, 160, .inr (.inl (vp_updL (cd) (120 + n) (lN (cN tx (q + rM tx sn q) (rD tx sn (q + rM tx sn q))))))))) (cN tx (q + rM tx sn q) (rD tx sn (q + rM tx sn q))) (rD tx sn (q + rM tx sn q)) (cN tx (q + rM tx sn q) (rD tx sn (q + rM tx sn q))) (rD tx sn (q + rM tx sn q)) hX10 hX10) rfl rfl (Nat.le_of_ble_eq_true rfl) ⟨Nat.le_of_ble_eq_true rfl, Nat.le_of_ble_eq_true rfl⟩ ⟨Nat.le_of_ble_eq_true rfl, Nat.le_of_ble_eq_true rfl⟩ ?_
                            refine x_if_ne F (tgt := 254) dM_readsCode_243 (by decide) (fun c110 => ?_) (fun c110 => ?_)
                            · skip
                              have c110 : (mbg (cN tx (q + rM tx sn q) (rD tx sn (q + rM tx sn q))) (rD tx sn (q + rM tx sn q)) (cN tx (q + rM tx sn q) (rD tx sn (q + rM tx sn q))) (rD tx sn (q + rM tx sn q))) = true := bI_1 c110
                              have hla := mUp_la (by omega) hup
                              have hbad : mBad ds xs dg n (rM tx sn q) (cN tx (q + rM tx sn q) (rD tx sn (q + rM tx sn q))) (rD tx sn (q + rM tx sn q)) = false := by rw [mBad, if_neg (by omega), hla]; show (! mbg (cN tx (q + rM tx sn q) (rD tx sn (q + rM tx sn q))) (rD tx sn (q + rM tx sn q)) (xs j) (dg j)) = false; rw [c110]; rfl
                              refine x_iload_n F 5 dM_readsCode_254 rfl rfl ?_
                              refine x_if_eq F (tgt := 288) dM_readsCode_255 (by decide) (fun c111 => ?_) (fun c111 => ?_)
                              · skip
                                have c111 : n = 0 := by
                                  exact (nI_eq (a := n) (b := 0) (by omega) (by omega)).mp c111
                                have hbeh : mBeh xs dg n (cN tx (q + rM tx sn q) (rD tx sn (q + rM tx sn q))) (rD tx sn (q + rM tx sn q)) = true := by rw [c111]; rfl
                                refine x_iconst F (v := nI (1)) dM_readsCode_288 (by decide) ?_
                                refine x_goto F (tgt := 293) dM_readsCode_289 (by decide) ?_
                                exact x_zret F hr (by rfl) dM_readsCode_293 (by rw [show mrc tx sn ds xs dg n q = none from by rw [mrc, if_neg (fun z => c1 z.1), if_neg h70, if_neg c60, if_neg (by omega), if_neg c62, if_neg (by omega), if_neg c65, if_neg (by rw [hbad]; decide), if_neg (by rw [hbeh]; decide)]]; exact ⟨rfl, fun b hb => (x_up_n (by omega)).trans ((x_up_n (by omega)).trans (rfl)), rfl, ⟨(x_up_k (x_up_k h0 (by omega)) (by omega)), (x_up_k (x_up_k h1 (by omega)) (by omega)), (x_up_k (x_up_k h2 (by omega)) (by omega)), x_up_s, (x_up_k x_up_s (by omega)), (x_up_k (x_up_k h5 (by omega)) (by omega)), (x_up_k (x_up_k h6 (by omega)) (by omega)), (x_up_k (x_up_k h7 (by omega)) (by omega)), (x_up_k (x_up_k h8 (by omega)) (by omega)), (x_up_k (x_up_k h9 (by omega)) (by omega)), (x_up_k (x_up_k h10 (by omega)) (by omega)), (x_up_k (x_up_k h11 (by omega)) (by omega)), (x_up_k (x_up_k h12 (by omega)) (by omega)), (x_up_k (x_up_k h13 (by omega)) (by omega)), (x_up_k (x_up_k h14 (by omega)) (by omega)), (x_up_k (x_up_k h15 (by omega)) (by omega)), (x_up_k (x_up_k h16 (by omega)) (by omega)), (x_up_k (x_up_k h17 (by omega)) (by omega)), (x_up_k (x_up_k h18 (by omega)) (by omega)), by omega, by omega, by omega, by omega, by omega, by omega⟩⟩)
                              · skip
                                have c111 : n ≠ 0 := by
                                  have z : ¬ (n = 0) := fun zz => c111 ((nI_eq (a := n) (b := 0) (by omega) (by omega)).mpr zz)
                                  omega
                                obtain ⟨n0, hn1⟩ : ∃ n0, n = n0 + 1 := ⟨n - 1, by omega⟩
                                refine x_aload_n F 6 dM_readsCode_258 rfl rfl ?_
                                refine x_get (ci := 6) F 7 (x_in inM) rfl (by decide) (x_m kfM_20) dM_readsCode_259 (x_up_k (x_up_k h0 (by omega)) (by omega)) rfl ?_
                                refine x_iload_n F 4 dM_readsCode_262 rfl rfl ?_
                                refine x_lald F dM_readsCode_263 x_up_s (pk_in (120 + n) (160) (by omega)) ?_
                                refine xW.tol (lN (cN tx (q + rM tx sn q) (rD tx sn (q + rM tx sn q)))) (by rw [nI_clamp (by omega)]; exact vp_us) ?_
                                refine x_aload_n F 6 dM_readsCode_264 rfl rfl ?_
                                refine x_get (ci := 6) F 7 (x_in inM) rfl (by decide) (x_m kfM_20) dM_readsCode_265 (x_up_k (x_up_k h0 (by omega)) (by omega)) rfl ?_
                                refine x_iload_n F 4 dM_readsCode_268 rfl rfl ?_
                                refine x_iconst F (v := nI (1)) dM_readsCode_269 (by decide) ?_
                                refine x_isub F dM_readsCode_270 ?_
                                refine xW.toi (nI (120 + n0)) (by rw [hn1]; exact nI_pred (120 + n0)) ?_
                                refine x_lald F dM_readsCode_271 x_up_s (pk_in (120 + n0) (160) (by omega)) ?_
                                refine xW.tol (lN (xs n0)) (by rw [nI_clamp (by omega)]; exact (updL_ne (by omega)).trans (hcd n0 (by omega)).1) ?_
                                refine yS (n := 2) (As := [.long (lN (cN tx (q + rM tx sn q) (rD tx sn (q + rM tx sn q)))), .long (lN (xs n0))]) F kmM_126 ktM_isBehind knM kcM_isBehind (by decide +kernel) dM_readsCode_272 (cM_isBehind l (nx) (x_up (x_up M (a + 4) (.inl (.int, 160, .inl (upd (ds) (120 + n) (nI (rM tx sn q)))))) (a + 3) (.inl (.long, 160, .inr (.inl (vp_updL (cd) (120 + n) (lN (cN tx (q + rM tx sn q) (rD tx sn (q + rM tx sn q))))))))) (cN tx (q + rM tx sn q) (rD tx sn (q + rM tx sn q))) (rD tx sn (q + rM tx sn q)) (xs n0) (dg n0) hX10 (hcd n0 (by omega)).2) rfl rfl (Nat.le_of_ble_eq_true rfl) ⟨Nat.le_of_ble_eq_true rfl, Nat.le_of_ble_eq_true rfl⟩ ⟨Nat.le_of_ble_eq_true rfl, Nat.le_of_ble_eq_true rfl⟩ ?_
                                refine x_if_ne F (tgt := 288) dM_readsCode_275 (by decide) (fun c112 => ?_) (fun c112 => ?_)
                                · skip
                                  have c112 : (mbh (cN tx (q + rM tx sn q) (rD tx sn (q + rM tx sn q))) (rD tx sn (q + rM tx sn q)) (xs n0) (dg n0)) = true := bI_1 c112
                                  have hbeh : mBeh xs dg n (cN tx (q + rM tx sn q) (rD tx sn (q + rM tx sn q))) (rD tx sn (q + rM tx sn q)) = true := by rw [hn1]; exact c112
                                  refine x_iconst F (v := nI (1)) dM_readsCode_288 (by decide) ?_
                                  refine x_goto F (tgt := 293) dM_readsCode_289 (by decide) ?_
                                  exact x_zret F hr (by rfl) dM_readsCode_293 (by rw [show mrc tx sn ds xs dg n q = none from by rw [mrc, if_neg (fun z => c1 z.1), if_neg h70, if_neg c60, if_neg (by omega), if_neg c62, if_neg (by omega), if_neg c65, if_neg (by rw [hbad]; decide), if_neg (by rw [hbeh]; decide)]]; exact ⟨rfl, fun b hb => (x_up_n (by omega)).trans ((x_up_n (by omega)).trans (rfl)), rfl, ⟨(x_up_k (x_up_k h0 (by omega)) (by omega)), (x_up_k (x_up_k h1 (by omega)) (by omega)), (x_up_k (x_up_k h2 (by omega)) (by omega)), x_up_s, (x_up_k x_up_s (by omega)), (x_up_k (x_up_k h5 (by omega)) (by omega)), (x_up_k (x_up_k h6 (by omega)) (by omega)), (x_up_k (x_up_k h7 (by omega)) (by omega)), (x_up_k (x_up_k h8 (by omega)) (by omega)), (x_up_k (x_up_k h9 (by omega)) (by omega)), (x_up_k (x_up_k h10 (by omega)) (by omega)), (x_up_k (x_up_k h11 (by omega)) (by omega)), (x_up_k (x_up_k h12 (by omega)) (by omega)), (x_up_k (x_up_k h13 (by omega)) (by omega)), (x_up_k (x_up_k h14 (by omega)) (by omega)), (x_up_k (x_up_k h15 (by omega)) (by omega)), (x_up_k (x_up_k h16 (by omega)) (by omega)), (x_up_k (x_up_k h17 (by omega)) (by omega)), (x_up_k (x_up_k h18 (by omega)) (by omega)), by omega, by omega, by omega, by omega, by omega, by omega⟩⟩)
                                · skip
                                  have c112 : (mbh (cN tx (q + rM tx sn q) (rD tx sn (q + rM tx sn q))) (rD tx sn (q + rM tx sn q)) (xs n0) (dg n0)) = false := bI_0 c112
                                  have hbeh : mBeh xs dg n (cN tx (q + rM tx sn q) (rD tx sn (q + rM tx sn q))) (rD tx sn (q + rM tx sn q)) = false := by rw [hn1]; exact c112
                                  refine x_aload_n F 6 dM_readsCode_278 rfl rfl ?_
                                  refine x_iconst F (v := nI (4)) dM_readsCode_279 (by decide) ?_
                                  refine x_iload F 2 dM_readsCode_280 rfl ?_
                                  refine yVr (n := 2) (As := [.int (nI (4)), .int (nI (q + rM tx sn q))]) (ci := 6) F kmM_115 kiM_fails ksM_fails knM kcM_fails (by decide +kernel) dM_readsCode_282 (cM_fails l (nx) (x_up (x_up M (a + 4) (.inl (.int, 160, .inl (upd (ds) (120 + n) (nI (rM tx sn q)))))) (a + 3) (.inl (.long, 160, .inr (.inl (vp_updL (cd) (120 + n) (lN (cN tx (q + rM tx sn q) (rD tx sn (q + rM tx sn q))))))))) (a) th sg sn pr fk fp rws (vp_updL (cd) (120 + n) (lN (cN tx (q + rM tx sn q) (rD tx sn (q + rM tx sn q))))) (upd (ds) (120 + n) (nI (rM tx sn q))) wc wd nn nE nC nK nO ln lF lC lT lO fn fC fP ak ac pt ⟨(x_up_k (x_up_k h0 (by omega)) (by omega)), (x_up_k (x_up_k h1 (by omega)) (by omega)), (x_up_k (x_up_k h2 (by omega)) (by omega)), x_up_s, (x_up_k x_up_s (by omega)), (x_up_k (x_up_k h5 (by omega)) (by omega)), (x_up_k (x_up_k h6 (by omega)) (by omega)), (x_up_k (x_up_k h7 (by omega)) (by omega)), (x_up_k (x_up_k h8 (by omega)) (by omega)), (x_up_k (x_up_k h9 (by omega)) (by omega)), (x_up_k (x_up_k h10 (by omega)) (by omega)), (x_up_k (x_up_k h11 (by omega)) (by omega)), (x_up_k (x_up_k h12 (by omega)) (by omega)), (x_up_k (x_up_k h13 (by omega)) (by omega)), (x_up_k (x_up_k h14 (by omega)) (by omega)), (x_up_k (x_up_k h15 (by omega)) (by omega)), (x_up_k (x_up_k h16 (by omega)) (by omega)), (x_up_k (x_up_k h17 (by omega)) (by omega)), (x_up_k (x_up_k h18 (by omega)) (by omega)), by omega, by omega, by omega, by omega, by omega, by omega⟩ (nI (4)) (nI (q + rM tx sn q))) rfl (x_up_k (x_up_k h0 (by omega)) (by omega)) rfl rfl (Nat.le_of_ble_eq_true rfl) ⟨Nat.le_of_ble_eq_true rfl, Nat.le_of_ble_eq_true rfl⟩ ⟨Nat.le_of_ble_eq_true rfl, Nat.le_of_ble_eq_true rfl⟩ (fun r' n' M560 hp => ?_)
                                  obtain ⟨hr', hn', hM560, hf560⟩ := hp
                                  rw [hn', hr']
                                  obtain ⟨v560_0, v560_1, v560_2, v560_3, v560_4, v560_5, v560_6, v560_7, v560_8, v560_9, v560_10, v560_11, v560_12, v560_13, v560_14, v560_15, v560_16, v560_17, v560_18, vb560_0, vb560_1, vb560_2, vb560_3, vb560_4, vb560_5⟩ := id hM560
                                  show xW p l e ({ frames := 4, cells := 0, slots := 0, locals := 96 } : Room) s m args below meth c D xcl (x_A M nx) 8 (MQ below (x_Q D xcl (x_A M nx) (mcPost nx M a th sg sn pr fk fp rws cd ds wc wd nn nE nC nK nO ln lF lC lT lO fn fC fP ak ac pt n (rM tx sn q) (cN tx (q + rM tx sn q) (rD tx sn (q + rM tx sn q))) (mrc tx sn ds xs dg n q))) args s 0 0 (x_A M nx)) 0 0 (nx) M560 285 [(7, .int (nI (120 + j))), (6, .int (nI (rD tx sn (q + rM tx sn q)))), (5, .int (nI (q + rM tx sn q))), (4, .int (nI (rM tx sn q))), (3, .int (nI (120 + n))), (2, .int (nI (n))), (0, .ref (a)), (1, .int (nI (q)))] [.int (nI (0))]
                                  refine x_if_eq F (tgt := 292) dM_readsCode_285 (by decide) (fun c113 => ?_) (fun c113 => ?_)
                                  · skip
                                    have c113 : 0 = 0 := by
                                      exact (nI_eq (a := 0) (b := 0) (by omega) (by omega)).mp c113
                                    refine x_iconst F (v := nI (0)) dM_readsCode_292 (by decide) ?_
                                    exact x_zret F hr (by rfl) dM_readsCode_293 (by rw [show mrc tx sn ds xs dg n q = some (4, q + rM tx sn q) from by rw [mrc, if_neg (fun z => c1 z.1), if_neg h70, if_neg c60, if_neg (by omega), if_neg c62, if_neg (by omega), if_neg c65, if_neg (by rw [hbad]; decide), if_pos hbeh]]; exact ⟨rfl, fun b hb => (hf560 _ (by omega)).trans ((x_up_n (by omega)).trans ((x_up_n (by omega)).trans (rfl))), rfl, _, _, (fun i hi => ⟨updL_ne (by omega), upd_ne (by omega)⟩), hM560⟩)
                                  · skip
                                    have c113 : 0 ≠ 0 := by
                                      have z : ¬ (0 = 0) := fun zz => c113 ((nI_eq (a := 0) (b := 0) (by omega) (by omega)).mpr zz)
                                      omega
                                    exact absurd c113 (by decide)
                            · skip
                              have c110 : (mbg (cN tx (q + rM tx sn q) (rD tx sn (q + rM tx sn q))) (rD tx sn (q + rM tx sn q)) (cN tx (q + rM tx sn q) (rD tx sn (q + rM tx sn q))) (rD tx sn (q + rM tx sn q))) = false := bI_0 c110
                              have hla := mUp_la (by omega) hup
                              have hbad : mBad ds xs dg n (rM tx sn q) (cN tx (q + rM tx sn q) (rD tx sn (q + rM tx sn q))) (rD tx sn (q + rM tx sn q)) = true := by rw [mBad, if_neg (by omega), hla]; show (! mbg (cN tx (q + rM tx sn q) (rD tx sn (q + rM tx sn q))) (rD tx sn (q + rM tx sn q)) (xs j) (dg j)) = true; rw [c110]; rfl
                              refine x_aload_n F 6 dM_readsCode_246 rfl rfl ?_
                              refine x_iconst F (v := nI (3)) dM_readsCode_247 (by decide) ?_
                              refine x_iload F 2 dM_readsCode_248 rfl ?_
                              refine yVr (n := 2) (As := [.int (nI (3)), .int (nI (q + rM tx sn q))]) (ci := 6) F kmM_115 kiM_fails ksM_fails knM kcM_fails (by decide +kernel) dM_readsCode_250 (cM_fails l (nx) (x_up (x_up M (a + 4) (.inl (.int, 160, .inl (upd (ds) (120 + n) (nI (rM tx sn q)))))) (a + 3) (.inl (.long, 160, .inr (.inl (vp_updL (cd) (120 + n) (lN (cN tx (q + rM tx sn q) (rD tx sn (q + rM tx sn q))))))))) (a) th sg sn pr fk fp rws (vp_updL (cd) (120 + n) (lN (cN tx (q + rM tx sn q) (rD tx sn (q + rM tx sn q))))) (upd (ds) (120 + n) (nI (rM tx sn q))) wc wd nn nE nC nK nO ln lF lC lT lO fn fC fP ak ac pt ⟨(x_up_k (x_up_k h0 (by omega)) (by omega)), (x_up_k (x_up_k h1 (by omega)) (by omega)), (x_up_k (x_up_k h2 (by omega)) (by omega)), x_up_s, (x_up_k x_up_s (by omega)), (x_up_k (x_up_k h5 (by omega)) (by omega)), (x_up_k (x_up_k h6 (by omega)) (by omega)), (x_up_k (x_up_k h7 (by omega)) (by omega)), (x_up_k (x_up_k h8 (by omega)) (by omega)), (x_up_k (x_up_k h9 (by omega)) (by omega)), (x_up_k (x_up_k h10 (by omega)) (by omega)), (x_up_k (x_up_k h11 (by omega)) (by omega)), (x_up_k (x_up_k h12 (by omega)) (by omega)), (x_up_k (x_up_k h13 (by omega)) (by omega)), (x_up_k (x_up_k h14 (by omega)) (by omega)), (x_up_k (x_up_k h15 (by omega)) (by omega)), (x_up_k (x_up_k h16 (by omega)) (by omega)), (x_up_k (x_up_k h17 (by omega)) (by omega)), (x_up_k (x_up_k h18 (by omega)) (by omega)), by omega, by omega, by omega, by omega, by omega, by omega⟩ (nI (3)) (nI (q + rM tx sn q))) rfl (x_up_k (x_up_k h0 (by omega)) (by omega)) rfl rfl (Nat.le_of_ble_eq_true rfl) ⟨Nat.le_of_ble_eq_true rfl, Nat.le_of_ble_eq_true rfl⟩ ⟨Nat.le_of_ble_eq_true rfl, Nat.le_of_ble_eq_true rfl⟩ (fun r' n' M561 hp => ?_)
                              obtain ⟨hr', hn', hM561, hf561⟩ := hp
                              rw [hn', hr']
                              obtain ⟨v561_0, v561_1, v561_2, v561_3, v561_4, v561_5, v561_6, v561_7, v561_8, v561_9, v561_10, v561_11, v561_12, v561_13, v561_14, v561_15, v561_16, v561_17, v561_18, vb561_0, vb561_1, vb561_2, vb561_3, vb561_4, vb561_5⟩ := id hM561
                              show xW p l e ({ frames := 4, cells := 0, slots := 0, locals := 96 } : Room) s m args below meth c D xcl (x_A M nx) 8 (MQ below (x_Q D xcl (x_A M nx) (mcPost nx M a th sg sn pr fk fp rws cd ds wc wd nn nE nC nK nO ln lF lC lT lO fn fC fP ak ac pt n (rM tx sn q) (cN tx (q + rM tx sn q) (rD tx sn (q + rM tx sn q))) (mrc tx sn ds xs dg n q))) args s 0 0 (x_A M nx)) 0 0 (nx) M561 253 [(7, .int (nI (120 + j))), (6, .int (nI (rD tx sn (q + rM tx sn q)))), (5, .int (nI (q + rM tx sn q))), (4, .int (nI (rM tx sn q))), (3, .int (nI (120 + n))), (2, .int (nI (n))), (0, .ref (a)), (1, .int (nI (q)))] [.int (nI (0))]
                              exact x_zret F hr (by rfl) dM_readsCode_253 (by rw [show mrc tx sn ds xs dg n q = some (3, q + rM tx sn q) from by rw [mrc, if_neg (fun z => c1 z.1), if_neg h70, if_neg c60, if_neg (by omega), if_neg c62, if_neg (by omega), if_neg c65, if_pos hbad]]; exact ⟨rfl, fun b hb => (hf561 _ (by omega)).trans ((x_up_n (by omega)).trans ((x_up_n (by omega)).trans (rfl))), rfl, _, _, (fun i hi => ⟨updL_ne (by omega), upd_ne (by omega)⟩), hM561⟩)
                · skip
                  have c65 : (rD tx sn (q + rM tx sn q)) % 2 = 1 := by
                    exact (nI_eq (a := (rD tx sn (q + rM tx sn q)) % 2) (b := 1) (by omega) (by omega)).mp c65
                  refine x_aload_n F 5 dM_readsCode_145 rfl rfl ?_
                  refine x_iconst F (v := nI (1)) dM_readsCode_146 (by decide) ?_
                  refine x_iload F 0 dM_readsCode_147 rfl ?_
                  refine x_bipush F (v := nI (10)) dM_readsCode_149 (by decide) ?_
                  refine x_icmp_le F (tgt := 162) dM_readsCode_151 (by decide) (fun c114 => ?_) (fun c114 => ?_)
                  · skip
                    have c114 : rD tx sn (q + rM tx sn q) ≤ 10 := by
                      exact (nI_leI (a := rD tx sn (q + rM tx sn q)) (b := 10) (by omega) (by omega)).mp c114
                    refine x_iload F 1 dM_readsCode_162 rfl ?_
                    refine x_iload F 0 dM_readsCode_164 rfl ?_
                    refine x_iadd F dM_readsCode_166 ?_
                    refine xW.toi (nI (q + rM tx sn q + rD tx sn (q + rM tx sn q))) (nI_add _ _) ?_
                    refine yVr (n := 2) (As := [.int (nI (1)), .int (nI (q + rM tx sn q + rD tx sn (q + rM tx sn q)))]) (ci := 6) F kmM_115 kiM_fails ksM_fails knM kcM_fails (by decide +kernel) dM_readsCode_167 (cM_fails l (nx) M (a) th sg sn pr fk fp rws cd ds wc wd nn nE nC nK nO ln lF lC lT lO fn fC fP ak ac pt hT (nI (1)) (nI (q + rM tx sn q + rD tx sn (q + rM tx sn q)))) rfl h0 rfl rfl (Nat.le_of_ble_eq_true rfl) ⟨Nat.le_of_ble_eq_true rfl, Nat.le_of_ble_eq_true rfl⟩ ⟨Nat.le_of_ble_eq_true rfl, Nat.le_of_ble_eq_true rfl⟩ (fun r' n' M562 hp => ?_)
                    obtain ⟨hr', hn', hM562, hf562⟩ := hp
                    rw [hn', hr']
                    obtain ⟨v562_0, v562_1, v562_2, v562_3, v562_4, v562_5, v562_6, v562_7, v562_8, v562_9, v562_10, v562_11, v562_12, v562_13, v562_14, v562_15, v562_16, v562_17, v562_18, vb562_0, vb562_1, vb562_2, vb562_3, vb562_4, vb562_5⟩ := id hM562
                    show xW p l e ({ frames := 4, cells := 0, slots := 0, locals := 96 } : Room) s m args below meth c D xcl (x_A M nx) 8 (MQ below (x_Q D xcl (x_A M nx) (mcPost nx M a th sg sn pr fk fp rws cd ds wc wd nn nE nC nK nO ln lF lC lT lO fn fC fP ak ac pt n (rM tx sn q) (cN tx (q + rM tx sn q) (rD tx sn (q + rM tx sn q))) (mrc tx sn ds xs dg n q))) args s 0 0 (x_A M nx)) 0 0 (nx) M562 170 [(6, .int (nI (rD tx sn (q + rM tx sn q)))), (5, .int (nI (q + rM tx sn q))), (4, .int (nI (rM tx sn q))), (3, .int (nI (120 + n))), (2, .int (nI (n))), (0, .ref (a)), (1, .int (nI (q)))] [.int (nI (0))]
                    exact x_zret F hr (by rfl) dM_readsCode_170 (by rw [show mrc tx sn ds xs dg n q = some (1, q + rM tx sn q + rD tx sn (q + rM tx sn q)) from by rw [mrc, if_neg (fun z => c1 z.1), if_neg h70, if_neg c60, if_neg (by omega), if_neg c62, if_neg (by omega), if_pos c65]]; exact ⟨rfl, fun b hb => (hf562 _ (by omega)).trans (rfl), rfl, _, _, (fun i hi => ⟨rfl, rfl⟩), hM562⟩)
                  · skip
                    have c114 : 10 < rD tx sn (q + rM tx sn q) := by
                      have z : ¬ (rD tx sn (q + rM tx sn q) ≤ 10) := fun zz => c114 ((nI_leI (a := rD tx sn (q + rM tx sn q)) (b := 10) (by omega) (by omega)).mpr zz)
                      omega
                    refine x_iload F 1 dM_readsCode_154 rfl ?_
                    refine x_bipush F (v := nI (10)) dM_readsCode_156 (by decide) ?_
                    refine x_iadd F dM_readsCode_158 ?_
                    refine xW.toi (nI (q + rM tx sn q + 10)) (nI_add _ _) ?_
                    refine x_goto F (tgt := 167) dM_readsCode_159 (by decide) ?_
                    refine yVr (n := 2) (As := [.int (nI (1)), .int (nI (q + rM tx sn q + 10))]) (ci := 6) F kmM_115 kiM_fails ksM_fails knM kcM_fails (by decide +kernel) dM_readsCode_167 (cM_fails l (nx) M (a) th sg sn pr fk fp rws cd ds wc wd nn nE nC nK nO ln lF lC lT lO fn fC fP ak ac pt hT (nI (1)) (nI (q + rM tx sn q + 10))) rfl h0 rfl rfl (Nat.le_of_ble_eq_true rfl) ⟨Nat.le_of_ble_eq_true rfl, Nat.le_of_ble_eq_true rfl⟩ ⟨Nat.le_of_ble_eq_true rfl, Nat.le_of_ble_eq_true rfl⟩ (fun r' n' M563 hp => ?_)
                    obtain ⟨hr', hn', hM563, hf563⟩ := hp
                    rw [hn', hr']
                    obtain ⟨v563_0, v563_1, v563_2, v563_3, v563_4, v563_5, v563_6, v563_7, v563_8, v563_9, v563_10, v563_11, v563_12, v563_13, v563_14, v563_15, v563_16, v563_17, v563_18, vb563_0, vb563_1, vb563_2, vb563_3, vb563_4, vb563_5⟩ := id hM563
                    show xW p l e ({ frames := 4, cells := 0, slots := 0, locals := 96 } : Room) s m args below meth c D xcl (x_A M nx) 8 (MQ below (x_Q D xcl (x_A M nx) (mcPost nx M a th sg sn pr fk fp rws cd ds wc wd nn nE nC nK nO ln lF lC lT lO fn fC fP ak ac pt n (rM tx sn q) (cN tx (q + rM tx sn q) (rD tx sn (q + rM tx sn q))) (mrc tx sn ds xs dg n q))) args s 0 0 (x_A M nx)) 0 0 (nx) M563 170 [(6, .int (nI (rD tx sn (q + rM tx sn q)))), (5, .int (nI (q + rM tx sn q))), (4, .int (nI (rM tx sn q))), (3, .int (nI (120 + n))), (2, .int (nI (n))), (0, .ref (a)), (1, .int (nI (q)))] [.int (nI (0))]
                    exact x_zret F hr (by rfl) dM_readsCode_170 (by rw [show mrc tx sn ds xs dg n q = some (1, q + rM tx sn q + rD tx sn (q + rM tx sn q)) from by rw [mrc, if_neg (fun z => c1 z.1), if_neg h70, if_neg c60, if_neg (by omega), if_neg c62, if_neg (by omega), if_pos c65]]; exact ⟨rfl, fun b hb => (hf563 _ (by omega)).trans (rfl), rfl, _, _, (fun i hi => ⟨rfl, rfl⟩), hM563⟩)
            · skip
              have c62 : rD tx sn (q + rM tx sn q) = 0 := by
                exact (nI_eq (a := rD tx sn (q + rM tx sn q)) (b := 0) (by omega) (by omega)).mp c62
              refine x_aload_n F 5 dM_readsCode_122 rfl rfl ?_
              refine x_iconst F (v := nI (1)) dM_readsCode_123 (by decide) ?_
              refine x_iload F 1 dM_readsCode_124 rfl ?_
              refine yVr (n := 2) (As := [.int (nI (1)), .int (nI (q + rM tx sn q))]) (ci := 6) F kmM_115 kiM_fails ksM_fails knM kcM_fails (by decide +kernel) dM_readsCode_126 (cM_fails l (nx) M (a) th sg sn pr fk fp rws cd ds wc wd nn nE nC nK nO ln lF lC lT lO fn fC fP ak ac pt hT (nI (1)) (nI (q + rM tx sn q))) rfl h0 rfl rfl (Nat.le_of_ble_eq_true rfl) ⟨Nat.le_of_ble_eq_true rfl, Nat.le_of_ble_eq_true rfl⟩ ⟨Nat.le_of_ble_eq_true rfl, Nat.le_of_ble_eq_true rfl⟩ (fun r' n' M564 hp => ?_)
              obtain ⟨hr', hn', hM564, hf564⟩ := hp
              rw [hn', hr']
              obtain ⟨v564_0, v564_1, v564_2, v564_3, v564_4, v564_5, v564_6, v564_7, v564_8, v564_9, v564_10, v564_11, v564_12, v564_13, v564_14, v564_15, v564_16, v564_17, v564_18, vb564_0, vb564_1, vb564_2, vb564_3, vb564_4, vb564_5⟩ := id hM564
              show xW p l e ({ frames := 4, cells := 0, slots := 0, locals := 96 } : Room) s m args below meth c D xcl (x_A M nx) 8 (MQ below (x_Q D xcl (x_A M nx) (mcPost nx M a th sg sn pr fk fp rws cd ds wc wd nn nE nC nK nO ln lF lC lT lO fn fC fP ak ac pt n (rM tx sn q) (cN tx (q + rM tx sn q) (rD tx sn (q + rM tx sn q))) (mrc tx sn ds xs dg n q))) args s 0 0 (x_A M nx)) 0 0 (nx) M564 129 [(6, .int (nI (rD tx sn (q + rM tx sn q)))), (5, .int (nI (q + rM tx sn q))), (4, .int (nI (rM tx sn q))), (3, .int (nI (120 + n))), (2, .int (nI (n))), (0, .ref (a)), (1, .int (nI (q)))] [.int (nI (0))]
              exact x_zret F hr (by rfl) dM_readsCode_129 (by rw [show mrc tx sn ds xs dg n q = some (1, q + rM tx sn q) from by rw [mrc, if_neg (fun z => c1 z.1), if_neg h70, if_neg c60, if_neg (by omega), if_pos c62]]; exact ⟨rfl, fun b hb => (hf564 _ (by omega)).trans (rfl), rfl, _, _, (fun i hi => ⟨rfl, rfl⟩), hM564⟩)
          · skip
            have c61 : 4 < rM tx sn q := by
              have z : ¬ (rM tx sn q ≤ 4) := fun zz => c61 ((nI_leI (a := rM tx sn q) (b := 4) (by omega) (by omega)).mpr zz)
              omega
            refine x_aload_n F 4 dM_readsCode_99 rfl rfl ?_
            refine x_iconst F (v := nI (1)) dM_readsCode_100 (by decide) ?_
            refine x_iload_n F 5 dM_readsCode_101 rfl rfl ?_
            refine x_iconst F (v := nI (4)) dM_readsCode_102 (by decide) ?_
            refine x_iadd F dM_readsCode_103 ?_
            refine xW.toi (nI (q + 4)) (nI_add _ _) ?_
            refine yVr (n := 2) (As := [.int (nI (1)), .int (nI (q + 4))]) (ci := 6) F kmM_115 kiM_fails ksM_fails knM kcM_fails (by decide +kernel) dM_readsCode_104 (cM_fails l (nx) M (a) th sg sn pr fk fp rws cd ds wc wd nn nE nC nK nO ln lF lC lT lO fn fC fP ak ac pt hT (nI (1)) (nI (q + 4))) rfl h0 rfl rfl (Nat.le_of_ble_eq_true rfl) ⟨Nat.le_of_ble_eq_true rfl, Nat.le_of_ble_eq_true rfl⟩ ⟨Nat.le_of_ble_eq_true rfl, Nat.le_of_ble_eq_true rfl⟩ (fun r' n' M565 hp => ?_)
            obtain ⟨hr', hn', hM565, hf565⟩ := hp
            rw [hn', hr']
            obtain ⟨v565_0, v565_1, v565_2, v565_3, v565_4, v565_5, v565_6, v565_7, v565_8, v565_9, v565_10, v565_11, v565_12, v565_13, v565_14, v565_15, v565_16, v565_17, v565_18, vb565_0, vb565_1, vb565_2, vb565_3, vb565_4, vb565_5⟩ := id hM565
            show xW p l e ({ frames := 4, cells := 0, slots := 0, locals := 96 } : Room) s m args below meth c D xcl (x_A M nx) 8 (MQ below (x_Q D xcl (x_A M nx) (mcPost nx M a th sg sn pr fk fp rws cd ds wc wd nn nE nC nK nO ln lF lC lT lO fn fC fP ak ac pt n (rM tx sn q) (cN tx (q + rM tx sn q) (rD tx sn (q + rM tx sn q))) (mrc tx sn ds xs dg n q))) args s 0 0 (x_A M nx)) 0 0 (nx) M565 107 [(5, .int (nI (q + rM tx sn q))), (4, .int (nI (rM tx sn q))), (3, .int (nI (120 + n))), (2, .int (nI (n))), (0, .ref (a)), (1, .int (nI (q)))] [.int (nI (0))]
            exact x_zret F hr (by rfl) dM_readsCode_107 (by rw [show mrc tx sn ds xs dg n q = some (1, q + 4) from by rw [mrc, if_neg (fun z => c1 z.1), if_neg h70, if_neg c60, if_pos c61]]; exact ⟨rfl, fun b hb => (hf565 _ (by omega)).trans (rfl), rfl, _, _, (fun i hi => ⟨rfl, rfl⟩), hM565⟩)
        · skip
          have c60 : n = 40 := by
            exact (nI_eq (a := n) (b := 40) (by omega) (by omega)).mp c60
          refine x_aload_n F 4 dM_readsCode_86 rfl rfl ?_
          refine x_iconst F (v := nI (5)) dM_readsCode_87 (by decide) ?_
          refine x_iload_n F 5 dM_readsCode_88 rfl rfl ?_
          refine yVr (n := 2) (As := [.int (nI (5)), .int (nI (q))]) (ci := 6) F kmM_115 kiM_fails ksM_fails knM kcM_fails (by decide +kernel) dM_readsCode_89 (cM_fails l (nx) M (a) th sg sn pr fk fp rws cd ds wc wd nn nE nC nK nO ln lF lC lT lO fn fC fP ak ac pt hT (nI (5)) (nI (q))) rfl h0 rfl rfl (Nat.le_of_ble_eq_true rfl) ⟨Nat.le_of_ble_eq_true rfl, Nat.le_of_ble_eq_true rfl⟩ ⟨Nat.le_of_ble_eq_true rfl, Nat.le_of_ble_eq_true rfl⟩ (fun r' n' M566 hp => ?_)
          obtain ⟨hr', hn', hM566, hf566⟩ := hp
          rw [hn', hr']
          obtain ⟨v566_0, v566_1, v566_2, v566_3, v566_4, v566_5, v566_6, v566_7, v566_8, v566_9, v566_10, v566_11, v566_12, v566_13, v566_14, v566_15, v566_16, v566_17, v566_18, vb566_0, vb566_1, vb566_2, vb566_3, vb566_4, vb566_5⟩ := id hM566
          show xW p l e ({ frames := 4, cells := 0, slots := 0, locals := 96 } : Room) s m args below meth c D xcl (x_A M nx) 8 (MQ below (x_Q D xcl (x_A M nx) (mcPost nx M a th sg sn pr fk fp rws cd ds wc wd nn nE nC nK nO ln lF lC lT lO fn fC fP ak ac pt n (rM tx sn q) (cN tx (q + rM tx sn q) (rD tx sn (q + rM tx sn q))) (mrc tx sn ds xs dg n q))) args s 0 0 (x_A M nx)) 0 0 (nx) M566 92 [(5, .int (nI (q + rM tx sn q))), (4, .int (nI (rM tx sn q))), (3, .int (nI (120 + n))), (2, .int (nI (n))), (0, .ref (a)), (1, .int (nI (q)))] [.int (nI (0))]
          exact x_zret F hr (by rfl) dM_readsCode_92 (by rw [show mrc tx sn ds xs dg n q = some (5, q) from by rw [mrc, if_neg (fun z => c1 z.1), if_neg h70, if_pos c60]]; exact ⟨rfl, fun b hb => (hf566 _ (by omega)).trans (rfl), rfl, _, _, (fun i hi => ⟨rfl, rfl⟩), hM566⟩)
      · skip
        have h70 : mPre n ds < nI (rM tx sn q) := Int32.not_le.mp c59
        refine x_aload_n F 4 dM_readsCode_73 rfl rfl ?_
        refine x_iconst F (v := nI (2)) dM_readsCode_74 (by decide) ?_
        refine x_iload_n F 5 dM_readsCode_75 rfl rfl ?_
        refine yVr (n := 2) (As := [.int (nI (2)), .int (nI (q))]) (ci := 6) F kmM_115 kiM_fails ksM_fails knM kcM_fails (by decide +kernel) dM_readsCode_76 (cM_fails l (nx) M (a) th sg sn pr fk fp rws cd ds wc wd nn nE nC nK nO ln lF lC lT lO fn fC fP ak ac pt hT (nI (2)) (nI (q))) rfl h0 rfl rfl (Nat.le_of_ble_eq_true rfl) ⟨Nat.le_of_ble_eq_true rfl, Nat.le_of_ble_eq_true rfl⟩ ⟨Nat.le_of_ble_eq_true rfl, Nat.le_of_ble_eq_true rfl⟩ (fun r' n' M567 hp => ?_)
        obtain ⟨hr', hn', hM567, hf567⟩ := hp
        rw [hn', hr']
        obtain ⟨v567_0, v567_1, v567_2, v567_3, v567_4, v567_5, v567_6, v567_7, v567_8, v567_9, v567_10, v567_11, v567_12, v567_13, v567_14, v567_15, v567_16, v567_17, v567_18, vb567_0, vb567_1, vb567_2, vb567_3, vb567_4, vb567_5⟩ := id hM567
        show xW p l e ({ frames := 4, cells := 0, slots := 0, locals := 96 } : Room) s m args below meth c D xcl (x_A M nx) 8 (MQ below (x_Q D xcl (x_A M nx) (mcPost nx M a th sg sn pr fk fp rws cd ds wc wd nn nE nC nK nO ln lF lC lT lO fn fC fP ak ac pt n (rM tx sn q) (cN tx (q + rM tx sn q) (rD tx sn (q + rM tx sn q))) (mrc tx sn ds xs dg n q))) args s 0 0 (x_A M nx)) 0 0 (nx) M567 79 [(5, .int (nI (q + rM tx sn q))), (4, .int (nI (rM tx sn q))), (3, .int (nI (120 + n))), (2, .int (nI (n))), (0, .ref (a)), (1, .int (nI (q)))] [.int (nI (0))]
        exact x_zret F hr (by rfl) dM_readsCode_79 (by rw [show mrc tx sn ds xs dg n q = some (2, q) from by rw [mrc, if_neg (fun z => c1 z.1), if_pos h70]]; exact ⟨rfl, fun b hb => (hf567 _ (by omega)).trans (rfl), rfl, _, _, (fun i hi => ⟨rfl, rfl⟩), hM567⟩)
  · skip
    have c1 : rM tx sn q = 0 := by
      exact (nI_eq (a := rM tx sn q) (b := 0) (by omega) (by omega)).mp c1
    refine x_aload_n F 4 dM_readsCode_31 rfl rfl ?_
    refine x_get (ci := 6) F 1 (x_in inM) rfl (by decide) (x_m kfM_7) dM_readsCode_32 h0 rfl ?_
    refine x_iload_n F 5 dM_readsCode_35 rfl rfl ?_
    refine x_iald F dM_readsCode_36 h1 (pk_in (q) (400) (by omega)) ?_
    refine xW.toi (nI (tx (q))) (by rw [nI_clamp (by omega)]; exact (hX _ (by omega)).1) ?_
    have htx := (hX q (by omega)).2
    refine yS (n := 1) (As := [.int (nI (tx (q)))]) F kmM_80 ktM_isDigit knM kcM_isDigit (by decide +kernel) dM_readsCode_37 (cM_isDigit l (nx) M (tx (q)) (by omega)) rfl rfl (Nat.le_of_ble_eq_true rfl) ⟨Nat.le_of_ble_eq_true rfl, Nat.le_of_ble_eq_true rfl⟩ ⟨Nat.le_of_ble_eq_true rfl, Nat.le_of_ble_eq_true rfl⟩ ?_
    refine x_if_ne F (tgt := 50) dM_readsCode_40 (by decide) (fun c115 => ?_) (fun c115 => ?_)
    · skip
      have c115 : (dig (tx (q))) = true := bI_1 c115
      refine x_iload F 1 dM_readsCode_50 rfl ?_
      refine x_iload_n F 3 dM_readsCode_52 rfl rfl ?_
      refine x_if_ne F (tgt := 60) dM_readsCode_53 (by decide) (fun c116 => ?_) (fun c116 => ?_)
      · skip
        have c116 : n ≠ 0 := by
          have z : ¬ (n = 0) := fun zz => c116 ((nI_eq (a := n) (b := 0) (by omega) (by omega)).mpr zz)
          omega
        obtain ⟨n0, hn1⟩ : ∃ n0, n = n0 + 1 := ⟨n - 1, by omega⟩
        refine x_aload_n F 4 dM_readsCode_60 rfl rfl ?_
        refine x_get (ci := 6) F 8 (x_in inM) rfl (by decide) (x_m kfM_24) dM_readsCode_61 h0 rfl ?_
        refine x_iload_n F 2 dM_readsCode_64 rfl rfl ?_
        refine x_iconst F (v := nI (1)) dM_readsCode_65 (by decide) ?_
        refine x_isub F dM_readsCode_66 ?_
        refine xW.toi (nI (120 + n0)) (by rw [hn1]; exact nI_pred (120 + n0)) ?_
        refine x_iald F dM_readsCode_67 h4 (pk_in (120 + n0) (160) (by omega)) ?_
        refine xW.toi (ds (120 + n0)) (by rw [nI_clamp (by omega)]; exact rfl) ?_
        refine x_iconst F (v := nI (1)) dM_readsCode_68 (by decide) ?_
        refine x_iadd F dM_readsCode_69 ?_
        refine xW.toi (ds (120 + n0) + nI 1) (rfl) ?_
        refine xW.toi (mPre n ds) (by rw [hn1]; rfl) ?_
        refine x_icmp_le F (tgt := 80) dM_readsCode_70 (by decide) (fun c117 => ?_) (fun c117 => ?_)
        · skip
          have h70 : ¬ mPre n ds < nI (rM tx sn q) := Int32.not_lt.mpr c117
          refine x_iload_n F 3 dM_readsCode_80 rfl rfl ?_
          refine x_bipush F (v := nI (40)) dM_readsCode_81 (by decide) ?_
          refine x_icmp_ne F (tgt := 93) dM_readsCode_83 (by decide) (fun c118 => ?_) (fun c118 => ?_)
          · skip
            have c118 : n ≠ 40 := by
              have z : ¬ (n = 40) := fun zz => c118 ((nI_eq (a := n) (b := 40) (by omega) (by omega)).mpr zz)
              omega
            refine x_iload F 1 dM_readsCode_93 rfl ?_
            refine x_iconst F (v := nI (4)) dM_readsCode_95 (by decide) ?_
            refine x_icmp_le F (tgt := 108) dM_readsCode_96 (by decide) (fun c119 => ?_) (fun c119 => ?_)
            · skip
              have c119 : rM tx sn q ≤ 4 := by
                exact (nI_leI (a := rM tx sn q) (b := 4) (by omega) (by omega)).mp c119
              refine x_aload_n F 4 dM_readsCode_108 rfl rfl ?_
              refine x_iload F 0 dM_readsCode_109 rfl ?_
              refine x_iconst F (v := nI (1)) dM_readsCode_111 (by decide) ?_
              refine yV (n := 2) (As := [.int (nI (q + rM tx sn q)), .int (nI (1))]) (ci := 6) F kmM_111 kiM_run ksM_run knM kcM_run (by decide +kernel) dM_readsCode_112 (cM_run1 l (nx) M (a) th sg sn pr fk fp rws cd ds wc wd nn nE nC nK nO ln lF lC lT lO fn fC fP ak ac pt hT tx hX (q + rM tx sn q) (by omega)) rfl h0 rfl rfl (Nat.le_of_ble_eq_true rfl) ⟨Nat.le_of_ble_eq_true rfl, Nat.le_of_ble_eq_true rfl⟩ ⟨Nat.le_of_ble_eq_true rfl, Nat.le_of_ble_eq_true rfl⟩ ?_
              refine x_istore F [(6, .int (nI (rD tx sn (q + rM tx sn q)))), (5, .int (nI (q + rM tx sn q))), (4, .int (nI (rM tx sn q))), (3, .int (nI (120 + n))), (2, .int (nI (n))), (0, .ref (a)), (1, .int (nI (q)))] dM_readsCode_115 (by decide) rfl ?_
              have hrl : rD tx sn (q + rM tx sn q) ≤ sn - (q + rM tx sn q) := rn_le _ _ _ _
              refine x_iload F 0 dM_readsCode_117 rfl ?_
              refine x_if_ne F (tgt := 130) dM_readsCode_119 (by decide) (fun c120 => ?_) (fun c120 => ?_)
              · skip
                have c120 : rD tx sn (q + rM tx sn q) ≠ 0 := by
                  have z : ¬ (rD tx sn (q + rM tx sn q) = 0) := fun zz => c120 ((nI_eq (a := rD tx sn (q + rM tx sn q)) (b := 0) (by omega) (by omega)).mpr zz)
                  omega
                refine x_iload F 0 dM_readsCode_130 rfl ?_
                refine x_bipush F (v := nI (10)) dM_readsCode_132 (by decide) ?_
                refine x_icmp_gt F (tgt := 145) dM_readsCode_134 (by decide) (fun c121 => ?_) (fun c121 => ?_)
                · skip
                  have c121 : 10 < rD tx sn (q + rM tx sn q) := by
                    exact (nI_ltI (a := 10) (b := rD tx sn (q + rM tx sn q)) (by omega) (by omega)).mp c121
                  refine x_aload_n F 5 dM_readsCode_145 rfl rfl ?_
                  refine x_iconst F (v := nI (1)) dM_readsCode_146 (by decide) ?_
                  refine x_iload F 0 dM_readsCode_147 rfl ?_
                  refine x_bipush F (v := nI (10)) dM_readsCode_149 (by decide) ?_
                  refine x_icmp_le F (tgt := 162) dM_readsCode_151 (by decide) (fun c122 => ?_) (fun c122 => ?_)
                  · skip
                    have c122 : rD tx sn (q + rM tx sn q) ≤ 10 := by
                      exact (nI_leI (a := rD tx sn (q + rM tx sn q)) (b := 10) (by omega) (by omega)).mp c122
                    refine x_iload F 1 dM_readsCode_162 rfl ?_
                    refine x_iload F 0 dM_readsCode_164 rfl ?_
                    refine x_iadd F dM_readsCode_166 ?_
                    refine xW.toi (nI (q + rM tx sn q + rD tx sn (q + rM tx sn q))) (nI_add _ _) ?_
                    refine yVr (n := 2) (As := [.int (nI (1)), .int (nI (q + rM tx sn q + rD tx sn (q + rM tx sn q)))]) (ci := 6) F kmM_115 kiM_fails ksM_fails knM kcM_fails (by decide +kernel) dM_readsCode_167 (cM_fails l (nx) M (a) th sg sn pr fk fp rws cd ds wc wd nn nE nC nK nO ln lF lC lT lO fn fC fP ak ac pt hT (nI (1)) (nI (q + rM tx sn q + rD tx sn (q + rM tx sn q)))) rfl h0 rfl rfl (Nat.le_of_ble_eq_true rfl) ⟨Nat.le_of_ble_eq_true rfl, Nat.le_of_ble_eq_true rfl⟩ ⟨Nat.le_of_ble_eq_true rfl, Nat.le_of_ble_eq_true rfl⟩ (fun r' n' M568 hp => ?_)
                    obtain ⟨hr', hn', hM568, hf568⟩ := hp
                    rw [hn', hr']
                    obtain ⟨v568_0, v568_1, v568_2, v568_3, v568_4, v568_5, v568_6, v568_7, v568_8, v568_9, v568_10, v568_11, v568_12, v568_13, v568_14, v568_15, v568_16, v568_17, v568_18, vb568_0, vb568_1, vb568_2, vb568_3, vb568_4, vb568_5⟩ := id hM568
                    show xW p l e ({ frames := 4, cells := 0, slots := 0, locals := 96 } : Room) s m args below meth c D xcl (x_A M nx) 8 (MQ below (x_Q D xcl (x_A M nx) (mcPost nx M a th sg sn pr fk fp rws cd ds wc wd nn nE nC nK nO ln lF lC lT lO fn fC fP ak ac pt n (rM tx sn q) (cN tx (q + rM tx sn q) (rD tx sn (q + rM tx sn q))) (mrc tx sn ds xs dg n q))) args s 0 0 (x_A M nx)) 0 0 (nx) M568 170 [(6, .int (nI (rD tx sn (q + rM tx sn q)))), (5, .int (nI (q + rM tx sn q))), (4, .int (nI (rM tx sn q))), (3, .int (nI (120 + n))), (2, .int (nI (n))), (0, .ref (a)), (1, .int (nI (q)))] [.int (nI (0))]
                    exact x_zret F hr (by rfl) dM_readsCode_170 (by rw [show mrc tx sn ds xs dg n q = some (1, q + rM tx sn q + 10) from by rw [mrc, if_neg (fun z => by have z := z.2; rw [c115] at z; cases z), if_neg h70, if_neg c118, if_neg (by omega), if_neg c120, if_pos c121]]; exact ⟨rfl, fun b hb => (hf568 _ (by omega)).trans (rfl), rfl, _, _, (fun i hi => ⟨rfl, rfl⟩), hM568⟩)
                  · skip
                    have c122 : 10 < rD tx sn (q + rM tx sn q) := by
                      have z : ¬ (rD tx sn (q + rM tx sn q) ≤ 10) := fun zz => c122 ((nI_leI (a := rD tx sn (q + rM tx sn q)) (b := 10) (by omega) (by omega)).mpr zz)
                      omega
                    refine x_iload F 1 dM_readsCode_154 rfl ?_
                    refine x_bipush F (v := nI (10)) dM_readsCode_156 (by decide) ?_
                    refine x_iadd F dM_readsCode_158 ?_
                    refine xW.toi (nI (q + rM tx sn q + 10)) (nI_add _ _) ?_
                    refine x_goto F (tgt := 167) dM_readsCode_159 (by decide) ?_
                    refine yVr (n := 2) (As := [.int (nI (1)), .int (nI (q + rM tx sn q + 10))]) (ci := 6) F kmM_115 kiM_fails ksM_fails knM kcM_fails (by decide +kernel) dM_readsCode_167 (cM_fails l (nx) M (a) th sg sn pr fk fp rws cd ds wc wd nn nE nC nK nO ln lF lC lT lO fn fC fP ak ac pt hT (nI (1)) (nI (q + rM tx sn q + 10))) rfl h0 rfl rfl (Nat.le_of_ble_eq_true rfl) ⟨Nat.le_of_ble_eq_true rfl, Nat.le_of_ble_eq_true rfl⟩ ⟨Nat.le_of_ble_eq_true rfl, Nat.le_of_ble_eq_true rfl⟩ (fun r' n' M569 hp => ?_)
                    obtain ⟨hr', hn', hM569, hf569⟩ := hp
                    rw [hn', hr']
                    obtain ⟨v569_0, v569_1, v569_2, v569_3, v569_4, v569_5, v569_6, v569_7, v569_8, v569_9, v569_10, v569_11, v569_12, v569_13, v569_14, v569_15, v569_16, v569_17, v569_18, vb569_0, vb569_1, vb569_2, vb569_3, vb569_4, vb569_5⟩ := id hM569
                    show xW p l e ({ frames := 4, cells := 0, slots := 0, locals := 96 } : Room) s m args below meth c D xcl (x_A M nx) 8 (MQ below (x_Q D xcl (x_A M nx) (mcPost nx M a th sg sn pr fk fp rws cd ds wc wd nn nE nC nK nO ln lF lC lT lO fn fC fP ak ac pt n (rM tx sn q) (cN tx (q + rM tx sn q) (rD tx sn (q + rM tx sn q))) (mrc tx sn ds xs dg n q))) args s 0 0 (x_A M nx)) 0 0 (nx) M569 170 [(6, .int (nI (rD tx sn (q + rM tx sn q)))), (5, .int (nI (q + rM tx sn q))), (4, .int (nI (rM tx sn q))), (3, .int (nI (120 + n))), (2, .int (nI (n))), (0, .ref (a)), (1, .int (nI (q)))] [.int (nI (0))]
                    exact x_zret F hr (by rfl) dM_readsCode_170 (by rw [show mrc tx sn ds xs dg n q = some (1, q + rM tx sn q + 10) from by rw [mrc, if_neg (fun z => by have z := z.2; rw [c115] at z; cases z), if_neg h70, if_neg c118, if_neg (by omega), if_neg c120, if_pos c121]]; exact ⟨rfl, fun b hb => (hf569 _ (by omega)).trans (rfl), rfl, _, _, (fun i hi => ⟨rfl, rfl⟩), hM569⟩)
                · skip
                  have c121 : rD tx sn (q + rM tx sn q) ≤ 10 := by
                    have z : ¬ (10 < rD tx sn (q + rM tx sn q)) := fun zz => c121 ((nI_ltI (a := 10) (b := rD tx sn (q + rM tx sn q)) (by omega) (by omega)).mpr zz)
                    omega
                  refine x_iload F 0 dM_readsCode_137 rfl ?_
                  refine x_iconst F (v := nI (2)) dM_readsCode_139 (by decide) ?_
                  refine x_irem F dM_readsCode_140 (by decide) ?_
                  refine xW.toi (nI ((rD tx sn (q + rM tx sn q)) % 2)) (pk_rem (by omega) (by omega) (by omega)) ?_
                  refine x_iconst F (v := nI (1)) dM_readsCode_141 (by decide) ?_
                  refine x_icmp_ne F (tgt := 171) dM_readsCode_142 (by decide) (fun c123 => ?_) (fun c123 => ?_)
                  · skip
                    have c123 : (rD tx sn (q + rM tx sn q)) % 2 ≠ 1 := by
                      have z : ¬ ((rD tx sn (q + rM tx sn q)) % 2 = 1) := fun zz => c123 ((nI_eq (a := (rD tx sn (q + rM tx sn q)) % 2) (b := 1) (by omega) (by omega)).mpr zz)
                      omega
                    refine x_aload_n F 5 dM_readsCode_171 rfl rfl ?_
                    refine x_get (ci := 6) F 8 (x_in inM) rfl (by decide) (x_m kfM_24) dM_readsCode_172 h0 rfl ?_
                    refine x_iload_n F 3 dM_readsCode_175 rfl rfl ?_
                    refine x_iload F 2 dM_readsCode_176 rfl ?_
                    refine x_iast F dM_readsCode_178 h4 (pk_in (120 + n) (160) (by omega)) ?_
                    rw [nI_clamp (show 120 + n < 2 ^ 31 by omega)]
                    show xW p l e ({ frames := 4, cells := 0, slots := 0, locals := 96 } : Room) s m args below meth c D xcl (x_A M nx) 8 (MQ below (x_Q D xcl (x_A M nx) (mcPost nx M a th sg sn pr fk fp rws cd ds wc wd nn nE nC nK nO ln lF lC lT lO fn fC fP ak ac pt n (rM tx sn q) (cN tx (q + rM tx sn q) (rD tx sn (q + rM tx sn q))) (mrc tx sn ds xs dg n q))) args s 0 0 (x_A M nx)) 0 0 (nx) (x_up M (a + 4) (.inl (.int, 160, .inl (upd (ds) (120 + n) (nI (rM tx sn q)))))) 179 [(6, .int (nI (rD tx sn (q + rM tx sn q)))), (5, .int (nI (q + rM tx sn q))), (4, .int (nI (rM tx sn q))), (3, .int (nI (120 + n))), (2, .int (nI (n))), (0, .ref (a)), (1, .int (nI (q)))] []
                    refine x_aload_n F 5 dM_readsCode_179 rfl rfl ?_
                    refine x_get (ci := 6) F 7 (x_in inM) rfl (by decide) (x_m kfM_20) dM_readsCode_180 (x_up_k h0 (by omega)) rfl ?_
                    refine x_iload_n F 3 dM_readsCode_183 rfl rfl ?_
                    refine x_aload_n F 5 dM_readsCode_184 rfl rfl ?_
                    refine x_iload F 1 dM_readsCode_185 rfl ?_
                    refine x_iload F 0 dM_readsCode_187 rfl ?_
                    refine yV (n := 2) (As := [.int (nI (q + rM tx sn q)), .int (nI (rD tx sn (q + rM tx sn q)))]) (ci := 6) F kmM_119 kiM_codeAt ksM_codeAt knM kcM_codeAt (by decide +kernel) dM_readsCode_189 (cM_codeAt l (nx) (x_up M (a + 4) (.inl (.int, 160, .inl (upd (ds) (120 + n) (nI (rM tx sn q)))))) (a) th sg sn pr fk fp rws cd (upd (ds) (120 + n) (nI (rM tx sn q))) wc wd nn nE nC nK nO ln lF lC lT lO fn fC fP ak ac pt ⟨(x_up_k h0 (by omega)), (x_up_k h1 (by omega)), (x_up_k h2 (by omega)), (x_up_k h3 (by omega)), x_up_s, (x_up_k h5 (by omega)), (x_up_k h6 (by omega)), (x_up_k h7 (by omega)), (x_up_k h8 (by omega)), (x_up_k h9 (by omega)), (x_up_k h10 (by omega)), (x_up_k h11 (by omega)), (x_up_k h12 (by omega)), (x_up_k h13 (by omega)), (x_up_k h14 (by omega)), (x_up_k h15 (by omega)), (x_up_k h16 (by omega)), (x_up_k h17 (by omega)), (x_up_k h18 (by omega)), by omega, by omega, by omega, by omega, by omega, by omega⟩ tx hX (q + rM tx sn q) (rD tx sn (q + rM tx sn q)) (by omega) (fun i hi => rn_all hi)) rfl (x_up_k h0 (by omega)) rfl rfl (Nat.le_of_ble_eq_true rfl) ⟨Nat.le_of_ble_eq_true rfl, Nat.le_of_ble_eq_true rfl⟩ ⟨Nat.le_of_ble_eq_true rfl, Nat.le_of_ble_eq_true rfl⟩ ?_
                    refine x_last F dM_readsCode_192 (x_up_k h3 (by omega)) (pk_in (120 + n) (160) (by omega)) ?_
                    rw [nI_clamp (show 120 + n < 2 ^ 31 by omega)]
                    show xW p l e ({ frames := 4, cells := 0, slots := 0, locals := 96 } : Room) s m args below meth c D xcl (x_A M nx) 8 (MQ below (x_Q D xcl (x_A M nx) (mcPost nx M a th sg sn pr fk fp rws cd ds wc wd nn nE nC nK nO ln lF lC lT lO fn fC fP ak ac pt n (rM tx sn q) (cN tx (q + rM tx sn q) (rD tx sn (q + rM tx sn q))) (mrc tx sn ds xs dg n q))) args s 0 0 (x_A M nx)) 0 0 (nx) (x_up (x_up M (a + 4) (.inl (.int, 160, .inl (upd (ds) (120 + n) (nI (rM tx sn q)))))) (a + 3) (.inl (.long, 160, .inr (.inl (vp_updL (cd) (120 + n) (lN (cN tx (q + rM tx sn q) (rD tx sn (q + rM tx sn q))))))))) 193 [(6, .int (nI (rD tx sn (q + rM tx sn q)))), (5, .int (nI (q + rM tx sn q))), (4, .int (nI (rM tx sn q))), (3, .int (nI (120 + n))), (2, .int (nI (n))), (0, .ref (a)), (1, .int (nI (q)))] []
                    have hX10 : cdg (cN tx (q + rM tx sn q) (rD tx sn (q + rM tx sn q))) (rD tx sn (q + rM tx sn q)) := cN_dg (by omega) (fun i hi => rn_all hi)
                    refine x_aload_n F 5 dM_readsCode_193 rfl rfl ?_
                    refine x_bipush F (v := nI (120)) dM_readsCode_194 (by decide) ?_
                    refine x_iload_n F 3 dM_readsCode_196 rfl rfl ?_
                    refine yV (n := 2) (As := [.int (nI (120)), .int (nI (120 + n))]) (ci := 6) F kmM_123 kiM_above ksM_above knM kcM_above (by decide +kernel) dM_readsCode_197 (cM_above l (nx) (x_up (x_up M (a + 4) (.inl (.int, 160, .inl (upd (ds) (120 + n) (nI (rM tx sn q)))))) (a + 3) (.inl (.long, 160, .inr (.inl (vp_updL (cd) (120 + n) (lN (cN tx (q + rM tx sn q) (rD tx sn (q + rM tx sn q))))))))) (a) th sg sn pr fk fp rws (vp_updL (cd) (120 + n) (lN (cN tx (q + rM tx sn q) (rD tx sn (q + rM tx sn q))))) (upd (ds) (120 + n) (nI (rM tx sn q))) wc wd nn nE nC nK nO ln lF lC lT lO fn fC fP ak ac pt ⟨(x_up_k (x_up_k h0 (by omega)) (by omega)), (x_up_k (x_up_k h1 (by omega)) (by omega)), (x_up_k (x_up_k h2 (by omega)) (by omega)), x_up_s, (x_up_k x_up_s (by omega)), (x_up_k (x_up_k h5 (by omega)) (by omega)), (x_up_k (x_up_k h6 (by omega)) (by omega)), (x_up_k (x_up_k h7 (by omega)) (by omega)), (x_up_k (x_up_k h8 (by omega)) (by omega)), (x_up_k (x_up_k h9 (by omega)) (by omega)), (x_up_k (x_up_k h10 (by omega)) (by omega)), (x_up_k (x_up_k h11 (by omega)) (by omega)), (x_up_k (x_up_k h12 (by omega)) (by omega)), (x_up_k (x_up_k h13 (by omega)) (by omega)), (x_up_k (x_up_k h14 (by omega)) (by omega)), (x_up_k (x_up_k h15 (by omega)) (by omega)), (x_up_k (x_up_k h16 (by omega)) (by omega)), (x_up_k (x_up_k h17 (by omega)) (by omega)), (x_up_k (x_up_k h18 (by omega)) (by omega)), by omega, by omega, by omega, by omega, by omega, by omega⟩ 120 n (by omega)) rfl (x_up_k (x_up_k h0 (by omega)) (by omega)) rfl rfl (Nat.le_of_ble_eq_true rfl) ⟨Nat.le_of_ble_eq_true rfl, Nat.le_of_ble_eq_true rfl⟩ ⟨Nat.le_of_ble_eq_true rfl, Nat.le_of_ble_eq_true rfl⟩ ?_
                    rcases o_cases (mUp (upd ds (120 + n) (nI (rM tx sn q))) 120 n) with hup | ⟨j, hup⟩
                    · skip
                      refine xW.ste (st' := [.int ((-1))]) (by show ([.int (oj 120 (mUp (upd ds (120 + n) (nI (rM tx sn q))) 120 n))] : List Value) = _; rw [hup]; rfl) ?_
                      refine x_istore F [(7, .int ((-1))), (6, .int (nI (rD tx sn (q + rM tx sn q)))), (5, .int (nI (q + rM tx sn q))), (4, .int (nI (rM tx sn q))), (3, .int (nI (120 + n))), (2, .int (nI (n))), (0, .ref (a)), (1, .int (nI (q)))] dM_readsCode_200 (by decide) rfl ?_
                      refine x_iload F 3 dM_readsCode_202 rfl ?_
                      refine x_if_ne F (tgt := 213) dM_readsCode_204 (by decide) (fun c124 => ?_) (fun c124 => ?_)
                      · skip
                        have c124 : rM tx sn q ≠ 0 := by
                          have z : ¬ (rM tx sn q = 0) := fun zz => c124 ((nI_eq (a := rM tx sn q) (b := 0) (by omega) (by omega)).mpr zz)
                          omega
                        refine x_iload F 3 dM_readsCode_213 rfl ?_
                        refine x_if_le F (tgt := 254) dM_readsCode_215 (by decide) (fun c125 => ?_) (fun c125 => ?_)
                        · skip
                          have c125 : rM tx sn q ≤ 0 := by
                            exact (nI_leI (a := rM tx sn q) (b := 0) (by omega) (by omega)).mp c125
                          have hbad : mBad ds xs dg n (rM tx sn q) (cN tx (q + rM tx sn q) (rD tx sn (q + rM tx sn q))) (rD tx sn (q + rM tx sn q)) = false := by rw [mBad, if_pos (by omega), decide_eq_true (by omega)]; rfl
                          refine x_iload_n F 5 dM_readsCode_254 rfl rfl ?_
                          refine x_if_eq F (tgt := 288) dM_readsCode_255 (by decide) (fun c126 => ?_) (fun c126 => ?_)
                          · skip
                            have c126 : n = 0 := by
                              exact (nI_eq (a := n) (b := 0) (by omega) (by omega)).mp c126
                            have hbeh : mBeh xs dg n (cN tx (q + rM tx sn q) (rD tx sn (q + rM tx sn q))) (rD tx sn (q + rM tx sn q)) = true := by rw [c126]; rfl
                            refine x_iconst F (v := nI (1)) dM_readsCode_288 (by decide) ?_
                            refine x_goto F (tgt := 293) dM_readsCode_289 (by decide) ?_
                            exact x_zret F hr (by rfl) dM_readsCode_293 (by rw [show mrc tx sn ds xs dg n q = none from by rw [mrc, if_neg (fun z => by have z := z.2; rw [c115] at z; cases z), if_neg h70, if_neg c118, if_neg (by omega), if_neg c120, if_neg (by omega), if_neg c123, if_neg (by rw [hbad]; decide), if_neg (by rw [hbeh]; decide)]]; exact ⟨rfl, fun b hb => (x_up_n (by omega)).trans ((x_up_n (by omega)).trans (rfl)), rfl, ⟨(x_up_k (x_up_k h0 (by omega)) (by omega)), (x_up_k (x_up_k h1 (by omega)) (by omega)), (x_up_k (x_up_k h2 (by omega)) (by omega)), x_up_s, (x_up_k x_up_s (by omega)), (x_up_k (x_up_k h5 (by omega)) (by omega)), (x_up_k (x_up_k h6 (by omega)) (by omega)), (x_up_k (x_up_k h7 (by omega)) (by omega)), (x_up_k (x_up_k h8 (by omega)) (by omega)), (x_up_k (x_up_k h9 (by omega)) (by omega)), (x_up_k (x_up_k h10 (by omega)) (by omega)), (x_up_k (x_up_k h11 (by omega)) (by omega)), (x_up_k (x_up_k h12 (by omega)) (by omega)), (x_up_k (x_up_k h13 (by omega)) (by omega)), (x_up_k (x_up_k h14 (by omega)) (by omega)), (x_up_k (x_up_k h15 (by omega)) (by omega)), (x_up_k (x_up_k h16 (by omega)) (by omega)), (x_up_k (x_up_k h17 (by omega)) (by omega)), (x_up_k (x_up_k h18 (by omega)) (by omega)), by omega, by omega, by omega, by omega, by omega, by omega⟩⟩)
                          · skip
                            have c126 : n ≠ 0 := by
                              have z : ¬ (n = 0) := fun zz => c126 ((nI_eq (a := n) (b := 0) (by omega) (by omega)).mpr zz)
                              omega
                            obtain ⟨n0, hn1⟩ : ∃ n0, n = n0 + 1 := ⟨n - 1, by omega⟩
                            refine x_aload_n F 6 dM_readsCode_258 rfl rfl ?_
                            refine x_get (ci := 6) F 7 (x_in inM) rfl (by decide) (x_m kfM_20) dM_readsCode_259 (x_up_k (x_up_k h0 (by omega)) (by omega)) rfl ?_
                            refine x_iload_n F 4 dM_readsCode_262 rfl rfl ?_
                            refine x_lald F dM_readsCode_263 x_up_s (pk_in (120 + n) (160) (by omega)) ?_
                            refine xW.tol (lN (cN tx (q + rM tx sn q) (rD tx sn (q + rM tx sn q)))) (by rw [nI_clamp (by omega)]; exact vp_us) ?_
                            refine x_aload_n F 6 dM_readsCode_264 rfl rfl ?_
                            refine x_get (ci := 6) F 7 (x_in inM) rfl (by decide) (x_m kfM_20) dM_readsCode_265 (x_up_k (x_up_k h0 (by omega)) (by omega)) rfl ?_
                            refine x_iload_n F 4 dM_readsCode_268 rfl rfl ?_
                            refine x_iconst F (v := nI (1)) dM_readsCode_269 (by decide) ?_
                            refine x_isub F dM_readsCode_270 ?_
                            refine xW.toi (nI (120 + n0)) (by rw [hn1]; exact nI_pred (120 + n0)) ?_
                            refine x_lald F dM_readsCode_271 x_up_s (pk_in (120 + n0) (160) (by omega)) ?_
                            refine xW.tol (lN (xs n0)) (by rw [nI_clamp (by omega)]; exact (updL_ne (by omega)).trans (hcd n0 (by omega)).1) ?_
                            refine yS (n := 2) (As := [.long (lN (cN tx (q + rM tx sn q) (rD tx sn (q + rM tx sn q)))), .long (lN (xs n0))]) F kmM_126 ktM_isBehind knM kcM_isBehind (by decide +kernel) dM_readsCode_272 (cM_isBehind l (nx) (x_up (x_up M (a + 4) (.inl (.int, 160, .inl (upd (ds) (120 + n) (nI (rM tx sn q)))))) (a + 3) (.inl (.long, 160, .inr (.inl (vp_updL (cd) (120 + n) (lN (cN tx (q + rM tx sn q) (rD tx sn (q + rM tx sn q))))))))) (cN tx (q + rM tx sn q) (rD tx sn (q + rM tx sn q))) (rD tx sn (q + rM tx sn q)) (xs n0) (dg n0) hX10 (hcd n0 (by omega)).2) rfl rfl (Nat.le_of_ble_eq_true rfl) ⟨Nat.le_of_ble_eq_true rfl, Nat.le_of_ble_eq_true rfl⟩ ⟨Nat.le_of_ble_eq_true rfl, Nat.le_of_ble_eq_true rfl⟩ ?_
                            refine x_if_ne F (tgt := 288) dM_readsCode_275 (by decide) (fun c127 => ?_) (fun c127 => ?_)
                            · skip
                              have c127 : (mbh (cN tx (q + rM tx sn q) (rD tx sn (q + rM tx sn q))) (rD tx sn (q + rM tx sn q)) (xs n0) (dg n0)) = true := bI_1 c127
                              have hbeh : mBeh xs dg n (cN tx (q + rM tx sn q) (rD tx sn (q + rM tx sn q))) (rD tx sn (q + rM tx sn q)) = true := by rw [hn1]; exact c127
                              refine x_iconst F (v := nI (1)) dM_readsCode_288 (by decide) ?_
                              refine x_goto F (tgt := 293) dM_readsCode_289 (by decide) ?_
                              exact x_zret F hr (by rfl) dM_readsCode_293 (by rw [show mrc tx sn ds xs dg n q = none from by rw [mrc, if_neg (fun z => by have z := z.2; rw [c115] at z; cases z), if_neg h70, if_neg c118, if_neg (by omega), if_neg c120, if_neg (by omega), if_neg c123, if_neg (by rw [hbad]; decide), if_neg (by rw [hbeh]; decide)]]; exact ⟨rfl, fun b hb => (x_up_n (by omega)).trans ((x_up_n (by omega)).trans (rfl)), rfl, ⟨(x_up_k (x_up_k h0 (by omega)) (by omega)), (x_up_k (x_up_k h1 (by omega)) (by omega)), (x_up_k (x_up_k h2 (by omega)) (by omega)), x_up_s, (x_up_k x_up_s (by omega)), (x_up_k (x_up_k h5 (by omega)) (by omega)), (x_up_k (x_up_k h6 (by omega)) (by omega)), (x_up_k (x_up_k h7 (by omega)) (by omega)), (x_up_k (x_up_k h8 (by omega)) (by omega)), (x_up_k (x_up_k h9 (by omega)) (by omega)), (x_up_k (x_up_k h10 (by omega)) (by omega)), (x_up_k (x_up_k h11 (by omega)) (by omega)), (x_up_k (x_up_k h12 (by omega)) (by omega)), (x_up_k (x_up_k h13 (by omega)) (by omega)), (x_up_k (x_up_k h14 (by omega)) (by omega)), (x_up_k (x_up_k h15 (by omega)) (by omega)), (x_up_k (x_up_k h16 (by omega)) (by omega)), (x_up_k (x_up_k h17 (by omega)) (by omega)), (x_up_k (x_up_k h18 (by omega)) (by omega)), by omega, by omega, by omega, by omega, by omega, by omega⟩⟩)
                            · skip
                              have c127 : (mbh (cN tx (q + rM tx sn q) (rD tx sn (q + rM tx sn q))) (rD tx sn (q + rM tx sn q)) (xs n0) (dg n0)) = false := bI_0 c127
                              have hbeh : mBeh xs dg n (cN tx (q + rM tx sn q) (rD tx sn (q + rM tx sn q))) (rD tx sn (q + rM tx sn q)) = false := by rw [hn1]; exact c127
                              refine x_aload_n F 6 dM_readsCode_278 rfl rfl ?_
                              refine x_iconst F (v := nI (4)) dM_readsCode_279 (by decide) ?_
                              refine x_iload F 2 dM_readsCode_280 rfl ?_
                              refine yVr (n := 2) (As := [.int (nI (4)), .int (nI (q + rM tx sn q))]) (ci := 6) F kmM_115 kiM_fails ksM_fails knM kcM_fails (by decide +kernel) dM_readsCode_282 (cM_fails l (nx) (x_up (x_up M (a + 4) (.inl (.int, 160, .inl (upd (ds) (120 + n) (nI (rM tx sn q)))))) (a + 3) (.inl (.long, 160, .inr (.inl (vp_updL (cd) (120 + n) (lN (cN tx (q + rM tx sn q) (rD tx sn (q + rM tx sn q))))))))) (a) th sg sn pr fk fp rws (vp_updL (cd) (120 + n) (lN (cN tx (q + rM tx sn q) (rD tx sn (q + rM tx sn q))))) (upd (ds) (120 + n) (nI (rM tx sn q))) wc wd nn nE nC nK nO ln lF lC lT lO fn fC fP ak ac pt ⟨(x_up_k (x_up_k h0 (by omega)) (by omega)), (x_up_k (x_up_k h1 (by omega)) (by omega)), (x_up_k (x_up_k h2 (by omega)) (by omega)), x_up_s, (x_up_k x_up_s (by omega)), (x_up_k (x_up_k h5 (by omega)) (by omega)), (x_up_k (x_up_k h6 (by omega)) (by omega)), (x_up_k (x_up_k h7 (by omega)) (by omega)), (x_up_k (x_up_k h8 (by omega)) (by omega)), (x_up_k (x_up_k h9 (by omega)) (by omega)), (x_up_k (x_up_k h10 (by omega)) (by omega)), (x_up_k (x_up_k h11 (by omega)) (by omega)), (x_up_k (x_up_k h12 (by omega)) (by omega)), (x_up_k (x_up_k h13 (by omega)) (by omega)), (x_up_k (x_up_k h14 (by omega)) (by omega)), (x_up_k (x_up_k h15 (by omega)) (by omega)), (x_up_k (x_up_k h16 (by omega)) (by omega)), (x_up_k (x_up_k h17 (by omega)) (by omega)), (x_up_k (x_up_k h18 (by omega)) (by omega)), by omega, by omega, by omega, by omega, by omega, by omega⟩ (nI (4)) (nI (q + rM tx sn q))) rfl (x_up_k (x_up_k h0 (by omega)) (by omega)) rfl rfl (Nat.le_of_ble_eq_true rfl) ⟨Nat.le_of_ble_eq_true rfl, Nat.le_of_ble_eq_true rfl⟩ ⟨Nat.le_of_ble_eq_true rfl, Nat.le_of_ble_eq_true rfl⟩ (fun r' n' M570 hp => ?_)
                              obtain ⟨hr', hn', hM570, hf570⟩ := hp
                              rw [hn', hr']
                              obtain ⟨v570_0, v570_1, v570_2, v570_3, v570_4, v570_5, v570_6, v570_7, v570_8, v570_9, v570_10, v570_11, v570_12, v570_13, v570_14, v570_15, v570_16, v570_17, v570_18, vb570_0, vb570_1, vb570_2, vb570_3, vb570_4, vb570_5⟩ := id hM570
                              show xW p l e ({ frames := 4, cells := 0, slots := 0, locals := 96 } : Room) s m args below meth c D xcl (x_A M nx) 8 (MQ below (x_Q D xcl (x_A M nx) (mcPost nx M a th sg sn pr fk fp rws cd ds wc wd nn nE nC nK nO ln lF lC lT lO fn fC fP ak ac pt n (rM tx sn q) (cN tx (q + rM tx sn q) (rD tx sn (q + rM tx sn q))) (mrc tx sn ds xs dg n q))) args s 0 0 (x_A M nx)) 0 0 (nx) M570 285 [(7, .int ((-1))), (6, .int (nI (rD tx sn (q + rM tx sn q)))), (5, .int (nI (q + rM tx sn q))), (4, .int (nI (rM tx sn q))), (3, .int (nI (120 + n))), (2, .int (nI (n))), (0, .ref (a)), (1, .int (nI (q)))] [.int (nI (0))]
                              refine x_if_eq F (tgt := 292) dM_readsCode_285 (by decide) (fun c128 => ?_) (fun c128 => ?_)
                              · skip
                                have c128 : 0 = 0 := by
                                  exact (nI_eq (a := 0) (b := 0) (by omega) (by omega)).mp c128
                                refine x_iconst F (v := nI (0)) dM_readsCode_292 (by decide) ?_
                                exact x_zret F hr (by rfl) dM_readsCode_293 (by rw [show mrc tx sn ds xs dg n q = some (4, q + rM tx sn q) from by rw [mrc, if_neg (fun z => by have z := z.2; rw [c115] at z; cases z), if_neg h70, if_neg c118, if_neg (by omega), if_neg c120, if_neg (by omega), if_neg c123, if_neg (by rw [hbad]; decide), if_pos hbeh]]; exact ⟨rfl, fun b hb => (hf570 _ (by omega)).trans ((x_up_n (by omega)).trans ((x_up_n (by omega)).trans (rfl))), rfl, _, _, (fun i hi => ⟨updL_ne (by omega), upd_ne (by omega)⟩), hM570⟩)
                              · skip
                                have c128 : 0 ≠ 0 := by
                                  have z : ¬ (0 = 0) := fun zz => c128 ((nI_eq (a := 0) (b := 0) (by omega) (by omega)).mpr zz)
                                  omega
                                exact absurd c128 (by decide)
                        · skip
                          have c125 : 0 < rM tx sn q := by
                            have z : ¬ (rM tx sn q ≤ 0) := fun zz => c125 ((nI_leI (a := rM tx sn q) (b := 0) (by omega) (by omega)).mpr zz)
                            omega
                          refine x_aload_n F 6 dM_readsCode_218 rfl rfl ?_
                          refine x_get (ci := 6) F 7 (x_in inM) rfl (by decide) (x_m kfM_20) dM_readsCode_219 (x_up_k (x_up_k h0 (by omega)) (by omega)) rfl ?_
                          refine x_iload_n F 4 dM_readsCode_222 rfl rfl ?_
                          refine x_lald F dM_readsCode_223 x_up_s (pk_in (120 + n) (160) (by omega)) ?_
                          refine xW.tol (lN (cN tx (q + rM tx sn q) (rD tx sn (q + rM tx sn q)))) (by rw [nI_clamp (by omega)]; exact vp_us) ?_
                          refine x_aload_n F 6 dM_readsCode_224 rfl rfl ?_
                          refine x_get (ci := 6) F 7 (x_in inM) rfl (by decide) (x_m kfM_20) dM_readsCode_225 (x_up_k (x_up_k h0 (by omega)) (by omega)) rfl ?_
                          refine x_iload F 0 dM_readsCode_228 rfl ?_
                          refine x_if_ge F (tgt := 237) dM_readsCode_230 (by decide) (fun c129 => ?_) (fun c129 => ?_)
                          · skip
                            exact absurd c129 (by decide)
                          · skip
                            refine x_iload_n F 4 dM_readsCode_233 rfl rfl ?_
                            refine x_goto F (tgt := 239) dM_readsCode_234 (by decide) ?_
                            refine x_lald F dM_readsCode_239 x_up_s (pk_in (120 + n) (160) (by omega)) ?_
                            refine xW.tol (lN (cN tx (q + rM tx sn q) (rD tx sn (q + rM tx sn q)))) (by rw [nI_clamp (by omega)]; exact vp_us) ?_
                            refine yS (n := 2) (As := [.long (lN (cN tx (q + rM tx sn q) (rD tx sn (q + rM tx sn q)))), .long (lN (cN tx (q + rM tx sn q) (rD tx sn (q + rM tx sn q))))]) F kmM_107 ktM_begins knM kcM_begins (by decide +kernel) dM_readsCode_240 (cM_begins l (nx) (x_up (x_up M (a + 4) (.inl (.int, 160, .inl (upd (ds) (120 + n) (nI (rM tx sn q)))))) (a + 3) (.inl (.long, 160, .inr (.inl (vp_updL (cd) (120 + n) (lN (cN tx (q + rM tx sn q) (rD tx sn (q + rM tx sn q))))))))) (cN tx (q + rM tx sn q) (rD tx sn (q + rM tx sn q))) (rD tx sn (q + rM tx sn q)) (cN tx (q + rM tx sn q) (rD tx sn (q + rM tx sn q))) (rD tx sn (q + rM tx sn q)) hX10 hX10) rfl rfl (Nat.le_of_ble_eq_true rfl) ⟨Nat.le_of_ble_eq_true rfl, Nat.le_of_ble_eq_true rfl⟩ ⟨Nat.le_of_ble_eq_true rfl, Nat.le_of_ble_eq_true rfl⟩ ?_
                            refine x_if_ne F (tgt := 254) dM_readsCode_243 (by decide) (fun c130 => ?_) (fun c130 => ?_)
                            · skip
                              have c130 : (mbg (cN tx (q + rM tx sn q) (rD tx sn (q + rM tx sn q))) (rD tx sn (q + rM tx sn q)) (cN tx (q + rM tx sn q) (rD tx sn (q + rM tx sn q))) (rD tx sn (q + rM tx sn q))) = true := bI_1 c130
                              have hla := mUp_la (by omega) hup
                              have hbad : mBad ds xs dg n (rM tx sn q) (cN tx (q + rM tx sn q) (rD tx sn (q + rM tx sn q))) (rD tx sn (q + rM tx sn q)) = false := by rw [mBad, if_neg (by omega), hla]; rw [mbg_self] at c130; cases c130
                              refine x_iload_n F 5 dM_readsCode_254 rfl rfl ?_
                              refine x_if_eq F (tgt := 288) dM_readsCode_255 (by decide) (fun c131 => ?_) (fun c131 => ?_)
                              · skip
                                have c131 : n = 0 := by
                                  exact (nI_eq (a := n) (b := 0) (by omega) (by omega)).mp c131
                                have hbeh : mBeh xs dg n (cN tx (q + rM tx sn q) (rD tx sn (q + rM tx sn q))) (rD tx sn (q + rM tx sn q)) = true := by rw [c131]; rfl
                                refine x_iconst F (v := nI (1)) dM_readsCode_288 (by decide) ?_
                                refine x_goto F (tgt := 293) dM_readsCode_289 (by decide) ?_
                                exact x_zret F hr (by rfl) dM_readsCode_293 (by rw [show mrc tx sn ds xs dg n q = none from by rw [mrc, if_neg (fun z => by have z := z.2; rw [c115] at z; cases z), if_neg h70, if_neg c118, if_neg (by omega), if_neg c120, if_neg (by omega), if_neg c123, if_neg (by rw [hbad]; decide), if_neg (by rw [hbeh]; decide)]]; exact ⟨rfl, fun b hb => (x_up_n (by omega)).trans ((x_up_n (by omega)).trans (rfl)), rfl, ⟨(x_up_k (x_up_k h0 (by omega)) (by omega)), (x_up_k (x_up_k h1 (by omega)) (by omega)), (x_up_k (x_up_k h2 (by omega)) (by omega)), x_up_s, (x_up_k x_up_s (by omega)), (x_up_k (x_up_k h5 (by omega)) (by omega)), (x_up_k (x_up_k h6 (by omega)) (by omega)), (x_up_k (x_up_k h7 (by omega)) (by omega)), (x_up_k (x_up_k h8 (by omega)) (by omega)), (x_up_k (x_up_k h9 (by omega)) (by omega)), (x_up_k (x_up_k h10 (by omega)) (by omega)), (x_up_k (x_up_k h11 (by omega)) (by omega)), (x_up_k (x_up_k h12 (by omega)) (by omega)), (x_up_k (x_up_k h13 (by omega)) (by omega)), (x_up_k (x_up_k h14 (by omega)) (by omega)), (x_up_k (x_up_k h15 (by omega)) (by omega)), (x_up_k (x_up_k h16 (by omega)) (by omega)), (x_up_k (x_up_k h17 (by omega)) (by omega)), (x_up_k (x_up_k h18 (by omega)) (by omega)), by omega, by omega, by omega, by omega, by omega, by omega⟩⟩)
                              · skip
                                have c131 : n ≠ 0 := by
                                  have z : ¬ (n = 0) := fun zz => c131 ((nI_eq (a := n) (b := 0) (by omega) (by omega)).mpr zz)
                                  omega
                                obtain ⟨n0, hn1⟩ : ∃ n0, n = n0 + 1 := ⟨n - 1, by omega⟩
                                refine x_aload_n F 6 dM_readsCode_258 rfl rfl ?_
                                refine x_get (ci := 6) F 7 (x_in inM) rfl (by decide) (x_m kfM_20) dM_readsCode_259 (x_up_k (x_up_k h0 (by omega)) (by omega)) rfl ?_
                                refine x_iload_n F 4 dM_readsCode_262 rfl rfl ?_
                                refine x_lald F dM_readsCode_263 x_up_s (pk_in (120 + n) (160) (by omega)) ?_
                                refine xW.tol (lN (cN tx (q + rM tx sn q) (rD tx sn (q + rM tx sn q)))) (by rw [nI_clamp (by omega)]; exact vp_us) ?_
                                refine x_aload_n F 6 dM_readsCode_264 rfl rfl ?_
                                refine x_get (ci := 6) F 7 (x_in inM) rfl (by decide) (x_m kfM_20) dM_readsCode_265 (x_up_k (x_up_k h0 (by omega)) (by omega)) rfl ?_
                                refine x_iload_n F 4 dM_readsCode_268 rfl rfl ?_
                                refine x_iconst F (v := nI (1)) dM_readsCode_269 (by decide) ?_
                                refine x_isub F dM_readsCode_270 ?_
                                refine xW.toi (nI (120 + n0)) (by rw [hn1]; exact nI_pred (120 + n0)) ?_
                                refine x_lald F dM_readsCode_271 x_up_s (pk_in (120 + n0) (160) (by omega)) ?_
                                refine xW.tol (lN (xs n0)) (by rw [nI_clamp (by omega)]; exact (updL_ne (by omega)).trans (hcd n0 (by omega)).1) ?_
                                refine yS (n := 2) (As := [.long (lN (cN tx (q + rM tx sn q) (rD tx sn (q + rM tx sn q)))), .long (lN (xs n0))]) F kmM_126 ktM_isBehind knM kcM_isBehind (by decide +kernel) dM_readsCode_272 (cM_isBehind l (nx) (x_up (x_up M (a + 4) (.inl (.int, 160, .inl (upd (ds) (120 + n) (nI (rM tx sn q)))))) (a + 3) (.inl (.long, 160, .inr (.inl (vp_updL (cd) (120 + n) (lN (cN tx (q + rM tx sn q) (rD tx sn (q + rM tx sn q))))))))) (cN tx (q + rM tx sn q) (rD tx sn (q + rM tx sn q))) (rD tx sn (q + rM tx sn q)) (xs n0) (dg n0) hX10 (hcd n0 (by omega)).2) rfl rfl (Nat.le_of_ble_eq_true rfl) ⟨Nat.le_of_ble_eq_true rfl, Nat.le_of_ble_eq_true rfl⟩ ⟨Nat.le_of_ble_eq_true rfl, Nat.le_of_ble_eq_true rfl⟩ ?_
                                refine x_if_ne F (tgt := 288) dM_readsCode_275 (by decide) (fun c132 => ?_) (fun c132 => ?_)
                                · skip
                                  have c132 : (mbh (cN tx (q + rM tx sn q) (rD tx sn (q + rM tx sn q))) (rD tx sn (q + rM tx sn q)) (xs n0) (dg n0)) = true := bI_1 c132
                                  have hbeh : mBeh xs dg n (cN tx (q + rM tx sn q) (rD tx sn (q + rM tx sn q))) (rD tx sn (q + rM tx sn q)) = true := by rw [hn1]; exact c132
                                  refine x_iconst F (v := nI (1)) dM_readsCode_288 (by decide) ?_
                                  refine x_goto F (tgt := 293) dM_readsCode_289 (by decide) ?_
                                  exact x_zret F hr (by rfl) dM_readsCode_293 (by rw [show mrc tx sn ds xs dg n q = none from by rw [mrc, if_neg (fun z => by have z := z.2; rw [c115] at z; cases z), if_neg h70, if_neg c118, if_neg (by omega), if_neg c120, if_neg (by omega), if_neg c123, if_neg (by rw [hbad]; decide), if_neg (by rw [hbeh]; decide)]]; exact ⟨rfl, fun b hb => (x_up_n (by omega)).trans ((x_up_n (by omega)).trans (rfl)), rfl, ⟨(x_up_k (x_up_k h0 (by omega)) (by omega)), (x_up_k (x_up_k h1 (by omega)) (by omega)), (x_up_k (x_up_k h2 (by omega)) (by omega)), x_up_s, (x_up_k x_up_s (by omega)), (x_up_k (x_up_k h5 (by omega)) (by omega)), (x_up_k (x_up_k h6 (by omega)) (by omega)), (x_up_k (x_up_k h7 (by omega)) (by omega)), (x_up_k (x_up_k h8 (by omega)) (by omega)), (x_up_k (x_up_k h9 (by omega)) (by omega)), (x_up_k (x_up_k h10 (by omega)) (by omega)), (x_up_k (x_up_k h11 (by omega)) (by omega)), (x_up_k (x_up_k h12 (by omega)) (by omega)), (x_up_k (x_up_k h13 (by omega)) (by omega)), (x_up_k (x_up_k h14 (by omega)) (by omega)), (x_up_k (x_up_k h15 (by omega)) (by omega)), (x_up_k (x_up_k h16 (by omega)) (by omega)), (x_up_k (x_up_k h17 (by omega)) (by omega)), (x_up_k (x_up_k h18 (by omega)) (by omega)), by omega, by omega, by omega, by omega, by omega, by omega⟩⟩)
                                · skip
                                  have c132 : (mbh (cN tx (q + rM tx sn q) (rD tx sn (q + rM tx sn q))) (rD tx sn (q + rM tx sn q)) (xs n0) (dg n0)) = false := bI_0 c132
                                  have hbeh : mBeh xs dg n (cN tx (q + rM tx sn q) (rD tx sn (q + rM tx sn q))) (rD tx sn (q + rM tx sn q)) = false := by rw [hn1]; exact c132
                                  refine x_aload_n F 6 dM_readsCode_278 rfl rfl ?_
                                  refine x_iconst F (v := nI (4)) dM_readsCode_279 (by decide) ?_
                                  refine x_iload F 2 dM_readsCode_280 rfl ?_
                                  refine yVr (n := 2) (As := [.int (nI (4)), .int (nI (q + rM tx sn q))]) (ci := 6) F kmM_115 kiM_fails ksM_fails knM kcM_fails (by decide +kernel) dM_readsCode_282 (cM_fails l (nx) (x_up (x_up M (a + 4) (.inl (.int, 160, .inl (upd (ds) (120 + n) (nI (rM tx sn q)))))) (a + 3) (.inl (.long, 160, .inr (.inl (vp_updL (cd) (120 + n) (lN (cN tx (q + rM tx sn q) (rD tx sn (q + rM tx sn q))))))))) (a) th sg sn pr fk fp rws (vp_updL (cd) (120 + n) (lN (cN tx (q + rM tx sn q) (rD tx sn (q + rM tx sn q))))) (upd (ds) (120 + n) (nI (rM tx sn q))) wc wd nn nE nC nK nO ln lF lC lT lO fn fC fP ak ac pt ⟨(x_up_k (x_up_k h0 (by omega)) (by omega)), (x_up_k (x_up_k h1 (by omega)) (by omega)), (x_up_k (x_up_k h2 (by omega)) (by omega)), x_up_s, (x_up_k x_up_s (by omega)), (x_up_k (x_up_k h5 (by omega)) (by omega)), (x_up_k (x_up_k h6 (by omega)) (by omega)), (x_up_k (x_up_k h7 (by omega)) (by omega)), (x_up_k (x_up_k h8 (by omega)) (by omega)), (x_up_k (x_up_k h9 (by omega)) (by omega)), (x_up_k (x_up_k h10 (by omega)) (by omega)), (x_up_k (x_up_k h11 (by omega)) (by omega)), (x_up_k (x_up_k h12 (by omega)) (by omega)), (x_up_k (x_up_k h13 (by omega)) (by omega)), (x_up_k (x_up_k h14 (by omega)) (by omega)), (x_up_k (x_up_k h15 (by omega)) (by omega)), (x_up_k (x_up_k h16 (by omega)) (by omega)), (x_up_k (x_up_k h17 (by omega)) (by omega)), (x_up_k (x_up_k h18 (by omega)) (by omega)), by omega, by omega, by omega, by omega, by omega, by omega⟩ (nI (4)) (nI (q + rM tx sn q))) rfl (x_up_k (x_up_k h0 (by omega)) (by omega)) rfl rfl (Nat.le_of_ble_eq_true rfl) ⟨Nat.le_of_ble_eq_true rfl, Nat.le_of_ble_eq_true rfl⟩ ⟨Nat.le_of_ble_eq_true rfl, Nat.le_of_ble_eq_true rfl⟩ (fun r' n' M571 hp => ?_)
                                  obtain ⟨hr', hn', hM571, hf571⟩ := hp
                                  rw [hn', hr']
                                  obtain ⟨v571_0, v571_1, v571_2, v571_3, v571_4, v571_5, v571_6, v571_7, v571_8, v571_9, v571_10, v571_11, v571_12, v571_13, v571_14, v571_15, v571_16, v571_17, v571_18, vb571_0, vb571_1, vb571_2, vb571_3, vb571_4, vb571_5⟩ := id hM571
                                  show xW p l e ({ frames := 4, cells := 0, slots := 0, locals := 96 } : Room) s m args below meth c D xcl (x_A M nx) 8 (MQ below (x_Q D xcl (x_A M nx) (mcPost nx M a th sg sn pr fk fp rws cd ds wc wd nn nE nC nK nO ln lF lC lT lO fn fC fP ak ac pt n (rM tx sn q) (cN tx (q + rM tx sn q) (rD tx sn (q + rM tx sn q))) (mrc tx sn ds xs dg n q))) args s 0 0 (x_A M nx)) 0 0 (nx) M571 285 [(7, .int ((-1))), (6, .int (nI (rD tx sn (q + rM tx sn q)))), (5, .int (nI (q + rM tx sn q))), (4, .int (nI (rM tx sn q))), (3, .int (nI (120 + n))), (2, .int (nI (n))), (0, .ref (a)), (1, .int (nI (q)))] [.int (nI (0))]
                                  refine x_if_eq F (tgt := 292) dM_readsCode_285 (by decide) (fun c133 => ?_) (fun c133 => ?_)
                                  · skip
                                    have c133 : 0 = 0 := by
                                      exact (nI_eq (a := 0) (b := 0) (by omega) (by omega)).mp c133
                                    refine x_iconst F (v := nI (0)) dM_readsCode_292 (by decide) ?_
                                    exact x_zret F hr (by rfl) dM_readsCode_293 (by rw [show mrc tx sn ds xs dg n q = some (4, q + rM tx sn q) from by rw [mrc, if_neg (fun z => by have z := z.2; rw [c115] at z; cases z), if_neg h70, if_neg c118, if_neg (by omega), if_neg c120, if_neg (by omega), if_neg c123, if_neg (by rw [hbad]; decide), if_pos hbeh]]; exact ⟨rfl, fun b hb => (hf571 _ (by omega)).trans ((x_up_n (by omega)).trans ((x_up_n (by omega)).trans (rfl))), rfl, _, _, (fun i hi => ⟨updL_ne (by omega), upd_ne (by omega)⟩), hM571⟩)
                                  · skip
                                    have c133 : 0 ≠ 0 := by
                                      have z : ¬ (0 = 0) := fun zz => c133 ((nI_eq (a := 0) (b := 0) (by omega) (by omega)).mpr zz)
                                      omega
                                    exact absurd c133 (by decide)
                            · skip
                              have c130 : (mbg (cN tx (q + rM tx sn q) (rD tx sn (q + rM tx sn q))) (rD tx sn (q + rM tx sn q)) (cN tx (q + rM tx sn q) (rD tx sn (q + rM tx sn q))) (rD tx sn (q + rM tx sn q))) = false := bI_0 c130
                              have hla := mUp_la (by omega) hup
                              have hbad : mBad ds xs dg n (rM tx sn q) (cN tx (q + rM tx sn q) (rD tx sn (q + rM tx sn q))) (rD tx sn (q + rM tx sn q)) = true := by rw [mBad, if_neg (by omega), hla]
                              refine x_aload_n F 6 dM_readsCode_246 rfl rfl ?_
                              refine x_iconst F (v := nI (3)) dM_readsCode_247 (by decide) ?_
                              refine x_iload F 2 dM_readsCode_248 rfl ?_
                              refine yVr (n := 2) (As := [.int (nI (3)), .int (nI (q + rM tx sn q))]) (ci := 6) F kmM_115 kiM_fails ksM_fails knM kcM_fails (by decide +kernel) dM_readsCode_250 (cM_fails l (nx) (x_up (x_up M (a + 4) (.inl (.int, 160, .inl (upd (ds) (120 + n) (nI (rM tx sn q)))))) (a + 3) (.inl (.long, 160, .inr (.inl (vp_updL (cd) (120 + n) (lN (cN tx (q + rM tx sn q) (rD tx sn (q + rM tx sn q))))))))) (a) th sg sn pr fk fp rws (vp_updL (cd) (120 + n) (lN (cN tx (q + rM tx sn q) (rD tx sn (q + rM tx sn q))))) (upd (ds) (120 + n) (nI (rM tx sn q))) wc wd nn nE nC nK nO ln lF lC lT lO fn fC fP ak ac pt ⟨(x_up_k (x_up_k h0 (by omega)) (by omega)), (x_up_k (x_up_k h1 (by omega)) (by omega)), (x_up_k (x_up_k h2 (by omega)) (by omega)), x_up_s, (x_up_k x_up_s (by omega)), (x_up_k (x_up_k h5 (by omega)) (by omega)), (x_up_k (x_up_k h6 (by omega)) (by omega)), (x_up_k (x_up_k h7 (by omega)) (by omega)), (x_up_k (x_up_k h8 (by omega)) (by omega)), (x_up_k (x_up_k h9 (by omega)) (by omega)), (x_up_k (x_up_k h10 (by omega)) (by omega)), (x_up_k (x_up_k h11 (by omega)) (by omega)), (x_up_k (x_up_k h12 (by omega)) (by omega)), (x_up_k (x_up_k h13 (by omega)) (by omega)), (x_up_k (x_up_k h14 (by omega)) (by omega)), (x_up_k (x_up_k h15 (by omega)) (by omega)), (x_up_k (x_up_k h16 (by omega)) (by omega)), (x_up_k (x_up_k h17 (by omega)) (by omega)), (x_up_k (x_up_k h18 (by omega)) (by omega)), by omega, by omega, by omega, by omega, by omega, by omega⟩ (nI (3)) (nI (q + rM tx sn q))) rfl (x_up_k (x_up_k h0 (by omega)) (by omega)) rfl rfl (Nat.le_of_ble_eq_true rfl) ⟨Nat.le_of_ble_eq_true rfl, Nat.le_of_ble_eq_true rfl⟩ ⟨Nat.le_of_ble_eq_true rfl, Nat.le_of_ble_eq_true rfl⟩ (fun r' n' M572 hp => ?_)
                              obtain ⟨hr', hn', hM572, hf572⟩ := hp
                              rw [hn', hr']
                              obtain ⟨v572_0, v572_1, v572_2, v572_3, v572_4, v572_5, v572_6, v572_7, v572_8, v572_9, v572_10, v572_11, v572_12, v572_13, v572_14, v572_15, v572_16, v572_17, v572_18, vb572_0, vb572_1, vb572_2, vb572_3, vb572_4, vb572_5⟩ := id hM572
                              show xW p l e ({ frames := 4, cells := 0, slots := 0, locals := 96 } : Room) s m args below meth c D xcl (x_A M nx) 8 (MQ below (x_Q D xcl (x_A M nx) (mcPost nx M a th sg sn pr fk fp rws cd ds wc wd nn nE nC nK nO ln lF lC lT lO fn fC fP ak ac pt n (rM tx sn q) (cN tx (q + rM tx sn q) (rD tx sn (q + rM tx sn q))) (mrc tx sn ds xs dg n q))) args s 0 0 (x_A M nx)) 0 0 (nx) M572 253 [(7, .int ((-1))), (6, .int (nI (rD tx sn (q + rM tx sn q)))), (5, .int (nI (q + rM tx sn q))), (4, .int (nI (rM tx sn q))), (3, .int (nI (120 + n))), (2, .int (nI (n))), (0, .ref (a)), (1, .int (nI (q)))] [.int (nI (0))]
                              exact x_zret F hr (by rfl) dM_readsCode_253 (by rw [show mrc tx sn ds xs dg n q = some (3, q + rM tx sn q) from by rw [mrc, if_neg (fun z => by have z := z.2; rw [c115] at z; cases z), if_neg h70, if_neg c118, if_neg (by omega), if_neg c120, if_neg (by omega), if_neg c123, if_pos hbad]]; exact ⟨rfl, fun b hb => (hf572 _ (by omega)).trans ((x_up_n (by omega)).trans ((x_up_n (by omega)).trans (rfl))), rfl, _, _, (fun i hi => ⟨updL_ne (by omega), upd_ne (by omega)⟩), hM572⟩)
                      · skip
                        have c124 : rM tx sn q = 0 := by
                          exact (nI_eq (a := rM tx sn q) (b := 0) (by omega) (by omega)).mp c124
                        refine x_iload F 1 dM_readsCode_207 rfl ?_
                        refine x_iconst F (v := nI (2)) dM_readsCode_209 (by decide) ?_
                        refine x_icmp_ne F (tgt := 246) dM_readsCode_210 (by decide) (fun c134 => ?_) (fun c134 => ?_)
                        · skip
                          have c134 : rD tx sn (q + rM tx sn q) ≠ 2 := by
                            have z : ¬ (rD tx sn (q + rM tx sn q) = 2) := fun zz => c134 ((nI_eq (a := rD tx sn (q + rM tx sn q)) (b := 2) (by omega) (by omega)).mpr zz)
                            omega
                          have hbad : mBad ds xs dg n (rM tx sn q) (cN tx (q + rM tx sn q) (rD tx sn (q + rM tx sn q))) (rD tx sn (q + rM tx sn q)) = true := by rw [mBad, if_pos c124, decide_eq_false c134]; rfl
                          refine x_aload_n F 6 dM_readsCode_246 rfl rfl ?_
                          refine x_iconst F (v := nI (3)) dM_readsCode_247 (by decide) ?_
                          refine x_iload F 2 dM_readsCode_248 rfl ?_
                          refine yVr (n := 2) (As := [.int (nI (3)), .int (nI (q + rM tx sn q))]) (ci := 6) F kmM_115 kiM_fails ksM_fails knM kcM_fails (by decide +kernel) dM_readsCode_250 (cM_fails l (nx) (x_up (x_up M (a + 4) (.inl (.int, 160, .inl (upd (ds) (120 + n) (nI (rM tx sn q)))))) (a + 3) (.inl (.long, 160, .inr (.inl (vp_updL (cd) (120 + n) (lN (cN tx (q + rM tx sn q) (rD tx sn (q + rM tx sn q))))))))) (a) th sg sn pr fk fp rws (vp_updL (cd) (120 + n) (lN (cN tx (q + rM tx sn q) (rD tx sn (q + rM tx sn q))))) (upd (ds) (120 + n) (nI (rM tx sn q))) wc wd nn nE nC nK nO ln lF lC lT lO fn fC fP ak ac pt ⟨(x_up_k (x_up_k h0 (by omega)) (by omega)), (x_up_k (x_up_k h1 (by omega)) (by omega)), (x_up_k (x_up_k h2 (by omega)) (by omega)), x_up_s, (x_up_k x_up_s (by omega)), (x_up_k (x_up_k h5 (by omega)) (by omega)), (x_up_k (x_up_k h6 (by omega)) (by omega)), (x_up_k (x_up_k h7 (by omega)) (by omega)), (x_up_k (x_up_k h8 (by omega)) (by omega)), (x_up_k (x_up_k h9 (by omega)) (by omega)), (x_up_k (x_up_k h10 (by omega)) (by omega)), (x_up_k (x_up_k h11 (by omega)) (by omega)), (x_up_k (x_up_k h12 (by omega)) (by omega)), (x_up_k (x_up_k h13 (by omega)) (by omega)), (x_up_k (x_up_k h14 (by omega)) (by omega)), (x_up_k (x_up_k h15 (by omega)) (by omega)), (x_up_k (x_up_k h16 (by omega)) (by omega)), (x_up_k (x_up_k h17 (by omega)) (by omega)), (x_up_k (x_up_k h18 (by omega)) (by omega)), by omega, by omega, by omega, by omega, by omega, by omega⟩ (nI (3)) (nI (q + rM tx sn q))) rfl (x_up_k (x_up_k h0 (by omega)) (by omega)) rfl rfl (Nat.le_of_ble_eq_true rfl) ⟨Nat.le_of_ble_eq_true rfl, Nat.le_of_ble_eq_true rfl⟩ ⟨Nat.le_of_ble_eq_true rfl, Nat.le_of_ble_eq_true rfl⟩ (fun r' n' M573 hp => ?_)
                          obtain ⟨hr', hn', hM573, hf573⟩ := hp
                          rw [hn', hr']
                          obtain ⟨v573_0, v573_1, v573_2, v573_3, v573_4, v573_5, v573_6, v573_7, v573_8, v573_9, v573_10, v573_11, v573_12, v573_13, v573_14, v573_15, v573_16, v573_17, v573_18, vb573_0, vb573_1, vb573_2, vb573_3, vb573_4, vb573_5⟩ := id hM573
                          show xW p l e ({ frames := 4, cells := 0, slots := 0, locals := 96 } : Room) s m args below meth c D xcl (x_A M nx) 8 (MQ below (x_Q D xcl (x_A M nx) (mcPost nx M a th sg sn pr fk fp rws cd ds wc wd nn nE nC nK nO ln lF lC lT lO fn fC fP ak ac pt n (rM tx sn q) (cN tx (q + rM tx sn q) (rD tx sn (q + rM tx sn q))) (mrc tx sn ds xs dg n q))) args s 0 0 (x_A M nx)) 0 0 (nx) M573 253 [(7, .int ((-1))), (6, .int (nI (rD tx sn (q + rM tx sn q)))), (5, .int (nI (q + rM tx sn q))), (4, .int (nI (rM tx sn q))), (3, .int (nI (120 + n))), (2, .int (nI (n))), (0, .ref (a)), (1, .int (nI (q)))] [.int (nI (0))]
                          exact x_zret F hr (by rfl) dM_readsCode_253 (by rw [show mrc tx sn ds xs dg n q = some (3, q + rM tx sn q) from by rw [mrc, if_neg (fun z => by have z := z.2; rw [c115] at z; cases z), if_neg h70, if_neg c118, if_neg (by omega), if_neg c120, if_neg (by omega), if_neg c123, if_pos hbad]]; exact ⟨rfl, fun b hb => (hf573 _ (by omega)).trans ((x_up_n (by omega)).trans ((x_up_n (by omega)).trans (rfl))), rfl, _, _, (fun i hi => ⟨updL_ne (by omega), upd_ne (by omega)⟩), hM573⟩)
                        · skip
                          have c134 : rD tx sn (q + rM tx sn q) = 2 := by
                            exact (nI_eq (a := rD tx sn (q + rM tx sn q)) (b := 2) (by omega) (by omega)).mp c134
                          refine x_iload F 3 dM_readsCode_213 rfl ?_
                          refine x_if_le F (tgt := 254) dM_readsCode_215 (by decide) (fun c135 => ?_) (fun c135 => ?_)
                          · skip
                            have c135 : rM tx sn q ≤ 0 := by
                              exact (nI_leI (a := rM tx sn q) (b := 0) (by omega) (by omega)).mp c135
                            have hbad : mBad ds xs dg n (rM tx sn q) (cN tx (q + rM tx sn q) (rD tx sn (q + rM tx sn q))) (rD tx sn (q + rM tx sn q)) = false := by rw [mBad, if_pos (by omega), decide_eq_true (by omega)]; rfl
                            refine x_iload_n F 5 dM_readsCode_254 rfl rfl ?_
                            refine x_if_eq F (tgt := 288) dM_readsCode_255 (by decide) (fun c136 => ?_) (fun c136 => ?_)
                            · skip
                              have c136 : n = 0 := by
                                exact (nI_eq (a := n) (b := 0) (by omega) (by omega)).mp c136
                              have hbeh : mBeh xs dg n (cN tx (q + rM tx sn q) (rD tx sn (q + rM tx sn q))) (rD tx sn (q + rM tx sn q)) = true := by rw [c136]; rfl
                              refine x_iconst F (v := nI (1)) dM_readsCode_288 (by decide) ?_
                              refine x_goto F (tgt := 293) dM_readsCode_289 (by decide) ?_
                              exact x_zret F hr (by rfl) dM_readsCode_293 (by rw [show mrc tx sn ds xs dg n q = none from by rw [mrc, if_neg (fun z => by have z := z.2; rw [c115] at z; cases z), if_neg h70, if_neg c118, if_neg (by omega), if_neg c120, if_neg (by omega), if_neg c123, if_neg (by rw [hbad]; decide), if_neg (by rw [hbeh]; decide)]]; exact ⟨rfl, fun b hb => (x_up_n (by omega)).trans ((x_up_n (by omega)).trans (rfl)), rfl, ⟨(x_up_k (x_up_k h0 (by omega)) (by omega)), (x_up_k (x_up_k h1 (by omega)) (by omega)), (x_up_k (x_up_k h2 (by omega)) (by omega)), x_up_s, (x_up_k x_up_s (by omega)), (x_up_k (x_up_k h5 (by omega)) (by omega)), (x_up_k (x_up_k h6 (by omega)) (by omega)), (x_up_k (x_up_k h7 (by omega)) (by omega)), (x_up_k (x_up_k h8 (by omega)) (by omega)), (x_up_k (x_up_k h9 (by omega)) (by omega)), (x_up_k (x_up_k h10 (by omega)) (by omega)), (x_up_k (x_up_k h11 (by omega)) (by omega)), (x_up_k (x_up_k h12 (by omega)) (by omega)), (x_up_k (x_up_k h13 (by omega)) (by omega)), (x_up_k (x_up_k h14 (by omega)) (by omega)), (x_up_k (x_up_k h15 (by omega)) (by omega)), (x_up_k (x_up_k h16 (by omega)) (by omega)), (x_up_k (x_up_k h17 (by omega)) (by omega)), (x_up_k (x_up_k h18 (by omega)) (by omega)), by omega, by omega, by omega, by omega, by omega, by omega⟩⟩)
                            · skip
                              have c136 : n ≠ 0 := by
                                have z : ¬ (n = 0) := fun zz => c136 ((nI_eq (a := n) (b := 0) (by omega) (by omega)).mpr zz)
                                omega
                              obtain ⟨n0, hn1⟩ : ∃ n0, n = n0 + 1 := ⟨n - 1, by omega⟩
                              refine x_aload_n F 6 dM_readsCode_258 rfl rfl ?_
                              refine x_get (ci := 6) F 7 (x_in inM) rfl (by decide) (x_m kfM_20) dM_readsCode_259 (x_up_k (x_up_k h0 (by omega)) (by omega)) rfl ?_
                              refine x_iload_n F 4 dM_readsCode_262 rfl rfl ?_
                              refine x_lald F dM_readsCode_263 x_up_s (pk_in (120 + n) (160) (by omega)) ?_
                              refine xW.tol (lN (cN tx (q + rM tx sn q) (rD tx sn (q + rM tx sn q)))) (by rw [nI_clamp (by omega)]; exact vp_us) ?_
                              refine x_aload_n F 6 dM_readsCode_264 rfl rfl ?_
                              refine x_get (ci := 6) F 7 (x_in inM) rfl (by decide) (x_m kfM_20) dM_readsCode_265 (x_up_k (x_up_k h0 (by omega)) (by omega)) rfl ?_
                              refine x_iload_n F 4 dM_readsCode_268 rfl rfl ?_
                              refine x_iconst F (v := nI (1)) dM_readsCode_269 (by decide) ?_
                              refine x_isub F dM_readsCode_270 ?_
                              refine xW.toi (nI (120 + n0)) (by rw [hn1]; exact nI_pred (120 + n0)) ?_
                              refine x_lald F dM_readsCode_271 x_up_s (pk_in (120 + n0) (160) (by omega)) ?_
                              refine xW.tol (lN (xs n0)) (by rw [nI_clamp (by omega)]; exact (updL_ne (by omega)).trans (hcd n0 (by omega)).1) ?_
                              refine yS (n := 2) (As := [.long (lN (cN tx (q + rM tx sn q) (rD tx sn (q + rM tx sn q)))), .long (lN (xs n0))]) F kmM_126 ktM_isBehind knM kcM_isBehind (by decide +kernel) dM_readsCode_272 (cM_isBehind l (nx) (x_up (x_up M (a + 4) (.inl (.int, 160, .inl (upd (ds) (120 + n) (nI (rM tx sn q)))))) (a + 3) (.inl (.long, 160, .inr (.inl (vp_updL (cd) (120 + n) (lN (cN tx (q + rM tx sn q) (rD tx sn (q + rM tx sn q))))))))) (cN tx (q + rM tx sn q) (rD tx sn (q + rM tx sn q))) (rD tx sn (q + rM tx sn q)) (xs n0) (dg n0) hX10 (hcd n0 (by omega)).2) rfl rfl (Nat.le_of_ble_eq_true rfl) ⟨Nat.le_of_ble_eq_true rfl, Nat.le_of_ble_eq_true rfl⟩ ⟨Nat.le_of_ble_eq_true rfl, Nat.le_of_ble_eq_true rfl⟩ ?_
                              refine x_if_ne F (tgt := 288) dM_readsCode_275 (by decide) (fun c137 => ?_) (fun c137 => ?_)
                              · skip
                                have c137 : (mbh (cN tx (q + rM tx sn q) (rD tx sn (q + rM tx sn q))) (rD tx sn (q + rM tx sn q)) (xs n0) (dg n0)) = true := bI_1 c137
                                have hbeh : mBeh xs dg n (cN tx (q + rM tx sn q) (rD tx sn (q + rM tx sn q))) (rD tx sn (q + rM tx sn q)) = true := by rw [hn1]; exact c137
                                refine x_iconst F (v := nI (1)) dM_readsCode_288 (by decide) ?_
                                refine x_goto F (tgt := 293) dM_readsCode_289 (by decide) ?_
                                exact x_zret F hr (by rfl) dM_readsCode_293 (by rw [show mrc tx sn ds xs dg n q = none from by rw [mrc, if_neg (fun z => by have z := z.2; rw [c115] at z; cases z), if_neg h70, if_neg c118, if_neg (by omega), if_neg c120, if_neg (by omega), if_neg c123, if_neg (by rw [hbad]; decide), if_neg (by rw [hbeh]; decide)]]; exact ⟨rfl, fun b hb => (x_up_n (by omega)).trans ((x_up_n (by omega)).trans (rfl)), rfl, ⟨(x_up_k (x_up_k h0 (by omega)) (by omega)), (x_up_k (x_up_k h1 (by omega)) (by omega)), (x_up_k (x_up_k h2 (by omega)) (by omega)), x_up_s, (x_up_k x_up_s (by omega)), (x_up_k (x_up_k h5 (by omega)) (by omega)), (x_up_k (x_up_k h6 (by omega)) (by omega)), (x_up_k (x_up_k h7 (by omega)) (by omega)), (x_up_k (x_up_k h8 (by omega)) (by omega)), (x_up_k (x_up_k h9 (by omega)) (by omega)), (x_up_k (x_up_k h10 (by omega)) (by omega)), (x_up_k (x_up_k h11 (by omega)) (by omega)), (x_up_k (x_up_k h12 (by omega)) (by omega)), (x_up_k (x_up_k h13 (by omega)) (by omega)), (x_up_k (x_up_k h14 (by omega)) (by omega)), (x_up_k (x_up_k h15 (by omega)) (by omega)), (x_up_k (x_up_k h16 (by omega)) (by omega)), (x_up_k (x_up_k h17 (by omega)) (by omega)), (x_up_k (x_up_k h18 (by omega)) (by omega)), by omega, by omega, by omega, by omega, by omega, by omega⟩⟩)
                              · skip
                                have c137 : (mbh (cN tx (q + rM tx sn q) (rD tx sn (q + rM tx sn q))) (rD tx sn (q + rM tx sn q)) (xs n0) (dg n0)) = false := bI_0 c137
                                have hbeh : mBeh xs dg n (cN tx (q + rM tx sn q) (rD tx sn (q + rM tx sn q))) (rD tx sn (q + rM tx sn q)) = false := by rw [hn1]; exact c137
                                refine x_aload_n F 6 dM_readsCode_278 rfl rfl ?_
                                refine x_iconst F (v := nI (4)) dM_readsCode_279 (by decide) ?_
                                refine x_iload F 2 dM_readsCode_280 rfl ?_
                                refine yVr (n := 2) (As := [.int (nI (4)), .int (nI (q + rM tx sn q))]) (ci := 6) F kmM_115 kiM_fails ksM_fails knM kcM_fails (by decide +kernel) dM_readsCode_282 (cM_fails l (nx) (x_up (x_up M (a + 4) (.inl (.int, 160, .inl (upd (ds) (120 + n) (nI (rM tx sn q)))))) (a + 3) (.inl (.long, 160, .inr (.inl (vp_updL (cd) (120 + n) (lN (cN tx (q + rM tx sn q) (rD tx sn (q + rM tx sn q))))))))) (a) th sg sn pr fk fp rws (vp_updL (cd) (120 + n) (lN (cN tx (q + rM tx sn q) (rD tx sn (q + rM tx sn q))))) (upd (ds) (120 + n) (nI (rM tx sn q))) wc wd nn nE nC nK nO ln lF lC lT lO fn fC fP ak ac pt ⟨(x_up_k (x_up_k h0 (by omega)) (by omega)), (x_up_k (x_up_k h1 (by omega)) (by omega)), (x_up_k (x_up_k h2 (by omega)) (by omega)), x_up_s, (x_up_k x_up_s (by omega)), (x_up_k (x_up_k h5 (by omega)) (by omega)), (x_up_k (x_up_k h6 (by omega)) (by omega)), (x_up_k (x_up_k h7 (by omega)) (by omega)), (x_up_k (x_up_k h8 (by omega)) (by omega)), (x_up_k (x_up_k h9 (by omega)) (by omega)), (x_up_k (x_up_k h10 (by omega)) (by omega)), (x_up_k (x_up_k h11 (by omega)) (by omega)), (x_up_k (x_up_k h12 (by omega)) (by omega)), (x_up_k (x_up_k h13 (by omega)) (by omega)), (x_up_k (x_up_k h14 (by omega)) (by omega)), (x_up_k (x_up_k h15 (by omega)) (by omega)), (x_up_k (x_up_k h16 (by omega)) (by omega)), (x_up_k (x_up_k h17 (by omega)) (by omega)), (x_up_k (x_up_k h18 (by omega)) (by omega)), by omega, by omega, by omega, by omega, by omega, by omega⟩ (nI (4)) (nI (q + rM tx sn q))) rfl (x_up_k (x_up_k h0 (by omega)) (by omega)) rfl rfl (Nat.le_of_ble_eq_true rfl) ⟨Nat.le_of_ble_eq_true rfl, Nat.le_of_ble_eq_true rfl⟩ ⟨Nat.le_of_ble_eq_true rfl, Nat.le_of_ble_eq_true rfl⟩ (fun r' n' M574 hp => ?_)
                                obtain ⟨hr', hn', hM574, hf574⟩ := hp
                                rw [hn', hr']
                                obtain ⟨v574_0, v574_1, v574_2, v574_3, v574_4, v574_5, v574_6, v574_7, v574_8, v574_9, v574_10, v574_11, v574_12, v574_13, v574_14, v574_15, v574_16, v574_17, v574_18, vb574_0, vb574_1, vb574_2, vb574_3, vb574_4, vb574_5⟩ := id hM574
                                show xW p l e ({ frames := 4, cells := 0, slots := 0, locals := 96 } : Room) s m args below meth c D xcl (x_A M nx) 8 (MQ below (x_Q D xcl (x_A M nx) (mcPost nx M a th sg sn pr fk fp rws cd ds wc wd nn nE nC nK nO ln lF lC lT lO fn fC fP ak ac pt n (rM tx sn q) (cN tx (q + rM tx sn q) (rD tx sn (q + rM tx sn q))) (mrc tx sn ds xs dg n q))) args s 0 0 (x_A M nx)) 0 0 (nx) M574 285 [(7, .int ((-1))), (6, .int (nI (rD tx sn (q + rM tx sn q)))), (5, .int (nI (q + rM tx sn q))), (4, .int (nI (rM tx sn q))), (3, .int (nI (120 + n))), (2, .int (nI (n))), (0, .ref (a)), (1, .int (nI (q)))] [.int (nI (0))]
                                refine x_if_eq F (tgt := 292) dM_readsCode_285 (by decide) (fun c138 => ?_) (fun c138 => ?_)
                                · skip
                                  have c138 : 0 = 0 := by
                                    exact (nI_eq (a := 0) (b := 0) (by omega) (by omega)).mp c138
                                  refine x_iconst F (v := nI (0)) dM_readsCode_292 (by decide) ?_
                                  exact x_zret F hr (by rfl) dM_readsCode_293 (by rw [show mrc tx sn ds xs dg n q = some (4, q + rM tx sn q) from by rw [mrc, if_neg (fun z => by have z := z.2; rw [c115] at z; cases z), if_neg h70, if_neg c118, if_neg (by omega), if_neg c120, if_neg (by omega), if_neg c123, if_neg (by rw [hbad]; decide), if_pos hbeh]]; exact ⟨rfl, fun b hb => (hf574 _ (by omega)).trans ((x_up_n (by omega)).trans ((x_up_n (by omega)).trans (rfl))), rfl, _, _, (fun i hi => ⟨updL_ne (by omega), upd_ne (by omega)⟩), hM574⟩)
                                · skip
                                  have c138 : 0 ≠ 0 := by
                                    have z : ¬ (0 = 0) := fun zz => c138 ((nI_eq (a := 0) (b := 0) (by omega) (by omega)).mpr zz)
                                    omega
                                  exact absurd c138 (by decide)
                          · skip
                            have c135 : 0 < rM tx sn q := by
                              have z : ¬ (rM tx sn q ≤ 0) := fun zz => c135 ((nI_leI (a := rM tx sn q) (b := 0) (by omega) (by omega)).mpr zz)
                              omega
                            refine x_aload_n F 6 dM_readsCode_218 rfl rfl ?_
                            refine x_get (ci := 6) F 7 (x_in inM) rfl (by decide) (x_m kfM_20) dM_readsCode_219 (x_up_k (x_up_k h0 (by omega)) (by omega)) rfl ?_
                            refine x_iload_n F 4 dM_readsCode_222 rfl rfl ?_
                            refine x_lald F dM_readsCode_223 x_up_s (pk_in (120 + n) (160) (by omega)) ?_
                            refine xW.tol (lN (cN tx (q + rM tx sn q) (rD tx sn (q + rM tx sn q)))) (by rw [nI_clamp (by omega)]; exact vp_us) ?_
                            refine x_aload_n F 6 dM_readsCode_224 rfl rfl ?_
                            refine x_get (ci := 6) F 7 (x_in inM) rfl (by decide) (x_m kfM_20) dM_readsCode_225 (x_up_k (x_up_k h0 (by omega)) (by omega)) rfl ?_
                            refine x_iload F 0 dM_readsCode_228 rfl ?_
                            refine x_if_ge F (tgt := 237) dM_readsCode_230 (by decide) (fun c139 => ?_) (fun c139 => ?_)
                            · skip
                              exact absurd c139 (by decide)
                            · skip
                              refine x_iload_n F 4 dM_readsCode_233 rfl rfl ?_
                              refine x_goto F (tgt := 239) dM_readsCode_234 (by decide) ?_
                              refine x_lald F dM_readsCode_239 x_up_s (pk_in (120 + n) (160) (by omega)) ?_
                              refine xW.tol (lN (cN tx (q + rM tx sn q) (rD tx sn (q + rM tx sn q)))) (by rw [nI_clamp (by omega)]; exact vp_us) ?_
                              refine yS (n := 2) (As := [.long (lN (cN tx (q + rM tx sn q) (rD tx sn (q + rM tx sn q)))), .long (lN (cN tx (q + rM tx sn q) (rD tx sn (q + rM tx sn q))))]) F kmM_107 ktM_begins knM kcM_begins (by decide +kernel) dM_readsCode_240 (cM_begins l (nx) (x_up (x_up M (a + 4) (.inl (.int, 160, .inl (upd (ds) (120 + n) (nI (rM tx sn q)))))) (a + 3) (.inl (.long, 160, .inr (.inl (vp_updL (cd) (120 + n) (lN (cN tx (q + rM tx sn q) (rD tx sn (q + rM tx sn q))))))))) (cN tx (q + rM tx sn q) (rD tx sn (q + rM tx sn q))) (rD tx sn (q + rM tx sn q)) (cN tx (q + rM tx sn q) (rD tx sn (q + rM tx sn q))) (rD tx sn (q + rM tx sn q)) hX10 hX10) rfl rfl (Nat.le_of_ble_eq_true rfl) ⟨Nat.le_of_ble_eq_true rfl, Nat.le_of_ble_eq_true rfl⟩ ⟨Nat.le_of_ble_eq_true rfl, Nat.le_of_ble_eq_true rfl⟩ ?_
                              refine x_if_ne F (tgt := 254) dM_readsCode_243 (by decide) (fun c140 => ?_) (fun c140 => ?_)
                              · skip
                                have c140 : (mbg (cN tx (q + rM tx sn q) (rD tx sn (q + rM tx sn q))) (rD tx sn (q + rM tx sn q)) (cN tx (q + rM tx sn q) (rD tx sn (q + rM tx sn q))) (rD tx sn (q + rM tx sn q))) = true := bI_1 c140
                                have hla := mUp_la (by omega) hup
                                have hbad : mBad ds xs dg n (rM tx sn q) (cN tx (q + rM tx sn q) (rD tx sn (q + rM tx sn q))) (rD tx sn (q + rM tx sn q)) = false := by rw [mBad, if_neg (by omega), hla]; rw [mbg_self] at c140; cases c140
                                refine x_iload_n F 5 dM_readsCode_254 rfl rfl ?_
                                refine x_if_eq F (tgt := 288) dM_readsCode_255 (by decide) (fun c141 => ?_) (fun c141 => ?_)
                                · skip
                                  have c141 : n = 0 := by
                                    exact (nI_eq (a := n) (b := 0) (by omega) (by omega)).mp c141
                                  have hbeh : mBeh xs dg n (cN tx (q + rM tx sn q) (rD tx sn (q + rM tx sn q))) (rD tx sn (q + rM tx sn q)) = true := by rw [c141]; rfl
                                  refine x_iconst F (v := nI (1)) dM_readsCode_288 (by decide) ?_
                                  refine x_goto F (tgt := 293) dM_readsCode_289 (by decide) ?_
                                  exact x_zret F hr (by rfl) dM_readsCode_293 (by rw [show mrc tx sn ds xs dg n q = none from by rw [mrc, if_neg (fun z => by have z := z.2; rw [c115] at z; cases z), if_neg h70, if_neg c118, if_neg (by omega), if_neg c120, if_neg (by omega), if_neg c123, if_neg (by rw [hbad]; decide), if_neg (by rw [hbeh]; decide)]]; exact ⟨rfl, fun b hb => (x_up_n (by omega)).trans ((x_up_n (by omega)).trans (rfl)), rfl, ⟨(x_up_k (x_up_k h0 (by omega)) (by omega)), (x_up_k (x_up_k h1 (by omega)) (by omega)), (x_up_k (x_up_k h2 (by omega)) (by omega)), x_up_s, (x_up_k x_up_s (by omega)), (x_up_k (x_up_k h5 (by omega)) (by omega)), (x_up_k (x_up_k h6 (by omega)) (by omega)), (x_up_k (x_up_k h7 (by omega)) (by omega)), (x_up_k (x_up_k h8 (by omega)) (by omega)), (x_up_k (x_up_k h9 (by omega)) (by omega)), (x_up_k (x_up_k h10 (by omega)) (by omega)), (x_up_k (x_up_k h11 (by omega)) (by omega)), (x_up_k (x_up_k h12 (by omega)) (by omega)), (x_up_k (x_up_k h13 (by omega)) (by omega)), (x_up_k (x_up_k h14 (by omega)) (by omega)), (x_up_k (x_up_k h15 (by omega)) (by omega)), (x_up_k (x_up_k h16 (by omega)) (by omega)), (x_up_k (x_up_k h17 (by omega)) (by omega)), (x_up_k (x_up_k h18 (by omega)) (by omega)), by omega, by omega, by omega, by omega, by omega, by omega⟩⟩)
                                · skip
                                  have c141 : n ≠ 0 := by
                                    have z : ¬ (n = 0) := fun zz => c141 ((nI_eq (a := n) (b := 0) (by omega) (by omega)).mpr zz)
                                    omega
                                  obtain ⟨n0, hn1⟩ : ∃ n0, n = n0 + 1 := ⟨n - 1, by omega⟩
                                  refine x_aload_n F 6 dM_readsCode_258 rfl rfl ?_
                                  refine x_get (ci := 6) F 7 (x_in inM) rfl (by decide) (x_m kfM_20) dM_readsCode_259 (x_up_k (x_up_k h0 (by omega)) (by omega)) rfl ?_
                                  refine x_iload_n F 4 dM_readsCode_262 rfl rfl ?_
                                  refine x_lald F dM_readsCode_263 x_up_s (pk_in (120 + n) (160) (by omega)) ?_
                                  refine xW.tol (lN (cN tx (q + rM tx sn q) (rD tx sn (q + rM tx sn q)))) (by rw [nI_clamp (by omega)]; exact vp_us) ?_
                                  refine x_aload_n F 6 dM_readsCode_264 rfl rfl ?_
                                  refine x_get (ci := 6) F 7 (x_in inM) rfl (by decide) (x_m kfM_20) dM_readsCode_265 (x_up_k (x_up_k h0 (by omega)) (by omega)) rfl ?_
                                  refine x_iload_n F 4 dM_readsCode_268 rfl rfl ?_
                                  refine x_iconst F (v := nI (1)) dM_readsCode_269 (by decide) ?_
                                  refine x_isub F dM_readsCode_270 ?_
                                  refine xW.toi (nI (120 + n0)) (by rw [hn1]; exact nI_pred (120 + n0)) ?_
                                  refine x_lald F dM_readsCode_271 x_up_s (pk_in (120 + n0) (160) (by omega)) ?_
                                  refine xW.tol (lN (xs n0)) (by rw [nI_clamp (by omega)]; exact (updL_ne (by omega)).trans (hcd n0 (by omega)).1) ?_
                                  refine yS (n := 2) (As := [.long (lN (cN tx (q + rM tx sn q) (rD tx sn (q + rM tx sn q)))), .long (lN (xs n0))]) F kmM_126 ktM_isBehind knM kcM_isBehind (by decide +kernel) dM_readsCode_272 (cM_isBehind l (nx) (x_up (x_up M (a + 4) (.inl (.int, 160, .inl (upd (ds) (120 + n) (nI (rM tx sn q)))))) (a + 3) (.inl (.long, 160, .inr (.inl (vp_updL (cd) (120 + n) (lN (cN tx (q + rM tx sn q) (rD tx sn (q + rM tx sn q))))))))) (cN tx (q + rM tx sn q) (rD tx sn (q + rM tx sn q))) (rD tx sn (q + rM tx sn q)) (xs n0) (dg n0) hX10 (hcd n0 (by omega)).2) rfl rfl (Nat.le_of_ble_eq_true rfl) ⟨Nat.le_of_ble_eq_true rfl, Nat.le_of_ble_eq_true rfl⟩ ⟨Nat.le_of_ble_eq_true rfl, Nat.le_of_ble_eq_true rfl⟩ ?_
                                  refine x_if_ne F (tgt := 288) dM_readsCode_275 (by decide) (fun c142 => ?_) (fun c142 => ?_)
                                  · skip
                                    have c142 : (mbh (cN tx (q + rM tx sn q) (rD tx sn (q + rM tx sn q))) (rD tx sn (q + rM tx sn q)) (xs n0) (dg n0)) = true := bI_1 c142
                                    have hbeh : mBeh xs dg n (cN tx (q + rM tx sn q) (rD tx sn (q + rM tx sn q))) (rD tx sn (q + rM tx sn q)) = true := by rw [hn1]; exact c142
                                    refine x_iconst F (v := nI (1)) dM_readsCode_288 (by decide) ?_
                                    refine x_goto F (tgt := 293) dM_readsCode_289 (by decide) ?_
                                    exact x_zret F hr (by rfl) dM_readsCode_293 (by rw [show mrc tx sn ds xs dg n q = none from by rw [mrc, if_neg (fun z => by have z := z.2; rw [c115] at z; cases z), if_neg h70, if_neg c118, if_neg (by omega), if_neg c120, if_neg (by omega), if_neg c123, if_neg (by rw [hbad]; decide), if_neg (by rw [hbeh]; decide)]]; exact ⟨rfl, fun b hb => (x_up_n (by omega)).trans ((x_up_n (by omega)).trans (rfl)), rfl, ⟨(x_up_k (x_up_k h0 (by omega)) (by omega)), (x_up_k (x_up_k h1 (by omega)) (by omega)), (x_up_k (x_up_k h2 (by omega)) (by omega)), x_up_s, (x_up_k x_up_s (by omega)), (x_up_k (x_up_k h5 (by omega)) (by omega)), (x_up_k (x_up_k h6 (by omega)) (by omega)), (x_up_k (x_up_k h7 (by omega)) (by omega)), (x_up_k (x_up_k h8 (by omega)) (by omega)), (x_up_k (x_up_k h9 (by omega)) (by omega)), (x_up_k (x_up_k h10 (by omega)) (by omega)), (x_up_k (x_up_k h11 (by omega)) (by omega)), (x_up_k (x_up_k h12 (by omega)) (by omega)), (x_up_k (x_up_k h13 (by omega)) (by omega)), (x_up_k (x_up_k h14 (by omega)) (by omega)), (x_up_k (x_up_k h15 (by omega)) (by omega)), (x_up_k (x_up_k h16 (by omega)) (by omega)), (x_up_k (x_up_k h17 (by omega)) (by omega)), (x_up_k (x_up_k h18 (by omega)) (by omega)), by omega, by omega, by omega, by omega, by omega, by omega⟩⟩)
                                  · skip
                                    have c142 : (mbh (cN tx (q + rM tx sn q) (rD tx sn (q + rM tx sn q))) (rD tx sn (q + rM tx sn q)) (xs n0) (dg n0)) = false := bI_0 c142
                                    have hbeh : mBeh xs dg n (cN tx (q + rM tx sn q) (rD tx sn (q + rM tx sn q))) (rD tx sn (q + rM tx sn q)) = false := by rw [hn1]; exact c142
                                    refine x_aload_n F 6 dM_readsCode_278 rfl rfl ?_
                                    refine x_iconst F (v := nI (4)) dM_readsCode_279 (by decide) ?_
                                    refine x_iload F 2 dM_readsCode_280 rfl ?_
                                    refine yVr (n := 2) (As := [.int (nI (4)), .int (nI (q + rM tx sn q))]) (ci := 6) F kmM_115 kiM_fails ksM_fails knM kcM_fails (by decide +kernel) dM_readsCode_282 (cM_fails l (nx) (x_up (x_up M (a + 4) (.inl (.int, 160, .inl (upd (ds) (120 + n) (nI (rM tx sn q)))))) (a + 3) (.inl (.long, 160, .inr (.inl (vp_updL (cd) (120 + n) (lN (cN tx (q + rM tx sn q) (rD tx sn (q + rM tx sn q))))))))) (a) th sg sn pr fk fp rws (vp_updL (cd) (120 + n) (lN (cN tx (q + rM tx sn q) (rD tx sn (q + rM tx sn q))))) (upd (ds) (120 + n) (nI (rM tx sn q))) wc wd nn nE nC nK nO ln lF lC lT lO fn fC fP ak ac pt ⟨(x_up_k (x_up_k h0 (by omega)) (by omega)), (x_up_k (x_up_k h1 (by omega)) (by omega)), (x_up_k (x_up_k h2 (by omega)) (by omega)), x_up_s, (x_up_k x_up_s (by omega)), (x_up_k (x_up_k h5 (by omega)) (by omega)), (x_up_k (x_up_k h6 (by omega)) (by omega)), (x_up_k (x_up_k h7 (by omega)) (by omega)), (x_up_k (x_up_k h8 (by omega)) (by omega)), (x_up_k (x_up_k h9 (by omega)) (by omega)), (x_up_k (x_up_k h10 (by omega)) (by omega)), (x_up_k (x_up_k h11 (by omega)) (by omega)), (x_up_k (x_up_k h12 (by omega)) (by omega)), (x_up_k (x_up_k h13 (by omega)) (by omega)), (x_up_k (x_up_k h14 (by omega)) (by omega)), (x_up_k (x_up_k h15 (by omega)) (by omega)), (x_up_k (x_up_k h16 (by omega)) (by omega)), (x_up_k (x_up_k h17 (by omega)) (by omega)), (x_up_k (x_up_k h18 (by omega)) (by omega)), by omega, by omega, by omega, by omega, by omega, by omega⟩ (nI (4)) (nI (q + rM tx sn q))) rfl (x_up_k (x_up_k h0 (by omega)) (by omega)) rfl rfl (Nat.le_of_ble_eq_true rfl) ⟨Nat.le_of_ble_eq_true rfl, Nat.le_of_ble_eq_true rfl⟩ ⟨Nat.le_of_ble_eq_true rfl, Nat.le_of_ble_eq_true rfl⟩ (fun r' n' M575 hp => ?_)
                                    obtain ⟨hr', hn', hM575, hf575⟩ := hp
                                    rw [hn', hr']
                                    obtain ⟨v575_0, v575_1, v575_2, v575_3, v575_4, v575_5, v575_6, v575_7, v575_8, v575_9, v575_10, v575_11, v575_12, v575_13, v575_14, v575_15, v575_16, v575_17, v575_18, vb575_0, vb575_1, vb575_2, vb575_3, vb575_4, vb575_5⟩ := id hM575
                                    show xW p l e ({ frames := 4, cells := 0, slots := 0, locals := 96 } : Room) s m args below meth c D xcl (x_A M nx) 8 (MQ below (x_Q D xcl (x_A M nx) (mcPost nx M a th sg sn pr fk fp rws cd ds wc wd nn nE nC nK nO ln lF lC lT lO fn fC fP ak ac pt n (rM tx sn q) (cN tx (q + rM tx sn q) (rD tx sn (q + rM tx sn q))) (mrc tx sn ds xs dg n q))) args s 0 0 (x_A M nx)) 0 0 (nx) M575 285 [(7, .int ((-1))), (6, .int (nI (rD tx sn (q + rM tx sn q)))), (5, .int (nI (q + rM tx sn q))), (4, .int (nI (rM tx sn q))), (3, .int (nI (120 + n))), (2, .int (nI (n))), (0, .ref (a)), (1, .int (nI (q)))] [.int (nI (0))]
                                    refine x_if_eq F (tgt := 292) dM_readsCode_285 (by decide) (fun c143 => ?_) (fun c143 => ?_)
                                    · skip
                                      have c143 : 0 = 0 := by
                                        exact (nI_eq (a := 0) (b := 0) (by omega) (by omega)).mp c143
                                      refine x_iconst F (v := nI (0)) dM_readsCode_292 (by decide) ?_
                                      exact x_zret F hr (by rfl) dM_readsCode_293 (by rw [show mrc tx sn ds xs dg n q = some (4, q + rM tx sn q) from by rw [mrc, if_neg (fun z => by have z := z.2; rw [c115] at z; cases z), if_neg h70, if_neg c118, if_neg (by omega), if_neg c120, if_neg (by omega), if_neg c123, if_neg (by rw [hbad]; decide), if_pos hbeh]]; exact ⟨rfl, fun b hb => (hf575 _ (by omega)).trans ((x_up_n (by omega)).trans ((x_up_n (by omega)).trans (rfl))), rfl, _, _, (fun i hi => ⟨updL_ne (by omega), upd_ne (by omega)⟩), hM575⟩)
                                    · skip
                                      have c143 : 0 ≠ 0 := by
                                        have z : ¬ (0 = 0) := fun zz => c143 ((nI_eq (a := 0) (b := 0) (by omega) (by omega)).mpr zz)
                                        omega
                                      exact absurd c143 (by decide)
                              · skip
                                have c140 : (mbg (cN tx (q + rM tx sn q) (rD tx sn (q + rM tx sn q))) (rD tx sn (q + rM tx sn q)) (cN tx (q + rM tx sn q) (rD tx sn (q + rM tx sn q))) (rD tx sn (q + rM tx sn q))) = false := bI_0 c140
                                have hla := mUp_la (by omega) hup
                                have hbad : mBad ds xs dg n (rM tx sn q) (cN tx (q + rM tx sn q) (rD tx sn (q + rM tx sn q))) (rD tx sn (q + rM tx sn q)) = true := by rw [mBad, if_neg (by omega), hla]
                                refine x_aload_n F 6 dM_readsCode_246 rfl rfl ?_
                                refine x_iconst F (v := nI (3)) dM_readsCode_247 (by decide) ?_
                                refine x_iload F 2 dM_readsCode_248 rfl ?_
                                refine yVr (n := 2) (As := [.int (nI (3)), .int (nI (q + rM tx sn q))]) (ci := 6) F kmM_115 kiM_fails ksM_fails knM kcM_fails (by decide +kernel) dM_readsCode_250 (cM_fails l (nx) (x_up (x_up M (a + 4) (.inl (.int, 160, .inl (upd (ds) (120 + n) (nI (rM tx sn q)))))) (a + 3) (.inl (.long, 160, .inr (.inl (vp_updL (cd) (120 + n) (lN (cN tx (q + rM tx sn q) (rD tx sn (q + rM tx sn q))))))))) (a) th sg sn pr fk fp rws (vp_updL (cd) (120 + n) (lN (cN tx (q + rM tx sn q) (rD tx sn (q + rM tx sn q))))) (upd (ds) (120 + n) (nI (rM tx sn q))) wc wd nn nE nC nK nO ln lF lC lT lO fn fC fP ak ac pt ⟨(x_up_k (x_up_k h0 (by omega)) (by omega)), (x_up_k (x_up_k h1 (by omega)) (by omega)), (x_up_k (x_up_k h2 (by omega)) (by omega)), x_up_s, (x_up_k x_up_s (by omega)), (x_up_k (x_up_k h5 (by omega)) (by omega)), (x_up_k (x_up_k h6 (by omega)) (by omega)), (x_up_k (x_up_k h7 (by omega)) (by omega)), (x_up_k (x_up_k h8 (by omega)) (by omega)), (x_up_k (x_up_k h9 (by omega)) (by omega)), (x_up_k (x_up_k h10 (by omega)) (by omega)), (x_up_k (x_up_k h11 (by omega)) (by omega)), (x_up_k (x_up_k h12 (by omega)) (by omega)), (x_up_k (x_up_k h13 (by omega)) (by omega)), (x_up_k (x_up_k h14 (by omega)) (by omega)), (x_up_k (x_up_k h15 (by omega)) (by omega)), (x_up_k (x_up_k h16 (by omega)) (by omega)), (x_up_k (x_up_k h17 (by omega)) (by omega)), (x_up_k (x_up_k h18 (by omega)) (by omega)), by omega, by omega, by omega, by omega, by omega, by omega⟩ (nI (3)) (nI (q + rM tx sn q))) rfl (x_up_k (x_up_k h0 (by omega)) (by omega)) rfl rfl (Nat.le_of_ble_eq_true rfl) ⟨Nat.le_of_ble_eq_true rfl, Nat.le_of_ble_eq_true rfl⟩ ⟨Nat.le_of_ble_eq_true rfl, Nat.le_of_ble_eq_true rfl⟩ (fun r' n' M576 hp => ?_)
                                obtain ⟨hr', hn', hM576, hf576⟩ := hp
                                rw [hn', hr']
                                obtain ⟨v576_0, v576_1, v576_2, v576_3, v576_4, v576_5, v576_6, v576_7, v576_8, v576_9, v576_10, v576_11, v576_12, v576_13, v576_14, v576_15, v576_16, v576_17, v576_18, vb576_0, vb576_1, vb576_2, vb576_3, vb576_4, vb576_5⟩ := id hM576
                                show xW p l e ({ frames := 4, cells := 0, slots := 0, locals := 96 } : Room) s m args below meth c D xcl (x_A M nx) 8 (MQ below (x_Q D xcl (x_A M nx) (mcPost nx M a th sg sn pr fk fp rws cd ds wc wd nn nE nC nK nO ln lF lC lT lO fn fC fP ak ac pt n (rM tx sn q) (cN tx (q + rM tx sn q) (rD tx sn (q + rM tx sn q))) (mrc tx sn ds xs dg n q))) args s 0 0 (x_A M nx)) 0 0 (nx) M576 253 [(7, .int ((-1))), (6, .int (nI (rD tx sn (q + rM tx sn q)))), (5, .int (nI (q + rM tx sn q))), (4, .int (nI (rM tx sn q))), (3, .int (nI (120 + n))), (2, .int (nI (n))), (0, .ref (a)), (1, .int (nI (q)))] [.int (nI (0))]
                                exact x_zret F hr (by rfl) dM_readsCode_253 (by rw [show mrc tx sn ds xs dg n q = some (3, q + rM tx sn q) from by rw [mrc, if_neg (fun z => by have z := z.2; rw [c115] at z; cases z), if_neg h70, if_neg c118, if_neg (by omega), if_neg c120, if_neg (by omega), if_neg c123, if_pos hbad]]; exact ⟨rfl, fun b hb => (hf576 _ (by omega)).trans ((x_up_n (by omega)).trans ((x_up_n (by omega)).trans (rfl))), rfl, _, _, (fun i hi => ⟨updL_ne (by omega), upd_ne (by omega)⟩), hM576⟩)
                    · skip
                      have hj : j < n := mUp_lt hup
                      refine xW.ste (st' := [.int (nI (120 + j))]) (by show ([.int (oj 120 (mUp (upd ds (120 + n) (nI (rM tx sn q))) 120 n))] : List Value) = _; rw [hup]; rfl) ?_
                      refine x_istore F [(7, .int (nI (120 + j))), (6, .int (nI (rD tx sn (q + rM tx sn q)))), (5, .int (nI (q + rM tx sn q))), (4, .int (nI (rM tx sn q))), (3, .int (nI (120 + n))), (2, .int (nI (n))), (0, .ref (a)), (1, .int (nI (q)))] dM_readsCode_200 (by decide) rfl ?_
                      refine x_iload F 3 dM_readsCode_202 rfl ?_
                      refine x_if_ne F (tgt := 213) dM_readsCode_204 (by decide) (fun c144 => ?_) (fun c144 => ?_)
                      · skip
                        have c144 : rM tx sn q ≠ 0 := by
                          have z : ¬ (rM tx sn q = 0) := fun zz => c144 ((nI_eq (a := rM tx sn q) (b := 0) (by omega) (by omega)).mpr zz)
                          omega
                        refine x_iload F 3 dM_readsCode_213 rfl ?_
                        refine x_if_le F (tgt := 254) dM_readsCode_215 (by decide) (fun c145 => ?_) (fun c145 => ?_)
                        · skip
                          have c145 : rM tx sn q ≤ 0 := by
                            exact (nI_leI (a := rM tx sn q) (b := 0) (by omega) (by omega)).mp c145
                          have hbad : mBad ds xs dg n (rM tx sn q) (cN tx (q + rM tx sn q) (rD tx sn (q + rM tx sn q))) (rD tx sn (q + rM tx sn q)) = false := by rw [mBad, if_pos (by omega), decide_eq_true (by omega)]; rfl
                          refine x_iload_n F 5 dM_readsCode_254 rfl rfl ?_
                          refine x_if_eq F (tgt := 288) dM_readsCode_255 (by decide) (fun c146 => ?_) (fun c146 => ?_)
                          · skip
                            have c146 : n = 0 := by
                              exact (nI_eq (a := n) (b := 0) (by omega) (by omega)).mp c146
                            have hbeh : mBeh xs dg n (cN tx (q + rM tx sn q) (rD tx sn (q + rM tx sn q))) (rD tx sn (q + rM tx sn q)) = true := by rw [c146]; rfl
                            refine x_iconst F (v := nI (1)) dM_readsCode_288 (by decide) ?_
                            refine x_goto F (tgt := 293) dM_readsCode_289 (by decide) ?_
                            exact x_zret F hr (by rfl) dM_readsCode_293 (by rw [show mrc tx sn ds xs dg n q = none from by rw [mrc, if_neg (fun z => by have z := z.2; rw [c115] at z; cases z), if_neg h70, if_neg c118, if_neg (by omega), if_neg c120, if_neg (by omega), if_neg c123, if_neg (by rw [hbad]; decide), if_neg (by rw [hbeh]; decide)]]; exact ⟨rfl, fun b hb => (x_up_n (by omega)).trans ((x_up_n (by omega)).trans (rfl)), rfl, ⟨(x_up_k (x_up_k h0 (by omega)) (by omega)), (x_up_k (x_up_k h1 (by omega)) (by omega)), (x_up_k (x_up_k h2 (by omega)) (by omega)), x_up_s, (x_up_k x_up_s (by omega)), (x_up_k (x_up_k h5 (by omega)) (by omega)), (x_up_k (x_up_k h6 (by omega)) (by omega)), (x_up_k (x_up_k h7 (by omega)) (by omega)), (x_up_k (x_up_k h8 (by omega)) (by omega)), (x_up_k (x_up_k h9 (by omega)) (by omega)), (x_up_k (x_up_k h10 (by omega)) (by omega)), (x_up_k (x_up_k h11 (by omega)) (by omega)), (x_up_k (x_up_k h12 (by omega)) (by omega)), (x_up_k (x_up_k h13 (by omega)) (by omega)), (x_up_k (x_up_k h14 (by omega)) (by omega)), (x_up_k (x_up_k h15 (by omega)) (by omega)), (x_up_k (x_up_k h16 (by omega)) (by omega)), (x_up_k (x_up_k h17 (by omega)) (by omega)), (x_up_k (x_up_k h18 (by omega)) (by omega)), by omega, by omega, by omega, by omega, by omega, by omega⟩⟩)
                          · skip
                            have c146 : n ≠ 0 := by
                              have z : ¬ (n = 0) := fun zz => c146 ((nI_eq (a := n) (b := 0) (by omega) (by omega)).mpr zz)
                              omega
                            obtain ⟨n0, hn1⟩ : ∃ n0, n = n0 + 1 := ⟨n - 1, by omega⟩
                            refine x_aload_n F 6 dM_readsCode_258 rfl rfl ?_
                            refine x_get (ci := 6) F 7 (x_in inM) rfl (by decide) (x_m kfM_20) dM_readsCode_259 (x_up_k (x_up_k h0 (by omega)) (by omega)) rfl ?_
                            refine x_iload_n F 4 dM_readsCode_262 rfl rfl ?_
                            refine x_lald F dM_readsCode_263 x_up_s (pk_in (120 + n) (160) (by omega)) ?_
                            refine xW.tol (lN (cN tx (q + rM tx sn q) (rD tx sn (q + rM tx sn q)))) (by rw [nI_clamp (by omega)]; exact vp_us) ?_
                            refine x_aload_n F 6 dM_readsCode_264 rfl rfl ?_
                            refine x_get (ci := 6) F 7 (x_in inM) rfl (by decide) (x_m kfM_20) dM_readsCode_265 (x_up_k (x_up_k h0 (by omega)) (by omega)) rfl ?_
                            refine x_iload_n F 4 dM_readsCode_268 rfl rfl ?_
                            refine x_iconst F (v := nI (1)) dM_readsCode_269 (by decide) ?_
                            refine x_isub F dM_readsCode_270 ?_
                            refine xW.toi (nI (120 + n0)) (by rw [hn1]; exact nI_pred (120 + n0)) ?_
                            refine x_lald F dM_readsCode_271 x_up_s (pk_in (120 + n0) (160) (by omega)) ?_
                            refine xW.tol (lN (xs n0)) (by rw [nI_clamp (by omega)]; exact (updL_ne (by omega)).trans (hcd n0 (by omega)).1) ?_
                            refine yS (n := 2) (As := [.long (lN (cN tx (q + rM tx sn q) (rD tx sn (q + rM tx sn q)))), .long (lN (xs n0))]) F kmM_126 ktM_isBehind knM kcM_isBehind (by decide +kernel) dM_readsCode_272 (cM_isBehind l (nx) (x_up (x_up M (a + 4) (.inl (.int, 160, .inl (upd (ds) (120 + n) (nI (rM tx sn q)))))) (a + 3) (.inl (.long, 160, .inr (.inl (vp_updL (cd) (120 + n) (lN (cN tx (q + rM tx sn q) (rD tx sn (q + rM tx sn q))))))))) (cN tx (q + rM tx sn q) (rD tx sn (q + rM tx sn q))) (rD tx sn (q + rM tx sn q)) (xs n0) (dg n0) hX10 (hcd n0 (by omega)).2) rfl rfl (Nat.le_of_ble_eq_true rfl) ⟨Nat.le_of_ble_eq_true rfl, Nat.le_of_ble_eq_true rfl⟩ ⟨Nat.le_of_ble_eq_true rfl, Nat.le_of_ble_eq_true rfl⟩ ?_
                            refine x_if_ne F (tgt := 288) dM_readsCode_275 (by decide) (fun c147 => ?_) (fun c147 => ?_)
                            · skip
                              have c147 : (mbh (cN tx (q + rM tx sn q) (rD tx sn (q + rM tx sn q))) (rD tx sn (q + rM tx sn q)) (xs n0) (dg n0)) = true := bI_1 c147
                              have hbeh : mBeh xs dg n (cN tx (q + rM tx sn q) (rD tx sn (q + rM tx sn q))) (rD tx sn (q + rM tx sn q)) = true := by rw [hn1]; exact c147
                              refine x_iconst F (v := nI (1)) dM_readsCode_288 (by decide) ?_
                              refine x_goto F (tgt := 293) dM_readsCode_289 (by decide) ?_
                              exact x_zret F hr (by rfl) dM_readsCode_293 (by rw [show mrc tx sn ds xs dg n q = none from by rw [mrc, if_neg (fun z => by have z := z.2; rw [c115] at z; cases z), if_neg h70, if_neg c118, if_neg (by omega), if_neg c120, if_neg (by omega), if_neg c123, if_neg (by rw [hbad]; decide), if_neg (by rw [hbeh]; decide)]]; exact ⟨rfl, fun b hb => (x_up_n (by omega)).trans ((x_up_n (by omega)).trans (rfl)), rfl, ⟨(x_up_k (x_up_k h0 (by omega)) (by omega)), (x_up_k (x_up_k h1 (by omega)) (by omega)), (x_up_k (x_up_k h2 (by omega)) (by omega)), x_up_s, (x_up_k x_up_s (by omega)), (x_up_k (x_up_k h5 (by omega)) (by omega)), (x_up_k (x_up_k h6 (by omega)) (by omega)), (x_up_k (x_up_k h7 (by omega)) (by omega)), (x_up_k (x_up_k h8 (by omega)) (by omega)), (x_up_k (x_up_k h9 (by omega)) (by omega)), (x_up_k (x_up_k h10 (by omega)) (by omega)), (x_up_k (x_up_k h11 (by omega)) (by omega)), (x_up_k (x_up_k h12 (by omega)) (by omega)), (x_up_k (x_up_k h13 (by omega)) (by omega)), (x_up_k (x_up_k h14 (by omega)) (by omega)), (x_up_k (x_up_k h15 (by omega)) (by omega)), (x_up_k (x_up_k h16 (by omega)) (by omega)), (x_up_k (x_up_k h17 (by omega)) (by omega)), (x_up_k (x_up_k h18 (by omega)) (by omega)), by omega, by omega, by omega, by omega, by omega, by omega⟩⟩)
                            · skip
                              have c147 : (mbh (cN tx (q + rM tx sn q) (rD tx sn (q + rM tx sn q))) (rD tx sn (q + rM tx sn q)) (xs n0) (dg n0)) = false := bI_0 c147
                              have hbeh : mBeh xs dg n (cN tx (q + rM tx sn q) (rD tx sn (q + rM tx sn q))) (rD tx sn (q + rM tx sn q)) = false := by rw [hn1]; exact c147
                              refine x_aload_n F 6 dM_readsCode_278 rfl rfl ?_
                              refine x_iconst F (v := nI (4)) dM_readsCode_279 (by decide) ?_
                              refine x_iload F 2 dM_readsCode_280 rfl ?_
                              refine yVr (n := 2) (As := [.int (nI (4)), .int (nI (q + rM tx sn q))]) (ci := 6) F kmM_115 kiM_fails ksM_fails knM kcM_fails (by decide +kernel) dM_readsCode_282 (cM_fails l (nx) (x_up (x_up M (a + 4) (.inl (.int, 160, .inl (upd (ds) (120 + n) (nI (rM tx sn q)))))) (a + 3) (.inl (.long, 160, .inr (.inl (vp_updL (cd) (120 + n) (lN (cN tx (q + rM tx sn q) (rD tx sn (q + rM tx sn q))))))))) (a) th sg sn pr fk fp rws (vp_updL (cd) (120 + n) (lN (cN tx (q + rM tx sn q) (rD tx sn (q + rM tx sn q))))) (upd (ds) (120 + n) (nI (rM tx sn q))) wc wd nn nE nC nK nO ln lF lC lT lO fn fC fP ak ac pt ⟨(x_up_k (x_up_k h0 (by omega)) (by omega)), (x_up_k (x_up_k h1 (by omega)) (by omega)), (x_up_k (x_up_k h2 (by omega)) (by omega)), x_up_s, (x_up_k x_up_s (by omega)), (x_up_k (x_up_k h5 (by omega)) (by omega)), (x_up_k (x_up_k h6 (by omega)) (by omega)), (x_up_k (x_up_k h7 (by omega)) (by omega)), (x_up_k (x_up_k h8 (by omega)) (by omega)), (x_up_k (x_up_k h9 (by omega)) (by omega)), (x_up_k (x_up_k h10 (by omega)) (by omega)), (x_up_k (x_up_k h11 (by omega)) (by omega)), (x_up_k (x_up_k h12 (by omega)) (by omega)), (x_up_k (x_up_k h13 (by omega)) (by omega)), (x_up_k (x_up_k h14 (by omega)) (by omega)), (x_up_k (x_up_k h15 (by omega)) (by omega)), (x_up_k (x_up_k h16 (by omega)) (by omega)), (x_up_k (x_up_k h17 (by omega)) (by omega)), (x_up_k (x_up_k h18 (by omega)) (by omega)), by omega, by omega, by omega, by omega, by omega, by omega⟩ (nI (4)) (nI (q + rM tx sn q))) rfl (x_up_k (x_up_k h0 (by omega)) (by omega)) rfl rfl (Nat.le_of_ble_eq_true rfl) ⟨Nat.le_of_ble_eq_true rfl, Nat.le_of_ble_eq_true rfl⟩ ⟨Nat.le_of_ble_eq_true rfl, Nat.le_of_ble_eq_true rfl⟩ (fun r' n' M577 hp => ?_)
                              obtain ⟨hr', hn', hM577, hf577⟩ := hp
                              rw [hn', hr']
                              obtain ⟨v577_0, v577_1, v577_2, v577_3, v577_4, v577_5, v577_6, v577_7, v577_8, v577_9, v577_10, v577_11, v577_12, v577_13, v577_14, v577_15, v577_16, v577_17, v577_18, vb577_0, vb577_1, vb577_2, vb577_3, vb577_4, vb577_5⟩ := id hM577
                              show xW p l e ({ frames := 4, cells := 0, slots := 0, locals := 96 } : Room) s m args below meth c D xcl (x_A M nx) 8 (MQ below (x_Q D xcl (x_A M nx) (mcPost nx M a th sg sn pr fk fp rws cd ds wc wd nn nE nC nK nO ln lF lC lT lO fn fC fP ak ac pt n (rM tx sn q) (cN tx (q + rM tx sn q) (rD tx sn (q + rM tx sn q))) (mrc tx sn ds xs dg n q))) args s 0 0 (x_A M nx)) 0 0 (nx) M577 285 [(7, .int (nI (120 + j))), (6, .int (nI (rD tx sn (q + rM tx sn q)))), (5, .int (nI (q + rM tx sn q))), (4, .int (nI (rM tx sn q))), (3, .int (nI (120 + n))), (2, .int (nI (n))), (0, .ref (a)), (1, .int (nI (q)))] [.int (nI (0))]
                              refine x_if_eq F (tgt := 292) dM_readsCode_285 (by decide) (fun c148 => ?_) (fun c148 => ?_)
                              · skip
                                have c148 : 0 = 0 := by
                                  exact (nI_eq (a := 0) (b := 0) (by omega) (by omega)).mp c148
                                refine x_iconst F (v := nI (0)) dM_readsCode_292 (by decide) ?_
                                exact x_zret F hr (by rfl) dM_readsCode_293 (by rw [show mrc tx sn ds xs dg n q = some (4, q + rM tx sn q) from by rw [mrc, if_neg (fun z => by have z := z.2; rw [c115] at z; cases z), if_neg h70, if_neg c118, if_neg (by omega), if_neg c120, if_neg (by omega), if_neg c123, if_neg (by rw [hbad]; decide), if_pos hbeh]]; exact ⟨rfl, fun b hb => (hf577 _ (by omega)).trans ((x_up_n (by omega)).trans ((x_up_n (by omega)).trans (rfl))), rfl, _, _, (fun i hi => ⟨updL_ne (by omega), upd_ne (by omega)⟩), hM577⟩)
                              · skip
                                have c148 : 0 ≠ 0 := by
                                  have z : ¬ (0 = 0) := fun zz => c148 ((nI_eq (a := 0) (b := 0) (by omega) (by omega)).mpr zz)
                                  omega
                                exact absurd c148 (by decide)
                        · skip
                          have c145 : 0 < rM tx sn q := by
                            have z : ¬ (rM tx sn q ≤ 0) := fun zz => c145 ((nI_leI (a := rM tx sn q) (b := 0) (by omega) (by omega)).mpr zz)
                            omega
                          refine x_aload_n F 6 dM_readsCode_218 rfl rfl ?_
                          refine x_get (ci := 6) F 7 (x_in inM) rfl (by decide) (x_m kfM_20) dM_readsCode_219 (x_up_k (x_up_k h0 (by omega)) (by omega)) rfl ?_
                          refine x_iload_n F 4 dM_readsCode_222 rfl rfl ?_
                          refine x_lald F dM_readsCode_223 x_up_s (pk_in (120 + n) (160) (by omega)) ?_
                          refine xW.tol (lN (cN tx (q + rM tx sn q) (rD tx sn (q + rM tx sn q)))) (by rw [nI_clamp (by omega)]; exact vp_us) ?_
                          refine x_aload_n F 6 dM_readsCode_224 rfl rfl ?_
                          refine x_get (ci := 6) F 7 (x_in inM) rfl (by decide) (x_m kfM_20) dM_readsCode_225 (x_up_k (x_up_k h0 (by omega)) (by omega)) rfl ?_
                          refine x_iload F 0 dM_readsCode_228 rfl ?_
                          refine x_if_ge F (tgt := 237) dM_readsCode_230 (by decide) (fun c149 => ?_) (fun c149 => ?_)
                          · skip
                            have c149 : 0 ≤ 120 + j := by
                              exact (nI_leI (a := 0) (b := 120 + j) (by omega) (by omega)).mp c149
                            refine x_iload F 0 dM_readsCode_237 rfl ?_
                            refine x_lald F dM_readsCode_239 x_up_s (pk_in (120 + j) (160) (by omega)) ?_
                            refine xW.tol (lN (xs j)) (by rw [nI_clamp (by omega)]; exact (updL_ne (by omega)).trans (hcd j hj).1) ?_
                            refine yS (n := 2) (As := [.long (lN (cN tx (q + rM tx sn q) (rD tx sn (q + rM tx sn q)))), .long (lN (xs j))]) F kmM_107 ktM_begins knM kcM_begins (by decide +kernel) dM_readsCode_240 (cM_begins l (nx) (x_up (x_up M (a + 4) (.inl (.int, 160, .inl (upd (ds) (120 + n) (nI (rM tx sn q)))))) (a + 3) (.inl (.long, 160, .inr (.inl (vp_updL (cd) (120 + n) (lN (cN tx (q + rM tx sn q) (rD tx sn (q + rM tx sn q))))))))) (cN tx (q + rM tx sn q) (rD tx sn (q + rM tx sn q))) (rD tx sn (q + rM tx sn q)) (xs j) (dg j) hX10 (hcd j hj).2) rfl rfl (Nat.le_of_ble_eq_true rfl) ⟨Nat.le_of_ble_eq_true rfl, Nat.le_of_ble_eq_true rfl⟩ ⟨Nat.le_of_ble_eq_true rfl, Nat.le_of_ble_eq_true rfl⟩ ?_
                            refine x_if_ne F (tgt := 254) dM_readsCode_243 (by decide) (fun c150 => ?_) (fun c150 => ?_)
                            · skip
                              have c150 : (mbg (cN tx (q + rM tx sn q) (rD tx sn (q + rM tx sn q))) (rD tx sn (q + rM tx sn q)) (xs j) (dg j)) = true := bI_1 c150
                              have hla := mUp_la (by omega) hup
                              have hbad : mBad ds xs dg n (rM tx sn q) (cN tx (q + rM tx sn q) (rD tx sn (q + rM tx sn q))) (rD tx sn (q + rM tx sn q)) = false := by rw [mBad, if_neg (by omega), hla]; show (! mbg (cN tx (q + rM tx sn q) (rD tx sn (q + rM tx sn q))) (rD tx sn (q + rM tx sn q)) (xs j) (dg j)) = false; rw [c150]; rfl
                              refine x_iload_n F 5 dM_readsCode_254 rfl rfl ?_
                              refine x_if_eq F (tgt := 288) dM_readsCode_255 (by decide) (fun c151 => ?_) (fun c151 => ?_)
                              · skip
                                have c151 : n = 0 := by
                                  exact (nI_eq (a := n) (b := 0) (by omega) (by omega)).mp c151
                                have hbeh : mBeh xs dg n (cN tx (q + rM tx sn q) (rD tx sn (q + rM tx sn q))) (rD tx sn (q + rM tx sn q)) = true := by rw [c151]; rfl
                                refine x_iconst F (v := nI (1)) dM_readsCode_288 (by decide) ?_
                                refine x_goto F (tgt := 293) dM_readsCode_289 (by decide) ?_
                                exact x_zret F hr (by rfl) dM_readsCode_293 (by rw [show mrc tx sn ds xs dg n q = none from by rw [mrc, if_neg (fun z => by have z := z.2; rw [c115] at z; cases z), if_neg h70, if_neg c118, if_neg (by omega), if_neg c120, if_neg (by omega), if_neg c123, if_neg (by rw [hbad]; decide), if_neg (by rw [hbeh]; decide)]]; exact ⟨rfl, fun b hb => (x_up_n (by omega)).trans ((x_up_n (by omega)).trans (rfl)), rfl, ⟨(x_up_k (x_up_k h0 (by omega)) (by omega)), (x_up_k (x_up_k h1 (by omega)) (by omega)), (x_up_k (x_up_k h2 (by omega)) (by omega)), x_up_s, (x_up_k x_up_s (by omega)), (x_up_k (x_up_k h5 (by omega)) (by omega)), (x_up_k (x_up_k h6 (by omega)) (by omega)), (x_up_k (x_up_k h7 (by omega)) (by omega)), (x_up_k (x_up_k h8 (by omega)) (by omega)), (x_up_k (x_up_k h9 (by omega)) (by omega)), (x_up_k (x_up_k h10 (by omega)) (by omega)), (x_up_k (x_up_k h11 (by omega)) (by omega)), (x_up_k (x_up_k h12 (by omega)) (by omega)), (x_up_k (x_up_k h13 (by omega)) (by omega)), (x_up_k (x_up_k h14 (by omega)) (by omega)), (x_up_k (x_up_k h15 (by omega)) (by omega)), (x_up_k (x_up_k h16 (by omega)) (by omega)), (x_up_k (x_up_k h17 (by omega)) (by omega)), (x_up_k (x_up_k h18 (by omega)) (by omega)), by omega, by omega, by omega, by omega, by omega, by omega⟩⟩)
                              · skip
                                have c151 : n ≠ 0 := by
                                  have z : ¬ (n = 0) := fun zz => c151 ((nI_eq (a := n) (b := 0) (by omega) (by omega)).mpr zz)
                                  omega
                                obtain ⟨n0, hn1⟩ : ∃ n0, n = n0 + 1 := ⟨n - 1, by omega⟩
                                refine x_aload_n F 6 dM_readsCode_258 rfl rfl ?_
                                refine x_get (ci := 6) F 7 (x_in inM) rfl (by decide) (x_m kfM_20) dM_readsCode_259 (x_up_k (x_up_k h0 (by omega)) (by omega)) rfl ?_
                                refine x_iload_n F 4 dM_readsCode_262 rfl rfl ?_
                                refine x_lald F dM_readsCode_263 x_up_s (pk_in (120 + n) (160) (by omega)) ?_
                                refine xW.tol (lN (cN tx (q + rM tx sn q) (rD tx sn (q + rM tx sn q)))) (by rw [nI_clamp (by omega)]; exact vp_us) ?_
                                refine x_aload_n F 6 dM_readsCode_264 rfl rfl ?_
                                refine x_get (ci := 6) F 7 (x_in inM) rfl (by decide) (x_m kfM_20) dM_readsCode_265 (x_up_k (x_up_k h0 (by omega)) (by omega)) rfl ?_
                                refine x_iload_n F 4 dM_readsCode_268 rfl rfl ?_
                                refine x_iconst F (v := nI (1)) dM_readsCode_269 (by decide) ?_
                                refine x_isub F dM_readsCode_270 ?_
                                refine xW.toi (nI (120 + n0)) (by rw [hn1]; exact nI_pred (120 + n0)) ?_
                                refine x_lald F dM_readsCode_271 x_up_s (pk_in (120 + n0) (160) (by omega)) ?_
                                refine xW.tol (lN (xs n0)) (by rw [nI_clamp (by omega)]; exact (updL_ne (by omega)).trans (hcd n0 (by omega)).1) ?_
                                refine yS (n := 2) (As := [.long (lN (cN tx (q + rM tx sn q) (rD tx sn (q + rM tx sn q)))), .long (lN (xs n0))]) F kmM_126 ktM_isBehind knM kcM_isBehind (by decide +kernel) dM_readsCode_272 (cM_isBehind l (nx) (x_up (x_up M (a + 4) (.inl (.int, 160, .inl (upd (ds) (120 + n) (nI (rM tx sn q)))))) (a + 3) (.inl (.long, 160, .inr (.inl (vp_updL (cd) (120 + n) (lN (cN tx (q + rM tx sn q) (rD tx sn (q + rM tx sn q))))))))) (cN tx (q + rM tx sn q) (rD tx sn (q + rM tx sn q))) (rD tx sn (q + rM tx sn q)) (xs n0) (dg n0) hX10 (hcd n0 (by omega)).2) rfl rfl (Nat.le_of_ble_eq_true rfl) ⟨Nat.le_of_ble_eq_true rfl, Nat.le_of_ble_eq_true rfl⟩ ⟨Nat.le_of_ble_eq_true rfl, Nat.le_of_ble_eq_true rfl⟩ ?_
                                refine x_if_ne F (tgt := 288) dM_readsCode_275 (by decide) (fun c152 => ?_) (fun c152 => ?_)
                                · skip
                                  have c152 : (mbh (cN tx (q + rM tx sn q) (rD tx sn (q + rM tx sn q))) (rD tx sn (q + rM tx sn q)) (xs n0) (dg n0)) = true := bI_1 c152
                                  have hbeh : mBeh xs dg n (cN tx (q + rM tx sn q) (rD tx sn (q + rM tx sn q))) (rD tx sn (q + rM tx sn q)) = true := by rw [hn1]; exact c152
                                  refine x_iconst F (v := nI (1)) dM_readsCode_288 (by decide) ?_
                                  refine x_goto F (tgt := 293) dM_readsCode_289 (by decide) ?_
                                  exact x_zret F hr (by rfl) dM_readsCode_293 (by rw [show mrc tx sn ds xs dg n q = none from by rw [mrc, if_neg (fun z => by have z := z.2; rw [c115] at z; cases z), if_neg h70, if_neg c118, if_neg (by omega), if_neg c120, if_neg (by omega), if_neg c123, if_neg (by rw [hbad]; decide), if_neg (by rw [hbeh]; decide)]]; exact ⟨rfl, fun b hb => (x_up_n (by omega)).trans ((x_up_n (by omega)).trans (rfl)), rfl, ⟨(x_up_k (x_up_k h0 (by omega)) (by omega)), (x_up_k (x_up_k h1 (by omega)) (by omega)), (x_up_k (x_up_k h2 (by omega)) (by omega)), x_up_s, (x_up_k x_up_s (by omega)), (x_up_k (x_up_k h5 (by omega)) (by omega)), (x_up_k (x_up_k h6 (by omega)) (by omega)), (x_up_k (x_up_k h7 (by omega)) (by omega)), (x_up_k (x_up_k h8 (by omega)) (by omega)), (x_up_k (x_up_k h9 (by omega)) (by omega)), (x_up_k (x_up_k h10 (by omega)) (by omega)), (x_up_k (x_up_k h11 (by omega)) (by omega)), (x_up_k (x_up_k h12 (by omega)) (by omega)), (x_up_k (x_up_k h13 (by omega)) (by omega)), (x_up_k (x_up_k h14 (by omega)) (by omega)), (x_up_k (x_up_k h15 (by omega)) (by omega)), (x_up_k (x_up_k h16 (by omega)) (by omega)), (x_up_k (x_up_k h17 (by omega)) (by omega)), (x_up_k (x_up_k h18 (by omega)) (by omega)), by omega, by omega, by omega, by omega, by omega, by omega⟩⟩)
                                · skip
                                  have c152 : (mbh (cN tx (q + rM tx sn q) (rD tx sn (q + rM tx sn q))) (rD tx sn (q + rM tx sn q)) (xs n0) (dg n0)) = false := bI_0 c152
                                  have hbeh : mBeh xs dg n (cN tx (q + rM tx sn q) (rD tx sn (q + rM tx sn q))) (rD tx sn (q + rM tx sn q)) = false := by rw [hn1]; exact c152
                                  refine x_aload_n F 6 dM_readsCode_278 rfl rfl ?_
                                  refine x_iconst F (v := nI (4)) dM_readsCode_279 (by decide) ?_
                                  refine x_iload F 2 dM_readsCode_280 rfl ?_
                                  refine yVr (n := 2) (As := [.int (nI (4)), .int (nI (q + rM tx sn q))]) (ci := 6) F kmM_115 kiM_fails ksM_fails knM kcM_fails (by decide +kernel) dM_readsCode_282 (cM_fails l (nx) (x_up (x_up M (a + 4) (.inl (.int, 160, .inl (upd (ds) (120 + n) (nI (rM tx sn q)))))) (a + 3) (.inl (.long, 160, .inr (.inl (vp_updL (cd) (120 + n) (lN (cN tx (q + rM tx sn q) (rD tx sn (q + rM tx sn q))))))))) (a) th sg sn pr fk fp rws (vp_updL (cd) (120 + n) (lN (cN tx (q + rM tx sn q) (rD tx sn (q + rM tx sn q))))) (upd (ds) (120 + n) (nI (rM tx sn q))) wc wd nn nE nC nK nO ln lF lC lT lO fn fC fP ak ac pt ⟨(x_up_k (x_up_k h0 (by omega)) (by omega)), (x_up_k (x_up_k h1 (by omega)) (by omega)), (x_up_k (x_up_k h2 (by omega)) (by omega)), x_up_s, (x_up_k x_up_s (by omega)), (x_up_k (x_up_k h5 (by omega)) (by omega)), (x_up_k (x_up_k h6 (by omega)) (by omega)), (x_up_k (x_up_k h7 (by omega)) (by omega)), (x_up_k (x_up_k h8 (by omega)) (by omega)), (x_up_k (x_up_k h9 (by omega)) (by omega)), (x_up_k (x_up_k h10 (by omega)) (by omega)), (x_up_k (x_up_k h11 (by omega)) (by omega)), (x_up_k (x_up_k h12 (by omega)) (by omega)), (x_up_k (x_up_k h13 (by omega)) (by omega)), (x_up_k (x_up_k h14 (by omega)) (by omega)), (x_up_k (x_up_k h15 (by omega)) (by omega)), (x_up_k (x_up_k h16 (by omega)) (by omega)), (x_up_k (x_up_k h17 (by omega)) (by omega)), (x_up_k (x_up_k h18 (by omega)) (by omega)), by omega, by omega, by omega, by omega, by omega, by omega⟩ (nI (4)) (nI (q + rM tx sn q))) rfl (x_up_k (x_up_k h0 (by omega)) (by omega)) rfl rfl (Nat.le_of_ble_eq_true rfl) ⟨Nat.le_of_ble_eq_true rfl, Nat.le_of_ble_eq_true rfl⟩ ⟨Nat.le_of_ble_eq_true rfl, Nat.le_of_ble_eq_true rfl⟩ (fun r' n' M578 hp => ?_)
                                  obtain ⟨hr', hn', hM578, hf578⟩ := hp
                                  rw [hn', hr']
                                  obtain ⟨v578_0, v578_1, v578_2, v578_3, v578_4, v578_5, v578_6, v578_7, v578_8, v578_9, v578_10, v578_11, v578_12, v578_13, v578_14, v578_15, v578_16, v578_17, v578_18, vb578_0, vb578_1, vb578_2, vb578_3, vb578_4, vb578_5⟩ := id hM578
                                  show xW p l e ({ frames := 4, cells := 0, slots := 0, locals := 96 } : Room) s m args below meth c D xcl (x_A M nx) 8 (MQ below (x_Q D xcl (x_A M nx) (mcPost nx M a th sg sn pr fk fp rws cd ds wc wd nn nE nC nK nO ln lF lC lT lO fn fC fP ak ac pt n (rM tx sn q) (cN tx (q + rM tx sn q) (rD tx sn (q + rM tx sn q))) (mrc tx sn ds xs dg n q))) args s 0 0 (x_A M nx)) 0 0 (nx) M578 285 [(7, .int (nI (120 + j))), (6, .int (nI (rD tx sn (q + rM tx sn q)))), (5, .int (nI (q + rM tx sn q))), (4, .int (nI (rM tx sn q))), (3, .int (nI (120 + n))), (2, .int (nI (n))), (0, .ref (a)), (1, .int (nI (q)))] [.int (nI (0))]
                                  refine x_if_eq F (tgt := 292) dM_readsCode_285 (by decide) (fun c153 => ?_) (fun c153 => ?_)
                                  · skip
                                    have c153 : 0 = 0 := by
                                      exact (nI_eq (a := 0) (b := 0) (by omega) (by omega)).mp c153
                                    refine x_iconst F (v := nI (0)) dM_readsCode_292 (by decide) ?_
                                    exact x_zret F hr (by rfl) dM_readsCode_293 (by rw [show mrc tx sn ds xs dg n q = some (4, q + rM tx sn q) from by rw [mrc, if_neg (fun z => by have z := z.2; rw [c115] at z; cases z), if_neg h70, if_neg c118, if_neg (by omega), if_neg c120, if_neg (by omega), if_neg c123, if_neg (by rw [hbad]; decide), if_pos hbeh]]; exact ⟨rfl, fun b hb => (hf578 _ (by omega)).trans ((x_up_n (by omega)).trans ((x_up_n (by omega)).trans (rfl))), rfl, _, _, (fun i hi => ⟨updL_ne (by omega), upd_ne (by omega)⟩), hM578⟩)
                                  · skip
                                    have c153 : 0 ≠ 0 := by
                                      have z : ¬ (0 = 0) := fun zz => c153 ((nI_eq (a := 0) (b := 0) (by omega) (by omega)).mpr zz)
                                      omega
                                    exact absurd c153 (by decide)
                            · skip
                              have c150 : (mbg (cN tx (q + rM tx sn q) (rD tx sn (q + rM tx sn q))) (rD tx sn (q + rM tx sn q)) (xs j) (dg j)) = false := bI_0 c150
                              have hla := mUp_la (by omega) hup
                              have hbad : mBad ds xs dg n (rM tx sn q) (cN tx (q + rM tx sn q) (rD tx sn (q + rM tx sn q))) (rD tx sn (q + rM tx sn q)) = true := by rw [mBad, if_neg (by omega), hla]; show (! mbg (cN tx (q + rM tx sn q) (rD tx sn (q + rM tx sn q))) (rD tx sn (q + rM tx sn q)) (xs j) (dg j)) = true; rw [c150]; rfl
                              refine x_aload_n F 6 dM_readsCode_246 rfl rfl ?_
                              refine x_iconst F (v := nI (3)) dM_readsCode_247 (by decide) ?_
                              refine x_iload F 2 dM_readsCode_248 rfl ?_
                              refine yVr (n := 2) (As := [.int (nI (3)), .int (nI (q + rM tx sn q))]) (ci := 6) F kmM_115 kiM_fails ksM_fails knM kcM_fails (by decide +kernel) dM_readsCode_250 (cM_fails l (nx) (x_up (x_up M (a + 4) (.inl (.int, 160, .inl (upd (ds) (120 + n) (nI (rM tx sn q)))))) (a + 3) (.inl (.long, 160, .inr (.inl (vp_updL (cd) (120 + n) (lN (cN tx (q + rM tx sn q) (rD tx sn (q + rM tx sn q))))))))) (a) th sg sn pr fk fp rws (vp_updL (cd) (120 + n) (lN (cN tx (q + rM tx sn q) (rD tx sn (q + rM tx sn q))))) (upd (ds) (120 + n) (nI (rM tx sn q))) wc wd nn nE nC nK nO ln lF lC lT lO fn fC fP ak ac pt ⟨(x_up_k (x_up_k h0 (by omega)) (by omega)), (x_up_k (x_up_k h1 (by omega)) (by omega)), (x_up_k (x_up_k h2 (by omega)) (by omega)), x_up_s, (x_up_k x_up_s (by omega)), (x_up_k (x_up_k h5 (by omega)) (by omega)), (x_up_k (x_up_k h6 (by omega)) (by omega)), (x_up_k (x_up_k h7 (by omega)) (by omega)), (x_up_k (x_up_k h8 (by omega)) (by omega)), (x_up_k (x_up_k h9 (by omega)) (by omega)), (x_up_k (x_up_k h10 (by omega)) (by omega)), (x_up_k (x_up_k h11 (by omega)) (by omega)), (x_up_k (x_up_k h12 (by omega)) (by omega)), (x_up_k (x_up_k h13 (by omega)) (by omega)), (x_up_k (x_up_k h14 (by omega)) (by omega)), (x_up_k (x_up_k h15 (by omega)) (by omega)), (x_up_k (x_up_k h16 (by omega)) (by omega)), (x_up_k (x_up_k h17 (by omega)) (by omega)), (x_up_k (x_up_k h18 (by omega)) (by omega)), by omega, by omega, by omega, by omega, by omega, by omega⟩ (nI (3)) (nI (q + rM tx sn q))) rfl (x_up_k (x_up_k h0 (by omega)) (by omega)) rfl rfl (Nat.le_of_ble_eq_true rfl) ⟨Nat.le_of_ble_eq_true rfl, Nat.le_of_ble_eq_true rfl⟩ ⟨Nat.le_of_ble_eq_true rfl, Nat.le_of_ble_eq_true rfl⟩ (fun r' n' M579 hp => ?_)
                              obtain ⟨hr', hn', hM579, hf579⟩ := hp
                              rw [hn', hr']
                              obtain ⟨v579_0, v579_1, v579_2, v579_3, v579_4, v579_5, v579_6, v579_7, v579_8, v579_9, v579_10, v579_11, v579_12, v579_13, v579_14, v579_15, v579_16, v579_17, v579_18, vb579_0, vb579_1, vb579_2, vb579_3, vb579_4, vb579_5⟩ := id hM579
                              show xW p l e ({ frames := 4, cells := 0, slots := 0, locals := 96 } : Room) s m args below meth c D xcl (x_A M nx) 8 (MQ below (x_Q D xcl (x_A M nx) (mcPost nx M a th sg sn pr fk fp rws cd ds wc wd nn nE nC nK nO ln lF lC lT lO fn fC fP ak ac pt n (rM tx sn q) (cN tx (q + rM tx sn q) (rD tx sn (q + rM tx sn q))) (mrc tx sn ds xs dg n q))) args s 0 0 (x_A M nx)) 0 0 (nx) M579 253 [(7, .int (nI (120 + j))), (6, .int (nI (rD tx sn (q + rM tx sn q)))), (5, .int (nI (q + rM tx sn q))), (4, .int (nI (rM tx sn q))), (3, .int (nI (120 + n))), (2, .int (nI (n))), (0, .ref (a)), (1, .int (nI (q)))] [.int (nI (0))]
                              exact x_zret F hr (by rfl) dM_readsCode_253 (by rw [show mrc tx sn ds xs dg n q = some (3, q + rM tx sn q) from by rw [mrc, if_neg (fun z => by have z := z.2; rw [c115] at z; cases z), if_neg h70, if_neg c118, if_neg (by omega), if_neg c120, if_neg (by omega), if_neg c123, if_pos hbad]]; exact ⟨rfl, fun b hb => (hf579 _ (by omega)).trans ((x_up_n (by omega)).trans ((x_up_n (by omega)).trans (rfl))), rfl, _, _, (fun i hi => ⟨updL_ne (by omega), upd_ne (by omega)⟩), hM579⟩)
                          · skip
                            have c149 : 120 + j < 0 := by
                              have z : ¬ (0 ≤ 120 + j) := fun zz => c149 ((nI_leI (a := 0) (b := 120 + j) (by omega) (by omega)).mpr zz)
                              omega
                            refine x_iload_n F 4 dM_readsCode_233 rfl rfl ?_
                            refine x_goto F (tgt := 239) dM_readsCode_234 (by decide) ?_
                            refine x_lald F dM_readsCode_239 x_up_s (pk_in (120 + n) (160) (by omega)) ?_
                            refine xW.tol (lN (cN tx (q + rM tx sn q) (rD tx sn (q + rM tx sn q)))) (by rw [nI_clamp (by omega)]; exact vp_us) ?_
                            refine yS (n := 2) (As := [.long (lN (cN tx (q + rM tx sn q) (rD tx sn (q + rM tx sn q)))), .long (lN (cN tx (q + rM tx sn q) (rD tx sn (q + rM tx sn q))))]) F kmM_107 ktM_begins knM kcM_begins (by decide +kernel) dM_readsCode_240 (cM_begins l (nx) (x_up (x_up M (a + 4) (.inl (.int, 160, .inl (upd (ds) (120 + n) (nI (rM tx sn q)))))) (a + 3) (.inl (.long, 160, .inr (.inl (vp_updL (cd) (120 + n) (lN (cN tx (q + rM tx sn q) (rD tx sn (q + rM tx sn q))))))))) (cN tx (q + rM tx sn q) (rD tx sn (q + rM tx sn q))) (rD tx sn (q + rM tx sn q)) (cN tx (q + rM tx sn q) (rD tx sn (q + rM tx sn q))) (rD tx sn (q + rM tx sn q)) hX10 hX10) rfl rfl (Nat.le_of_ble_eq_true rfl) ⟨Nat.le_of_ble_eq_true rfl, Nat.le_of_ble_eq_true rfl⟩ ⟨Nat.le_of_ble_eq_true rfl, Nat.le_of_ble_eq_true rfl⟩ ?_
                            refine x_if_ne F (tgt := 254) dM_readsCode_243 (by decide) (fun c154 => ?_) (fun c154 => ?_)
                            · skip
                              have c154 : (mbg (cN tx (q + rM tx sn q) (rD tx sn (q + rM tx sn q))) (rD tx sn (q + rM tx sn q)) (cN tx (q + rM tx sn q) (rD tx sn (q + rM tx sn q))) (rD tx sn (q + rM tx sn q))) = true := bI_1 c154
                              have hla := mUp_la (by omega) hup
                              have hbad : mBad ds xs dg n (rM tx sn q) (cN tx (q + rM tx sn q) (rD tx sn (q + rM tx sn q))) (rD tx sn (q + rM tx sn q)) = false := by rw [mBad, if_neg (by omega), hla]; show (! mbg (cN tx (q + rM tx sn q) (rD tx sn (q + rM tx sn q))) (rD tx sn (q + rM tx sn q)) (xs j) (dg j)) = false; rw [c154]; rfl
                              refine x_iload_n F 5 dM_readsCode_254 rfl rfl ?_
                              refine x_if_eq F (tgt := 288) dM_readsCode_255 (by decide) (fun c155 => ?_) (fun c155 => ?_)
                              · skip
                                have c155 : n = 0 := by
                                  exact (nI_eq (a := n) (b := 0) (by omega) (by omega)).mp c155
                                have hbeh : mBeh xs dg n (cN tx (q + rM tx sn q) (rD tx sn (q + rM tx sn q))) (rD tx sn (q + rM tx sn q)) = true := by rw [c155]; rfl
                                refine x_iconst F (v := nI (1)) dM_readsCode_288 (by decide) ?_
                                refine x_goto F (tgt := 293) dM_readsCode_289 (by decide) ?_
                                exact x_zret F hr (by rfl) dM_readsCode_293 (by rw [show mrc tx sn ds xs dg n q = none from by rw [mrc, if_neg (fun z => by have z := z.2; rw [c115] at z; cases z), if_neg h70, if_neg c118, if_neg (by omega), if_neg c120, if_neg (by omega), if_neg c123, if_neg (by rw [hbad]; decide), if_neg (by rw [hbeh]; decide)]]; exact ⟨rfl, fun b hb => (x_up_n (by omega)).trans ((x_up_n (by omega)).trans (rfl)), rfl, ⟨(x_up_k (x_up_k h0 (by omega)) (by omega)), (x_up_k (x_up_k h1 (by omega)) (by omega)), (x_up_k (x_up_k h2 (by omega)) (by omega)), x_up_s, (x_up_k x_up_s (by omega)), (x_up_k (x_up_k h5 (by omega)) (by omega)), (x_up_k (x_up_k h6 (by omega)) (by omega)), (x_up_k (x_up_k h7 (by omega)) (by omega)), (x_up_k (x_up_k h8 (by omega)) (by omega)), (x_up_k (x_up_k h9 (by omega)) (by omega)), (x_up_k (x_up_k h10 (by omega)) (by omega)), (x_up_k (x_up_k h11 (by omega)) (by omega)), (x_up_k (x_up_k h12 (by omega)) (by omega)), (x_up_k (x_up_k h13 (by omega)) (by omega)), (x_up_k (x_up_k h14 (by omega)) (by omega)), (x_up_k (x_up_k h15 (by omega)) (by omega)), (x_up_k (x_up_k h16 (by omega)) (by omega)), (x_up_k (x_up_k h17 (by omega)) (by omega)), (x_up_k (x_up_k h18 (by omega)) (by omega)), by omega, by omega, by omega, by omega, by omega, by omega⟩⟩)
                              · skip
                                have c155 : n ≠ 0 := by
                                  have z : ¬ (n = 0) := fun zz => c155 ((nI_eq (a := n) (b := 0) (by omega) (by omega)).mpr zz)
                                  omega
                                obtain ⟨n0, hn1⟩ : ∃ n0, n = n0 + 1 := ⟨n - 1, by omega⟩
                                refine x_aload_n F 6 dM_readsCode_258 rfl rfl ?_
                                refine x_get (ci := 6) F 7 (x_in inM) rfl (by decide) (x_m kfM_20) dM_readsCode_259 (x_up_k (x_up_k h0 (by omega)) (by omega)) rfl ?_
                                refine x_iload_n F 4 dM_readsCode_262 rfl rfl ?_
                                refine x_lald F dM_readsCode_263 x_up_s (pk_in (120 + n) (160) (by omega)) ?_
                                refine xW.tol (lN (cN tx (q + rM tx sn q) (rD tx sn (q + rM tx sn q)))) (by rw [nI_clamp (by omega)]; exact vp_us) ?_
                                refine x_aload_n F 6 dM_readsCode_264 rfl rfl ?_
                                refine x_get (ci := 6) F 7 (x_in inM) rfl (by decide) (x_m kfM_20) dM_readsCode_265 (x_up_k (x_up_k h0 (by omega)) (by omega)) rfl ?_
                                refine x_iload_n F 4 dM_readsCode_268 rfl rfl ?_
                                refine x_iconst F (v := nI (1)) dM_readsCode_269 (by decide) ?_
                                refine x_isub F dM_readsCode_270 ?_
                                refine xW.toi (nI (120 + n0)) (by rw [hn1]; exact nI_pred (120 + n0)) ?_
                                refine x_lald F dM_readsCode_271 x_up_s (pk_in (120 + n0) (160) (by omega)) ?_
                                refine xW.tol (lN (xs n0)) (by rw [nI_clamp (by omega)]; exact (updL_ne (by omega)).trans (hcd n0 (by omega)).1) ?_
                                refine yS (n := 2) (As := [.long (lN (cN tx (q + rM tx sn q) (rD tx sn (q + rM tx sn q)))), .long (lN (xs n0))]) F kmM_126 ktM_isBehind knM kcM_isBehind (by decide +kernel) dM_readsCode_272 (cM_isBehind l (nx) (x_up (x_up M (a + 4) (.inl (.int, 160, .inl (upd (ds) (120 + n) (nI (rM tx sn q)))))) (a + 3) (.inl (.long, 160, .inr (.inl (vp_updL (cd) (120 + n) (lN (cN tx (q + rM tx sn q) (rD tx sn (q + rM tx sn q))))))))) (cN tx (q + rM tx sn q) (rD tx sn (q + rM tx sn q))) (rD tx sn (q + rM tx sn q)) (xs n0) (dg n0) hX10 (hcd n0 (by omega)).2) rfl rfl (Nat.le_of_ble_eq_true rfl) ⟨Nat.le_of_ble_eq_true rfl, Nat.le_of_ble_eq_true rfl⟩ ⟨Nat.le_of_ble_eq_true rfl, Nat.le_of_ble_eq_true rfl⟩ ?_
                                refine x_if_ne F (tgt := 288) dM_readsCode_275 (by decide) (fun c156 => ?_) (fun c156 => ?_)
                                · skip
                                  have c156 : (mbh (cN tx (q + rM tx sn q) (rD tx sn (q + rM tx sn q))) (rD tx sn (q + rM tx sn q)) (xs n0) (dg n0)) = true := bI_1 c156
                                  have hbeh : mBeh xs dg n (cN tx (q + rM tx sn q) (rD tx sn (q + rM tx sn q))) (rD tx sn (q + rM tx sn q)) = true := by rw [hn1]; exact c156
                                  refine x_iconst F (v := nI (1)) dM_readsCode_288 (by decide) ?_
                                  refine x_goto F (tgt := 293) dM_readsCode_289 (by decide) ?_
                                  exact x_zret F hr (by rfl) dM_readsCode_293 (by rw [show mrc tx sn ds xs dg n q = none from by rw [mrc, if_neg (fun z => by have z := z.2; rw [c115] at z; cases z), if_neg h70, if_neg c118, if_neg (by omega), if_neg c120, if_neg (by omega), if_neg c123, if_neg (by rw [hbad]; decide), if_neg (by rw [hbeh]; decide)]]; exact ⟨rfl, fun b hb => (x_up_n (by omega)).trans ((x_up_n (by omega)).trans (rfl)), rfl, ⟨(x_up_k (x_up_k h0 (by omega)) (by omega)), (x_up_k (x_up_k h1 (by omega)) (by omega)), (x_up_k (x_up_k h2 (by omega)) (by omega)), x_up_s, (x_up_k x_up_s (by omega)), (x_up_k (x_up_k h5 (by omega)) (by omega)), (x_up_k (x_up_k h6 (by omega)) (by omega)), (x_up_k (x_up_k h7 (by omega)) (by omega)), (x_up_k (x_up_k h8 (by omega)) (by omega)), (x_up_k (x_up_k h9 (by omega)) (by omega)), (x_up_k (x_up_k h10 (by omega)) (by omega)), (x_up_k (x_up_k h11 (by omega)) (by omega)), (x_up_k (x_up_k h12 (by omega)) (by omega)), (x_up_k (x_up_k h13 (by omega)) (by omega)), (x_up_k (x_up_k h14 (by omega)) (by omega)), (x_up_k (x_up_k h15 (by omega)) (by omega)), (x_up_k (x_up_k h16 (by omega)) (by omega)), (x_up_k (x_up_k h17 (by omega)) (by omega)), (x_up_k (x_up_k h18 (by omega)) (by omega)), by omega, by omega, by omega, by omega, by omega, by omega⟩⟩)
                                · skip
                                  have c156 : (mbh (cN tx (q + rM tx sn q) (rD tx sn (q + rM tx sn q))) (rD tx sn (q + rM tx sn q)) (xs n0) (dg n0)) = false := bI_0 c156
                                  have hbeh : mBeh xs dg n (cN tx (q + rM tx sn q) (rD tx sn (q + rM tx sn q))) (rD tx sn (q + rM tx sn q)) = false := by rw [hn1]; exact c156
                                  refine x_aload_n F 6 dM_readsCode_278 rfl rfl ?_
                                  refine x_iconst F (v := nI (4)) dM_readsCode_279 (by decide) ?_
                                  refine x_iload F 2 dM_readsCode_280 rfl ?_
                                  refine yVr (n := 2) (As := [.int (nI (4)), .int (nI (q + rM tx sn q))]) (ci := 6) F kmM_115 kiM_fails ksM_fails knM kcM_fails (by decide +kernel) dM_readsCode_282 (cM_fails l (nx) (x_up (x_up M (a + 4) (.inl (.int, 160, .inl (upd (ds) (120 + n) (nI (rM tx sn q)))))) (a + 3) (.inl (.long, 160, .inr (.inl (vp_updL (cd) (120 + n) (lN (cN tx (q + rM tx sn q) (rD tx sn (q + rM tx sn q))))))))) (a) th sg sn pr fk fp rws (vp_updL (cd) (120 + n) (lN (cN tx (q + rM tx sn q) (rD tx sn (q + rM tx sn q))))) (upd (ds) (120 + n) (nI (rM tx sn q))) wc wd nn nE nC nK nO ln lF lC lT lO fn fC fP ak ac pt ⟨(x_up_k (x_up_k h0 (by omega)) (by omega)), (x_up_k (x_up_k h1 (by omega)) (by omega)), (x_up_k (x_up_k h2 (by omega)) (by omega)), x_up_s, (x_up_k x_up_s (by omega)), (x_up_k (x_up_k h5 (by omega)) (by omega)), (x_up_k (x_up_k h6 (by omega)) (by omega)), (x_up_k (x_up_k h7 (by omega)) (by omega)), (x_up_k (x_up_k h8 (by omega)) (by omega)), (x_up_k (x_up_k h9 (by omega)) (by omega)), (x_up_k (x_up_k h10 (by omega)) (by omega)), (x_up_k (x_up_k h11 (by omega)) (by omega)), (x_up_k (x_up_k h12 (by omega)) (by omega)), (x_up_k (x_up_k h13 (by omega)) (by omega)), (x_up_k (x_up_k h14 (by omega)) (by omega)), (x_up_k (x_up_k h15 (by omega)) (by omega)), (x_up_k (x_up_k h16 (by omega)) (by omega)), (x_up_k (x_up_k h17 (by omega)) (by omega)), (x_up_k (x_up_k h18 (by omega)) (by omega)), by omega, by omega, by omega, by omega, by omega, by omega⟩ (nI (4)) (nI (q + rM tx sn q))) rfl (x_up_k (x_up_k h0 (by omega)) (by omega)) rfl rfl (Nat.le_of_ble_eq_true rfl) ⟨Nat.le_of_ble_eq_true rfl, Nat.le_of_ble_eq_true rfl⟩ ⟨Nat.le_of_ble_eq_true rfl, Nat.le_of_ble_eq_true rfl⟩ (fun r' n' M580 hp => ?_)
                                  obtain ⟨hr', hn', hM580, hf580⟩ := hp
                                  rw [hn', hr']
                                  obtain ⟨v580_0, v580_1, v580_2, v580_3, v580_4, v580_5, v580_6, v580_7, v580_8, v580_9, v580_10, v580_11, v580_12, v580_13, v580_14, v580_15, v580_16, v580_17, v580_18, vb580_0, vb580_1, vb580_2, vb580_3, vb580_4, vb580_5⟩ := id hM580
                                  show xW p l e ({ frames := 4, cells := 0, slots := 0, locals := 96 } : Room) s m args below meth c D xcl (x_A M nx) 8 (MQ below (x_Q D xcl (x_A M nx) (mcPost nx M a th sg sn pr fk fp rws cd ds wc wd nn nE nC nK nO ln lF lC lT lO fn fC fP ak ac pt n (rM tx sn q) (cN tx (q + rM tx sn q) (rD tx sn (q + rM tx sn q))) (mrc tx sn ds xs dg n q))) args s 0 0 (x_A M nx)) 0 0 (nx) M580 285 [(7, .int (nI (120 + j))), (6, .int (nI (rD tx sn (q + rM tx sn q)))), (5, .int (nI (q + rM tx sn q))), (4, .int (nI (rM tx sn q))), (3, .int (nI (120 + n))), (2, .int (nI (n))), (0, .ref (a)), (1, .int (nI (q)))] [.int (nI (0))]
                                  refine x_if_eq F (tgt := 292) dM_readsCode_285 (by decide) (fun c157 => ?_) (fun c157 => ?_)
                                  · skip
                                    have c157 : 0 = 0 := by
                                      exact (nI_eq (a := 0) (b := 0) (by omega) (by omega)).mp c157
                                    refine x_iconst F (v := nI (0)) dM_readsCode_292 (by decide) ?_
                                    exact x_zret F hr (by rfl) dM_readsCode_293 (by rw [show mrc tx sn ds xs dg n q = some (4, q + rM tx sn q) from by rw [mrc, if_neg (fun z => by have z := z.2; rw [c115] at z; cases z), if_neg h70, if_neg c118, if_neg (by omega), if_neg c120, if_neg (by omega), if_neg c123, if_neg (by rw [hbad]; decide), if_pos hbeh]]; exact ⟨rfl, fun b hb => (hf580 _ (by omega)).trans ((x_up_n (by omega)).trans ((x_up_n (by omega)).trans (rfl))), rfl, _, _, (fun i hi => ⟨updL_ne (by omega), upd_ne (by omega)⟩), hM580⟩)
                                  · skip
                                    have c157 : 0 ≠ 0 := by
                                      have z : ¬ (0 = 0) := fun zz => c157 ((nI_eq (a := 0) (b := 0) (by omega) (by omega)).mpr zz)
                                      omega
                                    exact absurd c157 (by decide)
                            · skip
                              have c154 : (mbg (cN tx (q + rM tx sn q) (rD tx sn (q + rM tx sn q))) (rD tx sn (q + rM tx sn q)) (cN tx (q + rM tx sn q) (rD tx sn (q + rM tx sn q))) (rD tx sn (q + rM tx sn q))) = false := bI_0 c154
                              have hla := mUp_la (by omega) hup
                              have hbad : mBad ds xs dg n (rM tx sn q) (cN tx (q + rM tx sn q) (rD tx sn (q + rM tx sn q))) (rD tx sn (q + rM tx sn q)) = true := by rw [mBad, if_neg (by omega), hla]; show (! mbg (cN tx (q + rM tx sn q) (rD tx sn (q + rM tx sn q))) (rD tx sn (q + rM tx sn q)) (xs j) (dg j)) = true; rw [c154]; rfl
                              refine x_aload_n F 6 dM_readsCode_246 rfl rfl ?_
                              refine x_iconst F (v := nI (3)) dM_readsCode_247 (by decide) ?_
                              refine x_iload F 2 dM_readsCode_248 rfl ?_
                              refine yVr (n := 2) (As := [.int (nI (3)), .int (nI (q + rM tx sn q))]) (ci := 6) F kmM_115 kiM_fails ksM_fails knM kcM_fails (by decide +kernel) dM_readsCode_250 (cM_fails l (nx) (x_up (x_up M (a + 4) (.inl (.int, 160, .inl (upd (ds) (120 + n) (nI (rM tx sn q)))))) (a + 3) (.inl (.long, 160, .inr (.inl (vp_updL (cd) (120 + n) (lN (cN tx (q + rM tx sn q) (rD tx sn (q + rM tx sn q))))))))) (a) th sg sn pr fk fp rws (vp_updL (cd) (120 + n) (lN (cN tx (q + rM tx sn q) (rD tx sn (q + rM tx sn q))))) (upd (ds) (120 + n) (nI (rM tx sn q))) wc wd nn nE nC nK nO ln lF lC lT lO fn fC fP ak ac pt ⟨(x_up_k (x_up_k h0 (by omega)) (by omega)), (x_up_k (x_up_k h1 (by omega)) (by omega)), (x_up_k (x_up_k h2 (by omega)) (by omega)), x_up_s, (x_up_k x_up_s (by omega)), (x_up_k (x_up_k h5 (by omega)) (by omega)), (x_up_k (x_up_k h6 (by omega)) (by omega)), (x_up_k (x_up_k h7 (by omega)) (by omega)), (x_up_k (x_up_k h8 (by omega)) (by omega)), (x_up_k (x_up_k h9 (by omega)) (by omega)), (x_up_k (x_up_k h10 (by omega)) (by omega)), (x_up_k (x_up_k h11 (by omega)) (by omega)), (x_up_k (x_up_k h12 (by omega)) (by omega)), (x_up_k (x_up_k h13 (by omega)) (by omega)), (x_up_k (x_up_k h14 (by omega)) (by omega)), (x_up_k (x_up_k h15 (by omega)) (by omega)), (x_up_k (x_up_k h16 (by omega)) (by omega)), (x_up_k (x_up_k h17 (by omega)) (by omega)), (x_up_k (x_up_k h18 (by omega)) (by omega)), by omega, by omega, by omega, by omega, by omega, by omega⟩ (nI (3)) (nI (q + rM tx sn q))) rfl (x_up_k (x_up_k h0 (by omega)) (by omega)) rfl rfl (Nat.le_of_ble_eq_true rfl) ⟨Nat.le_of_ble_eq_true rfl, Nat.le_of_ble_eq_true rfl⟩ ⟨Nat.le_of_ble_eq_true rfl, Nat.le_of_ble_eq_true rfl⟩ (fun r' n' M581 hp => ?_)
                              obtain ⟨hr', hn', hM581, hf581⟩ := hp
                              rw [hn', hr']
                              obtain ⟨v581_0, v581_1, v581_2, v581_3, v581_4, v581_5, v581_6, v581_7, v581_8, v581_9, v581_10, v581_11, v581_12, v581_13, v581_14, v581_15, v581_16, v581_17, v581_18, vb581_0, vb581_1, vb581_2, vb581_3, vb581_4, vb581_5⟩ := id hM581
                              show xW p l e ({ frames := 4, cells := 0, slots := 0, locals := 96 } : Room) s m args below meth c D xcl (x_A M nx) 8 (MQ below (x_Q D xcl (x_A M nx) (mcPost nx M a th sg sn pr fk fp rws cd ds wc wd nn nE nC nK nO ln lF lC lT lO fn fC fP ak ac pt n (rM tx sn q) (cN tx (q + rM tx sn q) (rD tx sn (q + rM tx sn q))) (mrc tx sn ds xs dg n q))) args s 0 0 (x_A M nx)) 0 0 (nx) M581 253 [(7, .int (nI (120 + j))), (6, .int (nI (rD tx sn (q + rM tx sn q)))), (5, .int (nI (q + rM tx sn q))), (4, .int (nI (rM tx sn q))), (3, .int (nI (120 + n))), (2, .int (nI (n))), (0, .ref (a)), (1, .int (nI (q)))] [.int (nI (0))]
                              exact x_zret F hr (by rfl) dM_readsCode_253 (by rw [show mrc tx sn ds xs dg n q = some (3, q + rM tx sn q) from by rw [mrc, if_neg (fun z => by have z := z.2; rw [c115] at z; cases z), if_neg h70, if_neg c118, if_neg (by omega), if_neg c120, if_neg (by omega), if_neg c123, if_pos hbad]]; exact ⟨rfl, fun b hb => (hf581 _ (by omega)).trans ((x_up_n (by omega)).trans ((x_up_n (by omega)).trans (rfl))), rfl, _, _, (fun i hi => ⟨updL_ne (by omega), upd_ne (by omega)⟩), hM581⟩)
                      · skip
                        have c144 : rM tx sn q = 0 := by
                          exact (nI_eq (a := rM tx sn q) (b := 0) (by omega) (by omega)).mp c144
                        refine x_iload F 1 dM_readsCode_207 rfl ?_
                        refine x_iconst F (v := nI (2)) dM_readsCode_209 (by decide) ?_
                        refine x_icmp_ne F (tgt := 246) dM_readsCode_210 (by decide) (fun c158 => ?_) (fun c158 => ?_)
                        · skip
                          have c158 : rD tx sn (q + rM tx sn q) ≠ 2 := by
                            have z : ¬ (rD tx sn (q + rM tx sn q) = 2) := fun zz => c158 ((nI_eq (a := rD tx sn (q + rM tx sn q)) (b := 2) (by omega) (by omega)).mpr zz)
                            omega
                          have hbad : mBad ds xs dg n (rM tx sn q) (cN tx (q + rM tx sn q) (rD tx sn (q + rM tx sn q))) (rD tx sn (q + rM tx sn q)) = true := by rw [mBad, if_pos c144, decide_eq_false c158]; rfl
                          refine x_aload_n F 6 dM_readsCode_246 rfl rfl ?_
                          refine x_iconst F (v := nI (3)) dM_readsCode_247 (by decide) ?_
                          refine x_iload F 2 dM_readsCode_248 rfl ?_
                          refine yVr (n := 2) (As := [.int (nI (3)), .int (nI (q + rM tx sn q))]) (ci := 6) F kmM_115 kiM_fails ksM_fails knM kcM_fails (by decide +kernel) dM_readsCode_250 (cM_fails l (nx) (x_up (x_up M (a + 4) (.inl (.int, 160, .inl (upd (ds) (120 + n) (nI (rM tx sn q)))))) (a + 3) (.inl (.long, 160, .inr (.inl (vp_updL (cd) (120 + n) (lN (cN tx (q + rM tx sn q) (rD tx sn (q + rM tx sn q))))))))) (a) th sg sn pr fk fp rws (vp_updL (cd) (120 + n) (lN (cN tx (q + rM tx sn q) (rD tx sn (q + rM tx sn q))))) (upd (ds) (120 + n) (nI (rM tx sn q))) wc wd nn nE nC nK nO ln lF lC lT lO fn fC fP ak ac pt ⟨(x_up_k (x_up_k h0 (by omega)) (by omega)), (x_up_k (x_up_k h1 (by omega)) (by omega)), (x_up_k (x_up_k h2 (by omega)) (by omega)), x_up_s, (x_up_k x_up_s (by omega)), (x_up_k (x_up_k h5 (by omega)) (by omega)), (x_up_k (x_up_k h6 (by omega)) (by omega)), (x_up_k (x_up_k h7 (by omega)) (by omega)), (x_up_k (x_up_k h8 (by omega)) (by omega)), (x_up_k (x_up_k h9 (by omega)) (by omega)), (x_up_k (x_up_k h10 (by omega)) (by omega)), (x_up_k (x_up_k h11 (by omega)) (by omega)), (x_up_k (x_up_k h12 (by omega)) (by omega)), (x_up_k (x_up_k h13 (by omega)) (by omega)), (x_up_k (x_up_k h14 (by omega)) (by omega)), (x_up_k (x_up_k h15 (by omega)) (by omega)), (x_up_k (x_up_k h16 (by omega)) (by omega)), (x_up_k (x_up_k h17 (by omega)) (by omega)), (x_up_k (x_up_k h18 (by omega)) (by omega)), by omega, by omega, by omega, by omega, by omega, by omega⟩ (nI (3)) (nI (q + rM tx sn q))) rfl (x_up_k (x_up_k h0 (by omega)) (by omega)) rfl rfl (Nat.le_of_ble_eq_true rfl) ⟨Nat.le_of_ble_eq_true rfl, Nat.le_of_ble_eq_true rfl⟩ ⟨Nat.le_of_ble_eq_true rfl, Nat.le_of_ble_eq_true rfl⟩ (fun r' n' M582 hp => ?_)
                          obtain ⟨hr', hn', hM582, hf582⟩ := hp
                          rw [hn', hr']
                          obtain ⟨v582_0, v582_1, v582_2, v582_3, v582_4, v582_5, v582_6, v582_7, v582_8, v582_9, v582_10, v582_11, v582_12, v582_13, v582_14, v582_15, v582_16, v582_17, v582_18, vb582_0, vb582_1, vb582_2, vb582_3, vb582_4, vb582_5⟩ := id hM582
                          show xW p l e ({ frames := 4, cells := 0, slots := 0, locals := 96 } : Room) s m args below meth c D xcl (x_A M nx) 8 (MQ below (x_Q D xcl (x_A M nx) (mcPost nx M a th sg sn pr fk fp rws cd ds wc wd nn nE nC nK nO ln lF lC lT lO fn fC fP ak ac pt n (rM tx sn q) (cN tx (q + rM tx sn q) (rD tx sn (q + rM tx sn q))) (mrc tx sn ds xs dg n q))) args s 0 0 (x_A M nx)) 0 0 (nx) M582 253 [(7, .int (nI (120 + j))), (6, .int (nI (rD tx sn (q + rM tx sn q)))), (5, .int (nI (q + rM tx sn q))), (4, .int (nI (rM tx sn q))), (3, .int (nI (120 + n))), (2, .int (nI (n))), (0, .ref (a)), (1, .int (nI (q)))] [.int (nI (0))]
                          exact x_zret F hr (by rfl) dM_readsCode_253 (by rw [show mrc tx sn ds xs dg n q = some (3, q + rM tx sn q) from by rw [mrc, if_neg (fun z => by have z := z.2; rw [c115] at z; cases z), if_neg h70, if_neg c118, if_neg (by omega), if_neg c120, if_neg (by omega), if_neg c123, if_pos hbad]]; exact ⟨rfl, fun b hb => (hf582 _ (by omega)).trans ((x_up_n (by omega)).trans ((x_up_n (by omega)).trans (rfl))), rfl, _, _, (fun i hi => ⟨updL_ne (by omega), upd_ne (by omega)⟩), hM582⟩)
                        · skip
                          have c158 : rD tx sn (q + rM tx sn q) = 2 := by
                            exact (nI_eq (a := rD tx sn (q + rM tx sn q)) (b := 2) (by omega) (by omega)).mp c158
                          refine x_iload F 3 dM_readsCode_213 rfl ?_
                          refine x_if_le F (tgt := 254) dM_readsCode_215 (by decide) (fun c159 => ?_) (fun c159 => ?_)
                          · skip
                            have c159 : rM tx sn q ≤ 0 := by
                              exact (nI_leI (a := rM tx sn q) (b := 0) (by omega) (by omega)).mp c159
                            have hbad : mBad ds xs dg n (rM tx sn q) (cN tx (q + rM tx sn q) (rD tx sn (q + rM tx sn q))) (rD tx sn (q + rM tx sn q)) = false := by rw [mBad, if_pos (by omega), decide_eq_true (by omega)]; rfl
                            refine x_iload_n F 5 dM_readsCode_254 rfl rfl ?_
                            refine x_if_eq F (tgt := 288) dM_readsCode_255 (by decide) (fun c160 => ?_) (fun c160 => ?_)
                            · skip
                              have c160 : n = 0 := by
                                exact (nI_eq (a := n) (b := 0) (by omega) (by omega)).mp c160
                              have hbeh : mBeh xs dg n (cN tx (q + rM tx sn q) (rD tx sn (q + rM tx sn q))) (rD tx sn (q + rM tx sn q)) = true := by rw [c160]; rfl
                              refine x_iconst F (v := nI (1)) dM_readsCode_288 (by decide) ?_
                              refine x_goto F (tgt := 293) dM_readsCode_289 (by decide) ?_
                              exact x_zret F hr (by rfl) dM_readsCode_293 (by rw [show mrc tx sn ds xs dg n q = none from by rw [mrc, if_neg (fun z => by have z := z.2; rw [c115] at z; cases z), if_neg h70, if_neg c118, if_neg (by omega), if_neg c120, if_neg (by omega), if_neg c123, if_neg (by rw [hbad]; decide), if_neg (by rw [hbeh]; decide)]]; exact ⟨rfl, fun b hb => (x_up_n (by omega)).trans ((x_up_n (by omega)).trans (rfl)), rfl, ⟨(x_up_k (x_up_k h0 (by omega)) (by omega)), (x_up_k (x_up_k h1 (by omega)) (by omega)), (x_up_k (x_up_k h2 (by omega)) (by omega)), x_up_s, (x_up_k x_up_s (by omega)), (x_up_k (x_up_k h5 (by omega)) (by omega)), (x_up_k (x_up_k h6 (by omega)) (by omega)), (x_up_k (x_up_k h7 (by omega)) (by omega)), (x_up_k (x_up_k h8 (by omega)) (by omega)), (x_up_k (x_up_k h9 (by omega)) (by omega)), (x_up_k (x_up_k h10 (by omega)) (by omega)), (x_up_k (x_up_k h11 (by omega)) (by omega)), (x_up_k (x_up_k h12 (by omega)) (by omega)), (x_up_k (x_up_k h13 (by omega)) (by omega)), (x_up_k (x_up_k h14 (by omega)) (by omega)), (x_up_k (x_up_k h15 (by omega)) (by omega)), (x_up_k (x_up_k h16 (by omega)) (by omega)), (x_up_k (x_up_k h17 (by omega)) (by omega)), (x_up_k (x_up_k h18 (by omega)) (by omega)), by omega, by omega, by omega, by omega, by omega, by omega⟩⟩)
                            · skip
                              have c160 : n ≠ 0 := by
                                have z : ¬ (n = 0) := fun zz => c160 ((nI_eq (a := n) (b := 0) (by omega) (by omega)).mpr zz)
                                omega
                              obtain ⟨n0, hn1⟩ : ∃ n0, n = n0 + 1 := ⟨n - 1, by omega⟩
                              refine x_aload_n F 6 dM_readsCode_258 rfl rfl ?_
                              refine x_get (ci := 6) F 7 (x_in inM) rfl (by decide) (x_m kfM_20) dM_readsCode_259 (x_up_k (x_up_k h0 (by omega)) (by omega)) rfl ?_
                              refine x_iload_n F 4 dM_readsCode_262 rfl rfl ?_
                              refine x_lald F dM_readsCode_263 x_up_s (pk_in (120 + n) (160) (by omega)) ?_
                              refine xW.tol (lN (cN tx (q + rM tx sn q) (rD tx sn (q + rM tx sn q)))) (by rw [nI_clamp (by omega)]; exact vp_us) ?_
                              refine x_aload_n F 6 dM_readsCode_264 rfl rfl ?_
                              refine x_get (ci := 6) F 7 (x_in inM) rfl (by decide) (x_m kfM_20) dM_readsCode_265 (x_up_k (x_up_k h0 (by omega)) (by omega)) rfl ?_
                              refine x_iload_n F 4 dM_readsCode_268 rfl rfl ?_
                              refine x_iconst F (v := nI (1)) dM_readsCode_269 (by decide) ?_
                              refine x_isub F dM_readsCode_270 ?_
                              refine xW.toi (nI (120 + n0)) (by rw [hn1]; exact nI_pred (120 + n0)) ?_
                              refine x_lald F dM_readsCode_271 x_up_s (pk_in (120 + n0) (160) (by omega)) ?_
                              refine xW.tol (lN (xs n0)) (by rw [nI_clamp (by omega)]; exact (updL_ne (by omega)).trans (hcd n0 (by omega)).1) ?_
                              refine yS (n := 2) (As := [.long (lN (cN tx (q + rM tx sn q) (rD tx sn (q + rM tx sn q)))), .long (lN (xs n0))]) F kmM_126 ktM_isBehind knM kcM_isBehind (by decide +kernel) dM_readsCode_272 (cM_isBehind l (nx) (x_up (x_up M (a + 4) (.inl (.int, 160, .inl (upd (ds) (120 + n) (nI (rM tx sn q)))))) (a + 3) (.inl (.long, 160, .inr (.inl (vp_updL (cd) (120 + n) (lN (cN tx (q + rM tx sn q) (rD tx sn (q + rM tx sn q))))))))) (cN tx (q + rM tx sn q) (rD tx sn (q + rM tx sn q))) (rD tx sn (q + rM tx sn q)) (xs n0) (dg n0) hX10 (hcd n0 (by omega)).2) rfl rfl (Nat.le_of_ble_eq_true rfl) ⟨Nat.le_of_ble_eq_true rfl, Nat.le_of_ble_eq_true rfl⟩ ⟨Nat.le_of_ble_eq_true rfl, Nat.le_of_ble_eq_true rfl⟩ ?_
                              refine x_if_ne F (tgt := 288) dM_readsCode_275 (by decide) (fun c161 => ?_) (fun c161 => ?_)
                              · skip
                                have c161 : (mbh (cN tx (q + rM tx sn q) (rD tx sn (q + rM tx sn q))) (rD tx sn (q + rM tx sn q)) (xs n0) (dg n0)) = true := bI_1 c161
                                have hbeh : mBeh xs dg n (cN tx (q + rM tx sn q) (rD tx sn (q + rM tx sn q))) (rD tx sn (q + rM tx sn q)) = true := by rw [hn1]; exact c161
                                refine x_iconst F (v := nI (1)) dM_readsCode_288 (by decide) ?_
                                refine x_goto F (tgt := 293) dM_readsCode_289 (by decide) ?_
                                exact x_zret F hr (by rfl) dM_readsCode_293 (by rw [show mrc tx sn ds xs dg n q = none from by rw [mrc, if_neg (fun z => by have z := z.2; rw [c115] at z; cases z), if_neg h70, if_neg c118, if_neg (by omega), if_neg c120, if_neg (by omega), if_neg c123, if_neg (by rw [hbad]; decide), if_neg (by rw [hbeh]; decide)]]; exact ⟨rfl, fun b hb => (x_up_n (by omega)).trans ((x_up_n (by omega)).trans (rfl)), rfl, ⟨(x_up_k (x_up_k h0 (by omega)) (by omega)), (x_up_k (x_up_k h1 (by omega)) (by omega)), (x_up_k (x_up_k h2 (by omega)) (by omega)), x_up_s, (x_up_k x_up_s (by omega)), (x_up_k (x_up_k h5 (by omega)) (by omega)), (x_up_k (x_up_k h6 (by omega)) (by omega)), (x_up_k (x_up_k h7 (by omega)) (by omega)), (x_up_k (x_up_k h8 (by omega)) (by omega)), (x_up_k (x_up_k h9 (by omega)) (by omega)), (x_up_k (x_up_k h10 (by omega)) (by omega)), (x_up_k (x_up_k h11 (by omega)) (by omega)), (x_up_k (x_up_k h12 (by omega)) (by omega)), (x_up_k (x_up_k h13 (by omega)) (by omega)), (x_up_k (x_up_k h14 (by omega)) (by omega)), (x_up_k (x_up_k h15 (by omega)) (by omega)), (x_up_k (x_up_k h16 (by omega)) (by omega)), (x_up_k (x_up_k h17 (by omega)) (by omega)), (x_up_k (x_up_k h18 (by omega)) (by omega)), by omega, by omega, by omega, by omega, by omega, by omega⟩⟩)
                              · skip
                                have c161 : (mbh (cN tx (q + rM tx sn q) (rD tx sn (q + rM tx sn q))) (rD tx sn (q + rM tx sn q)) (xs n0) (dg n0)) = false := bI_0 c161
                                have hbeh : mBeh xs dg n (cN tx (q + rM tx sn q) (rD tx sn (q + rM tx sn q))) (rD tx sn (q + rM tx sn q)) = false := by rw [hn1]; exact c161
                                refine x_aload_n F 6 dM_readsCode_278 rfl rfl ?_
                                refine x_iconst F (v := nI (4)) dM_readsCode_279 (by decide) ?_
                                refine x_iload F 2 dM_readsCode_280 rfl ?_
                                refine yVr (n := 2) (As := [.int (nI (4)), .int (nI (q + rM tx sn q))]) (ci := 6) F kmM_115 kiM_fails ksM_fails knM kcM_fails (by decide +kernel) dM_readsCode_282 (cM_fails l (nx) (x_up (x_up M (a + 4) (.inl (.int, 160, .inl (upd (ds) (120 + n) (nI (rM tx sn q)))))) (a + 3) (.inl (.long, 160, .inr (.inl (vp_updL (cd) (120 + n) (lN (cN tx (q + rM tx sn q) (rD tx sn (q + rM tx sn q))))))))) (a) th sg sn pr fk fp rws (vp_updL (cd) (120 + n) (lN (cN tx (q + rM tx sn q) (rD tx sn (q + rM tx sn q))))) (upd (ds) (120 + n) (nI (rM tx sn q))) wc wd nn nE nC nK nO ln lF lC lT lO fn fC fP ak ac pt ⟨(x_up_k (x_up_k h0 (by omega)) (by omega)), (x_up_k (x_up_k h1 (by omega)) (by omega)), (x_up_k (x_up_k h2 (by omega)) (by omega)), x_up_s, (x_up_k x_up_s (by omega)), (x_up_k (x_up_k h5 (by omega)) (by omega)), (x_up_k (x_up_k h6 (by omega)) (by omega)), (x_up_k (x_up_k h7 (by omega)) (by omega)), (x_up_k (x_up_k h8 (by omega)) (by omega)), (x_up_k (x_up_k h9 (by omega)) (by omega)), (x_up_k (x_up_k h10 (by omega)) (by omega)), (x_up_k (x_up_k h11 (by omega)) (by omega)), (x_up_k (x_up_k h12 (by omega)) (by omega)), (x_up_k (x_up_k h13 (by omega)) (by omega)), (x_up_k (x_up_k h14 (by omega)) (by omega)), (x_up_k (x_up_k h15 (by omega)) (by omega)), (x_up_k (x_up_k h16 (by omega)) (by omega)), (x_up_k (x_up_k h17 (by omega)) (by omega)), (x_up_k (x_up_k h18 (by omega)) (by omega)), by omega, by omega, by omega, by omega, by omega, by omega⟩ (nI (4)) (nI (q + rM tx sn q))) rfl (x_up_k (x_up_k h0 (by omega)) (by omega)) rfl rfl (Nat.le_of_ble_eq_true rfl) ⟨Nat.le_of_ble_eq_true rfl, Nat.le_of_ble_eq_true rfl⟩ ⟨Nat.le_of_ble_eq_true rfl, Nat.le_of_ble_eq_true rfl⟩ (fun r' n' M583 hp => ?_)
                                obtain ⟨hr', hn', hM583, hf583⟩ := hp
                                rw [hn', hr']
                                obtain ⟨v583_0, v583_1, v583_2, v583_3, v583_4, v583_5, v583_6, v583_7, v583_8, v583_9, v583_10, v583_11, v583_12, v583_13, v583_14, v583_15, v583_16, v583_17, v583_18, vb583_0, vb583_1, vb583_2, vb583_3, vb583_4, vb583_5⟩ := id hM583
                                show xW p l e ({ frames := 4, cells := 0, slots := 0, locals := 96 } : Room) s m args below meth c D xcl (x_A M nx) 8 (MQ below (x_Q D xcl (x_A M nx) (mcPost nx M a th sg sn pr fk fp rws cd ds wc wd nn nE nC nK nO ln lF lC lT lO fn fC fP ak ac pt n (rM tx sn q) (cN tx (q + rM tx sn q) (rD tx sn (q + rM tx sn q))) (mrc tx sn ds xs dg n q))) args s 0 0 (x_A M nx)) 0 0 (nx) M583 285 [(7, .int (nI (120 + j))), (6, .int (nI (rD tx sn (q + rM tx sn q)))), (5, .int (nI (q + rM tx sn q))), (4, .int (nI (rM tx sn q))), (3, .int (nI (120 + n))), (2, .int (nI (n))), (0, .ref (a)), (1, .int (nI (q)))] [.int (nI (0))]
                                refine x_if_eq F (tgt := 292) dM_readsCode_285 (by decide) (fun c162 => ?_) (fun c162 => ?_)
                                · skip
                                  have c162 : 0 = 0 := by
                                    exact (nI_eq (a := 0) (b := 0) (by omega) (by omega)).mp c162
                                  refine x_iconst F (v := nI (0)) dM_readsCode_292 (by decide) ?_
                                  exact x_zret F hr (by rfl) dM_readsCode_293 (by rw [show mrc tx sn ds xs dg n q = some (4, q + rM tx sn q) from by rw [mrc, if_neg (fun z => by have z := z.2; rw [c115] at z; cases z), if_neg h70, if_neg c118, if_neg (by omega), if_neg c120, if_neg (by omega), if_neg c123, if_neg (by rw [hbad]; decide), if_pos hbeh]]; exact ⟨rfl, fun b hb => (hf583 _ (by omega)).trans ((x_up_n (by omega)).trans ((x_up_n (by omega)).trans (rfl))), rfl, _, _, (fun i hi => ⟨updL_ne (by omega), upd_ne (by omega)⟩), hM583⟩)
                                · skip
                                  have c162 : 0 ≠ 0 := by
                                    have z : ¬ (0 = 0) := fun zz => c162 ((nI_eq (a := 0) (b := 0) (by omega) (by omega)).mpr zz)
                                    omega
                                  exact absurd c162 (by decide)
                          · skip
                            have c159 : 0 < rM tx sn q := by
                              have z : ¬ (rM tx sn q ≤ 0) := fun zz => c159 ((nI_leI (a := rM tx sn q) (b := 0) (by omega) (by omega)).mpr zz)
                              omega
                            refine x_aload_n F 6 dM_readsCode_218 rfl rfl ?_
                            refine x_get (ci := 6) F 7 (x_in inM) rfl (by decide) (x_m kfM_20) dM_readsCode_219 (x_up_k (x_up_k h0 (by omega)) (by omega)) rfl ?_
                            refine x_iload_n F 4 dM_readsCode_222 rfl rfl ?_
                            refine x_lald F dM_readsCode_223 x_up_s (pk_in (120 + n) (160) (by omega)) ?_
                            refine xW.tol (lN (cN tx (q + rM tx sn q) (rD tx sn (q + rM tx sn q)))) (by rw [nI_clamp (by omega)]; exact vp_us) ?_
                            refine x_aload_n F 6 dM_readsCode_224 rfl rfl ?_
                            refine x_get (ci := 6) F 7 (x_in inM) rfl (by decide) (x_m kfM_20) dM_readsCode_225 (x_up_k (x_up_k h0 (by omega)) (by omega)) rfl ?_
                            refine x_iload F 0 dM_readsCode_228 rfl ?_
                            refine x_if_ge F (tgt := 237) dM_readsCode_230 (by decide) (fun c163 => ?_) (fun c163 => ?_)
                            · skip
                              have c163 : 0 ≤ 120 + j := by
                                exact (nI_leI (a := 0) (b := 120 + j) (by omega) (by omega)).mp c163
                              refine x_iload F 0 dM_readsCode_237 rfl ?_
                              refine x_lald F dM_readsCode_239 x_up_s (pk_in (120 + j) (160) (by omega)) ?_
                              refine xW.tol (lN (xs j)) (by rw [nI_clamp (by omega)]; exact (updL_ne (by omega)).trans (hcd j hj).1) ?_
                              refine yS (n := 2) (As := [.long (lN (cN tx (q + rM tx sn q) (rD tx sn (q + rM tx sn q)))), .long (lN (xs j))]) F kmM_107 ktM_begins knM kcM_begins (by decide +kernel) dM_readsCode_240 (cM_begins l (nx) (x_up (x_up M (a + 4) (.inl (.int, 160, .inl (upd (ds) (120 + n) (nI (rM tx sn q)))))) (a + 3) (.inl (.long, 160, .inr (.inl (vp_updL (cd) (120 + n) (lN (cN tx (q + rM tx sn q) (rD tx sn (q + rM tx sn q))))))))) (cN tx (q + rM tx sn q) (rD tx sn (q + rM tx sn q))) (rD tx sn (q + rM tx sn q)) (xs j) (dg j) hX10 (hcd j hj).2) rfl rfl (Nat.le_of_ble_eq_true rfl) ⟨Nat.le_of_ble_eq_true rfl, Nat.le_of_ble_eq_true rfl⟩ ⟨Nat.le_of_ble_eq_true rfl, Nat.le_of_ble_eq_true rfl⟩ ?_
                              refine x_if_ne F (tgt := 254) dM_readsCode_243 (by decide) (fun c164 => ?_) (fun c164 => ?_)
                              · skip
                                have c164 : (mbg (cN tx (q + rM tx sn q) (rD tx sn (q + rM tx sn q))) (rD tx sn (q + rM tx sn q)) (xs j) (dg j)) = true := bI_1 c164
                                have hla := mUp_la (by omega) hup
                                have hbad : mBad ds xs dg n (rM tx sn q) (cN tx (q + rM tx sn q) (rD tx sn (q + rM tx sn q))) (rD tx sn (q + rM tx sn q)) = false := by rw [mBad, if_neg (by omega), hla]; show (! mbg (cN tx (q + rM tx sn q) (rD tx sn (q + rM tx sn q))) (rD tx sn (q + rM tx sn q)) (xs j) (dg j)) = false; rw [c164]; rfl
                                refine x_iload_n F 5 dM_readsCode_254 rfl rfl ?_
                                refine x_if_eq F (tgt := 288) dM_readsCode_255 (by decide) (fun c165 => ?_) (fun c165 => ?_)
                                · skip
                                  have c165 : n = 0 := by
                                    exact (nI_eq (a := n) (b := 0) (by omega) (by omega)).mp c165
                                  have hbeh : mBeh xs dg n (cN tx (q + rM tx sn q) (rD tx sn (q + rM tx sn q))) (rD tx sn (q + rM tx sn q)) = true := by rw [c165]; rfl
                                  refine x_iconst F (v := nI (1)) dM_readsCode_288 (by decide) ?_
                                  refine x_goto F (tgt := 293) dM_readsCode_289 (by decide) ?_
                                  exact x_zret F hr (by rfl) dM_readsCode_293 (by rw [show mrc tx sn ds xs dg n q = none from by rw [mrc, if_neg (fun z => by have z := z.2; rw [c115] at z; cases z), if_neg h70, if_neg c118, if_neg (by omega), if_neg c120, if_neg (by omega), if_neg c123, if_neg (by rw [hbad]; decide), if_neg (by rw [hbeh]; decide)]]; exact ⟨rfl, fun b hb => (x_up_n (by omega)).trans ((x_up_n (by omega)).trans (rfl)), rfl, ⟨(x_up_k (x_up_k h0 (by omega)) (by omega)), (x_up_k (x_up_k h1 (by omega)) (by omega)), (x_up_k (x_up_k h2 (by omega)) (by omega)), x_up_s, (x_up_k x_up_s (by omega)), (x_up_k (x_up_k h5 (by omega)) (by omega)), (x_up_k (x_up_k h6 (by omega)) (by omega)), (x_up_k (x_up_k h7 (by omega)) (by omega)), (x_up_k (x_up_k h8 (by omega)) (by omega)), (x_up_k (x_up_k h9 (by omega)) (by omega)), (x_up_k (x_up_k h10 (by omega)) (by omega)), (x_up_k (x_up_k h11 (by omega)) (by omega)), (x_up_k (x_up_k h12 (by omega)) (by omega)), (x_up_k (x_up_k h13 (by omega)) (by omega)), (x_up_k (x_up_k h14 (by omega)) (by omega)), (x_up_k (x_up_k h15 (by omega)) (by omega)), (x_up_k (x_up_k h16 (by omega)) (by omega)), (x_up_k (x_up_k h17 (by omega)) (by omega)), (x_up_k (x_up_k h18 (by omega)) (by omega)), by omega, by omega, by omega, by omega, by omega, by omega⟩⟩)
                                · skip
                                  have c165 : n ≠ 0 := by
                                    have z : ¬ (n = 0) := fun zz => c165 ((nI_eq (a := n) (b := 0) (by omega) (by omega)).mpr zz)
                                    omega
                                  obtain ⟨n0, hn1⟩ : ∃ n0, n = n0 + 1 := ⟨n - 1, by omega⟩
                                  refine x_aload_n F 6 dM_readsCode_258 rfl rfl ?_
                                  refine x_get (ci := 6) F 7 (x_in inM) rfl (by decide) (x_m kfM_20) dM_readsCode_259 (x_up_k (x_up_k h0 (by omega)) (by omega)) rfl ?_
                                  refine x_iload_n F 4 dM_readsCode_262 rfl rfl ?_
                                  refine x_lald F dM_readsCode_263 x_up_s (pk_in (120 + n) (160) (by omega)) ?_
                                  refine xW.tol (lN (cN tx (q + rM tx sn q) (rD tx sn (q + rM tx sn q)))) (by rw [nI_clamp (by omega)]; exact vp_us) ?_
                                  refine x_aload_n F 6 dM_readsCode_264 rfl rfl ?_
                                  refine x_get (ci := 6) F 7 (x_in inM) rfl (by decide) (x_m kfM_20) dM_readsCode_265 (x_up_k (x_up_k h0 (by omega)) (by omega)) rfl ?_
                                  refine x_iload_n F 4 dM_readsCode_268 rfl rfl ?_
                                  refine x_iconst F (v := nI (1)) dM_readsCode_269 (by decide) ?_
                                  refine x_isub F dM_readsCode_270 ?_
                                  refine xW.toi (nI (120 + n0)) (by rw [hn1]; exact nI_pred (120 + n0)) ?_
                                  refine x_lald F dM_readsCode_271 x_up_s (pk_in (120 + n0) (160) (by omega)) ?_
                                  refine xW.tol (lN (xs n0)) (by rw [nI_clamp (by omega)]; exact (updL_ne (by omega)).trans (hcd n0 (by omega)).1) ?_
                                  refine yS (n := 2) (As := [.long (lN (cN tx (q + rM tx sn q) (rD tx sn (q + rM tx sn q)))), .long (lN (xs n0))]) F kmM_126 ktM_isBehind knM kcM_isBehind (by decide +kernel) dM_readsCode_272 (cM_isBehind l (nx) (x_up (x_up M (a + 4) (.inl (.int, 160, .inl (upd (ds) (120 + n) (nI (rM tx sn q)))))) (a + 3) (.inl (.long, 160, .inr (.inl (vp_updL (cd) (120 + n) (lN (cN tx (q + rM tx sn q) (rD tx sn (q + rM tx sn q))))))))) (cN tx (q + rM tx sn q) (rD tx sn (q + rM tx sn q))) (rD tx sn (q + rM tx sn q)) (xs n0) (dg n0) hX10 (hcd n0 (by omega)).2) rfl rfl (Nat.le_of_ble_eq_true rfl) ⟨Nat.le_of_ble_eq_true rfl, Nat.le_of_ble_eq_true rfl⟩ ⟨Nat.le_of_ble_eq_true rfl, Nat.le_of_ble_eq_true rfl⟩ ?_
                                  refine x_if_ne F (tgt := 288) dM_readsCode_275 (by decide) (fun c166 => ?_) (fun c166 => ?_)
                                  · skip
                                    have c166 : (mbh (cN tx (q + rM tx sn q) (rD tx sn (q + rM tx sn q))) (rD tx sn (q + rM tx sn q)) (xs n0) (dg n0)) = true := bI_1 c166
                                    have hbeh : mBeh xs dg n (cN tx (q + rM tx sn q) (rD tx sn (q + rM tx sn q))) (rD tx sn (q + rM tx sn q)) = true := by rw [hn1]; exact c166
                                    refine x_iconst F (v := nI (1)) dM_readsCode_288 (by decide) ?_
                                    refine x_goto F (tgt := 293) dM_readsCode_289 (by decide) ?_
                                    exact x_zret F hr (by rfl) dM_readsCode_293 (by rw [show mrc tx sn ds xs dg n q = none from by rw [mrc, if_neg (fun z => by have z := z.2; rw [c115] at z; cases z), if_neg h70, if_neg c118, if_neg (by omega), if_neg c120, if_neg (by omega), if_neg c123, if_neg (by rw [hbad]; decide), if_neg (by rw [hbeh]; decide)]]; exact ⟨rfl, fun b hb => (x_up_n (by omega)).trans ((x_up_n (by omega)).trans (rfl)), rfl, ⟨(x_up_k (x_up_k h0 (by omega)) (by omega)), (x_up_k (x_up_k h1 (by omega)) (by omega)), (x_up_k (x_up_k h2 (by omega)) (by omega)), x_up_s, (x_up_k x_up_s (by omega)), (x_up_k (x_up_k h5 (by omega)) (by omega)), (x_up_k (x_up_k h6 (by omega)) (by omega)), (x_up_k (x_up_k h7 (by omega)) (by omega)), (x_up_k (x_up_k h8 (by omega)) (by omega)), (x_up_k (x_up_k h9 (by omega)) (by omega)), (x_up_k (x_up_k h10 (by omega)) (by omega)), (x_up_k (x_up_k h11 (by omega)) (by omega)), (x_up_k (x_up_k h12 (by omega)) (by omega)), (x_up_k (x_up_k h13 (by omega)) (by omega)), (x_up_k (x_up_k h14 (by omega)) (by omega)), (x_up_k (x_up_k h15 (by omega)) (by omega)), (x_up_k (x_up_k h16 (by omega)) (by omega)), (x_up_k (x_up_k h17 (by omega)) (by omega)), (x_up_k (x_up_k h18 (by omega)) (by omega)), by omega, by omega, by omega, by omega, by omega, by omega⟩⟩)
                                  · skip
                                    have c166 : (mbh (cN tx (q + rM tx sn q) (rD tx sn (q + rM tx sn q))) (rD tx sn (q + rM tx sn q)) (xs n0) (dg n0)) = false := bI_0 c166
                                    have hbeh : mBeh xs dg n (cN tx (q + rM tx sn q) (rD tx sn (q + rM tx sn q))) (rD tx sn (q + rM tx sn q)) = false := by rw [hn1]; exact c166
                                    refine x_aload_n F 6 dM_readsCode_278 rfl rfl ?_
                                    refine x_iconst F (v := nI (4)) dM_readsCode_279 (by decide) ?_
                                    refine x_iload F 2 dM_readsCode_280 rfl ?_
                                    refine yVr (n := 2) (As := [.int (nI (4)), .int (nI (q + rM tx sn q))]) (ci := 6) F kmM_115 kiM_fails ksM_fails knM kcM_fails (by decide +kernel) dM_readsCode_282 (cM_fails l (nx) (x_up (x_up M (a + 4) (.inl (.int, 160, .inl (upd (ds) (120 + n) (nI (rM tx sn q)))))) (a + 3) (.inl (.long, 160, .inr (.inl (vp_updL (cd) (120 + n) (lN (cN tx (q + rM tx sn q) (rD tx sn (q + rM tx sn q))))))))) (a) th sg sn pr fk fp rws (vp_updL (cd) (120 + n) (lN (cN tx (q + rM tx sn q) (rD tx sn (q + rM tx sn q))))) (upd (ds) (120 + n) (nI (rM tx sn q))) wc wd nn nE nC nK nO ln lF lC lT lO fn fC fP ak ac pt ⟨(x_up_k (x_up_k h0 (by omega)) (by omega)), (x_up_k (x_up_k h1 (by omega)) (by omega)), (x_up_k (x_up_k h2 (by omega)) (by omega)), x_up_s, (x_up_k x_up_s (by omega)), (x_up_k (x_up_k h5 (by omega)) (by omega)), (x_up_k (x_up_k h6 (by omega)) (by omega)), (x_up_k (x_up_k h7 (by omega)) (by omega)), (x_up_k (x_up_k h8 (by omega)) (by omega)), (x_up_k (x_up_k h9 (by omega)) (by omega)), (x_up_k (x_up_k h10 (by omega)) (by omega)), (x_up_k (x_up_k h11 (by omega)) (by omega)), (x_up_k (x_up_k h12 (by omega)) (by omega)), (x_up_k (x_up_k h13 (by omega)) (by omega)), (x_up_k (x_up_k h14 (by omega)) (by omega)), (x_up_k (x_up_k h15 (by omega)) (by omega)), (x_up_k (x_up_k h16 (by omega)) (by omega)), (x_up_k (x_up_k h17 (by omega)) (by omega)), (x_up_k (x_up_k h18 (by omega)) (by omega)), by omega, by omega, by omega, by omega, by omega, by omega⟩ (nI (4)) (nI (q + rM tx sn q))) rfl (x_up_k (x_up_k h0 (by omega)) (by omega)) rfl rfl (Nat.le_of_ble_eq_true rfl) ⟨Nat.le_of_ble_eq_true rfl, Nat.le_of_ble_eq_true rfl⟩ ⟨Nat.le_of_ble_eq_true rfl, Nat.le_of_ble_eq_true rfl⟩ (fun r' n' M584 hp => ?_)
                                    obtain ⟨hr', hn', hM584, hf584⟩ := hp
                                    rw [hn', hr']
                                    obtain ⟨v584_0, v584_1, v584_2, v584_3, v584_4, v584_5, v584_6, v584_7, v584_8, v584_9, v584_10, v584_11, v584_12, v584_13, v584_14, v584_15, v584_16, v584_17, v584_18, vb584_0, vb584_1, vb584_2, vb584_3, vb584_4, vb584_5⟩ := id hM584
                                    show xW p l e ({ frames := 4, cells := 0, slots := 0, locals := 96 } : Room) s m args below meth c D xcl (x_A M nx) 8 (MQ below (x_Q D xcl (x_A M nx) (mcPost nx M a th sg sn pr fk fp rws cd ds wc wd nn nE nC nK nO ln lF lC lT lO fn fC fP ak ac pt n (rM tx sn q) (cN tx (q + rM tx sn q) (rD tx sn (q + rM tx sn q))) (mrc tx sn ds xs dg n q))) args s 0 0 (x_A M nx)) 0 0 (nx) M584 285 [(7, .int (nI (120 + j))), (6, .int (nI (rD tx sn (q + rM tx sn q)))), (5, .int (nI (q + rM tx sn q))), (4, .int (nI (rM tx sn q))), (3, .int (nI (120 + n))), (2, .int (nI (n))), (0, .ref (a)), (1, .int (nI (q)))] [.int (nI (0))]
                                    refine x_if_eq F (tgt := 292) dM_readsCode_285 (by decide) (fun c167 => ?_) (fun c167 => ?_)
                                    · skip
                                      have c167 : 0 = 0 := by
                                        exact (nI_eq (a := 0) (b := 0) (by omega) (by omega)).mp c167
                                      refine x_iconst F (v := nI (0)) dM_readsCode_292 (by decide) ?_
                                      exact x_zret F hr (by rfl) dM_readsCode_293 (by rw [show mrc tx sn ds xs dg n q = some (4, q + rM tx sn q) from by rw [mrc, if_neg (fun z => by have z := z.2; rw [c115] at z; cases z), if_neg h70, if_neg c118, if_neg (by omega), if_neg c120, if_neg (by omega), if_neg c123, if_neg (by rw [hbad]; decide), if_pos hbeh]]; exact ⟨rfl, fun b hb => (hf584 _ (by omega)).trans ((x_up_n (by omega)).trans ((x_up_n (by omega)).trans (rfl))), rfl, _, _, (fun i hi => ⟨updL_ne (by omega), upd_ne (by omega)⟩), hM584⟩)
                                    · skip
                                      have c167 : 0 ≠ 0 := by
                                        have z : ¬ (0 = 0) := fun zz => c167 ((nI_eq (a := 0) (b := 0) (by omega) (by omega)).mpr zz)
                                        omega
                                      exact absurd c167 (by decide)
                              · skip
                                have c164 : (mbg (cN tx (q + rM tx sn q) (rD tx sn (q + rM tx sn q))) (rD tx sn (q + rM tx sn q)) (xs j) (dg j)) = false := bI_0 c164
                                have hla := mUp_la (by omega) hup
                                have hbad : mBad ds xs dg n (rM tx sn q) (cN tx (q + rM tx sn q) (rD tx sn (q + rM tx sn q))) (rD tx sn (q + rM tx sn q)) = true := by rw [mBad, if_neg (by omega), hla]; show (! mbg (cN tx (q + rM tx sn q) (rD tx sn (q + rM tx sn q))) (rD tx sn (q + rM tx sn q)) (xs j) (dg j)) = true; rw [c164]; rfl
                                refine x_aload_n F 6 dM_readsCode_246 rfl rfl ?_
                                refine x_iconst F (v := nI (3)) dM_readsCode_247 (by decide) ?_
                                refine x_iload F 2 dM_readsCode_248 rfl ?_
                                refine yVr (n := 2) (As := [.int (nI (3)), .int (nI (q + rM tx sn q))]) (ci := 6) F kmM_115 kiM_fails ksM_fails knM kcM_fails (by decide +kernel) dM_readsCode_250 (cM_fails l (nx) (x_up (x_up M (a + 4) (.inl (.int, 160, .inl (upd (ds) (120 + n) (nI (rM tx sn q)))))) (a + 3) (.inl (.long, 160, .inr (.inl (vp_updL (cd) (120 + n) (lN (cN tx (q + rM tx sn q) (rD tx sn (q + rM tx sn q))))))))) (a) th sg sn pr fk fp rws (vp_updL (cd) (120 + n) (lN (cN tx (q + rM tx sn q) (rD tx sn (q + rM tx sn q))))) (upd (ds) (120 + n) (nI (rM tx sn q))) wc wd nn nE nC nK nO ln lF lC lT lO fn fC fP ak ac pt ⟨(x_up_k (x_up_k h0 (by omega)) (by omega)), (x_up_k (x_up_k h1 (by omega)) (by omega)), (x_up_k (x_up_k h2 (by omega)) (by omega)), x_up_s, (x_up_k x_up_s (by omega)), (x_up_k (x_up_k h5 (by omega)) (by omega)), (x_up_k (x_up_k h6 (by omega)) (by omega)), (x_up_k (x_up_k h7 (by omega)) (by omega)), (x_up_k (x_up_k h8 (by omega)) (by omega)), (x_up_k (x_up_k h9 (by omega)) (by omega)), (x_up_k (x_up_k h10 (by omega)) (by omega)), (x_up_k (x_up_k h11 (by omega)) (by omega)), (x_up_k (x_up_k h12 (by omega)) (by omega)), (x_up_k (x_up_k h13 (by omega)) (by omega)), (x_up_k (x_up_k h14 (by omega)) (by omega)), (x_up_k (x_up_k h15 (by omega)) (by omega)), (x_up_k (x_up_k h16 (by omega)) (by omega)), (x_up_k (x_up_k h17 (by omega)) (by omega)), (x_up_k (x_up_k h18 (by omega)) (by omega)), by omega, by omega, by omega, by omega, by omega, by omega⟩ (nI (3)) (nI (q + rM tx sn q))) rfl (x_up_k (x_up_k h0 (by omega)) (by omega)) rfl rfl (Nat.le_of_ble_eq_true rfl) ⟨Nat.le_of_ble_eq_true rfl, Nat.le_of_ble_eq_true rfl⟩ ⟨Nat.le_of_ble_eq_true rfl, Nat.le_of_ble_eq_true rfl⟩ (fun r' n' M585 hp => ?_)
                                obtain ⟨hr', hn', hM585, hf585⟩ := hp
                                rw [hn', hr']
                                obtain ⟨v585_0, v585_1, v585_2, v585_3, v585_4, v585_5, v585_6, v585_7, v585_8, v585_9, v585_10, v585_11, v585_12, v585_13, v585_14, v585_15, v585_16, v585_17, v585_18, vb585_0, vb585_1, vb585_2, vb585_3, vb585_4, vb585_5⟩ := id hM585
                                show xW p l e ({ frames := 4, cells := 0, slots := 0, locals := 96 } : Room) s m args below meth c D xcl (x_A M nx) 8 (MQ below (x_Q D xcl (x_A M nx) (mcPost nx M a th sg sn pr fk fp rws cd ds wc wd nn nE nC nK nO ln lF lC lT lO fn fC fP ak ac pt n (rM tx sn q) (cN tx (q + rM tx sn q) (rD tx sn (q + rM tx sn q))) (mrc tx sn ds xs dg n q))) args s 0 0 (x_A M nx)) 0 0 (nx) M585 253 [(7, .int (nI (120 + j))), (6, .int (nI (rD tx sn (q + rM tx sn q)))), (5, .int (nI (q + rM tx sn q))), (4, .int (nI (rM tx sn q))), (3, .int (nI (120 + n))), (2, .int (nI (n))), (0, .ref (a)), (1, .int (nI (q)))] [.int (nI (0))]
                                exact x_zret F hr (by rfl) dM_readsCode_253 (by rw [show mrc tx sn ds xs dg n q = some (3, q + rM tx sn q) from by rw [mrc, if_neg (fun z => by have z := z.2; rw [c115] at z; cases z), if_neg h70, if_neg c118, if_neg (by omega), if_neg c120, if_neg (by omega), if_neg c123, if_pos hbad]]; exact ⟨rfl, fun b hb => (hf585 _ (by omega)).trans ((x_up_n (by omega)).trans ((x_up_n (by omega)).trans (rfl))), rfl, _, _, (fun i hi => ⟨updL_ne (by omega), upd_ne (by omega)⟩), hM585⟩)
                            · skip
                              have c163 : 120 + j < 0 := by
                                have z : ¬ (0 ≤ 120 + j) := fun zz => c163 ((nI_leI (a := 0) (b := 120 + j) (by omega) (by omega)).mpr zz)
                                omega
                              refine x_iload_n F 4 dM_readsCode_233 rfl rfl ?_
                              refine x_goto F (tgt := 239) dM_readsCode_234 (by decide) ?_
                              refine x_lald F dM_readsCode_239 x_up_s (pk_in (120 + n) (160) (by omega)) ?_
                              refine xW.tol (lN (cN tx (q + rM tx sn q) (rD tx sn (q + rM tx sn q)))) (by rw [nI_clamp (by omega)]; exact vp_us) ?_
                              refine yS (n := 2) (As := [.long (lN (cN tx (q + rM tx sn q) (rD tx sn (q + rM tx sn q)))), .long (lN (cN tx (q + rM tx sn q) (rD tx sn (q + rM tx sn q))))]) F kmM_107 ktM_begins knM kcM_begins (by decide +kernel) dM_readsCode_240 (cM_begins l (nx) (x_up (x_up M (a + 4) (.inl (.int, 160, .inl (upd (ds) (120 + n) (nI (rM tx sn q)))))) (a + 3) (.inl (.long, 160, .inr (.inl (vp_updL (cd) (120 + n) (lN (cN tx (q + rM tx sn q) (rD tx sn (q + rM tx sn q))))))))) (cN tx (q + rM tx sn q) (rD tx sn (q + rM tx sn q))) (rD tx sn (q + rM tx sn q)) (cN tx (q + rM tx sn q) (rD tx sn (q + rM tx sn q))) (rD tx sn (q + rM tx sn q)) hX10 hX10) rfl rfl (Nat.le_of_ble_eq_true rfl) ⟨Nat.le_of_ble_eq_true rfl, Nat.le_of_ble_eq_true rfl⟩ ⟨Nat.le_of_ble_eq_true rfl, Nat.le_of_ble_eq_true rfl⟩ ?_
                              refine x_if_ne F (tgt := 254) dM_readsCode_243 (by decide) (fun c168 => ?_) (fun c168 => ?_)
                              · skip
                                have c168 : (mbg (cN tx (q + rM tx sn q) (rD tx sn (q + rM tx sn q))) (rD tx sn (q + rM tx sn q)) (cN tx (q + rM tx sn q) (rD tx sn (q + rM tx sn q))) (rD tx sn (q + rM tx sn q))) = true := bI_1 c168
                                have hla := mUp_la (by omega) hup
                                have hbad : mBad ds xs dg n (rM tx sn q) (cN tx (q + rM tx sn q) (rD tx sn (q + rM tx sn q))) (rD tx sn (q + rM tx sn q)) = false := by rw [mBad, if_neg (by omega), hla]; show (! mbg (cN tx (q + rM tx sn q) (rD tx sn (q + rM tx sn q))) (rD tx sn (q + rM tx sn q)) (xs j) (dg j)) = false; rw [c168]; rfl
                                refine x_iload_n F 5 dM_readsCode_254 rfl rfl ?_
                                refine x_if_eq F (tgt := 288) dM_readsCode_255 (by decide) (fun c169 => ?_) (fun c169 => ?_)
                                · skip
                                  have c169 : n = 0 := by
                                    exact (nI_eq (a := n) (b := 0) (by omega) (by omega)).mp c169
                                  have hbeh : mBeh xs dg n (cN tx (q + rM tx sn q) (rD tx sn (q + rM tx sn q))) (rD tx sn (q + rM tx sn q)) = true := by rw [c169]; rfl
                                  refine x_iconst F (v := nI (1)) dM_readsCode_288 (by decide) ?_
                                  refine x_goto F (tgt := 293) dM_readsCode_289 (by decide) ?_
                                  exact x_zret F hr (by rfl) dM_readsCode_293 (by rw [show mrc tx sn ds xs dg n q = none from by rw [mrc, if_neg (fun z => by have z := z.2; rw [c115] at z; cases z), if_neg h70, if_neg c118, if_neg (by omega), if_neg c120, if_neg (by omega), if_neg c123, if_neg (by rw [hbad]; decide), if_neg (by rw [hbeh]; decide)]]; exact ⟨rfl, fun b hb => (x_up_n (by omega)).trans ((x_up_n (by omega)).trans (rfl)), rfl, ⟨(x_up_k (x_up_k h0 (by omega)) (by omega)), (x_up_k (x_up_k h1 (by omega)) (by omega)), (x_up_k (x_up_k h2 (by omega)) (by omega)), x_up_s, (x_up_k x_up_s (by omega)), (x_up_k (x_up_k h5 (by omega)) (by omega)), (x_up_k (x_up_k h6 (by omega)) (by omega)), (x_up_k (x_up_k h7 (by omega)) (by omega)), (x_up_k (x_up_k h8 (by omega)) (by omega)), (x_up_k (x_up_k h9 (by omega)) (by omega)), (x_up_k (x_up_k h10 (by omega)) (by omega)), (x_up_k (x_up_k h11 (by omega)) (by omega)), (x_up_k (x_up_k h12 (by omega)) (by omega)), (x_up_k (x_up_k h13 (by omega)) (by omega)), (x_up_k (x_up_k h14 (by omega)) (by omega)), (x_up_k (x_up_k h15 (by omega)) (by omega)), (x_up_k (x_up_k h16 (by omega)) (by omega)), (x_up_k (x_up_k h17 (by omega)) (by omega)), (x_up_k (x_up_k h18 (by omega)) (by omega)), by omega, by omega, by omega, by omega, by omega, by omega⟩⟩)
                                · skip
                                  have c169 : n ≠ 0 := by
                                    have z : ¬ (n = 0) := fun zz => c169 ((nI_eq (a := n) (b := 0) (by omega) (by omega)).mpr zz)
                                    omega
                                  obtain ⟨n0, hn1⟩ : ∃ n0, n = n0 + 1 := ⟨n - 1, by omega⟩
                                  refine x_aload_n F 6 dM_readsCode_258 rfl rfl ?_
                                  refine x_get (ci := 6) F 7 (x_in inM) rfl (by decide) (x_m kfM_20) dM_readsCode_259 (x_up_k (x_up_k h0 (by omega)) (by omega)) rfl ?_
                                  refine x_iload_n F 4 dM_readsCode_262 rfl rfl ?_
                                  refine x_lald F dM_readsCode_263 x_up_s (pk_in (120 + n) (160) (by omega)) ?_
                                  refine xW.tol (lN (cN tx (q + rM tx sn q) (rD tx sn (q + rM tx sn q)))) (by rw [nI_clamp (by omega)]; exact vp_us) ?_
                                  refine x_aload_n F 6 dM_readsCode_264 rfl rfl ?_
                                  refine x_get (ci := 6) F 7 (x_in inM) rfl (by decide) (x_m kfM_20) dM_readsCode_265 (x_up_k (x_up_k h0 (by omega)) (by omega)) rfl ?_
                                  refine x_iload_n F 4 dM_readsCode_268 rfl rfl ?_
                                  refine x_iconst F (v := nI (1)) dM_readsCode_269 (by decide) ?_
                                  refine x_isub F dM_readsCode_270 ?_
                                  refine xW.toi (nI (120 + n0)) (by rw [hn1]; exact nI_pred (120 + n0)) ?_
                                  refine x_lald F dM_readsCode_271 x_up_s (pk_in (120 + n0) (160) (by omega)) ?_
                                  refine xW.tol (lN (xs n0)) (by rw [nI_clamp (by omega)]; exact (updL_ne (by omega)).trans (hcd n0 (by omega)).1) ?_
                                  refine yS (n := 2) (As := [.long (lN (cN tx (q + rM tx sn q) (rD tx sn (q + rM tx sn q)))), .long (lN (xs n0))]) F kmM_126 ktM_isBehind knM kcM_isBehind (by decide +kernel) dM_readsCode_272 (cM_isBehind l (nx) (x_up (x_up M (a + 4) (.inl (.int, 160, .inl (upd (ds) (120 + n) (nI (rM tx sn q)))))) (a + 3) (.inl (.long, 160, .inr (.inl (vp_updL (cd) (120 + n) (lN (cN tx (q + rM tx sn q) (rD tx sn (q + rM tx sn q))))))))) (cN tx (q + rM tx sn q) (rD tx sn (q + rM tx sn q))) (rD tx sn (q + rM tx sn q)) (xs n0) (dg n0) hX10 (hcd n0 (by omega)).2) rfl rfl (Nat.le_of_ble_eq_true rfl) ⟨Nat.le_of_ble_eq_true rfl, Nat.le_of_ble_eq_true rfl⟩ ⟨Nat.le_of_ble_eq_true rfl, Nat.le_of_ble_eq_true rfl⟩ ?_
                                  refine x_if_ne F (tgt := 288) dM_readsCode_275 (by decide) (fun c170 => ?_) (fun c170 => ?_)
                                  · skip
                                    have c170 : (mbh (cN tx (q + rM tx sn q) (rD tx sn (q + rM tx sn q))) (rD tx sn (q + rM tx sn q)) (xs n0) (dg n0)) = true := bI_1 c170
                                    have hbeh : mBeh xs dg n (cN tx (q + rM tx sn q) (rD tx sn (q + rM tx sn q))) (rD tx sn (q + rM tx sn q)) = true := by rw [hn1]; exact c170
                                    refine x_iconst F (v := nI (1)) dM_readsCode_288 (by decide) ?_
                                    refine x_goto F (tgt := 293) dM_readsCode_289 (by decide) ?_
                                    exact x_zret F hr (by rfl) dM_readsCode_293 (by rw [show mrc tx sn ds xs dg n q = none from by rw [mrc, if_neg (fun z => by have z := z.2; rw [c115] at z; cases z), if_neg h70, if_neg c118, if_neg (by omega), if_neg c120, if_neg (by omega), if_neg c123, if_neg (by rw [hbad]; decide), if_neg (by rw [hbeh]; decide)]]; exact ⟨rfl, fun b hb => (x_up_n (by omega)).trans ((x_up_n (by omega)).trans (rfl)), rfl, ⟨(x_up_k (x_up_k h0 (by omega)) (by omega)), (x_up_k (x_up_k h1 (by omega)) (by omega)), (x_up_k (x_up_k h2 (by omega)) (by omega)), x_up_s, (x_up_k x_up_s (by omega)), (x_up_k (x_up_k h5 (by omega)) (by omega)), (x_up_k (x_up_k h6 (by omega)) (by omega)), (x_up_k (x_up_k h7 (by omega)) (by omega)), (x_up_k (x_up_k h8 (by omega)) (by omega)), (x_up_k (x_up_k h9 (by omega)) (by omega)), (x_up_k (x_up_k h10 (by omega)) (by omega)), (x_up_k (x_up_k h11 (by omega)) (by omega)), (x_up_k (x_up_k h12 (by omega)) (by omega)), (x_up_k (x_up_k h13 (by omega)) (by omega)), (x_up_k (x_up_k h14 (by omega)) (by omega)), (x_up_k (x_up_k h15 (by omega)) (by omega)), (x_up_k (x_up_k h16 (by omega)) (by omega)), (x_up_k (x_up_k h17 (by omega)) (by omega)), (x_up_k (x_up_k h18 (by omega)) (by omega)), by omega, by omega, by omega, by omega, by omega, by omega⟩⟩)
                                  · skip
                                    have c170 : (mbh (cN tx (q + rM tx sn q) (rD tx sn (q + rM tx sn q))) (rD tx sn (q + rM tx sn q)) (xs n0) (dg n0)) = false := bI_0 c170
                                    have hbeh : mBeh xs dg n (cN tx (q + rM tx sn q) (rD tx sn (q + rM tx sn q))) (rD tx sn (q + rM tx sn q)) = false := by rw [hn1]; exact c170
                                    refine x_aload_n F 6 dM_readsCode_278 rfl rfl ?_
                                    refine x_iconst F (v := nI (4)) dM_readsCode_279 (by decide) ?_
                                    refine x_iload F 2 dM_readsCode_280 rfl ?_
                                    refine yVr (n := 2) (As := [.int (nI (4)), .int (nI (q + rM tx sn q))]) (ci := 6) F kmM_115 kiM_fails ksM_fails knM kcM_fails (by decide +kernel) dM_readsCode_282 (cM_fails l (nx) (x_up (x_up M (a + 4) (.inl (.int, 160, .inl (upd (ds) (120 + n) (nI (rM tx sn q)))))) (a + 3) (.inl (.long, 160, .inr (.inl (vp_updL (cd) (120 + n) (lN (cN tx (q + rM tx sn q) (rD tx sn (q + rM tx sn q))))))))) (a) th sg sn pr fk fp rws (vp_updL (cd) (120 + n) (lN (cN tx (q + rM tx sn q) (rD tx sn (q + rM tx sn q))))) (upd (ds) (120 + n) (nI (rM tx sn q))) wc wd nn nE nC nK nO ln lF lC lT lO fn fC fP ak ac pt ⟨(x_up_k (x_up_k h0 (by omega)) (by omega)), (x_up_k (x_up_k h1 (by omega)) (by omega)), (x_up_k (x_up_k h2 (by omega)) (by omega)), x_up_s, (x_up_k x_up_s (by omega)), (x_up_k (x_up_k h5 (by omega)) (by omega)), (x_up_k (x_up_k h6 (by omega)) (by omega)), (x_up_k (x_up_k h7 (by omega)) (by omega)), (x_up_k (x_up_k h8 (by omega)) (by omega)), (x_up_k (x_up_k h9 (by omega)) (by omega)), (x_up_k (x_up_k h10 (by omega)) (by omega)), (x_up_k (x_up_k h11 (by omega)) (by omega)), (x_up_k (x_up_k h12 (by omega)) (by omega)), (x_up_k (x_up_k h13 (by omega)) (by omega)), (x_up_k (x_up_k h14 (by omega)) (by omega)), (x_up_k (x_up_k h15 (by omega)) (by omega)), (x_up_k (x_up_k h16 (by omega)) (by omega)), (x_up_k (x_up_k h17 (by omega)) (by omega)), (x_up_k (x_up_k h18 (by omega)) (by omega)), by omega, by omega, by omega, by omega, by omega, by omega⟩ (nI (4)) (nI (q + rM tx sn q))) rfl (x_up_k (x_up_k h0 (by omega)) (by omega)) rfl rfl (Nat.le_of_ble_eq_true rfl) ⟨Nat.le_of_ble_eq_true rfl, Nat.le_of_ble_eq_true rfl⟩ ⟨Nat.le_of_ble_eq_true rfl, Nat.le_of_ble_eq_true rfl⟩ (fun r' n' M586 hp => ?_)
                                    obtain ⟨hr', hn', hM586, hf586⟩ := hp
                                    rw [hn', hr']
                                    obtain ⟨v586_0, v586_1, v586_2, v586_3, v586_4, v586_5, v586_6, v586_7, v586_8, v586_9, v586_10, v586_11, v586_12, v586_13, v586_14, v586_15, v586_16, v586_17, v586_18, vb586_0, vb586_1, vb586_2, vb586_3, vb586_4, vb586_5⟩ := id hM586
                                    show xW p l e ({ frames := 4, cells := 0, slots := 0, locals := 96 } : Room) s m args below meth c D xcl (x_A M nx) 8 (MQ below (x_Q D xcl (x_A M nx) (mcPost nx M a th sg sn pr fk fp rws cd ds wc wd nn nE nC nK nO ln lF lC lT lO fn fC fP ak ac pt n (rM tx sn q) (cN tx (q + rM tx sn q) (rD tx sn (q + rM tx sn q))) (mrc tx sn ds xs dg n q))) args s 0 0 (x_A M nx)) 0 0 (nx) M586 285 [(7, .int (nI (120 + j))), (6, .int (nI (rD tx sn (q + rM tx sn q)))), (5, .int (nI (q + rM tx sn q))), (4, .int (nI (rM tx sn q))), (3, .int (nI (120 + n))), (2, .int (nI (n))), (0, .ref (a)), (1, .int (nI (q)))] [.int (nI (0))]
                                    refine x_if_eq F (tgt := 292) dM_readsCode_285 (by decide) (fun c171 => ?_) (fun c171 => ?_)
                                    · skip
                                      have c171 : 0 = 0 := by
                                        exact (nI_eq (a := 0) (b := 0) (by omega) (by omega)).mp c171
                                      refine x_iconst F (v := nI (0)) dM_readsCode_292 (by decide) ?_
                                      exact x_zret F hr (by rfl) dM_readsCode_293 (by rw [show mrc tx sn ds xs dg n q = some (4, q + rM tx sn q) from by rw [mrc, if_neg (fun z => by have z := z.2; rw [c115] at z; cases z), if_neg h70, if_neg c118, if_neg (by omega), if_neg c120, if_neg (by omega), if_neg c123, if_neg (by rw [hbad]; decide), if_pos hbeh]]; exact ⟨rfl, fun b hb => (hf586 _ (by omega)).trans ((x_up_n (by omega)).trans ((x_up_n (by omega)).trans (rfl))), rfl, _, _, (fun i hi => ⟨updL_ne (by omega), upd_ne (by omega)⟩), hM586⟩)
                                    · skip
                                      have c171 : 0 ≠ 0 := by
                                        have z : ¬ (0 = 0) := fun zz => c171 ((nI_eq (a := 0) (b := 0) (by omega) (by omega)).mpr zz)
                                        omega
                                      exact absurd c171 (by decide)
                              · skip
                                have c168 : (mbg (cN tx (q + rM tx sn q) (rD tx sn (q + rM tx sn q))) (rD tx sn (q + rM tx sn q)) (cN tx (q + rM tx sn q) (rD tx sn (q + rM tx sn q))) (rD tx sn (q + rM tx sn q))) = false := bI_0 c168
                                have hla := mUp_la (by omega) hup
                                have hbad : mBad ds xs dg n (rM tx sn q) (cN tx (q + rM tx sn q) (rD tx sn (q + rM tx sn q))) (rD tx sn (q + rM tx sn q)) = true := by rw [mBad, if_neg (by omega), hla]; show (! mbg (cN tx (q + rM tx sn q) (rD tx sn (q + rM tx sn q))) (rD tx sn (q + rM tx sn q)) (xs j) (dg j)) = true; rw [c168]; rfl
                                refine x_aload_n F 6 dM_readsCode_246 rfl rfl ?_
                                refine x_iconst F (v := nI (3)) dM_readsCode_247 (by decide) ?_
                                refine x_iload F 2 dM_readsCode_248 rfl ?_
                                refine yVr (n := 2) (As := [.int (nI (3)), .int (nI (q + rM tx sn q))]) (ci := 6) F kmM_115 kiM_fails ksM_fails knM kcM_fails (by decide +kernel) dM_readsCode_250 (cM_fails l (nx) (x_up (x_up M (a + 4) (.inl (.int, 160, .inl (upd (ds) (120 + n) (nI (rM tx sn q)))))) (a + 3) (.inl (.long, 160, .inr (.inl (vp_updL (cd) (120 + n) (lN (cN tx (q + rM tx sn q) (rD tx sn (q + rM tx sn q))))))))) (a) th sg sn pr fk fp rws (vp_updL (cd) (120 + n) (lN (cN tx (q + rM tx sn q) (rD tx sn (q + rM tx sn q))))) (upd (ds) (120 + n) (nI (rM tx sn q))) wc wd nn nE nC nK nO ln lF lC lT lO fn fC fP ak ac pt ⟨(x_up_k (x_up_k h0 (by omega)) (by omega)), (x_up_k (x_up_k h1 (by omega)) (by omega)), (x_up_k (x_up_k h2 (by omega)) (by omega)), x_up_s, (x_up_k x_up_s (by omega)), (x_up_k (x_up_k h5 (by omega)) (by omega)), (x_up_k (x_up_k h6 (by omega)) (by omega)), (x_up_k (x_up_k h7 (by omega)) (by omega)), (x_up_k (x_up_k h8 (by omega)) (by omega)), (x_up_k (x_up_k h9 (by omega)) (by omega)), (x_up_k (x_up_k h10 (by omega)) (by omega)), (x_up_k (x_up_k h11 (by omega)) (by omega)), (x_up_k (x_up_k h12 (by omega)) (by omega)), (x_up_k (x_up_k h13 (by omega)) (by omega)), (x_up_k (x_up_k h14 (by omega)) (by omega)), (x_up_k (x_up_k h15 (by omega)) (by omega)), (x_up_k (x_up_k h16 (by omega)) (by omega)), (x_up_k (x_up_k h17 (by omega)) (by omega)), (x_up_k (x_up_k h18 (by omega)) (by omega)), by omega, by omega, by omega, by omega, by omega, by omega⟩ (nI (3)) (nI (q + rM tx sn q))) rfl (x_up_k (x_up_k h0 (by omega)) (by omega)) rfl rfl (Nat.le_of_ble_eq_true rfl) ⟨Nat.le_of_ble_eq_true rfl, Nat.le_of_ble_eq_true rfl⟩ ⟨Nat.le_of_ble_eq_true rfl, Nat.le_of_ble_eq_true rfl⟩ (fun r' n' M587 hp => ?_)
                                obtain ⟨hr', hn', hM587, hf587⟩ := hp
                                rw [hn', hr']
                                obtain ⟨v587_0, v587_1, v587_2, v587_3, v587_4, v587_5, v587_6, v587_7, v587_8, v587_9, v587_10, v587_11, v587_12, v587_13, v587_14, v587_15, v587_16, v587_17, v587_18, vb587_0, vb587_1, vb587_2, vb587_3, vb587_4, vb587_5⟩ := id hM587
                                show xW p l e ({ frames := 4, cells := 0, slots := 0, locals := 96 } : Room) s m args below meth c D xcl (x_A M nx) 8 (MQ below (x_Q D xcl (x_A M nx) (mcPost nx M a th sg sn pr fk fp rws cd ds wc wd nn nE nC nK nO ln lF lC lT lO fn fC fP ak ac pt n (rM tx sn q) (cN tx (q + rM tx sn q) (rD tx sn (q + rM tx sn q))) (mrc tx sn ds xs dg n q))) args s 0 0 (x_A M nx)) 0 0 (nx) M587 253 [(7, .int (nI (120 + j))), (6, .int (nI (rD tx sn (q + rM tx sn q)))), (5, .int (nI (q + rM tx sn q))), (4, .int (nI (rM tx sn q))), (3, .int (nI (120 + n))), (2, .int (nI (n))), (0, .ref (a)), (1, .int (nI (q)))] [.int (nI (0))]
                                exact x_zret F hr (by rfl) dM_readsCode_253 (by rw [show mrc tx sn ds xs dg n q = some (3, q + rM tx sn q) from by rw [mrc, if_neg (fun z => by have z := z.2; rw [c115] at z; cases z), if_neg h70, if_neg c118, if_neg (by omega), if_neg c120, if_neg (by omega), if_neg c123, if_pos hbad]]; exact ⟨rfl, fun b hb => (hf587 _ (by omega)).trans ((x_up_n (by omega)).trans ((x_up_n (by omega)).trans (rfl))), rfl, _, _, (fun i hi => ⟨updL_ne (by omega), upd_ne (by omega)⟩), hM587⟩)
                  · skip
                    have c123 : (rD tx sn (q + rM tx sn q)) % 2 = 1 := by
                      exact (nI_eq (a := (rD tx sn (q + rM tx sn q)) % 2) (b := 1) (by omega) (by omega)).mp c123
                    refine x_aload_n F 5 dM_readsCode_145 rfl rfl ?_
                    refine x_iconst F (v := nI (1)) dM_readsCode_146 (by decide) ?_
                    refine x_iload F 0 dM_readsCode_147 rfl ?_
                    refine x_bipush F (v := nI (10)) dM_readsCode_149 (by decide) ?_
                    refine x_icmp_le F (tgt := 162) dM_readsCode_151 (by decide) (fun c172 => ?_) (fun c172 => ?_)
                    · skip
                      have c172 : rD tx sn (q + rM tx sn q) ≤ 10 := by
                        exact (nI_leI (a := rD tx sn (q + rM tx sn q)) (b := 10) (by omega) (by omega)).mp c172
                      refine x_iload F 1 dM_readsCode_162 rfl ?_
                      refine x_iload F 0 dM_readsCode_164 rfl ?_
                      refine x_iadd F dM_readsCode_166 ?_
                      refine xW.toi (nI (q + rM tx sn q + rD tx sn (q + rM tx sn q))) (nI_add _ _) ?_
                      refine yVr (n := 2) (As := [.int (nI (1)), .int (nI (q + rM tx sn q + rD tx sn (q + rM tx sn q)))]) (ci := 6) F kmM_115 kiM_fails ksM_fails knM kcM_fails (by decide +kernel) dM_readsCode_167 (cM_fails l (nx) M (a) th sg sn pr fk fp rws cd ds wc wd nn nE nC nK nO ln lF lC lT lO fn fC fP ak ac pt hT (nI (1)) (nI (q + rM tx sn q + rD tx sn (q + rM tx sn q)))) rfl h0 rfl rfl (Nat.le_of_ble_eq_true rfl) ⟨Nat.le_of_ble_eq_true rfl, Nat.le_of_ble_eq_true rfl⟩ ⟨Nat.le_of_ble_eq_true rfl, Nat.le_of_ble_eq_true rfl⟩ (fun r' n' M588 hp => ?_)
                      obtain ⟨hr', hn', hM588, hf588⟩ := hp
                      rw [hn', hr']
                      obtain ⟨v588_0, v588_1, v588_2, v588_3, v588_4, v588_5, v588_6, v588_7, v588_8, v588_9, v588_10, v588_11, v588_12, v588_13, v588_14, v588_15, v588_16, v588_17, v588_18, vb588_0, vb588_1, vb588_2, vb588_3, vb588_4, vb588_5⟩ := id hM588
                      show xW p l e ({ frames := 4, cells := 0, slots := 0, locals := 96 } : Room) s m args below meth c D xcl (x_A M nx) 8 (MQ below (x_Q D xcl (x_A M nx) (mcPost nx M a th sg sn pr fk fp rws cd ds wc wd nn nE nC nK nO ln lF lC lT lO fn fC fP ak ac pt n (rM tx sn q) (cN tx (q + rM tx sn q) (rD tx sn (q + rM tx sn q))) (mrc tx sn ds xs dg n q))) args s 0 0 (x_A M nx)) 0 0 (nx) M588 170 [(6, .int (nI (rD tx sn (q + rM tx sn q)))), (5, .int (nI (q + rM tx sn q))), (4, .int (nI (rM tx sn q))), (3, .int (nI (120 + n))), (2, .int (nI (n))), (0, .ref (a)), (1, .int (nI (q)))] [.int (nI (0))]
                      exact x_zret F hr (by rfl) dM_readsCode_170 (by rw [show mrc tx sn ds xs dg n q = some (1, q + rM tx sn q + rD tx sn (q + rM tx sn q)) from by rw [mrc, if_neg (fun z => by have z := z.2; rw [c115] at z; cases z), if_neg h70, if_neg c118, if_neg (by omega), if_neg c120, if_neg (by omega), if_pos c123]]; exact ⟨rfl, fun b hb => (hf588 _ (by omega)).trans (rfl), rfl, _, _, (fun i hi => ⟨rfl, rfl⟩), hM588⟩)
                    · skip
                      have c172 : 10 < rD tx sn (q + rM tx sn q) := by
                        have z : ¬ (rD tx sn (q + rM tx sn q) ≤ 10) := fun zz => c172 ((nI_leI (a := rD tx sn (q + rM tx sn q)) (b := 10) (by omega) (by omega)).mpr zz)
                        omega
                      refine x_iload F 1 dM_readsCode_154 rfl ?_
                      refine x_bipush F (v := nI (10)) dM_readsCode_156 (by decide) ?_
                      refine x_iadd F dM_readsCode_158 ?_
                      refine xW.toi (nI (q + rM tx sn q + 10)) (nI_add _ _) ?_
                      refine x_goto F (tgt := 167) dM_readsCode_159 (by decide) ?_
                      refine yVr (n := 2) (As := [.int (nI (1)), .int (nI (q + rM tx sn q + 10))]) (ci := 6) F kmM_115 kiM_fails ksM_fails knM kcM_fails (by decide +kernel) dM_readsCode_167 (cM_fails l (nx) M (a) th sg sn pr fk fp rws cd ds wc wd nn nE nC nK nO ln lF lC lT lO fn fC fP ak ac pt hT (nI (1)) (nI (q + rM tx sn q + 10))) rfl h0 rfl rfl (Nat.le_of_ble_eq_true rfl) ⟨Nat.le_of_ble_eq_true rfl, Nat.le_of_ble_eq_true rfl⟩ ⟨Nat.le_of_ble_eq_true rfl, Nat.le_of_ble_eq_true rfl⟩ (fun r' n' M589 hp => ?_)
                      obtain ⟨hr', hn', hM589, hf589⟩ := hp
                      rw [hn', hr']
                      obtain ⟨v589_0, v589_1, v589_2, v589_3, v589_4, v589_5, v589_6, v589_7, v589_8, v589_9, v589_10, v589_11, v589_12, v589_13, v589_14, v589_15, v589_16, v589_17, v589_18, vb589_0, vb589_1, vb589_2, vb589_3, vb589_4, vb589_5⟩ := id hM589
                      show xW p l e ({ frames := 4, cells := 0, slots := 0, locals := 96 } : Room) s m args below meth c D xcl (x_A M nx) 8 (MQ below (x_Q D xcl (x_A M nx) (mcPost nx M a th sg sn pr fk fp rws cd ds wc wd nn nE nC nK nO ln lF lC lT lO fn fC fP ak ac pt n (rM tx sn q) (cN tx (q + rM tx sn q) (rD tx sn (q + rM tx sn q))) (mrc tx sn ds xs dg n q))) args s 0 0 (x_A M nx)) 0 0 (nx) M589 170 [(6, .int (nI (rD tx sn (q + rM tx sn q)))), (5, .int (nI (q + rM tx sn q))), (4, .int (nI (rM tx sn q))), (3, .int (nI (120 + n))), (2, .int (nI (n))), (0, .ref (a)), (1, .int (nI (q)))] [.int (nI (0))]
                      exact x_zret F hr (by rfl) dM_readsCode_170 (by rw [show mrc tx sn ds xs dg n q = some (1, q + rM tx sn q + rD tx sn (q + rM tx sn q)) from by rw [mrc, if_neg (fun z => by have z := z.2; rw [c115] at z; cases z), if_neg h70, if_neg c118, if_neg (by omega), if_neg c120, if_neg (by omega), if_pos c123]]; exact ⟨rfl, fun b hb => (hf589 _ (by omega)).trans (rfl), rfl, _, _, (fun i hi => ⟨rfl, rfl⟩), hM589⟩)
              · skip
                have c120 : rD tx sn (q + rM tx sn q) = 0 := by
                  exact (nI_eq (a := rD tx sn (q + rM tx sn q)) (b := 0) (by omega) (by omega)).mp c120
                refine x_aload_n F 5 dM_readsCode_122 rfl rfl ?_
                refine x_iconst F (v := nI (1)) dM_readsCode_123 (by decide) ?_
                refine x_iload F 1 dM_readsCode_124 rfl ?_
                refine yVr (n := 2) (As := [.int (nI (1)), .int (nI (q + rM tx sn q))]) (ci := 6) F kmM_115 kiM_fails ksM_fails knM kcM_fails (by decide +kernel) dM_readsCode_126 (cM_fails l (nx) M (a) th sg sn pr fk fp rws cd ds wc wd nn nE nC nK nO ln lF lC lT lO fn fC fP ak ac pt hT (nI (1)) (nI (q + rM tx sn q))) rfl h0 rfl rfl (Nat.le_of_ble_eq_true rfl) ⟨Nat.le_of_ble_eq_true rfl, Nat.le_of_ble_eq_true rfl⟩ ⟨Nat.le_of_ble_eq_true rfl, Nat.le_of_ble_eq_true rfl⟩ (fun r' n' M590 hp => ?_)
                obtain ⟨hr', hn', hM590, hf590⟩ := hp
                rw [hn', hr']
                obtain ⟨v590_0, v590_1, v590_2, v590_3, v590_4, v590_5, v590_6, v590_7, v590_8, v590_9, v590_10, v590_11, v590_12, v590_13, v590_14, v590_15, v590_16, v590_17, v590_18, vb590_0, vb590_1, vb590_2, vb590_3, vb590_4, vb590_5⟩ := id hM590
                show xW p l e ({ frames := 4, cells := 0, slots := 0, locals := 96 } : Room) s m args below meth c D xcl (x_A M nx) 8 (MQ below (x_Q D xcl (x_A M nx) (mcPost nx M a th sg sn pr fk fp rws cd ds wc wd nn nE nC nK nO ln lF lC lT lO fn fC fP ak ac pt n (rM tx sn q) (cN tx (q + rM tx sn q) (rD tx sn (q + rM tx sn q))) (mrc tx sn ds xs dg n q))) args s 0 0 (x_A M nx)) 0 0 (nx) M590 129 [(6, .int (nI (rD tx sn (q + rM tx sn q)))), (5, .int (nI (q + rM tx sn q))), (4, .int (nI (rM tx sn q))), (3, .int (nI (120 + n))), (2, .int (nI (n))), (0, .ref (a)), (1, .int (nI (q)))] [.int (nI (0))]
                exact x_zret F hr (by rfl) dM_readsCode_129 (by rw [show mrc tx sn ds xs dg n q = some (1, q + rM tx sn q) from by rw [mrc, if_neg (fun z => by have z := z.2; rw [c115] at z; cases z), if_neg h70, if_neg c118, if_neg (by omega), if_pos c120]]; exact ⟨rfl, fun b hb => (hf590 _ (by omega)).trans (rfl), rfl, _, _, (fun i hi => ⟨rfl, rfl⟩), hM590⟩)
            · skip
              have c119 : 4 < rM tx sn q := by
                have z : ¬ (rM tx sn q ≤ 4) := fun zz => c119 ((nI_leI (a := rM tx sn q) (b := 4) (by omega) (by omega)).mpr zz)
                omega
              refine x_aload_n F 4 dM_readsCode_99 rfl rfl ?_
              refine x_iconst F (v := nI (1)) dM_readsCode_100 (by decide) ?_
              refine x_iload_n F 5 dM_readsCode_101 rfl rfl ?_
              refine x_iconst F (v := nI (4)) dM_readsCode_102 (by decide) ?_
              refine x_iadd F dM_readsCode_103 ?_
              refine xW.toi (nI (q + 4)) (nI_add _ _) ?_
              refine yVr (n := 2) (As := [.int (nI (1)), .int (nI (q + 4))]) (ci := 6) F kmM_115 kiM_fails ksM_fails knM kcM_fails (by decide +kernel) dM_readsCode_104 (cM_fails l (nx) M (a) th sg sn pr fk fp rws cd ds wc wd nn nE nC nK nO ln lF lC lT lO fn fC fP ak ac pt hT (nI (1)) (nI (q + 4))) rfl h0 rfl rfl (Nat.le_of_ble_eq_true rfl) ⟨Nat.le_of_ble_eq_true rfl, Nat.le_of_ble_eq_true rfl⟩ ⟨Nat.le_of_ble_eq_true rfl, Nat.le_of_ble_eq_true rfl⟩ (fun r' n' M591 hp => ?_)
              obtain ⟨hr', hn', hM591, hf591⟩ := hp
              rw [hn', hr']
              obtain ⟨v591_0, v591_1, v591_2, v591_3, v591_4, v591_5, v591_6, v591_7, v591_8, v591_9, v591_10, v591_11, v591_12, v591_13, v591_14, v591_15, v591_16, v591_17, v591_18, vb591_0, vb591_1, vb591_2, vb591_3, vb591_4, vb591_5⟩ := id hM591
              show xW p l e ({ frames := 4, cells := 0, slots := 0, locals := 96 } : Room) s m args below meth c D xcl (x_A M nx) 8 (MQ below (x_Q D xcl (x_A M nx) (mcPost nx M a th sg sn pr fk fp rws cd ds wc wd nn nE nC nK nO ln lF lC lT lO fn fC fP ak ac pt n (rM tx sn q) (cN tx (q + rM tx sn q) (rD tx sn (q + rM tx sn q))) (mrc tx sn ds xs dg n q))) args s 0 0 (x_A M nx)) 0 0 (nx) M591 107 [(5, .int (nI (q + rM tx sn q))), (4, .int (nI (rM tx sn q))), (3, .int (nI (120 + n))), (2, .int (nI (n))), (0, .ref (a)), (1, .int (nI (q)))] [.int (nI (0))]
              exact x_zret F hr (by rfl) dM_readsCode_107 (by rw [show mrc tx sn ds xs dg n q = some (1, q + 4) from by rw [mrc, if_neg (fun z => by have z := z.2; rw [c115] at z; cases z), if_neg h70, if_neg c118, if_pos c119]]; exact ⟨rfl, fun b hb => (hf591 _ (by omega)).trans (rfl), rfl, _, _, (fun i hi => ⟨rfl, rfl⟩), hM591⟩)
          · skip
            have c118 : n = 40 := by
              exact (nI_eq (a := n) (b := 40) (by omega) (by omega)).mp c118
            refine x_aload_n F 4 dM_readsCode_86 rfl rfl ?_
            refine x_iconst F (v := nI (5)) dM_readsCode_87 (by decide) ?_
            refine x_iload_n F 5 dM_readsCode_88 rfl rfl ?_
            refine yVr (n := 2) (As := [.int (nI (5)), .int (nI (q))]) (ci := 6) F kmM_115 kiM_fails ksM_fails knM kcM_fails (by decide +kernel) dM_readsCode_89 (cM_fails l (nx) M (a) th sg sn pr fk fp rws cd ds wc wd nn nE nC nK nO ln lF lC lT lO fn fC fP ak ac pt hT (nI (5)) (nI (q))) rfl h0 rfl rfl (Nat.le_of_ble_eq_true rfl) ⟨Nat.le_of_ble_eq_true rfl, Nat.le_of_ble_eq_true rfl⟩ ⟨Nat.le_of_ble_eq_true rfl, Nat.le_of_ble_eq_true rfl⟩ (fun r' n' M592 hp => ?_)
            obtain ⟨hr', hn', hM592, hf592⟩ := hp
            rw [hn', hr']
            obtain ⟨v592_0, v592_1, v592_2, v592_3, v592_4, v592_5, v592_6, v592_7, v592_8, v592_9, v592_10, v592_11, v592_12, v592_13, v592_14, v592_15, v592_16, v592_17, v592_18, vb592_0, vb592_1, vb592_2, vb592_3, vb592_4, vb592_5⟩ := id hM592
            show xW p l e ({ frames := 4, cells := 0, slots := 0, locals := 96 } : Room) s m args below meth c D xcl (x_A M nx) 8 (MQ below (x_Q D xcl (x_A M nx) (mcPost nx M a th sg sn pr fk fp rws cd ds wc wd nn nE nC nK nO ln lF lC lT lO fn fC fP ak ac pt n (rM tx sn q) (cN tx (q + rM tx sn q) (rD tx sn (q + rM tx sn q))) (mrc tx sn ds xs dg n q))) args s 0 0 (x_A M nx)) 0 0 (nx) M592 92 [(5, .int (nI (q + rM tx sn q))), (4, .int (nI (rM tx sn q))), (3, .int (nI (120 + n))), (2, .int (nI (n))), (0, .ref (a)), (1, .int (nI (q)))] [.int (nI (0))]
            exact x_zret F hr (by rfl) dM_readsCode_92 (by rw [show mrc tx sn ds xs dg n q = some (5, q) from by rw [mrc, if_neg (fun z => by have z := z.2; rw [c115] at z; cases z), if_neg h70, if_pos c118]]; exact ⟨rfl, fun b hb => (hf592 _ (by omega)).trans (rfl), rfl, _, _, (fun i hi => ⟨rfl, rfl⟩), hM592⟩)
        · skip
          have h70 : mPre n ds < nI (rM tx sn q) := Int32.not_le.mp c117
          refine x_aload_n F 4 dM_readsCode_73 rfl rfl ?_
          refine x_iconst F (v := nI (2)) dM_readsCode_74 (by decide) ?_
          refine x_iload_n F 5 dM_readsCode_75 rfl rfl ?_
          refine yVr (n := 2) (As := [.int (nI (2)), .int (nI (q))]) (ci := 6) F kmM_115 kiM_fails ksM_fails knM kcM_fails (by decide +kernel) dM_readsCode_76 (cM_fails l (nx) M (a) th sg sn pr fk fp rws cd ds wc wd nn nE nC nK nO ln lF lC lT lO fn fC fP ak ac pt hT (nI (2)) (nI (q))) rfl h0 rfl rfl (Nat.le_of_ble_eq_true rfl) ⟨Nat.le_of_ble_eq_true rfl, Nat.le_of_ble_eq_true rfl⟩ ⟨Nat.le_of_ble_eq_true rfl, Nat.le_of_ble_eq_true rfl⟩ (fun r' n' M593 hp => ?_)
          obtain ⟨hr', hn', hM593, hf593⟩ := hp
          rw [hn', hr']
          obtain ⟨v593_0, v593_1, v593_2, v593_3, v593_4, v593_5, v593_6, v593_7, v593_8, v593_9, v593_10, v593_11, v593_12, v593_13, v593_14, v593_15, v593_16, v593_17, v593_18, vb593_0, vb593_1, vb593_2, vb593_3, vb593_4, vb593_5⟩ := id hM593
          show xW p l e ({ frames := 4, cells := 0, slots := 0, locals := 96 } : Room) s m args below meth c D xcl (x_A M nx) 8 (MQ below (x_Q D xcl (x_A M nx) (mcPost nx M a th sg sn pr fk fp rws cd ds wc wd nn nE nC nK nO ln lF lC lT lO fn fC fP ak ac pt n (rM tx sn q) (cN tx (q + rM tx sn q) (rD tx sn (q + rM tx sn q))) (mrc tx sn ds xs dg n q))) args s 0 0 (x_A M nx)) 0 0 (nx) M593 79 [(5, .int (nI (q + rM tx sn q))), (4, .int (nI (rM tx sn q))), (3, .int (nI (120 + n))), (2, .int (nI (n))), (0, .ref (a)), (1, .int (nI (q)))] [.int (nI (0))]
          exact x_zret F hr (by rfl) dM_readsCode_79 (by rw [show mrc tx sn ds xs dg n q = some (2, q) from by rw [mrc, if_neg (fun z => by have z := z.2; rw [c115] at z; cases z), if_pos h70]]; exact ⟨rfl, fun b hb => (hf593 _ (by omega)).trans (rfl), rfl, _, _, (fun i hi => ⟨rfl, rfl⟩), hM593⟩)
      · skip
        have c116 : n = 0 := by
          exact (nI_eq (a := n) (b := 0) (by omega) (by omega)).mp c116
        refine x_iconst F (v := nI (0)) dM_readsCode_56 (by decide) ?_
        refine x_goto F (tgt := 70) dM_readsCode_57 (by decide) ?_
        refine xW.toi (mPre n ds) (by rw [c116]; rfl) ?_
        refine x_icmp_le F (tgt := 80) dM_readsCode_70 (by decide) (fun c173 => ?_) (fun c173 => ?_)
        · skip
          have h70 : ¬ mPre n ds < nI (rM tx sn q) := Int32.not_lt.mpr c173
          refine x_iload_n F 3 dM_readsCode_80 rfl rfl ?_
          refine x_bipush F (v := nI (40)) dM_readsCode_81 (by decide) ?_
          refine x_icmp_ne F (tgt := 93) dM_readsCode_83 (by decide) (fun c174 => ?_) (fun c174 => ?_)
          · skip
            have c174 : n ≠ 40 := by
              have z : ¬ (n = 40) := fun zz => c174 ((nI_eq (a := n) (b := 40) (by omega) (by omega)).mpr zz)
              omega
            refine x_iload F 1 dM_readsCode_93 rfl ?_
            refine x_iconst F (v := nI (4)) dM_readsCode_95 (by decide) ?_
            refine x_icmp_le F (tgt := 108) dM_readsCode_96 (by decide) (fun c175 => ?_) (fun c175 => ?_)
            · skip
              have c175 : rM tx sn q ≤ 4 := by
                exact (nI_leI (a := rM tx sn q) (b := 4) (by omega) (by omega)).mp c175
              refine x_aload_n F 4 dM_readsCode_108 rfl rfl ?_
              refine x_iload F 0 dM_readsCode_109 rfl ?_
              refine x_iconst F (v := nI (1)) dM_readsCode_111 (by decide) ?_
              refine yV (n := 2) (As := [.int (nI (q + rM tx sn q)), .int (nI (1))]) (ci := 6) F kmM_111 kiM_run ksM_run knM kcM_run (by decide +kernel) dM_readsCode_112 (cM_run1 l (nx) M (a) th sg sn pr fk fp rws cd ds wc wd nn nE nC nK nO ln lF lC lT lO fn fC fP ak ac pt hT tx hX (q + rM tx sn q) (by omega)) rfl h0 rfl rfl (Nat.le_of_ble_eq_true rfl) ⟨Nat.le_of_ble_eq_true rfl, Nat.le_of_ble_eq_true rfl⟩ ⟨Nat.le_of_ble_eq_true rfl, Nat.le_of_ble_eq_true rfl⟩ ?_
              refine x_istore F [(6, .int (nI (rD tx sn (q + rM tx sn q)))), (5, .int (nI (q + rM tx sn q))), (4, .int (nI (rM tx sn q))), (3, .int (nI (120 + n))), (2, .int (nI (n))), (0, .ref (a)), (1, .int (nI (q)))] dM_readsCode_115 (by decide) rfl ?_
              have hrl : rD tx sn (q + rM tx sn q) ≤ sn - (q + rM tx sn q) := rn_le _ _ _ _
              refine x_iload F 0 dM_readsCode_117 rfl ?_
              refine x_if_ne F (tgt := 130) dM_readsCode_119 (by decide) (fun c176 => ?_) (fun c176 => ?_)
              · skip
                have c176 : rD tx sn (q + rM tx sn q) ≠ 0 := by
                  have z : ¬ (rD tx sn (q + rM tx sn q) = 0) := fun zz => c176 ((nI_eq (a := rD tx sn (q + rM tx sn q)) (b := 0) (by omega) (by omega)).mpr zz)
                  omega
                refine x_iload F 0 dM_readsCode_130 rfl ?_
                refine x_bipush F (v := nI (10)) dM_readsCode_132 (by decide) ?_
                refine x_icmp_gt F (tgt := 145) dM_readsCode_134 (by decide) (fun c177 => ?_) (fun c177 => ?_)
                · skip
                  have c177 : 10 < rD tx sn (q + rM tx sn q) := by
                    exact (nI_ltI (a := 10) (b := rD tx sn (q + rM tx sn q)) (by omega) (by omega)).mp c177
                  refine x_aload_n F 5 dM_readsCode_145 rfl rfl ?_
                  refine x_iconst F (v := nI (1)) dM_readsCode_146 (by decide) ?_
                  refine x_iload F 0 dM_readsCode_147 rfl ?_
                  refine x_bipush F (v := nI (10)) dM_readsCode_149 (by decide) ?_
                  refine x_icmp_le F (tgt := 162) dM_readsCode_151 (by decide) (fun c178 => ?_) (fun c178 => ?_)
                  · skip
                    have c178 : rD tx sn (q + rM tx sn q) ≤ 10 := by
                      exact (nI_leI (a := rD tx sn (q + rM tx sn q)) (b := 10) (by omega) (by omega)).mp c178
                    refine x_iload F 1 dM_readsCode_162 rfl ?_
                    refine x_iload F 0 dM_readsCode_164 rfl ?_
                    refine x_iadd F dM_readsCode_166 ?_
                    refine xW.toi (nI (q + rM tx sn q + rD tx sn (q + rM tx sn q))) (nI_add _ _) ?_
                    refine yVr (n := 2) (As := [.int (nI (1)), .int (nI (q + rM tx sn q + rD tx sn (q + rM tx sn q)))]) (ci := 6) F kmM_115 kiM_fails ksM_fails knM kcM_fails (by decide +kernel) dM_readsCode_167 (cM_fails l (nx) M (a) th sg sn pr fk fp rws cd ds wc wd nn nE nC nK nO ln lF lC lT lO fn fC fP ak ac pt hT (nI (1)) (nI (q + rM tx sn q + rD tx sn (q + rM tx sn q)))) rfl h0 rfl rfl (Nat.le_of_ble_eq_true rfl) ⟨Nat.le_of_ble_eq_true rfl, Nat.le_of_ble_eq_true rfl⟩ ⟨Nat.le_of_ble_eq_true rfl, Nat.le_of_ble_eq_true rfl⟩ (fun r' n' M594 hp => ?_)
                    obtain ⟨hr', hn', hM594, hf594⟩ := hp
                    rw [hn', hr']
                    obtain ⟨v594_0, v594_1, v594_2, v594_3, v594_4, v594_5, v594_6, v594_7, v594_8, v594_9, v594_10, v594_11, v594_12, v594_13, v594_14, v594_15, v594_16, v594_17, v594_18, vb594_0, vb594_1, vb594_2, vb594_3, vb594_4, vb594_5⟩ := id hM594
                    show xW p l e ({ frames := 4, cells := 0, slots := 0, locals := 96 } : Room) s m args below meth c D xcl (x_A M nx) 8 (MQ below (x_Q D xcl (x_A M nx) (mcPost nx M a th sg sn pr fk fp rws cd ds wc wd nn nE nC nK nO ln lF lC lT lO fn fC fP ak ac pt n (rM tx sn q) (cN tx (q + rM tx sn q) (rD tx sn (q + rM tx sn q))) (mrc tx sn ds xs dg n q))) args s 0 0 (x_A M nx)) 0 0 (nx) M594 170 [(6, .int (nI (rD tx sn (q + rM tx sn q)))), (5, .int (nI (q + rM tx sn q))), (4, .int (nI (rM tx sn q))), (3, .int (nI (120 + n))), (2, .int (nI (n))), (0, .ref (a)), (1, .int (nI (q)))] [.int (nI (0))]
                    exact x_zret F hr (by rfl) dM_readsCode_170 (by rw [show mrc tx sn ds xs dg n q = some (1, q + rM tx sn q + 10) from by rw [mrc, if_neg (fun z => by have z := z.2; rw [c115] at z; cases z), if_neg h70, if_neg c174, if_neg (by omega), if_neg c176, if_pos c177]]; exact ⟨rfl, fun b hb => (hf594 _ (by omega)).trans (rfl), rfl, _, _, (fun i hi => ⟨rfl, rfl⟩), hM594⟩)
                  · skip
                    have c178 : 10 < rD tx sn (q + rM tx sn q) := by
                      have z : ¬ (rD tx sn (q + rM tx sn q) ≤ 10) := fun zz => c178 ((nI_leI (a := rD tx sn (q + rM tx sn q)) (b := 10) (by omega) (by omega)).mpr zz)
                      omega
                    refine x_iload F 1 dM_readsCode_154 rfl ?_
                    refine x_bipush F (v := nI (10)) dM_readsCode_156 (by decide) ?_
                    refine x_iadd F dM_readsCode_158 ?_
                    refine xW.toi (nI (q + rM tx sn q + 10)) (nI_add _ _) ?_
                    refine x_goto F (tgt := 167) dM_readsCode_159 (by decide) ?_
                    refine yVr (n := 2) (As := [.int (nI (1)), .int (nI (q + rM tx sn q + 10))]) (ci := 6) F kmM_115 kiM_fails ksM_fails knM kcM_fails (by decide +kernel) dM_readsCode_167 (cM_fails l (nx) M (a) th sg sn pr fk fp rws cd ds wc wd nn nE nC nK nO ln lF lC lT lO fn fC fP ak ac pt hT (nI (1)) (nI (q + rM tx sn q + 10))) rfl h0 rfl rfl (Nat.le_of_ble_eq_true rfl) ⟨Nat.le_of_ble_eq_true rfl, Nat.le_of_ble_eq_true rfl⟩ ⟨Nat.le_of_ble_eq_true rfl, Nat.le_of_ble_eq_true rfl⟩ (fun r' n' M595 hp => ?_)
                    obtain ⟨hr', hn', hM595, hf595⟩ := hp
                    rw [hn', hr']
                    obtain ⟨v595_0, v595_1, v595_2, v595_3, v595_4, v595_5, v595_6, v595_7, v595_8, v595_9, v595_10, v595_11, v595_12, v595_13, v595_14, v595_15, v595_16, v595_17, v595_18, vb595_0, vb595_1, vb595_2, vb595_3, vb595_4, vb595_5⟩ := id hM595
                    show xW p l e ({ frames := 4, cells := 0, slots := 0, locals := 96 } : Room) s m args below meth c D xcl (x_A M nx) 8 (MQ below (x_Q D xcl (x_A M nx) (mcPost nx M a th sg sn pr fk fp rws cd ds wc wd nn nE nC nK nO ln lF lC lT lO fn fC fP ak ac pt n (rM tx sn q) (cN tx (q + rM tx sn q) (rD tx sn (q + rM tx sn q))) (mrc tx sn ds xs dg n q))) args s 0 0 (x_A M nx)) 0 0 (nx) M595 170 [(6, .int (nI (rD tx sn (q + rM tx sn q)))), (5, .int (nI (q + rM tx sn q))), (4, .int (nI (rM tx sn q))), (3, .int (nI (120 + n))), (2, .int (nI (n))), (0, .ref (a)), (1, .int (nI (q)))] [.int (nI (0))]
                    exact x_zret F hr (by rfl) dM_readsCode_170 (by rw [show mrc tx sn ds xs dg n q = some (1, q + rM tx sn q + 10) from by rw [mrc, if_neg (fun z => by have z := z.2; rw [c115] at z; cases z), if_neg h70, if_neg c174, if_neg (by omega), if_neg c176, if_pos c177]]; exact ⟨rfl, fun b hb => (hf595 _ (by omega)).trans (rfl), rfl, _, _, (fun i hi => ⟨rfl, rfl⟩), hM595⟩)
                · skip
                  have c177 : rD tx sn (q + rM tx sn q) ≤ 10 := by
                    have z : ¬ (10 < rD tx sn (q + rM tx sn q)) := fun zz => c177 ((nI_ltI (a := 10) (b := rD tx sn (q + rM tx sn q)) (by omega) (by omega)).mpr zz)
                    omega
                  refine x_iload F 0 dM_readsCode_137 rfl ?_
                  refine x_iconst F (v := nI (2)) dM_readsCode_139 (by decide) ?_
                  refine x_irem F dM_readsCode_140 (by decide) ?_
                  refine xW.toi (nI ((rD tx sn (q + rM tx sn q)) % 2)) (pk_rem (by omega) (by omega) (by omega)) ?_
                  refine x_iconst F (v := nI (1)) dM_readsCode_141 (by decide) ?_
                  refine x_icmp_ne F (tgt := 171) dM_readsCode_142 (by decide) (fun c179 => ?_) (fun c179 => ?_)
                  · skip
                    have c179 : (rD tx sn (q + rM tx sn q)) % 2 ≠ 1 := by
                      have z : ¬ ((rD tx sn (q + rM tx sn q)) % 2 = 1) := fun zz => c179 ((nI_eq (a := (rD tx sn (q + rM tx sn q)) % 2) (b := 1) (by omega) (by omega)).mpr zz)
                      omega
                    refine x_aload_n F 5 dM_readsCode_171 rfl rfl ?_
                    refine x_get (ci := 6) F 8 (x_in inM) rfl (by decide) (x_m kfM_24) dM_readsCode_172 h0 rfl ?_
                    refine x_iload_n F 3 dM_readsCode_175 rfl rfl ?_
                    refine x_iload F 2 dM_readsCode_176 rfl ?_
                    refine x_iast F dM_readsCode_178 h4 (pk_in (120 + n) (160) (by omega)) ?_
                    rw [nI_clamp (show 120 + n < 2 ^ 31 by omega)]
                    show xW p l e ({ frames := 4, cells := 0, slots := 0, locals := 96 } : Room) s m args below meth c D xcl (x_A M nx) 8 (MQ below (x_Q D xcl (x_A M nx) (mcPost nx M a th sg sn pr fk fp rws cd ds wc wd nn nE nC nK nO ln lF lC lT lO fn fC fP ak ac pt n (rM tx sn q) (cN tx (q + rM tx sn q) (rD tx sn (q + rM tx sn q))) (mrc tx sn ds xs dg n q))) args s 0 0 (x_A M nx)) 0 0 (nx) (x_up M (a + 4) (.inl (.int, 160, .inl (upd (ds) (120 + n) (nI (rM tx sn q)))))) 179 [(6, .int (nI (rD tx sn (q + rM tx sn q)))), (5, .int (nI (q + rM tx sn q))), (4, .int (nI (rM tx sn q))), (3, .int (nI (120 + n))), (2, .int (nI (n))), (0, .ref (a)), (1, .int (nI (q)))] []
                    refine x_aload_n F 5 dM_readsCode_179 rfl rfl ?_
                    refine x_get (ci := 6) F 7 (x_in inM) rfl (by decide) (x_m kfM_20) dM_readsCode_180 (x_up_k h0 (by omega)) rfl ?_
                    refine x_iload_n F 3 dM_readsCode_183 rfl rfl ?_
                    refine x_aload_n F 5 dM_readsCode_184 rfl rfl ?_
                    refine x_iload F 1 dM_readsCode_185 rfl ?_
                    refine x_iload F 0 dM_readsCode_187 rfl ?_
                    refine yV (n := 2) (As := [.int (nI (q + rM tx sn q)), .int (nI (rD tx sn (q + rM tx sn q)))]) (ci := 6) F kmM_119 kiM_codeAt ksM_codeAt knM kcM_codeAt (by decide +kernel) dM_readsCode_189 (cM_codeAt l (nx) (x_up M (a + 4) (.inl (.int, 160, .inl (upd (ds) (120 + n) (nI (rM tx sn q)))))) (a) th sg sn pr fk fp rws cd (upd (ds) (120 + n) (nI (rM tx sn q))) wc wd nn nE nC nK nO ln lF lC lT lO fn fC fP ak ac pt ⟨(x_up_k h0 (by omega)), (x_up_k h1 (by omega)), (x_up_k h2 (by omega)), (x_up_k h3 (by omega)), x_up_s, (x_up_k h5 (by omega)), (x_up_k h6 (by omega)), (x_up_k h7 (by omega)), (x_up_k h8 (by omega)), (x_up_k h9 (by omega)), (x_up_k h10 (by omega)), (x_up_k h11 (by omega)), (x_up_k h12 (by omega)), (x_up_k h13 (by omega)), (x_up_k h14 (by omega)), (x_up_k h15 (by omega)), (x_up_k h16 (by omega)), (x_up_k h17 (by omega)), (x_up_k h18 (by omega)), by omega, by omega, by omega, by omega, by omega, by omega⟩ tx hX (q + rM tx sn q) (rD tx sn (q + rM tx sn q)) (by omega) (fun i hi => rn_all hi)) rfl (x_up_k h0 (by omega)) rfl rfl (Nat.le_of_ble_eq_true rfl) ⟨Nat.le_of_ble_eq_true rfl, Nat.le_of_ble_eq_true rfl⟩ ⟨Nat.le_of_ble_eq_true rfl, Nat.le_of_ble_eq_true rfl⟩ ?_
                    refine x_last F dM_readsCode_192 (x_up_k h3 (by omega)) (pk_in (120 + n) (160) (by omega)) ?_
                    rw [nI_clamp (show 120 + n < 2 ^ 31 by omega)]
                    show xW p l e ({ frames := 4, cells := 0, slots := 0, locals := 96 } : Room) s m args below meth c D xcl (x_A M nx) 8 (MQ below (x_Q D xcl (x_A M nx) (mcPost nx M a th sg sn pr fk fp rws cd ds wc wd nn nE nC nK nO ln lF lC lT lO fn fC fP ak ac pt n (rM tx sn q) (cN tx (q + rM tx sn q) (rD tx sn (q + rM tx sn q))) (mrc tx sn ds xs dg n q))) args s 0 0 (x_A M nx)) 0 0 (nx) (x_up (x_up M (a + 4) (.inl (.int, 160, .inl (upd (ds) (120 + n) (nI (rM tx sn q)))))) (a + 3) (.inl (.long, 160, .inr (.inl (vp_updL (cd) (120 + n) (lN (cN tx (q + rM tx sn q) (rD tx sn (q + rM tx sn q))))))))) 193 [(6, .int (nI (rD tx sn (q + rM tx sn q)))), (5, .int (nI (q + rM tx sn q))), (4, .int (nI (rM tx sn q))), (3, .int (nI (120 + n))), (2, .int (nI (n))), (0, .ref (a)), (1, .int (nI (q)))] []
                    have hX10 : cdg (cN tx (q + rM tx sn q) (rD tx sn (q + rM tx sn q))) (rD tx sn (q + rM tx sn q)) := cN_dg (by omega) (fun i hi => rn_all hi)
                    refine x_aload_n F 5 dM_readsCode_193 rfl rfl ?_
                    refine x_bipush F (v := nI (120)) dM_readsCode_194 (by decide) ?_
                    refine x_iload_n F 3 dM_readsCode_196 rfl rfl ?_
                    refine yV (n := 2) (As := [.int (nI (120)), .int (nI (120 + n))]) (ci := 6) F kmM_123 kiM_above ksM_above knM kcM_above (by decide +kernel) dM_readsCode_197 (cM_above l (nx) (x_up (x_up M (a + 4) (.inl (.int, 160, .inl (upd (ds) (120 + n) (nI (rM tx sn q)))))) (a + 3) (.inl (.long, 160, .inr (.inl (vp_updL (cd) (120 + n) (lN (cN tx (q + rM tx sn q) (rD tx sn (q + rM tx sn q))))))))) (a) th sg sn pr fk fp rws (vp_updL (cd) (120 + n) (lN (cN tx (q + rM tx sn q) (rD tx sn (q + rM tx sn q))))) (upd (ds) (120 + n) (nI (rM tx sn q))) wc wd nn nE nC nK nO ln lF lC lT lO fn fC fP ak ac pt ⟨(x_up_k (x_up_k h0 (by omega)) (by omega)), (x_up_k (x_up_k h1 (by omega)) (by omega)), (x_up_k (x_up_k h2 (by omega)) (by omega)), x_up_s, (x_up_k x_up_s (by omega)), (x_up_k (x_up_k h5 (by omega)) (by omega)), (x_up_k (x_up_k h6 (by omega)) (by omega)), (x_up_k (x_up_k h7 (by omega)) (by omega)), (x_up_k (x_up_k h8 (by omega)) (by omega)), (x_up_k (x_up_k h9 (by omega)) (by omega)), (x_up_k (x_up_k h10 (by omega)) (by omega)), (x_up_k (x_up_k h11 (by omega)) (by omega)), (x_up_k (x_up_k h12 (by omega)) (by omega)), (x_up_k (x_up_k h13 (by omega)) (by omega)), (x_up_k (x_up_k h14 (by omega)) (by omega)), (x_up_k (x_up_k h15 (by omega)) (by omega)), (x_up_k (x_up_k h16 (by omega)) (by omega)), (x_up_k (x_up_k h17 (by omega)) (by omega)), (x_up_k (x_up_k h18 (by omega)) (by omega)), by omega, by omega, by omega, by omega, by omega, by omega⟩ 120 n (by omega)) rfl (x_up_k (x_up_k h0 (by omega)) (by omega)) rfl rfl (Nat.le_of_ble_eq_true rfl) ⟨Nat.le_of_ble_eq_true rfl, Nat.le_of_ble_eq_true rfl⟩ ⟨Nat.le_of_ble_eq_true rfl, Nat.le_of_ble_eq_true rfl⟩ ?_
                    rcases o_cases (mUp (upd ds (120 + n) (nI (rM tx sn q))) 120 n) with hup | ⟨j, hup⟩
                    · skip
                      refine xW.ste (st' := [.int ((-1))]) (by show ([.int (oj 120 (mUp (upd ds (120 + n) (nI (rM tx sn q))) 120 n))] : List Value) = _; rw [hup]; rfl) ?_
                      refine x_istore F [(7, .int ((-1))), (6, .int (nI (rD tx sn (q + rM tx sn q)))), (5, .int (nI (q + rM tx sn q))), (4, .int (nI (rM tx sn q))), (3, .int (nI (120 + n))), (2, .int (nI (n))), (0, .ref (a)), (1, .int (nI (q)))] dM_readsCode_200 (by decide) rfl ?_
                      refine x_iload F 3 dM_readsCode_202 rfl ?_
                      refine x_if_ne F (tgt := 213) dM_readsCode_204 (by decide) (fun c180 => ?_) (fun c180 => ?_)
                      · skip
                        have c180 : rM tx sn q ≠ 0 := by
                          have z : ¬ (rM tx sn q = 0) := fun zz => c180 ((nI_eq (a := rM tx sn q) (b := 0) (by omega) (by omega)).mpr zz)
                          omega
                        refine x_iload F 3 dM_readsCode_213 rfl ?_
                        refine x_if_le F (tgt := 254) dM_readsCode_215 (by decide) (fun c181 => ?_) (fun c181 => ?_)
                        · skip
                          have c181 : rM tx sn q ≤ 0 := by
                            exact (nI_leI (a := rM tx sn q) (b := 0) (by omega) (by omega)).mp c181
                          have hbad : mBad ds xs dg n (rM tx sn q) (cN tx (q + rM tx sn q) (rD tx sn (q + rM tx sn q))) (rD tx sn (q + rM tx sn q)) = false := by rw [mBad, if_pos (by omega), decide_eq_true (by omega)]; rfl
                          refine x_iload_n F 5 dM_readsCode_254 rfl rfl ?_
                          refine x_if_eq F (tgt := 288) dM_readsCode_255 (by decide) (fun c182 => ?_) (fun c182 => ?_)
                          · skip
                            have c182 : n = 0 := by
                              exact (nI_eq (a := n) (b := 0) (by omega) (by omega)).mp c182
                            have hbeh : mBeh xs dg n (cN tx (q + rM tx sn q) (rD tx sn (q + rM tx sn q))) (rD tx sn (q + rM tx sn q)) = true := by rw [c182]; rfl
                            refine x_iconst F (v := nI (1)) dM_readsCode_288 (by decide) ?_
                            refine x_goto F (tgt := 293) dM_readsCode_289 (by decide) ?_
                            exact x_zret F hr (by rfl) dM_readsCode_293 (by rw [show mrc tx sn ds xs dg n q = none from by rw [mrc, if_neg (fun z => by have z := z.2; rw [c115] at z; cases z), if_neg h70, if_neg c174, if_neg (by omega), if_neg c176, if_neg (by omega), if_neg c179, if_neg (by rw [hbad]; decide), if_neg (by rw [hbeh]; decide)]]; exact ⟨rfl, fun b hb => (x_up_n (by omega)).trans ((x_up_n (by omega)).trans (rfl)), rfl, ⟨(x_up_k (x_up_k h0 (by omega)) (by omega)), (x_up_k (x_up_k h1 (by omega)) (by omega)), (x_up_k (x_up_k h2 (by omega)) (by omega)), x_up_s, (x_up_k x_up_s (by omega)), (x_up_k (x_up_k h5 (by omega)) (by omega)), (x_up_k (x_up_k h6 (by omega)) (by omega)), (x_up_k (x_up_k h7 (by omega)) (by omega)), (x_up_k (x_up_k h8 (by omega)) (by omega)), (x_up_k (x_up_k h9 (by omega)) (by omega)), (x_up_k (x_up_k h10 (by omega)) (by omega)), (x_up_k (x_up_k h11 (by omega)) (by omega)), (x_up_k (x_up_k h12 (by omega)) (by omega)), (x_up_k (x_up_k h13 (by omega)) (by omega)), (x_up_k (x_up_k h14 (by omega)) (by omega)), (x_up_k (x_up_k h15 (by omega)) (by omega)), (x_up_k (x_up_k h16 (by omega)) (by omega)), (x_up_k (x_up_k h17 (by omega)) (by omega)), (x_up_k (x_up_k h18 (by omega)) (by omega)), by omega, by omega, by omega, by omega, by omega, by omega⟩⟩)
                          · skip
                            have c182 : n ≠ 0 := by
                              have z : ¬ (n = 0) := fun zz => c182 ((nI_eq (a := n) (b := 0) (by omega) (by omega)).mpr zz)
                              omega
                            obtain ⟨n0, hn1⟩ : ∃ n0, n = n0 + 1 := ⟨n - 1, by omega⟩
                            refine x_aload_n F 6 dM_readsCode_258 rfl rfl ?_
                            refine x_get (ci := 6) F 7 (x_in inM) rfl (by decide) (x_m kfM_20) dM_readsCode_259 (x_up_k (x_up_k h0 (by omega)) (by omega)) rfl ?_
                            refine x_iload_n F 4 dM_readsCode_262 rfl rfl ?_
                            refine x_lald F dM_readsCode_263 x_up_s (pk_in (120 + n) (160) (by omega)) ?_
                            refine xW.tol (lN (cN tx (q + rM tx sn q) (rD tx sn (q + rM tx sn q)))) (by rw [nI_clamp (by omega)]; exact vp_us) ?_
                            refine x_aload_n F 6 dM_readsCode_264 rfl rfl ?_
                            refine x_get (ci := 6) F 7 (x_in inM) rfl (by decide) (x_m kfM_20) dM_readsCode_265 (x_up_k (x_up_k h0 (by omega)) (by omega)) rfl ?_
                            refine x_iload_n F 4 dM_readsCode_268 rfl rfl ?_
                            refine x_iconst F (v := nI (1)) dM_readsCode_269 (by decide) ?_
                            refine x_isub F dM_readsCode_270 ?_
                            refine xW.toi (nI (120 + n0)) (by rw [hn1]; exact nI_pred (120 + n0)) ?_
                            refine x_lald F dM_readsCode_271 x_up_s (pk_in (120 + n0) (160) (by omega)) ?_
                            refine xW.tol (lN (xs n0)) (by rw [nI_clamp (by omega)]; exact (updL_ne (by omega)).trans (hcd n0 (by omega)).1) ?_
                            refine yS (n := 2) (As := [.long (lN (cN tx (q + rM tx sn q) (rD tx sn (q + rM tx sn q)))), .long (lN (xs n0))]) F kmM_126 ktM_isBehind knM kcM_isBehind (by decide +kernel) dM_readsCode_272 (cM_isBehind l (nx) (x_up (x_up M (a + 4) (.inl (.int, 160, .inl (upd (ds) (120 + n) (nI (rM tx sn q)))))) (a + 3) (.inl (.long, 160, .inr (.inl (vp_updL (cd) (120 + n) (lN (cN tx (q + rM tx sn q) (rD tx sn (q + rM tx sn q))))))))) (cN tx (q + rM tx sn q) (rD tx sn (q + rM tx sn q))) (rD tx sn (q + rM tx sn q)) (xs n0) (dg n0) hX10 (hcd n0 (by omega)).2) rfl rfl (Nat.le_of_ble_eq_true rfl) ⟨Nat.le_of_ble_eq_true rfl, Nat.le_of_ble_eq_true rfl⟩ ⟨Nat.le_of_ble_eq_true rfl, Nat.le_of_ble_eq_true rfl⟩ ?_
                            refine x_if_ne F (tgt := 288) dM_readsCode_275 (by decide) (fun c183 => ?_) (fun c183 => ?_)
                            · skip
                              have c183 : (mbh (cN tx (q + rM tx sn q) (rD tx sn (q + rM tx sn q))) (rD tx sn (q + rM tx sn q)) (xs n0) (dg n0)) = true := bI_1 c183
                              have hbeh : mBeh xs dg n (cN tx (q + rM tx sn q) (rD tx sn (q + rM tx sn q))) (rD tx sn (q + rM tx sn q)) = true := by rw [hn1]; exact c183
                              refine x_iconst F (v := nI (1)) dM_readsCode_288 (by decide) ?_
                              refine x_goto F (tgt := 293) dM_readsCode_289 (by decide) ?_
                              exact x_zret F hr (by rfl) dM_readsCode_293 (by rw [show mrc tx sn ds xs dg n q = none from by rw [mrc, if_neg (fun z => by have z := z.2; rw [c115] at z; cases z), if_neg h70, if_neg c174, if_neg (by omega), if_neg c176, if_neg (by omega), if_neg c179, if_neg (by rw [hbad]; decide), if_neg (by rw [hbeh]; decide)]]; exact ⟨rfl, fun b hb => (x_up_n (by omega)).trans ((x_up_n (by omega)).trans (rfl)), rfl, ⟨(x_up_k (x_up_k h0 (by omega)) (by omega)), (x_up_k (x_up_k h1 (by omega)) (by omega)), (x_up_k (x_up_k h2 (by omega)) (by omega)), x_up_s, (x_up_k x_up_s (by omega)), (x_up_k (x_up_k h5 (by omega)) (by omega)), (x_up_k (x_up_k h6 (by omega)) (by omega)), (x_up_k (x_up_k h7 (by omega)) (by omega)), (x_up_k (x_up_k h8 (by omega)) (by omega)), (x_up_k (x_up_k h9 (by omega)) (by omega)), (x_up_k (x_up_k h10 (by omega)) (by omega)), (x_up_k (x_up_k h11 (by omega)) (by omega)), (x_up_k (x_up_k h12 (by omega)) (by omega)), (x_up_k (x_up_k h13 (by omega)) (by omega)), (x_up_k (x_up_k h14 (by omega)) (by omega)), (x_up_k (x_up_k h15 (by omega)) (by omega)), (x_up_k (x_up_k h16 (by omega)) (by omega)), (x_up_k (x_up_k h17 (by omega)) (by omega)), (x_up_k (x_up_k h18 (by omega)) (by omega)), by omega, by omega, by omega, by omega, by omega, by omega⟩⟩)
                            · skip
                              have c183 : (mbh (cN tx (q + rM tx sn q) (rD tx sn (q + rM tx sn q))) (rD tx sn (q + rM tx sn q)) (xs n0) (dg n0)) = false := bI_0 c183
                              have hbeh : mBeh xs dg n (cN tx (q + rM tx sn q) (rD tx sn (q + rM tx sn q))) (rD tx sn (q + rM tx sn q)) = false := by rw [hn1]; exact c183
                              refine x_aload_n F 6 dM_readsCode_278 rfl rfl ?_
                              refine x_iconst F (v := nI (4)) dM_readsCode_279 (by decide) ?_
                              refine x_iload F 2 dM_readsCode_280 rfl ?_
                              refine yVr (n := 2) (As := [.int (nI (4)), .int (nI (q + rM tx sn q))]) (ci := 6) F kmM_115 kiM_fails ksM_fails knM kcM_fails (by decide +kernel) dM_readsCode_282 (cM_fails l (nx) (x_up (x_up M (a + 4) (.inl (.int, 160, .inl (upd (ds) (120 + n) (nI (rM tx sn q)))))) (a + 3) (.inl (.long, 160, .inr (.inl (vp_updL (cd) (120 + n) (lN (cN tx (q + rM tx sn q) (rD tx sn (q + rM tx sn q))))))))) (a) th sg sn pr fk fp rws (vp_updL (cd) (120 + n) (lN (cN tx (q + rM tx sn q) (rD tx sn (q + rM tx sn q))))) (upd (ds) (120 + n) (nI (rM tx sn q))) wc wd nn nE nC nK nO ln lF lC lT lO fn fC fP ak ac pt ⟨(x_up_k (x_up_k h0 (by omega)) (by omega)), (x_up_k (x_up_k h1 (by omega)) (by omega)), (x_up_k (x_up_k h2 (by omega)) (by omega)), x_up_s, (x_up_k x_up_s (by omega)), (x_up_k (x_up_k h5 (by omega)) (by omega)), (x_up_k (x_up_k h6 (by omega)) (by omega)), (x_up_k (x_up_k h7 (by omega)) (by omega)), (x_up_k (x_up_k h8 (by omega)) (by omega)), (x_up_k (x_up_k h9 (by omega)) (by omega)), (x_up_k (x_up_k h10 (by omega)) (by omega)), (x_up_k (x_up_k h11 (by omega)) (by omega)), (x_up_k (x_up_k h12 (by omega)) (by omega)), (x_up_k (x_up_k h13 (by omega)) (by omega)), (x_up_k (x_up_k h14 (by omega)) (by omega)), (x_up_k (x_up_k h15 (by omega)) (by omega)), (x_up_k (x_up_k h16 (by omega)) (by omega)), (x_up_k (x_up_k h17 (by omega)) (by omega)), (x_up_k (x_up_k h18 (by omega)) (by omega)), by omega, by omega, by omega, by omega, by omega, by omega⟩ (nI (4)) (nI (q + rM tx sn q))) rfl (x_up_k (x_up_k h0 (by omega)) (by omega)) rfl rfl (Nat.le_of_ble_eq_true rfl) ⟨Nat.le_of_ble_eq_true rfl, Nat.le_of_ble_eq_true rfl⟩ ⟨Nat.le_of_ble_eq_true rfl, Nat.le_of_ble_eq_true rfl⟩ (fun r' n' M596 hp => ?_)
                              obtain ⟨hr', hn', hM596, hf596⟩ := hp
                              rw [hn', hr']
                              obtain ⟨v596_0, v596_1, v596_2, v596_3, v596_4, v596_5, v596_6, v596_7, v596_8, v596_9, v596_10, v596_11, v596_12, v596_13, v596_14, v596_15, v596_16, v596_17, v596_18, vb596_0, vb596_1, vb596_2, vb596_3, vb596_4, vb596_5⟩ := id hM596
                              show xW p l e ({ frames := 4, cells := 0, slots := 0, locals := 96 } : Room) s m args below meth c D xcl (x_A M nx) 8 (MQ below (x_Q D xcl (x_A M nx) (mcPost nx M a th sg sn pr fk fp rws cd ds wc wd nn nE nC nK nO ln lF lC lT lO fn fC fP ak ac pt n (rM tx sn q) (cN tx (q + rM tx sn q) (rD tx sn (q + rM tx sn q))) (mrc tx sn ds xs dg n q))) args s 0 0 (x_A M nx)) 0 0 (nx) M596 285 [(7, .int ((-1))), (6, .int (nI (rD tx sn (q + rM tx sn q)))), (5, .int (nI (q + rM tx sn q))), (4, .int (nI (rM tx sn q))), (3, .int (nI (120 + n))), (2, .int (nI (n))), (0, .ref (a)), (1, .int (nI (q)))] [.int (nI (0))]
                              refine x_if_eq F (tgt := 292) dM_readsCode_285 (by decide) (fun c184 => ?_) (fun c184 => ?_)
                              · skip
                                have c184 : 0 = 0 := by
                                  exact (nI_eq (a := 0) (b := 0) (by omega) (by omega)).mp c184
                                refine x_iconst F (v := nI (0)) dM_readsCode_292 (by decide) ?_
                                exact x_zret F hr (by rfl) dM_readsCode_293 (by rw [show mrc tx sn ds xs dg n q = some (4, q + rM tx sn q) from by rw [mrc, if_neg (fun z => by have z := z.2; rw [c115] at z; cases z), if_neg h70, if_neg c174, if_neg (by omega), if_neg c176, if_neg (by omega), if_neg c179, if_neg (by rw [hbad]; decide), if_pos hbeh]]; exact ⟨rfl, fun b hb => (hf596 _ (by omega)).trans ((x_up_n (by omega)).trans ((x_up_n (by omega)).trans (rfl))), rfl, _, _, (fun i hi => ⟨updL_ne (by omega), upd_ne (by omega)⟩), hM596⟩)
                              · skip
                                have c184 : 0 ≠ 0 := by
                                  have z : ¬ (0 = 0) := fun zz => c184 ((nI_eq (a := 0) (b := 0) (by omega) (by omega)).mpr zz)
                                  omega
                                exact absurd c184 (by decide)
                        · skip
                          have c181 : 0 < rM tx sn q := by
                            have z : ¬ (rM tx sn q ≤ 0) := fun zz => c181 ((nI_leI (a := rM tx sn q) (b := 0) (by omega) (by omega)).mpr zz)
                            omega
                          refine x_aload_n F 6 dM_readsCode_218 rfl rfl ?_
                          refine x_get (ci := 6) F 7 (x_in inM) rfl (by decide) (x_m kfM_20) dM_readsCode_219 (x_up_k (x_up_k h0 (by omega)) (by omega)) rfl ?_
                          refine x_iload_n F 4 dM_readsCode_222 rfl rfl ?_
                          refine x_lald F dM_readsCode_223 x_up_s (pk_in (120 + n) (160) (by omega)) ?_
                          refine xW.tol (lN (cN tx (q + rM tx sn q) (rD tx sn (q + rM tx sn q)))) (by rw [nI_clamp (by omega)]; exact vp_us) ?_
                          refine x_aload_n F 6 dM_readsCode_224 rfl rfl ?_
                          refine x_get (ci := 6) F 7 (x_in inM) rfl (by decide) (x_m kfM_20) dM_readsCode_225 (x_up_k (x_up_k h0 (by omega)) (by omega)) rfl ?_
                          refine x_iload F 0 dM_readsCode_228 rfl ?_
                          refine x_if_ge F (tgt := 237) dM_readsCode_230 (by decide) (fun c185 => ?_) (fun c185 => ?_)
                          · skip
                            exact absurd c185 (by decide)
                          · skip
                            refine x_iload_n F 4 dM_readsCode_233 rfl rfl ?_
                            refine x_goto F (tgt := 239) dM_readsCode_234 (by decide) ?_
                            refine x_lald F dM_readsCode_239 x_up_s (pk_in (120 + n) (160) (by omega)) ?_
                            refine xW.tol (lN (cN tx (q + rM tx sn q) (rD tx sn (q + rM tx sn q)))) (by rw [nI_clamp (by omega)]; exact vp_us) ?_
                            refine yS (n := 2) (As := [.long (lN (cN tx (q + rM tx sn q) (rD tx sn (q + rM tx sn q)))), .long (lN (cN tx (q + rM tx sn q) (rD tx sn (q + rM tx sn q))))]) F kmM_107 ktM_begins knM kcM_begins (by decide +kernel) dM_readsCode_240 (cM_begins l (nx) (x_up (x_up M (a + 4) (.inl (.int, 160, .inl (upd (ds) (120 + n) (nI (rM tx sn q)))))) (a + 3) (.inl (.long, 160, .inr (.inl (vp_updL (cd) (120 + n) (lN (cN tx (q + rM tx sn q) (rD tx sn (q + rM tx sn q))))))))) (cN tx (q + rM tx sn q) (rD tx sn (q + rM tx sn q))) (rD tx sn (q + rM tx sn q)) (cN tx (q + rM tx sn q) (rD tx sn (q + rM tx sn q))) (rD tx sn (q + rM tx sn q)) hX10 hX10) rfl rfl (Nat.le_of_ble_eq_true rfl) ⟨Nat.le_of_ble_eq_true rfl, Nat.le_of_ble_eq_true rfl⟩ ⟨Nat.le_of_ble_eq_true rfl, Nat.le_of_ble_eq_true rfl⟩ ?_
                            refine x_if_ne F (tgt := 254) dM_readsCode_243 (by decide) (fun c186 => ?_) (fun c186 => ?_)
                            · skip
                              have c186 : (mbg (cN tx (q + rM tx sn q) (rD tx sn (q + rM tx sn q))) (rD tx sn (q + rM tx sn q)) (cN tx (q + rM tx sn q) (rD tx sn (q + rM tx sn q))) (rD tx sn (q + rM tx sn q))) = true := bI_1 c186
                              have hla := mUp_la (by omega) hup
                              have hbad : mBad ds xs dg n (rM tx sn q) (cN tx (q + rM tx sn q) (rD tx sn (q + rM tx sn q))) (rD tx sn (q + rM tx sn q)) = false := by rw [mBad, if_neg (by omega), hla]; rw [mbg_self] at c186; cases c186
                              refine x_iload_n F 5 dM_readsCode_254 rfl rfl ?_
                              refine x_if_eq F (tgt := 288) dM_readsCode_255 (by decide) (fun c187 => ?_) (fun c187 => ?_)
                              · skip
                                have c187 : n = 0 := by
                                  exact (nI_eq (a := n) (b := 0) (by omega) (by omega)).mp c187
                                have hbeh : mBeh xs dg n (cN tx (q + rM tx sn q) (rD tx sn (q + rM tx sn q))) (rD tx sn (q + rM tx sn q)) = true := by rw [c187]; rfl
                                refine x_iconst F (v := nI (1)) dM_readsCode_288 (by decide) ?_
                                refine x_goto F (tgt := 293) dM_readsCode_289 (by decide) ?_
                                exact x_zret F hr (by rfl) dM_readsCode_293 (by rw [show mrc tx sn ds xs dg n q = none from by rw [mrc, if_neg (fun z => by have z := z.2; rw [c115] at z; cases z), if_neg h70, if_neg c174, if_neg (by omega), if_neg c176, if_neg (by omega), if_neg c179, if_neg (by rw [hbad]; decide), if_neg (by rw [hbeh]; decide)]]; exact ⟨rfl, fun b hb => (x_up_n (by omega)).trans ((x_up_n (by omega)).trans (rfl)), rfl, ⟨(x_up_k (x_up_k h0 (by omega)) (by omega)), (x_up_k (x_up_k h1 (by omega)) (by omega)), (x_up_k (x_up_k h2 (by omega)) (by omega)), x_up_s, (x_up_k x_up_s (by omega)), (x_up_k (x_up_k h5 (by omega)) (by omega)), (x_up_k (x_up_k h6 (by omega)) (by omega)), (x_up_k (x_up_k h7 (by omega)) (by omega)), (x_up_k (x_up_k h8 (by omega)) (by omega)), (x_up_k (x_up_k h9 (by omega)) (by omega)), (x_up_k (x_up_k h10 (by omega)) (by omega)), (x_up_k (x_up_k h11 (by omega)) (by omega)), (x_up_k (x_up_k h12 (by omega)) (by omega)), (x_up_k (x_up_k h13 (by omega)) (by omega)), (x_up_k (x_up_k h14 (by omega)) (by omega)), (x_up_k (x_up_k h15 (by omega)) (by omega)), (x_up_k (x_up_k h16 (by omega)) (by omega)), (x_up_k (x_up_k h17 (by omega)) (by omega)), (x_up_k (x_up_k h18 (by omega)) (by omega)), by omega, by omega, by omega, by omega, by omega, by omega⟩⟩)
                              · skip
                                have c187 : n ≠ 0 := by
                                  have z : ¬ (n = 0) := fun zz => c187 ((nI_eq (a := n) (b := 0) (by omega) (by omega)).mpr zz)
                                  omega
                                obtain ⟨n0, hn1⟩ : ∃ n0, n = n0 + 1 := ⟨n - 1, by omega⟩
                                refine x_aload_n F 6 dM_readsCode_258 rfl rfl ?_
                                refine x_get (ci := 6) F 7 (x_in inM) rfl (by decide) (x_m kfM_20) dM_readsCode_259 (x_up_k (x_up_k h0 (by omega)) (by omega)) rfl ?_
                                refine x_iload_n F 4 dM_readsCode_262 rfl rfl ?_
                                refine x_lald F dM_readsCode_263 x_up_s (pk_in (120 + n) (160) (by omega)) ?_
                                refine xW.tol (lN (cN tx (q + rM tx sn q) (rD tx sn (q + rM tx sn q)))) (by rw [nI_clamp (by omega)]; exact vp_us) ?_
                                refine x_aload_n F 6 dM_readsCode_264 rfl rfl ?_
                                refine x_get (ci := 6) F 7 (x_in inM) rfl (by decide) (x_m kfM_20) dM_readsCode_265 (x_up_k (x_up_k h0 (by omega)) (by omega)) rfl ?_
                                refine x_iload_n F 4 dM_readsCode_268 rfl rfl ?_
                                refine x_iconst F (v := nI (1)) dM_readsCode_269 (by decide) ?_
                                refine x_isub F dM_readsCode_270 ?_
                                refine xW.toi (nI (120 + n0)) (by rw [hn1]; exact nI_pred (120 + n0)) ?_
                                refine x_lald F dM_readsCode_271 x_up_s (pk_in (120 + n0) (160) (by omega)) ?_
                                refine xW.tol (lN (xs n0)) (by rw [nI_clamp (by omega)]; exact (updL_ne (by omega)).trans (hcd n0 (by omega)).1) ?_
                                refine yS (n := 2) (As := [.long (lN (cN tx (q + rM tx sn q) (rD tx sn (q + rM tx sn q)))), .long (lN (xs n0))]) F kmM_126 ktM_isBehind knM kcM_isBehind (by decide +kernel) dM_readsCode_272 (cM_isBehind l (nx) (x_up (x_up M (a + 4) (.inl (.int, 160, .inl (upd (ds) (120 + n) (nI (rM tx sn q)))))) (a + 3) (.inl (.long, 160, .inr (.inl (vp_updL (cd) (120 + n) (lN (cN tx (q + rM tx sn q) (rD tx sn (q + rM tx sn q))))))))) (cN tx (q + rM tx sn q) (rD tx sn (q + rM tx sn q))) (rD tx sn (q + rM tx sn q)) (xs n0) (dg n0) hX10 (hcd n0 (by omega)).2) rfl rfl (Nat.le_of_ble_eq_true rfl) ⟨Nat.le_of_ble_eq_true rfl, Nat.le_of_ble_eq_true rfl⟩ ⟨Nat.le_of_ble_eq_true rfl, Nat.le_of_ble_eq_true rfl⟩ ?_
                                refine x_if_ne F (tgt := 288) dM_readsCode_275 (by decide) (fun c188 => ?_) (fun c188 => ?_)
                                · skip
                                  have c188 : (mbh (cN tx (q + rM tx sn q) (rD tx sn (q + rM tx sn q))) (rD tx sn (q + rM tx sn q)) (xs n0) (dg n0)) = true := bI_1 c188
                                  have hbeh : mBeh xs dg n (cN tx (q + rM tx sn q) (rD tx sn (q + rM tx sn q))) (rD tx sn (q + rM tx sn q)) = true := by rw [hn1]; exact c188
                                  refine x_iconst F (v := nI (1)) dM_readsCode_288 (by decide) ?_
                                  refine x_goto F (tgt := 293) dM_readsCode_289 (by decide) ?_
                                  exact x_zret F hr (by rfl) dM_readsCode_293 (by rw [show mrc tx sn ds xs dg n q = none from by rw [mrc, if_neg (fun z => by have z := z.2; rw [c115] at z; cases z), if_neg h70, if_neg c174, if_neg (by omega), if_neg c176, if_neg (by omega), if_neg c179, if_neg (by rw [hbad]; decide), if_neg (by rw [hbeh]; decide)]]; exact ⟨rfl, fun b hb => (x_up_n (by omega)).trans ((x_up_n (by omega)).trans (rfl)), rfl, ⟨(x_up_k (x_up_k h0 (by omega)) (by omega)), (x_up_k (x_up_k h1 (by omega)) (by omega)), (x_up_k (x_up_k h2 (by omega)) (by omega)), x_up_s, (x_up_k x_up_s (by omega)), (x_up_k (x_up_k h5 (by omega)) (by omega)), (x_up_k (x_up_k h6 (by omega)) (by omega)), (x_up_k (x_up_k h7 (by omega)) (by omega)), (x_up_k (x_up_k h8 (by omega)) (by omega)), (x_up_k (x_up_k h9 (by omega)) (by omega)), (x_up_k (x_up_k h10 (by omega)) (by omega)), (x_up_k (x_up_k h11 (by omega)) (by omega)), (x_up_k (x_up_k h12 (by omega)) (by omega)), (x_up_k (x_up_k h13 (by omega)) (by omega)), (x_up_k (x_up_k h14 (by omega)) (by omega)), (x_up_k (x_up_k h15 (by omega)) (by omega)), (x_up_k (x_up_k h16 (by omega)) (by omega)), (x_up_k (x_up_k h17 (by omega)) (by omega)), (x_up_k (x_up_k h18 (by omega)) (by omega)), by omega, by omega, by omega, by omega, by omega, by omega⟩⟩)
                                · skip
                                  have c188 : (mbh (cN tx (q + rM tx sn q) (rD tx sn (q + rM tx sn q))) (rD tx sn (q + rM tx sn q)) (xs n0) (dg n0)) = false := bI_0 c188
                                  have hbeh : mBeh xs dg n (cN tx (q + rM tx sn q) (rD tx sn (q + rM tx sn q))) (rD tx sn (q + rM tx sn q)) = false := by rw [hn1]; exact c188
                                  refine x_aload_n F 6 dM_readsCode_278 rfl rfl ?_
                                  refine x_iconst F (v := nI (4)) dM_readsCode_279 (by decide) ?_
                                  refine x_iload F 2 dM_readsCode_280 rfl ?_
                                  refine yVr (n := 2) (As := [.int (nI (4)), .int (nI (q + rM tx sn q))]) (ci := 6) F kmM_115 kiM_fails ksM_fails knM kcM_fails (by decide +kernel) dM_readsCode_282 (cM_fails l (nx) (x_up (x_up M (a + 4) (.inl (.int, 160, .inl (upd (ds) (120 + n) (nI (rM tx sn q)))))) (a + 3) (.inl (.long, 160, .inr (.inl (vp_updL (cd) (120 + n) (lN (cN tx (q + rM tx sn q) (rD tx sn (q + rM tx sn q))))))))) (a) th sg sn pr fk fp rws (vp_updL (cd) (120 + n) (lN (cN tx (q + rM tx sn q) (rD tx sn (q + rM tx sn q))))) (upd (ds) (120 + n) (nI (rM tx sn q))) wc wd nn nE nC nK nO ln lF lC lT lO fn fC fP ak ac pt ⟨(x_up_k (x_up_k h0 (by omega)) (by omega)), (x_up_k (x_up_k h1 (by omega)) (by omega)), (x_up_k (x_up_k h2 (by omega)) (by omega)), x_up_s, (x_up_k x_up_s (by omega)), (x_up_k (x_up_k h5 (by omega)) (by omega)), (x_up_k (x_up_k h6 (by omega)) (by omega)), (x_up_k (x_up_k h7 (by omega)) (by omega)), (x_up_k (x_up_k h8 (by omega)) (by omega)), (x_up_k (x_up_k h9 (by omega)) (by omega)), (x_up_k (x_up_k h10 (by omega)) (by omega)), (x_up_k (x_up_k h11 (by omega)) (by omega)), (x_up_k (x_up_k h12 (by omega)) (by omega)), (x_up_k (x_up_k h13 (by omega)) (by omega)), (x_up_k (x_up_k h14 (by omega)) (by omega)), (x_up_k (x_up_k h15 (by omega)) (by omega)), (x_up_k (x_up_k h16 (by omega)) (by omega)), (x_up_k (x_up_k h17 (by omega)) (by omega)), (x_up_k (x_up_k h18 (by omega)) (by omega)), by omega, by omega, by omega, by omega, by omega, by omega⟩ (nI (4)) (nI (q + rM tx sn q))) rfl (x_up_k (x_up_k h0 (by omega)) (by omega)) rfl rfl (Nat.le_of_ble_eq_true rfl) ⟨Nat.le_of_ble_eq_true rfl, Nat.le_of_ble_eq_true rfl⟩ ⟨Nat.le_of_ble_eq_true rfl, Nat.le_of_ble_eq_true rfl⟩ (fun r' n' M597 hp => ?_)
                                  obtain ⟨hr', hn', hM597, hf597⟩ := hp
                                  rw [hn', hr']
                                  obtain ⟨v597_0, v597_1, v597_2, v597_3, v597_4, v597_5, v597_6, v597_7, v597_8, v597_9, v597_10, v597_11, v597_12, v597_13, v597_14, v597_15, v597_16, v597_17, v597_18, vb597_0, vb597_1, vb597_2, vb597_3, vb597_4, vb597_5⟩ := id hM597
                                  show xW p l e ({ frames := 4, cells := 0, slots := 0, locals := 96 } : Room) s m args below meth c D xcl (x_A M nx) 8 (MQ below (x_Q D xcl (x_A M nx) (mcPost nx M a th sg sn pr fk fp rws cd ds wc wd nn nE nC nK nO ln lF lC lT lO fn fC fP ak ac pt n (rM tx sn q) (cN tx (q + rM tx sn q) (rD tx sn (q + rM tx sn q))) (mrc tx sn ds xs dg n q))) args s 0 0 (x_A M nx)) 0 0 (nx) M597 285 [(7, .int ((-1))), (6, .int (nI (rD tx sn (q + rM tx sn q)))), (5, .int (nI (q + rM tx sn q))), (4, .int (nI (rM tx sn q))), (3, .int (nI (120 + n))), (2, .int (nI (n))), (0, .ref (a)), (1, .int (nI (q)))] [.int (nI (0))]
                                  refine x_if_eq F (tgt := 292) dM_readsCode_285 (by decide) (fun c189 => ?_) (fun c189 => ?_)
                                  · skip
                                    have c189 : 0 = 0 := by
                                      exact (nI_eq (a := 0) (b := 0) (by omega) (by omega)).mp c189
                                    refine x_iconst F (v := nI (0)) dM_readsCode_292 (by decide) ?_
                                    exact x_zret F hr (by rfl) dM_readsCode_293 (by rw [show mrc tx sn ds xs dg n q = some (4, q + rM tx sn q) from by rw [mrc, if_neg (fun z => by have z := z.2; rw [c115] at z; cases z), if_neg h70, if_neg c174, if_neg (by omega), if_neg c176, if_neg (by omega), if_neg c179, if_neg (by rw [hbad]; decide), if_pos hbeh]]; exact ⟨rfl, fun b hb => (hf597 _ (by omega)).trans ((x_up_n (by omega)).trans ((x_up_n (by omega)).trans (rfl))), rfl, _, _, (fun i hi => ⟨updL_ne (by omega), upd_ne (by omega)⟩), hM597⟩)
                                  · skip
                                    have c189 : 0 ≠ 0 := by
                                      have z : ¬ (0 = 0) := fun zz => c189 ((nI_eq (a := 0) (b := 0) (by omega) (by omega)).mpr zz)
                                      omega
                                    exact absurd c189 (by decide)
                            · skip
                              have c186 : (mbg (cN tx (q + rM tx sn q) (rD tx sn (q + rM tx sn q))) (rD tx sn (q + rM tx sn q)) (cN tx (q + rM tx sn q) (rD tx sn (q + rM tx sn q))) (rD tx sn (q + rM tx sn q))) = false := bI_0 c186
                              have hla := mUp_la (by omega) hup
                              have hbad : mBad ds xs dg n (rM tx sn q) (cN tx (q + rM tx sn q) (rD tx sn (q + rM tx sn q))) (rD tx sn (q + rM tx sn q)) = true := by rw [mBad, if_neg (by omega), hla]
                              refine x_aload_n F 6 dM_readsCode_246 rfl rfl ?_
                              refine x_iconst F (v := nI (3)) dM_readsCode_247 (by decide) ?_
                              refine x_iload F 2 dM_readsCode_248 rfl ?_
                              refine yVr (n := 2) (As := [.int (nI (3)), .int (nI (q + rM tx sn q))]) (ci := 6) F kmM_115 kiM_fails ksM_fails knM kcM_fails (by decide +kernel) dM_readsCode_250 (cM_fails l (nx) (x_up (x_up M (a + 4) (.inl (.int, 160, .inl (upd (ds) (120 + n) (nI (rM tx sn q)))))) (a + 3) (.inl (.long, 160, .inr (.inl (vp_updL (cd) (120 + n) (lN (cN tx (q + rM tx sn q) (rD tx sn (q + rM tx sn q))))))))) (a) th sg sn pr fk fp rws (vp_updL (cd) (120 + n) (lN (cN tx (q + rM tx sn q) (rD tx sn (q + rM tx sn q))))) (upd (ds) (120 + n) (nI (rM tx sn q))) wc wd nn nE nC nK nO ln lF lC lT lO fn fC fP ak ac pt ⟨(x_up_k (x_up_k h0 (by omega)) (by omega)), (x_up_k (x_up_k h1 (by omega)) (by omega)), (x_up_k (x_up_k h2 (by omega)) (by omega)), x_up_s, (x_up_k x_up_s (by omega)), (x_up_k (x_up_k h5 (by omega)) (by omega)), (x_up_k (x_up_k h6 (by omega)) (by omega)), (x_up_k (x_up_k h7 (by omega)) (by omega)), (x_up_k (x_up_k h8 (by omega)) (by omega)), (x_up_k (x_up_k h9 (by omega)) (by omega)), (x_up_k (x_up_k h10 (by omega)) (by omega)), (x_up_k (x_up_k h11 (by omega)) (by omega)), (x_up_k (x_up_k h12 (by omega)) (by omega)), (x_up_k (x_up_k h13 (by omega)) (by omega)), (x_up_k (x_up_k h14 (by omega)) (by omega)), (x_up_k (x_up_k h15 (by omega)) (by omega)), (x_up_k (x_up_k h16 (by omega)) (by omega)), (x_up_k (x_up_k h17 (by omega)) (by omega)), (x_up_k (x_up_k h18 (by omega)) (by omega)), by omega, by omega, by omega, by omega, by omega, by omega⟩ (nI (3)) (nI (q + rM tx sn q))) rfl (x_up_k (x_up_k h0 (by omega)) (by omega)) rfl rfl (Nat.le_of_ble_eq_true rfl) ⟨Nat.le_of_ble_eq_true rfl, Nat.le_of_ble_eq_true rfl⟩ ⟨Nat.le_of_ble_eq_true rfl, Nat.le_of_ble_eq_true rfl⟩ (fun r' n' M598 hp => ?_)
                              obtain ⟨hr', hn', hM598, hf598⟩ := hp
                              rw [hn', hr']
                              obtain ⟨v598_0, v598_1, v598_2, v598_3, v598_4, v598_5, v598_6, v598_7, v598_8, v598_9, v598_10, v598_11, v598_12, v598_13, v598_14, v598_15, v598_16, v598_17, v598_18, vb598_0, vb598_1, vb598_2, vb598_3, vb598_4, vb598_5⟩ := id hM598
                              show xW p l e ({ frames := 4, cells := 0, slots := 0, locals := 96 } : Room) s m args below meth c D xcl (x_A M nx) 8 (MQ below (x_Q D xcl (x_A M nx) (mcPost nx M a th sg sn pr fk fp rws cd ds wc wd nn nE nC nK nO ln lF lC lT lO fn fC fP ak ac pt n (rM tx sn q) (cN tx (q + rM tx sn q) (rD tx sn (q + rM tx sn q))) (mrc tx sn ds xs dg n q))) args s 0 0 (x_A M nx)) 0 0 (nx) M598 253 [(7, .int ((-1))), (6, .int (nI (rD tx sn (q + rM tx sn q)))), (5, .int (nI (q + rM tx sn q))), (4, .int (nI (rM tx sn q))), (3, .int (nI (120 + n))), (2, .int (nI (n))), (0, .ref (a)), (1, .int (nI (q)))] [.int (nI (0))]
                              exact x_zret F hr (by rfl) dM_readsCode_253 (by rw [show mrc tx sn ds xs dg n q = some (3, q + rM tx sn q) from by rw [mrc, if_neg (fun z => by have z := z.2; rw [c115] at z; cases z), if_neg h70, if_neg c174, if_neg (by omega), if_neg c176, if_neg (by omega), if_neg c179, if_pos hbad]]; exact ⟨rfl, fun b hb => (hf598 _ (by omega)).trans ((x_up_n (by omega)).trans ((x_up_n (by omega)).trans (rfl))), rfl, _, _, (fun i hi => ⟨updL_ne (by omega), upd_ne (by omega)⟩), hM598⟩)
                      · skip
                        have c180 : rM tx sn q = 0 := by
                          exact (nI_eq (a := rM tx sn q) (b := 0) (by omega) (by omega)).mp c180
                        refine x_iload F 1 dM_readsCode_207 rfl ?_
                        refine x_iconst F (v := nI (2)) dM_readsCode_209 (by decide) ?_
                        refine x_icmp_ne F (tgt := 246) dM_readsCode_210 (by decide) (fun c190 => ?_) (fun c190 => ?_)
                        · skip
                          have c190 : rD tx sn (q + rM tx sn q) ≠ 2 := by
                            have z : ¬ (rD tx sn (q + rM tx sn q) = 2) := fun zz => c190 ((nI_eq (a := rD tx sn (q + rM tx sn q)) (b := 2) (by omega) (by omega)).mpr zz)
                            omega
                          have hbad : mBad ds xs dg n (rM tx sn q) (cN tx (q + rM tx sn q) (rD tx sn (q + rM tx sn q))) (rD tx sn (q + rM tx sn q)) = true := by rw [mBad, if_pos c180, decide_eq_false c190]; rfl
                          refine x_aload_n F 6 dM_readsCode_246 rfl rfl ?_
                          refine x_iconst F (v := nI (3)) dM_readsCode_247 (by decide) ?_
                          refine x_iload F 2 dM_readsCode_248 rfl ?_
                          refine yVr (n := 2) (As := [.int (nI (3)), .int (nI (q + rM tx sn q))]) (ci := 6) F kmM_115 kiM_fails ksM_fails knM kcM_fails (by decide +kernel) dM_readsCode_250 (cM_fails l (nx) (x_up (x_up M (a + 4) (.inl (.int, 160, .inl (upd (ds) (120 + n) (nI (rM tx sn q)))))) (a + 3) (.inl (.long, 160, .inr (.inl (vp_updL (cd) (120 + n) (lN (cN tx (q + rM tx sn q) (rD tx sn (q + rM tx sn q))))))))) (a) th sg sn pr fk fp rws (vp_updL (cd) (120 + n) (lN (cN tx (q + rM tx sn q) (rD tx sn (q + rM tx sn q))))) (upd (ds) (120 + n) (nI (rM tx sn q))) wc wd nn nE nC nK nO ln lF lC lT lO fn fC fP ak ac pt ⟨(x_up_k (x_up_k h0 (by omega)) (by omega)), (x_up_k (x_up_k h1 (by omega)) (by omega)), (x_up_k (x_up_k h2 (by omega)) (by omega)), x_up_s, (x_up_k x_up_s (by omega)), (x_up_k (x_up_k h5 (by omega)) (by omega)), (x_up_k (x_up_k h6 (by omega)) (by omega)), (x_up_k (x_up_k h7 (by omega)) (by omega)), (x_up_k (x_up_k h8 (by omega)) (by omega)), (x_up_k (x_up_k h9 (by omega)) (by omega)), (x_up_k (x_up_k h10 (by omega)) (by omega)), (x_up_k (x_up_k h11 (by omega)) (by omega)), (x_up_k (x_up_k h12 (by omega)) (by omega)), (x_up_k (x_up_k h13 (by omega)) (by omega)), (x_up_k (x_up_k h14 (by omega)) (by omega)), (x_up_k (x_up_k h15 (by omega)) (by omega)), (x_up_k (x_up_k h16 (by omega)) (by omega)), (x_up_k (x_up_k h17 (by omega)) (by omega)), (x_up_k (x_up_k h18 (by omega)) (by omega)), by omega, by omega, by omega, by omega, by omega, by omega⟩ (nI (3)) (nI (q + rM tx sn q))) rfl (x_up_k (x_up_k h0 (by omega)) (by omega)) rfl rfl (Nat.le_of_ble_eq_true rfl) ⟨Nat.le_of_ble_eq_true rfl, Nat.le_of_ble_eq_true rfl⟩ ⟨Nat.le_of_ble_eq_true rfl, Nat.le_of_ble_eq_true rfl⟩ (fun r' n' M599 hp => ?_)
                          obtain ⟨hr', hn', hM599, hf599⟩ := hp
                          rw [hn', hr']
                          obtain ⟨v599_0, v599_1, v599_2, v599_3, v599_4, v599_5, v599_6, v599_7, v599_8, v599_9, v599_10, v599_11, v599_12, v599_13, v599_14, v599_15, v599_16, v599_17, v599_18, vb599_0, vb599_1, vb599_2, vb599_3, vb599_4, vb599_5⟩ := id hM599
                          show xW p l e ({ frames := 4, cells := 0, slots := 0, locals := 96 } : Room) s m args below meth c D xcl (x_A M nx) 8 (MQ below (x_Q D xcl (x_A M nx) (mcPost nx M a th sg sn pr fk fp rws cd ds wc wd nn nE nC nK nO ln lF lC lT lO fn fC fP ak ac pt n (rM tx sn q) (cN tx (q + rM tx sn q) (rD tx sn (q + rM tx sn q))) (mrc tx sn ds xs dg n q))) args s 0 0 (x_A M nx)) 0 0 (nx) M599 253 [(7, .int ((-1))), (6, .int (nI (rD tx sn (q + rM tx sn q)))), (5, .int (nI (q + rM tx sn q))), (4, .int (nI (rM tx sn q))), (3, .int (nI (120 + n))), (2, .int (nI (n))), (0, .ref (a)), (1, .int (nI (q)))] [.int (nI (0))]
                          exact x_zret F hr (by rfl) dM_readsCode_253 (by rw [show mrc tx sn ds xs dg n q = some (3, q + rM tx sn q) from by rw [mrc, if_neg (fun z => by have z := z.2; rw [c115] at z; cases z), if_neg h70, if_neg c174, if_neg (by omega), if_neg c176, if_neg (by omega), if_neg c179, if_pos hbad]]; exact ⟨rfl, fun b hb => (hf599 _ (by omega)).trans ((x_up_n (by omega)).trans ((x_up_n (by omega)).trans (rfl))), rfl, _, _, (fun i hi => ⟨updL_ne (by omega), upd_ne (by omega)⟩), hM599⟩)
                        · skip
                          have c190 : rD tx sn (q + rM tx sn q) = 2 := by
                            exact (nI_eq (a := rD tx sn (q + rM tx sn q)) (b := 2) (by omega) (by omega)).mp c190
                          refine x_iload F 3 dM_readsCode_213 rfl ?_
                          refine x_if_le F (tgt := 254) dM_readsCode_215 (by decide) (fun c191 => ?_) (fun c191 => ?_)
                          · skip
                            have c191 : rM tx sn q ≤ 0 := by
                              exact (nI_leI (a := rM tx sn q) (b := 0) (by omega) (by omega)).mp c191
                            have hbad : mBad ds xs dg n (rM tx sn q) (cN tx (q + rM tx sn q) (rD tx sn (q + rM tx sn q))) (rD tx sn (q + rM tx sn q)) = false := by rw [mBad, if_pos (by omega), decide_eq_true (by omega)]; rfl
                            refine x_iload_n F 5 dM_readsCode_254 rfl rfl ?_
                            refine x_if_eq F (tgt := 288) dM_readsCode_255 (by decide) (fun c192 => ?_) (fun c192 => ?_)
                            · skip
                              have c192 : n = 0 := by
                                exact (nI_eq (a := n) (b := 0) (by omega) (by omega)).mp c192
                              have hbeh : mBeh xs dg n (cN tx (q + rM tx sn q) (rD tx sn (q + rM tx sn q))) (rD tx sn (q + rM tx sn q)) = true := by rw [c192]; rfl
                              refine x_iconst F (v := nI (1)) dM_readsCode_288 (by decide) ?_
                              refine x_goto F (tgt := 293) dM_readsCode_289 (by decide) ?_
                              exact x_zret F hr (by rfl) dM_readsCode_293 (by rw [show mrc tx sn ds xs dg n q = none from by rw [mrc, if_neg (fun z => by have z := z.2; rw [c115] at z; cases z), if_neg h70, if_neg c174, if_neg (by omega), if_neg c176, if_neg (by omega), if_neg c179, if_neg (by rw [hbad]; decide), if_neg (by rw [hbeh]; decide)]]; exact ⟨rfl, fun b hb => (x_up_n (by omega)).trans ((x_up_n (by omega)).trans (rfl)), rfl, ⟨(x_up_k (x_up_k h0 (by omega)) (by omega)), (x_up_k (x_up_k h1 (by omega)) (by omega)), (x_up_k (x_up_k h2 (by omega)) (by omega)), x_up_s, (x_up_k x_up_s (by omega)), (x_up_k (x_up_k h5 (by omega)) (by omega)), (x_up_k (x_up_k h6 (by omega)) (by omega)), (x_up_k (x_up_k h7 (by omega)) (by omega)), (x_up_k (x_up_k h8 (by omega)) (by omega)), (x_up_k (x_up_k h9 (by omega)) (by omega)), (x_up_k (x_up_k h10 (by omega)) (by omega)), (x_up_k (x_up_k h11 (by omega)) (by omega)), (x_up_k (x_up_k h12 (by omega)) (by omega)), (x_up_k (x_up_k h13 (by omega)) (by omega)), (x_up_k (x_up_k h14 (by omega)) (by omega)), (x_up_k (x_up_k h15 (by omega)) (by omega)), (x_up_k (x_up_k h16 (by omega)) (by omega)), (x_up_k (x_up_k h17 (by omega)) (by omega)), (x_up_k (x_up_k h18 (by omega)) (by omega)), by omega, by omega, by omega, by omega, by omega, by omega⟩⟩)
                            · skip
                              have c192 : n ≠ 0 := by
                                have z : ¬ (n = 0) := fun zz => c192 ((nI_eq (a := n) (b := 0) (by omega) (by omega)).mpr zz)
                                omega
                              obtain ⟨n0, hn1⟩ : ∃ n0, n = n0 + 1 := ⟨n - 1, by omega⟩
                              refine x_aload_n F 6 dM_readsCode_258 rfl rfl ?_
                              refine x_get (ci := 6) F 7 (x_in inM) rfl (by decide) (x_m kfM_20) dM_readsCode_259 (x_up_k (x_up_k h0 (by omega)) (by omega)) rfl ?_
                              refine x_iload_n F 4 dM_readsCode_262 rfl rfl ?_
                              refine x_lald F dM_readsCode_263 x_up_s (pk_in (120 + n) (160) (by omega)) ?_
                              refine xW.tol (lN (cN tx (q + rM tx sn q) (rD tx sn (q + rM tx sn q)))) (by rw [nI_clamp (by omega)]; exact vp_us) ?_
                              refine x_aload_n F 6 dM_readsCode_264 rfl rfl ?_
                              refine x_get (ci := 6) F 7 (x_in inM) rfl (by decide) (x_m kfM_20) dM_readsCode_265 (x_up_k (x_up_k h0 (by omega)) (by omega)) rfl ?_
                              refine x_iload_n F 4 dM_readsCode_268 rfl rfl ?_
                              refine x_iconst F (v := nI (1)) dM_readsCode_269 (by decide) ?_
                              refine x_isub F dM_readsCode_270 ?_
                              refine xW.toi (nI (120 + n0)) (by rw [hn1]; exact nI_pred (120 + n0)) ?_
                              refine x_lald F dM_readsCode_271 x_up_s (pk_in (120 + n0) (160) (by omega)) ?_
                              refine xW.tol (lN (xs n0)) (by rw [nI_clamp (by omega)]; exact (updL_ne (by omega)).trans (hcd n0 (by omega)).1) ?_
                              refine yS (n := 2) (As := [.long (lN (cN tx (q + rM tx sn q) (rD tx sn (q + rM tx sn q)))), .long (lN (xs n0))]) F kmM_126 ktM_isBehind knM kcM_isBehind (by decide +kernel) dM_readsCode_272 (cM_isBehind l (nx) (x_up (x_up M (a + 4) (.inl (.int, 160, .inl (upd (ds) (120 + n) (nI (rM tx sn q)))))) (a + 3) (.inl (.long, 160, .inr (.inl (vp_updL (cd) (120 + n) (lN (cN tx (q + rM tx sn q) (rD tx sn (q + rM tx sn q))))))))) (cN tx (q + rM tx sn q) (rD tx sn (q + rM tx sn q))) (rD tx sn (q + rM tx sn q)) (xs n0) (dg n0) hX10 (hcd n0 (by omega)).2) rfl rfl (Nat.le_of_ble_eq_true rfl) ⟨Nat.le_of_ble_eq_true rfl, Nat.le_of_ble_eq_true rfl⟩ ⟨Nat.le_of_ble_eq_true rfl, Nat.le_of_ble_eq_true rfl⟩ ?_
                              refine x_if_ne F (tgt := 288) dM_readsCode_275 (by decide) (fun c193 => ?_) (fun c193 => ?_)
                              · skip
                                have c193 : (mbh (cN tx (q + rM tx sn q) (rD tx sn (q + rM tx sn q))) (rD tx sn (q + rM tx sn q)) (xs n0) (dg n0)) = true := bI_1 c193
                                have hbeh : mBeh xs dg n (cN tx (q + rM tx sn q) (rD tx sn (q + rM tx sn q))) (rD tx sn (q + rM tx sn q)) = true := by rw [hn1]; exact c193
                                refine x_iconst F (v := nI (1)) dM_readsCode_288 (by decide) ?_
                                refine x_goto F (tgt := 293) dM_readsCode_289 (by decide) ?_
                                exact x_zret F hr (by rfl) dM_readsCode_293 (by rw [show mrc tx sn ds xs dg n q = none from by rw [mrc, if_neg (fun z => by have z := z.2; rw [c115] at z; cases z), if_neg h70, if_neg c174, if_neg (by omega), if_neg c176, if_neg (by omega), if_neg c179, if_neg (by rw [hbad]; decide), if_neg (by rw [hbeh]; decide)]]; exact ⟨rfl, fun b hb => (x_up_n (by omega)).trans ((x_up_n (by omega)).trans (rfl)), rfl, ⟨(x_up_k (x_up_k h0 (by omega)) (by omega)), (x_up_k (x_up_k h1 (by omega)) (by omega)), (x_up_k (x_up_k h2 (by omega)) (by omega)), x_up_s, (x_up_k x_up_s (by omega)), (x_up_k (x_up_k h5 (by omega)) (by omega)), (x_up_k (x_up_k h6 (by omega)) (by omega)), (x_up_k (x_up_k h7 (by omega)) (by omega)), (x_up_k (x_up_k h8 (by omega)) (by omega)), (x_up_k (x_up_k h9 (by omega)) (by omega)), (x_up_k (x_up_k h10 (by omega)) (by omega)), (x_up_k (x_up_k h11 (by omega)) (by omega)), (x_up_k (x_up_k h12 (by omega)) (by omega)), (x_up_k (x_up_k h13 (by omega)) (by omega)), (x_up_k (x_up_k h14 (by omega)) (by omega)), (x_up_k (x_up_k h15 (by omega)) (by omega)), (x_up_k (x_up_k h16 (by omega)) (by omega)), (x_up_k (x_up_k h17 (by omega)) (by omega)), (x_up_k (x_up_k h18 (by omega)) (by omega)), by omega, by omega, by omega, by omega, by omega, by omega⟩⟩)
                              · skip
                                have c193 : (mbh (cN tx (q + rM tx sn q) (rD tx sn (q + rM tx sn q))) (rD tx sn (q + rM tx sn q)) (xs n0) (dg n0)) = false := bI_0 c193
                                have hbeh : mBeh xs dg n (cN tx (q + rM tx sn q) (rD tx sn (q + rM tx sn q))) (rD tx sn (q + rM tx sn q)) = false := by rw [hn1]; exact c193
                                refine x_aload_n F 6 dM_readsCode_278 rfl rfl ?_
                                refine x_iconst F (v := nI (4)) dM_readsCode_279 (by decide) ?_
                                refine x_iload F 2 dM_readsCode_280 rfl ?_
                                refine yVr (n := 2) (As := [.int (nI (4)), .int (nI (q + rM tx sn q))]) (ci := 6) F kmM_115 kiM_fails ksM_fails knM kcM_fails (by decide +kernel) dM_readsCode_282 (cM_fails l (nx) (x_up (x_up M (a + 4) (.inl (.int, 160, .inl (upd (ds) (120 + n) (nI (rM tx sn q)))))) (a + 3) (.inl (.long, 160, .inr (.inl (vp_updL (cd) (120 + n) (lN (cN tx (q + rM tx sn q) (rD tx sn (q + rM tx sn q))))))))) (a) th sg sn pr fk fp rws (vp_updL (cd) (120 + n) (lN (cN tx (q + rM tx sn q) (rD tx sn (q + rM tx sn q))))) (upd (ds) (120 + n) (nI (rM tx sn q))) wc wd nn nE nC nK nO ln lF lC lT lO fn fC fP ak ac pt ⟨(x_up_k (x_up_k h0 (by omega)) (by omega)), (x_up_k (x_up_k h1 (by omega)) (by omega)), (x_up_k (x_up_k h2 (by omega)) (by omega)), x_up_s, (x_up_k x_up_s (by omega)), (x_up_k (x_up_k h5 (by omega)) (by omega)), (x_up_k (x_up_k h6 (by omega)) (by omega)), (x_up_k (x_up_k h7 (by omega)) (by omega)), (x_up_k (x_up_k h8 (by omega)) (by omega)), (x_up_k (x_up_k h9 (by omega)) (by omega)), (x_up_k (x_up_k h10 (by omega)) (by omega)), (x_up_k (x_up_k h11 (by omega)) (by omega)), (x_up_k (x_up_k h12 (by omega)) (by omega)), (x_up_k (x_up_k h13 (by omega)) (by omega)), (x_up_k (x_up_k h14 (by omega)) (by omega)), (x_up_k (x_up_k h15 (by omega)) (by omega)), (x_up_k (x_up_k h16 (by omega)) (by omega)), (x_up_k (x_up_k h17 (by omega)) (by omega)), (x_up_k (x_up_k h18 (by omega)) (by omega)), by omega, by omega, by omega, by omega, by omega, by omega⟩ (nI (4)) (nI (q + rM tx sn q))) rfl (x_up_k (x_up_k h0 (by omega)) (by omega)) rfl rfl (Nat.le_of_ble_eq_true rfl) ⟨Nat.le_of_ble_eq_true rfl, Nat.le_of_ble_eq_true rfl⟩ ⟨Nat.le_of_ble_eq_true rfl, Nat.le_of_ble_eq_true rfl⟩ (fun r' n' M600 hp => ?_)
                                obtain ⟨hr', hn', hM600, hf600⟩ := hp
                                rw [hn', hr']
                                obtain ⟨v600_0, v600_1, v600_2, v600_3, v600_4, v600_5, v600_6, v600_7, v600_8, v600_9, v600_10, v600_11, v600_12, v600_13, v600_14, v600_15, v600_16, v600_17, v600_18, vb600_0, vb600_1, vb600_2, vb600_3, vb600_4, vb600_5⟩ := id hM600
                                show xW p l e ({ frames := 4, cells := 0, slots := 0, locals := 96 } : Room) s m args below meth c D xcl (x_A M nx) 8 (MQ below (x_Q D xcl (x_A M nx) (mcPost nx M a th sg sn pr fk fp rws cd ds wc wd nn nE nC nK nO ln lF lC lT lO fn fC fP ak ac pt n (rM tx sn q) (cN tx (q + rM tx sn q) (rD tx sn (q + rM tx sn q))) (mrc tx sn ds xs dg n q))) args s 0 0 (x_A M nx)) 0 0 (nx) M600 285 [(7, .int ((-1))), (6, .int (nI (rD tx sn (q + rM tx sn q)))), (5, .int (nI (q + rM tx sn q))), (4, .int (nI (rM tx sn q))), (3, .int (nI (120 + n))), (2, .int (nI (n))), (0, .ref (a)), (1, .int (nI (q)))] [.int (nI (0))]
                                refine x_if_eq F (tgt := 292) dM_readsCode_285 (by decide) (fun c194 => ?_) (fun c194 => ?_)
                                · skip
                                  have c194 : 0 = 0 := by
                                    exact (nI_eq (a := 0) (b := 0) (by omega) (by omega)).mp c194
                                  refine x_iconst F (v := nI (0)) dM_readsCode_292 (by decide) ?_
                                  exact x_zret F hr (by rfl) dM_readsCode_293 (by rw [show mrc tx sn ds xs dg n q = some (4, q + rM tx sn q) from by rw [mrc, if_neg (fun z => by have z := z.2; rw [c115] at z; cases z), if_neg h70, if_neg c174, if_neg (by omega), if_neg c176, if_neg (by omega), if_neg c179, if_neg (by rw [hbad]; decide), if_pos hbeh]]; exact ⟨rfl, fun b hb => (hf600 _ (by omega)).trans ((x_up_n (by omega)).trans ((x_up_n (by omega)).trans (rfl))), rfl, _, _, (fun i hi => ⟨updL_ne (by omega), upd_ne (by omega)⟩), hM600⟩)
                                · skip
                                  have c194 : 0 ≠ 0 := by
                                    have z : ¬ (0 = 0) := fun zz => c194 ((nI_eq (a := 0) (b := 0) (by omega) (by omega)).mpr zz)
                                    omega
                                  exact absurd c194 (by decide)
                          · skip
                            have c191 : 0 < rM tx sn q := by
                              have z : ¬ (rM tx sn q ≤ 0) := fun zz => c191 ((nI_leI (a := rM tx sn q) (b := 0) (by omega) (by omega)).mpr zz)
                              omega
                            refine x_aload_n F 6 dM_readsCode_218 rfl rfl ?_
                            refine x_get (ci := 6) F 7 (x_in inM) rfl (by decide) (x_m kfM_20) dM_readsCode_219 (x_up_k (x_up_k h0 (by omega)) (by omega)) rfl ?_
                            refine x_iload_n F 4 dM_readsCode_222 rfl rfl ?_
                            refine x_lald F dM_readsCode_223 x_up_s (pk_in (120 + n) (160) (by omega)) ?_
                            refine xW.tol (lN (cN tx (q + rM tx sn q) (rD tx sn (q + rM tx sn q)))) (by rw [nI_clamp (by omega)]; exact vp_us) ?_
                            refine x_aload_n F 6 dM_readsCode_224 rfl rfl ?_
                            refine x_get (ci := 6) F 7 (x_in inM) rfl (by decide) (x_m kfM_20) dM_readsCode_225 (x_up_k (x_up_k h0 (by omega)) (by omega)) rfl ?_
                            refine x_iload F 0 dM_readsCode_228 rfl ?_
                            refine x_if_ge F (tgt := 237) dM_readsCode_230 (by decide) (fun c195 => ?_) (fun c195 => ?_)
                            · skip
                              exact absurd c195 (by decide)
                            · skip
                              refine x_iload_n F 4 dM_readsCode_233 rfl rfl ?_
                              refine x_goto F (tgt := 239) dM_readsCode_234 (by decide) ?_
                              refine x_lald F dM_readsCode_239 x_up_s (pk_in (120 + n) (160) (by omega)) ?_
                              refine xW.tol (lN (cN tx (q + rM tx sn q) (rD tx sn (q + rM tx sn q)))) (by rw [nI_clamp (by omega)]; exact vp_us) ?_
                              refine yS (n := 2) (As := [.long (lN (cN tx (q + rM tx sn q) (rD tx sn (q + rM tx sn q)))), .long (lN (cN tx (q + rM tx sn q) (rD tx sn (q + rM tx sn q))))]) F kmM_107 ktM_begins knM kcM_begins (by decide +kernel) dM_readsCode_240 (cM_begins l (nx) (x_up (x_up M (a + 4) (.inl (.int, 160, .inl (upd (ds) (120 + n) (nI (rM tx sn q)))))) (a + 3) (.inl (.long, 160, .inr (.inl (vp_updL (cd) (120 + n) (lN (cN tx (q + rM tx sn q) (rD tx sn (q + rM tx sn q))))))))) (cN tx (q + rM tx sn q) (rD tx sn (q + rM tx sn q))) (rD tx sn (q + rM tx sn q)) (cN tx (q + rM tx sn q) (rD tx sn (q + rM tx sn q))) (rD tx sn (q + rM tx sn q)) hX10 hX10) rfl rfl (Nat.le_of_ble_eq_true rfl) ⟨Nat.le_of_ble_eq_true rfl, Nat.le_of_ble_eq_true rfl⟩ ⟨Nat.le_of_ble_eq_true rfl, Nat.le_of_ble_eq_true rfl⟩ ?_
                              refine x_if_ne F (tgt := 254) dM_readsCode_243 (by decide) (fun c196 => ?_) (fun c196 => ?_)
                              · skip
                                have c196 : (mbg (cN tx (q + rM tx sn q) (rD tx sn (q + rM tx sn q))) (rD tx sn (q + rM tx sn q)) (cN tx (q + rM tx sn q) (rD tx sn (q + rM tx sn q))) (rD tx sn (q + rM tx sn q))) = true := bI_1 c196
                                have hla := mUp_la (by omega) hup
                                have hbad : mBad ds xs dg n (rM tx sn q) (cN tx (q + rM tx sn q) (rD tx sn (q + rM tx sn q))) (rD tx sn (q + rM tx sn q)) = false := by rw [mBad, if_neg (by omega), hla]; rw [mbg_self] at c196; cases c196
                                refine x_iload_n F 5 dM_readsCode_254 rfl rfl ?_
                                refine x_if_eq F (tgt := 288) dM_readsCode_255 (by decide) (fun c197 => ?_) (fun c197 => ?_)
                                · skip
                                  have c197 : n = 0 := by
                                    exact (nI_eq (a := n) (b := 0) (by omega) (by omega)).mp c197
                                  have hbeh : mBeh xs dg n (cN tx (q + rM tx sn q) (rD tx sn (q + rM tx sn q))) (rD tx sn (q + rM tx sn q)) = true := by rw [c197]; rfl
                                  refine x_iconst F (v := nI (1)) dM_readsCode_288 (by decide) ?_
                                  refine x_goto F (tgt := 293) dM_readsCode_289 (by decide) ?_
                                  exact x_zret F hr (by rfl) dM_readsCode_293 (by rw [show mrc tx sn ds xs dg n q = none from by rw [mrc, if_neg (fun z => by have z := z.2; rw [c115] at z; cases z), if_neg h70, if_neg c174, if_neg (by omega), if_neg c176, if_neg (by omega), if_neg c179, if_neg (by rw [hbad]; decide), if_neg (by rw [hbeh]; decide)]]; exact ⟨rfl, fun b hb => (x_up_n (by omega)).trans ((x_up_n (by omega)).trans (rfl)), rfl, ⟨(x_up_k (x_up_k h0 (by omega)) (by omega)), (x_up_k (x_up_k h1 (by omega)) (by omega)), (x_up_k (x_up_k h2 (by omega)) (by omega)), x_up_s, (x_up_k x_up_s (by omega)), (x_up_k (x_up_k h5 (by omega)) (by omega)), (x_up_k (x_up_k h6 (by omega)) (by omega)), (x_up_k (x_up_k h7 (by omega)) (by omega)), (x_up_k (x_up_k h8 (by omega)) (by omega)), (x_up_k (x_up_k h9 (by omega)) (by omega)), (x_up_k (x_up_k h10 (by omega)) (by omega)), (x_up_k (x_up_k h11 (by omega)) (by omega)), (x_up_k (x_up_k h12 (by omega)) (by omega)), (x_up_k (x_up_k h13 (by omega)) (by omega)), (x_up_k (x_up_k h14 (by omega)) (by omega)), (x_up_k (x_up_k h15 (by omega)) (by omega)), (x_up_k (x_up_k h16 (by omega)) (by omega)), (x_up_k (x_up_k h17 (by omega)) (by omega)), (x_up_k (x_up_k h18 (by omega)) (by omega)), by omega, by omega, by omega, by omega, by omega, by omega⟩⟩)
                                · skip
                                  have c197 : n ≠ 0 := by
                                    have z : ¬ (n = 0) := fun zz => c197 ((nI_eq (a := n) (b := 0) (by omega) (by omega)).mpr zz)
                                    omega
                                  obtain ⟨n0, hn1⟩ : ∃ n0, n = n0 + 1 := ⟨n - 1, by omega⟩
                                  refine x_aload_n F 6 dM_readsCode_258 rfl rfl ?_
                                  refine x_get (ci := 6) F 7 (x_in inM) rfl (by decide) (x_m kfM_20) dM_readsCode_259 (x_up_k (x_up_k h0 (by omega)) (by omega)) rfl ?_
                                  refine x_iload_n F 4 dM_readsCode_262 rfl rfl ?_
                                  refine x_lald F dM_readsCode_263 x_up_s (pk_in (120 + n) (160) (by omega)) ?_
                                  refine xW.tol (lN (cN tx (q + rM tx sn q) (rD tx sn (q + rM tx sn q)))) (by rw [nI_clamp (by omega)]; exact vp_us) ?_
                                  refine x_aload_n F 6 dM_readsCode_264 rfl rfl ?_
                                  refine x_get (ci := 6) F 7 (x_in inM) rfl (by decide) (x_m kfM_20) dM_readsCode_265 (x_up_k (x_up_k h0 (by omega)) (by omega)) rfl ?_
                                  refine x_iload_n F 4 dM_readsCode_268 rfl rfl ?_
                                  refine x_iconst F (v := nI (1)) dM_readsCode_269 (by decide) ?_
                                  refine x_isub F dM_readsCode_270 ?_
                                  refine xW.toi (nI (120 + n0)) (by rw [hn1]; exact nI_pred (120 + n0)) ?_
                                  refine x_lald F dM_readsCode_271 x_up_s (pk_in (120 + n0) (160) (by omega)) ?_
                                  refine xW.tol (lN (xs n0)) (by rw [nI_clamp (by omega)]; exact (updL_ne (by omega)).trans (hcd n0 (by omega)).1) ?_
                                  refine yS (n := 2) (As := [.long (lN (cN tx (q + rM tx sn q) (rD tx sn (q + rM tx sn q)))), .long (lN (xs n0))]) F kmM_126 ktM_isBehind knM kcM_isBehind (by decide +kernel) dM_readsCode_272 (cM_isBehind l (nx) (x_up (x_up M (a + 4) (.inl (.int, 160, .inl (upd (ds) (120 + n) (nI (rM tx sn q)))))) (a + 3) (.inl (.long, 160, .inr (.inl (vp_updL (cd) (120 + n) (lN (cN tx (q + rM tx sn q) (rD tx sn (q + rM tx sn q))))))))) (cN tx (q + rM tx sn q) (rD tx sn (q + rM tx sn q))) (rD tx sn (q + rM tx sn q)) (xs n0) (dg n0) hX10 (hcd n0 (by omega)).2) rfl rfl (Nat.le_of_ble_eq_true rfl) ⟨Nat.le_of_ble_eq_true rfl, Nat.le_of_ble_eq_true rfl⟩ ⟨Nat.le_of_ble_eq_true rfl, Nat.le_of_ble_eq_true rfl⟩ ?_
                                  refine x_if_ne F (tgt := 288) dM_readsCode_275 (by decide) (fun c198 => ?_) (fun c198 => ?_)
                                  · skip
                                    have c198 : (mbh (cN tx (q + rM tx sn q) (rD tx sn (q + rM tx sn q))) (rD tx sn (q + rM tx sn q)) (xs n0) (dg n0)) = true := bI_1 c198
                                    have hbeh : mBeh xs dg n (cN tx (q + rM tx sn q) (rD tx sn (q + rM tx sn q))) (rD tx sn (q + rM tx sn q)) = true := by rw [hn1]; exact c198
                                    refine x_iconst F (v := nI (1)) dM_readsCode_288 (by decide) ?_
                                    refine x_goto F (tgt := 293) dM_readsCode_289 (by decide) ?_
                                    exact x_zret F hr (by rfl) dM_readsCode_293 (by rw [show mrc tx sn ds xs dg n q = none from by rw [mrc, if_neg (fun z => by have z := z.2; rw [c115] at z; cases z), if_neg h70, if_neg c174, if_neg (by omega), if_neg c176, if_neg (by omega), if_neg c179, if_neg (by rw [hbad]; decide), if_neg (by rw [hbeh]; decide)]]; exact ⟨rfl, fun b hb => (x_up_n (by omega)).trans ((x_up_n (by omega)).trans (rfl)), rfl, ⟨(x_up_k (x_up_k h0 (by omega)) (by omega)), (x_up_k (x_up_k h1 (by omega)) (by omega)), (x_up_k (x_up_k h2 (by omega)) (by omega)), x_up_s, (x_up_k x_up_s (by omega)), (x_up_k (x_up_k h5 (by omega)) (by omega)), (x_up_k (x_up_k h6 (by omega)) (by omega)), (x_up_k (x_up_k h7 (by omega)) (by omega)), (x_up_k (x_up_k h8 (by omega)) (by omega)), (x_up_k (x_up_k h9 (by omega)) (by omega)), (x_up_k (x_up_k h10 (by omega)) (by omega)), (x_up_k (x_up_k h11 (by omega)) (by omega)), (x_up_k (x_up_k h12 (by omega)) (by omega)), (x_up_k (x_up_k h13 (by omega)) (by omega)), (x_up_k (x_up_k h14 (by omega)) (by omega)), (x_up_k (x_up_k h15 (by omega)) (by omega)), (x_up_k (x_up_k h16 (by omega)) (by omega)), (x_up_k (x_up_k h17 (by omega)) (by omega)), (x_up_k (x_up_k h18 (by omega)) (by omega)), by omega, by omega, by omega, by omega, by omega, by omega⟩⟩)
                                  · skip
                                    have c198 : (mbh (cN tx (q + rM tx sn q) (rD tx sn (q + rM tx sn q))) (rD tx sn (q + rM tx sn q)) (xs n0) (dg n0)) = false := bI_0 c198
                                    have hbeh : mBeh xs dg n (cN tx (q + rM tx sn q) (rD tx sn (q + rM tx sn q))) (rD tx sn (q + rM tx sn q)) = false := by rw [hn1]; exact c198
                                    refine x_aload_n F 6 dM_readsCode_278 rfl rfl ?_
                                    refine x_iconst F (v := nI (4)) dM_readsCode_279 (by decide) ?_
                                    refine x_iload F 2 dM_readsCode_280 rfl ?_
                                    refine yVr (n := 2) (As := [.int (nI (4)), .int (nI (q + rM tx sn q))]) (ci := 6) F kmM_115 kiM_fails ksM_fails knM kcM_fails (by decide +kernel) dM_readsCode_282 (cM_fails l (nx) (x_up (x_up M (a + 4) (.inl (.int, 160, .inl (upd (ds) (120 + n) (nI (rM tx sn q)))))) (a + 3) (.inl (.long, 160, .inr (.inl (vp_updL (cd) (120 + n) (lN (cN tx (q + rM tx sn q) (rD tx sn (q + rM tx sn q))))))))) (a) th sg sn pr fk fp rws (vp_updL (cd) (120 + n) (lN (cN tx (q + rM tx sn q) (rD tx sn (q + rM tx sn q))))) (upd (ds) (120 + n) (nI (rM tx sn q))) wc wd nn nE nC nK nO ln lF lC lT lO fn fC fP ak ac pt ⟨(x_up_k (x_up_k h0 (by omega)) (by omega)), (x_up_k (x_up_k h1 (by omega)) (by omega)), (x_up_k (x_up_k h2 (by omega)) (by omega)), x_up_s, (x_up_k x_up_s (by omega)), (x_up_k (x_up_k h5 (by omega)) (by omega)), (x_up_k (x_up_k h6 (by omega)) (by omega)), (x_up_k (x_up_k h7 (by omega)) (by omega)), (x_up_k (x_up_k h8 (by omega)) (by omega)), (x_up_k (x_up_k h9 (by omega)) (by omega)), (x_up_k (x_up_k h10 (by omega)) (by omega)), (x_up_k (x_up_k h11 (by omega)) (by omega)), (x_up_k (x_up_k h12 (by omega)) (by omega)), (x_up_k (x_up_k h13 (by omega)) (by omega)), (x_up_k (x_up_k h14 (by omega)) (by omega)), (x_up_k (x_up_k h15 (by omega)) (by omega)), (x_up_k (x_up_k h16 (by omega)) (by omega)), (x_up_k (x_up_k h17 (by omega)) (by omega)), (x_up_k (x_up_k h18 (by omega)) (by omega)), by omega, by omega, by omega, by omega, by omega, by omega⟩ (nI (4)) (nI (q + rM tx sn q))) rfl (x_up_k (x_up_k h0 (by omega)) (by omega)) rfl rfl (Nat.le_of_ble_eq_true rfl) ⟨Nat.le_of_ble_eq_true rfl, Nat.le_of_ble_eq_true rfl⟩ ⟨Nat.le_of_ble_eq_true rfl, Nat.le_of_ble_eq_true rfl⟩ (fun r' n' M601 hp => ?_)
                                    obtain ⟨hr', hn', hM601, hf601⟩ := hp
                                    rw [hn', hr']
                                    obtain ⟨v601_0, v601_1, v601_2, v601_3, v601_4, v601_5, v601_6, v601_7, v601_8, v601_9, v601_10, v601_11, v601_12, v601_13, v601_14, v601_15, v601_16, v601_17, v601_18, vb601_0, vb601_1, vb601_2, vb601_3, vb601_4, vb601_5⟩ := id hM601
                                    show xW p l e ({ frames := 4, cells := 0, slots := 0, locals := 96 } : Room) s m args below meth c D xcl (x_A M nx) 8 (MQ below (x_Q D xcl (x_A M nx) (mcPost nx M a th sg sn pr fk fp rws cd ds wc wd nn nE nC nK nO ln lF lC lT lO fn fC fP ak ac pt n (rM tx sn q) (cN tx (q + rM tx sn q) (rD tx sn (q + rM tx sn q))) (mrc tx sn ds xs dg n q))) args s 0 0 (x_A M nx)) 0 0 (nx) M601 285 [(7, .int ((-1))), (6, .int (nI (rD tx sn (q + rM tx sn q)))), (5, .int (nI (q + rM tx sn q))), (4, .int (nI (rM tx sn q))), (3, .int (nI (120 + n))), (2, .int (nI (n))), (0, .ref (a)), (1, .int (nI (q)))] [.int (nI (0))]
                                    refine x_if_eq F (tgt := 292) dM_readsCode_285 (by decide) (fun c199 => ?_) (fun c199 => ?_)
                                    · skip
                                      have c199 : 0 = 0 := by
                                        exact (nI_eq (a := 0) (b := 0) (by omega) (by omega)).mp c199
                                      refine x_iconst F (v := nI (0)) dM_readsCode_292 (by decide) ?_
                                      exact x_zret F hr (by rfl) dM_readsCode_293 (by rw [show mrc tx sn ds xs dg n q = some (4, q + rM tx sn q) from by rw [mrc, if_neg (fun z => by have z := z.2; rw [c115] at z; cases z), if_neg h70, if_neg c174, if_neg (by omega), if_neg c176, if_neg (by omega), if_neg c179, if_neg (by rw [hbad]; decide), if_pos hbeh]]; exact ⟨rfl, fun b hb => (hf601 _ (by omega)).trans ((x_up_n (by omega)).trans ((x_up_n (by omega)).trans (rfl))), rfl, _, _, (fun i hi => ⟨updL_ne (by omega), upd_ne (by omega)⟩), hM601⟩)
                                    · skip
                                      have c199 : 0 ≠ 0 := by
                                        have z : ¬ (0 = 0) := fun zz => c199 ((nI_eq (a := 0) (b := 0) (by omega) (by omega)).mpr zz)
                                        omega
                                      exact absurd c199 (by decide)
                              · skip
                                have c196 : (mbg (cN tx (q + rM tx sn q) (rD tx sn (q + rM tx sn q))) (rD tx sn (q + rM tx sn q)) (cN tx (q + rM tx sn q) (rD tx sn (q + rM tx sn q))) (rD tx sn (q + rM tx sn q))) = false := bI_0 c196
                                have hla := mUp_la (by omega) hup
                                have hbad : mBad ds xs dg n (rM tx sn q) (cN tx (q + rM tx sn q) (rD tx sn (q + rM tx sn q))) (rD tx sn (q + rM tx sn q)) = true := by rw [mBad, if_neg (by omega), hla]
                                refine x_aload_n F 6 dM_readsCode_246 rfl rfl ?_
                                refine x_iconst F (v := nI (3)) dM_readsCode_247 (by decide) ?_
                                refine x_iload F 2 dM_readsCode_248 rfl ?_
                                refine yVr (n := 2) (As := [.int (nI (3)), .int (nI (q + rM tx sn q))]) (ci := 6) F kmM_115 kiM_fails ksM_fails knM kcM_fails (by decide +kernel) dM_readsCode_250 (cM_fails l (nx) (x_up (x_up M (a + 4) (.inl (.int, 160, .inl (upd (ds) (120 + n) (nI (rM tx sn q)))))) (a + 3) (.inl (.long, 160, .inr (.inl (vp_updL (cd) (120 + n) (lN (cN tx (q + rM tx sn q) (rD tx sn (q + rM tx sn q))))))))) (a) th sg sn pr fk fp rws (vp_updL (cd) (120 + n) (lN (cN tx (q + rM tx sn q) (rD tx sn (q + rM tx sn q))))) (upd (ds) (120 + n) (nI (rM tx sn q))) wc wd nn nE nC nK nO ln lF lC lT lO fn fC fP ak ac pt ⟨(x_up_k (x_up_k h0 (by omega)) (by omega)), (x_up_k (x_up_k h1 (by omega)) (by omega)), (x_up_k (x_up_k h2 (by omega)) (by omega)), x_up_s, (x_up_k x_up_s (by omega)), (x_up_k (x_up_k h5 (by omega)) (by omega)), (x_up_k (x_up_k h6 (by omega)) (by omega)), (x_up_k (x_up_k h7 (by omega)) (by omega)), (x_up_k (x_up_k h8 (by omega)) (by omega)), (x_up_k (x_up_k h9 (by omega)) (by omega)), (x_up_k (x_up_k h10 (by omega)) (by omega)), (x_up_k (x_up_k h11 (by omega)) (by omega)), (x_up_k (x_up_k h12 (by omega)) (by omega)), (x_up_k (x_up_k h13 (by omega)) (by omega)), (x_up_k (x_up_k h14 (by omega)) (by omega)), (x_up_k (x_up_k h15 (by omega)) (by omega)), (x_up_k (x_up_k h16 (by omega)) (by omega)), (x_up_k (x_up_k h17 (by omega)) (by omega)), (x_up_k (x_up_k h18 (by omega)) (by omega)), by omega, by omega, by omega, by omega, by omega, by omega⟩ (nI (3)) (nI (q + rM tx sn q))) rfl (x_up_k (x_up_k h0 (by omega)) (by omega)) rfl rfl (Nat.le_of_ble_eq_true rfl) ⟨Nat.le_of_ble_eq_true rfl, Nat.le_of_ble_eq_true rfl⟩ ⟨Nat.le_of_ble_eq_true rfl, Nat.le_of_ble_eq_true rfl⟩ (fun r' n' M602 hp => ?_)
                                obtain ⟨hr', hn', hM602, hf602⟩ := hp
                                rw [hn', hr']
                                obtain ⟨v602_0, v602_1, v602_2, v602_3, v602_4, v602_5, v602_6, v602_7, v602_8, v602_9, v602_10, v602_11, v602_12, v602_13, v602_14, v602_15, v602_16, v602_17, v602_18, vb602_0, vb602_1, vb602_2, vb602_3, vb602_4, vb602_5⟩ := id hM602
                                show xW p l e ({ frames := 4, cells := 0, slots := 0, locals := 96 } : Room) s m args below meth c D xcl (x_A M nx) 8 (MQ below (x_Q D xcl (x_A M nx) (mcPost nx M a th sg sn pr fk fp rws cd ds wc wd nn nE nC nK nO ln lF lC lT lO fn fC fP ak ac pt n (rM tx sn q) (cN tx (q + rM tx sn q) (rD tx sn (q + rM tx sn q))) (mrc tx sn ds xs dg n q))) args s 0 0 (x_A M nx)) 0 0 (nx) M602 253 [(7, .int ((-1))), (6, .int (nI (rD tx sn (q + rM tx sn q)))), (5, .int (nI (q + rM tx sn q))), (4, .int (nI (rM tx sn q))), (3, .int (nI (120 + n))), (2, .int (nI (n))), (0, .ref (a)), (1, .int (nI (q)))] [.int (nI (0))]
                                exact x_zret F hr (by rfl) dM_readsCode_253 (by rw [show mrc tx sn ds xs dg n q = some (3, q + rM tx sn q) from by rw [mrc, if_neg (fun z => by have z := z.2; rw [c115] at z; cases z), if_neg h70, if_neg c174, if_neg (by omega), if_neg c176, if_neg (by omega), if_neg c179, if_pos hbad]]; exact ⟨rfl, fun b hb => (hf602 _ (by omega)).trans ((x_up_n (by omega)).trans ((x_up_n (by omega)).trans (rfl))), rfl, _, _, (fun i hi => ⟨updL_ne (by omega), upd_ne (by omega)⟩), hM602⟩)
                    · skip
                      have hj : j < n := mUp_lt hup
                      refine xW.ste (st' := [.int (nI (120 + j))]) (by show ([.int (oj 120 (mUp (upd ds (120 + n) (nI (rM tx sn q))) 120 n))] : List Value) = _; rw [hup]; rfl) ?_
                      refine x_istore F [(7, .int (nI (120 + j))), (6, .int (nI (rD tx sn (q + rM tx sn q)))), (5, .int (nI (q + rM tx sn q))), (4, .int (nI (rM tx sn q))), (3, .int (nI (120 + n))), (2, .int (nI (n))), (0, .ref (a)), (1, .int (nI (q)))] dM_readsCode_200 (by decide) rfl ?_
                      refine x_iload F 3 dM_readsCode_202 rfl ?_
                      refine x_if_ne F (tgt := 213) dM_readsCode_204 (by decide) (fun c200 => ?_) (fun c200 => ?_)
                      · skip
                        have c200 : rM tx sn q ≠ 0 := by
                          have z : ¬ (rM tx sn q = 0) := fun zz => c200 ((nI_eq (a := rM tx sn q) (b := 0) (by omega) (by omega)).mpr zz)
                          omega
                        refine x_iload F 3 dM_readsCode_213 rfl ?_
                        refine x_if_le F (tgt := 254) dM_readsCode_215 (by decide) (fun c201 => ?_) (fun c201 => ?_)
                        · skip
                          have c201 : rM tx sn q ≤ 0 := by
                            exact (nI_leI (a := rM tx sn q) (b := 0) (by omega) (by omega)).mp c201
                          have hbad : mBad ds xs dg n (rM tx sn q) (cN tx (q + rM tx sn q) (rD tx sn (q + rM tx sn q))) (rD tx sn (q + rM tx sn q)) = false := by rw [mBad, if_pos (by omega), decide_eq_true (by omega)]; rfl
                          refine x_iload_n F 5 dM_readsCode_254 rfl rfl ?_
                          refine x_if_eq F (tgt := 288) dM_readsCode_255 (by decide) (fun c202 => ?_) (fun c202 => ?_)
                          · skip
                            have c202 : n = 0 := by
                              exact (nI_eq (a := n) (b := 0) (by omega) (by omega)).mp c202
                            have hbeh : mBeh xs dg n (cN tx (q + rM tx sn q) (rD tx sn (q + rM tx sn q))) (rD tx sn (q + rM tx sn q)) = true := by rw [c202]; rfl
                            refine x_iconst F (v := nI (1)) dM_readsCode_288 (by decide) ?_
                            refine x_goto F (tgt := 293) dM_readsCode_289 (by decide) ?_
                            exact x_zret F hr (by rfl) dM_readsCode_293 (by rw [show mrc tx sn ds xs dg n q = none from by rw [mrc, if_neg (fun z => by have z := z.2; rw [c115] at z; cases z), if_neg h70, if_neg c174, if_neg (by omega), if_neg c176, if_neg (by omega), if_neg c179, if_neg (by rw [hbad]; decide), if_neg (by rw [hbeh]; decide)]]; exact ⟨rfl, fun b hb => (x_up_n (by omega)).trans ((x_up_n (by omega)).trans (rfl)), rfl, ⟨(x_up_k (x_up_k h0 (by omega)) (by omega)), (x_up_k (x_up_k h1 (by omega)) (by omega)), (x_up_k (x_up_k h2 (by omega)) (by omega)), x_up_s, (x_up_k x_up_s (by omega)), (x_up_k (x_up_k h5 (by omega)) (by omega)), (x_up_k (x_up_k h6 (by omega)) (by omega)), (x_up_k (x_up_k h7 (by omega)) (by omega)), (x_up_k (x_up_k h8 (by omega)) (by omega)), (x_up_k (x_up_k h9 (by omega)) (by omega)), (x_up_k (x_up_k h10 (by omega)) (by omega)), (x_up_k (x_up_k h11 (by omega)) (by omega)), (x_up_k (x_up_k h12 (by omega)) (by omega)), (x_up_k (x_up_k h13 (by omega)) (by omega)), (x_up_k (x_up_k h14 (by omega)) (by omega)), (x_up_k (x_up_k h15 (by omega)) (by omega)), (x_up_k (x_up_k h16 (by omega)) (by omega)), (x_up_k (x_up_k h17 (by omega)) (by omega)), (x_up_k (x_up_k h18 (by omega)) (by omega)), by omega, by omega, by omega, by omega, by omega, by omega⟩⟩)
                          · skip
                            have c202 : n ≠ 0 := by
                              have z : ¬ (n = 0) := fun zz => c202 ((nI_eq (a := n) (b := 0) (by omega) (by omega)).mpr zz)
                              omega
                            obtain ⟨n0, hn1⟩ : ∃ n0, n = n0 + 1 := ⟨n - 1, by omega⟩
                            refine x_aload_n F 6 dM_readsCode_258 rfl rfl ?_
                            refine x_get (ci := 6) F 7 (x_in inM) rfl (by decide) (x_m kfM_20) dM_readsCode_259 (x_up_k (x_up_k h0 (by omega)) (by omega)) rfl ?_
                            refine x_iload_n F 4 dM_readsCode_262 rfl rfl ?_
                            refine x_lald F dM_readsCode_263 x_up_s (pk_in (120 + n) (160) (by omega)) ?_
                            refine xW.tol (lN (cN tx (q + rM tx sn q) (rD tx sn (q + rM tx sn q)))) (by rw [nI_clamp (by omega)]; exact vp_us) ?_
                            refine x_aload_n F 6 dM_readsCode_264 rfl rfl ?_
                            refine x_get (ci := 6) F 7 (x_in inM) rfl (by decide) (x_m kfM_20) dM_readsCode_265 (x_up_k (x_up_k h0 (by omega)) (by omega)) rfl ?_
                            refine x_iload_n F 4 dM_readsCode_268 rfl rfl ?_
                            refine x_iconst F (v := nI (1)) dM_readsCode_269 (by decide) ?_
                            refine x_isub F dM_readsCode_270 ?_
                            refine xW.toi (nI (120 + n0)) (by rw [hn1]; exact nI_pred (120 + n0)) ?_
                            refine x_lald F dM_readsCode_271 x_up_s (pk_in (120 + n0) (160) (by omega)) ?_
                            refine xW.tol (lN (xs n0)) (by rw [nI_clamp (by omega)]; exact (updL_ne (by omega)).trans (hcd n0 (by omega)).1) ?_
                            refine yS (n := 2) (As := [.long (lN (cN tx (q + rM tx sn q) (rD tx sn (q + rM tx sn q)))), .long (lN (xs n0))]) F kmM_126 ktM_isBehind knM kcM_isBehind (by decide +kernel) dM_readsCode_272 (cM_isBehind l (nx) (x_up (x_up M (a + 4) (.inl (.int, 160, .inl (upd (ds) (120 + n) (nI (rM tx sn q)))))) (a + 3) (.inl (.long, 160, .inr (.inl (vp_updL (cd) (120 + n) (lN (cN tx (q + rM tx sn q) (rD tx sn (q + rM tx sn q))))))))) (cN tx (q + rM tx sn q) (rD tx sn (q + rM tx sn q))) (rD tx sn (q + rM tx sn q)) (xs n0) (dg n0) hX10 (hcd n0 (by omega)).2) rfl rfl (Nat.le_of_ble_eq_true rfl) ⟨Nat.le_of_ble_eq_true rfl, Nat.le_of_ble_eq_true rfl⟩ ⟨Nat.le_of_ble_eq_true rfl, Nat.le_of_ble_eq_true rfl⟩ ?_
                            refine x_if_ne F (tgt := 288) dM_readsCode_275 (by decide) (fun c203 => ?_) (fun c203 => ?_)
                            · skip
                              have c203 : (mbh (cN tx (q + rM tx sn q) (rD tx sn (q + rM tx sn q))) (rD tx sn (q + rM tx sn q)) (xs n0) (dg n0)) = true := bI_1 c203
                              have hbeh : mBeh xs dg n (cN tx (q + rM tx sn q) (rD tx sn (q + rM tx sn q))) (rD tx sn (q + rM tx sn q)) = true := by rw [hn1]; exact c203
                              refine x_iconst F (v := nI (1)) dM_readsCode_288 (by decide) ?_
                              refine x_goto F (tgt := 293) dM_readsCode_289 (by decide) ?_
                              exact x_zret F hr (by rfl) dM_readsCode_293 (by rw [show mrc tx sn ds xs dg n q = none from by rw [mrc, if_neg (fun z => by have z := z.2; rw [c115] at z; cases z), if_neg h70, if_neg c174, if_neg (by omega), if_neg c176, if_neg (by omega), if_neg c179, if_neg (by rw [hbad]; decide), if_neg (by rw [hbeh]; decide)]]; exact ⟨rfl, fun b hb => (x_up_n (by omega)).trans ((x_up_n (by omega)).trans (rfl)), rfl, ⟨(x_up_k (x_up_k h0 (by omega)) (by omega)), (x_up_k (x_up_k h1 (by omega)) (by omega)), (x_up_k (x_up_k h2 (by omega)) (by omega)), x_up_s, (x_up_k x_up_s (by omega)), (x_up_k (x_up_k h5 (by omega)) (by omega)), (x_up_k (x_up_k h6 (by omega)) (by omega)), (x_up_k (x_up_k h7 (by omega)) (by omega)), (x_up_k (x_up_k h8 (by omega)) (by omega)), (x_up_k (x_up_k h9 (by omega)) (by omega)), (x_up_k (x_up_k h10 (by omega)) (by omega)), (x_up_k (x_up_k h11 (by omega)) (by omega)), (x_up_k (x_up_k h12 (by omega)) (by omega)), (x_up_k (x_up_k h13 (by omega)) (by omega)), (x_up_k (x_up_k h14 (by omega)) (by omega)), (x_up_k (x_up_k h15 (by omega)) (by omega)), (x_up_k (x_up_k h16 (by omega)) (by omega)), (x_up_k (x_up_k h17 (by omega)) (by omega)), (x_up_k (x_up_k h18 (by omega)) (by omega)), by omega, by omega, by omega, by omega, by omega, by omega⟩⟩)
                            · skip
                              have c203 : (mbh (cN tx (q + rM tx sn q) (rD tx sn (q + rM tx sn q))) (rD tx sn (q + rM tx sn q)) (xs n0) (dg n0)) = false := bI_0 c203
                              have hbeh : mBeh xs dg n (cN tx (q + rM tx sn q) (rD tx sn (q + rM tx sn q))) (rD tx sn (q + rM tx sn q)) = false := by rw [hn1]; exact c203
                              refine x_aload_n F 6 dM_readsCode_278 rfl rfl ?_
                              refine x_iconst F (v := nI (4)) dM_readsCode_279 (by decide) ?_
                              refine x_iload F 2 dM_readsCode_280 rfl ?_
                              refine yVr (n := 2) (As := [.int (nI (4)), .int (nI (q + rM tx sn q))]) (ci := 6) F kmM_115 kiM_fails ksM_fails knM kcM_fails (by decide +kernel) dM_readsCode_282 (cM_fails l (nx) (x_up (x_up M (a + 4) (.inl (.int, 160, .inl (upd (ds) (120 + n) (nI (rM tx sn q)))))) (a + 3) (.inl (.long, 160, .inr (.inl (vp_updL (cd) (120 + n) (lN (cN tx (q + rM tx sn q) (rD tx sn (q + rM tx sn q))))))))) (a) th sg sn pr fk fp rws (vp_updL (cd) (120 + n) (lN (cN tx (q + rM tx sn q) (rD tx sn (q + rM tx sn q))))) (upd (ds) (120 + n) (nI (rM tx sn q))) wc wd nn nE nC nK nO ln lF lC lT lO fn fC fP ak ac pt ⟨(x_up_k (x_up_k h0 (by omega)) (by omega)), (x_up_k (x_up_k h1 (by omega)) (by omega)), (x_up_k (x_up_k h2 (by omega)) (by omega)), x_up_s, (x_up_k x_up_s (by omega)), (x_up_k (x_up_k h5 (by omega)) (by omega)), (x_up_k (x_up_k h6 (by omega)) (by omega)), (x_up_k (x_up_k h7 (by omega)) (by omega)), (x_up_k (x_up_k h8 (by omega)) (by omega)), (x_up_k (x_up_k h9 (by omega)) (by omega)), (x_up_k (x_up_k h10 (by omega)) (by omega)), (x_up_k (x_up_k h11 (by omega)) (by omega)), (x_up_k (x_up_k h12 (by omega)) (by omega)), (x_up_k (x_up_k h13 (by omega)) (by omega)), (x_up_k (x_up_k h14 (by omega)) (by omega)), (x_up_k (x_up_k h15 (by omega)) (by omega)), (x_up_k (x_up_k h16 (by omega)) (by omega)), (x_up_k (x_up_k h17 (by omega)) (by omega)), (x_up_k (x_up_k h18 (by omega)) (by omega)), by omega, by omega, by omega, by omega, by omega, by omega⟩ (nI (4)) (nI (q + rM tx sn q))) rfl (x_up_k (x_up_k h0 (by omega)) (by omega)) rfl rfl (Nat.le_of_ble_eq_true rfl) ⟨Nat.le_of_ble_eq_true rfl, Nat.le_of_ble_eq_true rfl⟩ ⟨Nat.le_of_ble_eq_true rfl, Nat.le_of_ble_eq_true rfl⟩ (fun r' n' M603 hp => ?_)
                              obtain ⟨hr', hn', hM603, hf603⟩ := hp
                              rw [hn', hr']
                              obtain ⟨v603_0, v603_1, v603_2, v603_3, v603_4, v603_5, v603_6, v603_7, v603_8, v603_9, v603_10, v603_11, v603_12, v603_13, v603_14, v603_15, v603_16, v603_17, v603_18, vb603_0, vb603_1, vb603_2, vb603_3, vb603_4, vb603_5⟩ := id hM603
                              show xW p l e ({ frames := 4, cells := 0, slots := 0, locals := 96 } : Room) s m args below meth c D xcl (x_A M nx) 8 (MQ below (x_Q D xcl (x_A M nx) (mcPost nx M a th sg sn pr fk fp rws cd ds wc wd nn nE nC nK nO ln lF lC lT lO fn fC fP ak ac pt n (rM tx sn q) (cN tx (q + rM tx sn q) (rD tx sn (q + rM tx sn q))) (mrc tx sn ds xs dg n q))) args s 0 0 (x_A M nx)) 0 0 (nx) M603 285 [(7, .int (nI (120 + j))), (6, .int (nI (rD tx sn (q + rM tx sn q)))), (5, .int (nI (q + rM tx sn q))), (4, .int (nI (rM tx sn q))), (3, .int (nI (120 + n))), (2, .int (nI (n))), (0, .ref (a)), (1, .int (nI (q)))] [.int (nI (0))]
                              refine x_if_eq F (tgt := 292) dM_readsCode_285 (by decide) (fun c204 => ?_) (fun c204 => ?_)
                              · skip
                                have c204 : 0 = 0 := by
                                  exact (nI_eq (a := 0) (b := 0) (by omega) (by omega)).mp c204
                                refine x_iconst F (v := nI (0)) dM_readsCode_292 (by decide) ?_
                                exact x_zret F hr (by rfl) dM_readsCode_293 (by rw [show mrc tx sn ds xs dg n q = some (4, q + rM tx sn q) from by rw [mrc, if_neg (fun z => by have z := z.2; rw [c115] at z; cases z), if_neg h70, if_neg c174, if_neg (by omega), if_neg c176, if_neg (by omega), if_neg c179, if_neg (by rw [hbad]; decide), if_pos hbeh]]; exact ⟨rfl, fun b hb => (hf603 _ (by omega)).trans ((x_up_n (by omega)).trans ((x_up_n (by omega)).trans (rfl))), rfl, _, _, (fun i hi => ⟨updL_ne (by omega), upd_ne (by omega)⟩), hM603⟩)
                              · skip
                                have c204 : 0 ≠ 0 := by
                                  have z : ¬ (0 = 0) := fun zz => c204 ((nI_eq (a := 0) (b := 0) (by omega) (by omega)).mpr zz)
                                  omega
                                exact absurd c204 (by decide)
                        · skip
                          have c201 : 0 < rM tx sn q := by
                            have z : ¬ (rM tx sn q ≤ 0) := fun zz => c201 ((nI_leI (a := rM tx sn q) (b := 0) (by omega) (by omega)).mpr zz)
                            omega
                          refine x_aload_n F 6 dM_readsCode_218 rfl rfl ?_
                          refine x_get (ci := 6) F 7 (x_in inM) rfl (by decide) (x_m kfM_20) dM_readsCode_219 (x_up_k (x_up_k h0 (by omega)) (by omega)) rfl ?_
                          refine x_iload_n F 4 dM_readsCode_222 rfl rfl ?_
                          refine x_lald F dM_readsCode_223 x_up_s (pk_in (120 + n) (160) (by omega)) ?_
                          refine xW.tol (lN (cN tx (q + rM tx sn q) (rD tx sn (q + rM tx sn q)))) (by rw [nI_clamp (by omega)]; exact vp_us) ?_
                          refine x_aload_n F 6 dM_readsCode_224 rfl rfl ?_
                          refine x_get (ci := 6) F 7 (x_in inM) rfl (by decide) (x_m kfM_20) dM_readsCode_225 (x_up_k (x_up_k h0 (by omega)) (by omega)) rfl ?_
                          refine x_iload F 0 dM_readsCode_228 rfl ?_
                          refine x_if_ge F (tgt := 237) dM_readsCode_230 (by decide) (fun c205 => ?_) (fun c205 => ?_)
                          · skip
                            have c205 : 0 ≤ 120 + j := by
                              exact (nI_leI (a := 0) (b := 120 + j) (by omega) (by omega)).mp c205
                            refine x_iload F 0 dM_readsCode_237 rfl ?_
                            refine x_lald F dM_readsCode_239 x_up_s (pk_in (120 + j) (160) (by omega)) ?_
                            refine xW.tol (lN (xs j)) (by rw [nI_clamp (by omega)]; exact (updL_ne (by omega)).trans (hcd j hj).1) ?_
                            refine yS (n := 2) (As := [.long (lN (cN tx (q + rM tx sn q) (rD tx sn (q + rM tx sn q)))), .long (lN (xs j))]) F kmM_107 ktM_begins knM kcM_begins (by decide +kernel) dM_readsCode_240 (cM_begins l (nx) (x_up (x_up M (a + 4) (.inl (.int, 160, .inl (upd (ds) (120 + n) (nI (rM tx sn q)))))) (a + 3) (.inl (.long, 160, .inr (.inl (vp_updL (cd) (120 + n) (lN (cN tx (q + rM tx sn q) (rD tx sn (q + rM tx sn q))))))))) (cN tx (q + rM tx sn q) (rD tx sn (q + rM tx sn q))) (rD tx sn (q + rM tx sn q)) (xs j) (dg j) hX10 (hcd j hj).2) rfl rfl (Nat.le_of_ble_eq_true rfl) ⟨Nat.le_of_ble_eq_true rfl, Nat.le_of_ble_eq_true rfl⟩ ⟨Nat.le_of_ble_eq_true rfl, Nat.le_of_ble_eq_true rfl⟩ ?_
                            refine x_if_ne F (tgt := 254) dM_readsCode_243 (by decide) (fun c206 => ?_) (fun c206 => ?_)
                            · skip
                              have c206 : (mbg (cN tx (q + rM tx sn q) (rD tx sn (q + rM tx sn q))) (rD tx sn (q + rM tx sn q)) (xs j) (dg j)) = true := bI_1 c206
                              have hla := mUp_la (by omega) hup
                              have hbad : mBad ds xs dg n (rM tx sn q) (cN tx (q + rM tx sn q) (rD tx sn (q + rM tx sn q))) (rD tx sn (q + rM tx sn q)) = false := by rw [mBad, if_neg (by omega), hla]; show (! mbg (cN tx (q + rM tx sn q) (rD tx sn (q + rM tx sn q))) (rD tx sn (q + rM tx sn q)) (xs j) (dg j)) = false; rw [c206]; rfl
                              refine x_iload_n F 5 dM_readsCode_254 rfl rfl ?_
                              refine x_if_eq F (tgt := 288) dM_readsCode_255 (by decide) (fun c207 => ?_) (fun c207 => ?_)
                              · skip
                                have c207 : n = 0 := by
                                  exact (nI_eq (a := n) (b := 0) (by omega) (by omega)).mp c207
                                have hbeh : mBeh xs dg n (cN tx (q + rM tx sn q) (rD tx sn (q + rM tx sn q))) (rD tx sn (q + rM tx sn q)) = true := by rw [c207]; rfl
                                refine x_iconst F (v := nI (1)) dM_readsCode_288 (by decide) ?_
                                refine x_goto F (tgt := 293) dM_readsCode_289 (by decide) ?_
                                exact x_zret F hr (by rfl) dM_readsCode_293 (by rw [show mrc tx sn ds xs dg n q = none from by rw [mrc, if_neg (fun z => by have z := z.2; rw [c115] at z; cases z), if_neg h70, if_neg c174, if_neg (by omega), if_neg c176, if_neg (by omega), if_neg c179, if_neg (by rw [hbad]; decide), if_neg (by rw [hbeh]; decide)]]; exact ⟨rfl, fun b hb => (x_up_n (by omega)).trans ((x_up_n (by omega)).trans (rfl)), rfl, ⟨(x_up_k (x_up_k h0 (by omega)) (by omega)), (x_up_k (x_up_k h1 (by omega)) (by omega)), (x_up_k (x_up_k h2 (by omega)) (by omega)), x_up_s, (x_up_k x_up_s (by omega)), (x_up_k (x_up_k h5 (by omega)) (by omega)), (x_up_k (x_up_k h6 (by omega)) (by omega)), (x_up_k (x_up_k h7 (by omega)) (by omega)), (x_up_k (x_up_k h8 (by omega)) (by omega)), (x_up_k (x_up_k h9 (by omega)) (by omega)), (x_up_k (x_up_k h10 (by omega)) (by omega)), (x_up_k (x_up_k h11 (by omega)) (by omega)), (x_up_k (x_up_k h12 (by omega)) (by omega)), (x_up_k (x_up_k h13 (by omega)) (by omega)), (x_up_k (x_up_k h14 (by omega)) (by omega)), (x_up_k (x_up_k h15 (by omega)) (by omega)), (x_up_k (x_up_k h16 (by omega)) (by omega)), (x_up_k (x_up_k h17 (by omega)) (by omega)), (x_up_k (x_up_k h18 (by omega)) (by omega)), by omega, by omega, by omega, by omega, by omega, by omega⟩⟩)
                              · skip
                                have c207 : n ≠ 0 := by
                                  have z : ¬ (n = 0) := fun zz => c207 ((nI_eq (a := n) (b := 0) (by omega) (by omega)).mpr zz)
                                  omega
                                obtain ⟨n0, hn1⟩ : ∃ n0, n = n0 + 1 := ⟨n - 1, by omega⟩
                                refine x_aload_n F 6 dM_readsCode_258 rfl rfl ?_
                                refine x_get (ci := 6) F 7 (x_in inM) rfl (by decide) (x_m kfM_20) dM_readsCode_259 (x_up_k (x_up_k h0 (by omega)) (by omega)) rfl ?_
                                refine x_iload_n F 4 dM_readsCode_262 rfl rfl ?_
                                refine x_lald F dM_readsCode_263 x_up_s (pk_in (120 + n) (160) (by omega)) ?_
                                refine xW.tol (lN (cN tx (q + rM tx sn q) (rD tx sn (q + rM tx sn q)))) (by rw [nI_clamp (by omega)]; exact vp_us) ?_
                                refine x_aload_n F 6 dM_readsCode_264 rfl rfl ?_
                                refine x_get (ci := 6) F 7 (x_in inM) rfl (by decide) (x_m kfM_20) dM_readsCode_265 (x_up_k (x_up_k h0 (by omega)) (by omega)) rfl ?_
                                refine x_iload_n F 4 dM_readsCode_268 rfl rfl ?_
                                refine x_iconst F (v := nI (1)) dM_readsCode_269 (by decide) ?_
                                refine x_isub F dM_readsCode_270 ?_
                                refine xW.toi (nI (120 + n0)) (by rw [hn1]; exact nI_pred (120 + n0)) ?_
                                refine x_lald F dM_readsCode_271 x_up_s (pk_in (120 + n0) (160) (by omega)) ?_
                                refine xW.tol (lN (xs n0)) (by rw [nI_clamp (by omega)]; exact (updL_ne (by omega)).trans (hcd n0 (by omega)).1) ?_
                                refine yS (n := 2) (As := [.long (lN (cN tx (q + rM tx sn q) (rD tx sn (q + rM tx sn q)))), .long (lN (xs n0))]) F kmM_126 ktM_isBehind knM kcM_isBehind (by decide +kernel) dM_readsCode_272 (cM_isBehind l (nx) (x_up (x_up M (a + 4) (.inl (.int, 160, .inl (upd (ds) (120 + n) (nI (rM tx sn q)))))) (a + 3) (.inl (.long, 160, .inr (.inl (vp_updL (cd) (120 + n) (lN (cN tx (q + rM tx sn q) (rD tx sn (q + rM tx sn q))))))))) (cN tx (q + rM tx sn q) (rD tx sn (q + rM tx sn q))) (rD tx sn (q + rM tx sn q)) (xs n0) (dg n0) hX10 (hcd n0 (by omega)).2) rfl rfl (Nat.le_of_ble_eq_true rfl) ⟨Nat.le_of_ble_eq_true rfl, Nat.le_of_ble_eq_true rfl⟩ ⟨Nat.le_of_ble_eq_true rfl, Nat.le_of_ble_eq_true rfl⟩ ?_
                                refine x_if_ne F (tgt := 288) dM_readsCode_275 (by decide) (fun c208 => ?_) (fun c208 => ?_)
                                · skip
                                  have c208 : (mbh (cN tx (q + rM tx sn q) (rD tx sn (q + rM tx sn q))) (rD tx sn (q + rM tx sn q)) (xs n0) (dg n0)) = true := bI_1 c208
                                  have hbeh : mBeh xs dg n (cN tx (q + rM tx sn q) (rD tx sn (q + rM tx sn q))) (rD tx sn (q + rM tx sn q)) = true := by rw [hn1]; exact c208
                                  refine x_iconst F (v := nI (1)) dM_readsCode_288 (by decide) ?_
                                  refine x_goto F (tgt := 293) dM_readsCode_289 (by decide) ?_
                                  exact x_zret F hr (by rfl) dM_readsCode_293 (by rw [show mrc tx sn ds xs dg n q = none from by rw [mrc, if_neg (fun z => by have z := z.2; rw [c115] at z; cases z), if_neg h70, if_neg c174, if_neg (by omega), if_neg c176, if_neg (by omega), if_neg c179, if_neg (by rw [hbad]; decide), if_neg (by rw [hbeh]; decide)]]; exact ⟨rfl, fun b hb => (x_up_n (by omega)).trans ((x_up_n (by omega)).trans (rfl)), rfl, ⟨(x_up_k (x_up_k h0 (by omega)) (by omega)), (x_up_k (x_up_k h1 (by omega)) (by omega)), (x_up_k (x_up_k h2 (by omega)) (by omega)), x_up_s, (x_up_k x_up_s (by omega)), (x_up_k (x_up_k h5 (by omega)) (by omega)), (x_up_k (x_up_k h6 (by omega)) (by omega)), (x_up_k (x_up_k h7 (by omega)) (by omega)), (x_up_k (x_up_k h8 (by omega)) (by omega)), (x_up_k (x_up_k h9 (by omega)) (by omega)), (x_up_k (x_up_k h10 (by omega)) (by omega)), (x_up_k (x_up_k h11 (by omega)) (by omega)), (x_up_k (x_up_k h12 (by omega)) (by omega)), (x_up_k (x_up_k h13 (by omega)) (by omega)), (x_up_k (x_up_k h14 (by omega)) (by omega)), (x_up_k (x_up_k h15 (by omega)) (by omega)), (x_up_k (x_up_k h16 (by omega)) (by omega)), (x_up_k (x_up_k h17 (by omega)) (by omega)), (x_up_k (x_up_k h18 (by omega)) (by omega)), by omega, by omega, by omega, by omega, by omega, by omega⟩⟩)
                                · skip
                                  have c208 : (mbh (cN tx (q + rM tx sn q) (rD tx sn (q + rM tx sn q))) (rD tx sn (q + rM tx sn q)) (xs n0) (dg n0)) = false := bI_0 c208
                                  have hbeh : mBeh xs dg n (cN tx (q + rM tx sn q) (rD tx sn (q + rM tx sn q))) (rD tx sn (q + rM tx sn q)) = false := by rw [hn1]; exact c208
                                  refine x_aload_n F 6 dM_readsCode_278 rfl rfl ?_
                                  refine x_iconst F (v := nI (4)) dM_readsCode_279 (by decide) ?_
                                  refine x_iload F 2 dM_readsCode_280 rfl ?_
                                  refine yVr (n := 2) (As := [.int (nI (4)), .int (nI (q + rM tx sn q))]) (ci := 6) F kmM_115 kiM_fails ksM_fails knM kcM_fails (by decide +kernel) dM_readsCode_282 (cM_fails l (nx) (x_up (x_up M (a + 4) (.inl (.int, 160, .inl (upd (ds) (120 + n) (nI (rM tx sn q)))))) (a + 3) (.inl (.long, 160, .inr (.inl (vp_updL (cd) (120 + n) (lN (cN tx (q + rM tx sn q) (rD tx sn (q + rM tx sn q))))))))) (a) th sg sn pr fk fp rws (vp_updL (cd) (120 + n) (lN (cN tx (q + rM tx sn q) (rD tx sn (q + rM tx sn q))))) (upd (ds) (120 + n) (nI (rM tx sn q))) wc wd nn nE nC nK nO ln lF lC lT lO fn fC fP ak ac pt ⟨(x_up_k (x_up_k h0 (by omega)) (by omega)), (x_up_k (x_up_k h1 (by omega)) (by omega)), (x_up_k (x_up_k h2 (by omega)) (by omega)), x_up_s, (x_up_k x_up_s (by omega)), (x_up_k (x_up_k h5 (by omega)) (by omega)), (x_up_k (x_up_k h6 (by omega)) (by omega)), (x_up_k (x_up_k h7 (by omega)) (by omega)), (x_up_k (x_up_k h8 (by omega)) (by omega)), (x_up_k (x_up_k h9 (by omega)) (by omega)), (x_up_k (x_up_k h10 (by omega)) (by omega)), (x_up_k (x_up_k h11 (by omega)) (by omega)), (x_up_k (x_up_k h12 (by omega)) (by omega)), (x_up_k (x_up_k h13 (by omega)) (by omega)), (x_up_k (x_up_k h14 (by omega)) (by omega)), (x_up_k (x_up_k h15 (by omega)) (by omega)), (x_up_k (x_up_k h16 (by omega)) (by omega)), (x_up_k (x_up_k h17 (by omega)) (by omega)), (x_up_k (x_up_k h18 (by omega)) (by omega)), by omega, by omega, by omega, by omega, by omega, by omega⟩ (nI (4)) (nI (q + rM tx sn q))) rfl (x_up_k (x_up_k h0 (by omega)) (by omega)) rfl rfl (Nat.le_of_ble_eq_true rfl) ⟨Nat.le_of_ble_eq_true rfl, Nat.le_of_ble_eq_true rfl⟩ ⟨Nat.le_of_ble_eq_true rfl, Nat.le_of_ble_eq_true rfl⟩ (fun r' n' M604 hp => ?_)
                                  obtain ⟨hr', hn', hM604, hf604⟩ := hp
                                  rw [hn', hr']
                                  obtain ⟨v604_0, v604_1, v604_2, v604_3, v604_4, v604_5, v604_6, v604_7, v604_8, v604_9, v604_10, v604_11, v604_12, v604_13, v604_14, v604_15, v604_16, v604_17, v604_18, vb604_0, vb604_1, vb604_2, vb604_3, vb604_4, vb604_5⟩ := id hM604
                                  show xW p l e ({ frames := 4, cells := 0, slots := 0, locals := 96 } : Room) s m args below meth c D xcl (x_A M nx) 8 (MQ below (x_Q D xcl (x_A M nx) (mcPost nx M a th sg sn pr fk fp rws cd ds wc wd nn nE nC nK nO ln lF lC lT lO fn fC fP ak ac pt n (rM tx sn q) (cN tx (q + rM tx sn q) (rD tx sn (q + rM tx sn q))) (mrc tx sn ds xs dg n q))) args s 0 0 (x_A M nx)) 0 0 (nx) M604 285 [(7, .int (nI (120 + j))), (6, .int (nI (rD tx sn (q + rM tx sn q)))), (5, .int (nI (q + rM tx sn q))), (4, .int (nI (rM tx sn q))), (3, .int (nI (120 + n))), (2, .int (nI (n))), (0, .ref (a)), (1, .int (nI (q)))] [.int (nI (0))]
                                  refine x_if_eq F (tgt := 292) dM_readsCode_285 (by decide) (fun c209 => ?_) (fun c209 => ?_)
                                  · skip
                                    have c209 : 0 = 0 := by
                                      exact (nI_eq (a := 0) (b := 0) (by omega) (by omega)).mp c209
                                    refine x_iconst F (v := nI (0)) dM_readsCode_292 (by decide) ?_
                                    exact x_zret F hr (by rfl) dM_readsCode_293 (by rw [show mrc tx sn ds xs dg n q = some (4, q + rM tx sn q) from by rw [mrc, if_neg (fun z => by have z := z.2; rw [c115] at z; cases z), if_neg h70, if_neg c174, if_neg (by omega), if_neg c176, if_neg (by omega), if_neg c179, if_neg (by rw [hbad]; decide), if_pos hbeh]]; exact ⟨rfl, fun b hb => (hf604 _ (by omega)).trans ((x_up_n (by omega)).trans ((x_up_n (by omega)).trans (rfl))), rfl, _, _, (fun i hi => ⟨updL_ne (by omega), upd_ne (by omega)⟩), hM604⟩)
                                  · skip
                                    have c209 : 0 ≠ 0 := by
                                      have z : ¬ (0 = 0) := fun zz => c209 ((nI_eq (a := 0) (b := 0) (by omega) (by omega)).mpr zz)
                                      omega
                                    exact absurd c209 (by decide)
                            · skip
                              have c206 : (mbg (cN tx (q + rM tx sn q) (rD tx sn (q + rM tx sn q))) (rD tx sn (q + rM tx sn q)) (xs j) (dg j)) = false := bI_0 c206
                              have hla := mUp_la (by omega) hup
                              have hbad : mBad ds xs dg n (rM tx sn q) (cN tx (q + rM tx sn q) (rD tx sn (q + rM tx sn q))) (rD tx sn (q + rM tx sn q)) = true := by rw [mBad, if_neg (by omega), hla]; show (! mbg (cN tx (q + rM tx sn q) (rD tx sn (q + rM tx sn q))) (rD tx sn (q + rM tx sn q)) (xs j) (dg j)) = true; rw [c206]; rfl
                              refine x_aload_n F 6 dM_readsCode_246 rfl rfl ?_
                              refine x_iconst F (v := nI (3)) dM_readsCode_247 (by decide) ?_
                              refine x_iload F 2 dM_readsCode_248 rfl ?_
                              refine yVr (n := 2) (As := [.int (nI (3)), .int (nI (q + rM tx sn q))]) (ci := 6) F kmM_115 kiM_fails ksM_fails knM kcM_fails (by decide +kernel) dM_readsCode_250 (cM_fails l (nx) (x_up (x_up M (a + 4) (.inl (.int, 160, .inl (upd (ds) (120 + n) (nI (rM tx sn q)))))) (a + 3) (.inl (.long, 160, .inr (.inl (vp_updL (cd) (120 + n) (lN (cN tx (q + rM tx sn q) (rD tx sn (q + rM tx sn q))))))))) (a) th sg sn pr fk fp rws (vp_updL (cd) (120 + n) (lN (cN tx (q + rM tx sn q) (rD tx sn (q + rM tx sn q))))) (upd (ds) (120 + n) (nI (rM tx sn q))) wc wd nn nE nC nK nO ln lF lC lT lO fn fC fP ak ac pt ⟨(x_up_k (x_up_k h0 (by omega)) (by omega)), (x_up_k (x_up_k h1 (by omega)) (by omega)), (x_up_k (x_up_k h2 (by omega)) (by omega)), x_up_s, (x_up_k x_up_s (by omega)), (x_up_k (x_up_k h5 (by omega)) (by omega)), (x_up_k (x_up_k h6 (by omega)) (by omega)), (x_up_k (x_up_k h7 (by omega)) (by omega)), (x_up_k (x_up_k h8 (by omega)) (by omega)), (x_up_k (x_up_k h9 (by omega)) (by omega)), (x_up_k (x_up_k h10 (by omega)) (by omega)), (x_up_k (x_up_k h11 (by omega)) (by omega)), (x_up_k (x_up_k h12 (by omega)) (by omega)), (x_up_k (x_up_k h13 (by omega)) (by omega)), (x_up_k (x_up_k h14 (by omega)) (by omega)), (x_up_k (x_up_k h15 (by omega)) (by omega)), (x_up_k (x_up_k h16 (by omega)) (by omega)), (x_up_k (x_up_k h17 (by omega)) (by omega)), (x_up_k (x_up_k h18 (by omega)) (by omega)), by omega, by omega, by omega, by omega, by omega, by omega⟩ (nI (3)) (nI (q + rM tx sn q))) rfl (x_up_k (x_up_k h0 (by omega)) (by omega)) rfl rfl (Nat.le_of_ble_eq_true rfl) ⟨Nat.le_of_ble_eq_true rfl, Nat.le_of_ble_eq_true rfl⟩ ⟨Nat.le_of_ble_eq_true rfl, Nat.le_of_ble_eq_true rfl⟩ (fun r' n' M605 hp => ?_)
                              obtain ⟨hr', hn', hM605, hf605⟩ := hp
                              rw [hn', hr']
                              obtain ⟨v605_0, v605_1, v605_2, v605_3, v605_4, v605_5, v605_6, v605_7, v605_8, v605_9, v605_10, v605_11, v605_12, v605_13, v605_14, v605_15, v605_16, v605_17, v605_18, vb605_0, vb605_1, vb605_2, vb605_3, vb605_4, vb605_5⟩ := id hM605
                              show xW p l e ({ frames := 4, cells := 0, slots := 0, locals := 96 } : Room) s m args below meth c D xcl (x_A M nx) 8 (MQ below (x_Q D xcl (x_A M nx) (mcPost nx M a th sg sn pr fk fp rws cd ds wc wd nn nE nC nK nO ln lF lC lT lO fn fC fP ak ac pt n (rM tx sn q) (cN tx (q + rM tx sn q) (rD tx sn (q + rM tx sn q))) (mrc tx sn ds xs dg n q))) args s 0 0 (x_A M nx)) 0 0 (nx) M605 253 [(7, .int (nI (120 + j))), (6, .int (nI (rD tx sn (q + rM tx sn q)))), (5, .int (nI (q + rM tx sn q))), (4, .int (nI (rM tx sn q))), (3, .int (nI (120 + n))), (2, .int (nI (n))), (0, .ref (a)), (1, .int (nI (q)))] [.int (nI (0))]
                              exact x_zret F hr (by rfl) dM_readsCode_253 (by rw [show mrc tx sn ds xs dg n q = some (3, q + rM tx sn q) from by rw [mrc, if_neg (fun z => by have z := z.2; rw [c115] at z; cases z), if_neg h70, if_neg c174, if_neg (by omega), if_neg c176, if_neg (by omega), if_neg c179, if_pos hbad]]; exact ⟨rfl, fun b hb => (hf605 _ (by omega)).trans ((x_up_n (by omega)).trans ((x_up_n (by omega)).trans (rfl))), rfl, _, _, (fun i hi => ⟨updL_ne (by omega), upd_ne (by omega)⟩), hM605⟩)
                          · skip
                            have c205 : 120 + j < 0 := by
                              have z : ¬ (0 ≤ 120 + j) := fun zz => c205 ((nI_leI (a := 0) (b := 120 + j) (by omega) (by omega)).mpr zz)
                              omega
                            refine x_iload_n F 4 dM_readsCode_233 rfl rfl ?_
                            refine x_goto F (tgt := 239) dM_readsCode_234 (by decide) ?_
                            refine x_lald F dM_readsCode_239 x_up_s (pk_in (120 + n) (160) (by omega)) ?_
                            refine xW.tol (lN (cN tx (q + rM tx sn q) (rD tx sn (q + rM tx sn q)))) (by rw [nI_clamp (by omega)]; exact vp_us) ?_
                            refine yS (n := 2) (As := [.long (lN (cN tx (q + rM tx sn q) (rD tx sn (q + rM tx sn q)))), .long (lN (cN tx (q + rM tx sn q) (rD tx sn (q + rM tx sn q))))]) F kmM_107 ktM_begins knM kcM_begins (by decide +kernel) dM_readsCode_240 (cM_begins l (nx) (x_up (x_up M (a + 4) (.inl (.int, 160, .inl (upd (ds) (120 + n) (nI (rM tx sn q)))))) (a + 3) (.inl (.long, 160, .inr (.inl (vp_updL (cd) (120 + n) (lN (cN tx (q + rM tx sn q) (rD tx sn (q + rM tx sn q))))))))) (cN tx (q + rM tx sn q) (rD tx sn (q + rM tx sn q))) (rD tx sn (q + rM tx sn q)) (cN tx (q + rM tx sn q) (rD tx sn (q + rM tx sn q))) (rD tx sn (q + rM tx sn q)) hX10 hX10) rfl rfl (Nat.le_of_ble_eq_true rfl) ⟨Nat.le_of_ble_eq_true rfl, Nat.le_of_ble_eq_true rfl⟩ ⟨Nat.le_of_ble_eq_true rfl, Nat.le_of_ble_eq_true rfl⟩ ?_
                            refine x_if_ne F (tgt := 254) dM_readsCode_243 (by decide) (fun c210 => ?_) (fun c210 => ?_)
                            · skip
                              have c210 : (mbg (cN tx (q + rM tx sn q) (rD tx sn (q + rM tx sn q))) (rD tx sn (q + rM tx sn q)) (cN tx (q + rM tx sn q) (rD tx sn (q + rM tx sn q))) (rD tx sn (q + rM tx sn q))) = true := bI_1 c210
                              have hla := mUp_la (by omega) hup
                              have hbad : mBad ds xs dg n (rM tx sn q) (cN tx (q + rM tx sn q) (rD tx sn (q + rM tx sn q))) (rD tx sn (q + rM tx sn q)) = false := by rw [mBad, if_neg (by omega), hla]; show (! mbg (cN tx (q + rM tx sn q) (rD tx sn (q + rM tx sn q))) (rD tx sn (q + rM tx sn q)) (xs j) (dg j)) = false; rw [c210]; rfl
                              refine x_iload_n F 5 dM_readsCode_254 rfl rfl ?_
                              refine x_if_eq F (tgt := 288) dM_readsCode_255 (by decide) (fun c211 => ?_) (fun c211 => ?_)
                              · skip
                                have c211 : n = 0 := by
                                  exact (nI_eq (a := n) (b := 0) (by omega) (by omega)).mp c211
                                have hbeh : mBeh xs dg n (cN tx (q + rM tx sn q) (rD tx sn (q + rM tx sn q))) (rD tx sn (q + rM tx sn q)) = true := by rw [c211]; rfl
                                refine x_iconst F (v := nI (1)) dM_readsCode_288 (by decide) ?_
                                refine x_goto F (tgt := 293) dM_readsCode_289 (by decide) ?_
                                exact x_zret F hr (by rfl) dM_readsCode_293 (by rw [show mrc tx sn ds xs dg n q = none from by rw [mrc, if_neg (fun z => by have z := z.2; rw [c115] at z; cases z), if_neg h70, if_neg c174, if_neg (by omega), if_neg c176, if_neg (by omega), if_neg c179, if_neg (by rw [hbad]; decide), if_neg (by rw [hbeh]; decide)]]; exact ⟨rfl, fun b hb => (x_up_n (by omega)).trans ((x_up_n (by omega)).trans (rfl)), rfl, ⟨(x_up_k (x_up_k h0 (by omega)) (by omega)), (x_up_k (x_up_k h1 (by omega)) (by omega)), (x_up_k (x_up_k h2 (by omega)) (by omega)), x_up_s, (x_up_k x_up_s (by omega)), (x_up_k (x_up_k h5 (by omega)) (by omega)), (x_up_k (x_up_k h6 (by omega)) (by omega)), (x_up_k (x_up_k h7 (by omega)) (by omega)), (x_up_k (x_up_k h8 (by omega)) (by omega)), (x_up_k (x_up_k h9 (by omega)) (by omega)), (x_up_k (x_up_k h10 (by omega)) (by omega)), (x_up_k (x_up_k h11 (by omega)) (by omega)), (x_up_k (x_up_k h12 (by omega)) (by omega)), (x_up_k (x_up_k h13 (by omega)) (by omega)), (x_up_k (x_up_k h14 (by omega)) (by omega)), (x_up_k (x_up_k h15 (by omega)) (by omega)), (x_up_k (x_up_k h16 (by omega)) (by omega)), (x_up_k (x_up_k h17 (by omega)) (by omega)), (x_up_k (x_up_k h18 (by omega)) (by omega)), by omega, by omega, by omega, by omega, by omega, by omega⟩⟩)
                              · skip
                                have c211 : n ≠ 0 := by
                                  have z : ¬ (n = 0) := fun zz => c211 ((nI_eq (a := n) (b := 0) (by omega) (by omega)).mpr zz)
                                  omega
                                obtain ⟨n0, hn1⟩ : ∃ n0, n = n0 + 1 := ⟨n - 1, by omega⟩
                                refine x_aload_n F 6 dM_readsCode_258 rfl rfl ?_
                                refine x_get (ci := 6) F 7 (x_in inM) rfl (by decide) (x_m kfM_20) dM_readsCode_259 (x_up_k (x_up_k h0 (by omega)) (by omega)) rfl ?_
                                refine x_iload_n F 4 dM_readsCode_262 rfl rfl ?_
                                refine x_lald F dM_readsCode_263 x_up_s (pk_in (120 + n) (160) (by omega)) ?_
                                refine xW.tol (lN (cN tx (q + rM tx sn q) (rD tx sn (q + rM tx sn q)))) (by rw [nI_clamp (by omega)]; exact vp_us) ?_
                                refine x_aload_n F 6 dM_readsCode_264 rfl rfl ?_
                                refine x_get (ci := 6) F 7 (x_in inM) rfl (by decide) (x_m kfM_20) dM_readsCode_265 (x_up_k (x_up_k h0 (by omega)) (by omega)) rfl ?_
                                refine x_iload_n F 4 dM_readsCode_268 rfl rfl ?_
                                refine x_iconst F (v := nI (1)) dM_readsCode_269 (by decide) ?_
                                refine x_isub F dM_readsCode_270 ?_
                                refine xW.toi (nI (120 + n0)) (by rw [hn1]; exact nI_pred (120 + n0)) ?_
                                refine x_lald F dM_readsCode_271 x_up_s (pk_in (120 + n0) (160) (by omega)) ?_
                                refine xW.tol (lN (xs n0)) (by rw [nI_clamp (by omega)]; exact (updL_ne (by omega)).trans (hcd n0 (by omega)).1) ?_
                                refine yS (n := 2) (As := [.long (lN (cN tx (q + rM tx sn q) (rD tx sn (q + rM tx sn q)))), .long (lN (xs n0))]) F kmM_126 ktM_isBehind knM kcM_isBehind (by decide +kernel) dM_readsCode_272 (cM_isBehind l (nx) (x_up (x_up M (a + 4) (.inl (.int, 160, .inl (upd (ds) (120 + n) (nI (rM tx sn q)))))) (a + 3) (.inl (.long, 160, .inr (.inl (vp_updL (cd) (120 + n) (lN (cN tx (q + rM tx sn q) (rD tx sn (q + rM tx sn q))))))))) (cN tx (q + rM tx sn q) (rD tx sn (q + rM tx sn q))) (rD tx sn (q + rM tx sn q)) (xs n0) (dg n0) hX10 (hcd n0 (by omega)).2) rfl rfl (Nat.le_of_ble_eq_true rfl) ⟨Nat.le_of_ble_eq_true rfl, Nat.le_of_ble_eq_true rfl⟩ ⟨Nat.le_of_ble_eq_true rfl, Nat.le_of_ble_eq_true rfl⟩ ?_
                                refine x_if_ne F (tgt := 288) dM_readsCode_275 (by decide) (fun c212 => ?_) (fun c212 => ?_)
                                · skip
                                  have c212 : (mbh (cN tx (q + rM tx sn q) (rD tx sn (q + rM tx sn q))) (rD tx sn (q + rM tx sn q)) (xs n0) (dg n0)) = true := bI_1 c212
                                  have hbeh : mBeh xs dg n (cN tx (q + rM tx sn q) (rD tx sn (q + rM tx sn q))) (rD tx sn (q + rM tx sn q)) = true := by rw [hn1]; exact c212
                                  refine x_iconst F (v := nI (1)) dM_readsCode_288 (by decide) ?_
                                  refine x_goto F (tgt := 293) dM_readsCode_289 (by decide) ?_
                                  exact x_zret F hr (by rfl) dM_readsCode_293 (by rw [show mrc tx sn ds xs dg n q = none from by rw [mrc, if_neg (fun z => by have z := z.2; rw [c115] at z; cases z), if_neg h70, if_neg c174, if_neg (by omega), if_neg c176, if_neg (by omega), if_neg c179, if_neg (by rw [hbad]; decide), if_neg (by rw [hbeh]; decide)]]; exact ⟨rfl, fun b hb => (x_up_n (by omega)).trans ((x_up_n (by omega)).trans (rfl)), rfl, ⟨(x_up_k (x_up_k h0 (by omega)) (by omega)), (x_up_k (x_up_k h1 (by omega)) (by omega)), (x_up_k (x_up_k h2 (by omega)) (by omega)), x_up_s, (x_up_k x_up_s (by omega)), (x_up_k (x_up_k h5 (by omega)) (by omega)), (x_up_k (x_up_k h6 (by omega)) (by omega)), (x_up_k (x_up_k h7 (by omega)) (by omega)), (x_up_k (x_up_k h8 (by omega)) (by omega)), (x_up_k (x_up_k h9 (by omega)) (by omega)), (x_up_k (x_up_k h10 (by omega)) (by omega)), (x_up_k (x_up_k h11 (by omega)) (by omega)), (x_up_k (x_up_k h12 (by omega)) (by omega)), (x_up_k (x_up_k h13 (by omega)) (by omega)), (x_up_k (x_up_k h14 (by omega)) (by omega)), (x_up_k (x_up_k h15 (by omega)) (by omega)), (x_up_k (x_up_k h16 (by omega)) (by omega)), (x_up_k (x_up_k h17 (by omega)) (by omega)), (x_up_k (x_up_k h18 (by omega)) (by omega)), by omega, by omega, by omega, by omega, by omega, by omega⟩⟩)
                                · skip
                                  have c212 : (mbh (cN tx (q + rM tx sn q) (rD tx sn (q + rM tx sn q))) (rD tx sn (q + rM tx sn q)) (xs n0) (dg n0)) = false := bI_0 c212
                                  have hbeh : mBeh xs dg n (cN tx (q + rM tx sn q) (rD tx sn (q + rM tx sn q))) (rD tx sn (q + rM tx sn q)) = false := by rw [hn1]; exact c212
                                  refine x_aload_n F 6 dM_readsCode_278 rfl rfl ?_
                                  refine x_iconst F (v := nI (4)) dM_readsCode_279 (by decide) ?_
                                  refine x_iload F 2 dM_readsCode_280 rfl ?_
                                  refine yVr (n := 2) (As := [.int (nI (4)), .int (nI (q + rM tx sn q))]) (ci := 6) F kmM_115 kiM_fails ksM_fails knM kcM_fails (by decide +kernel) dM_readsCode_282 (cM_fails l (nx) (x_up (x_up M (a + 4) (.inl (.int, 160, .inl (upd (ds) (120 + n) (nI (rM tx sn q)))))) (a + 3) (.inl (.long, 160, .inr (.inl (vp_updL (cd) (120 + n) (lN (cN tx (q + rM tx sn q) (rD tx sn (q + rM tx sn q))))))))) (a) th sg sn pr fk fp rws (vp_updL (cd) (120 + n) (lN (cN tx (q + rM tx sn q) (rD tx sn (q + rM tx sn q))))) (upd (ds) (120 + n) (nI (rM tx sn q))) wc wd nn nE nC nK nO ln lF lC lT lO fn fC fP ak ac pt ⟨(x_up_k (x_up_k h0 (by omega)) (by omega)), (x_up_k (x_up_k h1 (by omega)) (by omega)), (x_up_k (x_up_k h2 (by omega)) (by omega)), x_up_s, (x_up_k x_up_s (by omega)), (x_up_k (x_up_k h5 (by omega)) (by omega)), (x_up_k (x_up_k h6 (by omega)) (by omega)), (x_up_k (x_up_k h7 (by omega)) (by omega)), (x_up_k (x_up_k h8 (by omega)) (by omega)), (x_up_k (x_up_k h9 (by omega)) (by omega)), (x_up_k (x_up_k h10 (by omega)) (by omega)), (x_up_k (x_up_k h11 (by omega)) (by omega)), (x_up_k (x_up_k h12 (by omega)) (by omega)), (x_up_k (x_up_k h13 (by omega)) (by omega)), (x_up_k (x_up_k h14 (by omega)) (by omega)), (x_up_k (x_up_k h15 (by omega)) (by omega)), (x_up_k (x_up_k h16 (by omega)) (by omega)), (x_up_k (x_up_k h17 (by omega)) (by omega)), (x_up_k (x_up_k h18 (by omega)) (by omega)), by omega, by omega, by omega, by omega, by omega, by omega⟩ (nI (4)) (nI (q + rM tx sn q))) rfl (x_up_k (x_up_k h0 (by omega)) (by omega)) rfl rfl (Nat.le_of_ble_eq_true rfl) ⟨Nat.le_of_ble_eq_true rfl, Nat.le_of_ble_eq_true rfl⟩ ⟨Nat.le_of_ble_eq_true rfl, Nat.le_of_ble_eq_true rfl⟩ (fun r' n' M606 hp => ?_)
                                  obtain ⟨hr', hn', hM606, hf606⟩ := hp
                                  rw [hn', hr']
                                  obtain ⟨v606_0, v606_1, v606_2, v606_3, v606_4, v606_5, v606_6, v606_7, v606_8, v606_9, v606_10, v606_11, v606_12, v606_13, v606_14, v606_15, v606_16, v606_17, v606_18, vb606_0, vb606_1, vb606_2, vb606_3, vb606_4, vb606_5⟩ := id hM606
                                  show xW p l e ({ frames := 4, cells := 0, slots := 0, locals := 96 } : Room) s m args below meth c D xcl (x_A M nx) 8 (MQ below (x_Q D xcl (x_A M nx) (mcPost nx M a th sg sn pr fk fp rws cd ds wc wd nn nE nC nK nO ln lF lC lT lO fn fC fP ak ac pt n (rM tx sn q) (cN tx (q + rM tx sn q) (rD tx sn (q + rM tx sn q))) (mrc tx sn ds xs dg n q))) args s 0 0 (x_A M nx)) 0 0 (nx) M606 285 [(7, .int (nI (120 + j))), (6, .int (nI (rD tx sn (q + rM tx sn q)))), (5, .int (nI (q + rM tx sn q))), (4, .int (nI (rM tx sn q))), (3, .int (nI (120 + n))), (2, .int (nI (n))), (0, .ref (a)), (1, .int (nI (q)))] [.int (nI (0))]
                                  refine x_if_eq F (tgt := 292) dM_readsCode_285 (by decide) (fun c213 => ?_) (fun c213 => ?_)
                                  · skip
                                    have c213 : 0 = 0 := by
                                      exact (nI_eq (a := 0) (b := 0) (by omega) (by omega)).mp c213
                                    refine x_iconst F (v := nI (0)) dM_readsCode_292 (by decide) ?_
                                    exact x_zret F hr (by rfl) dM_readsCode_293 (by rw [show mrc tx sn ds xs dg n q = some (4, q + rM tx sn q) from by rw [mrc, if_neg (fun z => by have z := z.2; rw [c115] at z; cases z), if_neg h70, if_neg c174, if_neg (by omega), if_neg c176, if_neg (by omega), if_neg c179, if_neg (by rw [hbad]; decide), if_pos hbeh]]; exact ⟨rfl, fun b hb => (hf606 _ (by omega)).trans ((x_up_n (by omega)).trans ((x_up_n (by omega)).trans (rfl))), rfl, _, _, (fun i hi => ⟨updL_ne (by omega), upd_ne (by omega)⟩), hM606⟩)
                                  · skip
                                    have c213 : 0 ≠ 0 := by
                                      have z : ¬ (0 = 0) := fun zz => c213 ((nI_eq (a := 0) (b := 0) (by omega) (by omega)).mpr zz)
                                      omega
                                    exact absurd c213 (by decide)
                            · skip
                              have c210 : (mbg (cN tx (q + rM tx sn q) (rD tx sn (q + rM tx sn q))) (rD tx sn (q + rM tx sn q)) (cN tx (q + rM tx sn q) (rD tx sn (q + rM tx sn q))) (rD tx sn (q + rM tx sn q))) = false := bI_0 c210
                              have hla := mUp_la (by omega) hup
                              have hbad : mBad ds xs dg n (rM tx sn q) (cN tx (q + rM tx sn q) (rD tx sn (q + rM tx sn q))) (rD tx sn (q + rM tx sn q)) = true := by rw [mBad, if_neg (by omega), hla]; show (! mbg (cN tx (q + rM tx sn q) (rD tx sn (q + rM tx sn q))) (rD tx sn (q + rM tx sn q)) (xs j) (dg j)) = true; rw [c210]; rfl
                              refine x_aload_n F 6 dM_readsCode_246 rfl rfl ?_
                              refine x_iconst F (v := nI (3)) dM_readsCode_247 (by decide) ?_
                              refine x_iload F 2 dM_readsCode_248 rfl ?_
                              refine yVr (n := 2) (As := [.int (nI (3)), .int (nI (q + rM tx sn q))]) (ci := 6) F kmM_115 kiM_fails ksM_fails knM kcM_fails (by decide +kernel) dM_readsCode_250 (cM_fails l (nx) (x_up (x_up M (a + 4) (.inl (.int, 160, .inl (upd (ds) (120 + n) (nI (rM tx sn q)))))) (a + 3) (.inl (.long, 160, .inr (.inl (vp_updL (cd) (120 + n) (lN (cN tx (q + rM tx sn q) (rD tx sn (q + rM tx sn q))))))))) (a) th sg sn pr fk fp rws (vp_updL (cd) (120 + n) (lN (cN tx (q + rM tx sn q) (rD tx sn (q + rM tx sn q))))) (upd (ds) (120 + n) (nI (rM tx sn q))) wc wd nn nE nC nK nO ln lF lC lT lO fn fC fP ak ac pt ⟨(x_up_k (x_up_k h0 (by omega)) (by omega)), (x_up_k (x_up_k h1 (by omega)) (by omega)), (x_up_k (x_up_k h2 (by omega)) (by omega)), x_up_s, (x_up_k x_up_s (by omega)), (x_up_k (x_up_k h5 (by omega)) (by omega)), (x_up_k (x_up_k h6 (by omega)) (by omega)), (x_up_k (x_up_k h7 (by omega)) (by omega)), (x_up_k (x_up_k h8 (by omega)) (by omega)), (x_up_k (x_up_k h9 (by omega)) (by omega)), (x_up_k (x_up_k h10 (by omega)) (by omega)), (x_up_k (x_up_k h11 (by omega)) (by omega)), (x_up_k (x_up_k h12 (by omega)) (by omega)), (x_up_k (x_up_k h13 (by omega)) (by omega)), (x_up_k (x_up_k h14 (by omega)) (by omega)), (x_up_k (x_up_k h15 (by omega)) (by omega)), (x_up_k (x_up_k h16 (by omega)) (by omega)), (x_up_k (x_up_k h17 (by omega)) (by omega)), (x_up_k (x_up_k h18 (by omega)) (by omega)), by omega, by omega, by omega, by omega, by omega, by omega⟩ (nI (3)) (nI (q + rM tx sn q))) rfl (x_up_k (x_up_k h0 (by omega)) (by omega)) rfl rfl (Nat.le_of_ble_eq_true rfl) ⟨Nat.le_of_ble_eq_true rfl, Nat.le_of_ble_eq_true rfl⟩ ⟨Nat.le_of_ble_eq_true rfl, Nat.le_of_ble_eq_true rfl⟩ (fun r' n' M607 hp => ?_)
                              obtain ⟨hr', hn', hM607, hf607⟩ := hp
                              rw [hn', hr']
                              obtain ⟨v607_0, v607_1, v607_2, v607_3, v607_4, v607_5, v607_6, v607_7, v607_8, v607_9, v607_10, v607_11, v607_12, v607_13, v607_14, v607_15, v607_16, v607_17, v607_18, vb607_0, vb607_1, vb607_2, vb607_3, vb607_4, vb607_5⟩ := id hM607
                              show xW p l e ({ frames := 4, cells := 0, slots := 0, locals := 96 } : Room) s m args below meth c D xcl (x_A M nx) 8 (MQ below (x_Q D xcl (x_A M nx) (mcPost nx M a th sg sn pr fk fp rws cd ds wc wd nn nE nC nK nO ln lF lC lT lO fn fC fP ak ac pt n (rM tx sn q) (cN tx (q + rM tx sn q) (rD tx sn (q + rM tx sn q))) (mrc tx sn ds xs dg n q))) args s 0 0 (x_A M nx)) 0 0 (nx) M607 253 [(7, .int (nI (120 + j))), (6, .int (nI (rD tx sn (q + rM tx sn q)))), (5, .int (nI (q + rM tx sn q))), (4, .int (nI (rM tx sn q))), (3, .int (nI (120 + n))), (2, .int (nI (n))), (0, .ref (a)), (1, .int (nI (q)))] [.int (nI (0))]
                              exact x_zret F hr (by rfl) dM_readsCode_253 (by rw [show mrc tx sn ds xs dg n q = some (3, q + rM tx sn q) from by rw [mrc, if_neg (fun z => by have z := z.2; rw [c115] at z; cases z), if_neg h70, if_neg c174, if_neg (by omega), if_neg c176, if_neg (by omega), if_neg c179, if_pos hbad]]; exact ⟨rfl, fun b hb => (hf607 _ (by omega)).trans ((x_up_n (by omega)).trans ((x_up_n (by omega)).trans (rfl))), rfl, _, _, (fun i hi => ⟨updL_ne (by omega), upd_ne (by omega)⟩), hM607⟩)
                      · skip
                        have c200 : rM tx sn q = 0 := by
                          exact (nI_eq (a := rM tx sn q) (b := 0) (by omega) (by omega)).mp c200
                        refine x_iload F 1 dM_readsCode_207 rfl ?_
                        refine x_iconst F (v := nI (2)) dM_readsCode_209 (by decide) ?_
                        refine x_icmp_ne F (tgt := 246) dM_readsCode_210 (by decide) (fun c214 => ?_) (fun c214 => ?_)
                        · skip
                          have c214 : rD tx sn (q + rM tx sn q) ≠ 2 := by
                            have z : ¬ (rD tx sn (q + rM tx sn q) = 2) := fun zz => c214 ((nI_eq (a := rD tx sn (q + rM tx sn q)) (b := 2) (by omega) (by omega)).mpr zz)
                            omega
                          have hbad : mBad ds xs dg n (rM tx sn q) (cN tx (q + rM tx sn q) (rD tx sn (q + rM tx sn q))) (rD tx sn (q + rM tx sn q)) = true := by rw [mBad, if_pos c200, decide_eq_false c214]; rfl
                          refine x_aload_n F 6 dM_readsCode_246 rfl rfl ?_
                          refine x_iconst F (v := nI (3)) dM_readsCode_247 (by decide) ?_
                          refine x_iload F 2 dM_readsCode_248 rfl ?_
                          refine yVr (n := 2) (As := [.int (nI (3)), .int (nI (q + rM tx sn q))]) (ci := 6) F kmM_115 kiM_fails ksM_fails knM kcM_fails (by decide +kernel) dM_readsCode_250 (cM_fails l (nx) (x_up (x_up M (a + 4) (.inl (.int, 160, .inl (upd (ds) (120 + n) (nI (rM tx sn q)))))) (a + 3) (.inl (.long, 160, .inr (.inl (vp_updL (cd) (120 + n) (lN (cN tx (q + rM tx sn q) (rD tx sn (q + rM tx sn q))))))))) (a) th sg sn pr fk fp rws (vp_updL (cd) (120 + n) (lN (cN tx (q + rM tx sn q) (rD tx sn (q + rM tx sn q))))) (upd (ds) (120 + n) (nI (rM tx sn q))) wc wd nn nE nC nK nO ln lF lC lT lO fn fC fP ak ac pt ⟨(x_up_k (x_up_k h0 (by omega)) (by omega)), (x_up_k (x_up_k h1 (by omega)) (by omega)), (x_up_k (x_up_k h2 (by omega)) (by omega)), x_up_s, (x_up_k x_up_s (by omega)), (x_up_k (x_up_k h5 (by omega)) (by omega)), (x_up_k (x_up_k h6 (by omega)) (by omega)), (x_up_k (x_up_k h7 (by omega)) (by omega)), (x_up_k (x_up_k h8 (by omega)) (by omega)), (x_up_k (x_up_k h9 (by omega)) (by omega)), (x_up_k (x_up_k h10 (by omega)) (by omega)), (x_up_k (x_up_k h11 (by omega)) (by omega)), (x_up_k (x_up_k h12 (by omega)) (by omega)), (x_up_k (x_up_k h13 (by omega)) (by omega)), (x_up_k (x_up_k h14 (by omega)) (by omega)), (x_up_k (x_up_k h15 (by omega)) (by omega)), (x_up_k (x_up_k h16 (by omega)) (by omega)), (x_up_k (x_up_k h17 (by omega)) (by omega)), (x_up_k (x_up_k h18 (by omega)) (by omega)), by omega, by omega, by omega, by omega, by omega, by omega⟩ (nI (3)) (nI (q + rM tx sn q))) rfl (x_up_k (x_up_k h0 (by omega)) (by omega)) rfl rfl (Nat.le_of_ble_eq_true rfl) ⟨Nat.le_of_ble_eq_true rfl, Nat.le_of_ble_eq_true rfl⟩ ⟨Nat.le_of_ble_eq_true rfl, Nat.le_of_ble_eq_true rfl⟩ (fun r' n' M608 hp => ?_)
                          obtain ⟨hr', hn', hM608, hf608⟩ := hp
                          rw [hn', hr']
                          obtain ⟨v608_0, v608_1, v608_2, v608_3, v608_4, v608_5, v608_6, v608_7, v608_8, v608_9, v608_10, v608_11, v608_12, v608_13, v608_14, v608_15, v608_16, v608_17, v608_18, vb608_0, vb608_1, vb608_2, vb608_3, vb608_4, vb608_5⟩ := id hM608
                          show xW p l e ({ frames := 4, cells := 0, slots := 0, locals := 96 } : Room) s m args below meth c D xcl (x_A M nx) 8 (MQ below (x_Q D xcl (x_A M nx) (mcPost nx M a th sg sn pr fk fp rws cd ds wc wd nn nE nC nK nO ln lF lC lT lO fn fC fP ak ac pt n (rM tx sn q) (cN tx (q + rM tx sn q) (rD tx sn (q + rM tx sn q))) (mrc tx sn ds xs dg n q))) args s 0 0 (x_A M nx)) 0 0 (nx) M608 253 [(7, .int (nI (120 + j))), (6, .int (nI (rD tx sn (q + rM tx sn q)))), (5, .int (nI (q + rM tx sn q))), (4, .int (nI (rM tx sn q))), (3, .int (nI (120 + n))), (2, .int (nI (n))), (0, .ref (a)), (1, .int (nI (q)))] [.int (nI (0))]
                          exact x_zret F hr (by rfl) dM_readsCode_253 (by rw [show mrc tx sn ds xs dg n q = some (3, q + rM tx sn q) from by rw [mrc, if_neg (fun z => by have z := z.2; rw [c115] at z; cases z), if_neg h70, if_neg c174, if_neg (by omega), if_neg c176, if_neg (by omega), if_neg c179, if_pos hbad]]; exact ⟨rfl, fun b hb => (hf608 _ (by omega)).trans ((x_up_n (by omega)).trans ((x_up_n (by omega)).trans (rfl))), rfl, _, _, (fun i hi => ⟨updL_ne (by omega), upd_ne (by omega)⟩), hM608⟩)
                        · skip
                          have c214 : rD tx sn (q + rM tx sn q) = 2 := by
                            exact (nI_eq (a := rD tx sn (q + rM tx sn q)) (b := 2) (by omega) (by omega)).mp c214
                          refine x_iload F 3 dM_readsCode_213 rfl ?_
                          refine x_if_le F (tgt := 254) dM_readsCode_215 (by decide) (fun c215 => ?_) (fun c215 => ?_)
                          · skip
                            have c215 : rM tx sn q ≤ 0 := by
                              exact (nI_leI (a := rM tx sn q) (b := 0) (by omega) (by omega)).mp c215
                            have hbad : mBad ds xs dg n (rM tx sn q) (cN tx (q + rM tx sn q) (rD tx sn (q + rM tx sn q))) (rD tx sn (q + rM tx sn q)) = false := by rw [mBad, if_pos (by omega), decide_eq_true (by omega)]; rfl
                            refine x_iload_n F 5 dM_readsCode_254 rfl rfl ?_
                            refine x_if_eq F (tgt := 288) dM_readsCode_255 (by decide) (fun c216 => ?_) (fun c216 => ?_)
                            · skip
                              have c216 : n = 0 := by
                                exact (nI_eq (a := n) (b := 0) (by omega) (by omega)).mp c216
                              have hbeh : mBeh xs dg n (cN tx (q + rM tx sn q) (rD tx sn (q + rM tx sn q))) (rD tx sn (q + rM tx sn q)) = true := by rw [c216]; rfl
                              refine x_iconst F (v := nI (1)) dM_readsCode_288 (by decide) ?_
                              refine x_goto F (tgt := 293) dM_readsCode_289 (by decide) ?_
                              exact x_zret F hr (by rfl) dM_readsCode_293 (by rw [show mrc tx sn ds xs dg n q = none from by rw [mrc, if_neg (fun z => by have z := z.2; rw [c115] at z; cases z), if_neg h70, if_neg c174, if_neg (by omega), if_neg c176, if_neg (by omega), if_neg c179, if_neg (by rw [hbad]; decide), if_neg (by rw [hbeh]; decide)]]; exact ⟨rfl, fun b hb => (x_up_n (by omega)).trans ((x_up_n (by omega)).trans (rfl)), rfl, ⟨(x_up_k (x_up_k h0 (by omega)) (by omega)), (x_up_k (x_up_k h1 (by omega)) (by omega)), (x_up_k (x_up_k h2 (by omega)) (by omega)), x_up_s, (x_up_k x_up_s (by omega)), (x_up_k (x_up_k h5 (by omega)) (by omega)), (x_up_k (x_up_k h6 (by omega)) (by omega)), (x_up_k (x_up_k h7 (by omega)) (by omega)), (x_up_k (x_up_k h8 (by omega)) (by omega)), (x_up_k (x_up_k h9 (by omega)) (by omega)), (x_up_k (x_up_k h10 (by omega)) (by omega)), (x_up_k (x_up_k h11 (by omega)) (by omega)), (x_up_k (x_up_k h12 (by omega)) (by omega)), (x_up_k (x_up_k h13 (by omega)) (by omega)), (x_up_k (x_up_k h14 (by omega)) (by omega)), (x_up_k (x_up_k h15 (by omega)) (by omega)), (x_up_k (x_up_k h16 (by omega)) (by omega)), (x_up_k (x_up_k h17 (by omega)) (by omega)), (x_up_k (x_up_k h18 (by omega)) (by omega)), by omega, by omega, by omega, by omega, by omega, by omega⟩⟩)
                            · skip
                              have c216 : n ≠ 0 := by
                                have z : ¬ (n = 0) := fun zz => c216 ((nI_eq (a := n) (b := 0) (by omega) (by omega)).mpr zz)
                                omega
                              obtain ⟨n0, hn1⟩ : ∃ n0, n = n0 + 1 := ⟨n - 1, by omega⟩
                              refine x_aload_n F 6 dM_readsCode_258 rfl rfl ?_
                              refine x_get (ci := 6) F 7 (x_in inM) rfl (by decide) (x_m kfM_20) dM_readsCode_259 (x_up_k (x_up_k h0 (by omega)) (by omega)) rfl ?_
                              refine x_iload_n F 4 dM_readsCode_262 rfl rfl ?_
                              refine x_lald F dM_readsCode_263 x_up_s (pk_in (120 + n) (160) (by omega)) ?_
                              refine xW.tol (lN (cN tx (q + rM tx sn q) (rD tx sn (q + rM tx sn q)))) (by rw [nI_clamp (by omega)]; exact vp_us) ?_
                              refine x_aload_n F 6 dM_readsCode_264 rfl rfl ?_
                              refine x_get (ci := 6) F 7 (x_in inM) rfl (by decide) (x_m kfM_20) dM_readsCode_265 (x_up_k (x_up_k h0 (by omega)) (by omega)) rfl ?_
                              refine x_iload_n F 4 dM_readsCode_268 rfl rfl ?_
                              refine x_iconst F (v := nI (1)) dM_readsCode_269 (by decide) ?_
                              refine x_isub F dM_readsCode_270 ?_
                              refine xW.toi (nI (120 + n0)) (by rw [hn1]; exact nI_pred (120 + n0)) ?_
                              refine x_lald F dM_readsCode_271 x_up_s (pk_in (120 + n0) (160) (by omega)) ?_
                              refine xW.tol (lN (xs n0)) (by rw [nI_clamp (by omega)]; exact (updL_ne (by omega)).trans (hcd n0 (by omega)).1) ?_
                              refine yS (n := 2) (As := [.long (lN (cN tx (q + rM tx sn q) (rD tx sn (q + rM tx sn q)))), .long (lN (xs n0))]) F kmM_126 ktM_isBehind knM kcM_isBehind (by decide +kernel) dM_readsCode_272 (cM_isBehind l (nx) (x_up (x_up M (a + 4) (.inl (.int, 160, .inl (upd (ds) (120 + n) (nI (rM tx sn q)))))) (a + 3) (.inl (.long, 160, .inr (.inl (vp_updL (cd) (120 + n) (lN (cN tx (q + rM tx sn q) (rD tx sn (q + rM tx sn q))))))))) (cN tx (q + rM tx sn q) (rD tx sn (q + rM tx sn q))) (rD tx sn (q + rM tx sn q)) (xs n0) (dg n0) hX10 (hcd n0 (by omega)).2) rfl rfl (Nat.le_of_ble_eq_true rfl) ⟨Nat.le_of_ble_eq_true rfl, Nat.le_of_ble_eq_true rfl⟩ ⟨Nat.le_of_ble_eq_true rfl, Nat.le_of_ble_eq_true rfl⟩ ?_
                              refine x_if_ne F (tgt := 288) dM_readsCode_275 (by decide) (fun c217 => ?_) (fun c217 => ?_)
                              · skip
                                have c217 : (mbh (cN tx (q + rM tx sn q) (rD tx sn (q + rM tx sn q))) (rD tx sn (q + rM tx sn q)) (xs n0) (dg n0)) = true := bI_1 c217
                                have hbeh : mBeh xs dg n (cN tx (q + rM tx sn q) (rD tx sn (q + rM tx sn q))) (rD tx sn (q + rM tx sn q)) = true := by rw [hn1]; exact c217
                                refine x_iconst F (v := nI (1)) dM_readsCode_288 (by decide) ?_
                                refine x_goto F (tgt := 293) dM_readsCode_289 (by decide) ?_
                                exact x_zret F hr (by rfl) dM_readsCode_293 (by rw [show mrc tx sn ds xs dg n q = none from by rw [mrc, if_neg (fun z => by have z := z.2; rw [c115] at z; cases z), if_neg h70, if_neg c174, if_neg (by omega), if_neg c176, if_neg (by omega), if_neg c179, if_neg (by rw [hbad]; decide), if_neg (by rw [hbeh]; decide)]]; exact ⟨rfl, fun b hb => (x_up_n (by omega)).trans ((x_up_n (by omega)).trans (rfl)), rfl, ⟨(x_up_k (x_up_k h0 (by omega)) (by omega)), (x_up_k (x_up_k h1 (by omega)) (by omega)), (x_up_k (x_up_k h2 (by omega)) (by omega)), x_up_s, (x_up_k x_up_s (by omega)), (x_up_k (x_up_k h5 (by omega)) (by omega)), (x_up_k (x_up_k h6 (by omega)) (by omega)), (x_up_k (x_up_k h7 (by omega)) (by omega)), (x_up_k (x_up_k h8 (by omega)) (by omega)), (x_up_k (x_up_k h9 (by omega)) (by omega)), (x_up_k (x_up_k h10 (by omega)) (by omega)), (x_up_k (x_up_k h11 (by omega)) (by omega)), (x_up_k (x_up_k h12 (by omega)) (by omega)), (x_up_k (x_up_k h13 (by omega)) (by omega)), (x_up_k (x_up_k h14 (by omega)) (by omega)), (x_up_k (x_up_k h15 (by omega)) (by omega)), (x_up_k (x_up_k h16 (by omega)) (by omega)), (x_up_k (x_up_k h17 (by omega)) (by omega)), (x_up_k (x_up_k h18 (by omega)) (by omega)), by omega, by omega, by omega, by omega, by omega, by omega⟩⟩)
                              · skip
                                have c217 : (mbh (cN tx (q + rM tx sn q) (rD tx sn (q + rM tx sn q))) (rD tx sn (q + rM tx sn q)) (xs n0) (dg n0)) = false := bI_0 c217
                                have hbeh : mBeh xs dg n (cN tx (q + rM tx sn q) (rD tx sn (q + rM tx sn q))) (rD tx sn (q + rM tx sn q)) = false := by rw [hn1]; exact c217
                                refine x_aload_n F 6 dM_readsCode_278 rfl rfl ?_
                                refine x_iconst F (v := nI (4)) dM_readsCode_279 (by decide) ?_
                                refine x_iload F 2 dM_readsCode_280 rfl ?_
                                refine yVr (n := 2) (As := [.int (nI (4)), .int (nI (q + rM tx sn q))]) (ci := 6) F kmM_115 kiM_fails ksM_fails knM kcM_fails (by decide +kernel) dM_readsCode_282 (cM_fails l (nx) (x_up (x_up M (a + 4) (.inl (.int, 160, .inl (upd (ds) (120 + n) (nI (rM tx sn q)))))) (a + 3) (.inl (.long, 160, .inr (.inl (vp_updL (cd) (120 + n) (lN (cN tx (q + rM tx sn q) (rD tx sn (q + rM tx sn q))))))))) (a) th sg sn pr fk fp rws (vp_updL (cd) (120 + n) (lN (cN tx (q + rM tx sn q) (rD tx sn (q + rM tx sn q))))) (upd (ds) (120 + n) (nI (rM tx sn q))) wc wd nn nE nC nK nO ln lF lC lT lO fn fC fP ak ac pt ⟨(x_up_k (x_up_k h0 (by omega)) (by omega)), (x_up_k (x_up_k h1 (by omega)) (by omega)), (x_up_k (x_up_k h2 (by omega)) (by omega)), x_up_s, (x_up_k x_up_s (by omega)), (x_up_k (x_up_k h5 (by omega)) (by omega)), (x_up_k (x_up_k h6 (by omega)) (by omega)), (x_up_k (x_up_k h7 (by omega)) (by omega)), (x_up_k (x_up_k h8 (by omega)) (by omega)), (x_up_k (x_up_k h9 (by omega)) (by omega)), (x_up_k (x_up_k h10 (by omega)) (by omega)), (x_up_k (x_up_k h11 (by omega)) (by omega)), (x_up_k (x_up_k h12 (by omega)) (by omega)), (x_up_k (x_up_k h13 (by omega)) (by omega)), (x_up_k (x_up_k h14 (by omega)) (by omega)), (x_up_k (x_up_k h15 (by omega)) (by omega)), (x_up_k (x_up_k h16 (by omega)) (by omega)), (x_up_k (x_up_k h17 (by omega)) (by omega)), (x_up_k (x_up_k h18 (by omega)) (by omega)), by omega, by omega, by omega, by omega, by omega, by omega⟩ (nI (4)) (nI (q + rM tx sn q))) rfl (x_up_k (x_up_k h0 (by omega)) (by omega)) rfl rfl (Nat.le_of_ble_eq_true rfl) ⟨Nat.le_of_ble_eq_true rfl, Nat.le_of_ble_eq_true rfl⟩ ⟨Nat.le_of_ble_eq_true rfl, Nat.le_of_ble_eq_true rfl⟩ (fun r' n' M609 hp => ?_)
                                obtain ⟨hr', hn', hM609, hf609⟩ := hp
                                rw [hn', hr']
                                obtain ⟨v609_0, v609_1, v609_2, v609_3, v609_4, v609_5, v609_6, v609_7, v609_8, v609_9, v609_10, v609_11, v609_12, v609_13, v609_14, v609_15, v609_16, v609_17, v609_18, vb609_0, vb609_1, vb609_2, vb609_3, vb609_4, vb609_5⟩ := id hM609
                                show xW p l e ({ frames := 4, cells := 0, slots := 0, locals := 96 } : Room) s m args below meth c D xcl (x_A M nx) 8 (MQ below (x_Q D xcl (x_A M nx) (mcPost nx M a th sg sn pr fk fp rws cd ds wc wd nn nE nC nK nO ln lF lC lT lO fn fC fP ak ac pt n (rM tx sn q) (cN tx (q + rM tx sn q) (rD tx sn (q + rM tx sn q))) (mrc tx sn ds xs dg n q))) args s 0 0 (x_A M nx)) 0 0 (nx) M609 285 [(7, .int (nI (120 + j))), (6, .int (nI (rD tx sn (q + rM tx sn q)))), (5, .int (nI (q + rM tx sn q))), (4, .int (nI (rM tx sn q))), (3, .int (nI (120 + n))), (2, .int (nI (n))), (0, .ref (a)), (1, .int (nI (q)))] [.int (nI (0))]
                                refine x_if_eq F (tgt := 292) dM_readsCode_285 (by decide) (fun c218 => ?_) (fun c218 => ?_)
                                · skip
                                  have c218 : 0 = 0 := by
                                    exact (nI_eq (a := 0) (b := 0) (by omega) (by omega)).mp c218
                                  refine x_iconst F (v := nI (0)) dM_readsCode_292 (by decide) ?_
                                  exact x_zret F hr (by rfl) dM_readsCode_293 (by rw [show mrc tx sn ds xs dg n q = some (4, q + rM tx sn q) from by rw [mrc, if_neg (fun z => by have z := z.2; rw [c115] at z; cases z), if_neg h70, if_neg c174, if_neg (by omega), if_neg c176, if_neg (by omega), if_neg c179, if_neg (by rw [hbad]; decide), if_pos hbeh]]; exact ⟨rfl, fun b hb => (hf609 _ (by omega)).trans ((x_up_n (by omega)).trans ((x_up_n (by omega)).trans (rfl))), rfl, _, _, (fun i hi => ⟨updL_ne (by omega), upd_ne (by omega)⟩), hM609⟩)
                                · skip
                                  have c218 : 0 ≠ 0 := by
                                    have z : ¬ (0 = 0) := fun zz => c218 ((nI_eq (a := 0) (b := 0) (by omega) (by omega)).mpr zz)
                                    omega
                                  exact absurd c218 (by decide)
                          · skip
                            have c215 : 0 < rM tx sn q := by
                              have z : ¬ (rM tx sn q ≤ 0) := fun zz => c215 ((nI_leI (a := rM tx sn q) (b := 0) (by omega) (by omega)).mpr zz)
                              omega
                            refine x_aload_n F 6 dM_readsCode_218 rfl rfl ?_
                            refine x_get (ci := 6) F 7 (x_in inM) rfl (by decide) (x_m kfM_20) dM_readsCode_219 (x_up_k (x_up_k h0 (by omega)) (by omega)) rfl ?_
                            refine x_iload_n F 4 dM_readsCode_222 rfl rfl ?_
                            refine x_lald F dM_readsCode_223 x_up_s (pk_in (120 + n) (160) (by omega)) ?_
                            refine xW.tol (lN (cN tx (q + rM tx sn q) (rD tx sn (q + rM tx sn q)))) (by rw [nI_clamp (by omega)]; exact vp_us) ?_
                            refine x_aload_n F 6 dM_readsCode_224 rfl rfl ?_
                            refine x_get (ci := 6) F 7 (x_in inM) rfl (by decide) (x_m kfM_20) dM_readsCode_225 (x_up_k (x_up_k h0 (by omega)) (by omega)) rfl ?_
                            refine x_iload F 0 dM_readsCode_228 rfl ?_
                            refine x_if_ge F (tgt := 237) dM_readsCode_230 (by decide) (fun c219 => ?_) (fun c219 => ?_)
                            · skip
                              have c219 : 0 ≤ 120 + j := by
                                exact (nI_leI (a := 0) (b := 120 + j) (by omega) (by omega)).mp c219
                              refine x_iload F 0 dM_readsCode_237 rfl ?_
                              refine x_lald F dM_readsCode_239 x_up_s (pk_in (120 + j) (160) (by omega)) ?_
                              refine xW.tol (lN (xs j)) (by rw [nI_clamp (by omega)]; exact (updL_ne (by omega)).trans (hcd j hj).1) ?_
                              refine yS (n := 2) (As := [.long (lN (cN tx (q + rM tx sn q) (rD tx sn (q + rM tx sn q)))), .long (lN (xs j))]) F kmM_107 ktM_begins knM kcM_begins (by decide +kernel) dM_readsCode_240 (cM_begins l (nx) (x_up (x_up M (a + 4) (.inl (.int, 160, .inl (upd (ds) (120 + n) (nI (rM tx sn q)))))) (a + 3) (.inl (.long, 160, .inr (.inl (vp_updL (cd) (120 + n) (lN (cN tx (q + rM tx sn q) (rD tx sn (q + rM tx sn q))))))))) (cN tx (q + rM tx sn q) (rD tx sn (q + rM tx sn q))) (rD tx sn (q + rM tx sn q)) (xs j) (dg j) hX10 (hcd j hj).2) rfl rfl (Nat.le_of_ble_eq_true rfl) ⟨Nat.le_of_ble_eq_true rfl, Nat.le_of_ble_eq_true rfl⟩ ⟨Nat.le_of_ble_eq_true rfl, Nat.le_of_ble_eq_true rfl⟩ ?_
                              refine x_if_ne F (tgt := 254) dM_readsCode_243 (by decide) (fun c220 => ?_) (fun c220 => ?_)
                              · skip
                                have c220 : (mbg (cN tx (q + rM tx sn q) (rD tx sn (q + rM tx sn q))) (rD tx sn (q + rM tx sn q)) (xs j) (dg j)) = true := bI_1 c220
                                have hla := mUp_la (by omega) hup
                                have hbad : mBad ds xs dg n (rM tx sn q) (cN tx (q + rM tx sn q) (rD tx sn (q + rM tx sn q))) (rD tx sn (q + rM tx sn q)) = false := by rw [mBad, if_neg (by omega), hla]; show (! mbg (cN tx (q + rM tx sn q) (rD tx sn (q + rM tx sn q))) (rD tx sn (q + rM tx sn q)) (xs j) (dg j)) = false; rw [c220]; rfl
                                refine x_iload_n F 5 dM_readsCode_254 rfl rfl ?_
                                refine x_if_eq F (tgt := 288) dM_readsCode_255 (by decide) (fun c221 => ?_) (fun c221 => ?_)
                                · skip
                                  have c221 : n = 0 := by
                                    exact (nI_eq (a := n) (b := 0) (by omega) (by omega)).mp c221
                                  have hbeh : mBeh xs dg n (cN tx (q + rM tx sn q) (rD tx sn (q + rM tx sn q))) (rD tx sn (q + rM tx sn q)) = true := by rw [c221]; rfl
                                  refine x_iconst F (v := nI (1)) dM_readsCode_288 (by decide) ?_
                                  refine x_goto F (tgt := 293) dM_readsCode_289 (by decide) ?_
                                  exact x_zret F hr (by rfl) dM_readsCode_293 (by rw [show mrc tx sn ds xs dg n q = none from by rw [mrc, if_neg (fun z => by have z := z.2; rw [c115] at z; cases z), if_neg h70, if_neg c174, if_neg (by omega), if_neg c176, if_neg (by omega), if_neg c179, if_neg (by rw [hbad]; decide), if_neg (by rw [hbeh]; decide)]]; exact ⟨rfl, fun b hb => (x_up_n (by omega)).trans ((x_up_n (by omega)).trans (rfl)), rfl, ⟨(x_up_k (x_up_k h0 (by omega)) (by omega)), (x_up_k (x_up_k h1 (by omega)) (by omega)), (x_up_k (x_up_k h2 (by omega)) (by omega)), x_up_s, (x_up_k x_up_s (by omega)), (x_up_k (x_up_k h5 (by omega)) (by omega)), (x_up_k (x_up_k h6 (by omega)) (by omega)), (x_up_k (x_up_k h7 (by omega)) (by omega)), (x_up_k (x_up_k h8 (by omega)) (by omega)), (x_up_k (x_up_k h9 (by omega)) (by omega)), (x_up_k (x_up_k h10 (by omega)) (by omega)), (x_up_k (x_up_k h11 (by omega)) (by omega)), (x_up_k (x_up_k h12 (by omega)) (by omega)), (x_up_k (x_up_k h13 (by omega)) (by omega)), (x_up_k (x_up_k h14 (by omega)) (by omega)), (x_up_k (x_up_k h15 (by omega)) (by omega)), (x_up_k (x_up_k h16 (by omega)) (by omega)), (x_up_k (x_up_k h17 (by omega)) (by omega)), (x_up_k (x_up_k h18 (by omega)) (by omega)), by omega, by omega, by omega, by omega, by omega, by omega⟩⟩)
                                · skip
                                  have c221 : n ≠ 0 := by
                                    have z : ¬ (n = 0) := fun zz => c221 ((nI_eq (a := n) (b := 0) (by omega) (by omega)).mpr zz)
                                    omega
                                  obtain ⟨n0, hn1⟩ : ∃ n0, n = n0 + 1 := ⟨n - 1, by omega⟩
                                  refine x_aload_n F 6 dM_readsCode_258 rfl rfl ?_
                                  refine x_get (ci := 6) F 7 (x_in inM) rfl (by decide) (x_m kfM_20) dM_readsCode_259 (x_up_k (x_up_k h0 (by omega)) (by omega)) rfl ?_
                                  refine x_iload_n F 4 dM_readsCode_262 rfl rfl ?_
                                  refine x_lald F dM_readsCode_263 x_up_s (pk_in (120 + n) (160) (by omega)) ?_
                                  refine xW.tol (lN (cN tx (q + rM tx sn q) (rD tx sn (q + rM tx sn q)))) (by rw [nI_clamp (by omega)]; exact vp_us) ?_
                                  refine x_aload_n F 6 dM_readsCode_264 rfl rfl ?_
                                  refine x_get (ci := 6) F 7 (x_in inM) rfl (by decide) (x_m kfM_20) dM_readsCode_265 (x_up_k (x_up_k h0 (by omega)) (by omega)) rfl ?_
                                  refine x_iload_n F 4 dM_readsCode_268 rfl rfl ?_
                                  refine x_iconst F (v := nI (1)) dM_readsCode_269 (by decide) ?_
                                  refine x_isub F dM_readsCode_270 ?_
                                  refine xW.toi (nI (120 + n0)) (by rw [hn1]; exact nI_pred (120 + n0)) ?_
                                  refine x_lald F dM_readsCode_271 x_up_s (pk_in (120 + n0) (160) (by omega)) ?_
                                  refine xW.tol (lN (xs n0)) (by rw [nI_clamp (by omega)]; exact (updL_ne (by omega)).trans (hcd n0 (by omega)).1) ?_
                                  refine yS (n := 2) (As := [.long (lN (cN tx (q + rM tx sn q) (rD tx sn (q + rM tx sn q)))), .long (lN (xs n0))]) F kmM_126 ktM_isBehind knM kcM_isBehind (by decide +kernel) dM_readsCode_272 (cM_isBehind l (nx) (x_up (x_up M (a + 4) (.inl (.int, 160, .inl (upd (ds) (120 + n) (nI (rM tx sn q)))))) (a + 3) (.inl (.long, 160, .inr (.inl (vp_updL (cd) (120 + n) (lN (cN tx (q + rM tx sn q) (rD tx sn (q + rM tx sn q))))))))) (cN tx (q + rM tx sn q) (rD tx sn (q + rM tx sn q))) (rD tx sn (q + rM tx sn q)) (xs n0) (dg n0) hX10 (hcd n0 (by omega)).2) rfl rfl (Nat.le_of_ble_eq_true rfl) ⟨Nat.le_of_ble_eq_true rfl, Nat.le_of_ble_eq_true rfl⟩ ⟨Nat.le_of_ble_eq_true rfl, Nat.le_of_ble_eq_true rfl⟩ ?_
                                  refine x_if_ne F (tgt := 288) dM_readsCode_275 (by decide) (fun c222 => ?_) (fun c222 => ?_)
                                  · skip
                                    have c222 : (mbh (cN tx (q + rM tx sn q) (rD tx sn (q + rM tx sn q))) (rD tx sn (q + rM tx sn q)) (xs n0) (dg n0)) = true := bI_1 c222
                                    have hbeh : mBeh xs dg n (cN tx (q + rM tx sn q) (rD tx sn (q + rM tx sn q))) (rD tx sn (q + rM tx sn q)) = true := by rw [hn1]; exact c222
                                    refine x_iconst F (v := nI (1)) dM_readsCode_288 (by decide) ?_
                                    refine x_goto F (tgt := 293) dM_readsCode_289 (by decide) ?_
                                    exact x_zret F hr (by rfl) dM_readsCode_293 (by rw [show mrc tx sn ds xs dg n q = none from by rw [mrc, if_neg (fun z => by have z := z.2; rw [c115] at z; cases z), if_neg h70, if_neg c174, if_neg (by omega), if_neg c176, if_neg (by omega), if_neg c179, if_neg (by rw [hbad]; decide), if_neg (by rw [hbeh]; decide)]]; exact ⟨rfl, fun b hb => (x_up_n (by omega)).trans ((x_up_n (by omega)).trans (rfl)), rfl, ⟨(x_up_k (x_up_k h0 (by omega)) (by omega)), (x_up_k (x_up_k h1 (by omega)) (by omega)), (x_up_k (x_up_k h2 (by omega)) (by omega)), x_up_s, (x_up_k x_up_s (by omega)), (x_up_k (x_up_k h5 (by omega)) (by omega)), (x_up_k (x_up_k h6 (by omega)) (by omega)), (x_up_k (x_up_k h7 (by omega)) (by omega)), (x_up_k (x_up_k h8 (by omega)) (by omega)), (x_up_k (x_up_k h9 (by omega)) (by omega)), (x_up_k (x_up_k h10 (by omega)) (by omega)), (x_up_k (x_up_k h11 (by omega)) (by omega)), (x_up_k (x_up_k h12 (by omega)) (by omega)), (x_up_k (x_up_k h13 (by omega)) (by omega)), (x_up_k (x_up_k h14 (by omega)) (by omega)), (x_up_k (x_up_k h15 (by omega)) (by omega)), (x_up_k (x_up_k h16 (by omega)) (by omega)), (x_up_k (x_up_k h17 (by omega)) (by omega)), (x_up_k (x_up_k h18 (by omega)) (by omega)), by omega, by omega, by omega, by omega, by omega, by omega⟩⟩)
                                  · skip
                                    have c222 : (mbh (cN tx (q + rM tx sn q) (rD tx sn (q + rM tx sn q))) (rD tx sn (q + rM tx sn q)) (xs n0) (dg n0)) = false := bI_0 c222
                                    have hbeh : mBeh xs dg n (cN tx (q + rM tx sn q) (rD tx sn (q + rM tx sn q))) (rD tx sn (q + rM tx sn q)) = false := by rw [hn1]; exact c222
                                    refine x_aload_n F 6 dM_readsCode_278 rfl rfl ?_
                                    refine x_iconst F (v := nI (4)) dM_readsCode_279 (by decide) ?_
                                    refine x_iload F 2 dM_readsCode_280 rfl ?_
                                    refine yVr (n := 2) (As := [.int (nI (4)), .int (nI (q + rM tx sn q))]) (ci := 6) F kmM_115 kiM_fails ksM_fails knM kcM_fails (by decide +kernel) dM_readsCode_282 (cM_fails l (nx) (x_up (x_up M (a + 4) (.inl (.int, 160, .inl (upd (ds) (120 + n) (nI (rM tx sn q)))))) (a + 3) (.inl (.long, 160, .inr (.inl (vp_updL (cd) (120 + n) (lN (cN tx (q + rM tx sn q) (rD tx sn (q + rM tx sn q))))))))) (a) th sg sn pr fk fp rws (vp_updL (cd) (120 + n) (lN (cN tx (q + rM tx sn q) (rD tx sn (q + rM tx sn q))))) (upd (ds) (120 + n) (nI (rM tx sn q))) wc wd nn nE nC nK nO ln lF lC lT lO fn fC fP ak ac pt ⟨(x_up_k (x_up_k h0 (by omega)) (by omega)), (x_up_k (x_up_k h1 (by omega)) (by omega)), (x_up_k (x_up_k h2 (by omega)) (by omega)), x_up_s, (x_up_k x_up_s (by omega)), (x_up_k (x_up_k h5 (by omega)) (by omega)), (x_up_k (x_up_k h6 (by omega)) (by omega)), (x_up_k (x_up_k h7 (by omega)) (by omega)), (x_up_k (x_up_k h8 (by omega)) (by omega)), (x_up_k (x_up_k h9 (by omega)) (by omega)), (x_up_k (x_up_k h10 (by omega)) (by omega)), (x_up_k (x_up_k h11 (by omega)) (by omega)), (x_up_k (x_up_k h12 (by omega)) (by omega)), (x_up_k (x_up_k h13 (by omega)) (by omega)), (x_up_k (x_up_k h14 (by omega)) (by omega)), (x_up_k (x_up_k h15 (by omega)) (by omega)), (x_up_k (x_up_k h16 (by omega)) (by omega)), (x_up_k (x_up_k h17 (by omega)) (by omega)), (x_up_k (x_up_k h18 (by omega)) (by omega)), by omega, by omega, by omega, by omega, by omega, by omega⟩ (nI (4)) (nI (q + rM tx sn q))) rfl (x_up_k (x_up_k h0 (by omega)) (by omega)) rfl rfl (Nat.le_of_ble_eq_true rfl) ⟨Nat.le_of_ble_eq_true rfl, Nat.le_of_ble_eq_true rfl⟩ ⟨Nat.le_of_ble_eq_true rfl, Nat.le_of_ble_eq_true rfl⟩ (fun r' n' M610 hp => ?_)
                                    obtain ⟨hr', hn', hM610, hf610⟩ := hp
                                    rw [hn', hr']
                                    obtain ⟨v610_0, v610_1, v610_2, v610_3, v610_4, v610_5, v610_6, v610_7, v610_8, v610_9, v610_10, v610_11, v610_12, v610_13, v610_14, v610_15, v610_16, v610_17, v610_18, vb610_0, vb610_1, vb610_2, vb610_3, vb610_4, vb610_5⟩ := id hM610
                                    show xW p l e ({ frames := 4, cells := 0, slots := 0, locals := 96 } : Room) s m args below meth c D xcl (x_A M nx) 8 (MQ below (x_Q D xcl (x_A M nx) (mcPost nx M a th sg sn pr fk fp rws cd ds wc wd nn nE nC nK nO ln lF lC lT lO fn fC fP ak ac pt n (rM tx sn q) (cN tx (q + rM tx sn q) (rD tx sn (q + rM tx sn q))) (mrc tx sn ds xs dg n q))) args s 0 0 (x_A M nx)) 0 0 (nx) M610 285 [(7, .int (nI (120 + j))), (6, .int (nI (rD tx sn (q + rM tx sn q)))), (5, .int (nI (q + rM tx sn q))), (4, .int (nI (rM tx sn q))), (3, .int (nI (120 + n))), (2, .int (nI (n))), (0, .ref (a)), (1, .int (nI (q)))] [.int (nI (0))]
                                    refine x_if_eq F (tgt := 292) dM_readsCode_285 (by decide) (fun c223 => ?_) (fun c223 => ?_)
                                    · skip
                                      have c223 : 0 = 0 := by
                                        exact (nI_eq (a := 0) (b := 0) (by omega) (by omega)).mp c223
                                      refine x_iconst F (v := nI (0)) dM_readsCode_292 (by decide) ?_
                                      exact x_zret F hr (by rfl) dM_readsCode_293 (by rw [show mrc tx sn ds xs dg n q = some (4, q + rM tx sn q) from by rw [mrc, if_neg (fun z => by have z := z.2; rw [c115] at z; cases z), if_neg h70, if_neg c174, if_neg (by omega), if_neg c176, if_neg (by omega), if_neg c179, if_neg (by rw [hbad]; decide), if_pos hbeh]]; exact ⟨rfl, fun b hb => (hf610 _ (by omega)).trans ((x_up_n (by omega)).trans ((x_up_n (by omega)).trans (rfl))), rfl, _, _, (fun i hi => ⟨updL_ne (by omega), upd_ne (by omega)⟩), hM610⟩)
                                    · skip
                                      have c223 : 0 ≠ 0 := by
                                        have z : ¬ (0 = 0) := fun zz => c223 ((nI_eq (a := 0) (b := 0) (by omega) (by omega)).mpr zz)
                                        omega
                                      exact absurd c223 (by decide)
                              · skip
                                have c220 : (mbg (cN tx (q + rM tx sn q) (rD tx sn (q + rM tx sn q))) (rD tx sn (q + rM tx sn q)) (xs j) (dg j)) = false := bI_0 c220
                                have hla := mUp_la (by omega) hup
                                have hbad : mBad ds xs dg n (rM tx sn q) (cN tx (q + rM tx sn q) (rD tx sn (q + rM tx sn q))) (rD tx sn (q + rM tx sn q)) = true := by rw [mBad, if_neg (by omega), hla]; show (! mbg (cN tx (q + rM tx sn q) (rD tx sn (q + rM tx sn q))) (rD tx sn (q + rM tx sn q)) (xs j) (dg j)) = true; rw [c220]; rfl
                                refine x_aload_n F 6 dM_readsCode_246 rfl rfl ?_
                                refine x_iconst F (v := nI (3)) dM_readsCode_247 (by decide) ?_
                                refine x_iload F 2 dM_readsCode_248 rfl ?_
                                refine yVr (n := 2) (As := [.int (nI (3)), .int (nI (q + rM tx sn q))]) (ci := 6) F kmM_115 kiM_fails ksM_fails knM kcM_fails (by decide +kernel) dM_readsCode_250 (cM_fails l (nx) (x_up (x_up M (a + 4) (.inl (.int, 160, .inl (upd (ds) (120 + n) (nI (rM tx sn q)))))) (a + 3) (.inl (.long, 160, .inr (.inl (vp_updL (cd) (120 + n) (lN (cN tx (q + rM tx sn q) (rD tx sn (q + rM tx sn q))))))))) (a) th sg sn pr fk fp rws (vp_updL (cd) (120 + n) (lN (cN tx (q + rM tx sn q) (rD tx sn (q + rM tx sn q))))) (upd (ds) (120 + n) (nI (rM tx sn q))) wc wd nn nE nC nK nO ln lF lC lT lO fn fC fP ak ac pt ⟨(x_up_k (x_up_k h0 (by omega)) (by omega)), (x_up_k (x_up_k h1 (by omega)) (by omega)), (x_up_k (x_up_k h2 (by omega)) (by omega)), x_up_s, (x_up_k x_up_s (by omega)), (x_up_k (x_up_k h5 (by omega)) (by omega)), (x_up_k (x_up_k h6 (by omega)) (by omega)), (x_up_k (x_up_k h7 (by omega)) (by omega)), (x_up_k (x_up_k h8 (by omega)) (by omega)), (x_up_k (x_up_k h9 (by omega)) (by omega)), (x_up_k (x_up_k h10 (by omega)) (by omega)), (x_up_k (x_up_k h11 (by omega)) (by omega)), (x_up_k (x_up_k h12 (by omega)) (by omega)), (x_up_k (x_up_k h13 (by omega)) (by omega)), (x_up_k (x_up_k h14 (by omega)) (by omega)), (x_up_k (x_up_k h15 (by omega)) (by omega)), (x_up_k (x_up_k h16 (by omega)) (by omega)), (x_up_k (x_up_k h17 (by omega)) (by omega)), (x_up_k (x_up_k h18 (by omega)) (by omega)), by omega, by omega, by omega, by omega, by omega, by omega⟩ (nI (3)) (nI (q + rM tx sn q))) rfl (x_up_k (x_up_k h0 (by omega)) (by omega)) rfl rfl (Nat.le_of_ble_eq_true rfl) ⟨Nat.le_of_ble_eq_true rfl, Nat.le_of_ble_eq_true rfl⟩ ⟨Nat.le_of_ble_eq_true rfl, Nat.le_of_ble_eq_true rfl⟩ (fun r' n' M611 hp => ?_)
                                obtain ⟨hr', hn', hM611, hf611⟩ := hp
                                rw [hn', hr']
                                obtain ⟨v611_0, v611_1, v611_2, v611_3, v611_4, v611_5, v611_6, v611_7, v611_8, v611_9, v611_10, v611_11, v611_12, v611_13, v611_14, v611_15, v611_16, v611_17, v611_18, vb611_0, vb611_1, vb611_2, vb611_3, vb611_4, vb611_5⟩ := id hM611
                                show xW p l e ({ frames := 4, cells := 0, slots := 0, locals := 96 } : Room) s m args below meth c D xcl (x_A M nx) 8 (MQ below (x_Q D xcl (x_A M nx) (mcPost nx M a th sg sn pr fk fp rws cd ds wc wd nn nE nC nK nO ln lF lC lT lO fn fC fP ak ac pt n (rM tx sn q) (cN tx (q + rM tx sn q) (rD tx sn (q + rM tx sn q))) (mrc tx sn ds xs dg n q))) args s 0 0 (x_A M nx)) 0 0 (nx) M611 253 [(7, .int (nI (120 + j))), (6, .int (nI (rD tx sn (q + rM tx sn q)))), (5, .int (nI (q + rM tx sn q))), (4, .int (nI (rM tx sn q))), (3, .int (nI (120 + n))), (2, .int (nI (n))), (0, .ref (a)), (1, .int (nI (q)))] [.int (nI (0))]
                                exact x_zret F hr (by rfl) dM_readsCode_253 (by rw [show mrc tx sn ds xs dg n q = some (3, q + rM tx sn q) from by rw [mrc, if_neg (fun z => by have z := z.2; rw [c115] at z; cases z), if_neg h70, if_neg c174, if_neg (by omega), if_neg c176, if_neg (by omega), if_neg c179, if_pos hbad]]; exact ⟨rfl, fun b hb => (hf611 _ (by omega)).trans ((x_up_n (by omega)).trans ((x_up_n (by omega)).trans (rfl))), rfl, _, _, (fun i hi => ⟨updL_ne (by omega), upd_ne (by omega)⟩), hM611⟩)
                            · skip
                              have c219 : 120 + j < 0 := by
                                have z : ¬ (0 ≤ 120 + j) := fun zz => c219 ((nI_leI (a := 0) (b := 120 + j) (by omega) (by omega)).mpr zz)
                                omega
                              refine x_iload_n F 4 dM_readsCode_233 rfl rfl ?_
                              refine x_goto F (tgt := 239) dM_readsCode_234 (by decide) ?_
                              refine x_lald F dM_readsCode_239 x_up_s (pk_in (120 + n) (160) (by omega)) ?_
                              refine xW.tol (lN (cN tx (q + rM tx sn q) (rD tx sn (q + rM tx sn q)))) (by rw [nI_clamp (by omega)]; exact vp_us) ?_
                              refine yS (n := 2) (As := [.long (lN (cN tx (q + rM tx sn q) (rD tx sn (q + rM tx sn q)))), .long (lN (cN tx (q + rM tx sn q) (rD tx sn (q + rM tx sn q))))]) F kmM_107 ktM_begins knM kcM_begins (by decide +kernel) dM_readsCode_240 (cM_begins l (nx) (x_up (x_up M (a + 4) (.inl (.int, 160, .inl (upd (ds) (120 + n) (nI (rM tx sn q)))))) (a + 3) (.inl (.long, 160, .inr (.inl (vp_updL (cd) (120 + n) (lN (cN tx (q + rM tx sn q) (rD tx sn (q + rM tx sn q))))))))) (cN tx (q + rM tx sn q) (rD tx sn (q + rM tx sn q))) (rD tx sn (q + rM tx sn q)) (cN tx (q + rM tx sn q) (rD tx sn (q + rM tx sn q))) (rD tx sn (q + rM tx sn q)) hX10 hX10) rfl rfl (Nat.le_of_ble_eq_true rfl) ⟨Nat.le_of_ble_eq_true rfl, Nat.le_of_ble_eq_true rfl⟩ ⟨Nat.le_of_ble_eq_true rfl, Nat.le_of_ble_eq_true rfl⟩ ?_
                              refine x_if_ne F (tgt := 254) dM_readsCode_243 (by decide) (fun c224 => ?_) (fun c224 => ?_)
                              · skip
                                have c224 : (mbg (cN tx (q + rM tx sn q) (rD tx sn (q + rM tx sn q))) (rD tx sn (q + rM tx sn q)) (cN tx (q + rM tx sn q) (rD tx sn (q + rM tx sn q))) (rD tx sn (q + rM tx sn q))) = true := bI_1 c224
                                have hla := mUp_la (by omega) hup
                                have hbad : mBad ds xs dg n (rM tx sn q) (cN tx (q + rM tx sn q) (rD tx sn (q + rM tx sn q))) (rD tx sn (q + rM tx sn q)) = false := by rw [mBad, if_neg (by omega), hla]; show (! mbg (cN tx (q + rM tx sn q) (rD tx sn (q + rM tx sn q))) (rD tx sn (q + rM tx sn q)) (xs j) (dg j)) = false; rw [c224]; rfl
                                refine x_iload_n F 5 dM_readsCode_254 rfl rfl ?_
                                refine x_if_eq F (tgt := 288) dM_readsCode_255 (by decide) (fun c225 => ?_) (fun c225 => ?_)
                                · skip
                                  have c225 : n = 0 := by
                                    exact (nI_eq (a := n) (b := 0) (by omega) (by omega)).mp c225
                                  have hbeh : mBeh xs dg n (cN tx (q + rM tx sn q) (rD tx sn (q + rM tx sn q))) (rD tx sn (q + rM tx sn q)) = true := by rw [c225]; rfl
                                  refine x_iconst F (v := nI (1)) dM_readsCode_288 (by decide) ?_
                                  refine x_goto F (tgt := 293) dM_readsCode_289 (by decide) ?_
                                  exact x_zret F hr (by rfl) dM_readsCode_293 (by rw [show mrc tx sn ds xs dg n q = none from by rw [mrc, if_neg (fun z => by have z := z.2; rw [c115] at z; cases z), if_neg h70, if_neg c174, if_neg (by omega), if_neg c176, if_neg (by omega), if_neg c179, if_neg (by rw [hbad]; decide), if_neg (by rw [hbeh]; decide)]]; exact ⟨rfl, fun b hb => (x_up_n (by omega)).trans ((x_up_n (by omega)).trans (rfl)), rfl, ⟨(x_up_k (x_up_k h0 (by omega)) (by omega)), (x_up_k (x_up_k h1 (by omega)) (by omega)), (x_up_k (x_up_k h2 (by omega)) (by omega)), x_up_s, (x_up_k x_up_s (by omega)), (x_up_k (x_up_k h5 (by omega)) (by omega)), (x_up_k (x_up_k h6 (by omega)) (by omega)), (x_up_k (x_up_k h7 (by omega)) (by omega)), (x_up_k (x_up_k h8 (by omega)) (by omega)), (x_up_k (x_up_k h9 (by omega)) (by omega)), (x_up_k (x_up_k h10 (by omega)) (by omega)), (x_up_k (x_up_k h11 (by omega)) (by omega)), (x_up_k (x_up_k h12 (by omega)) (by omega)), (x_up_k (x_up_k h13 (by omega)) (by omega)), (x_up_k (x_up_k h14 (by omega)) (by omega)), (x_up_k (x_up_k h15 (by omega)) (by omega)), (x_up_k (x_up_k h16 (by omega)) (by omega)), (x_up_k (x_up_k h17 (by omega)) (by omega)), (x_up_k (x_up_k h18 (by omega)) (by omega)), by omega, by omega, by omega, by omega, by omega, by omega⟩⟩)
                                · skip
                                  have c225 : n ≠ 0 := by
                                    have z : ¬ (n = 0) := fun zz => c225 ((nI_eq (a := n) (b := 0) (by omega) (by omega)).mpr zz)
                                    omega
                                  obtain ⟨n0, hn1⟩ : ∃ n0, n = n0 + 1 := ⟨n - 1, by omega⟩
                                  refine x_aload_n F 6 dM_readsCode_258 rfl rfl ?_
                                  refine x_get (ci := 6) F 7 (x_in inM) rfl (by decide) (x_m kfM_20) dM_readsCode_259 (x_up_k (x_up_k h0 (by omega)) (by omega)) rfl ?_
                                  refine x_iload_n F 4 dM_readsCode_262 rfl rfl ?_
                                  refine x_lald F dM_readsCode_263 x_up_s (pk_in (120 + n) (160) (by omega)) ?_
                                  refine xW.tol (lN (cN tx (q + rM tx sn q) (rD tx sn (q + rM tx sn q)))) (by rw [nI_clamp (by omega)]; exact vp_us) ?_
                                  refine x_aload_n F 6 dM_readsCode_264 rfl rfl ?_
                                  refine x_get (ci := 6) F 7 (x_in inM) rfl (by decide) (x_m kfM_20) dM_readsCode_265 (x_up_k (x_up_k h0 (by omega)) (by omega)) rfl ?_
                                  refine x_iload_n F 4 dM_readsCode_268 rfl rfl ?_
                                  refine x_iconst F (v := nI (1)) dM_readsCode_269 (by decide) ?_
                                  refine x_isub F dM_readsCode_270 ?_
                                  refine xW.toi (nI (120 + n0)) (by rw [hn1]; exact nI_pred (120 + n0)) ?_
                                  refine x_lald F dM_readsCode_271 x_up_s (pk_in (120 + n0) (160) (by omega)) ?_
                                  refine xW.tol (lN (xs n0)) (by rw [nI_clamp (by omega)]; exact (updL_ne (by omega)).trans (hcd n0 (by omega)).1) ?_
                                  refine yS (n := 2) (As := [.long (lN (cN tx (q + rM tx sn q) (rD tx sn (q + rM tx sn q)))), .long (lN (xs n0))]) F kmM_126 ktM_isBehind knM kcM_isBehind (by decide +kernel) dM_readsCode_272 (cM_isBehind l (nx) (x_up (x_up M (a + 4) (.inl (.int, 160, .inl (upd (ds) (120 + n) (nI (rM tx sn q)))))) (a + 3) (.inl (.long, 160, .inr (.inl (vp_updL (cd) (120 + n) (lN (cN tx (q + rM tx sn q) (rD tx sn (q + rM tx sn q))))))))) (cN tx (q + rM tx sn q) (rD tx sn (q + rM tx sn q))) (rD tx sn (q + rM tx sn q)) (xs n0) (dg n0) hX10 (hcd n0 (by omega)).2) rfl rfl (Nat.le_of_ble_eq_true rfl) ⟨Nat.le_of_ble_eq_true rfl, Nat.le_of_ble_eq_true rfl⟩ ⟨Nat.le_of_ble_eq_true rfl, Nat.le_of_ble_eq_true rfl⟩ ?_
                                  refine x_if_ne F (tgt := 288) dM_readsCode_275 (by decide) (fun c226 => ?_) (fun c226 => ?_)
                                  · skip
                                    have c226 : (mbh (cN tx (q + rM tx sn q) (rD tx sn (q + rM tx sn q))) (rD tx sn (q + rM tx sn q)) (xs n0) (dg n0)) = true := bI_1 c226
                                    have hbeh : mBeh xs dg n (cN tx (q + rM tx sn q) (rD tx sn (q + rM tx sn q))) (rD tx sn (q + rM tx sn q)) = true := by rw [hn1]; exact c226
                                    refine x_iconst F (v := nI (1)) dM_readsCode_288 (by decide) ?_
                                    refine x_goto F (tgt := 293) dM_readsCode_289 (by decide) ?_
                                    exact x_zret F hr (by rfl) dM_readsCode_293 (by rw [show mrc tx sn ds xs dg n q = none from by rw [mrc, if_neg (fun z => by have z := z.2; rw [c115] at z; cases z), if_neg h70, if_neg c174, if_neg (by omega), if_neg c176, if_neg (by omega), if_neg c179, if_neg (by rw [hbad]; decide), if_neg (by rw [hbeh]; decide)]]; exact ⟨rfl, fun b hb => (x_up_n (by omega)).trans ((x_up_n (by omega)).trans (rfl)), rfl, ⟨(x_up_k (x_up_k h0 (by omega)) (by omega)), (x_up_k (x_up_k h1 (by omega)) (by omega)), (x_up_k (x_up_k h2 (by omega)) (by omega)), x_up_s, (x_up_k x_up_s (by omega)), (x_up_k (x_up_k h5 (by omega)) (by omega)), (x_up_k (x_up_k h6 (by omega)) (by omega)), (x_up_k (x_up_k h7 (by omega)) (by omega)), (x_up_k (x_up_k h8 (by omega)) (by omega)), (x_up_k (x_up_k h9 (by omega)) (by omega)), (x_up_k (x_up_k h10 (by omega)) (by omega)), (x_up_k (x_up_k h11 (by omega)) (by omega)), (x_up_k (x_up_k h12 (by omega)) (by omega)), (x_up_k (x_up_k h13 (by omega)) (by omega)), (x_up_k (x_up_k h14 (by omega)) (by omega)), (x_up_k (x_up_k h15 (by omega)) (by omega)), (x_up_k (x_up_k h16 (by omega)) (by omega)), (x_up_k (x_up_k h17 (by omega)) (by omega)), (x_up_k (x_up_k h18 (by omega)) (by omega)), by omega, by omega, by omega, by omega, by omega, by omega⟩⟩)
                                  · skip
                                    have c226 : (mbh (cN tx (q + rM tx sn q) (rD tx sn (q + rM tx sn q))) (rD tx sn (q + rM tx sn q)) (xs n0) (dg n0)) = false := bI_0 c226
                                    have hbeh : mBeh xs dg n (cN tx (q + rM tx sn q) (rD tx sn (q + rM tx sn q))) (rD tx sn (q + rM tx sn q)) = false := by rw [hn1]; exact c226
                                    refine x_aload_n F 6 dM_readsCode_278 rfl rfl ?_
                                    refine x_iconst F (v := nI (4)) dM_readsCode_279 (by decide) ?_
                                    refine x_iload F 2 dM_readsCode_280 rfl ?_
                                    refine yVr (n := 2) (As := [.int (nI (4)), .int (nI (q + rM tx sn q))]) (ci := 6) F kmM_115 kiM_fails ksM_fails knM kcM_fails (by decide +kernel) dM_readsCode_282 (cM_fails l (nx) (x_up (x_up M (a + 4) (.inl (.int, 160, .inl (upd (ds) (120 + n) (nI (rM tx sn q)))))) (a + 3) (.inl (.long, 160, .inr (.inl (vp_updL (cd) (120 + n) (lN (cN tx (q + rM tx sn q) (rD tx sn (q + rM tx sn q))))))))) (a) th sg sn pr fk fp rws (vp_updL (cd) (120 + n) (lN (cN tx (q + rM tx sn q) (rD tx sn (q + rM tx sn q))))) (upd (ds) (120 + n) (nI (rM tx sn q))) wc wd nn nE nC nK nO ln lF lC lT lO fn fC fP ak ac pt ⟨(x_up_k (x_up_k h0 (by omega)) (by omega)), (x_up_k (x_up_k h1 (by omega)) (by omega)), (x_up_k (x_up_k h2 (by omega)) (by omega)), x_up_s, (x_up_k x_up_s (by omega)), (x_up_k (x_up_k h5 (by omega)) (by omega)), (x_up_k (x_up_k h6 (by omega)) (by omega)), (x_up_k (x_up_k h7 (by omega)) (by omega)), (x_up_k (x_up_k h8 (by omega)) (by omega)), (x_up_k (x_up_k h9 (by omega)) (by omega)), (x_up_k (x_up_k h10 (by omega)) (by omega)), (x_up_k (x_up_k h11 (by omega)) (by omega)), (x_up_k (x_up_k h12 (by omega)) (by omega)), (x_up_k (x_up_k h13 (by omega)) (by omega)), (x_up_k (x_up_k h14 (by omega)) (by omega)), (x_up_k (x_up_k h15 (by omega)) (by omega)), (x_up_k (x_up_k h16 (by omega)) (by omega)), (x_up_k (x_up_k h17 (by omega)) (by omega)), (x_up_k (x_up_k h18 (by omega)) (by omega)), by omega, by omega, by omega, by omega, by omega, by omega⟩ (nI (4)) (nI (q + rM tx sn q))) rfl (x_up_k (x_up_k h0 (by omega)) (by omega)) rfl rfl (Nat.le_of_ble_eq_true rfl) ⟨Nat.le_of_ble_eq_true rfl, Nat.le_of_ble_eq_true rfl⟩ ⟨Nat.le_of_ble_eq_true rfl, Nat.le_of_ble_eq_true rfl⟩ (fun r' n' M612 hp => ?_)
                                    obtain ⟨hr', hn', hM612, hf612⟩ := hp
                                    rw [hn', hr']
                                    obtain ⟨v612_0, v612_1, v612_2, v612_3, v612_4, v612_5, v612_6, v612_7, v612_8, v612_9, v612_10, v612_11, v612_12, v612_13, v612_14, v612_15, v612_16, v612_17, v612_18, vb612_0, vb612_1, vb612_2, vb612_3, vb612_4, vb612_5⟩ := id hM612
                                    show xW p l e ({ frames := 4, cells := 0, slots := 0, locals := 96 } : Room) s m args below meth c D xcl (x_A M nx) 8 (MQ below (x_Q D xcl (x_A M nx) (mcPost nx M a th sg sn pr fk fp rws cd ds wc wd nn nE nC nK nO ln lF lC lT lO fn fC fP ak ac pt n (rM tx sn q) (cN tx (q + rM tx sn q) (rD tx sn (q + rM tx sn q))) (mrc tx sn ds xs dg n q))) args s 0 0 (x_A M nx)) 0 0 (nx) M612 285 [(7, .int (nI (120 + j))), (6, .int (nI (rD tx sn (q + rM tx sn q)))), (5, .int (nI (q + rM tx sn q))), (4, .int (nI (rM tx sn q))), (3, .int (nI (120 + n))), (2, .int (nI (n))), (0, .ref (a)), (1, .int (nI (q)))] [.int (nI (0))]
                                    refine x_if_eq F (tgt := 292) dM_readsCode_285 (by decide) (fun c227 => ?_) (fun c227 => ?_)
                                    · skip
                                      have c227 : 0 = 0 := by
                                        exact (nI_eq (a := 0) (b := 0) (by omega) (by omega)).mp c227
                                      refine x_iconst F (v := nI (0)) dM_readsCode_292 (by decide) ?_
                                      exact x_zret F hr (by rfl) dM_readsCode_293 (by rw [show mrc tx sn ds xs dg n q = some (4, q + rM tx sn q) from by rw [mrc, if_neg (fun z => by have z := z.2; rw [c115] at z; cases z), if_neg h70, if_neg c174, if_neg (by omega), if_neg c176, if_neg (by omega), if_neg c179, if_neg (by rw [hbad]; decide), if_pos hbeh]]; exact ⟨rfl, fun b hb => (hf612 _ (by omega)).trans ((x_up_n (by omega)).trans ((x_up_n (by omega)).trans (rfl))), rfl, _, _, (fun i hi => ⟨updL_ne (by omega), upd_ne (by omega)⟩), hM612⟩)
                                    · skip
                                      have c227 : 0 ≠ 0 := by
                                        have z : ¬ (0 = 0) := fun zz => c227 ((nI_eq (a := 0) (b := 0) (by omega) (by omega)).mpr zz)
                                        omega
                                      exact absurd c227 (by decide)
                              · skip
                                have c224 : (mbg (cN tx (q + rM tx sn q) (rD tx sn (q + rM tx sn q))) (rD tx sn (q + rM tx sn q)) (cN tx (q + rM tx sn q) (rD tx sn (q + rM tx sn q))) (rD tx sn (q + rM tx sn q))) = false := bI_0 c224
                                have hla := mUp_la (by omega) hup
                                have hbad : mBad ds xs dg n (rM tx sn q) (cN tx (q + rM tx sn q) (rD tx sn (q + rM tx sn q))) (rD tx sn (q + rM tx sn q)) = true := by rw [mBad, if_neg (by omega), hla]; show (! mbg (cN tx (q + rM tx sn q) (rD tx sn (q + rM tx sn q))) (rD tx sn (q + rM tx sn q)) (xs j) (dg j)) = true; rw [c224]; rfl
                                refine x_aload_n F 6 dM_readsCode_246 rfl rfl ?_
                                refine x_iconst F (v := nI (3)) dM_readsCode_247 (by decide) ?_
                                refine x_iload F 2 dM_readsCode_248 rfl ?_
                                refine yVr (n := 2) (As := [.int (nI (3)), .int (nI (q + rM tx sn q))]) (ci := 6) F kmM_115 kiM_fails ksM_fails knM kcM_fails (by decide +kernel) dM_readsCode_250 (cM_fails l (nx) (x_up (x_up M (a + 4) (.inl (.int, 160, .inl (upd (ds) (120 + n) (nI (rM tx sn q)))))) (a + 3) (.inl (.long, 160, .inr (.inl (vp_updL (cd) (120 + n) (lN (cN tx (q + rM tx sn q) (rD tx sn (q + rM tx sn q))))))))) (a) th sg sn pr fk fp rws (vp_updL (cd) (120 + n) (lN (cN tx (q + rM tx sn q) (rD tx sn (q + rM tx sn q))))) (upd (ds) (120 + n) (nI (rM tx sn q))) wc wd nn nE nC nK nO ln lF lC lT lO fn fC fP ak ac pt ⟨(x_up_k (x_up_k h0 (by omega)) (by omega)), (x_up_k (x_up_k h1 (by omega)) (by omega)), (x_up_k (x_up_k h2 (by omega)) (by omega)), x_up_s, (x_up_k x_up_s (by omega)), (x_up_k (x_up_k h5 (by omega)) (by omega)), (x_up_k (x_up_k h6 (by omega)) (by omega)), (x_up_k (x_up_k h7 (by omega)) (by omega)), (x_up_k (x_up_k h8 (by omega)) (by omega)), (x_up_k (x_up_k h9 (by omega)) (by omega)), (x_up_k (x_up_k h10 (by omega)) (by omega)), (x_up_k (x_up_k h11 (by omega)) (by omega)), (x_up_k (x_up_k h12 (by omega)) (by omega)), (x_up_k (x_up_k h13 (by omega)) (by omega)), (x_up_k (x_up_k h14 (by omega)) (by omega)), (x_up_k (x_up_k h15 (by omega)) (by omega)), (x_up_k (x_up_k h16 (by omega)) (by omega)), (x_up_k (x_up_k h17 (by omega)) (by omega)), (x_up_k (x_up_k h18 (by omega)) (by omega)), by omega, by omega, by omega, by omega, by omega, by omega⟩ (nI (3)) (nI (q + rM tx sn q))) rfl (x_up_k (x_up_k h0 (by omega)) (by omega)) rfl rfl (Nat.le_of_ble_eq_true rfl) ⟨Nat.le_of_ble_eq_true rfl, Nat.le_of_ble_eq_true rfl⟩ ⟨Nat.le_of_ble_eq_true rfl, Nat.le_of_ble_eq_true rfl⟩ (fun r' n' M613 hp => ?_)
                                obtain ⟨hr', hn', hM613, hf613⟩ := hp
                                rw [hn', hr']
                                obtain ⟨v613_0, v613_1, v613_2, v613_3, v613_4, v613_5, v613_6, v613_7, v613_8, v613_9, v613_10, v613_11, v613_12, v613_13, v613_14, v613_15, v613_16, v613_17, v613_18, vb613_0, vb613_1, vb613_2, vb613_3, vb613_4, vb613_5⟩ := id hM613
                                show xW p l e ({ frames := 4, cells := 0, slots := 0, locals := 96 } : Room) s m args below meth c D xcl (x_A M nx) 8 (MQ below (x_Q D xcl (x_A M nx) (mcPost nx M a th sg sn pr fk fp rws cd ds wc wd nn nE nC nK nO ln lF lC lT lO fn fC fP ak ac pt n (rM tx sn q) (cN tx (q + rM tx sn q) (rD tx sn (q + rM tx sn q))) (mrc tx sn ds xs dg n q))) args s 0 0 (x_A M nx)) 0 0 (nx) M613 253 [(7, .int (nI (120 + j))), (6, .int (nI (rD tx sn (q + rM tx sn q)))), (5, .int (nI (q + rM tx sn q))), (4, .int (nI (rM tx sn q))), (3, .int (nI (120 + n))), (2, .int (nI (n))), (0, .ref (a)), (1, .int (nI (q)))] [.int (nI (0))]
                                exact x_zret F hr (by rfl) dM_readsCode_253 (by rw [show mrc tx sn ds xs dg n q = some (3, q + rM tx sn q) from by rw [mrc, if_neg (fun z => by have z := z.2; rw [c115] at z; cases z), if_neg h70, if_neg c174, if_neg (by omega), if_neg c176, if_neg (by omega), if_neg c179, if_pos hbad]]; exact ⟨rfl, fun b hb => (hf613 _ (by omega)).trans ((x_up_n (by omega)).trans ((x_up_n (by omega)).trans (rfl))), rfl, _, _, (fun i hi => ⟨updL_ne (by omega), upd_ne (by omega)⟩), hM613⟩)
                  · skip
                    have c179 : (rD tx sn (q + rM tx sn q)) % 2 = 1 := by
                      exact (nI_eq (a := (rD tx sn (q + rM tx sn q)) % 2) (b := 1) (by omega) (by omega)).mp c179
                    refine x_aload_n F 5 dM_readsCode_145 rfl rfl ?_
                    refine x_iconst F (v := nI (1)) dM_readsCode_146 (by decide) ?_
                    refine x_iload F 0 dM_readsCode_147 rfl ?_
                    refine x_bipush F (v := nI (10)) dM_readsCode_149 (by decide) ?_
                    refine x_icmp_le F (tgt := 162) dM_readsCode_151 (by decide) (fun c228 => ?_) (fun c228 => ?_)
                    · skip
                      have c228 : rD tx sn (q + rM tx sn q) ≤ 10 := by
                        exact (nI_leI (a := rD tx sn (q + rM tx sn q)) (b := 10) (by omega) (by omega)).mp c228
                      refine x_iload F 1 dM_readsCode_162 rfl ?_
                      refine x_iload F 0 dM_readsCode_164 rfl ?_
                      refine x_iadd F dM_readsCode_166 ?_
                      refine xW.toi (nI (q + rM tx sn q + rD tx sn (q + rM tx sn q))) (nI_add _ _) ?_
                      refine yVr (n := 2) (As := [.int (nI (1)), .int (nI (q + rM tx sn q + rD tx sn (q + rM tx sn q)))]) (ci := 6) F kmM_115 kiM_fails ksM_fails knM kcM_fails (by decide +kernel) dM_readsCode_167 (cM_fails l (nx) M (a) th sg sn pr fk fp rws cd ds wc wd nn nE nC nK nO ln lF lC lT lO fn fC fP ak ac pt hT (nI (1)) (nI (q + rM tx sn q + rD tx sn (q + rM tx sn q)))) rfl h0 rfl rfl (Nat.le_of_ble_eq_true rfl) ⟨Nat.le_of_ble_eq_true rfl, Nat.le_of_ble_eq_true rfl⟩ ⟨Nat.le_of_ble_eq_true rfl, Nat.le_of_ble_eq_true rfl⟩ (fun r' n' M614 hp => ?_)
                      obtain ⟨hr', hn', hM614, hf614⟩ := hp
                      rw [hn', hr']
                      obtain ⟨v614_0, v614_1, v614_2, v614_3, v614_4, v614_5, v614_6, v614_7, v614_8, v614_9, v614_10, v614_11, v614_12, v614_13, v614_14, v614_15, v614_16, v614_17, v614_18, vb614_0, vb614_1, vb614_2, vb614_3, vb614_4, vb614_5⟩ := id hM614
                      show xW p l e ({ frames := 4, cells := 0, slots := 0, locals := 96 } : Room) s m args below meth c D xcl (x_A M nx) 8 (MQ below (x_Q D xcl (x_A M nx) (mcPost nx M a th sg sn pr fk fp rws cd ds wc wd nn nE nC nK nO ln lF lC lT lO fn fC fP ak ac pt n (rM tx sn q) (cN tx (q + rM tx sn q) (rD tx sn (q + rM tx sn q))) (mrc tx sn ds xs dg n q))) args s 0 0 (x_A M nx)) 0 0 (nx) M614 170 [(6, .int (nI (rD tx sn (q + rM tx sn q)))), (5, .int (nI (q + rM tx sn q))), (4, .int (nI (rM tx sn q))), (3, .int (nI (120 + n))), (2, .int (nI (n))), (0, .ref (a)), (1, .int (nI (q)))] [.int (nI (0))]
                      exact x_zret F hr (by rfl) dM_readsCode_170 (by rw [show mrc tx sn ds xs dg n q = some (1, q + rM tx sn q + rD tx sn (q + rM tx sn q)) from by rw [mrc, if_neg (fun z => by have z := z.2; rw [c115] at z; cases z), if_neg h70, if_neg c174, if_neg (by omega), if_neg c176, if_neg (by omega), if_pos c179]]; exact ⟨rfl, fun b hb => (hf614 _ (by omega)).trans (rfl), rfl, _, _, (fun i hi => ⟨rfl, rfl⟩), hM614⟩)
                    · skip
                      have c228 : 10 < rD tx sn (q + rM tx sn q) := by
                        have z : ¬ (rD tx sn (q + rM tx sn q) ≤ 10) := fun zz => c228 ((nI_leI (a := rD tx sn (q + rM tx sn q)) (b := 10) (by omega) (by omega)).mpr zz)
                        omega
                      refine x_iload F 1 dM_readsCode_154 rfl ?_
                      refine x_bipush F (v := nI (10)) dM_readsCode_156 (by decide) ?_
                      refine x_iadd F dM_readsCode_158 ?_
                      refine xW.toi (nI (q + rM tx sn q + 10)) (nI_add _ _) ?_
                      refine x_goto F (tgt := 167) dM_readsCode_159 (by decide) ?_
                      refine yVr (n := 2) (As := [.int (nI (1)), .int (nI (q + rM tx sn q + 10))]) (ci := 6) F kmM_115 kiM_fails ksM_fails knM kcM_fails (by decide +kernel) dM_readsCode_167 (cM_fails l (nx) M (a) th sg sn pr fk fp rws cd ds wc wd nn nE nC nK nO ln lF lC lT lO fn fC fP ak ac pt hT (nI (1)) (nI (q + rM tx sn q + 10))) rfl h0 rfl rfl (Nat.le_of_ble_eq_true rfl) ⟨Nat.le_of_ble_eq_true rfl, Nat.le_of_ble_eq_true rfl⟩ ⟨Nat.le_of_ble_eq_true rfl, Nat.le_of_ble_eq_true rfl⟩ (fun r' n' M615 hp => ?_)
                      obtain ⟨hr', hn', hM615, hf615⟩ := hp
                      rw [hn', hr']
                      obtain ⟨v615_0, v615_1, v615_2, v615_3, v615_4, v615_5, v615_6, v615_7, v615_8, v615_9, v615_10, v615_11, v615_12, v615_13, v615_14, v615_15, v615_16, v615_17, v615_18, vb615_0, vb615_1, vb615_2, vb615_3, vb615_4, vb615_5⟩ := id hM615
                      show xW p l e ({ frames := 4, cells := 0, slots := 0, locals := 96 } : Room) s m args below meth c D xcl (x_A M nx) 8 (MQ below (x_Q D xcl (x_A M nx) (mcPost nx M a th sg sn pr fk fp rws cd ds wc wd nn nE nC nK nO ln lF lC lT lO fn fC fP ak ac pt n (rM tx sn q) (cN tx (q + rM tx sn q) (rD tx sn (q + rM tx sn q))) (mrc tx sn ds xs dg n q))) args s 0 0 (x_A M nx)) 0 0 (nx) M615 170 [(6, .int (nI (rD tx sn (q + rM tx sn q)))), (5, .int (nI (q + rM tx sn q))), (4, .int (nI (rM tx sn q))), (3, .int (nI (120 + n))), (2, .int (nI (n))), (0, .ref (a)), (1, .int (nI (q)))] [.int (nI (0))]
                      exact x_zret F hr (by rfl) dM_readsCode_170 (by rw [show mrc tx sn ds xs dg n q = some (1, q + rM tx sn q + rD tx sn (q + rM tx sn q)) from by rw [mrc, if_neg (fun z => by have z := z.2; rw [c115] at z; cases z), if_neg h70, if_neg c174, if_neg (by omega), if_neg c176, if_neg (by omega), if_pos c179]]; exact ⟨rfl, fun b hb => (hf615 _ (by omega)).trans (rfl), rfl, _, _, (fun i hi => ⟨rfl, rfl⟩), hM615⟩)
              · skip
                have c176 : rD tx sn (q + rM tx sn q) = 0 := by
                  exact (nI_eq (a := rD tx sn (q + rM tx sn q)) (b := 0) (by omega) (by omega)).mp c176
                refine x_aload_n F 5 dM_readsCode_122 rfl rfl ?_
                refine x_iconst F (v := nI (1)) dM_readsCode_123 (by decide) ?_
                refine x_iload F 1 dM_readsCode_124 rfl ?_
                refine yVr (n := 2) (As := [.int (nI (1)), .int (nI (q + rM tx sn q))]) (ci := 6) F kmM_115 kiM_fails ksM_fails knM kcM_fails (by decide +kernel) dM_readsCode_126 (cM_fails l (nx) M (a) th sg sn pr fk fp rws cd ds wc wd nn nE nC nK nO ln lF lC lT lO fn fC fP ak ac pt hT (nI (1)) (nI (q + rM tx sn q))) rfl h0 rfl rfl (Nat.le_of_ble_eq_true rfl) ⟨Nat.le_of_ble_eq_true rfl, Nat.le_of_ble_eq_true rfl⟩ ⟨Nat.le_of_ble_eq_true rfl, Nat.le_of_ble_eq_true rfl⟩ (fun r' n' M616 hp => ?_)
                obtain ⟨hr', hn', hM616, hf616⟩ := hp
                rw [hn', hr']
                obtain ⟨v616_0, v616_1, v616_2, v616_3, v616_4, v616_5, v616_6, v616_7, v616_8, v616_9, v616_10, v616_11, v616_12, v616_13, v616_14, v616_15, v616_16, v616_17, v616_18, vb616_0, vb616_1, vb616_2, vb616_3, vb616_4, vb616_5⟩ := id hM616
                show xW p l e ({ frames := 4, cells := 0, slots := 0, locals := 96 } : Room) s m args below meth c D xcl (x_A M nx) 8 (MQ below (x_Q D xcl (x_A M nx) (mcPost nx M a th sg sn pr fk fp rws cd ds wc wd nn nE nC nK nO ln lF lC lT lO fn fC fP ak ac pt n (rM tx sn q) (cN tx (q + rM tx sn q) (rD tx sn (q + rM tx sn q))) (mrc tx sn ds xs dg n q))) args s 0 0 (x_A M nx)) 0 0 (nx) M616 129 [(6, .int (nI (rD tx sn (q + rM tx sn q)))), (5, .int (nI (q + rM tx sn q))), (4, .int (nI (rM tx sn q))), (3, .int (nI (120 + n))), (2, .int (nI (n))), (0, .ref (a)), (1, .int (nI (q)))] [.int (nI (0))]
                exact x_zret F hr (by rfl) dM_readsCode_129 (by rw [show mrc tx sn ds xs dg n q = some (1, q + rM tx sn q) from by rw [mrc, if_neg (fun z => by have z := z.2; rw [c115] at z; cases z), if_neg h70, if_neg c174, if_neg (by omega), if_pos c176]]; exact ⟨rfl, fun b hb => (hf616 _ (by omega)).trans (rfl), rfl, _, _, (fun i hi => ⟨rfl, rfl⟩), hM616⟩)
            · skip
              have c175 : 4 < rM tx sn q := by
                have z : ¬ (rM tx sn q ≤ 4) := fun zz => c175 ((nI_leI (a := rM tx sn q) (b := 4) (by omega) (by omega)).mpr zz)
                omega
              refine x_aload_n F 4 dM_readsCode_99 rfl rfl ?_
              refine x_iconst F (v := nI (1)) dM_readsCode_100 (by decide) ?_
              refine x_iload_n F 5 dM_readsCode_101 rfl rfl ?_
              refine x_iconst F (v := nI (4)) dM_readsCode_102 (by decide) ?_
              refine x_iadd F dM_readsCode_103 ?_
              refine xW.toi (nI (q + 4)) (nI_add _ _) ?_
              refine yVr (n := 2) (As := [.int (nI (1)), .int (nI (q + 4))]) (ci := 6) F kmM_115 kiM_fails ksM_fails knM kcM_fails (by decide +kernel) dM_readsCode_104 (cM_fails l (nx) M (a) th sg sn pr fk fp rws cd ds wc wd nn nE nC nK nO ln lF lC lT lO fn fC fP ak ac pt hT (nI (1)) (nI (q + 4))) rfl h0 rfl rfl (Nat.le_of_ble_eq_true rfl) ⟨Nat.le_of_ble_eq_true rfl, Nat.le_of_ble_eq_true rfl⟩ ⟨Nat.le_of_ble_eq_true rfl, Nat.le_of_ble_eq_true rfl⟩ (fun r' n' M617 hp => ?_)
              obtain ⟨hr', hn', hM617, hf617⟩ := hp
              rw [hn', hr']
              obtain ⟨v617_0, v617_1, v617_2, v617_3, v617_4, v617_5, v617_6, v617_7, v617_8, v617_9, v617_10, v617_11, v617_12, v617_13, v617_14, v617_15, v617_16, v617_17, v617_18, vb617_0, vb617_1, vb617_2, vb617_3, vb617_4, vb617_5⟩ := id hM617
              show xW p l e ({ frames := 4, cells := 0, slots := 0, locals := 96 } : Room) s m args below meth c D xcl (x_A M nx) 8 (MQ below (x_Q D xcl (x_A M nx) (mcPost nx M a th sg sn pr fk fp rws cd ds wc wd nn nE nC nK nO ln lF lC lT lO fn fC fP ak ac pt n (rM tx sn q) (cN tx (q + rM tx sn q) (rD tx sn (q + rM tx sn q))) (mrc tx sn ds xs dg n q))) args s 0 0 (x_A M nx)) 0 0 (nx) M617 107 [(5, .int (nI (q + rM tx sn q))), (4, .int (nI (rM tx sn q))), (3, .int (nI (120 + n))), (2, .int (nI (n))), (0, .ref (a)), (1, .int (nI (q)))] [.int (nI (0))]
              exact x_zret F hr (by rfl) dM_readsCode_107 (by rw [show mrc tx sn ds xs dg n q = some (1, q + 4) from by rw [mrc, if_neg (fun z => by have z := z.2; rw [c115] at z; cases z), if_neg h70, if_neg c174, if_pos c175]]; exact ⟨rfl, fun b hb => (hf617 _ (by omega)).trans (rfl), rfl, _, _, (fun i hi => ⟨rfl, rfl⟩), hM617⟩)
          · skip
            have c174 : n = 40 := by
              exact (nI_eq (a := n) (b := 40) (by omega) (by omega)).mp c174
            refine x_aload_n F 4 dM_readsCode_86 rfl rfl ?_
            refine x_iconst F (v := nI (5)) dM_readsCode_87 (by decide) ?_
            refine x_iload_n F 5 dM_readsCode_88 rfl rfl ?_
            refine yVr (n := 2) (As := [.int (nI (5)), .int (nI (q))]) (ci := 6) F kmM_115 kiM_fails ksM_fails knM kcM_fails (by decide +kernel) dM_readsCode_89 (cM_fails l (nx) M (a) th sg sn pr fk fp rws cd ds wc wd nn nE nC nK nO ln lF lC lT lO fn fC fP ak ac pt hT (nI (5)) (nI (q))) rfl h0 rfl rfl (Nat.le_of_ble_eq_true rfl) ⟨Nat.le_of_ble_eq_true rfl, Nat.le_of_ble_eq_true rfl⟩ ⟨Nat.le_of_ble_eq_true rfl, Nat.le_of_ble_eq_true rfl⟩ (fun r' n' M618 hp => ?_)
            obtain ⟨hr', hn', hM618, hf618⟩ := hp
            rw [hn', hr']
            obtain ⟨v618_0, v618_1, v618_2, v618_3, v618_4, v618_5, v618_6, v618_7, v618_8, v618_9, v618_10, v618_11, v618_12, v618_13, v618_14, v618_15, v618_16, v618_17, v618_18, vb618_0, vb618_1, vb618_2, vb618_3, vb618_4, vb618_5⟩ := id hM618
            show xW p l e ({ frames := 4, cells := 0, slots := 0, locals := 96 } : Room) s m args below meth c D xcl (x_A M nx) 8 (MQ below (x_Q D xcl (x_A M nx) (mcPost nx M a th sg sn pr fk fp rws cd ds wc wd nn nE nC nK nO ln lF lC lT lO fn fC fP ak ac pt n (rM tx sn q) (cN tx (q + rM tx sn q) (rD tx sn (q + rM tx sn q))) (mrc tx sn ds xs dg n q))) args s 0 0 (x_A M nx)) 0 0 (nx) M618 92 [(5, .int (nI (q + rM tx sn q))), (4, .int (nI (rM tx sn q))), (3, .int (nI (120 + n))), (2, .int (nI (n))), (0, .ref (a)), (1, .int (nI (q)))] [.int (nI (0))]
            exact x_zret F hr (by rfl) dM_readsCode_92 (by rw [show mrc tx sn ds xs dg n q = some (5, q) from by rw [mrc, if_neg (fun z => by have z := z.2; rw [c115] at z; cases z), if_neg h70, if_pos c174]]; exact ⟨rfl, fun b hb => (hf618 _ (by omega)).trans (rfl), rfl, _, _, (fun i hi => ⟨rfl, rfl⟩), hM618⟩)
        · skip
          have h70 : mPre n ds < nI (rM tx sn q) := Int32.not_le.mp c173
          refine x_aload_n F 4 dM_readsCode_73 rfl rfl ?_
          refine x_iconst F (v := nI (2)) dM_readsCode_74 (by decide) ?_
          refine x_iload_n F 5 dM_readsCode_75 rfl rfl ?_
          refine yVr (n := 2) (As := [.int (nI (2)), .int (nI (q))]) (ci := 6) F kmM_115 kiM_fails ksM_fails knM kcM_fails (by decide +kernel) dM_readsCode_76 (cM_fails l (nx) M (a) th sg sn pr fk fp rws cd ds wc wd nn nE nC nK nO ln lF lC lT lO fn fC fP ak ac pt hT (nI (2)) (nI (q))) rfl h0 rfl rfl (Nat.le_of_ble_eq_true rfl) ⟨Nat.le_of_ble_eq_true rfl, Nat.le_of_ble_eq_true rfl⟩ ⟨Nat.le_of_ble_eq_true rfl, Nat.le_of_ble_eq_true rfl⟩ (fun r' n' M619 hp => ?_)
          obtain ⟨hr', hn', hM619, hf619⟩ := hp
          rw [hn', hr']
          obtain ⟨v619_0, v619_1, v619_2, v619_3, v619_4, v619_5, v619_6, v619_7, v619_8, v619_9, v619_10, v619_11, v619_12, v619_13, v619_14, v619_15, v619_16, v619_17, v619_18, vb619_0, vb619_1, vb619_2, vb619_3, vb619_4, vb619_5⟩ := id hM619
          show xW p l e ({ frames := 4, cells := 0, slots := 0, locals := 96 } : Room) s m args below meth c D xcl (x_A M nx) 8 (MQ below (x_Q D xcl (x_A M nx) (mcPost nx M a th sg sn pr fk fp rws cd ds wc wd nn nE nC nK nO ln lF lC lT lO fn fC fP ak ac pt n (rM tx sn q) (cN tx (q + rM tx sn q) (rD tx sn (q + rM tx sn q))) (mrc tx sn ds xs dg n q))) args s 0 0 (x_A M nx)) 0 0 (nx) M619 79 [(5, .int (nI (q + rM tx sn q))), (4, .int (nI (rM tx sn q))), (3, .int (nI (120 + n))), (2, .int (nI (n))), (0, .ref (a)), (1, .int (nI (q)))] [.int (nI (0))]
          exact x_zret F hr (by rfl) dM_readsCode_79 (by rw [show mrc tx sn ds xs dg n q = some (2, q) from by rw [mrc, if_neg (fun z => by have z := z.2; rw [c115] at z; cases z), if_pos h70]]; exact ⟨rfl, fun b hb => (hf619 _ (by omega)).trans (rfl), rfl, _, _, (fun i hi => ⟨rfl, rfl⟩), hM619⟩)
    · skip
      have c115 : (dig (tx (q))) = false := bI_0 c115
      refine x_aload_n F 4 dM_readsCode_43 rfl rfl ?_
      refine x_iconst F (v := nI (1)) dM_readsCode_44 (by decide) ?_
      refine x_iload_n F 5 dM_readsCode_45 rfl rfl ?_
      refine yVr (n := 2) (As := [.int (nI (1)), .int (nI (q))]) (ci := 6) F kmM_115 kiM_fails ksM_fails knM kcM_fails (by decide +kernel) dM_readsCode_46 (cM_fails l (nx) M (a) th sg sn pr fk fp rws cd ds wc wd nn nE nC nK nO ln lF lC lT lO fn fC fP ak ac pt hT (nI (1)) (nI (q))) rfl h0 rfl rfl (Nat.le_of_ble_eq_true rfl) ⟨Nat.le_of_ble_eq_true rfl, Nat.le_of_ble_eq_true rfl⟩ ⟨Nat.le_of_ble_eq_true rfl, Nat.le_of_ble_eq_true rfl⟩ (fun r' n' M620 hp => ?_)
      obtain ⟨hr', hn', hM620, hf620⟩ := hp
      rw [hn', hr']
      obtain ⟨v620_0, v620_1, v620_2, v620_3, v620_4, v620_5, v620_6, v620_7, v620_8, v620_9, v620_10, v620_11, v620_12, v620_13, v620_14, v620_15, v620_16, v620_17, v620_18, vb620_0, vb620_1, vb620_2, vb620_3, vb620_4, vb620_5⟩ := id hM620
      show xW p l e ({ frames := 4, cells := 0, slots := 0, locals := 96 } : Room) s m args below meth c D xcl (x_A M nx) 8 (MQ below (x_Q D xcl (x_A M nx) (mcPost nx M a th sg sn pr fk fp rws cd ds wc wd nn nE nC nK nO ln lF lC lT lO fn fC fP ak ac pt n (rM tx sn q) (cN tx (q + rM tx sn q) (rD tx sn (q + rM tx sn q))) (mrc tx sn ds xs dg n q))) args s 0 0 (x_A M nx)) 0 0 (nx) M620 49 [(5, .int (nI (q + rM tx sn q))), (4, .int (nI (rM tx sn q))), (3, .int (nI (120 + n))), (2, .int (nI (n))), (0, .ref (a)), (1, .int (nI (q)))] [.int (nI (0))]
      exact x_zret F hr (by rfl) dM_readsCode_49 (by rw [show mrc tx sn ds xs dg n q = some (1, q) from by rw [mrc, if_pos ⟨c1, c115⟩]]; exact ⟨rfl, fun b hb => (hf620 _ (by omega)).trans (rfl), rfl, _, _, (fun i hi => ⟨rfl, rfl⟩), hM620⟩)
