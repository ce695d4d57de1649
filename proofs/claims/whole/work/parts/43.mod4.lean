theorem rn_all {K : Nat → Bool} {tx : Nat → Nat} {k q i : Nat} (h : i < rn K tx k q) : K (tx (q + i)) = true := by
  induction k generalizing q i with
  | zero => exact absurd h (Nat.not_lt_zero _)
  | succ k ih =>
    rw [rn_s] at h
    split at h
    · cases i with
      | zero => assumption
      | succ i =>
        have := ih (q := q + 1) (i := i) (by omega)
        rw [show q + (i + 1) = q + 1 + i by omega]; exact this
    · omega
theorem rn_end {K : Nat → Bool} {tx : Nat → Nat} {k q : Nat} (h : rn K tx k q < k) : K (tx (q + rn K tx k q)) = false := by
  induction k generalizing q with
  | zero => omega
  | succ k ih =>
    rw [rn_s] at h ⊢
    split
    · rename_i hk
      rw [if_pos hk] at h
      have := ih (q := q + 1) (by omega)
      rw [show q + (rn K tx k (q + 1) + 1) = q + 1 + rn K tx k (q + 1) by omega]; exact this
    · rename_i hk
      cases hz : K (tx q) with
      | false => simpa using hz
      | true => exact absurd hz hk
theorem hrun_min {K : Nat → Bool} (h0 : K 0 = false) (tx : Nat → Nat) {n k q : Nat} (hq : q ≤ n) : hrun K tx n k q = min k (rn K tx (n - q) q) := by
  induction k generalizing q with
  | zero => show 0 = _; omega
  | succ k ih =>
    rw [hrun_s]
    by_cases hqn : q < n
    · rw [show n - q = (n - (q + 1)) + 1 by omega, rn_s, show hx tx n q = tx q from if_pos hqn]
      split
      · rw [ih (q := q + 1) (by omega)]; omega
      · omega
    · rw [show hx tx n q = 0 from if_neg hqn, h0, show n - q = 0 by omega]
      show 0 = min (k + 1) 0
      omega
abbrev rL (tx : Nat → Nat) (n q : Nat) : Nat := rn let_ tx (n - q) q
theorem lNn_r {tx : Nat → Nat} {n q : Nat} (hq : q ≤ n) : lNn tx n q = min 8 (rL tx n q) := hrun_min rfl tx hq
theorem dN_r {tx : Nat → Nat} {n q : Nat} (hq : q ≤ n) : dN tx n q = min 10 (rn dig tx (n - q) q) := hrun_min rfl tx hq
/-- words are right up to their end -/
def mwOk (tx : Nat → Nat) (sn mo en q : Nat) (ak : Nat → Int64) : Bool := (wds tx sn mo mo 0 q ak).1 && decide (hx tx sn (wds tx sn mo mo 0 q ak).2.2.1 = en)
def mwPost (nx : Nat) (M : xH) (a : Nat) (th : Int32) (sg : Nat → Int32) (sn pr : Nat) (fk fp : Int32) (rws : Nat → Int32) (cd : Nat → Int64) (ds wc : Nat → Int32) (wd : Nat → Int64) (nn : Nat) (nE : Nat → Int32) (nC : Nat → Int64) (nK : Nat → Int32) (nO : Nat → Int64) (ln : Nat) (lF : Nat → Int32) (lC : Nat → Int64) (lT : Nat → Int32) (lO : Nat → Int64) (fn : Nat) (fC : Nat → Int64) (fP : Nat → Int32) (ak : Nat → Int64) (ac : Nat) (pt : Nat → Int32) (ok : Bool) (S : Bool × Nat × Nat × (Nat → Int64)) : xO → Nat → xH → Prop := fun r n' M' => n' = nx ∧ (∀ b, (b < a ∨ a + 18 < b) → M' b = M b) ∧ match ok with
  | true => r = some (.int (nI (S.2.2.1 + 1))) ∧ mAt M' a th sg sn pr fk fp rws cd ds wc wd nn nE nC nK nO ln lF lC lT lO fn fC fP S.2.2.2 S.2.1 pt
  | false => r = some (.int (-1)) ∧ ∃ (ak' : Nat → Int64) (ac' : Nat), mAt M' a th sg sn pr (nI 1) (nI S.2.2.1) rws cd ds wc wd nn nE nC nK nO ln lF lC lT lO fn fC fP ak' ac' pt
/-- what a row's code fails with -/
def mPre (n : Nat) (ds : Nat → Int32) : Int32 := match n with
  | 0 => nI 0
  | k + 1 => ds (120 + k) + nI 1
abbrev rM (tx : Nat → Nat) (sn q : Nat) : Nat := rn (fun c => decide (c = 45)) tx (sn - q) q
abbrev rD (tx : Nat → Nat) (sn q : Nat) : Nat := rn dig tx (sn - q) q
/-- whether the code, of r digits, is wrong below the row above it -/
def mBad (ds : Nat → Int32) (xs dg : Nat → Nat) (n m x r : Nat) : Bool := if m = 0 then ! decide (r = 2) else match la (fun j => decide (ds (120 + j) = nI m - nI 1)) n with
  | none => true
  | some j => ! mbg x r (xs j) (dg j)
def mBeh (xs dg : Nat → Nat) (n x r : Nat) : Bool := match n with
  | 0 => true
  | k + 1 => mbh x r (xs k) (dg k)
def mrc (tx : Nat → Nat) (sn : Nat) (ds : Nat → Int32) (xs dg : Nat → Nat) (n q : Nat) : Option (Nat × Nat) :=
  if rM tx sn q = 0 ∧ dig (tx q) = false then some (1, q) else
  if mPre n ds < nI (rM tx sn q) then some (2, q) else
  if n = 40 then some (5, q) else
  if 4 < rM tx sn q then some (1, q + 4) else
  if rD tx sn (q + rM tx sn q) = 0 then some (1, q + rM tx sn q) else
  if 10 < rD tx sn (q + rM tx sn q) then some (1, q + rM tx sn q + 10) else
  if rD tx sn (q + rM tx sn q) % 2 = 1 then some (1, q + rM tx sn q + rD tx sn (q + rM tx sn q)) else
  if mBad ds xs dg n (rM tx sn q) (cN tx (q + rM tx sn q) (rD tx sn (q + rM tx sn q))) (rD tx sn (q + rM tx sn q)) = true then some (3, q + rM tx sn q) else
  if mBeh xs dg n (cN tx (q + rM tx sn q) (rD tx sn (q + rM tx sn q))) (rD tx sn (q + rM tx sn q)) = false then some (4, q + rM tx sn q) else none
/-- the codes of the rows read so far -/
def mCd (cd : Nat → Int64) (xs dg : Nat → Nat) (n : Nat) : Prop := ∀ i, i < n → cd (120 + i) = lN (xs i) ∧ cdg (xs i) (dg i)
def mcPost (nx : Nat) (M : xH) (a : Nat) (th : Int32) (sg : Nat → Int32) (sn pr : Nat) (fk fp : Int32) (rws : Nat → Int32) (cd : Nat → Int64) (ds wc : Nat → Int32) (wd : Nat → Int64) (nn : Nat) (nE : Nat → Int32) (nC : Nat → Int64) (nK : Nat → Int32) (nO : Nat → Int64) (ln : Nat) (lF : Nat → Int32) (lC : Nat → Int64) (lT : Nat → Int32) (lO : Nat → Int64) (fn : Nat) (fC : Nat → Int64) (fP : Nat → Int32) (ak : Nat → Int64) (ac : Nat) (pt : Nat → Int32) (n m x : Nat) (k : Option (Nat × Nat)) : xO → Nat → xH → Prop := fun r n' M' => n' = nx ∧ (∀ b, (b < a ∨ a + 18 < b) → M' b = M b) ∧ match k with
  | none => r = some (.int (nI 1)) ∧ mAt M' a th sg sn pr fk fp rws (vp_updL cd (120 + n) (lN x)) (upd ds (120 + n) (nI m)) wc wd nn nE nC nK nO ln lF lC lT lO fn fC fP ak ac pt
  | some f => r = some (.int (nI 0)) ∧ ∃ (cd' : Nat → Int64) (ds' : Nat → Int32), (∀ i, i < 120 → cd' i = cd i ∧ ds' i = ds i) ∧ mAt M' a th sg sn pr (nI f.1) (nI f.2) rws cd' ds' wc wd nn nE nC nK nO ln lF lC lT lO fn fC fP ak ac pt
theorem cN_dg {tx : Nat → Nat} {q d : Nat} (hd : d ≤ 10) (h : ∀ i, i < d → dig (tx (q + i)) = true) : cdg (cN tx q d) d := by
  refine ⟨?_, ?_, hd⟩
  all_goals
    induction d with
    | zero => show _ ; simp [cN]
    | succ d ih =>
      have h1 := ih (by omega) (fun i hi => h i (by omega))
      have h2 := h d (by omega)
      simp [dig] at h2
      simp only [cN, Nat.pow_succ]
      omega
theorem vp_us {g : Nat → Int64} {n : Nat} {v : Int64} : vp_updL g n v n = v := by unfold vp_updL; rw [if_pos rfl]
theorem mbg_self (x d : Nat) : mbg x d x d = false := by rw [mbg, decide_eq_false (Nat.lt_irrefl d)]; rfl
theorem la_ext {P Q : Nat → Bool} {n : Nat} (h : ∀ i, i < n → P i = Q i) : la P n = la Q n := by
  induction n with
  | zero => rfl
  | succ k ih => rw [la_s, la_s, h k (by omega), ih (fun i hi => h i (by omega))]
theorem mUp_la {ds : Nat → Int32} {n m : Nat} {r : Option Nat} (hm : 0 < m ∧ m < 2 ^ 31) (h : mUp (upd ds (120 + n) (nI m)) 120 n = r) : la (fun j => decide (ds (120 + j) = nI m - nI 1)) n = r := by
  have e : upd ds (120 + n) (nI m) (120 + n) = nI m := by unfold upd; rw [if_pos rfl]
  rw [mUp, e, if_neg (fun z => by
    have := (nI_eq (a := m) (b := 0) hm.2 (by omega)).mp z
    omega)] at h
  rw [← h]
  exact la_ext (fun i hi => by rw [upd_ne (by omega)])
set_option maxHeartbeats 4000000 in
set_option maxRecDepth 100000 in
theorem cM_readsWords (l : Launch) (nx : Nat) (M : xH) (a : Nat) (th : Int32) (sg : Nat → Int32) (sn pr : Nat) (fk fp : Int32) (rws : Nat → Int32) (cd : Nat → Int64) (ds wc : Nat → Int32) (wd : Nat → Int64) (nn : Nat) (nE : Nat → Int32) (nC : Nat → Int64) (nK : Nat → Int32) (nO : Nat → Int64) (ln : Nat) (lF : Nat → Int32) (lC : Nat → Int64) (lT : Nat → Int32) (lO : Nat → Int64) (fn : Nat) (fC : Nat → Int64) (fP : Nat → Int32) (ak : Nat → Int64) (ac : Nat) (pt : Nat → Int32) (hT : mAt M a th sg sn pr fk fp rws cd ds wc wd nn nE nC nK nO ln lF lC lT lO fn fC fP ak ac pt) (tx : Nat → Nat) (hX : sAt sg tx sn) (q mo en : Nat) (hq : q ≤ sn) (hmo : 1 ≤ mo) (hmo6 : mo ≤ 6) (hen46 : 46 ≠ en) (hen97 : en < 97) : xC l xcl yM_readsWords (xw (Cond.code yM_readsWords bM_readsWords 7 (some .int))) ({ frames := 3, cells := 0, slots := 0, locals := 65 } : Room) [.ref (a), .int (nI (q)), .int (nI (mo)), .int (nI (en))] nx M (mwPost nx M a th sg sn pr fk fp rws cd ds wc wd nn nE nC nK nO ln lF lC lT lO fn fC fP ak ac pt (mwOk tx sn mo en q ak) (wds tx sn mo mo 0 q ak)) := by
  obtain ⟨h0, h1, h2, h3, h4, h5, h6, h7, h8, h9, h10, h11, h12, h13, h14, h15, h16, h17, h18, b1, b2, b3, b4, b5, b6⟩ := id hT
  refine yC (by decide) (Nat.le_of_ble_eq_true rfl) ?_
  intro p e s m args below meth c D F hr hn
  have loop : ∀ (f : Nat) (k1 q1 : Nat) (ak1 : Nat → Int64) (M1 : xH), k1 + f = mo → k1 < mo → q1 ≤ sn → wds tx sn mo mo 0 q ak = wds tx sn mo f k1 q1 ak1 → mAt M1 a th sg sn pr fk fp rws cd ds wc wd nn nE nC nK nO ln lF lC lT lO fn fC fP ak1 k1 pt → (∀ b, (b < a ∨ a + 18 < b) → M1 b = M b) → xW p l e ({ frames := 3, cells := 0, slots := 0, locals := 65 } : Room) s m args below meth c D xcl (x_A M nx) 7 (MQ below (x_Q D xcl (x_A M nx) (mwPost nx M a th sg sn pr fk fp rws cd ds wc wd nn nE nC nK nO ln lF lC lT lO fn fC fP ak ac pt (mwOk tx sn mo en q ak) (wds tx sn mo mo 0 q ak))) args s 0 0 (x_A M nx)) 0 0 (nx) M1 8 [(4, .int (nI (q1))), (0, .ref (a)), (1, .int (nI (q))), (2, .int (nI (mo))), (3, .int (nI (en)))] [] := by
    intro f
    induction f with
    | zero =>
      intro k1 q1 ak1 M1 hkf hk1 hq1 hf hT1 hfr
      exact absurd hk1 (by omega)
    | succ f ih =>
      intro k1 q1 ak1 M1 hkf hk1 hq1 hf hT1 hfr
      obtain ⟨g0, g1, g2, g3, g4, g5, g6, g7, g8, g9, g10, g11, g12, g13, g14, g15, g16, g17, g18, d1, d2, d3, d4, d5, d6⟩ := id hT1
      have hl := lNn_r (tx := tx) hq1
      have hrl : rL tx sn q1 ≤ sn - q1 := rn_le _ _ _ _
      refine x_aload_n F 1 dM_readsWords_8 rfl rfl ?_
      refine x_iload F 0 dM_readsWords_9 rfl ?_
      refine x_iconst F (v := nI (2)) dM_readsWords_11 (by decide) ?_
      refine yV (n := 2) (As := [.int (nI (q1)), .int (nI (2))]) (ci := 6) F kmM_111 kiM_run ksM_run knM kcM_run (by decide +kernel) dM_readsWords_12 (cM_run2 l (nx) M1 (a) th sg sn pr fk fp rws cd ds wc wd nn nE nC nK nO ln lF lC lT lO fn fC fP ak1 k1 pt hT1 tx hX (q1) (by omega)) rfl g0 rfl rfl (Nat.le_of_ble_eq_true rfl) ⟨Nat.le_of_ble_eq_true rfl, Nat.le_of_ble_eq_true rfl⟩ ⟨Nat.le_of_ble_eq_true rfl, Nat.le_of_ble_eq_true rfl⟩ ?_
      refine x_istore F [(5, .int (nI (rL tx sn q1))), (4, .int (nI (q1))), (0, .ref (a)), (1, .int (nI (q))), (2, .int (nI (mo))), (3, .int (nI (en)))] dM_readsWords_15 (by decide) rfl ?_
      refine x_iload F 0 dM_readsWords_17 rfl ?_
      refine x_if_eq F (tgt := 29) dM_readsWords_19 (by decide) (fun c1 => ?_) (fun c1 => ?_)
      · skip
        have c1 : rL tx sn q1 = 0 := by
          exact (nI_eq (a := rL tx sn q1) (b := 0) (by omega) (by omega)).mp c1
        refine x_aload_n F 2 dM_readsWords_29 rfl rfl ?_
        refine x_iconst F (v := nI (1)) dM_readsWords_30 (by decide) ?_
        refine x_iload F 0 dM_readsWords_31 rfl ?_
        refine x_if_ne F (tgt := 41) dM_readsWords_33 (by decide) (fun c2 => ?_) (fun c2 => ?_)
        · skip
          have c2 : rL tx sn q1 ≠ 0 := by
            have z : ¬ (rL tx sn q1 = 0) := fun zz => c2 ((nI_eq (a := rL tx sn q1) (b := 0) (by omega) (by omega)).mpr zz)
            omega
          exact absurd c2 (by omega)
        · skip
          have c2 : rL tx sn q1 = 0 := by
            exact (nI_eq (a := rL tx sn q1) (b := 0) (by omega) (by omega)).mp c2
          have hS0 : wds tx sn mo mo 0 q ak = (false, k1, q1, ak1) := by rw [hf, wds_s, if_pos (by omega)]
          refine x_iload F 1 dM_readsWords_36 rfl ?_
          refine x_goto F (tgt := 46) dM_readsWords_38 (by decide) ?_
          refine yVr (n := 2) (As := [.int (nI (1)), .int (nI (q1))]) (ci := 6) F kmM_115 kiM_fails ksM_fails knM kcM_fails (by decide +kernel) dM_readsWords_46 (cM_fails l (nx) M1 (a) th sg sn pr fk fp rws cd ds wc wd nn nE nC nK nO ln lF lC lT lO fn fC fP ak1 k1 pt hT1 (nI (1)) (nI (q1))) rfl g0 rfl rfl (Nat.le_of_ble_eq_true rfl) ⟨Nat.le_of_ble_eq_true rfl, Nat.le_of_ble_eq_true rfl⟩ ⟨Nat.le_of_ble_eq_true rfl, Nat.le_of_ble_eq_true rfl⟩ (fun r' n' M401 hp => ?_)
          obtain ⟨hr', hn', hM401, hf401⟩ := hp
          rw [hn', hr']
          obtain ⟨v401_0, v401_1, v401_2, v401_3, v401_4, v401_5, v401_6, v401_7, v401_8, v401_9, v401_10, v401_11, v401_12, v401_13, v401_14, v401_15, v401_16, v401_17, v401_18, vb401_0, vb401_1, vb401_2, vb401_3, vb401_4, vb401_5⟩ := id hM401
          show xW p l e ({ frames := 3, cells := 0, slots := 0, locals := 65 } : Room) s m args below meth c D xcl (x_A M nx) 7 (MQ below (x_Q D xcl (x_A M nx) (mwPost nx M a th sg sn pr fk fp rws cd ds wc wd nn nE nC nK nO ln lF lC lT lO fn fC fP ak ac pt (mwOk tx sn mo en q ak) (wds tx sn mo mo 0 q ak))) args s 0 0 (x_A M nx)) 0 0 (nx) M401 49 [(5, .int (nI (rL tx sn q1))), (4, .int (nI (q1))), (0, .ref (a)), (1, .int (nI (q))), (2, .int (nI (mo))), (3, .int (nI (en)))] [.int (nI (0))]
          refine x_if_eq F (tgt := 56) dM_readsWords_49 (by decide) (fun c3 => ?_) (fun c3 => ?_)
          · skip
            have c3 : 0 = 0 := by
              exact (nI_eq (a := 0) (b := 0) (by omega) (by omega)).mp c3
            refine x_iconst F (v := (-1)) dM_readsWords_56 (by decide) ?_
            exact x_iret F hr dM_readsWords_57 (by rw [show mwOk tx sn mo en q ak = false from by rw [mwOk, hS0]; rfl, hS0]; exact ⟨rfl, fun b hb => (hf401 _ (by omega)).trans ((hfr _ hb).trans (rfl)), rfl, _, _, hM401⟩)
          · skip
            have c3 : 0 ≠ 0 := by
              have z : ¬ (0 = 0) := fun zz => c3 ((nI_eq (a := 0) (b := 0) (by omega) (by omega)).mpr zz)
              omega
            exact absurd c3 (by decide)
      · skip
        have c1 : rL tx sn q1 ≠ 0 := by
          have z : ¬ (rL tx sn q1 = 0) := fun zz => c1 ((nI_eq (a := rL tx sn q1) (b := 0) (by omega) (by omega)).mpr zz)
          omega
        refine x_iload F 0 dM_readsWords_22 rfl ?_
        refine x_bipush F (v := nI (8)) dM_readsWords_24 (by decide) ?_
        refine x_icmp_le F (tgt := 58) dM_readsWords_26 (by decide) (fun c4 => ?_) (fun c4 => ?_)
        · skip
          have c4 : rL tx sn q1 ≤ 8 := by
            exact (nI_leI (a := rL tx sn q1) (b := 8) (by omega) (by omega)).mp c4
          have hl8 : lNn tx sn q1 = rL tx sn q1 := by omega
          refine x_aload_n F 2 dM_readsWords_58 rfl rfl ?_
          refine x_get (ci := 6) F 25 (x_in inM) rfl (by decide) (x_m kfM_129) dM_readsWords_59 g0 rfl ?_
          refine x_bipush F (v := nI (6)) dM_readsWords_62 (by decide) ?_
          refine x_icmp_ge F (tgt := 84) dM_readsWords_64 (by decide) (fun c5 => ?_) (fun c5 => ?_)
          · skip
            have c5 : 6 ≤ k1 := by
              exact (nI_leI (a := 6) (b := k1) (by omega) (by omega)).mp c5
            exact absurd c5 (by omega)
          · skip
            have c5 : k1 < 6 := by
              have z : ¬ (6 ≤ k1) := fun zz => c5 ((nI_leI (a := 6) (b := k1) (by omega) (by omega)).mpr zz)
              omega
            refine x_aload_n F 2 dM_readsWords_67 rfl rfl ?_
            refine x_get (ci := 6) F 24 (x_in inM) rfl (by decide) (x_m kfM_63) dM_readsWords_68 g0 rfl ?_
            refine x_aload_n F 2 dM_readsWords_71 rfl rfl ?_
            refine x_get (ci := 6) F 25 (x_in inM) rfl (by decide) (x_m kfM_129) dM_readsWords_72 g0 rfl ?_
            refine x_aload_n F 2 dM_readsWords_75 rfl rfl ?_
            refine x_iload F 1 dM_readsWords_76 rfl ?_
            refine x_iload F 0 dM_readsWords_78 rfl ?_
            refine yV (n := 2) (As := [.int (nI (q1)), .int (nI (rL tx sn q1))]) (ci := 6) F kmM_132 kiM_wordAt ksM_wordAt knM kcM_wordAt (by decide +kernel) dM_readsWords_80 (cM_wordAt l (nx) M1 (a) th sg sn pr fk fp rws cd ds wc wd nn nE nC nK nO ln lF lC lT lO fn fC fP ak1 k1 pt hT1 tx hX q1 (rL tx sn q1) (by omega) (fun i hi => rn_all hi)) rfl g0 rfl rfl (Nat.le_of_ble_eq_true rfl) ⟨Nat.le_of_ble_eq_true rfl, Nat.le_of_ble_eq_true rfl⟩ ⟨Nat.le_of_ble_eq_true rfl, Nat.le_of_ble_eq_true rfl⟩ ?_
            refine x_last F dM_readsWords_83 g17 (pk_in (k1) (6) (by omega)) ?_
            rw [nI_clamp (show k1 < 2 ^ 31 by omega)]
            show xW p l e ({ frames := 3, cells := 0, slots := 0, locals := 65 } : Room) s m args below meth c D xcl (x_A M nx) 7 (MQ below (x_Q D xcl (x_A M nx) (mwPost nx M a th sg sn pr fk fp rws cd ds wc wd nn nE nC nK nO ln lF lC lT lO fn fC fP ak ac pt (mwOk tx sn mo en q ak) (wds tx sn mo mo 0 q ak))) args s 0 0 (x_A M nx)) 0 0 (nx) (x_up M1 (a + 17) (.inl (.long, 6, .inr (.inl (vp_updL (ak1) (k1) (lN (wN tx q1 (rL tx sn q1)))))))) 84 [(5, .int (nI (rL tx sn q1))), (4, .int (nI (q1))), (0, .ref (a)), (1, .int (nI (q))), (2, .int (nI (mo))), (3, .int (nI (en)))] []
            refine x_aload_n F 2 dM_readsWords_84 rfl rfl ?_
            refine x_dup F dM_readsWords_85 rfl ?_
            refine x_get (ci := 6) F 25 (x_in inM) rfl (by decide) (x_m kfM_129) dM_readsWords_86 (x_up_k g0 (by omega)) rfl ?_
            refine x_iconst F (v := nI (1)) dM_readsWords_89 (by decide) ?_
            refine x_iadd F dM_readsWords_90 ?_
            refine xW.toi (nI (k1 + 1)) (nI_add _ _) ?_
            refine x_put (ci := 6) (ty := .int) F 25 (x_in inM) tM tM_ok nM rfl (by decide) (x_m kfM_129) dM_readsWords_91 rfl (by decide +kernel) rfl rfl (x_up_k g0 (by omega)) (Nat.le_of_ble_eq_true rfl) ?_
            show xW p l e ({ frames := 3, cells := 0, slots := 0, locals := 65 } : Room) s m args below meth c D xcl (x_A M nx) 7 (MQ below (x_Q D xcl (x_A M nx) (mwPost nx M a th sg sn pr fk fp rws cd ds wc wd nn nE nC nK nO ln lF lC lT lO fn fC fP ak ac pt (mwOk tx sn mo en q ak) (wds tx sn mo mo 0 q ak))) args s 0 0 (x_A M nx)) 0 0 (nx) (x_up (x_up M1 (a + 17) (.inl (.long, 6, .inr (.inl (vp_updL (ak1) (k1) (lN (wN tx q1 (rL tx sn q1)))))))) (a) (.inr (6, [.int (th), .ref (a + 1), .int (nI (sn)), .int (nI (pr)), .int (fk), .int (fp), .ref (a + 2), .ref (a + 3), .ref (a + 4), .ref (a + 5), .ref (a + 6), .int (nI (nn)), .ref (a + 7), .ref (a + 8), .ref (a + 9), .ref (a + 10), .int (nI (ln)), .ref (a + 11), .ref (a + 12), .ref (a + 13), .ref (a + 14), .int (nI (fn)), .ref (a + 15), .ref (a + 16), .ref (a + 17), .int (nI (k1 + 1)), .ref (a + 18)]))) 94 [(5, .int (nI (rL tx sn q1))), (4, .int (nI (q1))), (0, .ref (a)), (1, .int (nI (q))), (2, .int (nI (mo))), (3, .int (nI (en)))] []
            refine x_iload F 1 dM_readsWords_94 rfl ?_
            refine x_iload F 0 dM_readsWords_96 rfl ?_
            refine x_iadd F dM_readsWords_98 ?_
            refine xW.toi (nI (q1 + rL tx sn q1)) (nI_add _ _) ?_
            refine x_istore F [(4, .int (nI (q1 + rL tx sn q1))), (5, .int (nI (rL tx sn q1))), (0, .ref (a)), (1, .int (nI (q))), (2, .int (nI (mo))), (3, .int (nI (en)))] dM_readsWords_99 (by decide) rfl ?_
            refine x_iload F 0 dM_readsWords_101 rfl ?_
            refine x_aload_n F 2 dM_readsWords_103 rfl rfl ?_
            refine x_get (ci := 6) F 2 (x_in inM) rfl (by decide) (x_m kfM_83) dM_readsWords_104 x_up_s rfl ?_
            refine x_icmp_ge F (tgt := 120) dM_readsWords_107 (by decide) (fun c6 => ?_) (fun c6 => ?_)
            · skip
              have c6 : sn ≤ q1 + rL tx sn q1 := by
                exact (nI_leI (a := sn) (b := q1 + rL tx sn q1) (by omega) (by omega)).mp c6
              refine x_iconst F (v := nI (0)) dM_readsWords_120 (by decide) ?_
              refine xW.toi (nI (hx tx sn (q1 + rL tx sn q1))) (by rw [hx, if_neg (by omega)]) ?_
              have hxl : hx tx sn (q1 + rL tx sn q1) < 128 := hx_lt hX
              refine x_istore F [(6, .int (nI (hx tx sn (q1 + rL tx sn q1)))), (4, .int (nI (q1 + rL tx sn q1))), (5, .int (nI (rL tx sn q1))), (0, .ref (a)), (1, .int (nI (q))), (2, .int (nI (mo))), (3, .int (nI (en)))] dM_readsWords_121 (by decide) rfl ?_
              refine x_iload F 0 dM_readsWords_123 rfl ?_
              refine x_iload_n F 6 dM_readsWords_125 rfl rfl ?_
              refine x_icmp_ne F (tgt := 134) dM_readsWords_126 (by decide) (fun c7 => ?_) (fun c7 => ?_)
              · skip
                have c7 : hx tx sn (q1 + rL tx sn q1) ≠ en := by
                  have z : ¬ (hx tx sn (q1 + rL tx sn q1) = en) := fun zz => c7 ((nI_eq (a := hx tx sn (q1 + rL tx sn q1)) (b := en) (by omega) (by omega)).mpr zz)
                  omega
                refine x_iload F 0 dM_readsWords_134 rfl ?_
                refine x_bipush F (v := nI (46)) dM_readsWords_136 (by decide) ?_
                refine x_icmp_ne F (tgt := 149) dM_readsWords_138 (by decide) (fun c8 => ?_) (fun c8 => ?_)
                · skip
                  have c8 : hx tx sn (q1 + rL tx sn q1) ≠ 46 := by
                    have z : ¬ (hx tx sn (q1 + rL tx sn q1) = 46) := fun zz => c8 ((nI_eq (a := hx tx sn (q1 + rL tx sn q1)) (b := 46) (by omega) (by omega)).mpr zz)
                    omega
                  have hS : wds tx sn mo mo 0 q ak = (true, k1 + 1, q1 + rL tx sn q1, vp_updL ak1 k1 (lN (wN tx q1 (rL tx sn q1)))) := by rw [hf, wds_s, hl8, if_neg (by omega), if_neg (fun z => c8 z.1)]
                  refine x_aload_n F 3 dM_readsWords_149 rfl rfl ?_
                  refine x_iconst F (v := nI (1)) dM_readsWords_150 (by decide) ?_
                  refine x_iload F 1 dM_readsWords_151 rfl ?_
                  refine yVr (n := 2) (As := [.int (nI (1)), .int (nI (q1 + rL tx sn q1))]) (ci := 6) F kmM_115 kiM_fails ksM_fails knM kcM_fails (by decide +kernel) dM_readsWords_153 (cM_fails l (nx) (x_up (x_up M1 (a + 17) (.inl (.long, 6, .inr (.inl (vp_updL (ak1) (k1) (lN (wN tx q1 (rL tx sn q1)))))))) (a) (.inr (6, [.int (th), .ref (a + 1), .int (nI (sn)), .int (nI (pr)), .int (fk), .int (fp), .ref (a + 2), .ref (a + 3), .ref (a + 4), .ref (a + 5), .ref (a + 6), .int (nI (nn)), .ref (a + 7), .ref (a + 8), .ref (a + 9), .ref (a + 10), .int (nI (ln)), .ref (a + 11), .ref (a + 12), .ref (a + 13), .ref (a + 14), .int (nI (fn)), .ref (a + 15), .ref (a + 16), .ref (a + 17), .int (nI (k1 + 1)), .ref (a + 18)]))) (a) th sg sn pr fk fp rws cd ds wc wd nn nE nC nK nO ln lF lC lT lO fn fC fP (vp_updL (ak1) (k1) (lN (wN tx q1 (rL tx sn q1)))) (k1 + 1) pt ⟨x_up_s, (x_up_k (x_up_k g1 (by omega)) (by omega)), (x_up_k (x_up_k g2 (by omega)) (by omega)), (x_up_k (x_up_k g3 (by omega)) (by omega)), (x_up_k (x_up_k g4 (by omega)) (by omega)), (x_up_k (x_up_k g5 (by omega)) (by omega)), (x_up_k (x_up_k g6 (by omega)) (by omega)), (x_up_k (x_up_k g7 (by omega)) (by omega)), (x_up_k (x_up_k g8 (by omega)) (by omega)), (x_up_k (x_up_k g9 (by omega)) (by omega)), (x_up_k (x_up_k g10 (by omega)) (by omega)), (x_up_k (x_up_k g11 (by omega)) (by omega)), (x_up_k (x_up_k g12 (by omega)) (by omega)), (x_up_k (x_up_k g13 (by omega)) (by omega)), (x_up_k (x_up_k g14 (by omega)) (by omega)), (x_up_k (x_up_k g15 (by omega)) (by omega)), (x_up_k (x_up_k g16 (by omega)) (by omega)), (x_up_k x_up_s (by omega)), (x_up_k (x_up_k g18 (by omega)) (by omega)), by omega, by omega, by omega, by omega, by omega, by omega⟩ (nI (1)) (nI (q1 + rL tx sn q1))) rfl x_up_s rfl rfl (Nat.le_of_ble_eq_true rfl) ⟨Nat.le_of_ble_eq_true rfl, Nat.le_of_ble_eq_true rfl⟩ ⟨Nat.le_of_ble_eq_true rfl, Nat.le_of_ble_eq_true rfl⟩ (fun r' n' M402 hp => ?_)
                  obtain ⟨hr', hn', hM402, hf402⟩ := hp
                  rw [hn', hr']
                  obtain ⟨v402_0, v402_1, v402_2, v402_3, v402_4, v402_5, v402_6, v402_7, v402_8, v402_9, v402_10, v402_11, v402_12, v402_13, v402_14, v402_15, v402_16, v402_17, v402_18, vb402_0, vb402_1, vb402_2, vb402_3, vb402_4, vb402_5⟩ := id hM402
                  show xW p l e ({ frames := 3, cells := 0, slots := 0, locals := 65 } : Room) s m args below meth c D xcl (x_A M nx) 7 (MQ below (x_Q D xcl (x_A M nx) (mwPost nx M a th sg sn pr fk fp rws cd ds wc wd nn nE nC nK nO ln lF lC lT lO fn fC fP ak ac pt (mwOk tx sn mo en q ak) (wds tx sn mo mo 0 q ak))) args s 0 0 (x_A M nx)) 0 0 (nx) M402 156 [(6, .int (nI (hx tx sn (q1 + rL tx sn q1)))), (4, .int (nI (q1 + rL tx sn q1))), (5, .int (nI (rL tx sn q1))), (0, .ref (a)), (1, .int (nI (q))), (2, .int (nI (mo))), (3, .int (nI (en)))] [.int (nI (0))]
                  refine x_if_eq F (tgt := 163) dM_readsWords_156 (by decide) (fun c9 => ?_) (fun c9 => ?_)
                  · skip
                    have c9 : 0 = 0 := by
                      exact (nI_eq (a := 0) (b := 0) (by omega) (by omega)).mp c9
                    refine x_iconst F (v := (-1)) dM_readsWords_163 (by decide) ?_
                    exact x_iret F hr dM_readsWords_164 (by rw [show mwOk tx sn mo en q ak = false from by rw [mwOk, hS, decide_eq_false (show ¬ hx tx sn (q1 + rL tx sn q1) = en from c7)]; rfl, hS]; exact ⟨rfl, fun b hb => (hf402 _ (by omega)).trans ((x_up_n (by omega)).trans ((x_up_n (by omega)).trans ((hfr _ hb).trans (rfl)))), rfl, _, _, hM402⟩)
                  · skip
                    have c9 : 0 ≠ 0 := by
                      have z : ¬ (0 = 0) := fun zz => c9 ((nI_eq (a := 0) (b := 0) (by omega) (by omega)).mpr zz)
                      omega
                    exact absurd c9 (by decide)
                · skip
                  have c8 : hx tx sn (q1 + rL tx sn q1) = 46 := by
                    exact (nI_eq (a := hx tx sn (q1 + rL tx sn q1)) (b := 46) (by omega) (by omega)).mp c8
                  refine x_aload_n F 3 dM_readsWords_141 rfl rfl ?_
                  refine x_get (ci := 6) F 25 (x_in inM) rfl (by decide) (x_m kfM_129) dM_readsWords_142 x_up_s rfl ?_
                  refine x_iload_n F 5 dM_readsWords_145 rfl rfl ?_
                  refine x_icmp_ne F (tgt := 165) dM_readsWords_146 (by decide) (fun c10 => ?_) (fun c10 => ?_)
                  · skip
                    have c10 : k1 + 1 ≠ mo := by
                      have z : ¬ (k1 + 1 = mo) := fun zz => c10 ((nI_eq (a := k1 + 1) (b := mo) (by omega) (by omega)).mpr zz)
                      omega
                    refine x_iinc F 1 [(4, .int (nI (q1 + rL tx sn q1 + 1))), (6, .int (nI (hx tx sn (q1 + rL tx sn q1)))), (5, .int (nI (rL tx sn q1))), (0, .ref (a)), (1, .int (nI (q))), (2, .int (nI (mo))), (3, .int (nI (en)))] dM_readsWords_165 rfl (nI_add (q1 + rL tx sn q1) 1) (by decide) rfl ?_
                    refine x_goto F (tgt := 8) dM_readsWords_168 (by decide) ?_
                    refine xW.sub [0, 3, 4, 5, 6] rfl ?_
                    exact ih (k1 + 1) (q1 + rL tx sn q1 + 1) _ _ (by omega) (by omega) (by have := (hx_in (K := fun c => decide (c = 46)) rfl (tx := tx) (n := sn) (q := q1 + rL tx sn q1) (by simpa using c8)).1; omega) (by rw [hf, wds_s, hl8, if_neg (by omega), if_pos ⟨c8, c10⟩]) ⟨x_up_s, (x_up_k (x_up_k g1 (by omega)) (by omega)), (x_up_k (x_up_k g2 (by omega)) (by omega)), (x_up_k (x_up_k g3 (by omega)) (by omega)), (x_up_k (x_up_k g4 (by omega)) (by omega)), (x_up_k (x_up_k g5 (by omega)) (by omega)), (x_up_k (x_up_k g6 (by omega)) (by omega)), (x_up_k (x_up_k g7 (by omega)) (by omega)), (x_up_k (x_up_k g8 (by omega)) (by omega)), (x_up_k (x_up_k g9 (by omega)) (by omega)), (x_up_k (x_up_k g10 (by omega)) (by omega)), (x_up_k (x_up_k g11 (by omega)) (by omega)), (x_up_k (x_up_k g12 (by omega)) (by omega)), (x_up_k (x_up_k g13 (by omega)) (by omega)), (x_up_k (x_up_k g14 (by omega)) (by omega)), (x_up_k (x_up_k g15 (by omega)) (by omega)), (x_up_k (x_up_k g16 (by omega)) (by omega)), (x_up_k x_up_s (by omega)), (x_up_k (x_up_k g18 (by omega)) (by omega)), by omega, by omega, by omega, by omega, by omega, by omega⟩ (fun b hb => (x_up_n (by omega)).trans ((x_up_n (by omega)).trans ((hfr _ hb).trans (rfl))))
                  · skip
                    have c10 : k1 + 1 = mo := by
                      exact (nI_eq (a := k1 + 1) (b := mo) (by omega) (by omega)).mp c10
                    have hS : wds tx sn mo mo 0 q ak = (true, k1 + 1, q1 + rL tx sn q1, vp_updL ak1 k1 (lN (wN tx q1 (rL tx sn q1)))) := by rw [hf, wds_s, hl8, if_neg (by omega), if_neg (fun z => z.2 c10)]
                    refine x_aload_n F 3 dM_readsWords_149 rfl rfl ?_
                    refine x_iconst F (v := nI (1)) dM_readsWords_150 (by decide) ?_
                    refine x_iload F 1 dM_readsWords_151 rfl ?_
                    refine yVr (n := 2) (As := [.int (nI (1)), .int (nI (q1 + rL tx sn q1))]) (ci := 6) F kmM_115 kiM_fails ksM_fails knM kcM_fails (by decide +kernel) dM_readsWords_153 (cM_fails l (nx) (x_up (x_up M1 (a + 17) (.inl (.long, 6, .inr (.inl (vp_updL (ak1) (k1) (lN (wN tx q1 (rL tx sn q1)))))))) (a) (.inr (6, [.int (th), .ref (a + 1), .int (nI (sn)), .int (nI (pr)), .int (fk), .int (fp), .ref (a + 2), .ref (a + 3), .ref (a + 4), .ref (a + 5), .ref (a + 6), .int (nI (nn)), .ref (a + 7), .ref (a + 8), .ref (a + 9), .ref (a + 10), .int (nI (ln)), .ref (a + 11), .ref (a + 12), .ref (a + 13), .ref (a + 14), .int (nI (fn)), .ref (a + 15), .ref (a + 16), .ref (a + 17), .int (nI (k1 + 1)), .ref (a + 18)]))) (a) th sg sn pr fk fp rws cd ds wc wd nn nE nC nK nO ln lF lC lT lO fn fC fP (vp_updL (ak1) (k1) (lN (wN tx q1 (rL tx sn q1)))) (k1 + 1) pt ⟨x_up_s, (x_up_k (x_up_k g1 (by omega)) (by omega)), (x_up_k (x_up_k g2 (by omega)) (by omega)), (x_up_k (x_up_k g3 (by omega)) (by omega)), (x_up_k (x_up_k g4 (by omega)) (by omega)), (x_up_k (x_up_k g5 (by omega)) (by omega)), (x_up_k (x_up_k g6 (by omega)) (by omega)), (x_up_k (x_up_k g7 (by omega)) (by omega)), (x_up_k (x_up_k g8 (by omega)) (by omega)), (x_up_k (x_up_k g9 (by omega)) (by omega)), (x_up_k (x_up_k g10 (by omega)) (by omega)), (x_up_k (x_up_k g11 (by omega)) (by omega)), (x_up_k (x_up_k g12 (by omega)) (by omega)), (x_up_k (x_up_k g13 (by omega)) (by omega)), (x_up_k (x_up_k g14 (by omega)) (by omega)), (x_up_k (x_up_k g15 (by omega)) (by omega)), (x_up_k (x_up_k g16 (by omega)) (by omega)), (x_up_k x_up_s (by omega)), (x_up_k (x_up_k g18 (by omega)) (by omega)), by omega, by omega, by omega, by omega, by omega, by omega⟩ (nI (1)) (nI (q1 + rL tx sn q1))) rfl x_up_s rfl rfl (Nat.le_of_ble_eq_true rfl) ⟨Nat.le_of_ble_eq_true rfl, Nat.le_of_ble_eq_true rfl⟩ ⟨Nat.le_of_ble_eq_true rfl, Nat.le_of_ble_eq_true rfl⟩ (fun r' n' M403 hp => ?_)
                    obtain ⟨hr', hn', hM403, hf403⟩ := hp
                    rw [hn', hr']
                    obtain ⟨v403_0, v403_1, v403_2, v403_3, v403_4, v403_5, v403_6, v403_7, v403_8, v403_9, v403_10, v403_11, v403_12, v403_13, v403_14, v403_15, v403_16, v403_17, v403_18, vb403_0, vb403_1, vb403_2, vb403_3, vb403_4, vb403_5⟩ := id hM403
                    show xW p l e ({ frames := 3, cells := 0, slots := 0, locals := 65 } : Room) s m args below meth c D xcl (x_A M nx) 7 (MQ below (x_Q D xcl (x_A M nx) (mwPost nx M a th sg sn pr fk fp rws cd ds wc wd nn nE nC nK nO ln lF lC lT lO fn fC fP ak ac pt (mwOk tx sn mo en q ak) (wds tx sn mo mo 0 q ak))) args s 0 0 (x_A M nx)) 0 0 (nx) M403 156 [(6, .int (nI (hx tx sn (q1 + rL tx sn q1)))), (4, .int (nI (q1 + rL tx sn q1))), (5, .int (nI (rL tx sn q1))), (0, .ref (a)), (1, .int (nI (q))), (2, .int (nI (mo))), (3, .int (nI (en)))] [.int (nI (0))]
                    refine x_if_eq F (tgt := 163) dM_readsWords_156 (by decide) (fun c11 => ?_) (fun c11 => ?_)
                    · skip
                      have c11 : 0 = 0 := by
                        exact (nI_eq (a := 0) (b := 0) (by omega) (by omega)).mp c11
                      refine x_iconst F (v := (-1)) dM_readsWords_163 (by decide) ?_
                      exact x_iret F hr dM_readsWords_164 (by rw [show mwOk tx sn mo en q ak = false from by rw [mwOk, hS, decide_eq_false (show ¬ hx tx sn (q1 + rL tx sn q1) = en from c7)]; rfl, hS]; exact ⟨rfl, fun b hb => (hf403 _ (by omega)).trans ((x_up_n (by omega)).trans ((x_up_n (by omega)).trans ((hfr _ hb).trans (rfl)))), rfl, _, _, hM403⟩)
                    · skip
                      have c11 : 0 ≠ 0 := by
                        have z : ¬ (0 = 0) := fun zz => c11 ((nI_eq (a := 0) (b := 0) (by omega) (by omega)).mpr zz)
                        omega
                      exact absurd c11 (by decide)
              · skip
                have c7 : hx tx sn (q1 + rL tx sn q1) = en := by
                  exact (nI_eq (a := hx tx sn (q1 + rL tx sn q1)) (b := en) (by omega) (by omega)).mp c7
                have hS : wds tx sn mo mo 0 q ak = (true, k1 + 1, q1 + rL tx sn q1, vp_updL ak1 k1 (lN (wN tx q1 (rL tx sn q1)))) := by rw [hf, wds_s, hl8, if_neg (by omega), if_neg (fun z => hen46 (by rw [← c7]; exact z.1.symm))]
                refine x_iload F 1 dM_readsWords_129 rfl ?_
                refine x_iconst F (v := nI (1)) dM_readsWords_131 (by decide) ?_
                refine x_iadd F dM_readsWords_132 ?_
                refine xW.toi (nI (q1 + rL tx sn q1 + 1)) (nI_add _ _) ?_
                exact x_iret F hr dM_readsWords_133 (by rw [show mwOk tx sn mo en q ak = true from by rw [mwOk, hS, decide_eq_true (show hx tx sn (q1 + rL tx sn q1) = en from c7)]; rfl, hS]; exact ⟨rfl, fun b hb => (x_up_n (by omega)).trans ((x_up_n (by omega)).trans ((hfr _ hb).trans (rfl))), rfl, ⟨x_up_s, (x_up_k (x_up_k g1 (by omega)) (by omega)), (x_up_k (x_up_k g2 (by omega)) (by omega)), (x_up_k (x_up_k g3 (by omega)) (by omega)), (x_up_k (x_up_k g4 (by omega)) (by omega)), (x_up_k (x_up_k g5 (by omega)) (by omega)), (x_up_k (x_up_k g6 (by omega)) (by omega)), (x_up_k (x_up_k g7 (by omega)) (by omega)), (x_up_k (x_up_k g8 (by omega)) (by omega)), (x_up_k (x_up_k g9 (by omega)) (by omega)), (x_up_k (x_up_k g10 (by omega)) (by omega)), (x_up_k (x_up_k g11 (by omega)) (by omega)), (x_up_k (x_up_k g12 (by omega)) (by omega)), (x_up_k (x_up_k g13 (by omega)) (by omega)), (x_up_k (x_up_k g14 (by omega)) (by omega)), (x_up_k (x_up_k g15 (by omega)) (by omega)), (x_up_k (x_up_k g16 (by omega)) (by omega)), (x_up_k x_up_s (by omega)), (x_up_k (x_up_k g18 (by omega)) (by omega)), by omega, by omega, by omega, by omega, by omega, by show k1 + 1 ≤ 6; omega⟩⟩)
            · skip
              have c6 : q1 + rL tx sn q1 < sn := by
                have z : ¬ (sn ≤ q1 + rL tx sn q1) := fun zz => c6 ((nI_leI (a := sn) (b := q1 + rL tx sn q1) (by omega) (by omega)).mpr zz)
                omega
              refine x_aload_n F 2 dM_readsWords_110 rfl rfl ?_
              refine x_get (ci := 6) F 1 (x_in inM) rfl (by decide) (x_m kfM_7) dM_readsWords_111 x_up_s rfl ?_
              refine x_iload F 0 dM_readsWords_114 rfl ?_
              refine x_iald F dM_readsWords_116 (x_up_k (x_up_k g1 (by omega)) (by omega)) (pk_in (q1 + rL tx sn q1) (400) (by omega)) ?_
              refine xW.toi (nI (tx (q1 + rL tx sn q1))) (by rw [nI_clamp (by omega)]; exact (hX _ (by omega)).1) ?_
              refine x_goto F (tgt := 121) dM_readsWords_117 (by decide) ?_
              refine xW.toi (nI (hx tx sn (q1 + rL tx sn q1))) (by rw [hx, if_pos (by omega)]) ?_
              have hxl : hx tx sn (q1 + rL tx sn q1) < 128 := hx_lt hX
              refine x_istore F [(6, .int (nI (hx tx sn (q1 + rL tx sn q1)))), (4, .int (nI (q1 + rL tx sn q1))), (5, .int (nI (rL tx sn q1))), (0, .ref (a)), (1, .int (nI (q))), (2, .int (nI (mo))), (3, .int (nI (en)))] dM_readsWords_121 (by decide) rfl ?_
              refine x_iload F 0 dM_readsWords_123 rfl ?_
              refine x_iload_n F 6 dM_readsWords_125 rfl rfl ?_
              refine x_icmp_ne F (tgt := 134) dM_readsWords_126 (by decide) (fun c12 => ?_) (fun c12 => ?_)
              · skip
                have c12 : hx tx sn (q1 + rL tx sn q1) ≠ en := by
                  have z : ¬ (hx tx sn (q1 + rL tx sn q1) = en) := fun zz => c12 ((nI_eq (a := hx tx sn (q1 + rL tx sn q1)) (b := en) (by omega) (by omega)).mpr zz)
                  omega
                refine x_iload F 0 dM_readsWords_134 rfl ?_
                refine x_bipush F (v := nI (46)) dM_readsWords_136 (by decide) ?_
                refine x_icmp_ne F (tgt := 149) dM_readsWords_138 (by decide) (fun c13 => ?_) (fun c13 => ?_)
                · skip
                  have c13 : hx tx sn (q1 + rL tx sn q1) ≠ 46 := by
                    have z : ¬ (hx tx sn (q1 + rL tx sn q1) = 46) := fun zz => c13 ((nI_eq (a := hx tx sn (q1 + rL tx sn q1)) (b := 46) (by omega) (by omega)).mpr zz)
                    omega
                  have hS : wds tx sn mo mo 0 q ak = (true, k1 + 1, q1 + rL tx sn q1, vp_updL ak1 k1 (lN (wN tx q1 (rL tx sn q1)))) := by rw [hf, wds_s, hl8, if_neg (by omega), if_neg (fun z => c13 z.1)]
                  refine x_aload_n F 3 dM_readsWords_149 rfl rfl ?_
                  refine x_iconst F (v := nI (1)) dM_readsWords_150 (by decide) ?_
                  refine x_iload F 1 dM_readsWords_151 rfl ?_
                  refine yVr (n := 2) (As := [.int (nI (1)), .int (nI (q1 + rL tx sn q1))]) (ci := 6) F kmM_115 kiM_fails ksM_fails knM kcM_fails (by decide +kernel) dM_readsWords_153 (cM_fails l (nx) (x_up (x_up M1 (a + 17) (.inl (.long, 6, .inr (.inl (vp_updL (ak1) (k1) (lN (wN tx q1 (rL tx sn q1)))))))) (a) (.inr (6, [.int (th), .ref (a + 1), .int (nI (sn)), .int (nI (pr)), .int (fk), .int (fp), .ref (a + 2), .ref (a + 3), .ref (a + 4), .ref (a + 5), .ref (a + 6), .int (nI (nn)), .ref (a + 7), .ref (a + 8), .ref (a + 9), .ref (a + 10), .int (nI (ln)), .ref (a + 11), .ref (a + 12), .ref (a + 13), .ref (a + 14), .int (nI (fn)), .ref (a + 15), .ref (a + 16), .ref (a + 17), .int (nI (k1 + 1)), .ref (a + 18)]))) (a) th sg sn pr fk fp rws cd ds wc wd nn nE nC nK nO ln lF lC lT lO fn fC fP (vp_updL (ak1) (k1) (lN (wN tx q1 (rL tx sn q1)))) (k1 + 1) pt ⟨x_up_s, (x_up_k (x_up_k g1 (by omega)) (by omega)), (x_up_k (x_up_k g2 (by omega)) (by omega)), (x_up_k (x_up_k g3 (by omega)) (by omega)), (x_up_k (x_up_k g4 (by omega)) (by omega)), (x_up_k (x_up_k g5 (by omega)) (by omega)), (x_up_k (x_up_k g6 (by omega)) (by omega)), (x_up_k (x_up_k g7 (by omega)) (by omega)), (x_up_k (x_up_k g8 (by omega)) (by omega)), (x_up_k (x_up_k g9 (by omega)) (by omega)), (x_up_k (x_up_k g10 (by omega)) (by omega)), (x_up_k (x_up_k g11 (by omega)) (by omega)), (x_up_k (x_up_k g12 (by omega)) (by omega)), (x_up_k (x_up_k g13 (by omega)) (by omega)), (x_up_k (x_up_k g14 (by omega)) (by omega)), (x_up_k (x_up_k g15 (by omega)) (by omega)), (x_up_k (x_up_k g16 (by omega)) (by omega)), (x_up_k x_up_s (by omega)), (x_up_k (x_up_k g18 (by omega)) (by omega)), by omega, by omega, by omega, by omega, by omega, by omega⟩ (nI (1)) (nI (q1 + rL tx sn q1))) rfl x_up_s rfl rfl (Nat.le_of_ble_eq_true rfl) ⟨Nat.le_of_ble_eq_true rfl, Nat.le_of_ble_eq_true rfl⟩ ⟨Nat.le_of_ble_eq_true rfl, Nat.le_of_ble_eq_true rfl⟩ (fun r' n' M404 hp => ?_)
                  obtain ⟨hr', hn', hM404, hf404⟩ := hp
                  rw [hn', hr']
                  obtain ⟨v404_0, v404_1, v404_2, v404_3, v404_4, v404_5, v404_6, v404_7, v404_8, v404_9, v404_10, v404_11, v404_12, v404_13, v404_14, v404_15, v404_16, v404_17, v404_18, vb404_0, vb404_1, vb404_2, vb404_3, vb404_4, vb404_5⟩ := id hM404
                  show xW p l e ({ frames := 3, cells := 0, slots := 0, locals := 65 } : Room) s m args below meth c D xcl (x_A M nx) 7 (MQ below (x_Q D xcl (x_A M nx) (mwPost nx M a th sg sn pr fk fp rws cd ds wc wd nn nE nC nK nO ln lF lC lT lO fn fC fP ak ac pt (mwOk tx sn mo en q ak) (wds tx sn mo mo 0 q ak))) args s 0 0 (x_A M nx)) 0 0 (nx) M404 156 [(6, .int (nI (hx tx sn (q1 + rL tx sn q1)))), (4, .int (nI (q1 + rL tx sn q1))), (5, .int (nI (rL tx sn q1))), (0, .ref (a)), (1, .int (nI (q))), (2, .int (nI (mo))), (3, .int (nI (en)))] [.int (nI (0))]
                  refine x_if_eq F (tgt := 163) dM_readsWords_156 (by decide) (fun c14 => ?_) (fun c14 => ?_)
                  · skip
                    have c14 : 0 = 0 := by
                      exact (nI_eq (a := 0) (b := 0) (by omega) (by omega)).mp c14
                    refine x_iconst F (v := (-1)) dM_readsWords_163 (by decide) ?_
                    exact x_iret F hr dM_readsWords_164 (by rw [show mwOk tx sn mo en q ak = false from by rw [mwOk, hS, decide_eq_false (show ¬ hx tx sn (q1 + rL tx sn q1) = en from c12)]; rfl, hS]; exact ⟨rfl, fun b hb => (hf404 _ (by omega)).trans ((x_up_n (by omega)).trans ((x_up_n (by omega)).trans ((hfr _ hb).trans (rfl)))), rfl, _, _, hM404⟩)
                  · skip
                    have c14 : 0 ≠ 0 := by
                      have z : ¬ (0 = 0) := fun zz => c14 ((nI_eq (a := 0) (b := 0) (by omega) (by omega)).mpr zz)
                      omega
                    exact absurd c14 (by decide)
                · skip
                  have c13 : hx tx sn (q1 + rL tx sn q1) = 46 := by
                    exact (nI_eq (a := hx tx sn (q1 + rL tx sn q1)) (b := 46) (by omega) (by omega)).mp c13
                  refine x_aload_n F 3 dM_readsWords_141 rfl rfl ?_
                  refine x_get (ci := 6) F 25 (x_in inM) rfl (by decide) (x_m kfM_129) dM_readsWords_142 x_up_s rfl ?_
                  refine x_iload_n F 5 dM_readsWords_145 rfl rfl ?_
                  refine x_icmp_ne F (tgt := 165) dM_readsWords_146 (by decide) (fun c15 => ?_) (fun c15 => ?_)
                  · skip
                    have c15 : k1 + 1 ≠ mo := by
                      have z : ¬ (k1 + 1 = mo) := fun zz => c15 ((nI_eq (a := k1 + 1) (b := mo) (by omega) (by omega)).mpr zz)
                      omega
                    refine x_iinc F 1 [(4, .int (nI (q1 + rL tx sn q1 + 1))), (6, .int (nI (hx tx sn (q1 + rL tx sn q1)))), (5, .int (nI (rL tx sn q1))), (0, .ref (a)), (1, .int (nI (q))), (2, .int (nI (mo))), (3, .int (nI (en)))] dM_readsWords_165 rfl (nI_add (q1 + rL tx sn q1) 1) (by decide) rfl ?_
                    refine x_goto F (tgt := 8) dM_readsWords_168 (by decide) ?_
                    refine xW.sub [0, 3, 4, 5, 6] rfl ?_
                    exact ih (k1 + 1) (q1 + rL tx sn q1 + 1) _ _ (by omega) (by omega) (by have := (hx_in (K := fun c => decide (c = 46)) rfl (tx := tx) (n := sn) (q := q1 + rL tx sn q1) (by simpa using c13)).1; omega) (by rw [hf, wds_s, hl8, if_neg (by omega), if_pos ⟨c13, c15⟩]) ⟨x_up_s, (x_up_k (x_up_k g1 (by omega)) (by omega)), (x_up_k (x_up_k g2 (by omega)) (by omega)), (x_up_k (x_up_k g3 (by omega)) (by omega)), (x_up_k (x_up_k g4 (by omega)) (by omega)), (x_up_k (x_up_k g5 (by omega)) (by omega)), (x_up_k (x_up_k g6 (by omega)) (by omega)), (x_up_k (x_up_k g7 (by omega)) (by omega)), (x_up_k (x_up_k g8 (by omega)) (by omega)), (x_up_k (x_up_k g9 (by omega)) (by omega)), (x_up_k (x_up_k g10 (by omega)) (by omega)), (x_up_k (x_up_k g11 (by omega)) (by omega)), (x_up_k (x_up_k g12 (by omega)) (by omega)), (x_up_k (x_up_k g13 (by omega)) (by omega)), (x_up_k (x_up_k g14 (by omega)) (by omega)), (x_up_k (x_up_k g15 (by omega)) (by omega)), (x_up_k (x_up_k g16 (by omega)) (by omega)), (x_up_k x_up_s (by omega)), (x_up_k (x_up_k g18 (by omega)) (by omega)), by omega, by omega, by omega, by omega, by omega, by omega⟩ (fun b hb => (x_up_n (by omega)).trans ((x_up_n (by omega)).trans ((hfr _ hb).trans (rfl))))
                  · skip
                    have c15 : k1 + 1 = mo := by
                      exact (nI_eq (a := k1 + 1) (b := mo) (by omega) (by omega)).mp c15
                    have hS : wds tx sn mo mo 0 q ak = (true, k1 + 1, q1 + rL tx sn q1, vp_updL ak1 k1 (lN (wN tx q1 (rL tx sn q1)))) := by rw [hf, wds_s, hl8, if_neg (by omega), if_neg (fun z => z.2 c15)]
                    refine x_aload_n F 3 dM_readsWords_149 rfl rfl ?_
                    refine x_iconst F (v := nI (1)) dM_readsWords_150 (by decide) ?_
                    refine x_iload F 1 dM_readsWords_151 rfl ?_
                    refine yVr (n := 2) (As := [.int (nI (1)), .int (nI (q1 + rL tx sn q1))]) (ci := 6) F kmM_115 kiM_fails ksM_fails knM kcM_fails (by decide +kernel) dM_readsWords_153 (cM_fails l (nx) (x_up (x_up M1 (a + 17) (.inl (.long, 6, .inr (.inl (vp_updL (ak1) (k1) (lN (wN tx q1 (rL tx sn q1)))))))) (a) (.inr (6, [.int (th), .ref (a + 1), .int (nI (sn)), .int (nI (pr)), .int (fk), .int (fp), .ref (a + 2), .ref (a + 3), .ref (a + 4), .ref (a + 5), .ref (a + 6), .int (nI (nn)), .ref (a + 7), .ref (a + 8), .ref (a + 9), .ref (a + 10), .int (nI (ln)), .ref (a + 11), .ref (a + 12), .ref (a + 13), .ref (a + 14), .int (nI (fn)), .ref (a + 15), .ref (a + 16), .ref (a + 17), .int (nI (k1 + 1)), .ref (a + 18)]))) (a) th sg sn pr fk fp rws cd ds wc wd nn nE nC nK nO ln lF lC lT lO fn fC fP (vp_updL (ak1) (k1) (lN (wN tx q1 (rL tx sn q1)))) (k1 + 1) pt ⟨x_up_s, (x_up_k (x_up_k g1 (by omega)) (by omega)), (x_up_k (x_up_k g2 (by omega)) (by omega)), (x_up_k (x_up_k g3 (by omega)) (by omega)), (x_up_k (x_up_k g4 (by omega)) (by omega)), (x_up_k (x_up_k g5 (by omega)) (by omega)), (x_up_k (x_up_k g6 (by omega)) (by omega)), (x_up_k (x_up_k g7 (by omega)) (by omega)), (x_up_k (x_up_k g8 (by omega)) (by omega)), (x_up_k (x_up_k g9 (by omega)) (by omega)), (x_up_k (x_up_k g10 (by omega)) (by omega)), (x_up_k (x_up_k g11 (by omega)) (by omega)), (x_up_k (x_up_k g12 (by omega)) (by omega)), (x_up_k (x_up_k g13 (by omega)) (by omega)), (x_up_k (x_up_k g14 (by omega)) (by omega)), (x_up_k (x_up_k g15 (by omega)) (by omega)), (x_up_k (x_up_k g16 (by omega)) (by omega)), (x_up_k x_up_s (by omega)), (x_up_k (x_up_k g18 (by omega)) (by omega)), by omega, by omega, by omega, by omega, by omega, by omega⟩ (nI (1)) (nI (q1 + rL tx sn q1))) rfl x_up_s rfl rfl (Nat.le_of_ble_eq_true rfl) ⟨Nat.le_of_ble_eq_true rfl, Nat.le_of_ble_eq_true rfl⟩ ⟨Nat.le_of_ble_eq_true rfl, Nat.le_of_ble_eq_true rfl⟩ (fun r' n' M405 hp => ?_)
                    obtain ⟨hr', hn', hM405, hf405⟩ := hp
                    rw [hn', hr']
                    obtain ⟨v405_0, v405_1, v405_2, v405_3, v405_4, v405_5, v405_6, v405_7, v405_8, v405_9, v405_10, v405_11, v405_12, v405_13, v405_14, v405_15, v405_16, v405_17, v405_18, vb405_0, vb405_1, vb405_2, vb405_3, vb405_4, vb405_5⟩ := id hM405
                    show xW p l e ({ frames := 3, cells := 0, slots := 0, locals := 65 } : Room) s m args below meth c D xcl (x_A M nx) 7 (MQ below (x_Q D xcl (x_A M nx) (mwPost nx M a th sg sn pr fk fp rws cd ds wc wd nn nE nC nK nO ln lF lC lT lO fn fC fP ak ac pt (mwOk tx sn mo en q ak) (wds tx sn mo mo 0 q ak))) args s 0 0 (x_A M nx)) 0 0 (nx) M405 156 [(6, .int (nI (hx tx sn (q1 + rL tx sn q1)))), (4, .int (nI (q1 + rL tx sn q1))), (5, .int (nI (rL tx sn q1))), (0, .ref (a)), (1, .int (nI (q))), (2, .int (nI (mo))), (3, .int (nI (en)))] [.int (nI (0))]
                    refine x_if_eq F (tgt := 163) dM_readsWords_156 (by decide) (fun c16 => ?_) (fun c16 => ?_)
                    · skip
                      have c16 : 0 = 0 := by
                        exact (nI_eq (a := 0) (b := 0) (by omega) (by omega)).mp c16
                      refine x_iconst F (v := (-1)) dM_readsWords_163 (by decide) ?_
                      exact x_iret F hr dM_readsWords_164 (by rw [show mwOk tx sn mo en q ak = false from by rw [mwOk, hS, decide_eq_false (show ¬ hx tx sn (q1 + rL tx sn q1) = en from c12)]; rfl, hS]; exact ⟨rfl, fun b hb => (hf405 _ (by omega)).trans ((x_up_n (by omega)).trans ((x_up_n (by omega)).trans ((hfr _ hb).trans (rfl)))), rfl, _, _, hM405⟩)
                    · skip
                      have c16 : 0 ≠ 0 := by
                        have z : ¬ (0 = 0) := fun zz => c16 ((nI_eq (a := 0) (b := 0) (by omega) (by omega)).mpr zz)
                        omega
                      exact absurd c16 (by decide)
              · skip
                have c12 : hx tx sn (q1 + rL tx sn q1) = en := by
                  exact (nI_eq (a := hx tx sn (q1 + rL tx sn q1)) (b := en) (by omega) (by omega)).mp c12
                have hS : wds tx sn mo mo 0 q ak = (true, k1 + 1, q1 + rL tx sn q1, vp_updL ak1 k1 (lN (wN tx q1 (rL tx sn q1)))) := by rw [hf, wds_s, hl8, if_neg (by omega), if_neg (fun z => hen46 (by rw [← c12]; exact z.1.symm))]
                refine x_iload F 1 dM_readsWords_129 rfl ?_
                refine x_iconst F (v := nI (1)) dM_readsWords_131 (by decide) ?_
                refine x_iadd F dM_readsWords_132 ?_
                refine xW.toi (nI (q1 + rL tx sn q1 + 1)) (nI_add _ _) ?_
                exact x_iret F hr dM_readsWords_133 (by rw [show mwOk tx sn mo en q ak = true from by rw [mwOk, hS, decide_eq_true (show hx tx sn (q1 + rL tx sn q1) = en from c12)]; rfl, hS]; exact ⟨rfl, fun b hb => (x_up_n (by omega)).trans ((x_up_n (by omega)).trans ((hfr _ hb).trans (rfl))), rfl, ⟨x_up_s, (x_up_k (x_up_k g1 (by omega)) (by omega)), (x_up_k (x_up_k g2 (by omega)) (by omega)), (x_up_k (x_up_k g3 (by omega)) (by omega)), (x_up_k (x_up_k g4 (by omega)) (by omega)), (x_up_k (x_up_k g5 (by omega)) (by omega)), (x_up_k (x_up_k g6 (by omega)) (by omega)), (x_up_k (x_up_k g7 (by omega)) (by omega)), (x_up_k (x_up_k g8 (by omega)) (by omega)), (x_up_k (x_up_k g9 (by omega)) (by omega)), (x_up_k (x_up_k g10 (by omega)) (by omega)), (x_up_k (x_up_k g11 (by omega)) (by omega)), (x_up_k (x_up_k g12 (by omega)) (by omega)), (x_up_k (x_up_k g13 (by omega)) (by omega)), (x_up_k (x_up_k g14 (by omega)) (by omega)), (x_up_k (x_up_k g15 (by omega)) (by omega)), (x_up_k (x_up_k g16 (by omega)) (by omega)), (x_up_k x_up_s (by omega)), (x_up_k (x_up_k g18 (by omega)) (by omega)), by omega, by omega, by omega, by omega, by omega, by show k1 + 1 ≤ 6; omega⟩⟩)
        · skip
          have c4 : 8 < rL tx sn q1 := by
            have z : ¬ (rL tx sn q1 ≤ 8) := fun zz => c4 ((nI_leI (a := rL tx sn q1) (b := 8) (by omega) (by omega)).mpr zz)
            omega
          refine x_aload_n F 2 dM_readsWords_29 rfl rfl ?_
          refine x_iconst F (v := nI (1)) dM_readsWords_30 (by decide) ?_
          refine x_iload F 0 dM_readsWords_31 rfl ?_
          refine x_if_ne F (tgt := 41) dM_readsWords_33 (by decide) (fun c17 => ?_) (fun c17 => ?_)
          · skip
            have c17 : rL tx sn q1 ≠ 0 := by
              have z : ¬ (rL tx sn q1 = 0) := fun zz => c17 ((nI_eq (a := rL tx sn q1) (b := 0) (by omega) (by omega)).mpr zz)
              omega
            have h8l : let_ (tx (q1 + 8)) = true := rn_all (K := let_) (i := 8) (by show 8 < rL tx sn q1; omega)
            have hx8 : hx tx sn (q1 + 8) = tx (q1 + 8) := if_pos (by omega)
            have h8b : 97 ≤ tx (q1 + 8) := by simp [let_] at h8l; exact h8l.1
            have hS8 : wds tx sn mo mo 0 q ak = (true, k1 + 1, q1 + 8, vp_updL ak1 k1 (lN (wN tx q1 8))) := by rw [hf, wds_s, show lNn tx sn q1 = 8 by omega, if_neg (by omega), if_neg (fun z => by have := z.1; omega)]
            have hen8 : ¬ hx tx sn (q1 + 8) = en := by omega
            refine x_iload F 1 dM_readsWords_41 rfl ?_
            refine x_bipush F (v := nI (8)) dM_readsWords_43 (by decide) ?_
            refine x_iadd F dM_readsWords_45 ?_
            refine xW.toi (nI (q1 + 8)) (nI_add _ _) ?_
            refine yVr (n := 2) (As := [.int (nI (1)), .int (nI (q1 + 8))]) (ci := 6) F kmM_115 kiM_fails ksM_fails knM kcM_fails (by decide +kernel) dM_readsWords_46 (cM_fails l (nx) M1 (a) th sg sn pr fk fp rws cd ds wc wd nn nE nC nK nO ln lF lC lT lO fn fC fP ak1 k1 pt hT1 (nI (1)) (nI (q1 + 8))) rfl g0 rfl rfl (Nat.le_of_ble_eq_true rfl) ⟨Nat.le_of_ble_eq_true rfl, Nat.le_of_ble_eq_true rfl⟩ ⟨Nat.le_of_ble_eq_true rfl, Nat.le_of_ble_eq_true rfl⟩ (fun r' n' M406 hp => ?_)
            obtain ⟨hr', hn', hM406, hf406⟩ := hp
            rw [hn', hr']
            obtain ⟨v406_0, v406_1, v406_2, v406_3, v406_4, v406_5, v406_6, v406_7, v406_8, v406_9, v406_10, v406_11, v406_12, v406_13, v406_14, v406_15, v406_16, v406_17, v406_18, vb406_0, vb406_1, vb406_2, vb406_3, vb406_4, vb406_5⟩ := id hM406
            show xW p l e ({ frames := 3, cells := 0, slots := 0, locals := 65 } : Room) s m args below meth c D xcl (x_A M nx) 7 (MQ below (x_Q D xcl (x_A M nx) (mwPost nx M a th sg sn pr fk fp rws cd ds wc wd nn nE nC nK nO ln lF lC lT lO fn fC fP ak ac pt (mwOk tx sn mo en q ak) (wds tx sn mo mo 0 q ak))) args s 0 0 (x_A M nx)) 0 0 (nx) M406 49 [(5, .int (nI (rL tx sn q1))), (4, .int (nI (q1))), (0, .ref (a)), (1, .int (nI (q))), (2, .int (nI (mo))), (3, .int (nI (en)))] [.int (nI (0))]
            refine x_if_eq F (tgt := 56) dM_readsWords_49 (by decide) (fun c18 => ?_) (fun c18 => ?_)
            · skip
              have c18 : 0 = 0 := by
                exact (nI_eq (a := 0) (b := 0) (by omega) (by omega)).mp c18
              refine x_iconst F (v := (-1)) dM_readsWords_56 (by decide) ?_
              exact x_iret F hr dM_readsWords_57 (by rw [show mwOk tx sn mo en q ak = false from by rw [mwOk, hS8, decide_eq_false hen8]; rfl, hS8]; exact ⟨rfl, fun b hb => (hf406 _ (by omega)).trans ((hfr _ hb).trans (rfl)), rfl, _, _, hM406⟩)
            · skip
              have c18 : 0 ≠ 0 := by
                have z : ¬ (0 = 0) := fun zz => c18 ((nI_eq (a := 0) (b := 0) (by omega) (by omega)).mpr zz)
                omega
              exact absurd c18 (by decide)
          · skip
            have c17 : rL tx sn q1 = 0 := by
              exact (nI_eq (a := rL tx sn q1) (b := 0) (by omega) (by omega)).mp c17
            exact absurd c17 (by omega)
  refine x_iload_n F 1 dM_readsWords_0 rfl rfl ?_
  refine x_istore F [(4, .int (nI (q))), (0, .ref (a)), (1, .int (nI (q))), (2, .int (nI (mo))), (3, .int (nI (en)))] dM_readsWords_1 (by decide) rfl ?_
  refine x_aload_n F 1 dM_readsWords_3 rfl rfl ?_
  refine x_iconst F (v := nI (0)) dM_readsWords_4 (by decide) ?_
  refine x_put (ci := 6) (ty := .int) F 25 (x_in inM) tM tM_ok nM rfl (by decide) (x_m kfM_129) dM_readsWords_5 rfl (by decide +kernel) rfl rfl h0 (Nat.le_of_ble_eq_true rfl) ?_
  show xW p l e ({ frames := 3, cells := 0, slots := 0, locals := 65 } : Room) s m args below meth c D xcl (x_A M nx) 7 (MQ below (x_Q D xcl (x_A M nx) (mwPost nx M a th sg sn pr fk fp rws cd ds wc wd nn nE nC nK nO ln lF lC lT lO fn fC fP ak ac pt (mwOk tx sn mo en q ak) (wds tx sn mo mo 0 q ak))) args s 0 0 (x_A M nx)) 0 0 (nx) (x_up M (a) (.inr (6, [.int (th), .ref (a + 1), .int (nI (sn)), .int (nI (pr)), .int (fk), .int (fp), .ref (a + 2), .ref (a + 3), .ref (a + 4), .ref (a + 5), .ref (a + 6), .int (nI (nn)), .ref (a + 7), .ref (a + 8), .ref (a + 9), .ref (a + 10), .int (nI (ln)), .ref (a + 11), .ref (a + 12), .ref (a + 13), .ref (a + 14), .int (nI (fn)), .ref (a + 15), .ref (a + 16), .ref (a + 17), .int (nI (0)), .ref (a + 18)]))) 8 [(4, .int (nI (q))), (0, .ref (a)), (1, .int (nI (q))), (2, .int (nI (mo))), (3, .int (nI (en)))] []
  exact loop mo 0 q ak _ (by omega) (by omega) hq rfl ⟨x_up_s, (x_up_k h1 (by omega)), (x_up_k h2 (by omega)), (x_up_k h3 (by omega)), (x_up_k h4 (by omega)), (x_up_k h5 (by omega)), (x_up_k h6 (by omega)), (x_up_k h7 (by omega)), (x_up_k h8 (by omega)), (x_up_k h9 (by omega)), (x_up_k h10 (by omega)), (x_up_k h11 (by omega)), (x_up_k h12 (by omega)), (x_up_k h13 (by omega)), (x_up_k h14 (by omega)), (x_up_k h15 (by omega)), (x_up_k h16 (by omega)), (x_up_k h17 (by omega)), (x_up_k h18 (by omega)), by omega, by omega, by omega, by omega, by omega, by omega⟩ (fun b hb => (x_up_n (by omega)).trans (rfl))
set_option maxHeartbeats 4000000 in
set_option maxRecDepth 100000 in
theorem cM_readsCode (l : Launch) (nx : Nat) (M : xH) (a : Nat) (th : Int32) (sg : Nat → Int32) (sn pr : Nat) (fk fp : Int32) (rws : Nat → Int32) (cd : Nat → Int64) (ds wc : Nat → Int32) (wd : Nat → Int64) (nn : Nat) (nE : Nat → Int32) (nC : Nat → Int64) (nK : Nat → Int32) (nO : Nat → Int64) (ln : Nat) (lF : Nat → Int32) (lC : Nat → Int64) (lT : Nat → Int32) (lO : Nat → Int64) (fn : Nat) (fC : Nat → Int64) (fP : Nat → Int32) (ak : Nat → Int64) (ac : Nat) (pt : Nat → Int32) (hT : mAt M a th sg sn pr fk fp rws cd ds wc wd nn nE nC nK nO ln lF lC lT lO fn fC fP ak ac pt) (tx : Nat → Nat) (hX : sAt sg tx sn) (rw : Nat → Nat) (hrw : mR rws rw) (n q : Nat) (hn3 : rws 3 = nI n) (hn40 : n ≤ 40) (hq : q < sn) (xs dg : Nat → Nat) (hcd : mCd cd xs dg n) : xC l xcl yM_readsCode (xw (Cond.code yM_readsCode bM_readsCode 8 (some .boolean))) ({ frames := 4, cells := 0, slots := 0, locals := 96 } : Room) [.ref (a), .int (nI (q))] nx M (mcPost nx M a th sg sn pr fk fp rws cd ds wc wd nn nE nC nK nO ln lF lC lT lO fn fC fP ak ac pt n (rM tx sn q) (cN tx (q + rM tx sn q) (rD tx sn (q + rM tx sn q))) (mrc tx sn ds xs dg n q)) := by
  obtain ⟨h0, h1, h2, h3, h4, h5, h6, h7, h8, h9, h10, h11, h12, h13, h14, h15, h16, h17, h18, b1, b2, b3, b4, b5, b6⟩ := id hT
  refine yC (by decide) (Nat.le_of_ble_eq_true rfl) ?_
  intro p e s m args below meth c D F hr hn
  refine x_aload_n F 0 dM_readsCode_0 rfl rfl ?_
  refine x_get (ci := 6) F 6 (x_in inM) rfl (by decide) (x_m kfM_17) dM_readsCode_1 h0 rfl ?_
  refine x_iconst F (v := nI (3)) dM_readsCode_4 (by decide) ?_
  refine x_iald F dM_readsCode_5 h2 (pk_in (3) (4) (by omega)) ?_
  refine xW.toi (nI (n)) (by rw [nI_clamp (by omega)]; exact hn3) ?_
  refine x_istore_n F [(2, .int (nI (n))), (0, .ref (a)), (1, .int (nI (q)))] dM_readsCode_6 rfl (by decide) rfl ?_
  refine x_bipush F (v := nI (120)) dM_readsCode_7 (by decide) ?_
  refine x_iload_n F 0 dM_readsCode_9 rfl rfl ?_
  refine x_iadd F dM_readsCode_10 ?_
  refine xW.toi (nI (120 + n)) (nI_add _ _) ?_
  refine x_istore_n F [(3, .int (nI (120 + n))), (2, .int (nI (n))), (0, .ref (a)), (1, .int (nI (q)))] dM_readsCode_11 rfl (by decide) rfl ?_
  refine x_aload_n F 2 dM_readsCode_12 rfl rfl ?_
  refine x_iload_n F 3 dM_readsCode_13 rfl rfl ?_
  refine x_iconst F (v := nI (0)) dM_readsCode_14 (by decide) ?_
  refine yV (n := 2) (As := [.int (nI (q)), .int (nI (0))]) (ci := 6) F kmM_111 kiM_run ksM_run knM kcM_run (by decide +kernel) dM_readsCode_15 (cM_run0 l (nx) M (a) th sg sn pr fk fp rws cd ds wc wd nn nE nC nK nO ln lF lC lT lO fn fC fP ak ac pt hT tx hX (q) (by omega)) rfl h0 rfl rfl (Nat.le_of_ble_eq_true rfl) ⟨Nat.le_of_ble_eq_true rfl, Nat.le_of_ble_eq_true rfl⟩ ⟨Nat.le_of_ble_eq_true rfl, Nat.le_of_ble_eq_true rfl⟩ ?_
  refine x_istore F [(4, .int (nI (rM tx sn q))), (3, .int (nI (120 + n))), (2, .int (nI (n))), (0, .ref (a)), (1, .int (nI (q)))] dM_readsCode_18 (by decide) rfl ?_
  refine x_iload_n F 4 dM_readsCode_20 rfl rfl ?_
  refine x_iload F 0 dM_readsCode_21 rfl ?_
  refine x_iadd F dM_readsCode_23 ?_
  refine xW.toi (nI (q + rM tx sn q)) (nI_add _ _) ?_
  refine x_istore F [(5, .int (nI (q + rM tx sn q))), (4, .int (nI (rM tx sn q))), (3, .int (nI (120 + n))), (2, .int (nI (n))), (0, .ref (a)), (1, .int (nI (q)))] dM_readsCode_24 (by decide) rfl ?_
  have hml : rM tx sn q ≤ sn - q := rn_le _ _ _ _
  refine x_iload F 1 dM_readsCode_26 rfl ?_
  refine x_if_ne F (tgt := 50) dM_readsCode_28 (by decide) (fun c1 => ?_) (fun c1 => ?_)
  · skip
    have c1 : rM tx sn q ≠ 0 := by
      have z : ¬ (rM tx sn q = 0) := fun zz => c1 ((nI_eq (a := rM tx sn q) (b := 0) (by omega) (by omega)).mpr zz)
      omega
    refine x_iload F 1 dM_readsCode_50 rfl ?_
    refine x_iload_n F 3 dM_readsCode_52 rfl rfl ?_
    refine x_if_ne F (tgt := 60) dM_readsCode_53 (by decide) (fun c2 => ?_) (fun c2 => ?_)
    · skip
      have c2 : n ≠ 0 := by
        have z : ¬ (n = 0) := fun zz => c2 ((nI_eq (a := n) (b := 0) (by omega) (by omega)).mpr zz)
        omega
      obtain ⟨n0, hn1⟩ : ∃ n0, n = n0 + 1 := ⟨n - 1, by omega⟩
      refine x_aload_n F 4 dM_readsCode_60 rfl rfl ?_
      refine x_get (ci := 6) F 8 (x_in inM) rfl (by decide) (x_m kfM_24) dM_readsCode_61 h0 rfl ?_
      refine x_iload_n F 2 dM_readsCode_64 rfl rfl ?_
      refine x_iconst F (v := nI (1)) dM_readsCode_65 (by decide) ?_
      refine x_isub F dM_readsCode_66 ?_
      refine xW.toi (nI (120 + n0)) (by rw [hn1]; exact nI_pred (120 + n0)) ?_
      refine x_iald F dM_readsCode_67 h4 (pk_in (120 + n0) (160) (by omega)) ?_
      refine xW.toi ((ds) (120 + n0)) (by rw [nI_clamp (by omega)]) ?_
      refine x_iconst F (v := nI (1)) dM_readsCode_68 (by decide) ?_
      refine x_iadd F dM_readsCode_69 ?_
      refine xW.toi (ds (120 + n0) + nI 1) (rfl) ?_
      refine xW.toi (mPre n ds) (by rw [hn1]; rfl) ?_
      refine x_icmp_le F (tgt := 80) dM_readsCode_70 (by decide) (fun c3 => ?_) (fun c3 => ?_)
      · skip
        have h70 : ¬ mPre n ds < nI (rM tx sn q) := Int32.not_lt.mpr c3
        refine x_iload_n F 3 dM_readsCode_80 rfl rfl ?_
        refine x_bipush F (v := nI (40)) dM_readsCode_81 (by decide) ?_
        refine x_icmp_ne F (tgt := 93) dM_readsCode_83 (by decide) (fun c4 => ?_) (fun c4 => ?_)
        · skip
          have c4 : n ≠ 40 := by
            have z : ¬ (n = 40) := fun zz => c4 ((nI_eq (a := n) (b := 40) (by omega) (by omega)).mpr zz)
            omega
          refine x_iload F 1 dM_readsCode_93 rfl ?_
          refine x_iconst F (v := nI (4)) dM_readsCode_95 (by decide) ?_
          refine x_icmp_le F (tgt := 108) dM_readsCode_96 (by decide) (fun c5 => ?_) (fun c5 => ?_)
          · skip
            have c5 : rM tx sn q ≤ 4 := by
              exact (nI_leI (a := rM tx sn q) (b := 4) (by omega) (by omega)).mp c5
            refine x_aload_n F 4 dM_readsCode_108 rfl rfl ?_
            refine x_iload F 0 dM_readsCode_109 rfl ?_
            refine x_iconst F (v := nI (1)) dM_readsCode_111 (by decide) ?_
            refine yV (n := 2) (As := [.int (nI (q + rM tx sn q)), .int (nI (1))]) (ci := 6) F kmM_111 kiM_run ksM_run knM kcM_run (by decide +kernel) dM_readsCode_112 (cM_run1 l (nx) M (a) th sg sn pr fk fp rws cd ds wc wd nn nE nC nK nO ln lF lC lT lO fn fC fP ak ac pt hT tx hX (q + rM tx sn q) (by omega)) rfl h0 rfl rfl (Nat.le_of_ble_eq_true rfl) ⟨Nat.le_of_ble_eq_true rfl, Nat.le_of_ble_eq_true rfl⟩ ⟨Nat.le_of_ble_eq_true rfl, Nat.le_of_ble_eq_true rfl⟩ ?_
            refine x_istore F [(6, .int (nI (rD tx sn (q + rM tx sn q)))), (5, .int (nI (q + rM tx sn q))), (4, .int (nI (rM tx sn q))), (3, .int (nI (120 + n))), (2, .int (nI (n))), (0, .ref (a)), (1, .int (nI (q)))] dM_readsCode_115 (by decide) rfl ?_
            have hrl : rD tx sn (q + rM tx sn q) ≤ sn - (q + rM tx sn q) := rn_le _ _ _ _
            refine x_iload F 0 dM_readsCode_117 rfl ?_
            refine x_if_ne F (tgt := 130) dM_readsCode_119 (by decide) (fun c6 => ?_) (fun c6 => ?_)
            · skip
              have c6 : rD tx sn (q + rM tx sn q) ≠ 0 := by
                have z : ¬ (rD tx sn (q + rM tx sn q) = 0) := fun zz => c6 ((nI_eq (a := rD tx sn (q + rM tx sn q)) (b := 0) (by omega) (by omega)).mpr zz)
                omega
              refine x_iload F 0 dM_readsCode_130 rfl ?_
              refine x_bipush F (v := nI (10)) dM_readsCode_132 (by decide) ?_
              refine x_icmp_gt F (tgt := 145) dM_readsCode_134 (by decide) (fun c7 => ?_) (fun c7 => ?_)
              · skip
                have c7 : 10 < rD tx sn (q + rM tx sn q) := by
                  exact (nI_ltI (a := 10) (b := rD tx sn (q + rM tx sn q)) (by omega) (by omega)).mp c7
                refine x_aload_n F 5 dM_readsCode_145 rfl rfl ?_
                refine x_iconst F (v := nI (1)) dM_readsCode_146 (by decide) ?_
                refine x_iload F 0 dM_readsCode_147 rfl ?_
                refine x_bipush F (v := nI (10)) dM_readsCode_149 (by decide) ?_
                refine x_icmp_le F (tgt := 162) dM_readsCode_151 (by decide) (fun c8 => ?_) (fun c8 => ?_)
                · skip
                  have c8 : rD tx sn (q + rM tx sn q) ≤ 10 := by
                    exact (nI_leI (a := rD tx sn (q + rM tx sn q)) (b := 10) (by omega) (by omega)).mp c8
                  exact absurd c8 (by omega)
                · skip
                  have c8 : 10 < rD tx sn (q + rM tx sn q) := by
                    have z : ¬ (rD tx sn (q + rM tx sn q) ≤ 10) := fun zz => c8 ((nI_leI (a := rD tx sn (q + rM tx sn q)) (b := 10) (by omega) (by omega)).mpr zz)
                    omega
                  refine x_iload F 1 dM_readsCode_154 rfl ?_
                  refine x_bipush F (v := nI (10)) dM_readsCode_156 (by decide) ?_
                  refine x_iadd F dM_readsCode_158 ?_
                  refine xW.toi (nI (q + rM tx sn q + 10)) (nI_add _ _) ?_
                  refine x_goto F (tgt := 167) dM_readsCode_159 (by decide) ?_
                  refine yVr (n := 2) (As := [.int (nI (1)), .int (nI (q + rM tx sn q + 10))]) (ci := 6) F kmM_115 kiM_fails ksM_fails knM kcM_fails (by decide +kernel) dM_readsCode_167 (cM_fails l (nx) M (a) th sg sn pr fk fp rws cd ds wc wd nn nE nC nK nO ln lF lC lT lO fn fC fP ak ac pt hT (nI (1)) (nI (q + rM tx sn q + 10))) rfl h0 rfl rfl (Nat.le_of_ble_eq_true rfl) ⟨Nat.le_of_ble_eq_true rfl, Nat.le_of_ble_eq_true rfl⟩ ⟨Nat.le_of_ble_eq_true rfl, Nat.le_of_ble_eq_true rfl⟩ (fun r' n' M456 hp => ?_)
                  obtain ⟨hr', hn', hM456, hf456⟩ := hp
                  rw [hn', hr']
                  obtain ⟨v456_0, v456_1, v456_2, v456_3, v456_4, v456_5, v456_6, v456_7, v456_8, v456_9, v456_10, v456_11, v456_12, v456_13, v456_14, v456_15, v456_16, v456_17, v456_18, vb456_0, vb456_1, vb456_2, vb456_3, vb456_4, vb456_5⟩ := id hM456
                  show xW p l e ({ frames := 4, cells := 0, slots := 0, locals := 96 } : Room) s m args below meth c D xcl (x_A M nx) 8 (MQ below (x_Q D xcl (x_A M nx) (mcPost nx M a th sg sn pr fk fp rws cd ds wc wd nn nE nC nK nO ln lF lC lT lO fn fC fP ak ac pt n (rM tx sn q) (cN tx (q + rM tx sn q) (rD tx sn (q + rM tx sn q))) (mrc tx sn ds xs dg n q))) args s 0 0 (x_A M nx)) 0 0 (nx) M456 170 [(6, .int (nI (rD tx sn (q + rM tx sn q)))), (5, .int (nI (q + rM tx sn q))), (4, .int (nI (rM tx sn q))), (3, .int (nI (120 + n))), (2, .int (nI (n))), (0, .ref (a)), (1, .int (nI (q)))] [.int (nI (0))]
                  exact x_zret F hr (by rfl) dM_readsCode_170 (by rw [show mrc tx sn ds xs dg n q = some (1, q + rM tx sn q + 10) from by rw [mrc, if_neg (fun z => c1 z.1), if_neg h70, if_neg c4, if_neg (by omega), if_neg c6, if_pos c7]]; exact ⟨rfl, fun b hb => (hf456 _ (by omega)).trans (rfl), rfl, _, _, (fun i hi => ⟨rfl, rfl⟩), hM456⟩)
              · skip
                have c7 : rD tx sn (q + rM tx sn q) ≤ 10 := by
                  have z : ¬ (10 < rD tx sn (q + rM tx sn q)) := fun zz => c7 ((nI_ltI (a := 10) (b := rD tx sn (q + rM tx sn q)) (by omega) (by omega)).mpr zz)
                  omega
                refine x_iload F 0 dM_readsCode_137 rfl ?_
                refine x_iconst F (v := nI (2)) dM_readsCode_139 (by decide) ?_
                refine x_irem F dM_readsCode_140 (by decide) ?_
                refine xW.toi (nI ((rD tx sn (q + rM tx sn q)) % 2)) (pk_rem (by omega) (by omega) (by omega)) ?_
                refine x_iconst F (v := nI (1)) dM_readsCode_141 (by decide) ?_
                refine x_icmp_ne F (tgt := 171) dM_readsCode_142 (by decide) (fun c9 => ?_) (fun c9 => ?_)
                · skip
                  have c9 : (rD tx sn (q + rM tx sn q)) % 2 ≠ 1 := by
                    have z : ¬ ((rD tx sn (q + rM tx sn q)) % 2 = 1) := fun zz => c9 ((nI_eq (a := (rD tx sn (q + rM tx sn q)) % 2) (b := 1) (by omega) (by omega)).mpr zz)
                    omega
                  refine x_aload_n F 5 dM_readsCode_171 rfl rfl ?_
                  refine x_get (ci := 6) F 8 (x_in inM) rfl (by decide) (x_m kfM_24) dM_readsCode_172 h0 rfl ?_
                  refine x_iload_n F 3 dM_readsCode_175 rfl rfl ?_
                  refine x_iload F 2 dM_readsCode_176 rfl ?_
                  refine x_iast F dM_readsCode_178 h4 (pk_in (120 + n) (160) (by omega)) ?_
                  rw [nI_clamp (show 120 + n < 2 ^ 31 by omega)]
                  show xW p l e ({ frames := 4, cells := 0, slots := 0, locals := 96 } : Room) s m args below meth c D xcl (x_A M nx) 8 (MQ below (x_Q D xcl (x_A M nx) (mcPost nx M a th sg sn pr fk fp rws cd ds wc wd nn nE nC nK nO ln lF lC lT lO fn fC fP ak ac pt n (rM tx sn q) (cN tx (q + rM tx sn q) (rD tx sn (q + rM tx sn q))) (mrc tx sn ds xs dg n q))) args s 0 0 (x_A M nx)) 0 0 (nx) (x_up M (a + 4) (.inl (.int, 160, .inl (upd (ds) (120 + n) (nI (rM tx sn q)))))) 179 [(6, .int (nI (rD tx sn (q + rM tx sn q)))), (5, .int (nI (q + rM tx sn q))), (4, .int (nI (rM tx sn q))), (3, .int (nI (120 + n))), (2, .int (nI (n))), (0, .ref (a)), (1, .int (nI (q)))] []
                  refine x_aload_n F 5 dM_readsCode_179 rfl rfl ?_
                  refine x_get (ci := 6) F 7 (x_in inM) rfl (by decide) (x_m kfM_20) dM_readsCode_180 (x_up_k h0 (by omega)) rfl ?_
                  refine x_iload_n F 3 dM_readsCode_183 rfl rfl ?_
                  refine x_aload_n F 5 dM_readsCode_184 rfl rfl ?_
                  refine x_iload F 1 dM_readsCode_185 rfl ?_
                  refine x_iload F 0 dM_readsCode_187 rfl ?_
                  refine yV (n := 2) (As := [.int (nI (q + rM tx sn q)), .int (nI (rD tx sn (q + rM tx sn q)))]) (ci := 6) F kmM_119 kiM_codeAt ksM_codeAt knM kcM_codeAt (by decide +kernel) dM_readsCode_189 (cM_codeAt l (nx) (x_up M (a + 4) (.inl (.int, 160, .inl (upd (ds) (120 + n) (nI (rM tx sn q)))))) (a) th sg sn pr fk fp rws cd (upd (ds) (120 + n) (nI (rM tx sn q))) wc wd nn nE nC nK nO ln lF lC lT lO fn fC fP ak ac pt ⟨(x_up_k h0 (by omega)), (x_up_k h1 (by omega)), (x_up_k h2 (by omega)), (x_up_k h3 (by omega)), x_up_s, (x_up_k h5 (by omega)), (x_up_k h6 (by omega)), (x_up_k h7 (by omega)), (x_up_k h8 (by omega)), (x_up_k h9 (by omega)), (x_up_k h10 (by omega)), (x_up_k h11 (by omega)), (x_up_k h12 (by omega)), (x_up_k h13 (by omega)), (x_up_k h14 (by omega)), (x_up_k h15 (by omega)), (x_up_k h16 (by omega)), (x_up_k h17 (by omega)), (x_up_k h18 (by omega)), by omega, by omega, by omega, by omega, by omega, by omega⟩ tx hX (q + rM tx sn q) (rD tx sn (q + rM tx sn q)) (by omega) (fun i hi => rn_all hi)) rfl (x_up_k h0 (by omega)) rfl rfl (Nat.le_of_ble_eq_true rfl) ⟨Nat.le_of_ble_eq_true rfl, Nat.le_of_ble_eq_true rfl⟩ ⟨Nat.le_of_ble_eq_true rfl, Nat.le_of_ble_eq_true rfl⟩ ?_
                  refine x_last F dM_readsCode_192 (x_up_k h3 (by omega)) (pk_in (120 + n) (160) (by omega)) ?_
                  rw [nI_clamp (show 120 + n < 2 ^ 31 by omega)]
                  show xW p l e ({ frames := 4, cells := 0, slots := 0, locals := 96 } : Room) s m args below meth c D xcl (x_A M nx) 8 (MQ below (x_Q D xcl (x_A M nx) (mcPost nx M a th sg sn pr fk fp rws cd ds wc wd nn nE nC nK nO ln lF lC lT lO fn fC fP ak ac pt n (rM tx sn q) (cN tx (q + rM tx sn q) (rD tx sn (q + rM tx sn q))) (mrc tx sn ds xs dg n q))) args s 0 0 (x_A M nx)) 0 0 (nx) (x_up (x_up M (a + 4) (.inl (.int, 160, .inl (upd (ds) (120 + n) (nI (rM tx sn q)))))) (a + 3) (.inl (.long, 160, .inr (.inl (vp_updL (cd) (120 + n) (lN (cN tx (q + rM tx sn q) (rD tx sn (q + rM tx sn q))))))))) 193 [(6, .int (nI (rD tx sn (q + rM tx sn q)))), (5, .int (nI (q + rM tx sn q))), (4, .int (nI (rM tx sn q))), (3, .int (nI (120 + n))), (2, .int (nI (n))), (0, .ref (a)), (1, .int (nI (q)))] []
                  have hX10 : cdg (cN tx (q + rM tx sn q) (rD tx sn (q + rM tx sn q))) (rD tx sn (q + rM tx sn q)) := cN_dg (by omega) (fun i hi => rn_all hi)
                  refine x_aload_n F 5 dM_readsCode_193 rfl rfl ?_
                  refine x_bipush F (v := nI (120)) dM_readsCode_194 (by decide) ?_
                  refine x_iload_n F 3 dM_readsCode_196 rfl rfl ?_
                  refine yV (n := 2) (As := [.int (nI (120)), .int (nI (120 + n))]) (ci := 6) F kmM_123 kiM_above ksM_above knM kcM_above (by decide +kernel) dM_readsCode_197 (cM_above l (nx) (x_up (x_up M (a + 4) (.inl (.int, 160, .inl (upd (ds) (120 + n) (nI (rM tx sn q)))))) (a + 3) (.inl (.long, 160, .inr (.inl (vp_updL (cd) (120 + n) (lN (cN tx (q + rM tx sn q) (rD tx sn (q + rM tx sn q))))))))) (a) th sg sn pr fk fp rws (vp_updL (cd) (120 + n) (lN (cN tx (q + rM tx sn q) (rD tx sn (q + rM tx sn q))))) (upd (ds) (120 + n) (nI (rM tx sn q))) wc wd nn nE nC nK nO ln lF lC lT lO fn fC fP ak ac pt ⟨(x_up_k (x_up_k h0 (by omega)) (by omega)), (x_up_k (x_up_k h1 (by omega)) (by omega)), (x_up_k (x_up_k h2 (by omega)) (by omega)), x_up_s, (x_up_k x_up_s (by omega)), (x_up_k (x_up_k h5 (by omega)) (by omega)), (x_up_k (x_up_k h6 (by omega)) (by omega)), (x_up_k (x_up_k h7 (by omega)) (by omega)), (x_up_k (x_up_k h8 (by omega)) (by omega)), (x_up_k (x_up_k h9 (by omega)) (by omega)), (x_up_k (x_up_k h10 (by omega)) (by omega)), (x_up_k (x_up_k h11 (by omega)) (by omega)), (x_up_k (x_up_k h12 (by omega)) (by omega)), (x_up_k (x_up_k h13 (by omega)) (by omega)), (x_up_k (x_up_k h14 (by omega)) (by omega)), (x_up_k (x_up_k h15 (by omega)) (by omega)), (x_up_k (x_up_k h16 (by omega)) (by omega)), (x_up_k (x_up_k h17 (by omega)) (by omega)), (x_up_k (x_up_k h18 (by omega)) (by omega)), by omega, by omega, by omega, by omega, by omega, by omega⟩ 120 n (by omega)) rfl (x_up_k (x_up_k h0 (by omega)) (by omega)) rfl rfl (Nat.le_of_ble_eq_true rfl) ⟨Nat.le_of_ble_eq_true rfl, Nat.le_of_ble_eq_true rfl⟩ ⟨Nat.le_of_ble_eq_true rfl, Nat.le_of_ble_eq_true rfl⟩ ?_
                  rcases o_cases (mUp (upd ds (120 + n) (nI (rM tx sn q))) 120 n) with hup | ⟨j, hup⟩
                  · skip
                    refine xW.ste (st' := [.int ((-1))]) (by show ([.int (oj 120 (mUp (upd ds (120 + n) (nI (rM tx sn q))) 120 n))] : List Value) = _; rw [hup]; rfl) ?_
                    refine x_istore F [(7, .int ((-1))), (6, .int (nI (rD tx sn (q + rM tx sn q)))), (5, .int (nI (q + rM tx sn q))), (4, .int (nI (rM tx sn q))), (3, .int (nI (120 + n))), (2, .int (nI (n))), (0, .ref (a)), (1, .int (nI (q)))] dM_readsCode_200 (by decide) rfl ?_
                    refine x_iload F 3 dM_readsCode_202 rfl ?_
                    refine x_if_ne F (tgt := 213) dM_readsCode_204 (by decide) (fun c10 => ?_) (fun c10 => ?_)
                    · skip
                      have c10 : rM tx sn q ≠ 0 := by
                        have z : ¬ (rM tx sn q = 0) := fun zz => c10 ((nI_eq (a := rM tx sn q) (b := 0) (by omega) (by omega)).mpr zz)
                        omega
                      refine x_iload F 3 dM_readsCode_213 rfl ?_
                      refine x_if_le F (tgt := 254) dM_readsCode_215 (by decide) (fun c11 => ?_) (fun c11 => ?_)
                      · skip
                        have c11 : rM tx sn q ≤ 0 := by
                          exact (nI_leI (a := rM tx sn q) (b := 0) (by omega) (by omega)).mp c11
                        exact absurd c11 (by omega)
                      · skip
                        have c11 : 0 < rM tx sn q := by
                          have z : ¬ (rM tx sn q ≤ 0) := fun zz => c11 ((nI_leI (a := rM tx sn q) (b := 0) (by omega) (by omega)).mpr zz)
                          omega
                        refine x_aload_n F 6 dM_readsCode_218 rfl rfl ?_
                        refine x_get (ci := 6) F 7 (x_in inM) rfl (by decide) (x_m kfM_20) dM_readsCode_219 (x_up_k (x_up_k h0 (by omega)) (by omega)) rfl ?_
                        refine x_iload_n F 4 dM_readsCode_222 rfl rfl ?_
                        refine x_lald F dM_readsCode_223 x_up_s (pk_in (120 + n) (160) (by omega)) ?_
                        refine xW.tol (lN (cN tx (q + rM tx sn q) (rD tx sn (q + rM tx sn q)))) (by rw [nI_clamp (by omega)]; exact vp_us) ?_
                        refine x_aload_n F 6 dM_readsCode_224 rfl rfl ?_
                        refine x_get (ci := 6) F 7 (x_in inM) rfl (by decide) (x_m kfM_20) dM_readsCode_225 (x_up_k (x_up_k h0 (by omega)) (by omega)) rfl ?_
                        refine x_iload F 0 dM_readsCode_228 rfl ?_
                        refine x_if_ge F (tgt := 237) dM_readsCode_230 (by decide) (fun c12 => ?_) (fun c12 => ?_)
                        · skip
                          exact absurd c12 (by decide)
                        · skip
                          refine x_iload_n F 4 dM_readsCode_233 rfl rfl ?_
                          refine x_goto F (tgt := 239) dM_readsCode_234 (by decide) ?_
                          refine x_lald F dM_readsCode_239 x_up_s (pk_in (120 + n) (160) (by omega)) ?_
                          refine xW.tol (lN (cN tx (q + rM tx sn q) (rD tx sn (q + rM tx sn q)))) (by rw [nI_clamp (by omega)]; exact vp_us) ?_
                          refine yS (n := 2) (As := [.long (lN (cN tx (q + rM tx sn q) (rD tx sn (q + rM tx sn q)))), .long (lN (cN tx (q + rM tx sn q) (rD tx sn (q + rM tx sn q))))]) F kmM_107 ktM_begins knM kcM_begins (by decide +kernel) dM_readsCode_240 (cM_begins l (nx) (x_up (x_up M (a + 4) (.inl (.int, 160, .inl (upd (ds) (120 + n) (nI (rM tx sn q)))))) (a + 3) (.inl (.long, 160, .inr (.inl (vp_updL (cd) (120 + n) (lN (cN tx (q + rM tx sn q) (rD tx sn (q + rM tx sn q))))))))) (cN tx (q + rM tx sn q) (rD tx sn (q + rM tx sn q))) (rD tx sn (q + rM tx sn q)) (cN tx (q + rM tx sn q) (rD tx sn (q + rM tx sn q))) (rD tx sn (q + rM tx sn q)) hX10 hX10) rfl rfl (Nat.le_of_ble_eq_true rfl) ⟨Nat.le_of_ble_eq_true rfl, Nat.le_of_ble_eq_true rfl⟩ ⟨Nat.le_of_ble_eq_true rfl, Nat.le_of_ble_eq_true rfl⟩ ?_
                          refine x_if_ne F (tgt := 254) dM_readsCode_243 (by decide) (fun c13 => ?_) (fun c13 => ?_)
                          · skip
                            have c13 : (mbg (cN tx (q + rM tx sn q) (rD tx sn (q + rM tx sn q))) (rD tx sn (q + rM tx sn q)) (cN tx (q + rM tx sn q) (rD tx sn (q + rM tx sn q))) (rD tx sn (q + rM tx sn q))) = true := bI_1 c13
                            have hla := mUp_la (by omega) hup
                            have hbad : mBad ds xs dg n (rM tx sn q) (cN tx (q + rM tx sn q) (rD tx sn (q + rM tx sn q))) (rD tx sn (q + rM tx sn q)) = false := by rw [mBad, if_neg (by omega), hla]; rw [mbg_self] at c13; cases c13
                            refine x_iload_n F 5 dM_readsCode_254 rfl rfl ?_
                            refine x_if_eq F (tgt := 288) dM_readsCode_255 (by decide) (fun c14 => ?_) (fun c14 => ?_)
                            · skip
                              have c14 : n = 0 := by
                                exact (nI_eq (a := n) (b := 0) (by omega) (by omega)).mp c14
                              exact absurd c14 (by omega)
                            · skip
                              have c14 : n ≠ 0 := by
                                have z : ¬ (n = 0) := fun zz => c14 ((nI_eq (a := n) (b := 0) (by omega) (by omega)).mpr zz)
                                omega
                              obtain ⟨n0, hn1⟩ : ∃ n0, n = n0 + 1 := ⟨n - 1, by omega⟩
                              refine x_aload_n F 6 dM_readsCode_258 rfl rfl ?_
                              refine x_get (ci := 6) F 7 (x_in inM) rfl (by decide) (x_m kfM_20) dM_readsCode_259 (x_up_k (x_up_k h0 (by omega)) (by omega)) rfl ?_
                              refine x_iload_n F 4 dM_readsCode_262 rfl rfl ?_
                              refine x_lald F dM_readsCode_263 x_up_s (pk_in (120 + n) (160) (by omega)) ?_
                              refine xW.tol (lN (cN tx (q + rM tx sn q) (rD tx sn (q + rM tx sn q)))) (by rw [nI_clamp (by omega)]; exact vp_us) ?_
                              refine x_aload_n F 6 dM_readsCode_264 rfl rfl ?_
                              refine x_get (ci := 6) F 7 (x_in inM) rfl (by decide) (x_m kfM_20) dM_readsCode_265 (x_up_k (x_up_k h0 (by omega)) (by omega)) rfl ?_
                              refine x_iload_n F 4 dM_readsCode_268 rfl rfl ?_
                              refine x_iconst F (v := nI (1)) dM_readsCode_269 (by decide) ?_
                              refine x_isub F dM_readsCode_270 ?_
                              refine xW.toi (nI (120 + n0)) (by rw [hn1]; exact nI_pred (120 + n0)) ?_
                              refine x_lald F dM_readsCode_271 x_up_s (pk_in (120 + n0) (160) (by omega)) ?_
                              refine xW.tol (lN (xs n0)) (by rw [nI_clamp (by omega)]; exact (updL_ne (by omega)).trans (hcd n0 (by omega)).1) ?_
                              refine yS (n := 2) (As := [.long (lN (cN tx (q + rM tx sn q) (rD tx sn (q + rM tx sn q)))), .long (lN (xs n0))]) F kmM_126 ktM_isBehind knM kcM_isBehind (by decide +kernel) dM_readsCode_272 (cM_isBehind l (nx) (x_up (x_up M (a + 4) (.inl (.int, 160, .inl (upd (ds) (120 + n) (nI (rM tx sn q)))))) (a + 3) (.inl (.long, 160, .inr (.inl (vp_updL (cd) (120 + n) (lN (cN tx (q + rM tx sn q) (rD tx sn (q + rM tx sn q))))))))) (cN tx (q + rM tx sn q) (rD tx sn (q + rM tx sn q))) (rD tx sn (q + rM tx sn q)) (xs n0) (dg n0) hX10 (hcd n0 (by omega)).2) rfl rfl (Nat.le_of_ble_eq_true rfl) ⟨Nat.le_of_ble_eq_true rfl, Nat.le_of_ble_eq_true rfl⟩ ⟨Nat.le_of_ble_eq_true rfl, Nat.le_of_ble_eq_true rfl⟩ ?_
                              refine x_if_ne F (tgt := 288) dM_readsCode_275 (by decide) (fun c15 => ?_) (fun c15 => ?_)
                              · skip
                                have c15 : (mbh (cN tx (q + rM tx sn q) (rD tx sn (q + rM tx sn q))) (rD tx sn (q + rM tx sn q)) (xs n0) (dg n0)) = true := bI_1 c15
                                have hbeh : mBeh xs dg n (cN tx (q + rM tx sn q) (rD tx sn (q + rM tx sn q))) (rD tx sn (q + rM tx sn q)) = true := by rw [hn1]; exact c15
                                refine x_iconst F (v := nI (1)) dM_readsCode_288 (by decide) ?_
                                refine x_goto F (tgt := 293) dM_readsCode_289 (by decide) ?_
                                exact x_zret F hr (by rfl) dM_readsCode_293 (by rw [show mrc tx sn ds xs dg n q = none from by rw [mrc, if_neg (fun z => c1 z.1), if_neg h70, if_neg c4, if_neg (by omega), if_neg c6, if_neg (by omega), if_neg c9, if_neg (by rw [hbad]; decide), if_neg (by rw [hbeh]; decide)]]; exact ⟨rfl, fun b hb => (x_up_n (by omega)).trans ((x_up_n (by omega)).trans (rfl)), rfl, ⟨(x_up_k (x_up_k h0 (by omega)) (by omega)), (x_up_k (x_up_k h1 (by omega)) (by omega)), (x_up_k (x_up_k h2 (by omega)) (by omega)), x_up_s, (x_up_k x_up_s (by omega)), (x_up_k (x_up_k h5 (by omega)) (by omega)), (x_up_k (x_up_k h6 (by omega)) (by omega)), (x_up_k (x_up_k h7 (by omega)) (by omega)), (x_up_k (x_up_k h8 (by omega)) (by omega)), (x_up_k (x_up_k h9 (by omega)) (by omega)), (x_up_k (x_up_k h10 (by omega)) (by omega)), (x_up_k (x_up_k h11 (by omega)) (by omega)), (x_up_k (x_up_k h12 (by omega)) (by omega)), (x_up_k (x_up_k h13 (by omega)) (by omega)), (x_up_k (x_up_k h14 (by omega)) (by omega)), (x_up_k (x_up_k h15 (by omega)) (by omega)), (x_up_k (x_up_k h16 (by omega)) (by omega)), (x_up_k (x_up_k h17 (by omega)) (by omega)), (x_up_k (x_up_k h18 (by omega)) (by omega)), by omega, by omega, by omega, by omega, by omega, by omega⟩⟩)
                              · skip
                                have c15 : (mbh (cN tx (q + rM tx sn q) (rD tx sn (q + rM tx sn q))) (rD tx sn (q + rM tx sn q)) (xs n0) (dg n0)) = false := bI_0 c15
                                have hbeh : mBeh xs dg n (cN tx (q + rM tx sn q) (rD tx sn (q + rM tx sn q))) (rD tx sn (q + rM tx sn q)) = false := by rw [hn1]; exact c15
                                refine x_aload_n F 6 dM_readsCode_278 rfl rfl ?_
                                refine x_iconst F (v := nI (4)) dM_readsCode_279 (by decide) ?_
                                refine x_iload F 2 dM_readsCode_280 rfl ?_
                                refine yVr (n := 2) (As := [.int (nI (4)), .int (nI (q + rM tx sn q))]) (ci := 6) F kmM_115 kiM_fails ksM_fails knM kcM_fails (by decide +kernel) dM_readsCode_282 (cM_fails l (nx) (x_up (x_up M (a + 4) (.inl (.int, 160, .inl (upd (ds) (120 + n) (nI (rM tx sn q)))))) (a + 3) (.inl (.long, 160, .inr (.inl (vp_updL (cd) (120 + n) (lN (cN tx (q + rM tx sn q) (rD tx sn (q + rM tx sn q))))))))) (a) th sg sn pr fk fp rws (vp_updL (cd) (120 + n) (lN (cN tx (q + rM tx sn q) (rD tx sn (q + rM tx sn q))))) (upd (ds) (120 + n) (nI (rM tx sn q))) wc wd nn nE nC nK nO ln lF lC lT lO fn fC fP ak ac pt ⟨(x_up_k (x_up_k h0 (by omega)) (by omega)), (x_up_k (x_up_k h1 (by omega)) (by omega)), (x_up_k (x_up_k h2 (by omega)) (by omega)), x_up_s, (x_up_k x_up_s (by omega)), (x_up_k (x_up_k h5 (by omega)) (by omega)), (x_up_k (x_up_k h6 (by omega)) (by omega)), (x_up_k (x_up_k h7 (by omega)) (by omega)), (x_up_k (x_up_k h8 (by omega)) (by omega)), (x_up_k (x_up_k h9 (by omega)) (by omega)), (x_up_k (x_up_k h10 (by omega)) (by omega)), (x_up_k (x_up_k h11 (by omega)) (by omega)), (x_up_k (x_up_k h12 (by omega)) (by omega)), (x_up_k (x_up_k h13 (by omega)) (by omega)), (x_up_k (x_up_k h14 (by omega)) (by omega)), (x_up_k (x_up_k h15 (by omega)) (by omega)), (x_up_k (x_up_k h16 (by omega)) (by omega)), (x_up_k (x_up_k h17 (by omega)) (by omega)), (x_up_k (x_up_k h18 (by omega)) (by omega)), by omega, by omega, by omega, by omega, by omega, by omega⟩ (nI (4)) (nI (q + rM tx sn q))) rfl (x_up_k (x_up_k h0 (by omega)) (by omega)) rfl rfl (Nat.le_of_ble_eq_true rfl) ⟨Nat.le_of_ble_eq_true rfl, Nat.le_of_ble_eq_true rfl⟩ ⟨Nat.le_of_ble_eq_true rfl, Nat.le_of_ble_eq_true rfl⟩ (fun r' n' M457 hp => ?_)
                                obtain ⟨hr', hn', hM457, hf457⟩ := hp
                                rw [hn', hr']
                                obtain ⟨v457_0, v457_1, v457_2, v457_3, v457_4, v457_5, v457_6, v457_7, v457_8, v457_9, v457_10, v457_11, v457_12, v457_13, v457_14, v457_15, v457_16, v457_17, v457_18, vb457_0, vb457_1, vb457_2, vb457_3, vb457_4, vb457_5⟩ := id hM457
                                show xW p l e ({ frames := 4, cells := 0, slots := 0, locals := 96 } : Room) s m args below meth c D xcl (x_A M nx) 8 (MQ below (x_Q D xcl (x_A M nx) (mcPost nx M a th sg sn pr fk fp rws cd ds wc wd nn nE nC nK nO ln lF lC lT lO fn fC fP ak ac pt n (rM tx sn q) (cN tx (q + rM tx sn q) (rD tx sn (q + rM tx sn q))) (mrc tx sn ds xs dg n q))) args s 0 0 (x_A M nx)) 0 0 (nx) M457 285 [(7, .int ((-1))), (6, .int (nI (rD tx sn (q + rM tx sn q)))), (5, .int (nI (q + rM tx sn q))), (4, .int (nI (rM tx sn q))), (3, .int (nI (120 + n))), (2, .int (nI (n))), (0, .ref (a)), (1, .int (nI (q)))] [.int (nI (0))]
                                refine x_if_eq F (tgt := 292) dM_readsCode_285 (by decide) (fun c16 => ?_) (fun c16 => ?_)
                                · skip
                                  have c16 : 0 = 0 := by
                                    exact (nI_eq (a := 0) (b := 0) (by omega) (by omega)).mp c16
                                  refine x_iconst F (v := nI (0)) dM_readsCode_292 (by decide) ?_
                                  exact x_zret F hr (by rfl) dM_readsCode_293 (by rw [show mrc tx sn ds xs dg n q = some (4, q + rM tx sn q) from by rw [mrc, if_neg (fun z => c1 z.1), if_neg h70, if_neg c4, if_neg (by omega), if_neg c6, if_neg (by omega), if_neg c9, if_neg (by rw [hbad]; decide), if_pos hbeh]]; exact ⟨rfl, fun b hb => (hf457 _ (by omega)).trans ((x_up_n (by omega)).trans ((x_up_n (by omega)).trans (rfl))), rfl, _, _, (fun i hi => ⟨updL_ne (by omega), upd_ne (by omega)⟩), hM457⟩)
                                · skip
                                  have c16 : 0 ≠ 0 := by
                                    have z : ¬ (0 = 0) := fun zz => c16 ((nI_eq (a := 0) (b := 0) (by omega) (by omega)).mpr zz)
                                    omega
                                  exact absurd c16 (by decide)
                          · skip
                            have c13 : (mbg (cN tx (q + rM tx sn q) (rD tx sn (q + rM tx sn q))) (rD tx sn (q + rM tx sn q)) (cN tx (q + rM tx sn q) (rD tx sn (q + rM tx sn q))) (rD tx sn (q + rM tx sn q))) = false := bI_0 c13
                            have hla := mUp_la (by omega) hup
                            have hbad : mBad ds xs dg n (rM tx sn q) (cN tx (q + rM tx sn q) (rD tx sn (q + rM tx sn q))) (rD tx sn (q + rM tx sn q)) = true := by rw [mBad, if_neg (by omega), hla]
                            refine x_aload_n F 6 dM_readsCode_246 rfl rfl ?_
                            refine x_iconst F (v := nI (3)) dM_readsCode_247 (by decide) ?_
                            refine x_iload F 2 dM_readsCode_248 rfl ?_
                            refine yVr (n := 2) (As := [.int (nI (3)), .int (nI (q + rM tx sn q))]) (ci := 6) F kmM_115 kiM_fails ksM_fails knM kcM_fails (by decide +kernel) dM_readsCode_250 (cM_fails l (nx) (x_up (x_up M (a + 4) (.inl (.int, 160, .inl (upd (ds) (120 + n) (nI (rM tx sn q)))))) (a + 3) (.inl (.long, 160, .inr (.inl (vp_updL (cd) (120 + n) (lN (cN tx (q + rM tx sn q) (rD tx sn (q + rM tx sn q))))))))) (a) th sg sn pr fk fp rws (vp_updL (cd) (120 + n) (lN (cN tx (q + rM tx sn q) (rD tx sn (q + rM tx sn q))))) (upd (ds) (120 + n) (nI (rM tx sn q))) wc wd nn nE nC nK nO ln lF lC lT lO fn fC fP ak ac pt ⟨(x_up_k (x_up_k h0 (by omega)) (by omega)), (x_up_k (x_up_k h1 (by omega)) (by omega)), (x_up_k (x_up_k h2 (by omega)) (by omega)), x_up_s, (x_up_k x_up_s (by omega)), (x_up_k (x_up_k h5 (by omega)) (by omega)), (x_up_k (x_up_k h6 (by omega)) (by omega)), (x_up_k (x_up_k h7 (by omega)) (by omega)), (x_up_k (x_up_k h8 (by omega)) (by omega)), (x_up_k (x_up_k h9 (by omega)) (by omega)), (x_up_k (x_up_k h10 (by omega)) (by omega)), (x_up_k (x_up_k h11 (by omega)) (by omega)), (x_up_k (x_up_k h12 (by omega)) (by omega)), (x_up_k (x_up_k h13 (by omega)) (by omega)), (x_up_k (x_up_k h14 (by omega)) (by omega)), (x_up_k (x_up_k h15 (by omega)) (by omega)), (x_up_k (x_up_k h16 (by omega)) (by omega)), (x_up_k (x_up_k h17 (by omega)) (by omega)), (x_up_k (x_up_k h18 (by omega)) (by omega)), by omega, by omega, by omega, by omega, by omega, by omega⟩ (nI (3)) (nI (q + rM tx sn q))) rfl (x_up_k (x_up_k h0 (by omega)) (by omega)) rfl rfl (Nat.le_of_ble_eq_true rfl) ⟨Nat.le_of_ble_eq_true rfl, Nat.le_of_ble_eq_true rfl⟩ ⟨Nat.le_of_ble_eq_true rfl, Nat.le_of_ble_eq_true rfl⟩ (fun r' n' M458 hp => ?_)
                            obtain ⟨hr', hn', hM458, hf458⟩ := hp
                            rw [hn', hr']
                            obtain ⟨v458_0, v458_1, v458_2, v458_3, v458_4, v458_5, v458_6, v458_7, v458_8, v458_9, v458_10, v458_11, v458_12, v458_13, v458_14, v458_15, v458_16, v458_17, v458_18, vb458_0, vb458_1, vb458_2, vb458_3, vb458_4, vb458_5⟩ := id hM458
                            show xW p l e ({ frames := 4, cells := 0, slots := 0, locals := 96 } : Room) s m args below meth c D xcl (x_A M nx) 8 (MQ below (x_Q D xcl (x_A M nx) (mcPost nx M a th sg sn pr fk fp rws cd ds wc wd nn nE nC nK nO ln lF lC lT lO fn fC fP ak ac pt n (rM tx sn q) (cN tx (q + rM tx sn q) (rD tx sn (q + rM tx sn q))) (mrc tx sn ds xs dg n q))) args s 0 0 (x_A M nx)) 0 0 (nx) M458 253 [(7, .int ((-1))), (6, .int (nI (rD tx sn (q + rM tx sn q)))), (5, .int (nI (q + rM tx sn q))), (4, .int (nI (rM tx sn q))), (3, .int (nI (120 + n))), (2, .int (nI (n))), (0, .ref (a)), (1, .int (nI (q)))] [.int (nI (0))]
                            exact x_zret F hr (by rfl) dM_readsCode_253 (by rw [show mrc tx sn ds xs dg n q = some (3, q + rM tx sn q) from by rw [mrc, if_neg (fun z => c1 z.1), if_neg h70, if_neg c4, if_neg (by omega), if_neg c6, if_neg (by omega), if_neg c9, if_pos hbad]]; exact ⟨rfl, fun b hb => (hf458 _ (by omega)).trans ((x_up_n (by omega)).trans ((x_up_n (by omega)).trans (rfl))), rfl, _, _, (fun i hi => ⟨updL_ne (by omega), upd_ne (by omega)⟩), hM458⟩)
                    · skip
                      have c10 : rM tx sn q = 0 := by
                        exact (nI_eq (a := rM tx sn q) (b := 0) (by omega) (by omega)).mp c10
                      refine x_iload F 1 dM_readsCode_207 rfl ?_
                      refine x_iconst F (v := nI (2)) dM_readsCode_209 (by decide) ?_
                      refine x_icmp_ne F (tgt := 246) dM_readsCode_210 (by decide) (fun c17 => ?_) (fun c17 => ?_)
                      · skip
                        have c17 : rD tx sn (q + rM tx sn q) ≠ 2 := by
                          have z : ¬ (rD tx sn (q + rM tx sn q) = 2) := fun zz => c17 ((nI_eq (a := rD tx sn (q + rM tx sn q)) (b := 2) (by omega) (by omega)).mpr zz)
                          omega
                        have hbad : mBad ds xs dg n (rM tx sn q) (cN tx (q + rM tx sn q) (rD tx sn (q + rM tx sn q))) (rD tx sn (q + rM tx sn q)) = true := by rw [mBad, if_pos c10, decide_eq_false c17]; rfl
                        refine x_aload_n F 6 dM_readsCode_246 rfl rfl ?_
                        refine x_iconst F (v := nI (3)) dM_readsCode_247 (by decide) ?_
                        refine x_iload F 2 dM_readsCode_248 rfl ?_
                        refine yVr (n := 2) (As := [.int (nI (3)), .int (nI (q + rM tx sn q))]) (ci := 6) F kmM_115 kiM_fails ksM_fails knM kcM_fails (by decide +kernel) dM_readsCode_250 (cM_fails l (nx) (x_up (x_up M (a + 4) (.inl (.int, 160, .inl (upd (ds) (120 + n) (nI (rM tx sn q)))))) (a + 3) (.inl (.long, 160, .inr (.inl (vp_updL (cd) (120 + n) (lN (cN tx (q + rM tx sn q) (rD tx sn (q + rM tx sn q))))))))) (a) th sg sn pr fk fp rws (vp_updL (cd) (120 + n) (lN (cN tx (q + rM tx sn q) (rD tx sn (q + rM tx sn q))))) (upd (ds) (120 + n) (nI (rM tx sn q))) wc wd nn nE nC nK nO ln lF lC lT lO fn fC fP ak ac pt ⟨(x_up_k (x_up_k h0 (by omega)) (by omega)), (x_up_k (x_up_k h1 (by omega)) (by omega)), (x_up_k (x_up_k h2 (by omega)) (by omega)), x_up_s, (x_up_k x_up_s (by omega)), (x_up_k (x_up_k h5 (by omega)) (by omega)), (x_up_k (x_up_k h6 (by omega)) (by omega)), (x_up_k (x_up_k h7 (by omega)) (by omega)), (x_up_k (x_up_k h8 (by omega)) (by omega)), (x_up_k (x_up_k h9 (by omega)) (by omega)), (x_up_k (x_up_k h10 (by omega)) (by omega)), (x_up_k (x_up_k h11 (by omega)) (by omega)), (x_up_k (x_up_k h12 (by omega)) (by omega)), (x_up_k (x_up_k h13 (by omega)) (by omega)), (x_up_k (x_up_k h14 (by omega)) (by omega)), (x_up_k (x_up_k h15 (by omega)) (by omega)), (x_up_k (x_up_k h16 (by omega)) (by omega)), (x_up_k (x_up_k h17 (by omega)) (by omega)), (x_up_k (x_up_k h18 (by omega)) (by omega)), by omega, by omega, by omega, by omega, by omega, by omega⟩ (nI (3)) (nI (q + rM tx sn q))) rfl (x_up_k (x_up_k h0 (by omega)) (by omega)) rfl rfl (Nat.le_of_ble_eq_true rfl) ⟨Nat.le_of_ble_eq_true rfl, Nat.le_of_ble_eq_true rfl⟩ ⟨Nat.le_of_ble_eq_true rfl, Nat.le_of_ble_eq_true rfl⟩ (fun r' n' M459 hp => ?_)
                        obtain ⟨hr', hn', hM459, hf459⟩ := hp
                        rw [hn', hr']
                        obtain ⟨v459_0, v459_1, v459_2, v459_3, v459_4, v459_5, v459_6, v459_7, v459_8, v459_9, v459_10, v459_11, v459_12, v459_13, v459_14, v459_15, v459_16, v459_17, v459_18, vb459_0, vb459_1, vb459_2, vb459_3, vb459_4, vb459_5⟩ := id hM459
                        show xW p l e ({ frames := 4, cells := 0, slots := 0, locals := 96 } : Room) s m args below meth c D xcl (x_A M nx) 8 (MQ below (x_Q D xcl (x_A M nx) (mcPost nx M a th sg sn pr fk fp rws cd ds wc wd nn nE nC nK nO ln lF lC lT lO fn fC fP ak ac pt n (rM tx sn q) (cN tx (q + rM tx sn q) (rD tx sn (q + rM tx sn q))) (mrc tx sn ds xs dg n q))) args s 0 0 (x_A M nx)) 0 0 (nx) M459 253 [(7, .int ((-1))), (6, .int (nI (rD tx sn (q + rM tx sn q)))), (5, .int (nI (q + rM tx sn q))), (4, .int (nI (rM tx sn q))), (3, .int (nI (120 + n))), (2, .int (nI (n))), (0, .ref (a)), (1, .int (nI (q)))] [.int (nI (0))]
                        exact x_zret F hr (by rfl) dM_readsCode_253 (by rw [show mrc tx sn ds xs dg n q = some (3, q + rM tx sn q) from by rw [mrc, if_neg (fun z => c1 z.1), if_neg h70, if_neg c4, if_neg (by omega), if_neg c6, if_neg (by omega), if_neg c9, if_pos hbad]]; exact ⟨rfl, fun b hb => (hf459 _ (by omega)).trans ((x_up_n (by omega)).trans ((x_up_n (by omega)).trans (rfl))), rfl, _, _, (fun i hi => ⟨updL_ne (by omega), upd_ne (by omega)⟩), hM459⟩)
                      · skip
                        have c17 : rD tx sn (q + rM tx sn q) = 2 := by
                          exact (nI_eq (a := rD tx sn (q + rM tx sn q)) (b := 2) (by omega) (by omega)).mp c17
                        refine x_iload F 3 dM_readsCode_213 rfl ?_
                        refine x_if_le F (tgt := 254) dM_readsCode_215 (by decide) (fun c18 => ?_) (fun c18 => ?_)
                        · skip
                          have c18 : rM tx sn q ≤ 0 := by
                            exact (nI_leI (a := rM tx sn q) (b := 0) (by omega) (by omega)).mp c18
                          have hbad : mBad ds xs dg n (rM tx sn q) (cN tx (q + rM tx sn q) (rD tx sn (q + rM tx sn q))) (rD tx sn (q + rM tx sn q)) = false := by rw [mBad, if_pos (by omega), decide_eq_true (by omega)]; rfl
                          refine x_iload_n F 5 dM_readsCode_254 rfl rfl ?_
                          refine x_if_eq F (tgt := 288) dM_readsCode_255 (by decide) (fun c19 => ?_) (fun c19 => ?_)
                          · skip
                            have c19 : n = 0 := by
                              exact (nI_eq (a := n) (b := 0) (by omega) (by omega)).mp c19
                            exact absurd c19 (by omega)
                          · skip
                            have c19 : n ≠ 0 := by
                              have z : ¬ (n = 0) := fun zz => c19 ((nI_eq (a := n) (b := 0) (by omega) (by omega)).mpr zz)
                              omega
                            obtain ⟨n0, hn1⟩ : ∃ n0, n = n0 + 1 := ⟨n - 1, by omega⟩
                            refine x_aload_n F 6 dM_readsCode_258 rfl rfl ?_
                            refine x_get (ci := 6) F 7 (x_in inM) rfl (by decide) (x_m kfM_20) dM_readsCode_259 (x_up_k (x_up_k h0 (by omega)) (by omega)) rfl ?_
                            refine x_iload_n F 4 dM_readsCode_262 rfl rfl ?_
                            refine x_lald F dM_readsCode_263 x_up_s (pk_in (120 + n) (160) (by omega)) ?_
                            refine xW.tol (lN (cN tx (q + rM tx sn q) (rD tx sn (q + rM tx sn q)))) (by rw [nI_clamp (by omega)]; exact vp_us) ?_
                            refine x_aload_n F 6 dM_readsCode_264 rfl rfl ?_
                            refine x_get (ci := 6) F 7 (x_in inM) rfl (by decide) (x_m kfM_20) dM_readsCode_265 (x_up_k (x_up_k h0 (by omega)) (by omega)) rfl ?_
                            refine x_iload_n F 4 dM_readsCode_268 rfl rfl ?_
                            refine x_iconst F (v := nI (1)) dM_readsCode_269 (by decide) ?_
                            refine x_isub F dM_readsCode_270 ?_
                            refine xW.toi (nI (120 + n0)) (by rw [hn1]; exact nI_pred (120 + n0)) ?_
                            refine x_lald F dM_readsCode_271 x_up_s (pk_in (120 + n0) (160) (by omega)) ?_
                            refine xW.tol (lN (xs n0)) (by rw [nI_clamp (by omega)]; exact (updL_ne (by omega)).trans (hcd n0 (by omega)).1) ?_
                            refine yS (n := 2) (As := [.long (lN (cN tx (q + rM tx sn q) (rD tx sn (q + rM tx sn q)))), .long (lN (xs n0))]) F kmM_126 ktM_isBehind knM kcM_isBehind (by decide +kernel) dM_readsCode_272 (cM_isBehind l (nx) (x_up (x_up M (a + 4) (.inl (.int, 160, .inl (upd (ds) (120 + n) (nI (rM tx sn q)))))) (a + 3) (.inl (.long, 160, .inr (.inl (vp_updL (cd) (120 + n) (lN (cN tx (q + rM tx sn q) (rD tx sn (q + rM tx sn q))))))))) (cN tx (q + rM tx sn q) (rD tx sn (q + rM tx sn q))) (rD tx sn (q + rM tx sn q)) (xs n0) (dg n0) hX10 (hcd n0 (by omega)).2) rfl rfl (Nat.le_of_ble_eq_true rfl) ⟨Nat.le_of_ble_eq_true rfl, Nat.le_of_ble_eq_true rfl⟩ ⟨Nat.le_of_ble_eq_true rfl, Nat.le_of_ble_eq_true rfl⟩ ?_
                            refine x_if_ne F (tgt := 288) dM_readsCode_275 (by decide) (fun c20 => ?_) (fun c20 => ?_)
                            · skip
                              have c20 : (mbh (cN tx (q + rM tx sn q) (rD tx sn (q + rM tx sn q))) (rD tx sn (q + rM tx sn q)) (xs n0) (dg n0)) = true := bI_1 c20
                              have hbeh : mBeh xs dg n (cN tx (q + rM tx sn q) (rD tx sn (q + rM tx sn q))) (rD tx sn (q + rM tx sn q)) = true := by rw [hn1]; exact c20
                              refine x_iconst F (v := nI (1)) dM_readsCode_288 (by decide) ?_
                              refine x_goto F (tgt := 293) dM_readsCode_289 (by decide) ?_
                              exact x_zret F hr (by rfl) dM_readsCode_293 (by rw [show mrc tx sn ds xs dg n q = none from by rw [mrc, if_neg (fun z => c1 z.1), if_neg h70, if_neg c4, if_neg (by omega), if_neg c6, if_neg (by omega), if_neg c9, if_neg (by rw [hbad]; decide), if_neg (by rw [hbeh]; decide)]]; exact ⟨rfl, fun b hb => (x_up_n (by omega)).trans ((x_up_n (by omega)).trans (rfl)), rfl, ⟨(x_up_k (x_up_k h0 (by omega)) (by omega)), (x_up_k (x_up_k h1 (by omega)) (by omega)), (x_up_k (x_up_k h2 (by omega)) (by omega)), x_up_s, (x_up_k x_up_s (by omega)), (x_up_k (x_up_k h5 (by omega)) (by omega)), (x_up_k (x_up_k h6 (by omega)) (by omega)), (x_up_k (x_up_k h7 (by omega)) (by omega)), (x_up_k (x_up_k h8 (by omega)) (by omega)), (x_up_k (x_up_k h9 (by omega)) (by omega)), (x_up_k (x_up_k h10 (by omega)) (by omega)), (x_up_k (x_up_k h11 (by omega)) (by omega)), (x_up_k (x_up_k h12 (by omega)) (by omega)), (x_up_k (x_up_k h13 (by omega)) (by omega)), (x_up_k (x_up_k h14 (by omega)) (by omega)), (x_up_k (x_up_k h15 (by omega)) (by omega)), (x_up_k (x_up_k h16 (by omega)) (by omega)), (x_up_k (x_up_k h17 (by omega)) (by omega)), (x_up_k (x_up_k h18 (by omega)) (by omega)), by omega, by omega, by omega, by omega, by omega, by omega⟩⟩)
                            · skip
                              have c20 : (mbh (cN tx (q + rM tx sn q) (rD tx sn (q + rM tx sn q))) (rD tx sn (q + rM tx sn q)) (xs n0) (dg n0)) = false := bI_0 c20
                              have hbeh : mBeh xs dg n (cN tx (q + rM tx sn q) (rD tx sn (q + rM tx sn q))) (rD tx sn (q + rM tx sn q)) = false := by rw [hn1]; exact c20
                              refine x_aload_n F 6 dM_readsCode_278 rfl rfl ?_
                              refine x_iconst F (v := nI (4)) dM_readsCode_279 (by decide) ?_
                              refine x_iload F 2 dM_readsCode_280 rfl ?_
                              refine yVr (n := 2) (As := [.int (nI (4)), .int (nI (q + rM tx sn q))]) (ci := 6) F kmM_115 kiM_fails ksM_fails knM kcM_fails (by decide +kernel) dM_readsCode_282 (cM_fails l (nx) (x_up (x_up M (a + 4) (.inl (.int, 160, .inl (upd (ds) (120 + n) (nI (rM tx sn q)))))) (a + 3) (.inl (.long, 160, .inr (.inl (vp_updL (cd) (120 + n) (lN (cN tx (q + rM tx sn q) (rD tx sn (q + rM tx sn q))))))))) (a) th sg sn pr fk fp rws (vp_updL (cd) (120 + n) (lN (cN tx (q + rM tx sn q) (rD tx sn (q + rM tx sn q))))) (upd (ds) (120 + n) (nI (rM tx sn q))) wc wd nn nE nC nK nO ln lF lC lT lO fn fC fP ak ac pt ⟨(x_up_k (x_up_k h0 (by omega)) (by omega)), (x_up_k (x_up_k h1 (by omega)) (by omega)), (x_up_k (x_up_k h2 (by omega)) (by omega)), x_up_s, (x_up_k x_up_s (by omega)), (x_up_k (x_up_k h5 (by omega)) (by omega)), (x_up_k (x_up_k h6 (by omega)) (by omega)), (x_up_k (x_up_k h7 (by omega)) (by omega)), (x_up_k (x_up_k h8 (by omega)) (by omega)), (x_up_k (x_up_k h9 (by omega)) (by omega)), (x_up_k (x_up_k h10 (by omega)) (by omega)), (x_up_k (x_up_k h11 (by omega)) (by omega)), (x_up_k (x_up_k h12 (by omega)) (by omega)), (x_up_k (x_up_k h13 (by omega)) (by omega)), (x_up_k (x_up_k h14 (by omega)) (by omega)), (x_up_k (x_up_k h15 (by omega)) (by omega)), (x_up_k (x_up_k h16 (by omega)) (by omega)), (x_up_k (x_up_k h17 (by omega)) (by omega)), (x_up_k (x_up_k h18 (by omega)) (by omega)), by omega, by omega, by omega, by omega, by omega, by omega⟩ (nI (4)) (nI (q + rM tx sn q))) rfl (x_up_k (x_up_k h0 (by omega)) (by omega)) rfl rfl (Nat.le_of_ble_eq_true rfl) ⟨Nat.le_of_ble_eq_true rfl, Nat.le_of_ble_eq_true rfl⟩ ⟨Nat.le_of_ble_eq_true rfl, Nat.le_of_ble_eq_true rfl⟩ (fun r' n' M460 hp => ?_)
                              obtain ⟨hr', hn', hM460, hf460⟩ := hp
                              rw [hn', hr']
                              obtain ⟨v460_0, v460_1, v460_2, v460_3, v460_4, v460_5, v460_6, v460_7, v460_8, v460_9, v460_10, v460_11, v460_12, v460_13, v460_14, v460_15, v460_16, v460_17, v460_18, vb460_0, vb460_1, vb460_2, vb460_3, vb460_4, vb460_5⟩ := id hM460
                              show xW p l e ({ frames := 4, cells := 0, slots := 0, locals := 96 } : Room) s m args below meth c D xcl (x_A M nx) 8 (MQ below (x_Q D xcl (x_A M nx) (mcPost nx M a th sg sn pr fk fp rws cd ds wc wd nn nE nC nK nO ln lF lC lT lO fn fC fP ak ac pt n (rM tx sn q) (cN tx (q + rM tx sn q) (rD tx sn (q + rM tx sn q))) (mrc tx sn ds xs dg n q))) args s 0 0 (x_A M nx)) 0 0 (nx) M460 285 [(7, .int ((-1))), (6, .int (nI (rD tx sn (q + rM tx sn q)))), (5, .int (nI (q + rM tx sn q))), (4, .int (nI (rM tx sn q))), (3, .int (nI (120 + n))), (2, .int (nI (n))), (0, .ref (a)), (1, .int (nI (q)))] [.int (nI (0))]
                              refine x_if_eq F (tgt := 292) dM_readsCode_285 (by decide) (fun c21 => ?_) (fun c21 => ?_)
                              · skip
                                have c21 : 0 = 0 := by
                                  exact (nI_eq (a := 0) (b := 0) (by omega) (by omega)).mp c21
                                refine x_iconst F (v := nI (0)) dM_readsCode_292 (by decide) ?_
                                exact x_zret F hr (by rfl) dM_readsCode_293 (by rw [show mrc tx sn ds xs dg n q = some (4, q + rM tx sn q) from by rw [mrc, if_neg (fun z => c1 z.1), if_neg h70, if_neg c4, if_neg (by omega), if_neg c6, if_neg (by omega), if_neg c9, if_neg (by rw [hbad]; decide), if_pos hbeh]]; exact ⟨rfl, fun b hb => (hf460 _ (by omega)).trans ((x_up_n (by omega)).trans ((x_up_n (by omega)).trans (rfl))), rfl, _, _, (fun i hi => ⟨updL_ne (by omega), upd_ne (by omega)⟩), hM460⟩)
                              · skip
                                have c21 : 0 ≠ 0 := by
                                  have z : ¬ (0 = 0) := fun zz => c21 ((nI_eq (a := 0) (b := 0) (by omega) (by omega)).mpr zz)
                                  omega
                                exact absurd c21 (by decide)
                        · skip
                          have c18 : 0 < rM tx sn q := by
                            have z : ¬ (rM tx sn q ≤ 0) := fun zz => c18 ((nI_leI (a := rM tx sn q) (b := 0) (by omega) (by omega)).mpr zz)
                            omega
                          exact absurd c18 (by omega)
                  · skip
                    have hj : j < n := mUp_lt hup
                    refine xW.ste (st' := [.int (nI (120 + j))]) (by show ([.int (oj 120 (mUp (upd ds (120 + n) (nI (rM tx sn q))) 120 n))] : List Value) = _; rw [hup]; rfl) ?_
                    refine x_istore F [(7, .int (nI (120 + j))), (6, .int (nI (rD tx sn (q + rM tx sn q)))), (5, .int (nI (q + rM tx sn q))), (4, .int (nI (rM tx sn q))), (3, .int (nI (120 + n))), (2, .int (nI (n))), (0, .ref (a)), (1, .int (nI (q)))] dM_readsCode_200 (by decide) rfl ?_
                    refine x_iload F 3 dM_readsCode_202 rfl ?_
                    refine x_if_ne F (tgt := 213) dM_readsCode_204 (by decide) (fun c22 => ?_) (fun c22 => ?_)
                    · skip
                      have c22 : rM tx sn q ≠ 0 := by
                        have z : ¬ (rM tx sn q = 0) := fun zz => c22 ((nI_eq (a := rM tx sn q) (b := 0) (by omega) (by omega)).mpr zz)
                        omega
                      refine x_iload F 3 dM_readsCode_213 rfl ?_
                      refine x_if_le F (tgt := 254) dM_readsCode_215 (by decide) (fun c23 => ?_) (fun c23 => ?_)
                      · skip
                        have c23 : rM tx sn q ≤ 0 := by
                          exact (nI_leI (a := rM tx sn q) (b := 0) (by omega) (by omega)).mp c23
                        exact absurd c23 (by omega)
                      · skip
                        have c23 : 0 < rM tx sn q := by
                          have z : ¬ (rM tx sn q ≤ 0) := fun zz => c23 ((nI_leI (a := rM tx sn q) (b := 0) (by omega) (by omega)).mpr zz)
                          omega
                        refine x_aload_n F 6 dM_readsCode_218 rfl rfl ?_
                        refine x_get (ci := 6) F 7 (x_in inM) rfl (by decide) (x_m kfM_20) dM_readsCode_219 (x_up_k (x_up_k h0 (by omega)) (by omega)) rfl ?_
                        refine x_iload_n F 4 dM_readsCode_222 rfl rfl ?_
                        refine x_lald F dM_readsCode_223 x_up_s (pk_in (120 + n) (160) (by omega)) ?_
                        refine xW.tol (lN (cN tx (q + rM tx sn q) (rD tx sn (q + rM tx sn q)))) (by rw [nI_clamp (by omega)]; exact vp_us) ?_
                        refine x_aload_n F 6 dM_readsCode_224 rfl rfl ?_
                        refine x_get (ci := 6) F 7 (x_in inM) rfl (by decide) (x_m kfM_20) dM_readsCode_225 (x_up_k (x_up_k h0 (by omega)) (by omega)) rfl ?_
                        refine x_iload F 0 dM_readsCode_228 rfl ?_
                        refine x_if_ge F (tgt := 237) dM_readsCode_230 (by decide) (fun c24 => ?_) (fun c24 => ?_)
                        · skip
                          have c24 : 0 ≤ 120 + j := by
                            exact (nI_leI (a := 0) (b := 120 + j) (by omega) (by omega)).mp c24
                          refine x_iload F 0 dM_readsCode_237 rfl ?_
                          refine x_lald F dM_readsCode_239 x_up_s (pk_in (120 + j) (160) (by omega)) ?_
                          refine xW.tol (lN (xs j)) (by rw [nI_clamp (by omega)]; exact (updL_ne (by omega)).trans (hcd j hj).1) ?_
                          refine yS (n := 2) (As := [.long (lN (cN tx (q + rM tx sn q) (rD tx sn (q + rM tx sn q)))), .long (lN (xs j))]) F kmM_107 ktM_begins knM kcM_begins (by decide +kernel) dM_readsCode_240 (cM_begins l (nx) (x_up (x_up M (a + 4) (.inl (.int, 160, .inl (upd (ds) (120 + n) (nI (rM tx sn q)))))) (a + 3) (.inl (.long, 160, .inr (.inl (vp_updL (cd) (120 + n) (lN (cN tx (q + rM tx sn q) (rD tx sn (q + rM tx sn q))))))))) (cN tx (q + rM tx sn q) (rD tx sn (q + rM tx sn q))) (rD tx sn (q + rM tx sn q)) (xs j) (dg j) hX10 (hcd j hj).2) rfl rfl (Nat.le_of_ble_eq_true rfl) ⟨Nat.le_of_ble_eq_true rfl, Nat.le_of_ble_eq_true rfl⟩ ⟨Nat.le_of_ble_eq_true rfl, Nat.le_of_ble_eq_true rfl⟩ ?_
                          refine x_if_ne F (tgt := 254) dM_readsCode_243 (by decide) (fun c25 => ?_) (fun c25 => ?_)
                          · skip
                            have c25 : (mbg (cN tx (q + rM tx sn q) (rD tx sn (q + rM tx sn q))) (rD tx sn (q + rM tx sn q)) (xs j) (dg j)) = true := bI_1 c25
                            have hla := mUp_la (by omega) hup
                            have hbad : mBad ds xs dg n (rM tx sn q) (cN tx (q + rM tx sn q) (rD tx sn (q + rM tx sn q))) (rD tx sn (q + rM tx sn q)) = false := by rw [mBad, if_neg (by omega), hla]; show (! mbg (cN tx (q + rM tx sn q) (rD tx sn (q + rM tx sn q))) (rD tx sn (q + rM tx sn q)) (xs j) (dg j)) = false; rw [c25]; rfl
                            refine x_iload_n F 5 dM_readsCode_254 rfl rfl ?_
                            refine x_if_eq F (tgt := 288) dM_readsCode_255 (by decide) (fun c26 => ?_) (fun c26 => ?_)
                            · skip
                              have c26 : n = 0 := by
                                exact (nI_eq (a := n) (b := 0) (by omega) (by omega)).mp c26
                              exact absurd c26 (by omega)
                            · skip
                              have c26 : n ≠ 0 := by
                                have z : ¬ (n = 0) := fun zz => c26 ((nI_eq (a := n) (b := 0) (by omega) (by omega)).mpr zz)
                                omega
                              obtain ⟨n0, hn1⟩ : ∃ n0, n = n0 + 1 := ⟨n - 1, by omega⟩
                              refine x_aload_n F 6 dM_readsCode_258 rfl rfl ?_
                              refine x_get (ci := 6) F 7 (x_in inM) rfl (by decide) (x_m kfM_20) dM_readsCode_259 (x_up_k (x_up_k h0 (by omega)) (by omega)) rfl ?_
                              refine x_iload_n F 4 dM_readsCode_262 rfl rfl ?_
                              refine x_lald F dM_readsCode_263 x_up_s (pk_in (120 + n) (160) (by omega)) ?_
                              refine xW.tol (lN (cN tx (q + rM tx sn q) (rD tx sn (q + rM tx sn q)))) (by rw [nI_clamp (by omega)]; exact vp_us) ?_
                              refine x_aload_n F 6 dM_readsCode_264 rfl rfl ?_
                              refine x_get (ci := 6) F 7 (x_in inM) rfl (by decide) (x_m kfM_20) dM_readsCode_265 (x_up_k (x_up_k h0 (by omega)) (by omega)) rfl ?_
                              refine x_iload_n F 4 dM_readsCode_268 rfl rfl ?_
                              refine x_iconst F (v := nI (1)) dM_readsCode_269 (by decide) ?_
                              refine x_isub F dM_readsCode_270 ?_
                              refine xW.toi (nI (120 + n0)) (by rw [hn1]; exact nI_pred (120 + n0)) ?_
                              refine x_lald F dM_readsCode_271 x_up_s (pk_in (120 + n0) (160) (by omega)) ?_
                              refine xW.tol (lN (xs n0)) (by rw [nI_clamp (by omega)]; exact (updL_ne (by omega)).trans (hcd n0 (by omega)).1) ?_
                              refine yS (n := 2) (As := [.long (lN (cN tx (q + rM tx sn q) (rD tx sn (q + rM tx sn q)))), .long (lN (xs n0))]) F kmM_126 ktM_isBehind knM kcM_isBehind (by decide +kernel) dM_readsCode_272 (cM_isBehind l (nx) (x_up (x_up M (a + 4) (.inl (.int, 160, .inl (upd (ds) (120 + n) (nI (rM tx sn q)))))) (a + 3) (.inl (.long, 160, .inr (.inl (vp_updL (cd) (120 + n) (lN (cN tx (q + rM tx sn q) (rD tx sn (q + rM tx sn q))))))))) (cN tx (q + rM tx sn q) (rD tx sn (q + rM tx sn q))) (rD tx sn (q + rM tx sn q)) (xs n0) (dg n0) hX10 (hcd n0 (by omega)).2) rfl rfl (Nat.le_of_ble_eq_true rfl) ⟨Nat.le_of_ble_eq_true rfl, Nat.le_of_ble_eq_true rfl⟩ ⟨Nat.le_of_ble_eq_true rfl, Nat.le_of_ble_eq_true rfl⟩ ?_
                              refine x_if_ne F (tgt := 288) dM_readsCode_275 (by decide) (fun c27 => ?_) (fun c27 => ?_)
                              · skip
                                have c27 : (mbh (cN tx (q + rM tx sn q) (rD tx sn (q + rM tx sn q))) (rD tx sn (q + rM tx sn q)) (xs n0) (dg n0)) = true := bI_1 c27
                                have hbeh : mBeh xs dg n (cN tx (q + rM tx sn q) (rD tx sn (q + rM tx sn q))) (rD tx sn (q + rM tx sn q)) = true := by rw [hn1]; exact c27
                                refine x_iconst F (v := nI (1)) dM_readsCode_288 (by decide) ?_
                                refine x_goto F (tgt := 293) dM_readsCode_289 (by decide) ?_
                                exact x_zret F hr (by rfl) dM_readsCode_293 (by rw [show mrc tx sn ds xs dg n q = none from by rw [mrc, if_neg (fun z => c1 z.1), if_neg h70, if_neg c4, if_neg (by omega), if_neg c6, if_neg (by omega), if_neg c9, if_neg (by rw [hbad]; decide), if_neg (by rw [hbeh]; decide)]]; exact ⟨rfl, fun b hb => (x_up_n (by omega)).trans ((x_up_n (by omega)).trans (rfl)), rfl, ⟨(x_up_k (x_up_k h0 (by omega)) (by omega)), (x_up_k (x_up_k h1 (by omega)) (by omega)), (x_up_k (x_up_k h2 (by omega)) (by omega)), x_up_s, (x_up_k x_up_s (by omega)), (x_up_k (x_up_k h5 (by omega)) (by omega)), (x_up_k (x_up_k h6 (by omega)) (by omega)), (x_up_k (x_up_k h7 (by omega)) (by omega)), (x_up_k (x_up_k h8 (by omega)) (by omega)), (x_up_k (x_up_k h9 (by omega)) (by omega)), (x_up_k (x_up_k h10 (by omega)) (by omega)), (x_up_k (x_up_k h11 (by omega)) (by omega)), (x_up_k (x_up_k h12 (by omega)) (by omega)), (x_up_k (x_up_k h13 (by omega)) (by omega)), (x_up_k (x_up_k h14 (by omega)) (by omega)), (x_up_k (x_up_k h15 (by omega)) (by omega)), (x_up_k (x_up_k h16 (by omega)) (by omega)), (x_up_k (x_up_k h17 (by omega)) (by omega)), (x_up_k (x_up_k h18 (by omega)) (by omega)), by omega, by omega, by omega, by omega, by omega, by omega⟩⟩)
                              · skip
                                have c27 : (mbh (cN tx (q + rM tx sn q) (rD tx sn (q + rM tx sn q))) (rD tx sn (q + rM tx sn q)) (xs n0) (dg n0)) = false := bI_0 c27
                                have hbeh : mBeh xs dg n (cN tx (q + rM tx sn q) (rD tx sn (q + rM tx sn q))) (rD tx sn (q + rM tx sn q)) = false := by rw [hn1]; exact c27
                                refine x_aload_n F 6 dM_readsCode_278 rfl rfl ?_
                                refine x_iconst F (v := nI (4)) dM_readsCode_279 (by decide) ?_
                                refine x_iload F 2 dM_readsCode_280 rfl ?_
                                refine yVr (n := 2) (As := [.int (nI (4)), .int (nI (q + rM tx sn q))]) (ci := 6) F kmM_115 kiM_fails ksM_fails knM kcM_fails (by decide +kernel) dM_readsCode_282 (cM_fails l (nx) (x_up (x_up M (a + 4) (.inl (.int, 160, .inl (upd (ds) (120 + n) (nI (rM tx sn q)))))) (a + 3) (.inl (.long, 160, .inr (.inl (vp_updL (cd) (120 + n) (lN (cN tx (q + rM tx sn q) (rD tx sn (q + rM tx sn q))))))))) (a) th sg sn pr fk fp rws (vp_updL (cd) (120 + n) (lN (cN tx (q + rM tx sn q) (rD tx sn (q + rM tx sn q))))) (upd (ds) (120 + n) (nI (rM tx sn q))) wc wd nn nE nC nK nO ln lF lC lT lO fn fC fP ak ac pt ⟨(x_up_k (x_up_k h0 (by omega)) (by omega)), (x_up_k (x_up_k h1 (by omega)) (by omega)), (x_up_k (x_up_k h2 (by omega)) (by omega)), x_up_s, (x_up_k x_up_s (by omega)), (x_up_k (x_up_k h5 (by omega)) (by omega)), (x_up_k (x_up_k h6 (by omega)) (by omega)), (x_up_k (x_up_k h7 (by omega)) (by omega)), (x_up_k (x_up_k h8 (by omega)) (by omega)), (x_up_k (x_up_k h9 (by omega)) (by omega)), (x_up_k (x_up_k h10 (by omega)) (by omega)), (x_up_k (x_up_k h11 (by omega)) (by omega)), (x_up_k (x_up_k h12 (by omega)) (by omega)), (x_up_k (x_up_k h13 (by omega)) (by omega)), (x_up_k (x_up_k h14 (by omega)) (by omega)), (x_up_k (x_up_k h15 (by omega)) (by omega)), (x_up_k (x_up_k h16 (by omega)) (by omega)), (x_up_k (x_up_k h17 (by omega)) (by omega)), (x_up_k (x_up_k h18 (by omega)) (by omega)), by omega, by omega, by omega, by omega, by omega, by omega⟩ (nI (4)) (nI (q + rM tx sn q))) rfl (x_up_k (x_up_k h0 (by omega)) (by omega)) rfl rfl (Nat.le_of_ble_eq_true rfl) ⟨Nat.le_of_ble_eq_true rfl, Nat.le_of_ble_eq_true rfl⟩ ⟨Nat.le_of_ble_eq_true rfl, Nat.le_of_ble_eq_true rfl⟩ (fun r' n' M461 hp => ?_)
                                obtain ⟨hr', hn', hM461, hf461⟩ := hp
                                rw [hn', hr']
                                obtain ⟨v461_0, v461_1, v461_2, v461_3, v461_4, v461_5, v461_6, v461_7, v461_8, v461_9, v461_10, v461_11, v461_12, v461_13, v461_14, v461_15, v461_16, v461_17, v461_18, vb461_0, vb461_1, vb461_2, vb461_3, vb461_4, vb461_5⟩ := id hM461
                                show xW p l e ({ frames := 4, cells := 0, slots := 0, locals := 96 } : Room) s m args below meth c D xcl (x_A M nx) 8 (MQ below (x_Q D xcl (x_A M nx) (mcPost nx M a th sg sn pr fk fp rws cd ds wc wd nn nE nC nK nO ln lF lC lT lO fn fC fP ak ac pt n (rM tx sn q) (cN tx (q + rM tx sn q) (rD tx sn (q + rM tx sn q))) (mrc tx sn ds xs dg n q))) args s 0 0 (x_A M nx)) 0 0 (nx) M461 285 [(7, .int (nI (120 + j))), (6, .int (nI (rD tx sn (q + rM tx sn q)))), (5, .int (nI (q + rM tx sn q))), (4, .int (nI (rM tx sn q))), (3, .int (nI (120 + n))), (2, .int (nI (n))), (0, .ref (a)), (1, .int (nI (q)))] [.int (nI (0))]
                                refine x_if_eq F (tgt := 292) dM_readsCode_285 (by decide) (fun c28 => ?_) (fun c28 => ?_)
                                · skip
                                  have c28 : 0 = 0 := by
                                    exact (nI_eq (a := 0) (b := 0) (by omega) (by omega)).mp c28
                                  refine x_iconst F (v := nI (0)) dM_readsCode_292 (by decide) ?_
                                  exact x_zret F hr (by rfl) dM_readsCode_293 (by rw [show mrc tx sn ds xs dg n q = some (4, q + rM tx sn q) from by rw [mrc, if_neg (fun z => c1 z.1), if_neg h70, if_neg c4, if_neg (by omega), if_neg c6, if_neg (by omega), if_neg c9, if_neg (by rw [hbad]; decide), if_pos hbeh]]; exact ⟨rfl, fun b hb => (hf461 _ (by omega)).trans ((x_up_n (by omega)).trans ((x_up_n (by omega)).trans (rfl))), rfl, _, _, (fun i hi => ⟨updL_ne (by omega), upd_ne (by omega)⟩), hM461⟩)
                                · skip
                                  have c28 : 0 ≠ 0 := by
                                    have z : ¬ (0 = 0) := fun zz => c28 ((nI_eq (a := 0) (b := 0) (by omega) (by omega)).mpr zz)
                                    omega
                                  exact absurd c28 (by decide)
                          · skip
                            have c25 : (mbg (cN tx (q + rM tx sn q) (rD tx sn (q + rM tx sn q))) (rD tx sn (q + rM tx sn q)) (xs j) (dg j)) = false := bI_0 c25
                            have hla := mUp_la (by omega) hup
                            have hbad : mBad ds xs dg n (rM tx sn q) (cN tx (q + rM tx sn q) (rD tx sn (q + rM tx sn q))) (rD tx sn (q + rM tx sn q)) = true := by rw [mBad, if_neg (by omega), hla]; show (! mbg (cN tx (q + rM tx sn q) (rD tx sn (q + rM tx sn q))) (rD tx sn (q + rM tx sn q)) (xs j) (dg j)) = true; rw [c25]; rfl
                            refine x_aload_n F 6 dM_readsCode_246 rfl rfl ?_
                            refine x_iconst F (v := nI (3)) dM_readsCode_247 (by decide) ?_
                            refine x_iload F 2 dM_readsCode_248 rfl ?_
                            refine yVr (n := 2) (As := [.int (nI (3)), .int (nI (q + rM tx sn q))]) (ci := 6) F kmM_115 kiM_fails ksM_fails knM kcM_fails (by decide +kernel) dM_readsCode_250 (cM_fails l (nx) (x_up (x_up M (a + 4) (.inl (.int, 160, .inl (upd (ds) (120 + n) (nI (rM tx sn q)))))) (a + 3) (.inl (.long, 160, .inr (.inl (vp_updL (cd) (120 + n) (lN (cN tx (q + rM tx sn q) (rD tx sn (q + rM tx sn q))))))))) (a) th sg sn pr fk fp rws (vp_updL (cd) (120 + n) (lN (cN tx (q + rM tx sn q) (rD tx sn (q + rM tx sn q))))) (upd (ds) (120 + n) (nI (rM tx sn q))) wc wd nn nE nC nK nO ln lF lC lT lO fn fC fP ak ac pt ⟨(x_up_k (x_up_k h0 (by omega)) (by omega)), (x_up_k (x_up_k h1 (by omega)) (by omega)), (x_up_k (x_up_k h2 (by omega)) (by omega)), x_up_s, (x_up_k x_up_s (by omega)), (x_up_k (x_up_k h5 (by omega)) (by omega)), (x_up_k (x_up_k h6 (by omega)) (by omega)), (x_up_k (x_up_k h7 (by omega)) (by omega)), (x_up_k (x_up_k h8 (by omega)) (by omega)), (x_up_k (x_up_k h9 (by omega)) (by omega)), (x_up_k (x_up_k h10 (by omega)) (by omega)), (x_up_k (x_up_k h11 (by omega)) (by omega)), (x_up_k (x_up_k h12 (by omega)) (by omega)), (x_up_k (x_up_k h13 (by omega)) (by omega)), (x_up_k (x_up_k h14 (by omega)) (by omega)), (x_up_k (x_up_k h15 (by omega)) (by omega)), (x_up_k (x_up_k h16 (by omega)) (by omega)), (x_up_k (x_up_k h17 (by omega)) (by omega)), (x_up_k (x_up_k h18 (by omega)) (by omega)), by omega, by omega, by omega, by omega, by omega, by omega⟩ (nI (3)) (nI (q + rM tx sn q))) rfl (x_up_k (x_up_k h0 (by omega)) (by omega)) rfl rfl (Nat.le_of_ble_eq_true rfl) ⟨Nat.le_of_ble_eq_true rfl, Nat.le_of_ble_eq_true rfl⟩ ⟨Nat.le_of_ble_eq_true rfl, Nat.le_of_ble_eq_true rfl⟩ (fun r' n' M462 hp => ?_)
                            obtain ⟨hr', hn', hM462, hf462⟩ := hp
                            rw [hn', hr']
                            obtain ⟨v462_0, v462_1, v462_2, v462_3, v462_4, v462_5, v462_6, v462_7, v462_8, v462_9, v462_10, v462_11, v462_12, v462_13, v462_14, v462_15, v462_16, v462_17, v462_18, vb462_0, vb462_1, vb462_2, vb462_3, vb462_4, vb462_5⟩ := id hM462
                            show xW p l e ({ frames := 4, cells := 0, slots := 0, locals := 96 } : Room) s m args below meth c D xcl (x_A M nx) 8 (MQ below (x_Q D xcl (x_A M nx) (mcPost nx M a th sg sn pr fk fp rws cd ds wc wd nn nE nC nK nO ln lF lC lT lO fn fC fP ak ac pt n (rM tx sn q) (cN tx (q + rM tx sn q) (rD tx sn (q + rM tx sn q))) (mrc tx sn ds xs dg n q))) args s 0 0 (x_A M nx)) 0 0 (nx) M462 253 [(7, .int (nI (120 + j))), (6, .int (nI (rD tx sn (q + rM tx sn q)))), (5, .int (nI (q + rM tx sn q))), (4, .int (nI (rM tx sn q))), (3, .int (nI (120 + n))), (2, .int (nI (n))), (0, .ref (a)), (1, .int (nI (q)))] [.int (nI (0))]
                            exact x_zret F hr (by rfl) dM_readsCode_253 (by rw [show mrc tx sn ds xs dg n q = some (3, q + rM tx sn q) from by rw [mrc, if_neg (fun z => c1 z.1), if_neg h70, if_neg c4, if_neg (by omega), if_neg c6, if_neg (by omega), if_neg c9, if_pos hbad]]; exact ⟨rfl, fun b hb => (hf462 _ (by omega)).trans ((x_up_n (by omega)).trans ((x_up_n (by omega)).trans (rfl))), rfl, _, _, (fun i hi => ⟨updL_ne (by omega), upd_ne (by omega)⟩), hM462⟩)
                        · skip
                          have c24 : 120 + j < 0 := by
                            have z : ¬ (0 ≤ 120 + j) := fun zz => c24 ((nI_leI (a := 0) (b := 120 + j) (by omega) (by omega)).mpr zz)
                            omega
                          exact absurd c24 (by omega)
                    · skip
                      have c22 : rM tx sn q = 0 := by
                        exact (nI_eq (a := rM tx sn q) (b := 0) (by omega) (by omega)).mp c22
                      refine x_iload F 1 dM_readsCode_207 rfl ?_
                      refine x_iconst F (v := nI (2)) dM_readsCode_209 (by decide) ?_
                      refine x_icmp_ne F (tgt := 246) dM_readsCode_210 (by decide) (fun c29 => ?_) (fun c29 => ?_)
                      · skip
                        have c29 : rD tx sn (q + rM tx sn q) ≠ 2 := by
                          have z : ¬ (rD tx sn (q + rM tx sn q) = 2) := fun zz => c29 ((nI_eq (a := rD tx sn (q + rM tx sn q)) (b := 2) (by omega) (by omega)).mpr zz)
                          omega
                        have hbad : mBad ds xs dg n (rM tx sn q) (cN tx (q + rM tx sn q) (rD tx sn (q + rM tx sn q))) (rD tx sn (q + rM tx sn q)) = true := by rw [mBad, if_pos c22, decide_eq_false c29]; rfl
                        refine x_aload_n F 6 dM_readsCode_246 rfl rfl ?_
                        refine x_iconst F (v := nI (3)) dM_readsCode_247 (by decide) ?_
                        refine x_iload F 2 dM_readsCode_248 rfl ?_
                        refine yVr (n := 2) (As := [.int (nI (3)), .int (nI (q + rM tx sn q))]) (ci := 6) F kmM_115 kiM_fails ksM_fails knM kcM_fails (by decide +kernel) dM_readsCode_250 (cM_fails l (nx) (x_up (x_up M (a + 4) (.inl (.int, 160, .inl (upd (ds) (120 + n) (nI (rM tx sn q)))))) (a + 3) (.inl (.long, 160, .inr (.inl (vp_updL (cd) (120 + n) (lN (cN tx (q + rM tx sn q) (rD tx sn (q + rM tx sn q))))))))) (a) th sg sn pr fk fp rws (vp_updL (cd) (120 + n) (lN (cN tx (q + rM tx sn q) (rD tx sn (q + rM tx sn q))))) (upd (ds) (120 + n) (nI (rM tx sn q))) wc wd nn nE nC nK nO ln lF lC lT lO fn fC fP ak ac pt ⟨(x_up_k (x_up_k h0 (by omega)) (by omega)), (x_up_k (x_up_k h1 (by omega)) (by omega)), (x_up_k (x_up_k h2 (by omega)) (by omega)), x_up_s, (x_up_k x_up_s (by omega)), (x_up_k (x_up_k h5 (by omega)) (by omega)), (x_up_k (x_up_k h6 (by omega)) (by omega)), (x_up_k (x_up_k h7 (by omega)) (by omega)), (x_up_k (x_up_k h8 (by omega)) (by omega)), (x_up_k (x_up_k h9 (by omega)) (by omega)), (x_up_k (x_up_k h10 (by omega)) (by omega)), (x_up_k (x_up_k h11 (by omega)) (by omega)), (x_up_k (x_up_k h12 (by omega)) (by omega)), (x_up_k (x_up_k h13 (by omega)) (by omega)), (x_up_k (x_up_k h14 (by omega)) (by omega)), (x_up_k (x_up_k h15 (by omega)) (by omega)), (x_up_k (x_up_k h16 (by omega)) (by omega)), (x_up_k (x_up_k h17 (by omega)) (by omega)), (x_up_k (x_up_k h18 (by omega)) (by omega)), by omega, by omega, by omega, by omega, by omega, by omega⟩ (nI (3)) (nI (q + rM tx sn q))) rfl (x_up_k (x_up_k h0 (by omega)) (by omega)) rfl rfl (Nat.le_of_ble_eq_true rfl) ⟨Nat.le_of_ble_eq_true rfl, Nat.le_of_ble_eq_true rfl⟩ ⟨Nat.le_of_ble_eq_true rfl, Nat.le_of_ble_eq_true rfl⟩ (fun r' n' M463 hp => ?_)
                        obtain ⟨hr', hn', hM463, hf463⟩ := hp
                        rw [hn', hr']
                        obtain ⟨v463_0, v463_1, v463_2, v463_3, v463_4, v463_5, v463_6, v463_7, v463_8, v463_9, v463_10, v463_11, v463_12, v463_13, v463_14, v463_15, v463_16, v463_17, v463_18, vb463_0, vb463_1, vb463_2, vb463_3, vb463_4, vb463_5⟩ := id hM463
                        show xW p l e ({ frames := 4, cells := 0, slots := 0, locals := 96 } : Room) s m args below meth c D xcl (x_A M nx) 8 (MQ below (x_Q D xcl (x_A M nx) (mcPost nx M a th sg sn pr fk fp rws cd ds wc wd nn nE nC nK nO ln lF lC lT lO fn fC fP ak ac pt n (rM tx sn q) (cN tx (q + rM tx sn q) (rD tx sn (q + rM tx sn q))) (mrc tx sn ds xs dg n q))) args s 0 0 (x_A M nx)) 0 0 (nx) M463 253 [(7, .int (nI (120 + j))), (6, .int (nI (rD tx sn (q + rM tx sn q)))), (5, .int (nI (q + rM tx sn q))), (4, .int (nI (rM tx sn q))), (3, .int (nI (120 + n))), (2, .int (nI (n))), (0, .ref (a)), (1, .int (nI (q)))] [.int (nI (0))]
                        exact x_zret F hr (by rfl) dM_readsCode_253 (by rw [show mrc tx sn ds xs dg n q = some (3, q + rM tx sn q) from by rw [mrc, if_neg (fun z => c1 z.1), if_neg h70, if_neg c4, if_neg (by omega), if_neg c6, if_neg (by omega), if_neg c9, if_pos hbad]]; exact ⟨rfl, fun b hb => (hf463 _ (by omega)).trans ((x_up_n (by omega)).trans ((x_up_n (by omega)).trans (rfl))), rfl, _, _, (fun i hi => ⟨updL_ne (by omega), upd_ne (by omega)⟩), hM463⟩)
                      · skip
                        have c29 : rD tx sn (q + rM tx sn q) = 2 := by
                          exact (nI_eq (a := rD tx sn (q + rM tx sn q)) (b := 2) (by omega) (by omega)).mp c29
                        refine x_iload F 3 dM_readsCode_213 rfl ?_
                        refine x_if_le F (tgt := 254) dM_readsCode_215 (by decide) (fun c30 => ?_) (fun c30 => ?_)
                        · skip
                          have c30 : rM tx sn q ≤ 0 := by
                            exact (nI_leI (a := rM tx sn q) (b := 0) (by omega) (by omega)).mp c30
                          have hbad : mBad ds xs dg n (rM tx sn q) (cN tx (q + rM tx sn q) (rD tx sn (q + rM tx sn q))) (rD tx sn (q + rM tx sn q)) = false := by rw [mBad, if_pos (by omega), decide_eq_true (by omega)]; rfl
                          refine x_iload_n F 5 dM_readsCode_254 rfl rfl ?_
                          refine x_if_eq F (tgt := 288) dM_readsCode_255 (by decide) (fun c31 => ?_) (fun c31 => ?_)
                          · skip
                            have c31 : n = 0 := by
                              exact (nI_eq (a := n) (b := 0) (by omega) (by omega)).mp c31
                            exact absurd c31 (by omega)
                          · skip
                            have c31 : n ≠ 0 := by
                              have z : ¬ (n = 0) := fun zz => c31 ((nI_eq (a := n) (b := 0) (by omega) (by omega)).mpr zz)
                              omega
                            obtain ⟨n0, hn1⟩ : ∃ n0, n = n0 + 1 := ⟨n - 1, by omega⟩
                            refine x_aload_n F 6 dM_readsCode_258 rfl rfl ?_
                            refine x_get (ci := 6) F 7 (x_in inM) rfl (by decide) (x_m kfM_20) dM_readsCode_259 (x_up_k (x_up_k h0 (by omega)) (by omega)) rfl ?_
                            refine x_iload_n F 4 dM_readsCode_262 rfl rfl ?_
                            refine x_lald F dM_readsCode_263 x_up_s (pk_in (120 + n) (160) (by omega)) ?_
                            refine xW.tol (lN (cN tx (q + rM tx sn q) (rD tx sn (q + rM tx sn q)))) (by rw [nI_clamp (by omega)]; exact vp_us) ?_
                            refine x_aload_n F 6 dM_readsCode_264 rfl rfl ?_
                            refine x_get (ci := 6) F 7 (x_in inM) rfl (by decide) (x_m kfM_20) dM_readsCode_265 (x_up_k (x_up_k h0 (by omega)) (by omega)) rfl ?_
                            refine x_iload_n F 4 dM_readsCode_268 rfl rfl ?_
                            refine x_iconst F (v := nI (1)) dM_readsCode_269 (by decide) ?_
                            refine x_isub F dM_readsCode_270 ?_
                            refine xW.toi (nI (120 + n0)) (by rw [hn1]; exact nI_pred (120 + n0)) ?_
                            refine x_lald F dM_readsCode_271 x_up_s (pk_in (120 + n0) (160) (by omega)) ?_
                            refine xW.tol (lN (xs n0)) (by rw [nI_clamp (by omega)]; exact (updL_ne (by omega)).trans (hcd n0 (by omega)).1) ?_
                            refine yS (n := 2) (As := [.long (lN (cN tx (q + rM tx sn q) (rD tx sn (q + rM tx sn q)))), .long (lN (xs n0))]) F kmM_126 ktM_isBehind knM kcM_isBehind (by decide +kernel) dM_readsCode_272 (cM_isBehind l (nx) (x_up (x_up M (a + 4) (.inl (.int, 160, .inl (upd (ds) (120 + n) (nI (rM tx sn q)))))) (a + 3) (.inl (.long, 160, .inr (.inl (vp_updL (cd) (120 + n) (lN (cN tx (q + rM tx sn q) (rD tx sn (q + rM tx sn q))))))))) (cN tx (q + rM tx sn q) (rD tx sn (q + rM tx sn q))) (rD tx sn (q + rM tx sn q)) (xs n0) (dg n0) hX10 (hcd n0 (by omega)).2) rfl rfl (Nat.le_of_ble_eq_true rfl) ⟨Nat.le_of_ble_eq_true rfl, Nat.le_of_ble_eq_true rfl⟩ ⟨Nat.le_of_ble_eq_true rfl, Nat.le_of_ble_eq_true rfl⟩ ?_
                            refine x_if_ne F (tgt := 288) dM_readsCode_275 (by decide) (fun c32 => ?_) (fun c32 => ?_)
                            · skip
                              have c32 : (mbh (cN tx (q + rM tx sn q) (rD tx sn (q + rM tx sn q))) (rD tx sn (q + rM tx sn q)) (xs n0) (dg n0)) = true := bI_1 c32
                              have hbeh : mBeh xs dg n (cN tx (q + rM tx sn q) (rD tx sn (q + rM tx sn q))) (rD tx sn (q + rM tx sn q)) = true := by rw [hn1]; exact c32
                              refine x_iconst F (v := nI (1)) dM_readsCode_288 (by decide) ?_
                              refine x_goto F (tgt := 293) dM_readsCode_289 (by decide) ?_
                              exact x_zret F hr (by rfl) dM_readsCode_293 (by rw [show mrc tx sn ds xs dg n q = none from by rw [mrc, if_neg (fun z => c1 z.1), if_neg h70, if_neg c4, if_neg (by omega), if_neg c6, if_neg (by omega), if_neg c9, if_neg (by rw [hbad]; decide), if_neg (by rw [hbeh]; decide)]]; exact ⟨rfl, fun b hb => (x_up_n (by omega)).trans ((x_up_n (by omega)).trans (rfl)), rfl, ⟨(x_up_k (x_up_k h0 (by omega)) (by omega)), (x_up_k (x_up_k h1 (by omega)) (by omega)), (x_up_k (x_up_k h2 (by omega)) (by omega)), x_up_s, (x_up_k x_up_s (by omega)), (x_up_k (x_up_k h5 (by omega)) (by omega)), (x_up_k (x_up_k h6 (by omega)) (by omega)), (x_up_k (x_up_k h7 (by omega)) (by omega)), (x_up_k (x_up_k h8 (by omega)) (by omega)), (x_up_k (x_up_k h9 (by omega)) (by omega)), (x_up_k (x_up_k h10 (by omega)) (by omega)), (x_up_k (x_up_k h11 (by omega)) (by omega)), (x_up_k (x_up_k h12 (by omega)) (by omega)), (x_up_k (x_up_k h13 (by omega)) (by omega)), (x_up_k (x_up_k h14 (by omega)) (by omega)), (x_up_k (x_up_k h15 (by omega)) (by omega)), (x_up_k (x_up_k h16 (by omega)) (by omega)), (x_up_k (x_up_k h17 (by omega)) (by omega)), (x_up_k (x_up_k h18 (by omega)) (by omega)), by omega, by omega, by omega, by omega, by omega, by omega⟩⟩)
                            · skip
                              have c32 : (mbh (cN tx (q + rM tx sn q) (rD tx sn (q + rM tx sn q))) (rD tx sn (q + rM tx sn q)) (xs n0) (dg n0)) = false := bI_0 c32
                              have hbeh : mBeh xs dg n (cN tx (q + rM tx sn q) (rD tx sn (q + rM tx sn q))) (rD tx sn (q + rM tx sn q)) = false := by rw [hn1]; exact c32
                              refine x_aload_n F 6 dM_readsCode_278 rfl rfl ?_
                              refine x_iconst F (v := nI (4)) dM_readsCode_279 (by decide) ?_
                              refine x_iload F 2 dM_readsCode_280 rfl ?_
                              refine yVr (n := 2) (As := [.int (nI (4)), .int (nI (q + rM tx sn q))]) (ci := 6) F kmM_115 kiM_fails ksM_fails knM kcM_fails (by decide +kernel) dM_readsCode_282 (cM_fails l (nx) (x_up (x_up M (a + 4) (.inl (.int, 160, .inl (upd (ds) (120 + n) (nI (rM tx sn q)))))) (a + 3) (.inl (.long, 160, .inr (.inl (vp_updL (cd) (120 + n) (lN (cN tx (q + rM tx sn q) (rD tx sn (q + rM tx sn q))))))))) (a) th sg sn pr fk fp rws (vp_updL (cd) (120 + n) (lN (cN tx (q + rM tx sn q) (rD tx sn (q + rM tx sn q))))) (upd (ds) (120 + n) (nI (rM tx sn q))) wc wd nn nE nC nK nO ln lF lC lT lO fn fC fP ak ac pt ⟨(x_up_k (x_up_k h0 (by omega)) (by omega)), (x_up_k (x_up_k h1 (by omega)) (by omega)), (x_up_k (x_up_k h2 (by omega)) (by omega)), x_up_s, (x_up_k x_up_s (by omega)), (x_up_k (x_up_k h5 (by omega)) (by omega)), (x_up_k (x_up_k h6 (by omega)) (by omega)), (x_up_k (x_up_k h7 (by omega)) (by omega)), (x_up_k (x_up_k h8 (by omega)) (by omega)), (x_up_k (x_up_k h9 (by omega)) (by omega)), (x_up_k (x_up_k h10 (by omega)) (by omega)), (x_up_k (x_up_k h11 (by omega)) (by omega)), (x_up_k (x_up_k h12 (by omega)) (by omega)), (x_up_k (x_up_k h13 (by omega)) (by omega)), (x_up_k (x_up_k h14 (by omega)) (by omega)), (x_up_k (x_up_k h15 (by omega)) (by omega)), (x_up_k (x_up_k h16 (by omega)) (by omega)), (x_up_k (x_up_k h17 (by omega)) (by omega)), (x_up_k (x_up_k h18 (by omega)) (by omega)), by omega, by omega, by omega, by omega, by omega, by omega⟩ (nI (4)) (nI (q + rM tx sn q))) rfl (x_up_k (x_up_k h0 (by omega)) (by omega)) rfl rfl (Nat.le_of_ble_eq_true rfl) ⟨Nat.le_of_ble_eq_true rfl, Nat.le_of_ble_eq_true rfl⟩ ⟨Nat.le_of_ble_eq_true rfl, Nat.le_of_ble_eq_true rfl⟩ (fun r' n' M464 hp => ?_)
                              obtain ⟨hr', hn', hM464, hf464⟩ := hp
                              rw [hn', hr']
                              obtain ⟨v464_0, v464_1, v464_2, v464_3, v464_4, v464_5, v464_6, v464_7, v464_8, v464_9, v464_10, v464_11, v464_12, v464_13, v464_14, v464_15, v464_16, v464_17, v464_18, vb464_0, vb464_1, vb464_2, vb464_3, vb464_4, vb464_5⟩ := id hM464
                              show xW p l e ({ frames := 4, cells := 0, slots := 0, locals := 96 } : Room) s m args below meth c D xcl (x_A M nx) 8 (MQ below (x_Q D xcl (x_A M nx) (mcPost nx M a th sg sn pr fk fp rws cd ds wc wd nn nE nC nK nO ln lF lC lT lO fn fC fP ak ac pt n (rM tx sn q) (cN tx (q + rM tx sn q) (rD tx sn (q + rM tx sn q))) (mrc tx sn ds xs dg n q))) args s 0 0 (x_A M nx)) 0 0 (nx) M464 285 [(7, .int (nI (120 + j))), (6, .int (nI (rD tx sn (q + rM tx sn q)))), (5, .int (nI (q + rM tx sn q))), (4, .int (nI (rM tx sn q))), (3, .int (nI (120 + n))), (2, .int (nI (n))), (0, .ref (a)), (1, .int (nI (q)))] [.int (nI (0))]
                              refine x_if_eq F (tgt := 292) dM_readsCode_285 (by decide) (fun c33 => ?_) (fun c33 => ?_)
                              · skip
                                have c33 : 0 = 0 := by
                                  exact (nI_eq (a := 0) (b := 0) (by omega) (by omega)).mp c33
                                refine x_iconst F (v := nI (0)) dM_readsCode_292 (by decide) ?_
                                exact x_zret F hr (by rfl) dM_readsCode_293 (by rw [show mrc tx sn ds xs dg n q = some (4, q + rM tx sn q) from by rw [mrc, if_neg (fun z => c1 z.1), if_neg h70, if_neg c4, if_neg (by omega), if_neg c6, if_neg (by omega), if_neg c9, if_neg (by rw [hbad]; decide), if_pos hbeh]]; exact ⟨rfl, fun b hb => (hf464 _ (by omega)).trans ((x_up_n (by omega)).trans ((x_up_n (by omega)).trans (rfl))), rfl, _, _, (fun i hi => ⟨updL_ne (by omega), upd_ne (by omega)⟩), hM464⟩)
                              · skip
                                have c33 : 0 ≠ 0 := by
                                  have z : ¬ (0 = 0) := fun zz => c33 ((nI_eq (a := 0) (b := 0) (by omega) (by omega)).mpr zz)
                                  omega
                                exact absurd c33 (by decide)
                        · skip
                          have c30 : 0 < rM tx sn q := by
                            have z : ¬ (rM tx sn q ≤ 0) := fun zz => c30 ((nI_leI (a := rM tx sn q) (b := 0) (by omega) (by omega)).mpr zz)
                            omega
                          exact absurd c30 (by omega)
                · skip
                  have c9 : (rD tx sn (q + rM tx sn q)) % 2 = 1 := by
                    exact (nI_eq (a := (rD tx sn (q + rM tx sn q)) % 2) (b := 1) (by omega) (by omega)).mp c9
                  refine x_aload_n F 5 dM_readsCode_145 rfl rfl ?_
                  refine x_iconst F (v := nI (1)) dM_readsCode_146 (by decide) ?_
                  refine x_iload F 0 dM_readsCode_147 rfl ?_
                  refine x_bipush F (v := nI (10)) dM_readsCode_149 (by decide) ?_
                  refine x_icmp_le F (tgt := 162) dM_readsCode_151 (by decide) (fun c34 => ?_) (fun c34 => ?_)
                  · skip
                    have c34 : rD tx sn (q + rM tx sn q) ≤ 10 := by
                      exact (nI_leI (a := rD tx sn (q + rM tx sn q)) (b := 10) (by omega) (by omega)).mp c34
                    refine x_iload F 1 dM_readsCode_162 rfl ?_
                    refine x_iload F 0 dM_readsCode_164 rfl ?_
                    refine x_iadd F dM_readsCode_166 ?_
                    refine xW.toi (nI (q + rM tx sn q + rD tx sn (q + rM tx sn q))) (nI_add _ _) ?_
                    refine yVr (n := 2) (As := [.int (nI (1)), .int (nI (q + rM tx sn q + rD tx sn (q + rM tx sn q)))]) (ci := 6) F kmM_115 kiM_fails ksM_fails knM kcM_fails (by decide +kernel) dM_readsCode_167 (cM_fails l (nx) M (a) th sg sn pr fk fp rws cd ds wc wd nn nE nC nK nO ln lF lC lT lO fn fC fP ak ac pt hT (nI (1)) (nI (q + rM tx sn q + rD tx sn (q + rM tx sn q)))) rfl h0 rfl rfl (Nat.le_of_ble_eq_true rfl) ⟨Nat.le_of_ble_eq_true rfl, Nat.le_of_ble_eq_true rfl⟩ ⟨Nat.le_of_ble_eq_true rfl, Nat.le_of_ble_eq_true rfl⟩ (fun r' n' M465 hp => ?_)
                    obtain ⟨hr', hn', hM465, hf465⟩ := hp
                    rw [hn', hr']
                    obtain ⟨v465_0, v465_1, v465_2, v465_3, v465_4, v465_5, v465_6, v465_7, v465_8, v465_9, v465_10, v465_11, v465_12, v465_13, v465_14, v465_15, v465_16, v465_17, v465_18, vb465_0, vb465_1, vb465_2, vb465_3, vb465_4, vb465_5⟩ := id hM465
                    show xW p l e ({ frames := 4, cells := 0, slots := 0, locals := 96 } : Room) s m args below meth c D xcl (x_A M nx) 8 (MQ below (x_Q D xcl (x_A M nx) (mcPost nx M a th sg sn pr fk fp rws cd ds wc wd nn nE nC nK nO ln lF lC lT lO fn fC fP ak ac pt n (rM tx sn q) (cN tx (q + rM tx sn q) (rD tx sn (q + rM tx sn q))) (mrc tx sn ds xs dg n q))) args s 0 0 (x_A M nx)) 0 0 (nx) M465 170 [(6, .int (nI (rD tx sn (q + rM tx sn q)))), (5, .int (nI (q + rM tx sn q))), (4, .int (nI (rM tx sn q))), (3, .int (nI (120 + n))), (2, .int (nI (n))), (0, .ref (a)), (1, .int (nI (q)))] [.int (nI (0))]
                    exact x_zret F hr (by rfl) dM_readsCode_170 (by rw [show mrc tx sn ds xs dg n q = some (1, q + rM tx sn q + rD tx sn (q + rM tx sn q)) from by rw [mrc, if_neg (fun z => c1 z.1), if_neg h70, if_neg c4, if_neg (by omega), if_neg c6, if_neg (by omega), if_pos c9]]; exact ⟨rfl, fun b hb => (hf465 _ (by omega)).trans (rfl), rfl, _, _, (fun i hi => ⟨rfl, rfl⟩), hM465⟩)
                  · skip
                    have c34 : 10 < rD tx sn (q + rM tx sn q) := by
                      have z : ¬ (rD tx sn (q + rM tx sn q) ≤ 10) := fun zz => c34 ((nI_leI (a := rD tx sn (q + rM tx sn q)) (b := 10) (by omega) (by omega)).mpr zz)
                      omega
                    exact absurd c34 (by omega)
            · skip
              have c6 : rD tx sn (q + rM tx sn q) = 0 := by
                exact (nI_eq (a := rD tx sn (q + rM tx sn q)) (b := 0) (by omega) (by omega)).mp c6
              refine x_aload_n F 5 dM_readsCode_122 rfl rfl ?_
              refine x_iconst F (v := nI (1)) dM_readsCode_123 (by decide) ?_
              refine x_iload F 1 dM_readsCode_124 rfl ?_
              refine yVr (n := 2) (As := [.int (nI (1)), .int (nI (q + rM tx sn q))]) (ci := 6) F kmM_115 kiM_fails ksM_fails knM kcM_fails (by decide +kernel) dM_readsCode_126 (cM_fails l (nx) M (a) th sg sn pr fk fp rws cd ds wc wd nn nE nC nK nO ln lF lC lT lO fn fC fP ak ac pt hT (nI (1)) (nI (q + rM tx sn q))) rfl h0 rfl rfl (Nat.le_of_ble_eq_true rfl) ⟨Nat.le_of_ble_eq_true rfl, Nat.le_of_ble_eq_true rfl⟩ ⟨Nat.le_of_ble_eq_true rfl, Nat.le_of_ble_eq_true rfl⟩ (fun r' n' M466 hp => ?_)
              obtain ⟨hr', hn', hM466, hf466⟩ := hp
              rw [hn', hr']
              obtain ⟨v466_0, v466_1, v466_2, v466_3, v466_4, v466_5, v466_6, v466_7, v466_8, v466_9, v466_10, v466_11, v466_12, v466_13, v466_14, v466_15, v466_16, v466_17, v466_18, vb466_0, vb466_1, vb466_2, vb466_3, vb466_4, vb466_5⟩ := id hM466
              show xW p l e ({ frames := 4, cells := 0, slots := 0, locals := 96 } : Room) s m args below meth c D xcl (x_A M nx) 8 (MQ below (x_Q D xcl (x_A M nx) (mcPost nx M a th sg sn pr fk fp rws cd ds wc wd nn nE nC nK nO ln lF lC lT lO fn fC fP ak ac pt n (rM tx sn q) (cN tx (q + rM tx sn q) (rD tx sn (q + rM tx sn q))) (mrc tx sn ds xs dg n q))) args s 0 0 (x_A M nx)) 0 0 (nx) M466 129 [(6, .int (nI (rD tx sn (q + rM tx sn q)))), (5, .int (nI (q + rM tx sn q))), (4, .int (nI (rM tx sn q))), (3, .int (nI (120 + n))), (2, .int (nI (n))), (0, .ref (a)), (1, .int (nI (q)))] [.int (nI (0))]
              exact x_zret F hr (by rfl) dM_readsCode_129 (by rw [show mrc tx sn ds xs dg n q = some (1, q + rM tx sn q) from by rw [mrc, if_neg (fun z => c1 z.1), if_neg h70, if_neg c4, if_neg (by omega), if_pos c6]]; exact ⟨rfl, fun b hb => (hf466 _ (by omega)).trans (rfl), rfl, _, _, (fun i hi => ⟨rfl, rfl⟩), hM466⟩)
          · skip
            have c5 : 4 < rM tx sn q := by
              have z : ¬ (rM tx sn q ≤ 4) := fun zz => c5 ((nI_leI (a := rM tx sn q) (b := 4) (by omega) (by omega)).mpr zz)
              omega
            refine x_aload_n F 4 dM_readsCode_99 rfl rfl ?_
            refine x_iconst F (v := nI (1)) dM_readsCode_100 (by decide) ?_
            refine x_iload_n F 5 dM_readsCode_101 rfl rfl ?_
            refine x_iconst F (v := nI (4)) dM_readsCode_102 (by decide) ?_
            refine x_iadd F dM_readsCode_103 ?_
            refine xW.toi (nI (q + 4)) (nI_add _ _) ?_
            refine yVr (n := 2) (As := [.int (nI (1)), .int (nI (q + 4))]) (ci := 6) F kmM_115 kiM_fails ksM_fails knM kcM_fails (by decide +kernel) dM_readsCode_104 (cM_fails l (nx) M (a) th sg sn pr fk fp rws cd ds wc wd nn nE nC nK nO ln lF lC lT lO fn fC fP ak ac pt hT (nI (1)) (nI (q + 4))) rfl h0 rfl rfl (Nat.le_of_ble_eq_true rfl) ⟨Nat.le_of_ble_eq_true rfl, Nat.le_of_ble_eq_true rfl⟩ ⟨Nat.le_of_ble_eq_true rfl, Nat.le_of_ble_eq_true rfl⟩ (fun r' n' M467 hp => ?_)
            obtain ⟨hr', hn', hM467, hf467⟩ := hp
            rw [hn', hr']
            obtain ⟨v467_0, v467_1, v467_2, v467_3, v467_4, v467_5, v467_6, v467_7, v467_8, v467_9, v467_10, v467_11, v467_12, v467_13, v467_14, v467_15, v467_16, v467_17, v467_18, vb467_0, vb467_1, vb467_2, vb467_3, vb467_4, vb467_5⟩ := id hM467
            show xW p l e ({ frames := 4, cells := 0, slots := 0, locals := 96 } : Room) s m args below meth c D xcl (x_A M nx) 8 (MQ below (x_Q D xcl (x_A M nx) (mcPost nx M a th sg sn pr fk fp rws cd ds wc wd nn nE nC nK nO ln lF lC lT lO fn fC fP ak ac pt n (rM tx sn q) (cN tx (q + rM tx sn q) (rD tx sn (q + rM tx sn q))) (mrc tx sn ds xs dg n q))) args s 0 0 (x_A M nx)) 0 0 (nx) M467 107 [(5, .int (nI (q + rM tx sn q))), (4, .int (nI (rM tx sn q))), (3, .int (nI (120 + n))), (2, .int (nI (n))), (0, .ref (a)), (1, .int (nI (q)))] [.int (nI (0))]
            exact x_zret F hr (by rfl) dM_readsCode_107 (by rw [show mrc tx sn ds xs dg n q = some (1, q + 4) from by rw [mrc, if_neg (fun z => c1 z.1), if_neg h70, if_neg c4, if_pos c5]]; exact ⟨rfl, fun b hb => (hf467 _ (by omega)).trans (rfl), rfl, _, _, (fun i hi => ⟨rfl, rfl⟩), hM467⟩)
        · skip
          have c4 : n = 40 := by
            exact (nI_eq (a := n) (b := 40) (by omega) (by omega)).mp c4
          refine x_aload_n F 4 dM_readsCode_86 rfl rfl ?_
          refine x_iconst F (v := nI (5)) dM_readsCode_87 (by decide) ?_
          refine x_iload_n F 5 dM_readsCode_88 rfl rfl ?_
          refine yVr (n := 2) (As := [.int (nI (5)), .int (nI (q))]) (ci := 6) F kmM_115 kiM_fails ksM_fails knM kcM_fails (by decide +kernel) dM_readsCode_89 (cM_fails l (nx) M (a) th sg sn pr fk fp rws cd ds wc wd nn nE nC nK nO ln lF lC lT lO fn fC fP ak ac pt hT (nI (5)) (nI (q))) rfl h0 rfl rfl (Nat.le_of_ble_eq_true rfl) ⟨Nat.le_of_ble_eq_true rfl, Nat.le_of_ble_eq_true rfl⟩ ⟨Nat.le_of_ble_eq_true rfl, Nat.le_of_ble_eq_true rfl⟩ (fun r' n' M468 hp => ?_)
          obtain ⟨hr', hn', hM468, hf468⟩ := hp
          rw [hn', hr']
          obtain ⟨v468_0, v468_1, v468_2, v468_3, v468_4, v468_5, v468_6, v468_7, v468_8, v468_9, v468_10, v468_11, v468_12, v468_13, v468_14, v468_15, v468_16, v468_17, v468_18, vb468_0, vb468_1, vb468_2, vb468_3, vb468_4, vb468_5⟩ := id hM468
          show xW p l e ({ frames := 4, cells := 0, slots := 0, locals := 96 } : Room) s m args below meth c D xcl (x_A M nx) 8 (MQ below (x_Q D xcl (x_A M nx) (mcPost nx M a th sg sn pr fk fp rws cd ds wc wd nn nE nC nK nO ln lF lC lT lO fn fC fP ak ac pt n (rM tx sn q) (cN tx (q + rM tx sn q) (rD tx sn (q + rM tx sn q))) (mrc tx sn ds xs dg n q))) args s 0 0 (x_A M nx)) 0 0 (nx) M468 92 [(5, .int (nI (q + rM tx sn q))), (4, .int (nI (rM tx sn q))), (3, .int (nI (120 + n))), (2, .int (nI (n))), (0, .ref (a)), (1, .int (nI (q)))] [.int (nI (0))]
          exact x_zret F hr (by rfl) dM_readsCode_92 (by rw [show mrc tx sn ds xs dg n q = some (5, q) from by rw [mrc, if_neg (fun z => c1 z.1), if_neg h70, if_pos c4]]; exact ⟨rfl, fun b hb => (hf468 _ (by omega)).trans (rfl), rfl, _, _, (fun i hi => ⟨rfl, rfl⟩), hM468⟩)
      · skip
        have h70 : mPre n ds < nI (rM tx sn q) := Int32.not_le.mp c3
        refine x_aload_n F 4 dM_readsCode_73 rfl rfl ?_
        refine x_iconst F (v := nI (2)) dM_readsCode_74 (by decide) ?_
        refine x_iload_n F 5 dM_readsCode_75 rfl rfl ?_
        refine yVr (n := 2) (As := [.int (nI (2)), .int (nI (q))]) (ci := 6) F kmM_115 kiM_fails ksM_fails knM kcM_fails (by decide +kernel) dM_readsCode_76 (cM_fails l (nx) M (a) th sg sn pr fk fp rws cd ds wc wd nn nE nC nK nO ln lF lC lT lO fn fC fP ak ac pt hT (nI (2)) (nI (q))) rfl h0 rfl rfl (Nat.le_of_ble_eq_true rfl) ⟨Nat.le_of_ble_eq_true rfl, Nat.le_of_ble_eq_true rfl⟩ ⟨Nat.le_of_ble_eq_true rfl, Nat.le_of_ble_eq_true rfl⟩ (fun r' n' M469 hp => ?_)
        obtain ⟨hr', hn', hM469, hf469⟩ := hp
        rw [hn', hr']
        obtain ⟨v469_0, v469_1, v469_2, v469_3, v469_4, v469_5, v469_6, v469_7, v469_8, v469_9, v469_10, v469_11, v469_12, v469_13, v469_14, v469_15, v469_16, v469_17, v469_18, vb469_0, vb469_1, vb469_2, vb469_3, vb469_4, vb469_5⟩ := id hM469
        show xW p l e ({ frames := 4, cells := 0, slots := 0, locals := 96 } : Room) s m args below meth c D xcl (x_A M nx) 8 (MQ below (x_Q D xcl (x_A M nx) (mcPost nx M a th sg sn pr fk fp rws cd ds wc wd nn nE nC nK nO ln lF lC lT lO fn fC fP ak ac pt n (rM tx sn q) (cN tx (q + rM tx sn q) (rD tx sn (q + rM tx sn q))) (mrc tx sn ds xs dg n q))) args s 0 0 (x_A M nx)) 0 0 (nx) M469 79 [(5, .int (nI (q + rM tx sn q))), (4, .int (nI (rM tx sn q))), (3, .int (nI (120 + n))), (2, .int (nI (n))), (0, .ref (a)), (1, .int (nI (q)))] [.int (nI (0))]
        exact x_zret F hr (by rfl) dM_readsCode_79 (by rw [show mrc tx sn ds xs dg n q = some (2, q) from by rw [mrc, if_neg (fun z => c1 z.1), if_pos h70]]; exact ⟨rfl, fun b hb => (hf469 _ (by omega)).trans (rfl), rfl, _, _, (fun i hi => ⟨rfl, rfl⟩), hM469⟩)
    · skip
      have c2 : n = 0 := by
        exact (nI_eq (a := n) (b := 0) (by omega) (by omega)).mp c2
      refine x_iconst F (v := nI (0)) dM_readsCode_56 (by decide) ?_
      refine x_goto F (tgt := 70) dM_readsCode_57 (by decide) ?_
      refine xW.toi (mPre n ds) (by rw [c2]; rfl) ?_
      refine x_icmp_le F (tgt := 80) dM_readsCode_70 (by decide) (fun c35 => ?_) (fun c35 => ?_)
      · skip
        have h70 : ¬ mPre n ds < nI (rM tx sn q) := Int32.not_lt.mpr c35
        refine x_iload_n F 3 dM_readsCode_80 rfl rfl ?_
        refine x_bipush F (v := nI (40)) dM_readsCode_81 (by decide) ?_
        refine x_icmp_ne F (tgt := 93) dM_readsCode_83 (by decide) (fun c36 => ?_) (fun c36 => ?_)
        · skip
          have c36 : n ≠ 40 := by
            have z : ¬ (n = 40) := fun zz => c36 ((nI_eq (a := n) (b := 40) (by omega) (by omega)).mpr zz)
            omega
          refine x_iload F 1 dM_readsCode_93 rfl ?_
          refine x_iconst F (v := nI (4)) dM_readsCode_95 (by decide) ?_
          refine x_icmp_le F (tgt := 108) dM_readsCode_96 (by decide) (fun c37 => ?_) (fun c37 => ?_)
          · skip
            have c37 : rM tx sn q ≤ 4 := by
              exact (nI_leI (a := rM tx sn q) (b := 4) (by omega) (by omega)).mp c37
            refine x_aload_n F 4 dM_readsCode_108 rfl rfl ?_
            refine x_iload F 0 dM_readsCode_109 rfl ?_
            refine x_iconst F (v := nI (1)) dM_readsCode_111 (by decide) ?_
            refine yV (n := 2) (As := [.int (nI (q + rM tx sn q)), .int (nI (1))]) (ci := 6) F kmM_111 kiM_run ksM_run knM kcM_run (by decide +kernel) dM_readsCode_112 (cM_run1 l (nx) M (a) th sg sn pr fk fp rws cd ds wc wd nn nE nC nK nO ln lF lC lT lO fn fC fP ak ac pt hT tx hX (q + rM tx sn q) (by omega)) rfl h0 rfl rfl (Nat.le_of_ble_eq_true rfl) ⟨Nat.le_of_ble_eq_true rfl, Nat.le_of_ble_eq_true rfl⟩ ⟨Nat.le_of_ble_eq_true rfl, Nat.le_of_ble_eq_true rfl⟩ ?_
            refine x_istore F [(6, .int (nI (rD tx sn (q + rM tx sn q)))), (5, .int (nI (q + rM tx sn q))), (4, .int (nI (rM tx sn q))), (3, .int (nI (120 + n))), (2, .int (nI (n))), (0, .ref (a)), (1, .int (nI (q)))] dM_readsCode_115 (by decide) rfl ?_
            have hrl : rD tx sn (q + rM tx sn q) ≤ sn - (q + rM tx sn q) := rn_le _ _ _ _
            refine x_iload F 0 dM_readsCode_117 rfl ?_
            refine x_if_ne F (tgt := 130) dM_readsCode_119 (by decide) (fun c38 => ?_) (fun c38 => ?_)
            · skip
              have c38 : rD tx sn (q + rM tx sn q) ≠ 0 := by
                have z : ¬ (rD tx sn (q + rM tx sn q) = 0) := fun zz => c38 ((nI_eq (a := rD tx sn (q + rM tx sn q)) (b := 0) (by omega) (by omega)).mpr zz)
                omega
              refine x_iload F 0 dM_readsCode_130 rfl ?_
              refine x_bipush F (v := nI (10)) dM_readsCode_132 (by decide) ?_
              refine x_icmp_gt F (tgt := 145) dM_readsCode_134 (by decide) (fun c39 => ?_) (fun c39 => ?_)
              · skip
                have c39 : 10 < rD tx sn (q + rM tx sn q) := by
                  exact (nI_ltI (a := 10) (b := rD tx sn (q + rM tx sn q)) (by omega) (by omega)).mp c39
                refine x_aload_n F 5 dM_readsCode_145 rfl rfl ?_
                refine x_iconst F (v := nI (1)) dM_readsCode_146 (by decide) ?_
                refine x_iload F 0 dM_readsCode_147 rfl ?_
                refine x_bipush F (v := nI (10)) dM_readsCode_149 (by decide) ?_
                refine x_icmp_le F (tgt := 162) dM_readsCode_151 (by decide) (fun c40 => ?_) (fun c40 => ?_)
                · skip
                  have c40 : rD tx sn (q + rM tx sn q) ≤ 10 := by
                    exact (nI_leI (a := rD tx sn (q + rM tx sn q)) (b := 10) (by omega) (by omega)).mp c40
                  exact absurd c40 (by omega)
                · skip
                  have c40 : 10 < rD tx sn (q + rM tx sn q) := by
                    have z : ¬ (rD tx sn (q + rM tx sn q) ≤ 10) := fun zz => c40 ((nI_leI (a := rD tx sn (q + rM tx sn q)) (b := 10) (by omega) (by omega)).mpr zz)
                    omega
                  refine x_iload F 1 dM_readsCode_154 rfl ?_
                  refine x_bipush F (v := nI (10)) dM_readsCode_156 (by decide) ?_
                  refine x_iadd F dM_readsCode_158 ?_
                  refine xW.toi (nI (q + rM tx sn q + 10)) (nI_add _ _) ?_
                  refine x_goto F (tgt := 167) dM_readsCode_159 (by decide) ?_
                  refine yVr (n := 2) (As := [.int (nI (1)), .int (nI (q + rM tx sn q + 10))]) (ci := 6) F kmM_115 kiM_fails ksM_fails knM kcM_fails (by decide +kernel) dM_readsCode_167 (cM_fails l (nx) M (a) th sg sn pr fk fp rws cd ds wc wd nn nE nC nK nO ln lF lC lT lO fn fC fP ak ac pt hT (nI (1)) (nI (q + rM tx sn q + 10))) rfl h0 rfl rfl (Nat.le_of_ble_eq_true rfl) ⟨Nat.le_of_ble_eq_true rfl, Nat.le_of_ble_eq_true rfl⟩ ⟨Nat.le_of_ble_eq_true rfl, Nat.le_of_ble_eq_true rfl⟩ (fun r' n' M470 hp => ?_)
                  obtain ⟨hr', hn', hM470, hf470⟩ := hp
                  rw [hn', hr']
                  obtain ⟨v470_0, v470_1, v470_2, v470_3, v470_4, v470_5, v470_6, v470_7, v470_8, v470_9, v470_10, v470_11, v470_12, v470_13, v470_14, v470_15, v470_16, v470_17, v470_18, vb470_0, vb470_1, vb470_2, vb470_3, vb470_4, vb470_5⟩ := id hM470
                  show xW p l e ({ frames := 4, cells := 0, slots := 0, locals := 96 } : Room) s m args below meth c D xcl (x_A M nx) 8 (MQ below (x_Q D xcl (x_A M nx) (mcPost nx M a th sg sn pr fk fp rws cd ds wc wd nn nE nC nK nO ln lF lC lT lO fn fC fP ak ac pt n (rM tx sn q) (cN tx (q + rM tx sn q) (rD tx sn (q + rM tx sn q))) (mrc tx sn ds xs dg n q))) args s 0 0 (x_A M nx)) 0 0 (nx) M470 170 [(6, .int (nI (rD tx sn (q + rM tx sn q)))), (5, .int (nI (q + rM tx sn q))), (4, .int (nI (rM tx sn q))), (3, .int (nI (120 + n))), (2, .int (nI (n))), (0, .ref (a)), (1, .int (nI (q)))] [.int (nI (0))]
                  exact x_zret F hr (by rfl) dM_readsCode_170 (by rw [show mrc tx sn ds xs dg n q = some (1, q + rM tx sn q + 10) from by rw [mrc, if_neg (fun z => c1 z.1), if_neg h70, if_neg c36, if_neg (by omega), if_neg c38, if_pos c39]]; exact ⟨rfl, fun b hb => (hf470 _ (by omega)).trans (rfl), rfl, _, _, (fun i hi => ⟨rfl, rfl⟩), hM470⟩)
              · skip
                have c39 : rD tx sn (q + rM tx sn q) ≤ 10 := by
                  have z : ¬ (10 < rD tx sn (q + rM tx sn q)) := fun zz => c39 ((nI_ltI (a := 10) (b := rD tx sn (q + rM tx sn q)) (by omega) (by omega)).mpr zz)
                  omega
                refine x_iload F 0 dM_readsCode_137 rfl ?_
                refine x_iconst F (v := nI (2)) dM_readsCode_139 (by decide) ?_
                refine x_irem F dM_readsCode_140 (by decide) ?_
                refine xW.toi (nI ((rD tx sn (q + rM tx sn q)) % 2)) (pk_rem (by omega) (by omega) (by omega)) ?_
                refine x_iconst F (v := nI (1)) dM_readsCode_141 (by decide) ?_
                refine x_icmp_ne F (tgt := 171) dM_readsCode_142 (by decide) (fun c41 => ?_) (fun c41 => ?_)
                · skip
                  have c41 : (rD tx sn (q + rM tx sn q)) % 2 ≠ 1 := by
                    have z : ¬ ((rD tx sn (q + rM tx sn q)) % 2 = 1) := fun zz => c41 ((nI_eq (a := (rD tx sn (q + rM tx sn q)) % 2) (b := 1) (by omega) (by omega)).mpr zz)
                    omega
                  refine x_aload_n F 5 dM_readsCode_171 rfl rfl ?_
                  refine x_get (ci := 6) F 8 (x_in inM) rfl (by decide) (x_m kfM_24) dM_readsCode_172 h0 rfl ?_
                  refine x_iload_n F 3 dM_readsCode_175 rfl rfl ?_
                  refine x_iload F 2 dM_readsCode_176 rfl ?_
                  refine x_iast F dM_readsCode_178 h4 (pk_in (120 + n) (160) (by omega)) ?_
                  rw [nI_clamp (show 120 + n < 2 ^ 31 by omega)]
                  show xW p l e ({ frames := 4, cells := 0, slots := 0, locals := 96 } : Room) s m args below meth c D xcl (x_A M nx) 8 (MQ below (x_Q D xcl (x_A M nx) (mcPost nx M a th sg sn pr fk fp rws cd ds wc wd nn nE nC nK nO ln lF lC lT lO fn fC fP ak ac pt n (rM tx sn q) (cN tx (q + rM tx sn q) (rD tx sn (q + rM tx sn q))) (mrc tx sn ds xs dg n q))) args s 0 0 (x_A M nx)) 0 0 (nx) (x_up M (a + 4) (.inl (.int, 160, .inl (upd (ds) (120 + n) (nI (rM tx sn q)))))) 179 [(6, .int (nI (rD tx sn (q + rM tx sn q)))), (5, .int (nI (q + rM tx sn q))), (4, .int (nI (rM tx sn q))), (3, .int (nI (120 + n))), (2, .int (nI (n))), (0, .ref (a)), (1, .int (nI (q)))] []
                  refine x_aload_n F 5 dM_readsCode_179 rfl rfl ?_
                  refine x_get (ci := 6) F 7 (x_in inM) rfl (by decide) (x_m kfM_20) dM_readsCode_180 (x_up_k h0 (by omega)) rfl ?_
                  refine x_iload_n F 3 dM_readsCode_183 rfl rfl ?_
                  refine x_aload_n F 5 dM_readsCode_184 rfl rfl ?_
                  refine x_iload F 1 dM_readsCode_185 rfl ?_
                  refine x_iload F 0 dM_readsCode_187 rfl ?_
                  refine yV (n := 2) (As := [.int (nI (q + rM tx sn q)), .int (nI (rD tx sn (q + rM tx sn q)))]) (ci := 6) F kmM_119 kiM_codeAt ksM_codeAt knM kcM_codeAt (by decide +kernel) dM_readsCode_189 (cM_codeAt l (nx) (x_up M (a + 4) (.inl (.int, 160, .inl (upd (ds) (120 + n) (nI (rM tx sn q)))))) (a) th sg sn pr fk fp rws cd (upd (ds) (120 + n) (nI (rM tx sn q))) wc wd nn nE nC nK nO ln lF lC lT lO fn fC fP ak ac pt ⟨(x_up_k h0 (by omega)), (x_up_k h1 (by omega)), (x_up_k h2 (by omega)), (x_up_k h3 (by omega)), x_up_s, (x_up_k h5 (by omega)), (x_up_k h6 (by omega)), (x_up_k h7 (by omega)), (x_up_k h8 (by omega)), (x_up_k h9 (by omega)), (x_up_k h10 (by omega)), (x_up_k h11 (by omega)), (x_up_k h12 (by omega)), (x_up_k h13 (by omega)), (x_up_k h14 (by omega)), (x_up_k h15 (by omega)), (x_up_k h16 (by omega)), (x_up_k h17 (by omega)), (x_up_k h18 (by omega)), by omega, by omega, by omega, by omega, by omega, by omega⟩ tx hX (q + rM tx sn q) (rD tx sn (q + rM tx sn q)) (by omega) (fun i hi => rn_all hi)) rfl (x_up_k h0 (by omega)) rfl rfl (Nat.le_of_ble_eq_true rfl) ⟨Nat.le_of_ble_eq_true rfl, Nat.le_of_ble_eq_true rfl⟩ ⟨Nat.le_of_ble_eq_true rfl, Nat.le_of_ble_eq_true rfl⟩ ?_
                  refine x_last F dM_readsCode_192 (x_up_k h3 (by omega)) (pk_in (120 + n) (160) (by omega)) ?_
                  rw [nI_clamp (show 120 + n < 2 ^ 31 by omega)]
                  show xW p l e ({ frames := 4, cells := 0, slots := 0, locals := 96 } : Room) s m args below meth c D xcl (x_A M nx) 8 (MQ below (x_Q D xcl (x_A M nx) (mcPost nx M a th sg sn pr fk fp rws cd ds wc wd nn nE nC nK nO ln lF lC lT lO fn fC fP ak ac pt n (rM tx sn q) (cN tx (q + rM tx sn q) (rD tx sn (q + rM tx sn q))) (mrc tx sn ds xs dg n q))) args s 0 0 (x_A M nx)) 0 0 (nx) (x_up (x_up M (a + 4) (.inl (.int, 160, .inl (upd (ds) (120 + n) (nI (rM tx sn q)))))) (a + 3) (.inl (.long, 160, .inr (.inl (vp_updL (cd) (120 + n) (lN (cN tx (q + rM tx sn q) (rD tx sn (q + rM tx sn q))))))))) 193 [(6, .int (nI (rD tx sn (q + rM tx sn q)))), (5, .int (nI (q + rM tx sn q))), (4, .int (nI (rM tx sn q))), (3, .int (nI (120 + n))), (2, .int (nI (n))), (0, .ref (a)), (1, .int (nI (q)))] []
                  have hX10 : cdg (cN tx (q + rM tx sn q) (rD tx sn (q + rM tx sn q))) (rD tx sn (q + rM tx sn q)) := cN_dg (by omega) (fun i hi => rn_all hi)
                  refine x_aload_n F 5 dM_readsCode_193 rfl rfl ?_
                  refine x_bipush F (v := nI (120)) dM_readsCode_194 (by decide) ?_
                  refine x_iload_n F 3 dM_readsCode_196 rfl rfl ?_
                  refine yV (n := 2) (As := [.int (nI (120)), .int (nI (120 + n))]) (ci := 6) F kmM_123 kiM_above ksM_above knM kcM_above (by decide +kernel) dM_readsCode_197 (cM_above l (nx) (x_up (x_up M (a + 4) (.inl (.int, 160, .inl (upd (ds) (120 + n) (nI (rM tx sn q)))))) (a + 3) (.inl (.long, 160, .inr (.inl (vp_updL (cd) (120 + n) (lN (cN tx (q + rM tx sn q) (rD tx sn (q + rM tx sn q))))))))) (a) th sg sn pr fk fp rws (vp_updL (cd) (120 + n) (lN (cN tx (q + rM tx sn q) (rD tx sn (q + rM tx sn q))))) (upd (ds) (120 + n) (nI (rM tx sn q))) wc wd nn nE nC nK nO ln lF lC lT lO fn fC fP ak ac pt ⟨(x_up_k (x_up_k h0 (by omega)) (by omega)), (x_up_k (x_up_k h1 (by omega)) (by omega)), (x_up_k (x_up_k h2 (by omega)) (by omega)), x_up_s, (x_up_k x_up_s (by omega)), (x_up_k (x_up_k h5 (by omega)) (by omega)), (x_up_k (x_up_k h6 (by omega)) (by omega)), (x_up_k (x_up_k h7 (by omega)) (by omega)), (x_up_k (x_up_k h8 (by omega)) (by omega)), (x_up_k (x_up_k h9 (by omega)) (by omega)), (x_up_k (x_up_k h10 (by omega)) (by omega)), (x_up_k (x_up_k h11 (by omega)) (by omega)), (x_up_k (x_up_k h12 (by omega)) (by omega)), (x_up_k (x_up_k h13 (by omega)) (by omega)), (x_up_k (x_up_k h14 (by omega)) (by omega)), (x_up_k (x_up_k h15 (by omega)) (by omega)), (x_up_k (x_up_k h16 (by omega)) (by omega)), (x_up_k (x_up_k h17 (by omega)) (by omega)), (x_up_k (x_up_k h18 (by omega)) (by omega)), by omega, by omega, by omega, by omega, by omega, by omega⟩ 120 n (by omega)) rfl (x_up_k (x_up_k h0 (by omega)) (by omega)) rfl rfl (Nat.le_of_ble_eq_true rfl) ⟨Nat.le_of_ble_eq_true rfl, Nat.le_of_ble_eq_true rfl⟩ ⟨Nat.le_of_ble_eq_true rfl, Nat.le_of_ble_eq_true rfl⟩ ?_
                  rcases o_cases (mUp (upd ds (120 + n) (nI (rM tx sn q))) 120 n) with hup | ⟨j, hup⟩
                  · skip
                    refine xW.ste (st' := [.int ((-1))]) (by show ([.int (oj 120 (mUp (upd ds (120 + n) (nI (rM tx sn q))) 120 n))] : List Value) = _; rw [hup]; rfl) ?_
                    refine x_istore F [(7, .int ((-1))), (6, .int (nI (rD tx sn (q + rM tx sn q)))), (5, .int (nI (q + rM tx sn q))), (4, .int (nI (rM tx sn q))), (3, .int (nI (120 + n))), (2, .int (nI (n))), (0, .ref (a)), (1, .int (nI (q)))] dM_readsCode_200 (by decide) rfl ?_
                    refine x_iload F 3 dM_readsCode_202 rfl ?_
                    refine x_if_ne F (tgt := 213) dM_readsCode_204 (by decide) (fun c42 => ?_) (fun c42 => ?_)
                    · skip
                      have c42 : rM tx sn q ≠ 0 := by
                        have z : ¬ (rM tx sn q = 0) := fun zz => c42 ((nI_eq (a := rM tx sn q) (b := 0) (by omega) (by omega)).mpr zz)
                        omega
                      refine x_iload F 3 dM_readsCode_213 rfl ?_
                      refine x_if_le F (tgt := 254) dM_readsCode_215 (by decide) (fun c43 => ?_) (fun c43 => ?_)
                      · skip
                        have c43 : rM tx sn q ≤ 0 := by
                          exact (nI_leI (a := rM tx sn q) (b := 0) (by omega) (by omega)).mp c43
                        exact absurd c43 (by omega)
                      · skip
                        have c43 : 0 < rM tx sn q := by
                          have z : ¬ (rM tx sn q ≤ 0) := fun zz => c43 ((nI_leI (a := rM tx sn q) (b := 0) (by omega) (by omega)).mpr zz)
                          omega
                        refine x_aload_n F 6 dM_readsCode_218 rfl rfl ?_
                        refine x_get (ci := 6) F 7 (x_in inM) rfl (by decide) (x_m kfM_20) dM_readsCode_219 (x_up_k (x_up_k h0 (by omega)) (by omega)) rfl ?_
                        refine x_iload_n F 4 dM_readsCode_222 rfl rfl ?_
                        refine x_lald F dM_readsCode_223 x_up_s (pk_in (120 + n) (160) (by omega)) ?_
                        refine xW.tol (lN (cN tx (q + rM tx sn q) (rD tx sn (q + rM tx sn q)))) (by rw [nI_clamp (by omega)]; exact vp_us) ?_
                        refine x_aload_n F 6 dM_readsCode_224 rfl rfl ?_
                        refine x_get (ci := 6) F 7 (x_in inM) rfl (by decide) (x_m kfM_20) dM_readsCode_225 (x_up_k (x_up_k h0 (by omega)) (by omega)) rfl ?_
                        refine x_iload F 0 dM_readsCode_228 rfl ?_
                        refine x_if_ge F (tgt := 237) dM_readsCode_230 (by decide) (fun c44 => ?_) (fun c44 => ?_)
                        · skip
                          exact absurd c44 (by decide)
                        · skip
                          refine x_iload_n F 4 dM_readsCode_233 rfl rfl ?_
                          refine x_goto F (tgt := 239) dM_readsCode_234 (by decide) ?_
                          refine x_lald F dM_readsCode_239 x_up_s (pk_in (120 + n) (160) (by omega)) ?_
                          refine xW.tol (lN (cN tx (q + rM tx sn q) (rD tx sn (q + rM tx sn q)))) (by rw [nI_clamp (by omega)]; exact vp_us) ?_
                          refine yS (n := 2) (As := [.long (lN (cN tx (q + rM tx sn q) (rD tx sn (q + rM tx sn q)))), .long (lN (cN tx (q + rM tx sn q) (rD tx sn (q + rM tx sn q))))]) F kmM_107 ktM_begins knM kcM_begins (by decide +kernel) dM_readsCode_240 (cM_begins l (nx) (x_up (x_up M (a + 4) (.inl (.int, 160, .inl (upd (ds) (120 + n) (nI (rM tx sn q)))))) (a + 3) (.inl (.long, 160, .inr (.inl (vp_updL (cd) (120 + n) (lN (cN tx (q + rM tx sn q) (rD tx sn (q + rM tx sn q))))))))) (cN tx (q + rM tx sn q) (rD tx sn (q + rM tx sn q))) (rD tx sn (q + rM tx sn q)) (cN tx (q + rM tx sn q) (rD tx sn (q + rM tx sn q))) (rD tx sn (q + rM tx sn q)) hX10 hX10) rfl rfl (Nat.le_of_ble_eq_true rfl) ⟨Nat.le_of_ble_eq_true rfl, Nat.le_of_ble_eq_true rfl⟩ ⟨Nat.le_of_ble_eq_true rfl, Nat.le_of_ble_eq_true rfl⟩ ?_
                          refine x_if_ne F (tgt := 254) dM_readsCode_243 (by decide) (fun c45 => ?_) (fun c45 => ?_)
                          · skip
                            have c45 : (mbg (cN tx (q + rM tx sn q) (rD tx sn (q + rM tx sn q))) (rD tx sn (q + rM tx sn q)) (cN tx (q + rM tx sn q) (rD tx sn (q + rM tx sn q))) (rD tx sn (q + rM tx sn q))) = true := bI_1 c45
                            have hla := mUp_la (by omega) hup
                            have hbad : mBad ds xs dg n (rM tx sn q) (cN tx (q + rM tx sn q) (rD tx sn (q + rM tx sn q))) (rD tx sn (q + rM tx sn q)) = false := by rw [mBad, if_neg (by omega), hla]; rw [mbg_self] at c45; cases c45
                            refine x_iload_n F 5 dM_readsCode_254 rfl rfl ?_
                            refine x_if_eq F (tgt := 288) dM_readsCode_255 (by decide) (fun c46 => ?_) (fun c46 => ?_)
                            · skip
                              have c46 : n = 0 := by
                                exact (nI_eq (a := n) (b := 0) (by omega) (by omega)).mp c46
                              have hbeh : mBeh xs dg n (cN tx (q + rM tx sn q) (rD tx sn (q + rM tx sn q))) (rD tx sn (q + rM tx sn q)) = true := by rw [c46]; rfl
                              refine x_iconst F (v := nI (1)) dM_readsCode_288 (by decide) ?_
                              refine x_goto F (tgt := 293) dM_readsCode_289 (by decide) ?_
                              exact x_zret F hr (by rfl) dM_readsCode_293 (by rw [show mrc tx sn ds xs dg n q = none from by rw [mrc, if_neg (fun z => c1 z.1), if_neg h70, if_neg c36, if_neg (by omega), if_neg c38, if_neg (by omega), if_neg c41, if_neg (by rw [hbad]; decide), if_neg (by rw [hbeh]; decide)]]; exact ⟨rfl, fun b hb => (x_up_n (by omega)).trans ((x_up_n (by omega)).trans (rfl)), rfl, ⟨(x_up_k (x_up_k h0 (by omega)) (by omega)), (x_up_k (x_up_k h1 (by omega)) (by omega)), (x_up_k (x_up_k h2 (by omega)) (by omega)), x_up_s, (x_up_k x_up_s (by omega)), (x_up_k (x_up_k h5 (by omega)) (by omega)), (x_up_k (x_up_k h6 (by omega)) (by omega)), (x_up_k (x_up_k h7 (by omega)) (by omega)), (x_up_k (x_up_k h8 (by omega)) (by omega)), (x_up_k (x_up_k h9 (by omega)) (by omega)), (x_up_k (x_up_k h10 (by omega)) (by omega)), (x_up_k (x_up_k h11 (by omega)) (by omega)), (x_up_k (x_up_k h12 (by omega)) (by omega)), (x_up_k (x_up_k h13 (by omega)) (by omega)), (x_up_k (x_up_k h14 (by omega)) (by omega)), (x_up_k (x_up_k h15 (by omega)) (by omega)), (x_up_k (x_up_k h16 (by omega)) (by omega)), (x_up_k (x_up_k h17 (by omega)) (by omega)), (x_up_k (x_up_k h18 (by omega)) (by omega)), by omega, by omega, by omega, by omega, by omega, by omega⟩⟩)
                            · skip
                              have c46 : n ≠ 0 := by
                                have z : ¬ (n = 0) := fun zz => c46 ((nI_eq (a := n) (b := 0) (by omega) (by omega)).mpr zz)
                                omega
                              exact absurd c46 (by omega)
                          · skip
                            have c45 : (mbg (cN tx (q + rM tx sn q) (rD tx sn (q + rM tx sn q))) (rD tx sn (q + rM tx sn q)) (cN tx (q + rM tx sn q) (rD tx sn (q + rM tx sn q))) (rD tx sn (q + rM tx sn q))) = false := bI_0 c45
                            have hla := mUp_la (by omega) hup
                            have hbad : mBad ds xs dg n (rM tx sn q) (cN tx (q + rM tx sn q) (rD tx sn (q + rM tx sn q))) (rD tx sn (q + rM tx sn q)) = true := by rw [mBad, if_neg (by omega), hla]
                            refine x_aload_n F 6 dM_readsCode_246 rfl rfl ?_
                            refine x_iconst F (v := nI (3)) dM_readsCode_247 (by decide) ?_
                            refine x_iload F 2 dM_readsCode_248 rfl ?_
                            refine yVr (n := 2) (As := [.int (nI (3)), .int (nI (q + rM tx sn q))]) (ci := 6) F kmM_115 kiM_fails ksM_fails knM kcM_fails (by decide +kernel) dM_readsCode_250 (cM_fails l (nx) (x_up (x_up M (a + 4) (.inl (.int, 160, .inl (upd (ds) (120 + n) (nI (rM tx sn q)))))) (a + 3) (.inl (.long, 160, .inr (.inl (vp_updL (cd) (120 + n) (lN (cN tx (q + rM tx sn q) (rD tx sn (q + rM tx sn q))))))))) (a) th sg sn pr fk fp rws (vp_updL (cd) (120 + n) (lN (cN tx (q + rM tx sn q) (rD tx sn (q + rM tx sn q))))) (upd (ds) (120 + n) (nI (rM tx sn q))) wc wd nn nE nC nK nO ln lF lC lT lO fn fC fP ak ac pt ⟨(x_up_k (x_up_k h0 (by omega)) (by omega)), (x_up_k (x_up_k h1 (by omega)) (by omega)), (x_up_k (x_up_k h2 (by omega)) (by omega)), x_up_s, (x_up_k x_up_s (by omega)), (x_up_k (x_up_k h5 (by omega)) (by omega)), (x_up_k (x_up_k h6 (by omega)) (by omega)), (x_up_k (x_up_k h7 (by omega)) (by omega)), (x_up_k (x_up_k h8 (by omega)) (by omega)), (x_up_k (x_up_k h9 (by omega)) (by omega)), (x_up_k (x_up_k h10 (by omega)) (by omega)), (x_up_k (x_up_k h11 (by omega)) (by omega)), (x_up_k (x_up_k h12 (by omega)) (by omega)), (x_up_k (x_up_k h13 (by omega)) (by omega)), (x_up_k (x_up_k h14 (by omega)) (by omega)), (x_up_k (x_up_k h15 (by omega)) (by omega)), (x_up_k (x_up_k h16 (by omega)) (by omega)), (x_up_k (x_up_k h17 (by omega)) (by omega)), (x_up_k (x_up_k h18 (by omega)) (by omega)), by omega, by omega, by omega, by omega, by omega, by omega⟩ (nI (3)) (nI (q + rM tx sn q))) rfl (x_up_k (x_up_k h0 (by omega)) (by omega)) rfl rfl (Nat.le_of_ble_eq_true rfl) ⟨Nat.le_of_ble_eq_true rfl, Nat.le_of_ble_eq_true rfl⟩ ⟨Nat.le_of_ble_eq_true rfl, Nat.le_of_ble_eq_true rfl⟩ (fun r' n' M471 hp => ?_)
                            obtain ⟨hr', hn', hM471, hf471⟩ := hp
                            rw [hn', hr']
                            obtain ⟨v471_0, v471_1, v471_2, v471_3, v471_4, v471_5, v471_6, v471_7, v471_8, v471_9, v471_10, v471_11, v471_12, v471_13, v471_14, v471_15, v471_16, v471_17, v471_18, vb471_0, vb471_1, vb471_2, vb471_3, vb471_4, vb471_5⟩ := id hM471
                            show xW p l e ({ frames := 4, cells := 0, slots := 0, locals := 96 } : Room) s m args below meth c D xcl (x_A M nx) 8 (MQ below (x_Q D xcl (x_A M nx) (mcPost nx M a th sg sn pr fk fp rws cd ds wc wd nn nE nC nK nO ln lF lC lT lO fn fC fP ak ac pt n (rM tx sn q) (cN tx (q + rM tx sn q) (rD tx sn (q + rM tx sn q))) (mrc tx sn ds xs dg n q))) args s 0 0 (x_A M nx)) 0 0 (nx) M471 253 [(7, .int ((-1))), (6, .int (nI (rD tx sn (q + rM tx sn q)))), (5, .int (nI (q + rM tx sn q))), (4, .int (nI (rM tx sn q))), (3, .int (nI (120 + n))), (2, .int (nI (n))), (0, .ref (a)), (1, .int (nI (q)))] [.int (nI (0))]
                            exact x_zret F hr (by rfl) dM_readsCode_253 (by rw [show mrc tx sn ds xs dg n q = some (3, q + rM tx sn q) from by rw [mrc, if_neg (fun z => c1 z.1), if_neg h70, if_neg c36, if_neg (by omega), if_neg c38, if_neg (by omega), if_neg c41, if_pos hbad]]; exact ⟨rfl, fun b hb => (hf471 _ (by omega)).trans ((x_up_n (by omega)).trans ((x_up_n (by omega)).trans (rfl))), rfl, _, _, (fun i hi => ⟨updL_ne (by omega), upd_ne (by omega)⟩), hM471⟩)
                    · skip
                      have c42 : rM tx sn q = 0 := by
                        exact (nI_eq (a := rM tx sn q) (b := 0) (by omega) (by omega)).mp c42
                      refine x_iload F 1 dM_readsCode_207 rfl ?_
                      refine x_iconst F (v := nI (2)) dM_readsCode_209 (by decide) ?_
                      refine x_icmp_ne F (tgt := 246) dM_readsCode_210 (by decide) (fun c47 => ?_) (fun c47 => ?_)
                      · skip
                        have c47 : rD tx sn (q + rM tx sn q) ≠ 2 := by
                          have z : ¬ (rD tx sn (q + rM tx sn q) = 2) := fun zz => c47 ((nI_eq (a := rD tx sn (q + rM tx sn q)) (b := 2) (by omega) (by omega)).mpr zz)
                          omega
                        have hbad : mBad ds xs dg n (rM tx sn q) (cN tx (q + rM tx sn q) (rD tx sn (q + rM tx sn q))) (rD tx sn (q + rM tx sn q)) = true := by rw [mBad, if_pos c42, decide_eq_false c47]; rfl
                        refine x_aload_n F 6 dM_readsCode_246 rfl rfl ?_
                        refine x_iconst F (v := nI (3)) dM_readsCode_247 (by decide) ?_
                        refine x_iload F 2 dM_readsCode_248 rfl ?_
                        refine yVr (n := 2) (As := [.int (nI (3)), .int (nI (q + rM tx sn q))]) (ci := 6) F kmM_115 kiM_fails ksM_fails knM kcM_fails (by decide +kernel) dM_readsCode_250 (cM_fails l (nx) (x_up (x_up M (a + 4) (.inl (.int, 160, .inl (upd (ds) (120 + n) (nI (rM tx sn q)))))) (a + 3) (.inl (.long, 160, .inr (.inl (vp_updL (cd) (120 + n) (lN (cN tx (q + rM tx sn q) (rD tx sn (q + rM tx sn q))))))))) (a) th sg sn pr fk fp rws (vp_updL (cd) (120 + n) (lN (cN tx (q + rM tx sn q) (rD tx sn (q + rM tx sn q))))) (upd (ds) (120 + n) (nI (rM tx sn q))) wc wd nn nE nC nK nO ln lF lC lT lO fn fC fP ak ac pt ⟨(x_up_k (x_up_k h0 (by omega)) (by omega)), (x_up_k (x_up_k h1 (by omega)) (by omega)), (x_up_k (x_up_k h2 (by omega)) (by omega)), x_up_s, (x_up_k x_up_s (by omega)), (x_up_k (x_up_k h5 (by omega)) (by omega)), (x_up_k (x_up_k h6 (by omega)) (by omega)), (x_up_k (x_up_k h7 (by omega)) (by omega)), (x_up_k (x_up_k h8 (by omega)) (by omega)), (x_up_k (x_up_k h9 (by omega)) (by omega)), (x_up_k (x_up_k h10 (by omega)) (by omega)), (x_up_k (x_up_k h11 (by omega)) (by omega)), (x_up_k (x_up_k h12 (by omega)) (by omega)), (x_up_k (x_up_k h13 (by omega)) (by omega)), (x_up_k (x_up_k h14 (by omega)) (by omega)), (x_up_k (x_up_k h15 (by omega)) (by omega)), (x_up_k (x_up_k h16 (by omega)) (by omega)), (x_up_k (x_up_k h17 (by omega)) (by omega)), (x_up_k (x_up_k h18 (by omega)) (by omega)), by omega, by omega, by omega, by omega, by omega, by omega⟩ (nI (3)) (nI (q + rM tx sn q))) rfl (x_up_k (x_up_k h0 (by omega)) (by omega)) rfl rfl (Nat.le_of_ble_eq_true rfl) ⟨Nat.le_of_ble_eq_true rfl, Nat.le_of_ble_eq_true rfl⟩ ⟨Nat.le_of_ble_eq_true rfl, Nat.le_of_ble_eq_true rfl⟩ (fun r' n' M472 hp => ?_)
                        obtain ⟨hr', hn', hM472, hf472⟩ := hp
                        rw [hn', hr']
                        obtain ⟨v472_0, v472_1, v472_2, v472_3, v472_4, v472_5, v472_6, v472_7, v472_8, v472_9, v472_10, v472_11, v472_12, v472_13, v472_14, v472_15, v472_16, v472_17, v472_18, vb472_0, vb472_1, vb472_2, vb472_3, vb472_4, vb472_5⟩ := id hM472
                        show xW p l e ({ frames := 4, cells := 0, slots := 0, locals := 96 } : Room) s m args below meth c D xcl (x_A M nx) 8 (MQ below (x_Q D xcl (x_A M nx) (mcPost nx M a th sg sn pr fk fp rws cd ds wc wd nn nE nC nK nO ln lF lC lT lO fn fC fP ak ac pt n (rM tx sn q) (cN tx (q + rM tx sn q) (rD tx sn (q + rM tx sn q))) (mrc tx sn ds xs dg n q))) args s 0 0 (x_A M nx)) 0 0 (nx) M472 253 [(7, .int ((-1))), (6, .int (nI (rD tx sn (q + rM tx sn q)))), (5, .int (nI (q + rM tx sn q))), (4, .int (nI (rM tx sn q))), (3, .int (nI (120 + n))), (2, .int (nI (n))), (0, .ref (a)), (1, .int (nI (q)))] [.int (nI (0))]
                        exact x_zret F hr (by rfl) dM_readsCode_253 (by rw [show mrc tx sn ds xs dg n q = some (3, q + rM tx sn q) from by rw [mrc, if_neg (fun z => c1 z.1), if_neg h70, if_neg c36, if_neg (by omega), if_neg c38, if_neg (by omega), if_neg c41, if_pos hbad]]; exact ⟨rfl, fun b hb => (hf472 _ (by omega)).trans ((x_up_n (by omega)).trans ((x_up_n (by omega)).trans (rfl))), rfl, _, _, (fun i hi => ⟨updL_ne (by omega), upd_ne (by omega)⟩), hM472⟩)
                      · skip
                        have c47 : rD tx sn (q + rM tx sn q) = 2 := by
                          exact (nI_eq (a := rD tx sn (q + rM tx sn q)) (b := 2) (by omega) (by omega)).mp c47
                        refine x_iload F 3 dM_readsCode_213 rfl ?_
                        refine x_if_le F (tgt := 254) dM_readsCode_215 (by decide) (fun c48 => ?_) (fun c48 => ?_)
                        · skip
                          have c48 : rM tx sn q ≤ 0 := by
                            exact (nI_leI (a := rM tx sn q) (b := 0) (by omega) (by omega)).mp c48
                          have hbad : mBad ds xs dg n (rM tx sn q) (cN tx (q + rM tx sn q) (rD tx sn (q + rM tx sn q))) (rD tx sn (q + rM tx sn q)) = false := by rw [mBad, if_pos (by omega), decide_eq_true (by omega)]; rfl
                          refine x_iload_n F 5 dM_readsCode_254 rfl rfl ?_
                          refine x_if_eq F (tgt := 288) dM_readsCode_255 (by decide) (fun c49 => ?_) (fun c49 => ?_)
                          · skip
                            have c49 : n = 0 := by
                              exact (nI_eq (a := n) (b := 0) (by omega) (by omega)).mp c49
                            have hbeh : mBeh xs dg n (cN tx (q + rM tx sn q) (rD tx sn (q + rM tx sn q))) (rD tx sn (q + rM tx sn q)) = true := by rw [c49]; rfl
                            refine x_iconst F (v := nI (1)) dM_readsCode_288 (by decide) ?_
                            refine x_goto F (tgt := 293) dM_readsCode_289 (by decide) ?_
                            exact x_zret F hr (by rfl) dM_readsCode_293 (by rw [show mrc tx sn ds xs dg n q = none from by rw [mrc, if_neg (fun z => c1 z.1), if_neg h70, if_neg c36, if_neg (by omega), if_neg c38, if_neg (by omega), if_neg c41, if_neg (by rw [hbad]; decide), if_neg (by rw [hbeh]; decide)]]; exact ⟨rfl, fun b hb => (x_up_n (by omega)).trans ((x_up_n (by omega)).trans (rfl)), rfl, ⟨(x_up_k (x_up_k h0 (by omega)) (by omega)), (x_up_k (x_up_k h1 (by omega)) (by omega)), (x_up_k (x_up_k h2 (by omega)) (by omega)), x_up_s, (x_up_k x_up_s (by omega)), (x_up_k (x_up_k h5 (by omega)) (by omega)), (x_up_k (x_up_k h6 (by omega)) (by omega)), (x_up_k (x_up_k h7 (by omega)) (by omega)), (x_up_k (x_up_k h8 (by omega)) (by omega)), (x_up_k (x_up_k h9 (by omega)) (by omega)), (x_up_k (x_up_k h10 (by omega)) (by omega)), (x_up_k (x_up_k h11 (by omega)) (by omega)), (x_up_k (x_up_k h12 (by omega)) (by omega)), (x_up_k (x_up_k h13 (by omega)) (by omega)), (x_up_k (x_up_k h14 (by omega)) (by omega)), (x_up_k (x_up_k h15 (by omega)) (by omega)), (x_up_k (x_up_k h16 (by omega)) (by omega)), (x_up_k (x_up_k h17 (by omega)) (by omega)), (x_up_k (x_up_k h18 (by omega)) (by omega)), by omega, by omega, by omega, by omega, by omega, by omega⟩⟩)
                          · skip
                            have c49 : n ≠ 0 := by
                              have z : ¬ (n = 0) := fun zz => c49 ((nI_eq (a := n) (b := 0) (by omega) (by omega)).mpr zz)
                              omega
                            exact absurd c49 (by omega)
                        · skip
                          have c48 : 0 < rM tx sn q := by
                            have z : ¬ (rM tx sn q ≤ 0) := fun zz => c48 ((nI_leI (a := rM tx sn q) (b := 0) (by omega) (by omega)).mpr zz)
                            omega
                          exact absurd c48 (by omega)
                  · skip
                    have hj : j < n := mUp_lt hup
                    refine xW.ste (st' := [.int (nI (120 + j))]) (by show ([.int (oj 120 (mUp (upd ds (120 + n) (nI (rM tx sn q))) 120 n))] : List Value) = _; rw [hup]; rfl) ?_
                    refine x_istore F [(7, .int (nI (120 + j))), (6, .int (nI (rD tx sn (q + rM tx sn q)))), (5, .int (nI (q + rM tx sn q))), (4, .int (nI (rM tx sn q))), (3, .int (nI (120 + n))), (2, .int (nI (n))), (0, .ref (a)), (1, .int (nI (q)))] dM_readsCode_200 (by decide) rfl ?_
                    refine x_iload F 3 dM_readsCode_202 rfl ?_
                    refine x_if_ne F (tgt := 213) dM_readsCode_204 (by decide) (fun c50 => ?_) (fun c50 => ?_)
                    · skip
                      have c50 : rM tx sn q ≠ 0 := by
                        have z : ¬ (rM tx sn q = 0) := fun zz => c50 ((nI_eq (a := rM tx sn q) (b := 0) (by omega) (by omega)).mpr zz)
                        omega
                      refine x_iload F 3 dM_readsCode_213 rfl ?_
                      refine x_if_le F (tgt := 254) dM_readsCode_215 (by decide) (fun c51 => ?_) (fun c51 => ?_)
                      · skip
                        have c51 : rM tx sn q ≤ 0 := by
                          exact (nI_leI (a := rM tx sn q) (b := 0) (by omega) (by omega)).mp c51
                        exact absurd c51 (by omega)
                      · skip
                        have c51 : 0 < rM tx sn q := by
                          have z : ¬ (rM tx sn q ≤ 0) := fun zz => c51 ((nI_leI (a := rM tx sn q) (b := 0) (by omega) (by omega)).mpr zz)
                          omega
                        refine x_aload_n F 6 dM_readsCode_218 rfl rfl ?_
                        refine x_get (ci := 6) F 7 (x_in inM) rfl (by decide) (x_m kfM_20) dM_readsCode_219 (x_up_k (x_up_k h0 (by omega)) (by omega)) rfl ?_
                        refine x_iload_n F 4 dM_readsCode_222 rfl rfl ?_
                        refine x_lald F dM_readsCode_223 x_up_s (pk_in (120 + n) (160) (by omega)) ?_
                        refine xW.tol (lN (cN tx (q + rM tx sn q) (rD tx sn (q + rM tx sn q)))) (by rw [nI_clamp (by omega)]; exact vp_us) ?_
                        refine x_aload_n F 6 dM_readsCode_224 rfl rfl ?_
                        refine x_get (ci := 6) F 7 (x_in inM) rfl (by decide) (x_m kfM_20) dM_readsCode_225 (x_up_k (x_up_k h0 (by omega)) (by omega)) rfl ?_
                        refine x_iload F 0 dM_readsCode_228 rfl ?_
                        refine x_if_ge F (tgt := 237) dM_readsCode_230 (by decide) (fun c52 => ?_) (fun c52 => ?_)
                        · skip
                          have c52 : 0 ≤ 120 + j := by
                            exact (nI_leI (a := 0) (b := 120 + j) (by omega) (by omega)).mp c52
                          refine x_iload F 0 dM_readsCode_237 rfl ?_
                          refine x_lald F dM_readsCode_239 x_up_s (pk_in (120 + j) (160) (by omega)) ?_
                          refine xW.tol (lN (xs j)) (by rw [nI_clamp (by omega)]; exact (updL_ne (by omega)).trans (hcd j hj).1) ?_
                          refine yS (n := 2) (As := [.long (lN (cN tx (q + rM tx sn q) (rD tx sn (q + rM tx sn q)))), .long (lN (xs j))]) F kmM_107 ktM_begins knM kcM_begins (by decide +kernel) dM_readsCode_240 (cM_begins l (nx) (x_up (x_up M (a + 4) (.inl (.int, 160, .inl (upd (ds) (120 + n) (nI (rM tx sn q)))))) (a + 3) (.inl (.long, 160, .inr (.inl (vp_updL (cd) (120 + n) (lN (cN tx (q + rM tx sn q) (rD tx sn (q + rM tx sn q))))))))) (cN tx (q + rM tx sn q) (rD tx sn (q + rM tx sn q))) (rD tx sn (q + rM tx sn q)) (xs j) (dg j) hX10 (hcd j hj).2) rfl rfl (Nat.le_of_ble_eq_true rfl) ⟨Nat.le_of_ble_eq_true rfl, Nat.le_of_ble_eq_true rfl⟩ ⟨Nat.le_of_ble_eq_true rfl, Nat.le_of_ble_eq_true rfl⟩ ?_
                          refine x_if_ne F (tgt := 254) dM_readsCode_243 (by decide) (fun c53 => ?_) (fun c53 => ?_)
                          · skip
                            have c53 : (mbg (cN tx (q + rM tx sn q) (rD tx sn (q + rM tx sn q))) (rD tx sn (q + rM tx sn q)) (xs j) (dg j)) = true := bI_1 c53
                            have hla := mUp_la (by omega) hup
                            have hbad : mBad ds xs dg n (rM tx sn q) (cN tx (q + rM tx sn q) (rD tx sn (q + rM tx sn q))) (rD tx sn (q + rM tx sn q)) = false := by rw [mBad, if_neg (by omega), hla]; show (! mbg (cN tx (q + rM tx sn q) (rD tx sn (q + rM tx sn q))) (rD tx sn (q + rM tx sn q)) (xs j) (dg j)) = false; rw [c53]; rfl
                            refine x_iload_n F 5 dM_readsCode_254 rfl rfl ?_
                            refine x_if_eq F (tgt := 288) dM_readsCode_255 (by decide) (fun c54 => ?_) (fun c54 => ?_)
                            · skip
                              have c54 : n = 0 := by
                                exact (nI_eq (a := n) (b := 0) (by omega) (by omega)).mp c54
                              have hbeh : mBeh xs dg n (cN tx (q + rM tx sn q) (rD tx sn (q + rM tx sn q))) (rD tx sn (q + rM tx sn q)) = true := by rw [c54]; rfl
                              refine x_iconst F (v := nI (1)) dM_readsCode_288 (by decide) ?_
                              refine x_goto F (tgt := 293) dM_readsCode_289 (by decide) ?_
                              exact x_zret F hr (by rfl) dM_readsCode_293 (by rw [show mrc tx sn ds xs dg n q = none from by rw [mrc, if_neg (fun z => c1 z.1), if_neg h70, if_neg c36, if_neg (by omega), if_neg c38, if_neg (by omega), if_neg c41, if_neg (by rw [hbad]; decide), if_neg (by rw [hbeh]; decide)]]; exact ⟨rfl, fun b hb => (x_up_n (by omega)).trans ((x_up_n (by omega)).trans (rfl)), rfl, ⟨(x_up_k (x_up_k h0 (by omega)) (by omega)), (x_up_k (x_up_k h1 (by omega)) (by omega)), (x_up_k (x_up_k h2 (by omega)) (by omega)), x_up_s, (x_up_k x_up_s (by omega)), (x_up_k (x_up_k h5 (by omega)) (by omega)), (x_up_k (x_up_k h6 (by omega)) (by omega)), (x_up_k (x_up_k h7 (by omega)) (by omega)), (x_up_k (x_up_k h8 (by omega)) (by omega)), (x_up_k (x_up_k h9 (by omega)) (by omega)), (x_up_k (x_up_k h10 (by omega)) (by omega)), (x_up_k (x_up_k h11 (by omega)) (by omega)), (x_up_k (x_up_k h12 (by omega)) (by omega)), (x_up_k (x_up_k h13 (by omega)) (by omega)), (x_up_k (x_up_k h14 (by omega)) (by omega)), (x_up_k (x_up_k h15 (by omega)) (by omega)), (x_up_k (x_up_k h16 (by omega)) (by omega)), (x_up_k (x_up_k h17 (by omega)) (by omega)), (x_up_k (x_up_k h18 (by omega)) (by omega)), by omega, by omega, by omega, by omega, by omega, by omega⟩⟩)
                            · skip
                              have c54 : n ≠ 0 := by
                                have z : ¬ (n = 0) := fun zz => c54 ((nI_eq (a := n) (b := 0) (by omega) (by omega)).mpr zz)
                                omega
                              exact absurd c54 (by omega)
                          · skip
                            have c53 : (mbg (cN tx (q + rM tx sn q) (rD tx sn (q + rM tx sn q))) (rD tx sn (q + rM tx sn q)) (xs j) (dg j)) = false := bI_0 c53
                            have hla := mUp_la (by omega) hup
                            have hbad : mBad ds xs dg n (rM tx sn q) (cN tx (q + rM tx sn q) (rD tx sn (q + rM tx sn q))) (rD tx sn (q + rM tx sn q)) = true := by rw [mBad, if_neg (by omega), hla]; show (! mbg (cN tx (q + rM tx sn q) (rD tx sn (q + rM tx sn q))) (rD tx sn (q + rM tx sn q)) (xs j) (dg j)) = true; rw [c53]; rfl
                            refine x_aload_n F 6 dM_readsCode_246 rfl rfl ?_
                            refine x_iconst F (v := nI (3)) dM_readsCode_247 (by decide) ?_
                            refine x_iload F 2 dM_readsCode_248 rfl ?_
                            refine yVr (n := 2) (As := [.int (nI (3)), .int (nI (q + rM tx sn q))]) (ci := 6) F kmM_115 kiM_fails ksM_fails knM kcM_fails (by decide +kernel) dM_readsCode_250 (cM_fails l (nx) (x_up (x_up M (a + 4) (.inl (.int, 160, .inl (upd (ds) (120 + n) (nI (rM tx sn q)))))) (a + 3) (.inl (.long, 160, .inr (.inl (vp_updL (cd) (120 + n) (lN (cN tx (q + rM tx sn q) (rD tx sn (q + rM tx sn q))))))))) (a) th sg sn pr fk fp rws (vp_updL (cd) (120 + n) (lN (cN tx (q + rM tx sn q) (rD tx sn (q + rM tx sn q))))) (upd (ds) (120 + n) (nI (rM tx sn q))) wc wd nn nE nC nK nO ln lF lC lT lO fn fC fP ak ac pt ⟨(x_up_k (x_up_k h0 (by omega)) (by omega)), (x_up_k (x_up_k h1 (by omega)) (by omega)), (x_up_k (x_up_k h2 (by omega)) (by omega)), x_up_s, (x_up_k x_up_s (by omega)), (x_up_k (x_up_k h5 (by omega)) (by omega)), (x_up_k (x_up_k h6 (by omega)) (by omega)), (x_up_k (x_up_k h7 (by omega)) (by omega)), (x_up_k (x_up_k h8 (by omega)) (by omega)), (x_up_k (x_up_k h9 (by omega)) (by omega)), (x_up_k (x_up_k h10 (by omega)) (by omega)), (x_up_k (x_up_k h11 (by omega)) (by omega)), (x_up_k (x_up_k h12 (by omega)) (by omega)), (x_up_k (x_up_k h13 (by omega)) (by omega)), (x_up_k (x_up_k h14 (by omega)) (by omega)), (x_up_k (x_up_k h15 (by omega)) (by omega)), (x_up_k (x_up_k h16 (by omega)) (by omega)), (x_up_k (x_up_k h17 (by omega)) (by omega)), (x_up_k (x_up_k h18 (by omega)) (by omega)), by omega, by omega, by omega, by omega, by omega, by omega⟩ (nI (3)) (nI (q + rM tx sn q))) rfl (x_up_k (x_up_k h0 (by omega)) (by omega)) rfl rfl (Nat.le_of_ble_eq_true rfl) ⟨Nat.le_of_ble_eq_true rfl, Nat.le_of_ble_eq_true rfl⟩ ⟨Nat.le_of_ble_eq_true rfl, Nat.le_of_ble_eq_true rfl⟩ (fun r' n' M473 hp => ?_)
                            obtain ⟨hr', hn', hM473, hf473⟩ := hp
                            rw [hn', hr']
                            obtain ⟨v473_0, v473_1, v473_2, v473_3, v473_4, v473_5, v473_6, v473_7, v473_8, v473_9, v473_10, v473_11, v473_12, v473_13, v473_14, v473_15, v473_16, v473_17, v473_18, vb473_0, vb473_1, vb473_2, vb473_3, vb473_4, vb473_5⟩ := id hM473
                            show xW p l e ({ frames := 4, cells := 0, slots := 0, locals := 96 } : Room) s m args below meth c D xcl (x_A M nx) 8 (MQ below (x_Q D xcl (x_A M nx) (mcPost nx M a th sg sn pr fk fp rws cd ds wc wd nn nE nC nK nO ln lF lC lT lO fn fC fP ak ac pt n (rM tx sn q) (cN tx (q + rM tx sn q) (rD tx sn (q + rM tx sn q))) (mrc tx sn ds xs dg n q))) args s 0 0 (x_A M nx)) 0 0 (nx) M473 253 [(7, .int (nI (120 + j))), (6, .int (nI (rD tx sn (q + rM tx sn q)))), (5, .int (nI (q + rM tx sn q))), (4, .int (nI (rM tx sn q))), (3, .int (nI (120 + n))), (2, .int (nI (n))), (0, .ref (a)), (1, .int (nI (q)))] [.int (nI (0))]
                            exact x_zret F hr (by rfl) dM_readsCode_253 (by rw [show mrc tx sn ds xs dg n q = some (3, q + rM tx sn q) from by rw [mrc, if_neg (fun z => c1 z.1), if_neg h70, if_neg c36, if_neg (by omega), if_neg c38, if_neg (by omega), if_neg c41, if_pos hbad]]; exact ⟨rfl, fun b hb => (hf473 _ (by omega)).trans ((x_up_n (by omega)).trans ((x_up_n (by omega)).trans (rfl))), rfl, _, _, (fun i hi => ⟨updL_ne (by omega), upd_ne (by omega)⟩), hM473⟩)
                        · skip
                          have c52 : 120 + j < 0 := by
                            have z : ¬ (0 ≤ 120 + j) := fun zz => c52 ((nI_leI (a := 0) (b := 120 + j) (by omega) (by omega)).mpr zz)
                            omega
                          exact absurd c52 (by omega)
                    · skip
                      have c50 : rM tx sn q = 0 := by
                        exact (nI_eq (a := rM tx sn q) (b := 0) (by omega) (by omega)).mp c50
                      refine x_iload F 1 dM_readsCode_207 rfl ?_
                      refine x_iconst F (v := nI (2)) dM_readsCode_209 (by decide) ?_
                      refine x_icmp_ne F (tgt := 246) dM_readsCode_210 (by decide) (fun c55 => ?_) (fun c55 => ?_)
                      · skip
                        have c55 : rD tx sn (q + rM tx sn q) ≠ 2 := by
                          have z : ¬ (rD tx sn (q + rM tx sn q) = 2) := fun zz => c55 ((nI_eq (a := rD tx sn (q + rM tx sn q)) (b := 2) (by omega) (by omega)).mpr zz)
                          omega
                        have hbad : mBad ds xs dg n (rM tx sn q) (cN tx (q + rM tx sn q) (rD tx sn (q + rM tx sn q))) (rD tx sn (q + rM tx sn q)) = true := by rw [mBad, if_pos c50, decide_eq_false c55]; rfl
                        refine x_aload_n F 6 dM_readsCode_246 rfl rfl ?_
                        refine x_iconst F (v := nI (3)) dM_readsCode_247 (by decide) ?_
                        refine x_iload F 2 dM_readsCode_248 rfl ?_
                        refine yVr (n := 2) (As := [.int (nI (3)), .int (nI (q + rM tx sn q))]) (ci := 6) F kmM_115 kiM_fails ksM_fails knM kcM_fails (by decide +kernel) dM_readsCode_250 (cM_fails l (nx) (x_up (x_up M (a + 4) (.inl (.int, 160, .inl (upd (ds) (120 + n) (nI (rM tx sn q)))))) (a + 3) (.inl (.long, 160, .inr (.inl (vp_updL (cd) (120 + n) (lN (cN tx (q + rM tx sn q) (rD tx sn (q + rM tx sn q))))))))) (a) th sg sn pr fk fp rws (vp_updL (cd) (120 + n) (lN (cN tx (q + rM tx sn q) (rD tx sn (q + rM tx sn q))))) (upd (ds) (120 + n) (nI (rM tx sn q))) wc wd nn nE nC nK nO ln lF lC lT lO fn fC fP ak ac pt ⟨(x_up_k (x_up_k h0 (by omega)) (by omega)), (x_up_k (x_up_k h1 (by omega)) (by omega)), (x_up_k (x_up_k h2 (by omega)) (by omega)), x_up_s, (x_up_k x_up_s (by omega)), (x_up_k (x_up_k h5 (by omega)) (by omega)), (x_up_k (x_up_k h6 (by omega)) (by omega)), (x_up_k (x_up_k h7 (by omega)) (by omega)), (x_up_k (x_up_k h8 (by omega)) (by omega)), (x_up_k (x_up_k h9 (by omega)) (by omega)), (x_up_k (x_up_k h10 (by omega)) (by omega)), (x_up_k (x_up_k h11 (by omega)) (by omega)), (x_up_k (x_up_k h12 (by omega)) (by omega)), (x_up_k (x_up_k h13 (by omega)) (by omega)), (x_up_k (x_up_k h14 (by omega)) (by omega)), (x_up_k (x_up_k h15 (by omega)) (by omega)), (x_up_k (x_up_k h16 (by omega)) (by omega)), (x_up_k (x_up_k h17 (by omega)) (by omega)), (x_up_k (x_up_k h18 (by omega)) (by omega)), by omega, by omega, by omega, by omega, by omega, by omega⟩ (nI (3)) (nI (q + rM tx sn q))) rfl (x_up_k (x_up_k h0 (by omega)) (by omega)) rfl rfl (Nat.le_of_ble_eq_true rfl) ⟨Nat.le_of_ble_eq_true rfl, Nat.le_of_ble_eq_true rfl⟩ ⟨Nat.le_of_ble_eq_true rfl, Nat.le_of_ble_eq_true rfl⟩ (fun r' n' M474 hp => ?_)
                        obtain ⟨hr', hn', hM474, hf474⟩ := hp
                        rw [hn', hr']
                        obtain ⟨v474_0, v474_1, v474_2, v474_3, v474_4, v474_5, v474_6, v474_7, v474_8, v474_9, v474_10, v474_11, v474_12, v474_13, v474_14, v474_15, v474_16, v474_17, v474_18, vb474_0, vb474_1, vb474_2, vb474_3, vb474_4, vb474_5⟩ := id hM474
                        show xW p l e ({ frames := 4, cells := 0, slots := 0, locals := 96 } : Room) s m args below meth c D xcl (x_A M nx) 8 (MQ below (x_Q D xcl (x_A M nx) (mcPost nx M a th sg sn pr fk fp rws cd ds wc wd nn nE nC nK nO ln lF lC lT lO fn fC fP ak ac pt n (rM tx sn q) (cN tx (q + rM tx sn q) (rD tx sn (q + rM tx sn q))) (mrc tx sn ds xs dg n q))) args s 0 0 (x_A M nx)) 0 0 (nx) M474 253 [(7, .int (nI (120 + j))), (6, .int (nI (rD tx sn (q + rM tx sn q)))), (5, .int (nI (q + rM tx sn q))), (4, .int (nI (rM tx sn q))), (3, .int (nI (120 + n))), (2, .int (nI (n))), (0, .ref (a)), (1, .int (nI (q)))] [.int (nI (0))]
                        exact x_zret F hr (by rfl) dM_readsCode_253 (by rw [show mrc tx sn ds xs dg n q = some (3, q + rM tx sn q) from by rw [mrc, if_neg (fun z => c1 z.1), if_neg h70, if_neg c36, if_neg (by omega), if_neg c38, if_neg (by omega), if_neg c41, if_pos hbad]]; exact ⟨rfl, fun b hb => (hf474 _ (by omega)).trans ((x_up_n (by omega)).trans ((x_up_n (by omega)).trans (rfl))), rfl, _, _, (fun i hi => ⟨updL_ne (by omega), upd_ne (by omega)⟩), hM474⟩)
                      · skip
                        have c55 : rD tx sn (q + rM tx sn q) = 2 := by
                          exact (nI_eq (a := rD tx sn (q + rM tx sn q)) (b := 2) (by omega) (by omega)).mp c55
                        refine x_iload F 3 dM_readsCode_213 rfl ?_
                        refine x_if_le F (tgt := 254) dM_readsCode_215 (by decide) (fun c56 => ?_) (fun c56 => ?_)
                        · skip
                          have c56 : rM tx sn q ≤ 0 := by
                            exact (nI_leI (a := rM tx sn q) (b := 0) (by omega) (by omega)).mp c56
                          have hbad : mBad ds xs dg n (rM tx sn q) (cN tx (q + rM tx sn q) (rD tx sn (q + rM tx sn q))) (rD tx sn (q + rM tx sn q)) = false := by rw [mBad, if_pos (by omega), decide_eq_true (by omega)]; rfl
                          refine x_iload_n F 5 dM_readsCode_254 rfl rfl ?_
                          refine x_if_eq F (tgt := 288) dM_readsCode_255 (by decide) (fun c57 => ?_) (fun c57 => ?_)
                          · skip
                            have c57 : n = 0 := by
                              exact (nI_eq (a := n) (b := 0) (by omega) (by omega)).mp c57
                            have hbeh : mBeh xs dg n (cN tx (q + rM tx sn q) (rD tx sn (q + rM tx sn q))) (rD tx sn (q + rM tx sn q)) = true := by rw [c57]; rfl
                            refine x_iconst F (v := nI (1)) dM_readsCode_288 (by decide) ?_
                            refine x_goto F (tgt := 293) dM_readsCode_289 (by decide) ?_
                            exact x_zret F hr (by rfl) dM_readsCode_293 (by rw [show mrc tx sn ds xs dg n q = none from by rw [mrc, if_neg (fun z => c1 z.1), if_neg h70, if_neg c36, if_neg (by omega), if_neg c38, if_neg (by omega), if_neg c41, if_neg (by rw [hbad]; decide), if_neg (by rw [hbeh]; decide)]]; exact ⟨rfl, fun b hb => (x_up_n (by omega)).trans ((x_up_n (by omega)).trans (rfl)), rfl, ⟨(x_up_k (x_up_k h0 (by omega)) (by omega)), (x_up_k (x_up_k h1 (by omega)) (by omega)), (x_up_k (x_up_k h2 (by omega)) (by omega)), x_up_s, (x_up_k x_up_s (by omega)), (x_up_k (x_up_k h5 (by omega)) (by omega)), (x_up_k (x_up_k h6 (by omega)) (by omega)), (x_up_k (x_up_k h7 (by omega)) (by omega)), (x_up_k (x_up_k h8 (by omega)) (by omega)), (x_up_k (x_up_k h9 (by omega)) (by omega)), (x_up_k (x_up_k h10 (by omega)) (by omega)), (x_up_k (x_up_k h11 (by omega)) (by omega)), (x_up_k (x_up_k h12 (by omega)) (by omega)), (x_up_k (x_up_k h13 (by omega)) (by omega)), (x_up_k (x_up_k h14 (by omega)) (by omega)), (x_up_k (x_up_k h15 (by omega)) (by omega)), (x_up_k (x_up_k h16 (by omega)) (by omega)), (x_up_k (x_up_k h17 (by omega)) (by omega)), (x_up_k (x_up_k h18 (by omega)) (by omega)), by omega, by omega, by omega, by omega, by omega, by omega⟩⟩)
                          · skip
                            have c57 : n ≠ 0 := by
                              have z : ¬ (n = 0) := fun zz => c57 ((nI_eq (a := n) (b := 0) (by omega) (by omega)).mpr zz)
                              omega
                            exact absurd c57 (by omega)
                        · skip
                          have c56 : 0 < rM tx sn q := by
                            have z : ¬ (rM tx sn q ≤ 0) := fun zz => c56 ((nI_leI (a := rM tx sn q) (b := 0) (by omega) (by omega)).mpr zz)
                            omega
                          exact absurd c56 (by omega)
                · skip
                  have c41 : (rD tx sn (q + rM tx sn q)) % 2 = 1 := by
                    exact (nI_eq (a := (rD tx sn (q + rM tx sn q)) % 2) (b := 1) (by omega) (by omega)).mp c41
                  refine x_aload_n F 5 dM_readsCode_145 rfl rfl ?_
                  refine x_iconst F (v := nI (1)) dM_readsCode_146 (by decide) ?_
                  refine x_iload F 0 dM_readsCode_147 rfl ?_
                  refine x_bipush F (v := nI (10)) dM_readsCode_149 (by decide) ?_
                  refine x_icmp_le F (tgt := 162) dM_readsCode_151 (by decide) (fun c58 => ?_) (fun c58 => ?_)
                  · skip
                    have c58 : rD tx sn (q + rM tx sn q) ≤ 10 := by
                      exact (nI_leI (a := rD tx sn (q + rM tx sn q)) (b := 10) (by omega) (by omega)).mp c58
                    refine x_iload F 1 dM_readsCode_162 rfl ?_
                    refine x_iload F 0 dM_readsCode_164 rfl ?_
                    refine x_iadd F dM_readsCode_166 ?_
                    refine xW.toi (nI (q + rM tx sn q + rD tx sn (q + rM tx sn q))) (nI_add _ _) ?_
                    refine yVr (n := 2) (As := [.int (nI (1)), .int (nI (q + rM tx sn q + rD tx sn (q + rM tx sn q)))]) (ci := 6) F kmM_115 kiM_fails ksM_fails knM kcM_fails (by decide +kernel) dM_readsCode_167 (cM_fails l (nx) M (a) th sg sn pr fk fp rws cd ds wc wd nn nE nC nK nO ln lF lC lT lO fn fC fP ak ac pt hT (nI (1)) (nI (q + rM tx sn q + rD tx sn (q + rM tx sn q)))) rfl h0 rfl rfl (Nat.le_of_ble_eq_true rfl) ⟨Nat.le_of_ble_eq_true rfl, Nat.le_of_ble_eq_true rfl⟩ ⟨Nat.le_of_ble_eq_true rfl, Nat.le_of_ble_eq_true rfl⟩ (fun r' n' M475 hp => ?_)
                    obtain ⟨hr', hn', hM475, hf475⟩ := hp
                    rw [hn', hr']
                    obtain ⟨v475_0, v475_1, v475_2, v475_3, v475_4, v475_5, v475_6, v475_7, v475_8, v475_9, v475_10, v475_11, v475_12, v475_13, v475_14, v475_15, v475_16, v475_17, v475_18, vb475_0, vb475_1, vb475_2, vb475_3, vb475_4, vb475_5⟩ := id hM475
                    show xW p l e ({ frames := 4, cells := 0, slots := 0, locals := 96 } : Room) s m args below meth c D xcl (x_A M nx) 8 (MQ below (x_Q D xcl (x_A M nx) (mcPost nx M a th sg sn pr fk fp rws cd ds wc wd nn nE nC nK nO ln lF lC lT lO fn fC fP ak ac pt n (rM tx sn q) (cN tx (q + rM tx sn q) (rD tx sn (q + rM tx sn q))) (mrc tx sn ds xs dg n q))) args s 0 0 (x_A M nx)) 0 0 (nx) M475 170 [(6, .int (nI (rD tx sn (q + rM tx sn q)))), (5, .int (nI (q + rM tx sn q))), (4, .int (nI (rM tx sn q))), (3, .int (nI (120 + n))), (2, .int (nI (n))), (0, .ref (a)), (1, .int (nI (q)))] [.int (nI (0))]
                    exact x_zret F hr (by rfl) dM_readsCode_170 (by rw [show mrc tx sn ds xs dg n q = some (1, q + rM tx sn q + rD tx sn (q + rM tx sn q)) from by rw [mrc, if_neg (fun z => c1 z.1), if_neg h70, if_neg c36, if_neg (by omega), if_neg c38, if_neg (by omega), if_pos c41]]; exact ⟨rfl, fun b hb => (hf475 _ (by omega)).trans (rfl), rfl, _, _, (fun i hi => ⟨rfl, rfl⟩), hM475⟩)
                  · skip
                    have c58 : 10 < rD tx sn (q + rM tx sn q) := by
                      have z : ¬ (rD tx sn (q + rM tx sn q) ≤ 10) := fun zz => c58 ((nI_leI (a := rD tx sn (q + rM tx sn q)) (b := 10) (by omega) (by omega)).mpr zz)
                      omega
                    exact absurd c58 (by omega)
            · skip
              have c38 : rD tx sn (q + rM tx sn q) = 0 := by
                exact (nI_eq (a := rD tx sn (q + rM tx sn q)) (b := 0) (by omega) (by omega)).mp c38
              refine x_aload_n F 5 dM_readsCode_122 rfl rfl ?_
              refine x_iconst F (v := nI (1)) dM_readsCode_123 (by decide) ?_
              refine x_iload F 1 dM_readsCode_124 rfl ?_
              refine yVr (n := 2) (As := [.int (nI (1)), .int (nI (q + rM tx sn q))]) (ci := 6) F kmM_115 kiM_fails ksM_fails knM kcM_fails (by decide +kernel) dM_readsCode_126 (cM_fails l (nx) M (a) th sg sn pr fk fp rws cd ds wc wd nn nE nC nK nO ln lF lC lT lO fn fC fP ak ac pt hT (nI (1)) (nI (q + rM tx sn q))) rfl h0 rfl rfl (Nat.le_of_ble_eq_true rfl) ⟨Nat.le_of_ble_eq_true rfl, Nat.le_of_ble_eq_true rfl⟩ ⟨Nat.le_of_ble_eq_true rfl, Nat.le_of_ble_eq_true rfl⟩ (fun r' n' M476 hp => ?_)
              obtain ⟨hr', hn', hM476, hf476⟩ := hp
              rw [hn', hr']
              obtain ⟨v476_0, v476_1, v476_2, v476_3, v476_4, v476_5, v476_6, v476_7, v476_8, v476_9, v476_10, v476_11, v476_12, v476_13, v476_14, v476_15, v476_16, v476_17, v476_18, vb476_0, vb476_1, vb476_2, vb476_3, vb476_4, vb476_5⟩ := id hM476
              show xW p l e ({ frames := 4, cells := 0, slots := 0, locals := 96 } : Room) s m args below meth c D xcl (x_A M nx) 8 (MQ below (x_Q D xcl (x_A M nx) (mcPost nx M a th sg sn pr fk fp rws cd ds wc wd nn nE nC nK nO ln lF lC lT lO fn fC fP ak ac pt n (rM tx sn q) (cN tx (q + rM tx sn q) (rD tx sn (q + rM tx sn q))) (mrc tx sn ds xs dg n q))) args s 0 0 (x_A M nx)) 0 0 (nx) M476 129 [(6, .int (nI (rD tx sn (q + rM tx sn q)))), (5, .int (nI (q + rM tx sn q))), (4, .int (nI (rM tx sn q))), (3, .int (nI (120 + n))), (2, .int (nI (n))), (0, .ref (a)), (1, .int (nI (q)))] [.int (nI (0))]
              exact x_zret F hr (by rfl) dM_readsCode_129 (by rw [show mrc tx sn ds xs dg n q = some (1, q + rM tx sn q) from by rw [mrc, if_neg (fun z => c1 z.1), if_neg h70, if_neg c36, if_neg (by omega), if_pos c38]]; exact ⟨rfl, fun b hb => (hf476 _ (by omega)).trans (rfl), rfl, _, _, (fun i hi => ⟨rfl, rfl⟩), hM476⟩)
          · skip
            have c37 : 4 < rM tx sn q := by
              have z : ¬ (rM tx sn q ≤ 4) := fun zz => c37 ((nI_leI (a := rM tx sn q) (b := 4) (by omega) (by omega)).mpr zz)
              omega
            refine x_aload_n F 4 dM_readsCode_99 rfl rfl ?_
            refine x_iconst F (v := nI (1)) dM_readsCode_100 (by decide) ?_
            refine x_iload_n F 5 dM_readsCode_101 rfl rfl ?_
            refine x_iconst F (v := nI (4)) dM_readsCode_102 (by decide) ?_
            refine x_iadd F dM_readsCode_103 ?_
            refine xW.toi (nI (q + 4)) (nI_add _ _) ?_
            refine yVr (n := 2) (As := [.int (nI (1)), .int (nI (q + 4))]) (ci := 6) F kmM_115 kiM_fails ksM_fails knM kcM_fails (by decide +kernel) dM_readsCode_104 (cM_fails l (nx) M (a) th sg sn pr fk fp rws cd ds wc wd nn nE nC nK nO ln lF lC lT lO fn fC fP ak ac pt hT (nI (1)) (nI (q + 4))) rfl h0 rfl rfl (Nat.le_of_ble_eq_true rfl) ⟨Nat.le_of_ble_eq_true rfl, Nat.le_of_ble_eq_true rfl⟩ ⟨Nat.le_of_ble_eq_true rfl, Nat.le_of_ble_eq_true rfl⟩ (fun r' n' M477 hp => ?_)
            obtain ⟨hr', hn', hM477, hf477⟩ := hp
            rw [hn', hr']
            obtain ⟨v477_0, v477_1, v477_2, v477_3, v477_4, v477_5, v477_6, v477_7, v477_8, v477_9, v477_10, v477_11, v477_12, v477_13, v477_14, v477_15, v477_16, v477_17, v477_18, vb477_0, vb477_1, vb477_2, vb477_3, vb477_4, vb477_5⟩ := id hM477
            show xW p l e ({ frames := 4, cells := 0, slots := 0, locals := 96 } : Room) s m args below meth c D xcl (x_A M nx) 8 (MQ below (x_Q D xcl (x_A M nx) (mcPost nx M a th sg sn pr fk fp rws cd ds wc wd nn nE nC nK nO ln lF lC lT lO fn fC fP ak ac pt n (rM tx sn q) (cN tx (q + rM tx sn q) (rD tx sn (q + rM tx sn q))) (mrc tx sn ds xs dg n q))) args s 0 0 (x_A M nx)) 0 0 (nx) M477 107 [(5, .int (nI (q + rM tx sn q))), (4, .int (nI (rM tx sn q))), (3, .int (nI (120 + n))), (2, .int (nI (n))), (0, .ref (a)), (1, .int (nI (q)))] [.int (nI (0))]
            exact x_zret F hr (by rfl) dM_readsCode_107 (by rw [show mrc tx sn ds xs dg n q = some (1, q + 4) from by rw [mrc, if_neg (fun z => c1 z.1), if_neg h70, if_neg c36, if_pos c37]]; exact ⟨rfl, fun b hb => (hf477 _ (by omega)).trans (rfl), rfl, _, _, (fun i hi => ⟨rfl, rfl⟩), hM477⟩)
        · skip
          have c36 : n = 40 := by
            exact (nI_eq (a := n) (b := 40) (by omega) (by omega)).mp c36
          refine x_aload_n F 4 dM_readsCode_86 rfl rfl ?_
          refine x_iconst F (v := nI (5)) dM_readsCode_87 (by decide) ?_
          refine x_iload_n F 5 dM_readsCode_88 rfl rfl ?_
          refine yVr (n := 2) (As := [.int (nI (5)), .int (nI (q))]) (ci := 6) F kmM_115 kiM_fails ksM_fails knM kcM_fails (by decide +kernel) dM_readsCode_89 (cM_fails l (nx) M (a) th sg sn pr fk fp rws cd ds wc wd nn nE nC nK nO ln lF lC lT lO fn fC fP ak ac pt hT (nI (5)) (nI (q))) rfl h0 rfl rfl (Nat.le_of_ble_eq_true rfl) ⟨Nat.le_of_ble_eq_true rfl, Nat.le_of_ble_eq_true rfl⟩ ⟨Nat.le_of_ble_eq_true rfl, Nat.le_of_ble_eq_true rfl⟩ (fun r' n' M478 hp => ?_)
          obtain ⟨hr', hn', hM478, hf478⟩ := hp
          rw [hn', hr']
          obtain ⟨v478_0, v478_1, v478_2, v478_3, v478_4, v478_5, v478_6, v478_7, v478_8, v478_9, v478_10, v478_11, v478_12, v478_13, v478_14, v478_15, v478_16, v478_17, v478_18, vb478_0, vb478_1, vb478_2, vb478_3, vb478_4, vb478_5⟩ := id hM478
          show xW p l e ({ frames := 4, cells := 0, slots := 0, locals := 96 } : Room) s m args below meth c D xcl (x_A M nx) 8 (MQ below (x_Q D xcl (x_A M nx) (mcPost nx M a th sg sn pr fk fp rws cd ds wc wd nn nE nC nK nO ln lF lC lT lO fn fC fP ak ac pt n (rM tx sn q) (cN tx (q + rM tx sn q) (rD tx sn (q + rM tx sn q))) (mrc tx sn ds xs dg n q))) args s 0 0 (x_A M nx)) 0 0 (nx) M478 92 [(5, .int (nI (q + rM tx sn q))), (4, .int (nI (rM tx sn q))), (3, .int (nI (120 + n))), (2, .int (nI (n))), (0, .ref (a)), (1, .int (nI (q)))] [.int (nI (0))]
          exact x_zret F hr (by rfl) dM_readsCode_92 (by rw [show mrc tx sn ds xs dg n q = some (5, q) from by rw [mrc, if_neg (fun z => c1 z.1), if_neg h70, if_pos c36]]; exact ⟨rfl, fun b hb => (hf478 _ (by omega)).trans (rfl), rfl, _, _, (fun i hi => ⟨rfl, rfl⟩), hM478⟩)
      · skip
        have h70 : mPre n ds < nI (rM tx sn q) := Int32.not_le.mp c35
        refine x_aload_n F 4 dM_readsCode_73 rfl rfl ?_
        refine x_iconst F (v := nI (2)) dM_readsCode_74 (by decide) ?_
        refine x_iload_n F 5 dM_readsCode_75 rfl rfl ?_
        refine yVr (n := 2) (As := [.int (nI (2)), .int (nI (q))]) (ci := 6) F kmM_115 kiM_fails ksM_fails knM kcM_fails (by decide +kernel) dM_readsCode_76 (cM_fails l (nx) M (a) th sg sn pr fk fp rws cd ds wc wd nn nE nC nK nO ln lF lC lT lO fn fC fP ak ac pt hT (nI (2)) (nI (q))) rfl h0 rfl rfl (Nat.le_of_ble_eq_true rfl) ⟨Nat.le_of_ble_eq_true rfl, Nat.le_of_ble_eq_true rfl⟩ ⟨Nat.le_of_ble_eq_true rfl, Nat.le_of_ble_eq_true rfl⟩ (fun r' n' M479 hp => ?_)
        obtain ⟨hr', hn', hM479, hf479⟩ := hp
        rw [hn', hr']
        obtain ⟨v479_0, v479_1, v479_2, v479_3, v479_4, v479_5, v479_6, v479_7, v479_8, v479_9, v479_10, v479_11, v479_12, v479_13, v479_14, v479_15, v479_16, v479_17, v479_18, vb479_0, vb479_1, vb479_2, vb479_3, vb479_4, vb479_5⟩ := id hM479
        show xW p l e ({ frames := 4, cells := 0, slots := 0, locals := 96 } : Room) s m args below meth c D xcl (x_A M nx) 8 (MQ below (x_Q D xcl (x_A M nx) (mcPost nx M a th sg sn pr fk fp rws cd ds wc wd nn nE nC nK nO ln lF lC lT lO fn fC fP ak ac pt n (rM tx sn q) (cN tx (q + rM tx sn q) (rD tx sn (q + rM tx sn q))) (mrc tx sn ds xs dg n q))) args s 0 0 (x_A M nx)) 0 0 (nx) M479 79 [(5, .int (nI (q + rM tx sn q))), (4, .int (nI (rM tx sn q))), (3, .int (nI (120 + n))), (2, .int (nI (n))), (0, .ref (a)), (1, .int (nI (q)))] [.int (nI (0))]
        exact x_zret F hr (by rfl) dM_readsCode_79 (by rw [show mrc tx sn ds xs dg n q = some (2, q) from by rw [mrc, if_neg (fun z => c1 z.1), if_pos h70]]; exact ⟨rfl, fun b hb => (hf479 _ (by omega)).trans (rfl), rfl, _, _, (fun i hi => ⟨rfl, rfl⟩), hM479⟩)
  · skip
    have c1 : rM tx sn q = 0 := by
      exact (nI_eq (a := rM tx sn q) (b := 0) (by omega) (by omega)).mp c1
    refine x_aload_n F 4 dM_readsCode_31 rfl rfl ?_
    refine x_get (ci := 6) F 1 (x_in inM) rfl (by decide) (x_m kfM_7) dM_readsCode_32 h0 rfl ?_
    refine x_iload_n F 5 dM_readsCode_35 rfl rfl ?_
    refine x_iald F dM_readsCode_36 h1 (pk_in (q) (400) (by omega)) ?_
    refine xW.toi (nI (tx (q))) (by rw [nI_clamp (by omega)]; exact (hX _ (by omega)).1) ?_
    have htx := (hX q (by omega)).2
    refine yS (n := 1) (As := [.int (nI (tx (q)))]) F kmM_80 ktM_isDigit knM kcM_isDigit (by decide +kernel) dM_readsCode_37 (cM_isDigit l (nx) M (tx (q)) (by omega)) rfl rfl (Nat.le_of_ble_eq_true rfl) ⟨Nat.le_of_ble_eq_true rfl, Nat.le_of_ble_eq_true rfl⟩ ⟨Nat.le_of_ble_eq_true rfl, Nat.le_of_ble_eq_true rfl⟩ ?_
    refine x_if_ne F (tgt := 50) dM_readsCode_40 (by decide) (fun c59 => ?_) (fun c59 => ?_)
    · skip
      have c59 : (dig (tx (q))) = true := bI_1 c59
      refine x_iload F 1 dM_readsCode_50 rfl ?_
      refine x_iload_n F 3 dM_readsCode_52 rfl rfl ?_
      refine x_if_ne F (tgt := 60) dM_readsCode_53 (by decide) (fun c60 => ?_) (fun c60 => ?_)
      · skip
        have c60 : n ≠ 0 := by
          have z : ¬ (n = 0) := fun zz => c60 ((nI_eq (a := n) (b := 0) (by omega) (by omega)).mpr zz)
          omega
        obtain ⟨n0, hn1⟩ : ∃ n0, n = n0 + 1 := ⟨n - 1, by omega⟩
        refine x_aload_n F 4 dM_readsCode_60 rfl rfl ?_
        refine x_get (ci := 6) F 8 (x_in inM) rfl (by decide) (x_m kfM_24) dM_readsCode_61 h0 rfl ?_
        refine x_iload_n F 2 dM_readsCode_64 rfl rfl ?_
        refine x_iconst F (v := nI (1)) dM_readsCode_65 (by decide) ?_
        refine x_isub F dM_readsCode_66 ?_
        refine xW.toi (nI (120 + n0)) (by rw [hn1]; exact nI_pred (120 + n0)) ?_
        refine x_iald F dM_readsCode_67 h4 (pk_in (120 + n0) (160) (by omega)) ?_
        refine xW.toi ((ds) (120 + n0)) (by rw [nI_clamp (by omega)]) ?_
        refine x_iconst F (v := nI (1)) dM_readsCode_68 (by decide) ?_
        refine x_iadd F dM_readsCode_69 ?_
        refine xW.toi (ds (120 + n0) + nI 1) (rfl) ?_
        refine xW.toi (mPre n ds) (by rw [hn1]; rfl) ?_
        refine x_icmp_le F (tgt := 80) dM_readsCode_70 (by decide) (fun c61 => ?_) (fun c61 => ?_)
        · skip
          have h70 : ¬ mPre n ds < nI (rM tx sn q) := Int32.not_lt.mpr c61
          refine x_iload_n F 3 dM_readsCode_80 rfl rfl ?_
          refine x_bipush F (v := nI (40)) dM_readsCode_81 (by decide) ?_
          refine x_icmp_ne F (tgt := 93) dM_readsCode_83 (by decide) (fun c62 => ?_) (fun c62 => ?_)
          · skip
            have c62 : n ≠ 40 := by
              have z : ¬ (n = 40) := fun zz => c62 ((nI_eq (a := n) (b := 40) (by omega) (by omega)).mpr zz)
              omega
            refine x_iload F 1 dM_readsCode_93 rfl ?_
            refine x_iconst F (v := nI (4)) dM_readsCode_95 (by decide) ?_
            refine x_icmp_le F (tgt := 108) dM_readsCode_96 (by decide) (fun c63 => ?_) (fun c63 => ?_)
            · skip
              have c63 : rM tx sn q ≤ 4 := by
                exact (nI_leI (a := rM tx sn q) (b := 4) (by omega) (by omega)).mp c63
              refine x_aload_n F 4 dM_readsCode_108 rfl rfl ?_
              refine x_iload F 0 dM_readsCode_109 rfl ?_
              refine x_iconst F (v := nI (1)) dM_readsCode_111 (by decide) ?_
              refine yV (n := 2) (As := [.int (nI (q + rM tx sn q)), .int (nI (1))]) (ci := 6) F kmM_111 kiM_run ksM_run knM kcM_run (by decide +kernel) dM_readsCode_112 (cM_run1 l (nx) M (a) th sg sn pr fk fp rws cd ds wc wd nn nE nC nK nO ln lF lC lT lO fn fC fP ak ac pt hT tx hX (q + rM tx sn q) (by omega)) rfl h0 rfl rfl (Nat.le_of_ble_eq_true rfl) ⟨Nat.le_of_ble_eq_true rfl, Nat.le_of_ble_eq_true rfl⟩ ⟨Nat.le_of_ble_eq_true rfl, Nat.le_of_ble_eq_true rfl⟩ ?_
              refine x_istore F [(6, .int (nI (rD tx sn (q + rM tx sn q)))), (5, .int (nI (q + rM tx sn q))), (4, .int (nI (rM tx sn q))), (3, .int (nI (120 + n))), (2, .int (nI (n))), (0, .ref (a)), (1, .int (nI (q)))] dM_readsCode_115 (by decide) rfl ?_
              have hrl : rD tx sn (q + rM tx sn q) ≤ sn - (q + rM tx sn q) := rn_le _ _ _ _
              refine x_iload F 0 dM_readsCode_117 rfl ?_
              refine x_if_ne F (tgt := 130) dM_readsCode_119 (by decide) (fun c64 => ?_) (fun c64 => ?_)
              · skip
                have c64 : rD tx sn (q + rM tx sn q) ≠ 0 := by
                  have z : ¬ (rD tx sn (q + rM tx sn q) = 0) := fun zz => c64 ((nI_eq (a := rD tx sn (q + rM tx sn q)) (b := 0) (by omega) (by omega)).mpr zz)
                  omega
                refine x_iload F 0 dM_readsCode_130 rfl ?_
                refine x_bipush F (v := nI (10)) dM_readsCode_132 (by decide) ?_
                refine x_icmp_gt F (tgt := 145) dM_readsCode_134 (by decide) (fun c65 => ?_) (fun c65 => ?_)
                · skip
                  have c65 : 10 < rD tx sn (q + rM tx sn q) := by
                    exact (nI_ltI (a := 10) (b := rD tx sn (q + rM tx sn q)) (by omega) (by omega)).mp c65
                  refine x_aload_n F 5 dM_readsCode_145 rfl rfl ?_
                  refine x_iconst F (v := nI (1)) dM_readsCode_146 (by decide) ?_
                  refine x_iload F 0 dM_readsCode_147 rfl ?_
                  refine x_bipush F (v := nI (10)) dM_readsCode_149 (by decide) ?_
                  refine x_icmp_le F (tgt := 162) dM_readsCode_151 (by decide) (fun c66 => ?_) (fun c66 => ?_)
                  · skip
                    have c66 : rD tx sn (q + rM tx sn q) ≤ 10 := by
                      exact (nI_leI (a := rD tx sn (q + rM tx sn q)) (b := 10) (by omega) (by omega)).mp c66
                    exact absurd c66 (by omega)
                  · skip
                    have c66 : 10 < rD tx sn (q + rM tx sn q) := by
                      have z : ¬ (rD tx sn (q + rM tx sn q) ≤ 10) := fun zz => c66 ((nI_leI (a := rD tx sn (q + rM tx sn q)) (b := 10) (by omega) (by omega)).mpr zz)
                      omega
                    refine x_iload F 1 dM_readsCode_154 rfl ?_
                    refine x_bipush F (v := nI (10)) dM_readsCode_156 (by decide) ?_
                    refine x_iadd F dM_readsCode_158 ?_
                    refine xW.toi (nI (q + rM tx sn q + 10)) (nI_add _ _) ?_
                    refine x_goto F (tgt := 167) dM_readsCode_159 (by decide) ?_
                    refine yVr (n := 2) (As := [.int (nI (1)), .int (nI (q + rM tx sn q + 10))]) (ci := 6) F kmM_115 kiM_fails ksM_fails knM kcM_fails (by decide +kernel) dM_readsCode_167 (cM_fails l (nx) M (a) th sg sn pr fk fp rws cd ds wc wd nn nE nC nK nO ln lF lC lT lO fn fC fP ak ac pt hT (nI (1)) (nI (q + rM tx sn q + 10))) rfl h0 rfl rfl (Nat.le_of_ble_eq_true rfl) ⟨Nat.le_of_ble_eq_true rfl, Nat.le_of_ble_eq_true rfl⟩ ⟨Nat.le_of_ble_eq_true rfl, Nat.le_of_ble_eq_true rfl⟩ (fun r' n' M480 hp => ?_)
                    obtain ⟨hr', hn', hM480, hf480⟩ := hp
                    rw [hn', hr']
                    obtain ⟨v480_0, v480_1, v480_2, v480_3, v480_4, v480_5, v480_6, v480_7, v480_8, v480_9, v480_10, v480_11, v480_12, v480_13, v480_14, v480_15, v480_16, v480_17, v480_18, vb480_0, vb480_1, vb480_2, vb480_3, vb480_4, vb480_5⟩ := id hM480
                    show xW p l e ({ frames := 4, cells := 0, slots := 0, locals := 96 } : Room) s m args below meth c D xcl (x_A M nx) 8 (MQ below (x_Q D xcl (x_A M nx) (mcPost nx M a th sg sn pr fk fp rws cd ds wc wd nn nE nC nK nO ln lF lC lT lO fn fC fP ak ac pt n (rM tx sn q) (cN tx (q + rM tx sn q) (rD tx sn (q + rM tx sn q))) (mrc tx sn ds xs dg n q))) args s 0 0 (x_A M nx)) 0 0 (nx) M480 170 [(6, .int (nI (rD tx sn (q + rM tx sn q)))), (5, .int (nI (q + rM tx sn q))), (4, .int (nI (rM tx sn q))), (3, .int (nI (120 + n))), (2, .int (nI (n))), (0, .ref (a)), (1, .int (nI (q)))] [.int (nI (0))]
                    exact x_zret F hr (by rfl) dM_readsCode_170 (by rw [show mrc tx sn ds xs dg n q = some (1, q + rM tx sn q + 10) from by rw [mrc, if_neg (fun z => by have z := z.2; rw [c59] at z; cases z), if_neg h70, if_neg c62, if_neg (by omega), if_neg c64, if_pos c65]]; exact ⟨rfl, fun b hb => (hf480 _ (by omega)).trans (rfl), rfl, _, _, (fun i hi => ⟨rfl, rfl⟩), hM480⟩)
                · skip
                  have c65 : rD tx sn (q + rM tx sn q) ≤ 10 := by
                    have z : ¬ (10 < rD tx sn (q + rM tx sn q)) := fun zz => c65 ((nI_ltI (a := 10) (b := rD tx sn (q + rM tx sn q)) (by omega) (by omega)).mpr zz)
                    omega
                  refine x_iload F 0 dM_readsCode_137 rfl ?_
                  refine x_iconst F (v := nI (2)) dM_readsCode_139 (by decide) ?_
                  refine x_irem F dM_readsCode_140 (by decide) ?_
                  refine xW.toi (nI ((rD tx sn (q + rM tx sn q)) % 2)) (pk_rem (by omega) (by omega) (by omega)) ?_
                  refine x_iconst F (v := nI (1)) dM_readsCode_141 (by decide) ?_
                  refine x_icmp_ne F (tgt := 171) dM_readsCode_142 (by decide) (fun c67 => ?_) (fun c67 => ?_)
                  · skip
                    have c67 : (rD tx sn (q + rM tx sn q)) % 2 ≠ 1 := by
                      have z : ¬ ((rD tx sn (q + rM tx sn q)) % 2 = 1) := fun zz => c67 ((nI_eq (a := (rD tx sn (q + rM tx sn q)) % 2) (b := 1) (by omega) (by omega)).mpr zz)
                      omega
                    refine x_aload_n F 5 dM_readsCode_171 rfl rfl ?_
                    refine x_get (ci := 6) F 8 (x_in inM) rfl (by decide) (x_m kfM_24) dM_readsCode_172 h0 rfl ?_
                    refine x_iload_n F 3 dM_readsCode_175 rfl rfl ?_
                    refine x_iload F 2 dM_readsCode_176 rfl ?_
                    refine x_iast F dM_readsCode_178 h4 (pk_in (120 + n) (160) (by omega)) ?_
                    rw [nI_clamp (show 120 + n < 2 ^ 31 by omega)]
                    show xW p l e ({ frames := 4, cells := 0, slots := 0, locals := 96 } : Room) s m args below meth c D xcl (x_A M nx) 8 (MQ below (x_Q D xcl (x_A M nx) (mcPost nx M a th sg sn pr fk fp rws cd ds wc wd nn nE nC nK nO ln lF lC lT lO fn fC fP ak ac pt n (rM tx sn q) (cN tx (q + rM tx sn q) (rD tx sn (q + rM tx sn q))) (mrc tx sn ds xs dg n q))) args s 0 0 (x_A M nx)) 0 0 (nx) (x_up M (a + 4) (.inl (.int, 160, .inl (upd (ds) (120 + n) (nI (rM tx sn q)))))) 179 [(6, .int (nI (rD tx sn (q + rM tx sn q)))), (5, .int (nI (q + rM tx sn q))), (4, .int (nI (rM tx sn q))), (3, .int (nI (120 + n))), (2, .int (nI (n))), (0, .ref (a)), (1, .int (nI (q)))] []
                    refine x_aload_n F 5 dM_readsCode_179 rfl rfl ?_
                    refine x_get (ci := 6) F 7 (x_in inM) rfl (by decide) (x_m kfM_20) dM_readsCode_180 (x_up_k h0 (by omega)) rfl ?_
                    refine x_iload_n F 3 dM_readsCode_183 rfl rfl ?_
                    refine x_aload_n F 5 dM_readsCode_184 rfl rfl ?_
                    refine x_iload F 1 dM_readsCode_185 rfl ?_
                    refine x_iload F 0 dM_readsCode_187 rfl ?_
                    refine yV (n := 2) (As := [.int (nI (q + rM tx sn q)), .int (nI (rD tx sn (q + rM tx sn q)))]) (ci := 6) F kmM_119 kiM_codeAt ksM_codeAt knM kcM_codeAt (by decide +kernel) dM_readsCode_189 (cM_codeAt l (nx) (x_up M (a + 4) (.inl (.int, 160, .inl (upd (ds) (120 + n) (nI (rM tx sn q)))))) (a) th sg sn pr fk fp rws cd (upd (ds) (120 + n) (nI (rM tx sn q))) wc wd nn nE nC nK nO ln lF lC lT lO fn fC fP ak ac pt ⟨(x_up_k h0 (by omega)), (x_up_k h1 (by omega)), (x_up_k h2 (by omega)), (x_up_k h3 (by omega)), x_up_s, (x_up_k h5 (by omega)), (x_up_k h6 (by omega)), (x_up_k h7 (by omega)), (x_up_k h8 (by omega)), (x_up_k h9 (by omega)), (x_up_k h10 (by omega)), (x_up_k h11 (by omega)), (x_up_k h12 (by omega)), (x_up_k h13 (by omega)), (x_up_k h14 (by omega)), (x_up_k h15 (by omega)), (x_up_k h16 (by omega)), (x_up_k h17 (by omega)), (x_up_k h18 (by omega)), by omega, by omega, by omega, by omega, by omega, by omega⟩ tx hX (q + rM tx sn q) (rD tx sn (q + rM tx sn q)) (by omega) (fun i hi => rn_all hi)) rfl (x_up_k h0 (by omega)) rfl rfl (Nat.le_of_ble_eq_true rfl) ⟨Nat.le_of_ble_eq_true rfl, Nat.le_of_ble_eq_true rfl⟩ ⟨Nat.le_of_ble_eq_true rfl, Nat.le_of_ble_eq_true rfl⟩ ?_
                    refine x_last F dM_readsCode_192 (x_up_k h3 (by omega)) (pk_in (120 + n) (160) (by omega)) ?_
                    rw [nI_clamp (show 120 + n < 2 ^ 31 by omega)]
                    show xW p l e ({ frames := 4, cells := 0, slots := 0, locals := 96 } : Room) s m args below meth c D xcl (x_A M nx) 8 (MQ below (x_Q D xcl (x_A M nx) (mcPost nx M a th sg sn pr fk fp rws cd ds wc wd nn nE nC nK nO ln lF lC lT lO fn fC fP ak ac pt n (rM tx sn q) (cN tx (q + rM tx sn q) (rD tx sn (q + rM tx sn q))) (mrc tx sn ds xs dg n q))) args s 0 0 (x_A M nx)) 0 0 (nx) (x_up (x_up M (a + 4) (.inl (.int, 160, .inl (upd (ds) (120 + n) (nI (rM tx sn q)))))) (a + 3) (.inl (.long, 160, .inr (.inl (vp_updL (cd) (120 + n) (lN (cN tx (q + rM tx sn q) (rD tx sn (q + rM tx sn q))))))))) 193 [(6, .int (nI (rD tx sn (q + rM tx sn q)))), (5, .int (nI (q + rM tx sn q))), (4, .int (nI (rM tx sn q))), (3, .int (nI (120 + n))), (2, .int (nI (n))), (0, .ref (a)), (1, .int (nI (q)))] []
                    have hX10 : cdg (cN tx (q + rM tx sn q) (rD tx sn (q + rM tx sn q))) (rD tx sn (q + rM tx sn q)) := cN_dg (by omega) (fun i hi => rn_all hi)
                    refine x_aload_n F 5 dM_readsCode_193 rfl rfl ?_
                    refine x_bipush F (v := nI (120)) dM_readsCode_194 (by decide) ?_
                    refine x_iload_n F 3 dM_readsCode_196 rfl rfl ?_
                    refine yV (n := 2) (As := [.int (nI (120)), .int (nI (120 + n))]) (ci := 6) F kmM_123 kiM_above ksM_above knM kcM_above (by decide +kernel) dM_readsCode_197 (cM_above l (nx) (x_up (x_up M (a + 4) (.inl (.int, 160, .inl (upd (ds) (120 + n) (nI (rM tx sn q)))))) (a + 3) (.inl (.long, 160, .inr (.inl (vp_updL (cd) (120 + n) (lN (cN tx (q + rM tx sn q) (rD tx sn (q + rM tx sn q))))))))) (a) th sg sn pr fk fp rws (vp_updL (cd) (120 + n) (lN (cN tx (q + rM tx sn q) (rD tx sn (q + rM tx sn q))))) (upd (ds) (120 + n) (nI (rM tx sn q))) wc wd nn nE nC nK nO ln lF lC lT lO fn fC fP ak ac pt ⟨(x_up_k (x_up_k h0 (by omega)) (by omega)), (x_up_k (x_up_k h1 (by omega)) (by omega)), (x_up_k (x_up_k h2 (by omega)) (by omega)), x_up_s, (x_up_k x_up_s (by omega)), (x_up_k (x_up_k h5 (by omega)) (by omega)), (x_up_k (x_up_k h6 (by omega)) (by omega)), (x_up_k (x_up_k h7 (by omega)) (by omega)), (x_up_k (x_up_k h8 (by omega)) (by omega)), (x_up_k (x_up_k h9 (by omega)) (by omega)), (x_up_k (x_up_k h10 (by omega)) (by omega)), (x_up_k (x_up_k h11 (by omega)) (by omega)), (x_up_k (x_up_k h12 (by omega)) (by omega)), (x_up_k (x_up_k h13 (by omega)) (by omega)), (x_up_k (x_up_k h14 (by omega)) (by omega)), (x_up_k (x_up_k h15 (by omega)) (by omega)), (x_up_k (x_up_k h16 (by omega)) (by omega)), (x_up_k (x_up_k h17 (by omega)) (by omega)), (x_up_k (x_up_k h18 (by omega)) (by omega)), by omega, by omega, by omega, by omega, by omega, by omega⟩ 120 n (by omega)) rfl (x_up_k (x_up_k h0 (by omega)) (by omega)) rfl rfl (Nat.le_of_ble_eq_true rfl) ⟨Nat.le_of_ble_eq_true rfl, Nat.le_of_ble_eq_true rfl⟩ ⟨Nat.le_of_ble_eq_true rfl, Nat.le_of_ble_eq_true rfl⟩ ?_
                    rcases o_cases (mUp (upd ds (120 + n) (nI (rM tx sn q))) 120 n) with hup | ⟨j, hup⟩
                    · skip
                      refine xW.ste (st' := [.int ((-1))]) (by show ([.int (oj 120 (mUp (upd ds (120 + n) (nI (rM tx sn q))) 120 n))] : List Value) = _; rw [hup]; rfl) ?_
                      refine x_istore F [(7, .int ((-1))), (6, .int (nI (rD tx sn (q + rM tx sn q)))), (5, .int (nI (q + rM tx sn q))), (4, .int (nI (rM tx sn q))), (3, .int (nI (120 + n))), (2, .int (nI (n))), (0, .ref (a)), (1, .int (nI (q)))] dM_readsCode_200 (by decide) rfl ?_
                      refine x_iload F 3 dM_readsCode_202 rfl ?_
                      refine x_if_ne F (tgt := 213) dM_readsCode_204 (by decide) (fun c68 => ?_) (fun c68 => ?_)
                      · skip
                        have c68 : rM tx sn q ≠ 0 := by
                          have z : ¬ (rM tx sn q = 0) := fun zz => c68 ((nI_eq (a := rM tx sn q) (b := 0) (by omega) (by omega)).mpr zz)
                          omega
                        refine x_iload F 3 dM_readsCode_213 rfl ?_
                        refine x_if_le F (tgt := 254) dM_readsCode_215 (by decide) (fun c69 => ?_) (fun c69 => ?_)
                        · skip
                          have c69 : rM tx sn q ≤ 0 := by
                            exact (nI_leI (a := rM tx sn q) (b := 0) (by omega) (by omega)).mp c69
                          exact absurd c69 (by omega)
                        · skip
                          have c69 : 0 < rM tx sn q := by
                            have z : ¬ (rM tx sn q ≤ 0) := fun zz => c69 ((nI_leI (a := rM tx sn q) (b := 0) (by omega) (by omega)).mpr zz)
                            omega
                          refine x_aload_n F 6 dM_readsCode_218 rfl rfl ?_
                          refine x_get (ci := 6) F 7 (x_in inM) rfl (by decide) (x_m kfM_20) dM_readsCode_219 (x_up_k (x_up_k h0 (by omega)) (by omega)) rfl ?_
                          refine x_iload_n F 4 dM_readsCode_222 rfl rfl ?_
                          refine x_lald F dM_readsCode_223 x_up_s (pk_in (120 + n) (160) (by omega)) ?_
                          refine xW.tol (lN (cN tx (q + rM tx sn q) (rD tx sn (q + rM tx sn q)))) (by rw [nI_clamp (by omega)]; exact vp_us) ?_
                          refine x_aload_n F 6 dM_readsCode_224 rfl rfl ?_
                          refine x_get (ci := 6) F 7 (x_in inM) rfl (by decide) (x_m kfM_20) dM_readsCode_225 (x_up_k (x_up_k h0 (by omega)) (by omega)) rfl ?_
                          refine x_iload F 0 dM_readsCode_228 rfl ?_
                          refine x_if_ge F (tgt := 237) dM_readsCode_230 (by decide) (fun c70 => ?_) (fun c70 => ?_)
                          · skip
                            exact absurd c70 (by decide)
                          · skip
                            refine x_iload_n F 4 dM_readsCode_233 rfl rfl ?_
                            refine x_goto F (tgt := 239) dM_readsCode_234 (by decide) ?_
                            refine x_lald F dM_readsCode_239 x_up_s (pk_in (120 + n) (160) (by omega)) ?_
                            refine xW.tol (lN (cN tx (q + rM tx sn q) (rD tx sn (q + rM tx sn q)))) (by rw [nI_clamp (by omega)]; exact vp_us) ?_
                            refine yS (n := 2) (As := [.long (lN (cN tx (q + rM tx sn q) (rD tx sn (q + rM tx sn q)))), .long (lN (cN tx (q + rM tx sn q) (rD tx sn (q + rM tx sn q))))]) F kmM_107 ktM_begins knM kcM_begins (by decide +kernel) dM_readsCode_240 (cM_begins l (nx) (x_up (x_up M (a + 4) (.inl (.int, 160, .inl (upd (ds) (120 + n) (nI (rM tx sn q)))))) (a + 3) (.inl (.long, 160, .inr (.inl (vp_updL (cd) (120 + n) (lN (cN tx (q + rM tx sn q) (rD tx sn (q + rM tx sn q))))))))) (cN tx (q + rM tx sn q) (rD tx sn (q + rM tx sn q))) (rD tx sn (q + rM tx sn q)) (cN tx (q + rM tx sn q) (rD tx sn (q + rM tx sn q))) (rD tx sn (q + rM tx sn q)) hX10 hX10) rfl rfl (Nat.le_of_ble_eq_true rfl) ⟨Nat.le_of_ble_eq_true rfl, Nat.le_of_ble_eq_true rfl⟩ ⟨Nat.le_of_ble_eq_true rfl, Nat.le_of_ble_eq_true rfl⟩ ?_
                            refine x_if_ne F (tgt := 254) dM_readsCode_243 (by decide) (fun c71 => ?_) (fun c71 => ?_)
                            · skip
                              have c71 : (mbg (cN tx (q + rM tx sn q) (rD tx sn (q + rM tx sn q))) (rD tx sn (q + rM tx sn q)) (cN tx (q + rM tx sn q) (rD tx sn (q + rM tx sn q))) (rD tx sn (q + rM tx sn q))) = true := bI_1 c71
                              have hla := mUp_la (by omega) hup
                              have hbad : mBad ds xs dg n (rM tx sn q) (cN tx (q + rM tx sn q) (rD tx sn (q + rM tx sn q))) (rD tx sn (q + rM tx sn q)) = false := by rw [mBad, if_neg (by omega), hla]; rw [mbg_self] at c71; cases c71
                              refine x_iload_n F 5 dM_readsCode_254 rfl rfl ?_
                              refine x_if_eq F (tgt := 288) dM_readsCode_255 (by decide) (fun c72 => ?_) (fun c72 => ?_)
                              · skip
                                have c72 : n = 0 := by
                                  exact (nI_eq (a := n) (b := 0) (by omega) (by omega)).mp c72
                                exact absurd c72 (by omega)
                              · skip
                                have c72 : n ≠ 0 := by
                                  have z : ¬ (n = 0) := fun zz => c72 ((nI_eq (a := n) (b := 0) (by omega) (by omega)).mpr zz)
                                  omega
                                obtain ⟨n0, hn1⟩ : ∃ n0, n = n0 + 1 := ⟨n - 1, by omega⟩
                                refine x_aload_n F 6 dM_readsCode_258 rfl rfl ?_
                                refine x_get (ci := 6) F 7 (x_in inM) rfl (by decide) (x_m kfM_20) dM_readsCode_259 (x_up_k (x_up_k h0 (by omega)) (by omega)) rfl ?_
                                refine x_iload_n F 4 dM_readsCode_262 rfl rfl ?_
                                refine x_lald F dM_readsCode_263 x_up_s (pk_in (120 + n) (160) (by omega)) ?_
                                refine xW.tol (lN (cN tx (q + rM tx sn q) (rD tx sn (q + rM tx sn q)))) (by rw [nI_clamp (by omega)]; exact vp_us) ?_
                                refine x_aload_n F 6 dM_readsCode_264 rfl rfl ?_
                                refine x_get (ci := 6) F 7 (x_in inM) rfl (by decide) (x_m kfM_20) dM_readsCode_265 (x_up_k (x_up_k h0 (by omega)) (by omega)) rfl ?_
                                refine x_iload_n F 4 dM_readsCode_268 rfl rfl ?_
                                refine x_iconst F (v := nI (1)) dM_readsCode_269 (by decide) ?_
                                refine x_isub F dM_readsCode_270 ?_
                                refine xW.toi (nI (120 + n0)) (by rw [hn1]; exact nI_pred (120 + n0)) ?_
                                refine x_lald F dM_readsCode_271 x_up_s (pk_in (120 + n0) (160) (by omega)) ?_
                                refine xW.tol (lN (xs n0)) (by rw [nI_clamp (by omega)]; exact (updL_ne (by omega)).trans (hcd n0 (by omega)).1) ?_
                                refine yS (n := 2) (As := [.long (lN (cN tx (q + rM tx sn q) (rD tx sn (q + rM tx sn q)))), .long (lN (xs n0))]) F kmM_126 ktM_isBehind knM kcM_isBehind (by decide +kernel) dM_readsCode_272 (cM_isBehind l (nx) (x_up (x_up M (a + 4) (.inl (.int, 160, .inl (upd (ds) (120 + n) (nI (rM tx sn q)))))) (a + 3) (.inl (.long, 160, .inr (.inl (vp_updL (cd) (120 + n) (lN (cN tx (q + rM tx sn q) (rD tx sn (q + rM tx sn q))))))))) (cN tx (q + rM tx sn q) (rD tx sn (q + rM tx sn q))) (rD tx sn (q + rM tx sn q)) (xs n0) (dg n0) hX10 (hcd n0 (by omega)).2) rfl rfl (Nat.le_of_ble_eq_true rfl) ⟨Nat.le_of_ble_eq_true rfl, Nat.le_of_ble_eq_true rfl⟩ ⟨Nat.le_of_ble_eq_true rfl, Nat.le_of_ble_eq_true rfl⟩ ?_
                                refine x_if_ne F (tgt := 288) dM_readsCode_275 (by decide) (fun c73 => ?_) (fun c73 => ?_)
                                · skip
                                  have c73 : (mbh (cN tx (q + rM tx sn q) (rD tx sn (q + rM tx sn q))) (rD tx sn (q + rM tx sn q)) (xs n0) (dg n0)) = true := bI_1 c73
                                  have hbeh : mBeh xs dg n (cN tx (q + rM tx sn q) (rD tx sn (q + rM tx sn q))) (rD tx sn (q + rM tx sn q)) = true := by rw [hn1]; exact c73
                                  refine x_iconst F (v := nI (1)) dM_readsCode_288 (by decide) ?_
                                  refine x_goto F (tgt := 293) dM_readsCode_289 (by decide) ?_
                                  exact x_zret F hr (by rfl) dM_readsCode_293 (by rw [show mrc tx sn ds xs dg n q = none from by rw [mrc, if_neg (fun z => by have z := z.2; rw [c59] at z; cases z), if_neg h70, if_neg c62, if_neg (by omega), if_neg c64, if_neg (by omega), if_neg c67, if_neg (by rw [hbad]; decide), if_neg (by rw [hbeh]; decide)]]; exact ⟨rfl, fun b hb => (x_up_n (by omega)).trans ((x_up_n (by omega)).trans (rfl)), rfl, ⟨(x_up_k (x_up_k h0 (by omega)) (by omega)), (x_up_k (x_up_k h1 (by omega)) (by omega)), (x_up_k (x_up_k h2 (by omega)) (by omega)), x_up_s, (x_up_k x_up_s (by omega)), (x_up_k (x_up_k h5 (by omega)) (by omega)), (x_up_k (x_up_k h6 (by omega)) (by omega)), (x_up_k (x_up_k h7 (by omega)) (by omega)), (x_up_k (x_up_k h8 (by omega)) (by omega)), (x_up_k (x_up_k h9 (by omega)) (by omega)), (x_up_k (x_up_k h10 (by omega)) (by omega)), (x_up_k (x_up_k h11 (by omega)) (by omega)), (x_up_k (x_up_k h12 (by omega)) (by omega)), (x_up_k (x_up_k h13 (by omega)) (by omega)), (x_up_k (x_up_k h14 (by omega)) (by omega)), (x_up_k (x_up_k h15 (by omega)) (by omega)), (x_up_k (x_up_k h16 (by omega)) (by omega)), (x_up_k (x_up_k h17 (by omega)) (by omega)), (x_up_k (x_up_k h18 (by omega)) (by omega)), by omega, by omega, by omega, by omega, by omega, by omega⟩⟩)
                                · skip
                                  have c73 : (mbh (cN tx (q + rM tx sn q) (rD tx sn (q + rM tx sn q))) (rD tx sn (q + rM tx sn q)) (xs n0) (dg n0)) = false := bI_0 c73
                                  have hbeh : mBeh xs dg n (cN tx (q + rM tx sn q) (rD tx sn (q + rM tx sn q))) (rD tx sn (q + rM tx sn q)) = false := by rw [hn1]; exact c73
                                  refine x_aload_n F 6 dM_readsCode_278 rfl rfl ?_
                                  refine x_iconst F (v := nI (4)) dM_readsCode_279 (by decide) ?_
                                  refine x_iload F 2 dM_readsCode_280 rfl ?_
                                  refine yVr (n := 2) (As := [.int (nI (4)), .int (nI (q + rM tx sn q))]) (ci := 6) F kmM_115 kiM_fails ksM_fails knM kcM_fails (by decide +kernel) dM_readsCode_282 (cM_fails l (nx) (x_up (x_up M (a + 4) (.inl (.int, 160, .inl (upd (ds) (120 + n) (nI (rM tx sn q)))))) (a + 3) (.inl (.long, 160, .inr (.inl (vp_updL (cd) (120 + n) (lN (cN tx (q + rM tx sn q) (rD tx sn (q + rM tx sn q))))))))) (a) th sg sn pr fk fp rws (vp_updL (cd) (120 + n) (lN (cN tx (q + rM tx sn q) (rD tx sn (q + rM tx sn q))))) (upd (ds) (120 + n) (nI (rM tx sn q))) wc wd nn nE nC nK nO ln lF lC lT lO fn fC fP ak ac pt ⟨(x_up_k (x_up_k h0 (by omega)) (by omega)), (x_up_k (x_up_k h1 (by omega)) (by omega)), (x_up_k (x_up_k h2 (by omega)) (by omega)), x_up_s, (x_up_k x_up_s (by omega)), (x_up_k (x_up_k h5 (by omega)) (by omega)), (x_up_k (x_up_k h6 (by omega)) (by omega)), (x_up_k (x_up_k h7 (by omega)) (by omega)), (x_up_k (x_up_k h8 (by omega)) (by omega)), (x_up_k (x_up_k h9 (by omega)) (by omega)), (x_up_k (x_up_k h10 (by omega)) (by omega)), (x_up_k (x_up_k h11 (by omega)) (by omega)), (x_up_k (x_up_k h12 (by omega)) (by omega)), (x_up_k (x_up_k h13 (by omega)) (by omega)), (x_up_k (x_up_k h14 (by omega)) (by omega)), (x_up_k (x_up_k h15 (by omega)) (by omega)), (x_up_k (x_up_k h16 (by omega)) (by omega)), (x_up_k (x_up_k h17 (by omega)) (by omega)), (x_up_k (x_up_k h18 (by omega)) (by omega)), by omega, by omega, by omega, by omega, by omega, by omega⟩ (nI (4)) (nI (q + rM tx sn q))) rfl (x_up_k (x_up_k h0 (by omega)) (by omega)) rfl rfl (Nat.le_of_ble_eq_true rfl) ⟨Nat.le_of_ble_eq_true rfl, Nat.le_of_ble_eq_true rfl⟩ ⟨Nat.le_of_ble_eq_true rfl, Nat.le_of_ble_eq_true rfl⟩ (fun r' n' M481 hp => ?_)
                                  obtain ⟨hr', hn', hM481, hf481⟩ := hp
                                  rw [hn', hr']
                                  obtain ⟨v481_0, v481_1, v481_2, v481_3, v481_4, v481_5, v481_6, v481_7, v481_8, v481_9, v481_10, v481_11, v481_12, v481_13, v481_14, v481_15, v481_16, v481_17, v481_18, vb481_0, vb481_1, vb481_2, vb481_3, vb481_4, vb481_5⟩ := id hM481
                                  show xW p l e ({ frames := 4, cells := 0, slots := 0, locals := 96 } : Room) s m args below meth c D xcl (x_A M nx) 8 (MQ below (x_Q D xcl (x_A M nx) (mcPost nx M a th sg sn pr fk fp rws cd ds wc wd nn nE nC nK nO ln lF lC lT lO fn fC fP ak ac pt n (rM tx sn q) (cN tx (q + rM tx sn q) (rD tx sn (q + rM tx sn q))) (mrc tx sn ds xs dg n q))) args s 0 0 (x_A M nx)) 0 0 (nx) M481 285 [(7, .int ((-1))), (6, .int (nI (rD tx sn (q + rM tx sn q)))), (5, .int (nI (q + rM tx sn q))), (4, .int (nI (rM tx sn q))), (3, .int (nI (120 + n))), (2, .int (nI (n))), (0, .ref (a)), (1, .int (nI (q)))] [.int (nI (0))]
                                  refine x_if_eq F (tgt := 292) dM_readsCode_285 (by decide) (fun c74 => ?_) (fun c74 => ?_)
                                  · skip
                                    have c74 : 0 = 0 := by
                                      exact (nI_eq (a := 0) (b := 0) (by omega) (by omega)).mp c74
                                    refine x_iconst F (v := nI (0)) dM_readsCode_292 (by decide) ?_
                                    exact x_zret F hr (by rfl) dM_readsCode_293 (by rw [show mrc tx sn ds xs dg n q = some (4, q + rM tx sn q) from by rw [mrc, if_neg (fun z => by have z := z.2; rw [c59] at z; cases z), if_neg h70, if_neg c62, if_neg (by omega), if_neg c64, if_neg (by omega), if_neg c67, if_neg (by rw [hbad]; decide), if_pos hbeh]]; exact ⟨rfl, fun b hb => (hf481 _ (by omega)).trans ((x_up_n (by omega)).trans ((x_up_n (by omega)).trans (rfl))), rfl, _, _, (fun i hi => ⟨updL_ne (by omega), upd_ne (by omega)⟩), hM481⟩)
                                  · skip
                                    have c74 : 0 ≠ 0 := by
                                      have z : ¬ (0 = 0) := fun zz => c74 ((nI_eq (a := 0) (b := 0) (by omega) (by omega)).mpr zz)
                                      omega
                                    exact absurd c74 (by decide)
                            · skip
                              have c71 : (mbg (cN tx (q + rM tx sn q) (rD tx sn (q + rM tx sn q))) (rD tx sn (q + rM tx sn q)) (cN tx (q + rM tx sn q) (rD tx sn (q + rM tx sn q))) (rD tx sn (q + rM tx sn q))) = false := bI_0 c71
                              have hla := mUp_la (by omega) hup
                              have hbad : mBad ds xs dg n (rM tx sn q) (cN tx (q + rM tx sn q) (rD tx sn (q + rM tx sn q))) (rD tx sn (q + rM tx sn q)) = true := by rw [mBad, if_neg (by omega), hla]
                              refine x_aload_n F 6 dM_readsCode_246 rfl rfl ?_
                              refine x_iconst F (v := nI (3)) dM_readsCode_247 (by decide) ?_
                              refine x_iload F 2 dM_readsCode_248 rfl ?_
                              refine yVr (n := 2) (As := [.int (nI (3)), .int (nI (q + rM tx sn q))]) (ci := 6) F kmM_115 kiM_fails ksM_fails knM kcM_fails (by decide +kernel) dM_readsCode_250 (cM_fails l (nx) (x_up (x_up M (a + 4) (.inl (.int, 160, .inl (upd (ds) (120 + n) (nI (rM tx sn q)))))) (a + 3) (.inl (.long, 160, .inr (.inl (vp_updL (cd) (120 + n) (lN (cN tx (q + rM tx sn q) (rD tx sn (q + rM tx sn q))))))))) (a) th sg sn pr fk fp rws (vp_updL (cd) (120 + n) (lN (cN tx (q + rM tx sn q) (rD tx sn (q + rM tx sn q))))) (upd (ds) (120 + n) (nI (rM tx sn q))) wc wd nn nE nC nK nO ln lF lC lT lO fn fC fP ak ac pt ⟨(x_up_k (x_up_k h0 (by omega)) (by omega)), (x_up_k (x_up_k h1 (by omega)) (by omega)), (x_up_k (x_up_k h2 (by omega)) (by omega)), x_up_s, (x_up_k x_up_s (by omega)), (x_up_k (x_up_k h5 (by omega)) (by omega)), (x_up_k (x_up_k h6 (by omega)) (by omega)), (x_up_k (x_up_k h7 (by omega)) (by omega)), (x_up_k (x_up_k h8 (by omega)) (by omega)), (x_up_k (x_up_k h9 (by omega)) (by omega)), (x_up_k (x_up_k h10 (by omega)) (by omega)), (x_up_k (x_up_k h11 (by omega)) (by omega)), (x_up_k (x_up_k h12 (by omega)) (by omega)), (x_up_k (x_up_k h13 (by omega)) (by omega)), (x_up_k (x_up_k h14 (by omega)) (by omega)), (x_up_k (x_up_k h15 (by omega)) (by omega)), (x_up_k (x_up_k h16 (by omega)) (by omega)), (x_up_k (x_up_k h17 (by omega)) (by omega)), (x_up_k (x_up_k h18 (by omega)) (by omega)), by omega, by omega, by omega, by omega, by omega, by omega⟩ (nI (3)) (nI (q + rM tx sn q))) rfl (x_up_k (x_up_k h0 (by omega)) (by omega)) rfl rfl (Nat.le_of_ble_eq_true rfl) ⟨Nat.le_of_ble_eq_true rfl, Nat.le_of_ble_eq_true rfl⟩ ⟨Nat.le_of_ble_eq_true rfl, Nat.le_of_ble_eq_true rfl⟩ (fun r' n' M482 hp => ?_)
                              obtain ⟨hr', hn', hM482, hf482⟩ := hp
                              rw [hn', hr']
                              obtain ⟨v482_0, v482_1, v482_2, v482_3, v482_4, v482_5, v482_6, v482_7, v482_8, v482_9, v482_10, v482_11, v482_12, v482_13, v482_14, v482_15, v482_16, v482_17, v482_18, vb482_0, vb482_1, vb482_2, vb482_3, vb482_4, vb482_5⟩ := id hM482
                              show xW p l e ({ frames := 4, cells := 0, slots := 0, locals := 96 } : Room) s m args below meth c D xcl (x_A M nx) 8 (MQ below (x_Q D xcl (x_A M nx) (mcPost nx M a th sg sn pr fk fp rws cd ds wc wd nn nE nC nK nO ln lF lC lT lO fn fC fP ak ac pt n (rM tx sn q) (cN tx (q + rM tx sn q) (rD tx sn (q + rM tx sn q))) (mrc tx sn ds xs dg n q))) args s 0 0 (x_A M nx)) 0 0 (nx) M482 253 [(7, .int ((-1))), (6, .int (nI (rD tx sn (q + rM tx sn q)))), (5, .int (nI (q + rM tx sn q))), (4, .int (nI (rM tx sn q))), (3, .int (nI (120 + n))), (2, .int (nI (n))), (0, .ref (a)), (1, .int (nI (q)))] [.int (nI (0))]
                              exact x_zret F hr (by rfl) dM_readsCode_253 (by rw [show mrc tx sn ds xs dg n q = some (3, q + rM tx sn q) from by rw [mrc, if_neg (fun z => by have z := z.2; rw [c59] at z; cases z), if_neg h70, if_neg c62, if_neg (by omega), if_neg c64, if_neg (by omega), if_neg c67, if_pos hbad]]; exact ⟨rfl, fun b hb => (hf482 _ (by omega)).trans ((x_up_n (by omega)).trans ((x_up_n (by omega)).trans (rfl))), rfl, _, _, (fun i hi => ⟨updL_ne (by omega), upd_ne (by omega)⟩), hM482⟩)
                      · skip
                        have c68 : rM tx sn q = 0 := by
                          exact (nI_eq (a := rM tx sn q) (b := 0) (by omega) (by omega)).mp c68
                        refine x_iload F 1 dM_readsCode_207 rfl ?_
                        refine x_iconst F (v := nI (2)) dM_readsCode_209 (by decide) ?_
                        refine x_icmp_ne F (tgt := 246) dM_readsCode_210 (by decide) (fun c75 => ?_) (fun c75 => ?_)
                        · skip
                          have c75 : rD tx sn (q + rM tx sn q) ≠ 2 := by
                            have z : ¬ (rD tx sn (q + rM tx sn q) = 2) := fun zz => c75 ((nI_eq (a := rD tx sn (q + rM tx sn q)) (b := 2) (by omega) (by omega)).mpr zz)
                            omega
                          have hbad : mBad ds xs dg n (rM tx sn q) (cN tx (q + rM tx sn q) (rD tx sn (q + rM tx sn q))) (rD tx sn (q + rM tx sn q)) = true := by rw [mBad, if_pos c68, decide_eq_false c75]; rfl
                          refine x_aload_n F 6 dM_readsCode_246 rfl rfl ?_
                          refine x_iconst F (v := nI (3)) dM_readsCode_247 (by decide) ?_
                          refine x_iload F 2 dM_readsCode_248 rfl ?_
                          refine yVr (n := 2) (As := [.int (nI (3)), .int (nI (q + rM tx sn q))]) (ci := 6) F kmM_115 kiM_fails ksM_fails knM kcM_fails (by decide +kernel) dM_readsCode_250 (cM_fails l (nx) (x_up (x_up M (a + 4) (.inl (.int, 160, .inl (upd (ds) (120 + n) (nI (rM tx sn q)))))) (a + 3) (.inl (.long, 160, .inr (.inl (vp_updL (cd) (120 + n) (lN (cN tx (q + rM tx sn q) (rD tx sn (q + rM tx sn q))))))))) (a) th sg sn pr fk fp rws (vp_updL (cd) (120 + n) (lN (cN tx (q + rM tx sn q) (rD tx sn (q + rM tx sn q))))) (upd (ds) (120 + n) (nI (rM tx sn q))) wc wd nn nE nC nK nO ln lF lC lT lO fn fC fP ak ac pt ⟨(x_up_k (x_up_k h0 (by omega)) (by omega)), (x_up_k (x_up_k h1 (by omega)) (by omega)), (x_up_k (x_up_k h2 (by omega)) (by omega)), x_up_s, (x_up_k x_up_s (by omega)), (x_up_k (x_up_k h5 (by omega)) (by omega)), (x_up_k (x_up_k h6 (by omega)) (by omega)), (x_up_k (x_up_k h7 (by omega)) (by omega)), (x_up_k (x_up_k h8 (by omega)) (by omega)), (x_up_k (x_up_k h9 (by omega)) (by omega)), (x_up_k (x_up_k h10 (by omega)) (by omega)), (x_up_k (x_up_k h11 (by omega)) (by omega)), (x_up_k (x_up_k h12 (by omega)) (by omega)), (x_up_k (x_up_k h13 (by omega)) (by omega)), (x_up_k (x_up_k h14 (by omega)) (by omega)), (x_up_k (x_up_k h15 (by omega)) (by omega)), (x_up_k (x_up_k h16 (by omega)) (by omega)), (x_up_k (x_up_k h17 (by omega)) (by omega)), (x_up_k (x_up_k h18 (by omega)) (by omega)), by omega, by omega, by omega, by omega, by omega, by omega⟩ (nI (3)) (nI (q + rM tx sn q))) rfl (x_up_k (x_up_k h0 (by omega)) (by omega)) rfl rfl (Nat.le_of_ble_eq_true rfl) ⟨Nat.le_of_ble_eq_true rfl, Nat.le_of_ble_eq_true rfl⟩ ⟨Nat.le_of_ble_eq_true rfl, Nat.le_of_ble_eq_true rfl⟩ (fun r' n' M483 hp => ?_)
                          obtain ⟨hr', hn', hM483, hf483⟩ := hp
                          rw [hn', hr']
                          obtain ⟨v483_0, v483_1, v483_2, v483_3, v483_4, v483_5, v483_6, v483_7, v483_8, v483_9, v483_10, v483_11, v483_12, v483_13, v483_14, v483_15, v483_16, v483_17, v483_18, vb483_0, vb483_1, vb483_2, vb483_3, vb483_4, vb483_5⟩ := id hM483
                          show xW p l e ({ frames := 4, cells := 0, slots := 0, locals := 96 } : Room) s m args below meth c D xcl (x_A M nx) 8 (MQ below (x_Q D xcl (x_A M nx) (mcPost nx M a th sg sn pr fk fp rws cd ds wc wd nn nE nC nK nO ln lF lC lT lO fn fC fP ak ac pt n (rM tx sn q) (cN tx (q + rM tx sn q) (rD tx sn (q + rM tx sn q))) (mrc tx sn ds xs dg n q))) args s 0 0 (x_A M nx)) 0 0 (nx) M483 253 [(7, .int ((-1))), (6, .int (nI (rD tx sn (q + rM tx sn q)))), (5, .int (nI (q + rM tx sn q))), (4, .int (nI (rM tx sn q))), (3, .int (nI (120 + n))), (2, .int (nI (n))), (0, .ref (a)), (1, .int (nI (q)))] [.int (nI (0))]
                          exact x_zret F hr (by rfl) dM_readsCode_253 (by rw [show mrc tx sn ds xs dg n q = some (3, q + rM tx sn q) from by rw [mrc, if_neg (fun z => by have z := z.2; rw [c59] at z; cases z), if_neg h70, if_neg c62, if_neg (by omega), if_neg c64, if_neg (by omega), if_neg c67, if_pos hbad]]; exact ⟨rfl, fun b hb => (hf483 _ (by omega)).trans ((x_up_n (by omega)).trans ((x_up_n (by omega)).trans (rfl))), rfl, _, _, (fun i hi => ⟨updL_ne (by omega), upd_ne (by omega)⟩), hM483⟩)
                        · skip
                          have c75 : rD tx sn (q + rM tx sn q) = 2 := by
                            exact (nI_eq (a := rD tx sn (q + rM tx sn q)) (b := 2) (by omega) (by omega)).mp c75
                          refine x_iload F 3 dM_readsCode_213 rfl ?_
                          refine x_if_le F (tgt := 254) dM_readsCode_215 (by decide) (fun c76 => ?_) (fun c76 => ?_)
                          · skip
                            have c76 : rM tx sn q ≤ 0 := by
                              exact (nI_leI (a := rM tx sn q) (b := 0) (by omega) (by omega)).mp c76
                            have hbad : mBad ds xs dg n (rM tx sn q) (cN tx (q + rM tx sn q) (rD tx sn (q + rM tx sn q))) (rD tx sn (q + rM tx sn q)) = false := by rw [mBad, if_pos (by omega), decide_eq_true (by omega)]; rfl
                            refine x_iload_n F 5 dM_readsCode_254 rfl rfl ?_
                            refine x_if_eq F (tgt := 288) dM_readsCode_255 (by decide) (fun c77 => ?_) (fun c77 => ?_)
                            · skip
                              have c77 : n = 0 := by
                                exact (nI_eq (a := n) (b := 0) (by omega) (by omega)).mp c77
                              exact absurd c77 (by omega)
                            · skip
                              have c77 : n ≠ 0 := by
                                have z : ¬ (n = 0) := fun zz => c77 ((nI_eq (a := n) (b := 0) (by omega) (by omega)).mpr zz)
                                omega
                              obtain ⟨n0, hn1⟩ : ∃ n0, n = n0 + 1 := ⟨n - 1, by omega⟩
                              refine x_aload_n F 6 dM_readsCode_258 rfl rfl ?_
                              refine x_get (ci := 6) F 7 (x_in inM) rfl (by decide) (x_m kfM_20) dM_readsCode_259 (x_up_k (x_up_k h0 (by omega)) (by omega)) rfl ?_
                              refine x_iload_n F 4 dM_readsCode_262 rfl rfl ?_
                              refine x_lald F dM_readsCode_263 x_up_s (pk_in (120 + n) (160) (by omega)) ?_
                              refine xW.tol (lN (cN tx (q + rM tx sn q) (rD tx sn (q + rM tx sn q)))) (by rw [nI_clamp (by omega)]; exact vp_us) ?_
                              refine x_aload_n F 6 dM_readsCode_264 rfl rfl ?_
                              refine x_get (ci := 6) F 7 (x_in inM) rfl (by decide) (x_m kfM_20) dM_readsCode_265 (x_up_k (x_up_k h0 (by omega)) (by omega)) rfl ?_
                              refine x_iload_n F 4 dM_readsCode_268 rfl rfl ?_
                              refine x_iconst F (v := nI (1)) dM_readsCode_269 (by decide) ?_
                              refine x_isub F dM_readsCode_270 ?_
                              refine xW.toi (nI (120 + n0)) (by rw [hn1]; exact nI_pred (120 + n0)) ?_
                              refine x_lald F dM_readsCode_271 x_up_s (pk_in (120 + n0) (160) (by omega)) ?_
                              refine xW.tol (lN (xs n0)) (by rw [nI_clamp (by omega)]; exact (updL_ne (by omega)).trans (hcd n0 (by omega)).1) ?_
                              refine yS (n := 2) (As := [.long (lN (cN tx (q + rM tx sn q) (rD tx sn (q + rM tx sn q)))), .long (lN (xs n0))]) F kmM_126 ktM_isBehind knM kcM_isBehind (by decide +kernel) dM_readsCode_272 (cM_isBehind l (nx) (x_up (x_up M (a + 4) (.inl (.int, 160, .inl (upd (ds) (120 + n) (nI (rM tx sn q)))))) (a + 3) (.inl (.long, 160, .inr (.inl (vp_updL (cd) (120 + n) (lN (cN tx (q + rM tx sn q) (rD tx sn (q + rM tx sn q))))))))) (cN tx (q + rM tx sn q) (rD tx sn (q + rM tx sn q))) (rD tx sn (q + rM tx sn q)) (xs n0) (dg n0) hX10 (hcd n0 (by omega)).2) rfl rfl (Nat.le_of_ble_eq_true rfl) ⟨Nat.le_of_ble_eq_true rfl, Nat.le_of_ble_eq_true rfl⟩ ⟨Nat.le_of_ble_eq_true rfl, Nat.le_of_ble_eq_true rfl⟩ ?_
                              refine x_if_ne F (tgt := 288) dM_readsCode_275 (by decide) (fun c78 => ?_) (fun c78 => ?_)
                              · skip
                                have c78 : (mbh (cN tx (q + rM tx sn q) (rD tx sn (q + rM tx sn q))) (rD tx sn (q + rM tx sn q)) (xs n0) (dg n0)) = true := bI_1 c78
                                have hbeh : mBeh xs dg n (cN tx (q + rM tx sn q) (rD tx sn (q + rM tx sn q))) (rD tx sn (q + rM tx sn q)) = true := by rw [hn1]; exact c78
                                refine x_iconst F (v := nI (1)) dM_readsCode_288 (by decide) ?_
                                refine x_goto F (tgt := 293) dM_readsCode_289 (by decide) ?_
                                exact x_zret F hr (by rfl) dM_readsCode_293 (by rw [show mrc tx sn ds xs dg n q = none from by rw [mrc, if_neg (fun z => by have z := z.2; rw [c59] at z; cases z), if_neg h70, if_neg c62, if_neg (by omega), if_neg c64, if_neg (by omega), if_neg c67, if_neg (by rw [hbad]; decide), if_neg (by rw [hbeh]; decide)]]; exact ⟨rfl, fun b hb => (x_up_n (by omega)).trans ((x_up_n (by omega)).trans (rfl)), rfl, ⟨(x_up_k (x_up_k h0 (by omega)) (by omega)), (x_up_k (x_up_k h1 (by omega)) (by omega)), (x_up_k (x_up_k h2 (by omega)) (by omega)), x_up_s, (x_up_k x_up_s (by omega)), (x_up_k (x_up_k h5 (by omega)) (by omega)), (x_up_k (x_up_k h6 (by omega)) (by omega)), (x_up_k (x_up_k h7 (by omega)) (by omega)), (x_up_k (x_up_k h8 (by omega)) (by omega)), (x_up_k (x_up_k h9 (by omega)) (by omega)), (x_up_k (x_up_k h10 (by omega)) (by omega)), (x_up_k (x_up_k h11 (by omega)) (by omega)), (x_up_k (x_up_k h12 (by omega)) (by omega)), (x_up_k (x_up_k h13 (by omega)) (by omega)), (x_up_k (x_up_k h14 (by omega)) (by omega)), (x_up_k (x_up_k h15 (by omega)) (by omega)), (x_up_k (x_up_k h16 (by omega)) (by omega)), (x_up_k (x_up_k h17 (by omega)) (by omega)), (x_up_k (x_up_k h18 (by omega)) (by omega)), by omega, by omega, by omega, by omega, by omega, by omega⟩⟩)
                              · skip
                                have c78 : (mbh (cN tx (q + rM tx sn q) (rD tx sn (q + rM tx sn q))) (rD tx sn (q + rM tx sn q)) (xs n0) (dg n0)) = false := bI_0 c78
                                have hbeh : mBeh xs dg n (cN tx (q + rM tx sn q) (rD tx sn (q + rM tx sn q))) (rD tx sn (q + rM tx sn q)) = false := by rw [hn1]; exact c78
                                refine x_aload_n F 6 dM_readsCode_278 rfl rfl ?_
                                refine x_iconst F (v := nI (4)) dM_readsCode_279 (by decide) ?_
                                refine x_iload F 2 dM_readsCode_280 rfl ?_
                                refine yVr (n := 2) (As := [.int (nI (4)), .int (nI (q + rM tx sn q))]) (ci := 6) F kmM_115 kiM_fails ksM_fails knM kcM_fails (by decide +kernel) dM_readsCode_282 (cM_fails l (nx) (x_up (x_up M (a + 4) (.inl (.int, 160, .inl (upd (ds) (120 + n) (nI (rM tx sn q)))))) (a + 3) (.inl (.long, 160, .inr (.inl (vp_updL (cd) (120 + n) (lN (cN tx (q + rM tx sn q) (rD tx sn (q + rM tx sn q))))))))) (a) th sg sn pr fk fp rws (vp_updL (cd) (120 + n) (lN (cN tx (q + rM tx sn q) (rD tx sn (q + rM tx sn q))))) (upd (ds) (120 + n) (nI (rM tx sn q))) wc wd nn nE nC nK nO ln lF lC lT lO fn fC fP ak ac pt ⟨(x_up_k (x_up_k h0 (by omega)) (by omega)), (x_up_k (x_up_k h1 (by omega)) (by omega)), (x_up_k (x_up_k h2 (by omega)) (by omega)), x_up_s, (x_up_k x_up_s (by omega)), (x_up_k (x_up_k h5 (by omega)) (by omega)), (x_up_k (x_up_k h6 (by omega)) (by omega)), (x_up_k (x_up_k h7 (by omega)) (by omega)), (x_up_k (x_up_k h8 (by omega)) (by omega)), (x_up_k (x_up_k h9 (by omega)) (by omega)), (x_up_k (x_up_k h10 (by omega)) (by omega)), (x_up_k (x_up_k h11 (by omega)) (by omega)), (x_up_k (x_up_k h12 (by omega)) (by omega)), (x_up_k (x_up_k h13 (by omega)) (by omega)), (x_up_k (x_up_k h14 (by omega)) (by omega)), (x_up_k (x_up_k h15 (by omega)) (by omega)), (x_up_k (x_up_k h16 (by omega)) (by omega)), (x_up_k (x_up_k h17 (by omega)) (by omega)), (x_up_k (x_up_k h18 (by omega)) (by omega)), by omega, by omega, by omega, by omega, by omega, by omega⟩ (nI (4)) (nI (q + rM tx sn q))) rfl (x_up_k (x_up_k h0 (by omega)) (by omega)) rfl rfl (Nat.le_of_ble_eq_true rfl) ⟨Nat.le_of_ble_eq_true rfl, Nat.le_of_ble_eq_true rfl⟩ ⟨Nat.le_of_ble_eq_true rfl, Nat.le_of_ble_eq_true rfl⟩ (fun r' n' M484 hp => ?_)
                                obtain ⟨hr', hn', hM484, hf484⟩ := hp
                                rw [hn', hr']
                                obtain ⟨v484_0, v484_1, v484_2, v484_3, v484_4, v484_5, v484_6, v484_7, v484_8, v484_9, v484_10, v484_11, v484_12, v484_13, v484_14, v484_15, v484_16, v484_17, v484_18, vb484_0, vb484_1, vb484_2, vb484_3, vb484_4, vb484_5⟩ := id hM484
                                show xW p l e ({ frames := 4, cells := 0, slots := 0, locals := 96 } : Room) s m args below meth c D xcl (x_A M nx) 8 (MQ below (x_Q D xcl (x_A M nx) (mcPost nx M a th sg sn pr fk fp rws cd ds wc wd nn nE nC nK nO ln lF lC lT lO fn fC fP ak ac pt n (rM tx sn q) (cN tx (q + rM tx sn q) (rD tx sn (q + rM tx sn q))) (mrc tx sn ds xs dg n q))) args s 0 0 (x_A M nx)) 0 0 (nx) M484 285 [(7, .int ((-1))), (6, .int (nI (rD tx sn (q + rM tx sn q)))), (5, .int (nI (q + rM tx sn q))), (4, .int (nI (rM tx sn q))), (3, .int (nI (120 + n))), (2, .int (nI (n))), (0, .ref (a)), (1, .int (nI (q)))] [.int (nI (0))]
                                refine x_if_eq F (tgt := 292) dM_readsCode_285 (by decide) (fun c79 => ?_) (fun c79 => ?_)
                                · skip
                                  have c79 : 0 = 0 := by
                                    exact (nI_eq (a := 0) (b := 0) (by omega) (by omega)).mp c79
                                  refine x_iconst F (v := nI (0)) dM_readsCode_292 (by decide) ?_
                                  exact x_zret F hr (by rfl) dM_readsCode_293 (by rw [show mrc tx sn ds xs dg n q = some (4, q + rM tx sn q) from by rw [mrc, if_neg (fun z => by have z := z.2; rw [c59] at z; cases z), if_neg h70, if_neg c62, if_neg (by omega), if_neg c64, if_neg (by omega), if_neg c67, if_neg (by rw [hbad]; decide), if_pos hbeh]]; exact ⟨rfl, fun b hb => (hf484 _ (by omega)).trans ((x_up_n (by omega)).trans ((x_up_n (by omega)).trans (rfl))), rfl, _, _, (fun i hi => ⟨updL_ne (by omega), upd_ne (by omega)⟩), hM484⟩)
                                · skip
                                  have c79 : 0 ≠ 0 := by
                                    have z : ¬ (0 = 0) := fun zz => c79 ((nI_eq (a := 0) (b := 0) (by omega) (by omega)).mpr zz)
                                    omega
                                  exact absurd c79 (by decide)
                          · skip
                            have c76 : 0 < rM tx sn q := by
                              have z : ¬ (rM tx sn q ≤ 0) := fun zz => c76 ((nI_leI (a := rM tx sn q) (b := 0) (by omega) (by omega)).mpr zz)
                              omega
                            exact absurd c76 (by omega)
                    · skip
                      have hj : j < n := mUp_lt hup
                      refine xW.ste (st' := [.int (nI (120 + j))]) (by show ([.int (oj 120 (mUp (upd ds (120 + n) (nI (rM tx sn q))) 120 n))] : List Value) = _; rw [hup]; rfl) ?_
                      refine x_istore F [(7, .int (nI (120 + j))), (6, .int (nI (rD tx sn (q + rM tx sn q)))), (5, .int (nI (q + rM tx sn q))), (4, .int (nI (rM tx sn q))), (3, .int (nI (120 + n))), (2, .int (nI (n))), (0, .ref (a)), (1, .int (nI (q)))] dM_readsCode_200 (by decide) rfl ?_
                      refine x_iload F 3 dM_readsCode_202 rfl ?_
                      refine x_if_ne F (tgt := 213) dM_readsCode_204 (by decide) (fun c80 => ?_) (fun c80 => ?_)
                      · skip
                        have c80 : rM tx sn q ≠ 0 := by
                          have z : ¬ (rM tx sn q = 0) := fun zz => c80 ((nI_eq (a := rM tx sn q) (b := 0) (by omega) (by omega)).mpr zz)
                          omega
                        refine x_iload F 3 dM_readsCode_213 rfl ?_
                        refine x_if_le F (tgt := 254) dM_readsCode_215 (by decide) (fun c81 => ?_) (fun c81 => ?_)
                        · skip
                          have c81 : rM tx sn q ≤ 0 := by
                            exact (nI_leI (a := rM tx sn q) (b := 0) (by omega) (by omega)).mp c81
                          exact absurd c81 (by omega)
                        · skip
                          have c81 : 0 < rM tx sn q := by
                            have z : ¬ (rM tx sn q ≤ 0) := fun zz => c81 ((nI_leI (a := rM tx sn q) (b := 0) (by omega) (by omega)).mpr zz)
                            omega
                          refine x_aload_n F 6 dM_readsCode_218 rfl rfl ?_
                          refine x_get (ci := 6) F 7 (x_in inM) rfl (by decide) (x_m kfM_20) dM_readsCode_219 (x_up_k (x_up_k h0 (by omega)) (by omega)) rfl ?_
                          refine x_iload_n F 4 dM_readsCode_222 rfl rfl ?_
                          refine x_lald F dM_readsCode_223 x_up_s (pk_in (120 + n) (160) (by omega)) ?_
                          refine xW.tol (lN (cN tx (q + rM tx sn q) (rD tx sn (q + rM tx sn q)))) (by rw [nI_clamp (by omega)]; exact vp_us) ?_
                          refine x_aload_n F 6 dM_readsCode_224 rfl rfl ?_
                          refine x_get (ci := 6) F 7 (x_in inM) rfl (by decide) (x_m kfM_20) dM_readsCode_225 (x_up_k (x_up_k h0 (by omega)) (by omega)) rfl ?_
                          refine x_iload F 0 dM_readsCode_228 rfl ?_
                          refine x_if_ge F (tgt := 237) dM_readsCode_230 (by decide) (fun c82 => ?_) (fun c82 => ?_)
                          · skip
                            have c82 : 0 ≤ 120 + j := by
                              exact (nI_leI (a := 0) (b := 120 + j) (by omega) (by omega)).mp c82
                            refine x_iload F 0 dM_readsCode_237 rfl ?_
                            refine x_lald F dM_readsCode_239 x_up_s (pk_in (120 + j) (160) (by omega)) ?_
                            refine xW.tol (lN (xs j)) (by rw [nI_clamp (by omega)]; exact (updL_ne (by omega)).trans (hcd j hj).1) ?_
                            refine yS (n := 2) (As := [.long (lN (cN tx (q + rM tx sn q) (rD tx sn (q + rM tx sn q)))), .long (lN (xs j))]) F kmM_107 ktM_begins knM kcM_begins (by decide +kernel) dM_readsCode_240 (cM_begins l (nx) (x_up (x_up M (a + 4) (.inl (.int, 160, .inl (upd (ds) (120 + n) (nI (rM tx sn q)))))) (a + 3) (.inl (.long, 160, .inr (.inl (vp_updL (cd) (120 + n) (lN (cN tx (q + rM tx sn q) (rD tx sn (q + rM tx sn q))))))))) (cN tx (q + rM tx sn q) (rD tx sn (q + rM tx sn q))) (rD tx sn (q + rM tx sn q)) (xs j) (dg j) hX10 (hcd j hj).2) rfl rfl (Nat.le_of_ble_eq_true rfl) ⟨Nat.le_of_ble_eq_true rfl, Nat.le_of_ble_eq_true rfl⟩ ⟨Nat.le_of_ble_eq_true rfl, Nat.le_of_ble_eq_true rfl⟩ ?_
                            refine x_if_ne F (tgt := 254) dM_readsCode_243 (by decide) (fun c83 => ?_) (fun c83 => ?_)
                            · skip
                              have c83 : (mbg (cN tx (q + rM tx sn q) (rD tx sn (q + rM tx sn q))) (rD tx sn (q + rM tx sn q)) (xs j) (dg j)) = true := bI_1 c83
                              have hla := mUp_la (by omega) hup
                              have hbad : mBad ds xs dg n (rM tx sn q) (cN tx (q + rM tx sn q) (rD tx sn (q + rM tx sn q))) (rD tx sn (q + rM tx sn q)) = false := by rw [mBad, if_neg (by omega), hla]; show (! mbg (cN tx (q + rM tx sn q) (rD tx sn (q + rM tx sn q))) (rD tx sn (q + rM tx sn q)) (xs j) (dg j)) = false; rw [c83]; rfl
                              refine x_iload_n F 5 dM_readsCode_254 rfl rfl ?_
                              refine x_if_eq F (tgt := 288) dM_readsCode_255 (by decide) (fun c84 => ?_) (fun c84 => ?_)
                              · skip
                                have c84 : n = 0 := by
                                  exact (nI_eq (a := n) (b := 0) (by omega) (by omega)).mp c84
                                exact absurd c84 (by omega)
                              · skip
                                have c84 : n ≠ 0 := by
                                  have z : ¬ (n = 0) := fun zz => c84 ((nI_eq (a := n) (b := 0) (by omega) (by omega)).mpr zz)
                                  omega
                                obtain ⟨n0, hn1⟩ : ∃ n0, n = n0 + 1 := ⟨n - 1, by omega⟩
                                refine x_aload_n F 6 dM_readsCode_258 rfl rfl ?_
                                refine x_get (ci := 6) F 7 (x_in inM) rfl (by decide) (x_m kfM_20) dM_readsCode_259 (x_up_k (x_up_k h0 (by omega)) (by omega)) rfl ?_
                                refine x_iload_n F 4 dM_readsCode_262 rfl rfl ?_
                                refine x_lald F dM_readsCode_263 x_up_s (pk_in (120 + n) (160) (by omega)) ?_
                                refine xW.tol (lN (cN tx (q + rM tx sn q) (rD tx sn (q + rM tx sn q)))) (by rw [nI_clamp (by omega)]; exact vp_us) ?_
                                refine x_aload_n F 6 dM_readsCode_264 rfl rfl ?_
                                refine x_get (ci := 6) F 7 (x_in inM) rfl (by decide) (x_m kfM_20) dM_readsCode_265 (x_up_k (x_up_k h0 (by omega)) (by omega)) rfl ?_
                                refine x_iload_n F 4 dM_readsCode_268 rfl rfl ?_
                                refine x_iconst F (v := nI (1)) dM_readsCode_269 (by decide) ?_
                                refine x_isub F dM_readsCode_270 ?_
                                refine xW.toi (nI (120 + n0)) (by rw [hn1]; exact nI_pred (120 + n0)) ?_
                                refine x_lald F dM_readsCode_271 x_up_s (pk_in (120 + n0) (160) (by omega)) ?_
                                refine xW.tol (lN (xs n0)) (by rw [nI_clamp (by omega)]; exact (updL_ne (by omega)).trans (hcd n0 (by omega)).1) ?_
                                refine yS (n := 2) (As := [.long (lN (cN tx (q + rM tx sn q) (rD tx sn (q + rM tx sn q)))), .long (lN (xs n0))]) F kmM_126 ktM_isBehind knM kcM_isBehind (by decide +kernel) dM_readsCode_272 (cM_isBehind l (nx) (x_up (x_up M (a + 4) (.inl (.int, 160, .inl (upd (ds) (120 + n) (nI (rM tx sn q)))))) (a + 3) (.inl (.long, 160, .inr (.inl (vp_updL (cd) (120 + n) (lN (cN tx (q + rM tx sn q) (rD tx sn (q + rM tx sn q))))))))) (cN tx (q + rM tx sn q) (rD tx sn (q + rM tx sn q))) (rD tx sn (q + rM tx sn q)) (xs n0) (dg n0) hX10 (hcd n0 (by omega)).2) rfl rfl (Nat.le_of_ble_eq_true rfl) ⟨Nat.le_of_ble_eq_true rfl, Nat.le_of_ble_eq_true rfl⟩ ⟨Nat.le_of_ble_eq_true rfl, Nat.le_of_ble_eq_true rfl⟩ ?_
                                refine x_if_ne F (tgt := 288) dM_readsCode_275 (by decide) (fun c85 => ?_) (fun c85 => ?_)
                                · skip
                                  have c85 : (mbh (cN tx (q + rM tx sn q) (rD tx sn (q + rM tx sn q))) (rD tx sn (q + rM tx sn q)) (xs n0) (dg n0)) = true := bI_1 c85
                                  have hbeh : mBeh xs dg n (cN tx (q + rM tx sn q) (rD tx sn (q + rM tx sn q))) (rD tx sn (q + rM tx sn q)) = true := by rw [hn1]; exact c85
                                  refine x_iconst F (v := nI (1)) dM_readsCode_288 (by decide) ?_
                                  refine x_goto F (tgt := 293) dM_readsCode_289 (by decide) ?_
                                  exact x_zret F hr (by rfl) dM_readsCode_293 (by rw [show mrc tx sn ds xs dg n q = none from by rw [mrc, if_neg (fun z => by have z := z.2; rw [c59] at z; cases z), if_neg h70, if_neg c62, if_neg (by omega), if_neg c64, if_neg (by omega), if_neg c67, if_neg (by rw [hbad]; decide), if_neg (by rw [hbeh]; decide)]]; exact ⟨rfl, fun b hb => (x_up_n (by omega)).trans ((x_up_n (by omega)).trans (rfl)), rfl, ⟨(x_up_k (x_up_k h0 (by omega)) (by omega)), (x_up_k (x_up_k h1 (by omega)) (by omega)), (x_up_k (x_up_k h2 (by omega)) (by omega)), x_up_s, (x_up_k x_up_s (by omega)), (x_up_k (x_up_k h5 (by omega)) (by omega)), (x_up_k (x_up_k h6 (by omega)) (by omega)), (x_up_k (x_up_k h7 (by omega)) (by omega)), (x_up_k (x_up_k h8 (by omega)) (by omega)), (x_up_k (x_up_k h9 (by omega)) (by omega)), (x_up_k (x_up_k h10 (by omega)) (by omega)), (x_up_k (x_up_k h11 (by omega)) (by omega)), (x_up_k (x_up_k h12 (by omega)) (by omega)), (x_up_k (x_up_k h13 (by omega)) (by omega)), (x_up_k (x_up_k h14 (by omega)) (by omega)), (x_up_k (x_up_k h15 (by omega)) (by omega)), (x_up_k (x_up_k h16 (by omega)) (by omega)), (x_up_k (x_up_k h17 (by omega)) (by omega)), (x_up_k (x_up_k h18 (by omega)) (by omega)), by omega, by omega, by omega, by omega, by omega, by omega⟩⟩)
                                · skip
                                  have c85 : (mbh (cN tx (q + rM tx sn q) (rD tx sn (q + rM tx sn q))) (rD tx sn (q + rM tx sn q)) (xs n0) (dg n0)) = false := bI_0 c85
                                  have hbeh : mBeh xs dg n (cN tx (q + rM tx sn q) (rD tx sn (q + rM tx sn q))) (rD tx sn (q + rM tx sn q)) = false := by rw [hn1]; exact c85
                                  refine x_aload_n F 6 dM_readsCode_278 rfl rfl ?_
                                  refine x_iconst F (v := nI (4)) dM_readsCode_279 (by decide) ?_
                                  refine x_iload F 2 dM_readsCode_280 rfl ?_
                                  refine yVr (n := 2) (As := [.int (nI (4)), .int (nI (q + rM tx sn q))]) (ci := 6) F kmM_115 kiM_fails ksM_fails knM kcM_fails (by decide +kernel) dM_readsCode_282 (cM_fails l (nx) (x_up (x_up M (a + 4) (.inl (.int, 160, .inl (upd (ds) (120 + n) (nI (rM tx sn q)))))) (a + 3) (.inl (.long, 160, .inr (.inl (vp_updL (cd) (120 + n) (lN (cN tx (q + rM tx sn q) (rD tx sn (q + rM tx sn q))))))))) (a) th sg sn pr fk fp rws (vp_updL (cd) (120 + n) (lN (cN tx (q + rM tx sn q) (rD tx sn (q + rM tx sn q))))) (upd (ds) (120 + n) (nI (rM tx sn q))) wc wd nn nE nC nK nO ln lF lC lT lO fn fC fP ak ac pt ⟨(x_up_k (x_up_k h0 (by omega)) (by omega)), (x_up_k (x_up_k h1 (by omega)) (by omega)), (x_up_k (x_up_k h2 (by omega)) (by omega)), x_up_s, (x_up_k x_up_s (by omega)), (x_up_k (x_up_k h5 (by omega)) (by omega)), (x_up_k (x_up_k h6 (by omega)) (by omega)), (x_up_k (x_up_k h7 (by omega)) (by omega)), (x_up_k (x_up_k h8 (by omega)) (by omega)), (x_up_k (x_up_k h9 (by omega)) (by omega)), (x_up_k (x_up_k h10 (by omega)) (by omega)), (x_up_k (x_up_k h11 (by omega)) (by omega)), (x_up_k (x_up_k h12 (by omega)) (by omega)), (x_up_k (x_up_k h13 (by omega)) (by omega)), (x_up_k (x_up_k h14 (by omega)) (by omega)), (x_up_k (x_up_k h15 (by omega)) (by omega)), (x_up_k (x_up_k h16 (by omega)) (by omega)), (x_up_k (x_up_k h17 (by omega)) (by omega)), (x_up_k (x_up_k h18 (by omega)) (by omega)), by omega, by omega, by omega, by omega, by omega, by omega⟩ (nI (4)) (nI (q + rM tx sn q))) rfl (x_up_k (x_up_k h0 (by omega)) (by omega)) rfl rfl (Nat.le_of_ble_eq_true rfl) ⟨Nat.le_of_ble_eq_true rfl, Nat.le_of_ble_eq_true rfl⟩ ⟨Nat.le_of_ble_eq_true rfl, Nat.le_of_ble_eq_true rfl⟩ (fun r' n' M485 hp => ?_)
                                  obtain ⟨hr', hn', hM485, hf485⟩ := hp
                                  rw [hn', hr']
                                  obtain ⟨v485_0, v485_1, v485_2, v485_3, v485_4, v485_5, v485_6, v485_7, v485_8, v485_9, v485_10, v485_11, v485_12, v485_13, v485_14, v485_15, v485_16, v485_17, v485_18, vb485_0, vb485_1, vb485_2, vb485_3, vb485_4, vb485_5⟩ := id hM485
                                  show xW p l e ({ frames := 4, cells := 0, slots := 0, locals := 96 } : Room) s m args below meth c D xcl (x_A M nx) 8 (MQ below (x_Q D xcl (x_A M nx) (mcPost nx M a th sg sn pr fk fp rws cd ds wc wd nn nE nC nK nO ln lF lC lT lO fn fC fP ak ac pt n (rM tx sn q) (cN tx (q + rM tx sn q) (rD tx sn (q + rM tx sn q))) (mrc tx sn ds xs dg n q))) args s 0 0 (x_A M nx)) 0 0 (nx) M485 285 [(7, .int (nI (120 + j))), (6, .int (nI (rD tx sn (q + rM tx sn q)))), (5, .int (nI (q + rM tx sn q))), (4, .int (nI (rM tx sn q))), (3, .int (nI (120 + n))), (2, .int (nI (n))), (0, .ref (a)), (1, .int (nI (q)))] [.int (nI (0))]
                                  refine x_if_eq F (tgt := 292) dM_readsCode_285 (by decide) (fun c86 => ?_) (fun c86 => ?_)
                                  · skip
                                    have c86 : 0 = 0 := by
                                      exact (nI_eq (a := 0) (b := 0) (by omega) (by omega)).mp c86
                                    refine x_iconst F (v := nI (0)) dM_readsCode_292 (by decide) ?_
                                    exact x_zret F hr (by rfl) dM_readsCode_293 (by rw [show mrc tx sn ds xs dg n q = some (4, q + rM tx sn q) from by rw [mrc, if_neg (fun z => by have z := z.2; rw [c59] at z; cases z), if_neg h70, if_neg c62, if_neg (by omega), if_neg c64, if_neg (by omega), if_neg c67, if_neg (by rw [hbad]; decide), if_pos hbeh]]; exact ⟨rfl, fun b hb => (hf485 _ (by omega)).trans ((x_up_n (by omega)).trans ((x_up_n (by omega)).trans (rfl))), rfl, _, _, (fun i hi => ⟨updL_ne (by omega), upd_ne (by omega)⟩), hM485⟩)
                                  · skip
                                    have c86 : 0 ≠ 0 := by
                                      have z : ¬ (0 = 0) := fun zz => c86 ((nI_eq (a := 0) (b := 0) (by omega) (by omega)).mpr zz)
                                      omega
                                    exact absurd c86 (by decide)
                            · skip
                              have c83 : (mbg (cN tx (q + rM tx sn q) (rD tx sn (q + rM tx sn q))) (rD tx sn (q + rM tx sn q)) (xs j) (dg j)) = false := bI_0 c83
                              have hla := mUp_la (by omega) hup
                              have hbad : mBad ds xs dg n (rM tx sn q) (cN tx (q + rM tx sn q) (rD tx sn (q + rM tx sn q))) (rD tx sn (q + rM tx sn q)) = true := by rw [mBad, if_neg (by omega), hla]; show (! mbg (cN tx (q + rM tx sn q) (rD tx sn (q + rM tx sn q))) (rD tx sn (q + rM tx sn q)) (xs j) (dg j)) = true; rw [c83]; rfl
                              refine x_aload_n F 6 dM_readsCode_246 rfl rfl ?_
                              refine x_iconst F (v := nI (3)) dM_readsCode_247 (by decide) ?_
                              refine x_iload F 2 dM_readsCode_248 rfl ?_
                              refine yVr (n := 2) (As := [.int (nI (3)), .int (nI (q + rM tx sn q))]) (ci := 6) F kmM_115 kiM_fails ksM_fails knM kcM_fails (by decide +kernel) dM_readsCode_250 (cM_fails l (nx) (x_up (x_up M (a + 4) (.inl (.int, 160, .inl (upd (ds) (120 + n) (nI (rM tx sn q)))))) (a + 3) (.inl (.long, 160, .inr (.inl (vp_updL (cd) (120 + n) (lN (cN tx (q + rM tx sn q) (rD tx sn (q + rM tx sn q))))))))) (a) th sg sn pr fk fp rws (vp_updL (cd) (120 + n) (lN (cN tx (q + rM tx sn q) (rD tx sn (q + rM tx sn q))))) (upd (ds) (120 + n) (nI (rM tx sn q))) wc wd nn nE nC nK nO ln lF lC lT lO fn fC fP ak ac pt ⟨(x_up_k (x_up_k h0 (by omega)) (by omega)), (x_up_k (x_up_k h1 (by omega)) (by omega)), (x_up_k (x_up_k h2 (by omega)) (by omega)), x_up_s, (x_up_k x_up_s (by omega)), (x_up_k (x_up_k h5 (by omega)) (by omega)), (x_up_k (x_up_k h6 (by omega)) (by omega)), (x_up_k (x_up_k h7 (by omega)) (by omega)), (x_up_k (x_up_k h8 (by omega)) (by omega)), (x_up_k (x_up_k h9 (by omega)) (by omega)), (x_up_k (x_up_k h10 (by omega)) (by omega)), (x_up_k (x_up_k h11 (by omega)) (by omega)), (x_up_k (x_up_k h12 (by omega)) (by omega)), (x_up_k (x_up_k h13 (by omega)) (by omega)), (x_up_k (x_up_k h14 (by omega)) (by omega)), (x_up_k (x_up_k h15 (by omega)) (by omega)), (x_up_k (x_up_k h16 (by omega)) (by omega)), (x_up_k (x_up_k h17 (by omega)) (by omega)), (x_up_k (x_up_k h18 (by omega)) (by omega)), by omega, by omega, by omega, by omega, by omega, by omega⟩ (nI (3)) (nI (q + rM tx sn q))) rfl (x_up_k (x_up_k h0 (by omega)) (by omega)) rfl rfl (Nat.le_of_ble_eq_true rfl) ⟨Nat.le_of_ble_eq_true rfl, Nat.le_of_ble_eq_true rfl⟩ ⟨Nat.le_of_ble_eq_true rfl, Nat.le_of_ble_eq_true rfl⟩ (fun r' n' M486 hp => ?_)
                              obtain ⟨hr', hn', hM486, hf486⟩ := hp
                              rw [hn', hr']
                              obtain ⟨v486_0, v486_1, v486_2, v486_3, v486_4, v486_5, v486_6, v486_7, v486_8, v486_9, v486_10, v486_11, v486_12, v486_13, v486_14, v486_15, v486_16, v486_17, v486_18, vb486_0, vb486_1, vb486_2, vb486_3, vb486_4, vb486_5⟩ := id hM486
                              show xW p l e ({ frames := 4, cells := 0, slots := 0, locals := 96 } : Room) s m args below meth c D xcl (x_A M nx) 8 (MQ below (x_Q D xcl (x_A M nx) (mcPost nx M a th sg sn pr fk fp rws cd ds wc wd nn nE nC nK nO ln lF lC lT lO fn fC fP ak ac pt n (rM tx sn q) (cN tx (q + rM tx sn q) (rD tx sn (q + rM tx sn q))) (mrc tx sn ds xs dg n q))) args s 0 0 (x_A M nx)) 0 0 (nx) M486 253 [(7, .int (nI (120 + j))), (6, .int (nI (rD tx sn (q + rM tx sn q)))), (5, .int (nI (q + rM tx sn q))), (4, .int (nI (rM tx sn q))), (3, .int (nI (120 + n))), (2, .int (nI (n))), (0, .ref (a)), (1, .int (nI (q)))] [.int (nI (0))]
                              exact x_zret F hr (by rfl) dM_readsCode_253 (by rw [show mrc tx sn ds xs dg n q = some (3, q + rM tx sn q) from by rw [mrc, if_neg (fun z => by have z := z.2; rw [c59] at z; cases z), if_neg h70, if_neg c62, if_neg (by omega), if_neg c64, if_neg (by omega), if_neg c67, if_pos hbad]]; exact ⟨rfl, fun b hb => (hf486 _ (by omega)).trans ((x_up_n (by omega)).trans ((x_up_n (by omega)).trans (rfl))), rfl, _, _, (fun i hi => ⟨updL_ne (by omega), upd_ne (by omega)⟩), hM486⟩)
                          · skip
                            have c82 : 120 + j < 0 := by
                              have z : ¬ (0 ≤ 120 + j) := fun zz => c82 ((nI_leI (a := 0) (b := 120 + j) (by omega) (by omega)).mpr zz)
                              omega
                            exact absurd c82 (by omega)
                      · skip
                        have c80 : rM tx sn q = 0 := by
                          exact (nI_eq (a := rM tx sn q) (b := 0) (by omega) (by omega)).mp c80
                        refine x_iload F 1 dM_readsCode_207 rfl ?_
                        refine x_iconst F (v := nI (2)) dM_readsCode_209 (by decide) ?_
                        refine x_icmp_ne F (tgt := 246) dM_readsCode_210 (by decide) (fun c87 => ?_) (fun c87 => ?_)
                        · skip
                          have c87 : rD tx sn (q + rM tx sn q) ≠ 2 := by
                            have z : ¬ (rD tx sn (q + rM tx sn q) = 2) := fun zz => c87 ((nI_eq (a := rD tx sn (q + rM tx sn q)) (b := 2) (by omega) (by omega)).mpr zz)
                            omega
                          have hbad : mBad ds xs dg n (rM tx sn q) (cN tx (q + rM tx sn q) (rD tx sn (q + rM tx sn q))) (rD tx sn (q + rM tx sn q)) = true := by rw [mBad, if_pos c80, decide_eq_false c87]; rfl
                          refine x_aload_n F 6 dM_readsCode_246 rfl rfl ?_
                          refine x_iconst F (v := nI (3)) dM_readsCode_247 (by decide) ?_
                          refine x_iload F 2 dM_readsCode_248 rfl ?_
                          refine yVr (n := 2) (As := [.int (nI (3)), .int (nI (q + rM tx sn q))]) (ci := 6) F kmM_115 kiM_fails ksM_fails knM kcM_fails (by decide +kernel) dM_readsCode_250 (cM_fails l (nx) (x_up (x_up M (a + 4) (.inl (.int, 160, .inl (upd (ds) (120 + n) (nI (rM tx sn q)))))) (a + 3) (.inl (.long, 160, .inr (.inl (vp_updL (cd) (120 + n) (lN (cN tx (q + rM tx sn q) (rD tx sn (q + rM tx sn q))))))))) (a) th sg sn pr fk fp rws (vp_updL (cd) (120 + n) (lN (cN tx (q + rM tx sn q) (rD tx sn (q + rM tx sn q))))) (upd (ds) (120 + n) (nI (rM tx sn q))) wc wd nn nE nC nK nO ln lF lC lT lO fn fC fP ak ac pt ⟨(x_up_k (x_up_k h0 (by omega)) (by omega)), (x_up_k (x_up_k h1 (by omega)) (by omega)), (x_up_k (x_up_k h2 (by omega)) (by omega)), x_up_s, (x_up_k x_up_s (by omega)), (x_up_k (x_up_k h5 (by omega)) (by omega)), (x_up_k (x_up_k h6 (by omega)) (by omega)), (x_up_k (x_up_k h7 (by omega)) (by omega)), (x_up_k (x_up_k h8 (by omega)) (by omega)), (x_up_k (x_up_k h9 (by omega)) (by omega)), (x_up_k (x_up_k h10 (by omega)) (by omega)), (x_up_k (x_up_k h11 (by omega)) (by omega)), (x_up_k (x_up_k h12 (by omega)) (by omega)), (x_up_k (x_up_k h13 (by omega)) (by omega)), (x_up_k (x_up_k h14 (by omega)) (by omega)), (x_up_k (x_up_k h15 (by omega)) (by omega)), (x_up_k (x_up_k h16 (by omega)) (by omega)), (x_up_k (x_up_k h17 (by omega)) (by omega)), (x_up_k (x_up_k h18 (by omega)) (by omega)), by omega, by omega, by omega, by omega, by omega, by omega⟩ (nI (3)) (nI (q + rM tx sn q))) rfl (x_up_k (x_up_k h0 (by omega)) (by omega)) rfl rfl (Nat.le_of_ble_eq_true rfl) ⟨Nat.le_of_ble_eq_true rfl, Nat.le_of_ble_eq_true rfl⟩ ⟨Nat.le_of_ble_eq_true rfl, Nat.le_of_ble_eq_true rfl⟩ (fun r' n' M487 hp => ?_)
                          obtain ⟨hr', hn', hM487, hf487⟩ := hp
                          rw [hn', hr']
                          obtain ⟨v487_0, v487_1, v487_2, v487_3, v487_4, v487_5, v487_6, v487_7, v487_8, v487_9, v487_10, v487_11, v487_12, v487_13, v487_14, v487_15, v487_16, v487_17, v487_18, vb487_0, vb487_1, vb487_2, vb487_3, vb487_4, vb487_5⟩ := id hM487
                          show xW p l e ({ frames := 4, cells := 0, slots := 0, locals := 96 } : Room) s m args below meth c D xcl (x_A M nx) 8 (MQ below (x_Q D xcl (x_A M nx) (mcPost nx M a th sg sn pr fk fp rws cd ds wc wd nn nE nC nK nO ln lF lC lT lO fn fC fP ak ac pt n (rM tx sn q) (cN tx (q + rM tx sn q) (rD tx sn (q + rM tx sn q))) (mrc tx sn ds xs dg n q))) args s 0 0 (x_A M nx)) 0 0 (nx) M487 253 [(7, .int (nI (120 + j))), (6, .int (nI (rD tx sn (q + rM tx sn q)))), (5, .int (nI (q + rM tx sn q))), (4, .int (nI (rM tx sn q))), (3, .int (nI (120 + n))), (2, .int (nI (n))), (0, .ref (a)), (1, .int (nI (q)))] [.int (nI (0))]
                          exact x_zret F hr (by rfl) dM_readsCode_253 (by rw [show mrc tx sn ds xs dg n q = some (3, q + rM tx sn q) from by rw [mrc, if_neg (fun z => by have z := z.2; rw [c59] at z; cases z), if_neg h70, if_neg c62, if_neg (by omega), if_neg c64, if_neg (by omega), if_neg c67, if_pos hbad]]; exact ⟨rfl, fun b hb => (hf487 _ (by omega)).trans ((x_up_n (by omega)).trans ((x_up_n (by omega)).trans (rfl))), rfl, _, _, (fun i hi => ⟨updL_ne (by omega), upd_ne (by omega)⟩), hM487⟩)
                        · skip
                          have c87 : rD tx sn (q + rM tx sn q) = 2 := by
                            exact (nI_eq (a := rD tx sn (q + rM tx sn q)) (b := 2) (by omega) (by omega)).mp c87
                          refine x_iload F 3 dM_readsCode_213 rfl ?_
                          refine x_if_le F (tgt := 254) dM_readsCode_215 (by decide) (fun c88 => ?_) (fun c88 => ?_)
                          · skip
                            have c88 : rM tx sn q ≤ 0 := by
                              exact (nI_leI (a := rM tx sn q) (b := 0) (by omega) (by omega)).mp c88
                            have hbad : mBad ds xs dg n (rM tx sn q) (cN tx (q + rM tx sn q) (rD tx sn (q + rM tx sn q))) (rD tx sn (q + rM tx sn q)) = false := by rw [mBad, if_pos (by omega), decide_eq_true (by omega)]; rfl
                            refine x_iload_n F 5 dM_readsCode_254 rfl rfl ?_
                            refine x_if_eq F (tgt := 288) dM_readsCode_255 (by decide) (fun c89 => ?_) (fun c89 => ?_)
                            · skip
                              have c89 : n = 0 := by
                                exact (nI_eq (a := n) (b := 0) (by omega) (by omega)).mp c89
                              exact absurd c89 (by omega)
                            · skip
                              have c89 : n ≠ 0 := by
                                have z : ¬ (n = 0) := fun zz => c89 ((nI_eq (a := n) (b := 0) (by omega) (by omega)).mpr zz)
                                omega
                              obtain ⟨n0, hn1⟩ : ∃ n0, n = n0 + 1 := ⟨n - 1, by omega⟩
                              refine x_aload_n F 6 dM_readsCode_258 rfl rfl ?_
                              refine x_get (ci := 6) F 7 (x_in inM) rfl (by decide) (x_m kfM_20) dM_readsCode_259 (x_up_k (x_up_k h0 (by omega)) (by omega)) rfl ?_
                              refine x_iload_n F 4 dM_readsCode_262 rfl rfl ?_
                              refine x_lald F dM_readsCode_263 x_up_s (pk_in (120 + n) (160) (by omega)) ?_
                              refine xW.tol (lN (cN tx (q + rM tx sn q) (rD tx sn (q + rM tx sn q)))) (by rw [nI_clamp (by omega)]; exact vp_us) ?_
                              refine x_aload_n F 6 dM_readsCode_264 rfl rfl ?_
                              refine x_get (ci := 6) F 7 (x_in inM) rfl (by decide) (x_m kfM_20) dM_readsCode_265 (x_up_k (x_up_k h0 (by omega)) (by omega)) rfl ?_
                              refine x_iload_n F 4 dM_readsCode_268 rfl rfl ?_
                              refine x_iconst F (v := nI (1)) dM_readsCode_269 (by decide) ?_
                              refine x_isub F dM_readsCode_270 ?_
                              refine xW.toi (nI (120 + n0)) (by rw [hn1]; exact nI_pred (120 + n0)) ?_
                              refine x_lald F dM_readsCode_271 x_up_s (pk_in (120 + n0) (160) (by omega)) ?_
                              refine xW.tol (lN (xs n0)) (by rw [nI_clamp (by omega)]; exact (updL_ne (by omega)).trans (hcd n0 (by omega)).1) ?_
                              refine yS (n := 2) (As := [.long (lN (cN tx (q + rM tx sn q) (rD tx sn (q + rM tx sn q)))), .long (lN (xs n0))]) F kmM_126 ktM_isBehind knM kcM_isBehind (by decide +kernel) dM_readsCode_272 (cM_isBehind l (nx) (x_up (x_up M (a + 4) (.inl (.int, 160, .inl (upd (ds) (120 + n) (nI (rM tx sn q)))))) (a + 3) (.inl (.long, 160, .inr (.inl (vp_updL (cd) (120 + n) (lN (cN tx (q + rM tx sn q) (rD tx sn (q + rM tx sn q))))))))) (cN tx (q + rM tx sn q) (rD tx sn (q + rM tx sn q))) (rD tx sn (q + rM tx sn q)) (xs n0) (dg n0) hX10 (hcd n0 (by omega)).2) rfl rfl (Nat.le_of_ble_eq_true rfl) ⟨Nat.le_of_ble_eq_true rfl, Nat.le_of_ble_eq_true rfl⟩ ⟨Nat.le_of_ble_eq_true rfl, Nat.le_of_ble_eq_true rfl⟩ ?_
                              refine x_if_ne F (tgt := 288) dM_readsCode_275 (by decide) (fun c90 => ?_) (fun c90 => ?_)
                              · skip
                                have c90 : (mbh (cN tx (q + rM tx sn q) (rD tx sn (q + rM tx sn q))) (rD tx sn (q + rM tx sn q)) (xs n0) (dg n0)) = true := bI_1 c90
                                have hbeh : mBeh xs dg n (cN tx (q + rM tx sn q) (rD tx sn (q + rM tx sn q))) (rD tx sn (q + rM tx sn q)) = true := by rw [hn1]; exact c90
                                refine x_iconst F (v := nI (1)) dM_readsCode_288 (by decide) ?_
                                refine x_goto F (tgt := 293) dM_readsCode_289 (by decide) ?_
                                exact x_zret F hr (by rfl) dM_readsCode_293 (by rw [show mrc tx sn ds xs dg n q = none from by rw [mrc, if_neg (fun z => by have z := z.2; rw [c59] at z; cases z), if_neg h70, if_neg c62, if_neg (by omega), if_neg c64, if_neg (by omega), if_neg c67, if_neg (by rw [hbad]; decide), if_neg (by rw [hbeh]; decide)]]; exact ⟨rfl, fun b hb => (x_up_n (by omega)).trans ((x_up_n (by omega)).trans (rfl)), rfl, ⟨(x_up_k (x_up_k h0 (by omega)) (by omega)), (x_up_k (x_up_k h1 (by omega)) (by omega)), (x_up_k (x_up_k h2 (by omega)) (by omega)), x_up_s, (x_up_k x_up_s (by omega)), (x_up_k (x_up_k h5 (by omega)) (by omega)), (x_up_k (x_up_k h6 (by omega)) (by omega)), (x_up_k (x_up_k h7 (by omega)) (by omega)), (x_up_k (x_up_k h8 (by omega)) (by omega)), (x_up_k (x_up_k h9 (by omega)) (by omega)), (x_up_k (x_up_k h10 (by omega)) (by omega)), (x_up_k (x_up_k h11 (by omega)) (by omega)), (x_up_k (x_up_k h12 (by omega)) (by omega)), (x_up_k (x_up_k h13 (by omega)) (by omega)), (x_up_k (x_up_k h14 (by omega)) (by omega)), (x_up_k (x_up_k h15 (by omega)) (by omega)), (x_up_k (x_up_k h16 (by omega)) (by omega)), (x_up_k (x_up_k h17 (by omega)) (by omega)), (x_up_k (x_up_k h18 (by omega)) (by omega)), by omega, by omega, by omega, by omega, by omega, by omega⟩⟩)
                              · skip
                                have c90 : (mbh (cN tx (q + rM tx sn q) (rD tx sn (q + rM tx sn q))) (rD tx sn (q + rM tx sn q)) (xs n0) (dg n0)) = false := bI_0 c90
                                have hbeh : mBeh xs dg n (cN tx (q + rM tx sn q) (rD tx sn (q + rM tx sn q))) (rD tx sn (q + rM tx sn q)) = false := by rw [hn1]; exact c90
                                refine x_aload_n F 6 dM_readsCode_278 rfl rfl ?_
                                refine x_iconst F (v := nI (4)) dM_readsCode_279 (by decide) ?_
                                refine x_iload F 2 dM_readsCode_280 rfl ?_
                                refine yVr (n := 2) (As := [.int (nI (4)), .int (nI (q + rM tx sn q))]) (ci := 6) F kmM_115 kiM_fails ksM_fails knM kcM_fails (by decide +kernel) dM_readsCode_282 (cM_fails l (nx) (x_up (x_up M (a + 4) (.inl (.int, 160, .inl (upd (ds) (120 + n) (nI (rM tx sn q)))))) (a + 3) (.inl (.long, 160, .inr (.inl (vp_updL (cd) (120 + n) (lN (cN tx (q + rM tx sn q) (rD tx sn (q + rM tx sn q))))))))) (a) th sg sn pr fk fp rws (vp_updL (cd) (120 + n) (lN (cN tx (q + rM tx sn q) (rD tx sn (q + rM tx sn q))))) (upd (ds) (120 + n) (nI (rM tx sn q))) wc wd nn nE nC nK nO ln lF lC lT lO fn fC fP ak ac pt ⟨(x_up_k (x_up_k h0 (by omega)) (by omega)), (x_up_k (x_up_k h1 (by omega)) (by omega)), (x_up_k (x_up_k h2 (by omega)) (by omega)), x_up_s, (x_up_k x_up_s (by omega)), (x_up_k (x_up_k h5 (by omega)) (by omega)), (x_up_k (x_up_k h6 (by omega)) (by omega)), (x_up_k (x_up_k h7 (by omega)) (by omega)), (x_up_k (x_up_k h8 (by omega)) (by omega)), (x_up_k (x_up_k h9 (by omega)) (by omega)), (x_up_k (x_up_k h10 (by omega)) (by omega)), (x_up_k (x_up_k h11 (by omega)) (by omega)), (x_up_k (x_up_k h12 (by omega)) (by omega)), (x_up_k (x_up_k h13 (by omega)) (by omega)), (x_up_k (x_up_k h14 (by omega)) (by omega)), (x_up_k (x_up_k h15 (by omega)) (by omega)), (x_up_k (x_up_k h16 (by omega)) (by omega)), (x_up_k (x_up_k h17 (by omega)) (by omega)), (x_up_k (x_up_k h18 (by omega)) (by omega)), by omega, by omega, by omega, by omega, by omega, by omega⟩ (nI (4)) (nI (q + rM tx sn q))) rfl (x_up_k (x_up_k h0 (by omega)) (by omega)) rfl rfl (Nat.le_of_ble_eq_true rfl) ⟨Nat.le_of_ble_eq_true rfl, Nat.le_of_ble_eq_true rfl⟩ ⟨Nat.le_of_ble_eq_true rfl, Nat.le_of_ble_eq_true rfl⟩ (fun r' n' M488 hp => ?_)
                                obtain ⟨hr', hn', hM488, hf488⟩ := hp
                                rw [hn', hr']
                                obtain ⟨v488_0, v488_1, v488_2, v488_3, v488_4, v488_5, v488_6, v488_7, v488_8, v488_9, v488_10, v488_11, v488_12, v488_13, v488_14, v488_15, v488_16, v488_17, v488_18, vb488_0, vb488_1, vb488_2, vb488_3, vb488_4, vb488_5⟩ := id hM488
                                show xW p l e ({ frames := 4, cells := 0, slots := 0, locals := 96 } : Room) s m args below meth c D xcl (x_A M nx) 8 (MQ below (x_Q D xcl (x_A M nx) (mcPost nx M a th sg sn pr fk fp rws cd ds wc wd nn nE nC nK nO ln lF lC lT lO fn fC fP ak ac pt n (rM tx sn q) (cN tx (q + rM tx sn q) (rD tx sn (q + rM tx sn q))) (mrc tx sn ds xs dg n q))) args s 0 0 (x_A M nx)) 0 0 (nx) M488 285 [(7, .int (nI (120 + j))), (6, .int (nI (rD tx sn (q + rM tx sn q)))), (5, .int (nI (q + rM tx sn q))), (4, .int (nI (rM tx sn q))), (3, .int (nI (120 + n))), (2, .int (nI (n))), (0, .ref (a)), (1, .int (nI (q)))] [.int (nI (0))]
                                refine x_if_eq F (tgt := 292) dM_readsCode_285 (by decide) (fun c91 => ?_) (fun c91 => ?_)
                                · skip
                                  have c91 : 0 = 0 := by
                                    exact (nI_eq (a := 0) (b := 0) (by omega) (by omega)).mp c91
                                  refine x_iconst F (v := nI (0)) dM_readsCode_292 (by decide) ?_
                                  exact x_zret F hr (by rfl) dM_readsCode_293 (by rw [show mrc tx sn ds xs dg n q = some (4, q + rM tx sn q) from by rw [mrc, if_neg (fun z => by have z := z.2; rw [c59] at z; cases z), if_neg h70, if_neg c62, if_neg (by omega), if_neg c64, if_neg (by omega), if_neg c67, if_neg (by rw [hbad]; decide), if_pos hbeh]]; exact ⟨rfl, fun b hb => (hf488 _ (by omega)).trans ((x_up_n (by omega)).trans ((x_up_n (by omega)).trans (rfl))), rfl, _, _, (fun i hi => ⟨updL_ne (by omega), upd_ne (by omega)⟩), hM488⟩)
                                · skip
                                  have c91 : 0 ≠ 0 := by
                                    have z : ¬ (0 = 0) := fun zz => c91 ((nI_eq (a := 0) (b := 0) (by omega) (by omega)).mpr zz)
                                    omega
                                  exact absurd c91 (by decide)
                          · skip
                            have c88 : 0 < rM tx sn q := by
                              have z : ¬ (rM tx sn q ≤ 0) := fun zz => c88 ((nI_leI (a := rM tx sn q) (b := 0) (by omega) (by omega)).mpr zz)
                              omega
                            exact absurd c88 (by omega)
                  · skip
                    have c67 : (rD tx sn (q + rM tx sn q)) % 2 = 1 := by
                      exact (nI_eq (a := (rD tx sn (q + rM tx sn q)) % 2) (b := 1) (by omega) (by omega)).mp c67
                    refine x_aload_n F 5 dM_readsCode_145 rfl rfl ?_
                    refine x_iconst F (v := nI (1)) dM_readsCode_146 (by decide) ?_
                    refine x_iload F 0 dM_readsCode_147 rfl ?_
                    refine x_bipush F (v := nI (10)) dM_readsCode_149 (by decide) ?_
                    refine x_icmp_le F (tgt := 162) dM_readsCode_151 (by decide) (fun c92 => ?_) (fun c92 => ?_)
                    · skip
                      have c92 : rD tx sn (q + rM tx sn q) ≤ 10 := by
                        exact (nI_leI (a := rD tx sn (q + rM tx sn q)) (b := 10) (by omega) (by omega)).mp c92
                      refine x_iload F 1 dM_readsCode_162 rfl ?_
                      refine x_iload F 0 dM_readsCode_164 rfl ?_
                      refine x_iadd F dM_readsCode_166 ?_
                      refine xW.toi (nI (q + rM tx sn q + rD tx sn (q + rM tx sn q))) (nI_add _ _) ?_
                      refine yVr (n := 2) (As := [.int (nI (1)), .int (nI (q + rM tx sn q + rD tx sn (q + rM tx sn q)))]) (ci := 6) F kmM_115 kiM_fails ksM_fails knM kcM_fails (by decide +kernel) dM_readsCode_167 (cM_fails l (nx) M (a) th sg sn pr fk fp rws cd ds wc wd nn nE nC nK nO ln lF lC lT lO fn fC fP ak ac pt hT (nI (1)) (nI (q + rM tx sn q + rD tx sn (q + rM tx sn q)))) rfl h0 rfl rfl (Nat.le_of_ble_eq_true rfl) ⟨Nat.le_of_ble_eq_true rfl, Nat.le_of_ble_eq_true rfl⟩ ⟨Nat.le_of_ble_eq_true rfl, Nat.le_of_ble_eq_true rfl⟩ (fun r' n' M489 hp => ?_)
                      obtain ⟨hr', hn', hM489, hf489⟩ := hp
                      rw [hn', hr']
                      obtain ⟨v489_0, v489_1, v489_2, v489_3, v489_4, v489_5, v489_6, v489_7, v489_8, v489_9, v489_10, v489_11, v489_12, v489_13, v489_14, v489_15, v489_16, v489_17, v489_18, vb489_0, vb489_1, vb489_2, vb489_3, vb489_4, vb489_5⟩ := id hM489
                      show xW p l e ({ frames := 4, cells := 0, slots := 0, locals := 96 } : Room) s m args below meth c D xcl (x_A M nx) 8 (MQ below (x_Q D xcl (x_A M nx) (mcPost nx M a th sg sn pr fk fp rws cd ds wc wd nn nE nC nK nO ln lF lC lT lO fn fC fP ak ac pt n (rM tx sn q) (cN tx (q + rM tx sn q) (rD tx sn (q + rM tx sn q))) (mrc tx sn ds xs dg n q))) args s 0 0 (x_A M nx)) 0 0 (nx) M489 170 [(6, .int (nI (rD tx sn (q + rM tx sn q)))), (5, .int (nI (q + rM tx sn q))), (4, .int (nI (rM tx sn q))), (3, .int (nI (120 + n))), (2, .int (nI (n))), (0, .ref (a)), (1, .int (nI (q)))] [.int (nI (0))]
                      exact x_zret F hr (by rfl) dM_readsCode_170 (by rw [show mrc tx sn ds xs dg n q = some (1, q + rM tx sn q + rD tx sn (q + rM tx sn q)) from by rw [mrc, if_neg (fun z => by have z := z.2; rw [c59] at z; cases z), if_neg h70, if_neg c62, if_neg (by omega), if_neg c64, if_neg (by omega), if_pos c67]]; exact ⟨rfl, fun b hb => (hf489 _ (by omega)).trans (rfl), rfl, _, _, (fun i hi => ⟨rfl, rfl⟩), hM489⟩)
                    · skip
                      have c92 : 10 < rD tx sn (q + rM tx sn q) := by
                        have z : ¬ (rD tx sn (q + rM tx sn q) ≤ 10) := fun zz => c92 ((nI_leI (a := rD tx sn (q + rM tx sn q)) (b := 10) (by omega) (by omega)).mpr zz)
                        omega
                      exact absurd c92 (by omega)
              · skip
                have c64 : rD tx sn (q + rM tx sn q) = 0 := by
                  exact (nI_eq (a := rD tx sn (q + rM tx sn q)) (b := 0) (by omega) (by omega)).mp c64
                refine x_aload_n F 5 dM_readsCode_122 rfl rfl ?_
                refine x_iconst F (v := nI (1)) dM_readsCode_123 (by decide) ?_
                refine x_iload F 1 dM_readsCode_124 rfl ?_
                refine yVr (n := 2) (As := [.int (nI (1)), .int (nI (q + rM tx sn q))]) (ci := 6) F kmM_115 kiM_fails ksM_fails knM kcM_fails (by decide +kernel) dM_readsCode_126 (cM_fails l (nx) M (a) th sg sn pr fk fp rws cd ds wc wd nn nE nC nK nO ln lF lC lT lO fn fC fP ak ac pt hT (nI (1)) (nI (q + rM tx sn q))) rfl h0 rfl rfl (Nat.le_of_ble_eq_true rfl) ⟨Nat.le_of_ble_eq_true rfl, Nat.le_of_ble_eq_true rfl⟩ ⟨Nat.le_of_ble_eq_true rfl, Nat.le_of_ble_eq_true rfl⟩ (fun r' n' M490 hp => ?_)
                obtain ⟨hr', hn', hM490, hf490⟩ := hp
                rw [hn', hr']
                obtain ⟨v490_0, v490_1, v490_2, v490_3, v490_4, v490_5, v490_6, v490_7, v490_8, v490_9, v490_10, v490_11, v490_12, v490_13, v490_14, v490_15, v490_16, v490_17, v490_18, vb490_0, vb490_1, vb490_2, vb490_3, vb490_4, vb490_5⟩ := id hM490
                show xW p l e ({ frames := 4, cells := 0, slots := 0, locals := 96 } : Room) s m args below meth c D xcl (x_A M nx) 8 (MQ below (x_Q D xcl (x_A M nx) (mcPost nx M a th sg sn pr fk fp rws cd ds wc wd nn nE nC nK nO ln lF lC lT lO fn fC fP ak ac pt n (rM tx sn q) (cN tx (q + rM tx sn q) (rD tx sn (q + rM tx sn q))) (mrc tx sn ds xs dg n q))) args s 0 0 (x_A M nx)) 0 0 (nx) M490 129 [(6, .int (nI (rD tx sn (q + rM tx sn q)))), (5, .int (nI (q + rM tx sn q))), (4, .int (nI (rM tx sn q))), (3, .int (nI (120 + n))), (2, .int (nI (n))), (0, .ref (a)), (1, .int (nI (q)))] [.int (nI (0))]
                exact x_zret F hr (by rfl) dM_readsCode_129 (by rw [show mrc tx sn ds xs dg n q = some (1, q + rM tx sn q) from by rw [mrc, if_neg (fun z => by have z := z.2; rw [c59] at z; cases z), if_neg h70, if_neg c62, if_neg (by omega), if_pos c64]]; exact ⟨rfl, fun b hb => (hf490 _ (by omega)).trans (rfl), rfl, _, _, (fun i hi => ⟨rfl, rfl⟩), hM490⟩)
            · skip
              have c63 : 4 < rM tx sn q := by
                have z : ¬ (rM tx sn q ≤ 4) := fun zz => c63 ((nI_leI (a := rM tx sn q) (b := 4) (by omega) (by omega)).mpr zz)
                omega
              refine x_aload_n F 4 dM_readsCode_99 rfl rfl ?_
              refine x_iconst F (v := nI (1)) dM_readsCode_100 (by decide) ?_
              refine x_iload_n F 5 dM_readsCode_101 rfl rfl ?_
              refine x_iconst F (v := nI (4)) dM_readsCode_102 (by decide) ?_
              refine x_iadd F dM_readsCode_103 ?_
              refine xW.toi (nI (q + 4)) (nI_add _ _) ?_
              refine yVr (n := 2) (As := [.int (nI (1)), .int (nI (q + 4))]) (ci := 6) F kmM_115 kiM_fails ksM_fails knM kcM_fails (by decide +kernel) dM_readsCode_104 (cM_fails l (nx) M (a) th sg sn pr fk fp rws cd ds wc wd nn nE nC nK nO ln lF lC lT lO fn fC fP ak ac pt hT (nI (1)) (nI (q + 4))) rfl h0 rfl rfl (Nat.le_of_ble_eq_true rfl) ⟨Nat.le_of_ble_eq_true rfl, Nat.le_of_ble_eq_true rfl⟩ ⟨Nat.le_of_ble_eq_true rfl, Nat.le_of_ble_eq_true rfl⟩ (fun r' n' M491 hp => ?_)
              obtain ⟨hr', hn', hM491, hf491⟩ := hp
              rw [hn', hr']
              obtain ⟨v491_0, v491_1, v491_2, v491_3, v491_4, v491_5, v491_6, v491_7, v491_8, v491_9, v491_10, v491_11, v491_12, v491_13, v491_14, v491_15, v491_16, v491_17, v491_18, vb491_0, vb491_1, vb491_2, vb491_3, vb491_4, vb491_5⟩ := id hM491
              show xW p l e ({ frames := 4, cells := 0, slots := 0, locals := 96 } : Room) s m args below meth c D xcl (x_A M nx) 8 (MQ below (x_Q D xcl (x_A M nx) (mcPost nx M a th sg sn pr fk fp rws cd ds wc wd nn nE nC nK nO ln lF lC lT lO fn fC fP ak ac pt n (rM tx sn q) (cN tx (q + rM tx sn q) (rD tx sn (q + rM tx sn q))) (mrc tx sn ds xs dg n q))) args s 0 0 (x_A M nx)) 0 0 (nx) M491 107 [(5, .int (nI (q + rM tx sn q))), (4, .int (nI (rM tx sn q))), (3, .int (nI (120 + n))), (2, .int (nI (n))), (0, .ref (a)), (1, .int (nI (q)))] [.int (nI (0))]
              exact x_zret F hr (by rfl) dM_readsCode_107 (by rw [show mrc tx sn ds xs dg n q = some (1, q + 4) from by rw [mrc, if_neg (fun z => by have z := z.2; rw [c59] at z; cases z), if_neg h70, if_neg c62, if_pos c63]]; exact ⟨rfl, fun b hb => (hf491 _ (by omega)).trans (rfl), rfl, _, _, (fun i hi => ⟨rfl, rfl⟩), hM491⟩)
          · skip
            have c62 : n = 40 := by
              exact (nI_eq (a := n) (b := 40) (by omega) (by omega)).mp c62
            refine x_aload_n F 4 dM_readsCode_86 rfl rfl ?_
            refine x_iconst F (v := nI (5)) dM_readsCode_87 (by decide) ?_
            refine x_iload_n F 5 dM_readsCode_88 rfl rfl ?_
            refine yVr (n := 2) (As := [.int (nI (5)), .int (nI (q))]) (ci := 6) F kmM_115 kiM_fails ksM_fails knM kcM_fails (by decide +kernel) dM_readsCode_89 (cM_fails l (nx) M (a) th sg sn pr fk fp rws cd ds wc wd nn nE nC nK nO ln lF lC lT lO fn fC fP ak ac pt hT (nI (5)) (nI (q))) rfl h0 rfl rfl (Nat.le_of_ble_eq_true rfl) ⟨Nat.le_of_ble_eq_true rfl, Nat.le_of_ble_eq_true rfl⟩ ⟨Nat.le_of_ble_eq_true rfl, Nat.le_of_ble_eq_true rfl⟩ (fun r' n' M492 hp => ?_)
            obtain ⟨hr', hn', hM492, hf492⟩ := hp
            rw [hn', hr']
            obtain ⟨v492_0, v492_1, v492_2, v492_3, v492_4, v492_5, v492_6, v492_7, v492_8, v492_9, v492_10, v492_11, v492_12, v492_13, v492_14, v492_15, v492_16, v492_17, v492_18, vb492_0, vb492_1, vb492_2, vb492_3, vb492_4, vb492_5⟩ := id hM492
            show xW p l e ({ frames := 4, cells := 0, slots := 0, locals := 96 } : Room) s m args below meth c D xcl (x_A M nx) 8 (MQ below (x_Q D xcl (x_A M nx) (mcPost nx M a th sg sn pr fk fp rws cd ds wc wd nn nE nC nK nO ln lF lC lT lO fn fC fP ak ac pt n (rM tx sn q) (cN tx (q + rM tx sn q) (rD tx sn (q + rM tx sn q))) (mrc tx sn ds xs dg n q))) args s 0 0 (x_A M nx)) 0 0 (nx) M492 92 [(5, .int (nI (q + rM tx sn q))), (4, .int (nI (rM tx sn q))), (3, .int (nI (120 + n))), (2, .int (nI (n))), (0, .ref (a)), (1, .int (nI (q)))] [.int (nI (0))]
            exact x_zret F hr (by rfl) dM_readsCode_92 (by rw [show mrc tx sn ds xs dg n q = some (5, q) from by rw [mrc, if_neg (fun z => by have z := z.2; rw [c59] at z; cases z), if_neg h70, if_pos c62]]; exact ⟨rfl, fun b hb => (hf492 _ (by omega)).trans (rfl), rfl, _, _, (fun i hi => ⟨rfl, rfl⟩), hM492⟩)
        · skip
          have h70 : mPre n ds < nI (rM tx sn q) := Int32.not_le.mp c61
          refine x_aload_n F 4 dM_readsCode_73 rfl rfl ?_
          refine x_iconst F (v := nI (2)) dM_readsCode_74 (by decide) ?_
          refine x_iload_n F 5 dM_readsCode_75 rfl rfl ?_
          refine yVr (n := 2) (As := [.int (nI (2)), .int (nI (q))]) (ci := 6) F kmM_115 kiM_fails ksM_fails knM kcM_fails (by decide +kernel) dM_readsCode_76 (cM_fails l (nx) M (a) th sg sn pr fk fp rws cd ds wc wd nn nE nC nK nO ln lF lC lT lO fn fC fP ak ac pt hT (nI (2)) (nI (q))) rfl h0 rfl rfl (Nat.le_of_ble_eq_true rfl) ⟨Nat.le_of_ble_eq_true rfl, Nat.le_of_ble_eq_true rfl⟩ ⟨Nat.le_of_ble_eq_true rfl, Nat.le_of_ble_eq_true rfl⟩ (fun r' n' M493 hp => ?_)
          obtain ⟨hr', hn', hM493, hf493⟩ := hp
          rw [hn', hr']
          obtain ⟨v493_0, v493_1, v493_2, v493_3, v493_4, v493_5, v493_6, v493_7, v493_8, v493_9, v493_10, v493_11, v493_12, v493_13, v493_14, v493_15, v493_16, v493_17, v493_18, vb493_0, vb493_1, vb493_2, vb493_3, vb493_4, vb493_5⟩ := id hM493
          show xW p l e ({ frames := 4, cells := 0, slots := 0, locals := 96 } : Room) s m args below meth c D xcl (x_A M nx) 8 (MQ below (x_Q D xcl (x_A M nx) (mcPost nx M a th sg sn pr fk fp rws cd ds wc wd nn nE nC nK nO ln lF lC lT lO fn fC fP ak ac pt n (rM tx sn q) (cN tx (q + rM tx sn q) (rD tx sn (q + rM tx sn q))) (mrc tx sn ds xs dg n q))) args s 0 0 (x_A M nx)) 0 0 (nx) M493 79 [(5, .int (nI (q + rM tx sn q))), (4, .int (nI (rM tx sn q))), (3, .int (nI (120 + n))), (2, .int (nI (n))), (0, .ref (a)), (1, .int (nI (q)))] [.int (nI (0))]
          exact x_zret F hr (by rfl) dM_readsCode_79 (by rw [show mrc tx sn ds xs dg n q = some (2, q) from by rw [mrc, if_neg (fun z => by have z := z.2; rw [c59] at z; cases z), if_pos h70]]; exact ⟨rfl, fun b hb => (hf493 _ (by omega)).trans (rfl), rfl, _, _, (fun i hi => ⟨rfl, rfl⟩), hM493⟩)
      · skip
        have c60 : n = 0 := by
          exact (nI_eq (a := n) (b := 0) (by omega) (by omega)).mp c60
        refine x_iconst F (v := nI (0)) dM_readsCode_56 (by decide) ?_
        refine x_goto F (tgt := 70) dM_readsCode_57 (by decide) ?_
        refine xW.toi (mPre n ds) (by rw [c60]; rfl) ?_
        refine x_icmp_le F (tgt := 80) dM_readsCode_70 (by decide) (fun c93 => ?_) (fun c93 => ?_)
        · skip
          have h70 : ¬ mPre n ds < nI (rM tx sn q) := Int32.not_lt.mpr c93
          refine x_iload_n F 3 dM_readsCode_80 rfl rfl ?_
          refine x_bipush F (v := nI (40)) dM_readsCode_81 (by decide) ?_
          refine x_icmp_ne F (tgt := 93) dM_readsCode_83 (by decide) (fun c94 => ?_) (fun c94 => ?_)
          · skip
            have c94 : n ≠ 40 := by
              have z : ¬ (n = 40) := fun zz => c94 ((nI_eq (a := n) (b := 40) (by omega) (by omega)).mpr zz)
              omega
            refine x_iload F 1 dM_readsCode_93 rfl ?_
            refine x_iconst F (v := nI (4)) dM_readsCode_95 (by decide) ?_
            refine x_icmp_le F (tgt := 108) dM_readsCode_96 (by decide) (fun c95 => ?_) (fun c95 => ?_)
            · skip
              have c95 : rM tx sn q ≤ 4 := by
                exact (nI_leI (a := rM tx sn q) (b := 4) (by omega) (by omega)).mp c95
              refine x_aload_n F 4 dM_readsCode_108 rfl rfl ?_
              refine x_iload F 0 dM_readsCode_109 rfl ?_
              refine x_iconst F (v := nI (1)) dM_readsCode_111 (by decide) ?_
              refine yV (n := 2) (As := [.int (nI (q + rM tx sn q)), .int (nI (1))]) (ci := 6) F kmM_111 kiM_run ksM_run knM kcM_run (by decide +kernel) dM_readsCode_112 (cM_run1 l (nx) M (a) th sg sn pr fk fp rws cd ds wc wd nn nE nC nK nO ln lF lC lT lO fn fC fP ak ac pt hT tx hX (q + rM tx sn q) (by omega)) rfl h0 rfl rfl (Nat.le_of_ble_eq_true rfl) ⟨Nat.le_of_ble_eq_true rfl, Nat.le_of_ble_eq_true rfl⟩ ⟨Nat.le_of_ble_eq_true rfl, Nat.le_of_ble_eq_true rfl⟩ ?_
              refine x_istore F [(6, .int (nI (rD tx sn (q + rM tx sn q)))), (5, .int (nI (q + rM tx sn q))), (4, .int (nI (rM tx sn q))), (3, .int (nI (120 + n))), (2, .int (nI (n))), (0, .ref (a)), (1, .int (nI (q)))] dM_readsCode_115 (by decide) rfl ?_
              have hrl : rD tx sn (q + rM tx sn q) ≤ sn - (q + rM tx sn q) := rn_le _ _ _ _
              refine x_iload F 0 dM_readsCode_117 rfl ?_
              refine x_if_ne F (tgt := 130) dM_readsCode_119 (by decide) (fun c96 => ?_) (fun c96 => ?_)
              · skip
                have c96 : rD tx sn (q + rM tx sn q) ≠ 0 := by
                  have z : ¬ (rD tx sn (q + rM tx sn q) = 0) := fun zz => c96 ((nI_eq (a := rD tx sn (q + rM tx sn q)) (b := 0) (by omega) (by omega)).mpr zz)
                  omega
                refine x_iload F 0 dM_readsCode_130 rfl ?_
                refine x_bipush F (v := nI (10)) dM_readsCode_132 (by decide) ?_
                refine x_icmp_gt F (tgt := 145) dM_readsCode_134 (by decide) (fun c97 => ?_) (fun c97 => ?_)
                · skip
                  have c97 : 10 < rD tx sn (q + rM tx sn q) := by
                    exact (nI_ltI (a := 10) (b := rD tx sn (q + rM tx sn q)) (by omega) (by omega)).mp c97
                  refine x_aload_n F 5 dM_readsCode_145 rfl rfl ?_
                  refine x_iconst F (v := nI (1)) dM_readsCode_146 (by decide) ?_
                  refine x_iload F 0 dM_readsCode_147 rfl ?_
                  refine x_bipush F (v := nI (10)) dM_readsCode_149 (by decide) ?_
                  refine x_icmp_le F (tgt := 162) dM_readsCode_151 (by decide) (fun c98 => ?_) (fun c98 => ?_)
                  · skip
                    have c98 : rD tx sn (q + rM tx sn q) ≤ 10 := by
                      exact (nI_leI (a := rD tx sn (q + rM tx sn q)) (b := 10) (by omega) (by omega)).mp c98
                    exact absurd c98 (by omega)
                  · skip
                    have c98 : 10 < rD tx sn (q + rM tx sn q) := by
                      have z : ¬ (rD tx sn (q + rM tx sn q) ≤ 10) := fun zz => c98 ((nI_leI (a := rD tx sn (q + rM tx sn q)) (b := 10) (by omega) (by omega)).mpr zz)
                      omega
                    refine x_iload F 1 dM_readsCode_154 rfl ?_
                    refine x_bipush F (v := nI (10)) dM_readsCode_156 (by decide) ?_
                    refine x_iadd F dM_readsCode_158 ?_
                    refine xW.toi (nI (q + rM tx sn q + 10)) (nI_add _ _) ?_
                    refine x_goto F (tgt := 167) dM_readsCode_159 (by decide) ?_
                    refine yVr (n := 2) (As := [.int (nI (1)), .int (nI (q + rM tx sn q + 10))]) (ci := 6) F kmM_115 kiM_fails ksM_fails knM kcM_fails (by decide +kernel) dM_readsCode_167 (cM_fails l (nx) M (a) th sg sn pr fk fp rws cd ds wc wd nn nE nC nK nO ln lF lC lT lO fn fC fP ak ac pt hT (nI (1)) (nI (q + rM tx sn q + 10))) rfl h0 rfl rfl (Nat.le_of_ble_eq_true rfl) ⟨Nat.le_of_ble_eq_true rfl, Nat.le_of_ble_eq_true rfl⟩ ⟨Nat.le_of_ble_eq_true rfl, Nat.le_of_ble_eq_true rfl⟩ (fun r' n' M494 hp => ?_)
                    obtain ⟨hr', hn', hM494, hf494⟩ := hp
                    rw [hn', hr']
                    obtain ⟨v494_0, v494_1, v494_2, v494_3, v494_4, v494_5, v494_6, v494_7, v494_8, v494_9, v494_10, v494_11, v494_12, v494_13, v494_14, v494_15, v494_16, v494_17, v494_18, vb494_0, vb494_1, vb494_2, vb494_3, vb494_4, vb494_5⟩ := id hM494
                    show xW p l e ({ frames := 4, cells := 0, slots := 0, locals := 96 } : Room) s m args below meth c D xcl (x_A M nx) 8 (MQ below (x_Q D xcl (x_A M nx) (mcPost nx M a th sg sn pr fk fp rws cd ds wc wd nn nE nC nK nO ln lF lC lT lO fn fC fP ak ac pt n (rM tx sn q) (cN tx (q + rM tx sn q) (rD tx sn (q + rM tx sn q))) (mrc tx sn ds xs dg n q))) args s 0 0 (x_A M nx)) 0 0 (nx) M494 170 [(6, .int (nI (rD tx sn (q + rM tx sn q)))), (5, .int (nI (q + rM tx sn q))), (4, .int (nI (rM tx sn q))), (3, .int (nI (120 + n))), (2, .int (nI (n))), (0, .ref (a)), (1, .int (nI (q)))] [.int (nI (0))]
                    exact x_zret F hr (by rfl) dM_readsCode_170 (by rw [show mrc tx sn ds xs dg n q = some (1, q + rM tx sn q + 10) from by rw [mrc, if_neg (fun z => by have z := z.2; rw [c59] at z; cases z), if_neg h70, if_neg c94, if_neg (by omega), if_neg c96, if_pos c97]]; exact ⟨rfl, fun b hb => (hf494 _ (by omega)).trans (rfl), rfl, _, _, (fun i hi => ⟨rfl, rfl⟩), hM494⟩)
                · skip
                  have c97 : rD tx sn (q + rM tx sn q) ≤ 10 := by
                    have z : ¬ (10 < rD tx sn (q + rM tx sn q)) := fun zz => c97 ((nI_ltI (a := 10) (b := rD tx sn (q + rM tx sn q)) (by omega) (by omega)).mpr zz)
                    omega
                  refine x_iload F 0 dM_readsCode_137 rfl ?_
                  refine x_iconst F (v := nI (2)) dM_readsCode_139 (by decide) ?_
                  refine x_irem F dM_readsCode_140 (by decide) ?_
                  refine xW.toi (nI ((rD tx sn (q + rM tx sn q)) % 2)) (pk_rem (by omega) (by omega) (by omega)) ?_
                  refine x_iconst F (v := nI (1)) dM_readsCode_141 (by decide) ?_
                  refine x_icmp_ne F (tgt := 171) dM_readsCode_142 (by decide) (fun c99 => ?_) (fun c99 => ?_)
                  · skip
                    have c99 : (rD tx sn (q + rM tx sn q)) % 2 ≠ 1 := by
                      have z : ¬ ((rD tx sn (q + rM tx sn q)) % 2 = 1) := fun zz => c99 ((nI_eq (a := (rD tx sn (q + rM tx sn q)) % 2) (b := 1) (by omega) (by omega)).mpr zz)
                      omega
                    refine x_aload_n F 5 dM_readsCode_171 rfl rfl ?_
                    refine x_get (ci := 6) F 8 (x_in inM) rfl (by decide) (x_m kfM_24) dM_readsCode_172 h0 rfl ?_
                    refine x_iload_n F 3 dM_readsCode_175 rfl rfl ?_
                    refine x_iload F 2 dM_readsCode_176 rfl ?_
                    refine x_iast F dM_readsCode_178 h4 (pk_in (120 + n) (160) (by omega)) ?_
                    rw [nI_clamp (show 120 + n < 2 ^ 31 by omega)]
                    show xW p l e ({ frames := 4, cells := 0, slots := 0, locals := 96 } : Room) s m args below meth c D xcl (x_A M nx) 8 (MQ below (x_Q D xcl (x_A M nx) (mcPost nx M a th sg sn pr fk fp rws cd ds wc wd nn nE nC nK nO ln lF lC lT lO fn fC fP ak ac pt n (rM tx sn q) (cN tx (q + rM tx sn q) (rD tx sn (q + rM tx sn q))) (mrc tx sn ds xs dg n q))) args s 0 0 (x_A M nx)) 0 0 (nx) (x_up M (a + 4) (.inl (.int, 160, .inl (upd (ds) (120 + n) (nI (rM tx sn q)))))) 179 [(6, .int (nI (rD tx sn (q + rM tx sn q)))), (5, .int (nI (q + rM tx sn q))), (4, .int (nI (rM tx sn q))), (3, .int (nI (120 + n))), (2, .int (nI (n))), (0, .ref (a)), (1, .int (nI (q)))] []
                    refine x_aload_n F 5 dM_readsCode_179 rfl rfl ?_
                    refine x_get (ci := 6) F 7 (x_in inM) rfl (by decide) (x_m kfM_20) dM_readsCode_180 (x_up_k h0 (by omega)) rfl ?_
                    refine x_iload_n F 3 dM_readsCode_183 rfl rfl ?_
                    refine x_aload_n F 5 dM_readsCode_184 rfl rfl ?_
                    refine x_iload F 1 dM_readsCode_185 rfl ?_
                    refine x_iload F 0 dM_readsCode_187 rfl ?_
                    refine yV (n := 2) (As := [.int (nI (q + rM tx sn q)), .int (nI (rD tx sn (q + rM tx sn q)))]) (ci := 6) F kmM_119 kiM_codeAt ksM_codeAt knM kcM_codeAt (by decide +kernel) dM_readsCode_189 (cM_codeAt l (nx) (x_up M (a + 4) (.inl (.int, 160, .inl (upd (ds) (120 + n) (nI (rM tx sn q)))))) (a) th sg sn pr fk fp rws cd (upd (ds) (120 + n) (nI (rM tx sn q))) wc wd nn nE nC nK nO ln lF lC lT lO fn fC fP ak ac pt ⟨(x_up_k h0 (by omega)), (x_up_k h1 (by omega)), (x_up_k h2 (by omega)), (x_up_k h3 (by omega)), x_up_s, (x_up_k h5 (by omega)), (x_up_k h6 (by omega)), (x_up_k h7 (by omega)), (x_up_k h8 (by omega)), (x_up_k h9 (by omega)), (x_up_k h10 (by omega)), (x_up_k h11 (by omega)), (x_up_k h12 (by omega)), (x_up_k h13 (by omega)), (x_up_k h14 (by omega)), (x_up_k h15 (by omega)), (x_up_k h16 (by omega)), (x_up_k h17 (by omega)), (x_up_k h18 (by omega)), by omega, by omega, by omega, by omega, by omega, by omega⟩ tx hX (q + rM tx sn q) (rD tx sn (q + rM tx sn q)) (by omega) (fun i hi => rn_all hi)) rfl (x_up_k h0 (by omega)) rfl rfl (Nat.le_of_ble_eq_true rfl) ⟨Nat.le_of_ble_eq_true rfl, Nat.le_of_ble_eq_true rfl⟩ ⟨Nat.le_of_ble_eq_true rfl, Nat.le_of_ble_eq_true rfl⟩ ?_
                    refine x_last F dM_readsCode_192 (x_up_k h3 (by omega)) (pk_in (120 + n) (160) (by omega)) ?_
                    rw [nI_clamp (show 120 + n < 2 ^ 31 by omega)]
                    show xW p l e ({ frames := 4, cells := 0, slots := 0, locals := 96 } : Room) s m args below meth c D xcl (x_A M nx) 8 (MQ below (x_Q D xcl (x_A M nx) (mcPost nx M a th sg sn pr fk fp rws cd ds wc wd nn nE nC nK nO ln lF lC lT lO fn fC fP ak ac pt n (rM tx sn q) (cN tx (q + rM tx sn q) (rD tx sn (q + rM tx sn q))) (mrc tx sn ds xs dg n q))) args s 0 0 (x_A M nx)) 0 0 (nx) (x_up (x_up M (a + 4) (.inl (.int, 160, .inl (upd (ds) (120 + n) (nI (rM tx sn q)))))) (a + 3) (.inl (.long, 160, .inr (.inl (vp_updL (cd) (120 + n) (lN (cN tx (q + rM tx sn q) (rD tx sn (q + rM tx sn q))))))))) 193 [(6, .int (nI (rD tx sn (q + rM tx sn q)))), (5, .int (nI (q + rM tx sn q))), (4, .int (nI (rM tx sn q))), (3, .int (nI (120 + n))), (2, .int (nI (n))), (0, .ref (a)), (1, .int (nI (q)))] []
                    have hX10 : cdg (cN tx (q + rM tx sn q) (rD tx sn (q + rM tx sn q))) (rD tx sn (q + rM tx sn q)) := cN_dg (by omega) (fun i hi => rn_all hi)
                    refine x_aload_n F 5 dM_readsCode_193 rfl rfl ?_
                    refine x_bipush F (v := nI (120)) dM_readsCode_194 (by decide) ?_
                    refine x_iload_n F 3 dM_readsCode_196 rfl rfl ?_
                    refine yV (n := 2) (As := [.int (nI (120)), .int (nI (120 + n))]) (ci := 6) F kmM_123 kiM_above ksM_above knM kcM_above (by decide +kernel) dM_readsCode_197 (cM_above l (nx) (x_up (x_up M (a + 4) (.inl (.int, 160, .inl (upd (ds) (120 + n) (nI (rM tx sn q)))))) (a + 3) (.inl (.long, 160, .inr (.inl (vp_updL (cd) (120 + n) (lN (cN tx (q + rM tx sn q) (rD tx sn (q + rM tx sn q))))))))) (a) th sg sn pr fk fp rws (vp_updL (cd) (120 + n) (lN (cN tx (q + rM tx sn q) (rD tx sn (q + rM tx sn q))))) (upd (ds) (120 + n) (nI (rM tx sn q))) wc wd nn nE nC nK nO ln lF lC lT lO fn fC fP ak ac pt ⟨(x_up_k (x_up_k h0 (by omega)) (by omega)), (x_up_k (x_up_k h1 (by omega)) (by omega)), (x_up_k (x_up_k h2 (by omega)) (by omega)), x_up_s, (x_up_k x_up_s (by omega)), (x_up_k (x_up_k h5 (by omega)) (by omega)), (x_up_k (x_up_k h6 (by omega)) (by omega)), (x_up_k (x_up_k h7 (by omega)) (by omega)), (x_up_k (x_up_k h8 (by omega)) (by omega)), (x_up_k (x_up_k h9 (by omega)) (by omega)), (x_up_k (x_up_k h10 (by omega)) (by omega)), (x_up_k (x_up_k h11 (by omega)) (by omega)), (x_up_k (x_up_k h12 (by omega)) (by omega)), (x_up_k (x_up_k h13 (by omega)) (by omega)), (x_up_k (x_up_k h14 (by omega)) (by omega)), (x_up_k (x_up_k h15 (by omega)) (by omega)), (x_up_k (x_up_k h16 (by omega)) (by omega)), (x_up_k (x_up_k h17 (by omega)) (by omega)), (x_up_k (x_up_k h18 (by omega)) (by omega)), by omega, by omega, by omega, by omega, by omega, by omega⟩ 120 n (by omega)) rfl (x_up_k (x_up_k h0 (by omega)) (by omega)) rfl rfl (Nat.le_of_ble_eq_true rfl) ⟨Nat.le_of_ble_eq_true rfl, Nat.le_of_ble_eq_true rfl⟩ ⟨Nat.le_of_ble_eq_true rfl, Nat.le_of_ble_eq_true rfl⟩ ?_
                    rcases o_cases (mUp (upd ds (120 + n) (nI (rM tx sn q))) 120 n) with hup | ⟨j, hup⟩
                    · skip
                      refine xW.ste (st' := [.int ((-1))]) (by show ([.int (oj 120 (mUp (upd ds (120 + n) (nI (rM tx sn q))) 120 n))] : List Value) = _; rw [hup]; rfl) ?_
                      refine x_istore F [(7, .int ((-1))), (6, .int (nI (rD tx sn (q + rM tx sn q)))), (5, .int (nI (q + rM tx sn q))), (4, .int (nI (rM tx sn q))), (3, .int (nI (120 + n))), (2, .int (nI (n))), (0, .ref (a)), (1, .int (nI (q)))] dM_readsCode_200 (by decide) rfl ?_
                      refine x_iload F 3 dM_readsCode_202 rfl ?_
                      refine x_if_ne F (tgt := 213) dM_readsCode_204 (by decide) (fun c100 => ?_) (fun c100 => ?_)
                      · skip
                        have c100 : rM tx sn q ≠ 0 := by
                          have z : ¬ (rM tx sn q = 0) := fun zz => c100 ((nI_eq (a := rM tx sn q) (b := 0) (by omega) (by omega)).mpr zz)
                          omega
                        refine x_iload F 3 dM_readsCode_213 rfl ?_
                        refine x_if_le F (tgt := 254) dM_readsCode_215 (by decide) (fun c101 => ?_) (fun c101 => ?_)
                        · skip
                          have c101 : rM tx sn q ≤ 0 := by
                            exact (nI_leI (a := rM tx sn q) (b := 0) (by omega) (by omega)).mp c101
                          exact absurd c101 (by omega)
                        · skip
                          have c101 : 0 < rM tx sn q := by
                            have z : ¬ (rM tx sn q ≤ 0) := fun zz => c101 ((nI_leI (a := rM tx sn q) (b := 0) (by omega) (by omega)).mpr zz)
                            omega
                          refine x_aload_n F 6 dM_readsCode_218 rfl rfl ?_
                          refine x_get (ci := 6) F 7 (x_in inM) rfl (by decide) (x_m kfM_20) dM_readsCode_219 (x_up_k (x_up_k h0 (by omega)) (by omega)) rfl ?_
                          refine x_iload_n F 4 dM_readsCode_222 rfl rfl ?_
                          refine x_lald F dM_readsCode_223 x_up_s (pk_in (120 + n) (160) (by omega)) ?_
                          refine xW.tol (lN (cN tx (q + rM tx sn q) (rD tx sn (q + rM tx sn q)))) (by rw [nI_clamp (by omega)]; exact vp_us) ?_
                          refine x_aload_n F 6 dM_readsCode_224 rfl rfl ?_
                          refine x_get (ci := 6) F 7 (x_in inM) rfl (by decide) (x_m kfM_20) dM_readsCode_225 (x_up_k (x_up_k h0 (by omega)) (by omega)) rfl ?_
                          refine x_iload F 0 dM_readsCode_228 rfl ?_
                          refine x_if_ge F (tgt := 237) dM_readsCode_230 (by decide) (fun c102 => ?_) (fun c102 => ?_)
                          · skip
                            exact absurd c102 (by decide)
                          · skip
                            refine x_iload_n F 4 dM_readsCode_233 rfl rfl ?_
                            refine x_goto F (tgt := 239) dM_readsCode_234 (by decide) ?_
                            refine x_lald F dM_readsCode_239 x_up_s (pk_in (120 + n) (160) (by omega)) ?_
                            refine xW.tol (lN (cN tx (q + rM tx sn q) (rD tx sn (q + rM tx sn q)))) (by rw [nI_clamp (by omega)]; exact vp_us) ?_
                            refine yS (n := 2) (As := [.long (lN (cN tx (q + rM tx sn q) (rD tx sn (q + rM tx sn q)))), .long (lN (cN tx (q + rM tx sn q) (rD tx sn (q + rM tx sn q))))]) F kmM_107 ktM_begins knM kcM_begins (by decide +kernel) dM_readsCode_240 (cM_begins l (nx) (x_up (x_up M (a + 4) (.inl (.int, 160, .inl (upd (ds) (120 + n) (nI (rM tx sn q)))))) (a + 3) (.inl (.long, 160, .inr (.inl (vp_updL (cd) (120 + n) (lN (cN tx (q + rM tx sn q) (rD tx sn (q + rM tx sn q))))))))) (cN tx (q + rM tx sn q) (rD tx sn (q + rM tx sn q))) (rD tx sn (q + rM tx sn q)) (cN tx (q + rM tx sn q) (rD tx sn (q + rM tx sn q))) (rD tx sn (q + rM tx sn q)) hX10 hX10) rfl rfl (Nat.le_of_ble_eq_true rfl) ⟨Nat.le_of_ble_eq_true rfl, Nat.le_of_ble_eq_true rfl⟩ ⟨Nat.le_of_ble_eq_true rfl, Nat.le_of_ble_eq_true rfl⟩ ?_
                            refine x_if_ne F (tgt := 254) dM_readsCode_243 (by decide) (fun c103 => ?_) (fun c103 => ?_)
                            · skip
                              have c103 : (mbg (cN tx (q + rM tx sn q) (rD tx sn (q + rM tx sn q))) (rD tx sn (q + rM tx sn q)) (cN tx (q + rM tx sn q) (rD tx sn (q + rM tx sn q))) (rD tx sn (q + rM tx sn q))) = true := bI_1 c103
                              have hla := mUp_la (by omega) hup
                              have hbad : mBad ds xs dg n (rM tx sn q) (cN tx (q + rM tx sn q) (rD tx sn (q + rM tx sn q))) (rD tx sn (q + rM tx sn q)) = false := by rw [mBad, if_neg (by omega), hla]; rw [mbg_self] at c103; cases c103
                              refine x_iload_n F 5 dM_readsCode_254 rfl rfl ?_
                              refine x_if_eq F (tgt := 288) dM_readsCode_255 (by decide) (fun c104 => ?_) (fun c104 => ?_)
                              · skip
                                have c104 : n = 0 := by
                                  exact (nI_eq (a := n) (b := 0) (by omega) (by omega)).mp c104
                                have hbeh : mBeh xs dg n (cN tx (q + rM tx sn q) (rD tx sn (q + rM tx sn q))) (rD tx sn (q + rM tx sn q)) = true := by rw [c104]; rfl
                                refine x_iconst F (v := nI (1)) dM_readsCode_288 (by decide) ?_
                                refine x_goto F (tgt := 293) dM_readsCode_289 (by decide) ?_
                                exact x_zret F hr (by rfl) dM_readsCode_293 (by rw [show mrc tx sn ds xs dg n q = none from by rw [mrc, if_neg (fun z => by have z := z.2; rw [c59] at z; cases z), if_neg h70, if_neg c94, if_neg (by omega), if_neg c96, if_neg (by omega), if_neg c99, if_neg (by rw [hbad]; decide), if_neg (by rw [hbeh]; decide)]]; exact ⟨rfl, fun b hb => (x_up_n (by omega)).trans ((x_up_n (by omega)).trans (rfl)), rfl, ⟨(x_up_k (x_up_k h0 (by omega)) (by omega)), (x_up_k (x_up_k h1 (by omega)) (by omega)), (x_up_k (x_up_k h2 (by omega)) (by omega)), x_up_s, (x_up_k x_up_s (by omega)), (x_up_k (x_up_k h5 (by omega)) (by omega)), (x_up_k (x_up_k h6 (by omega)) (by omega)), (x_up_k (x_up_k h7 (by omega)) (by omega)), (x_up_k (x_up_k h8 (by omega)) (by omega)), (x_up_k (x_up_k h9 (by omega)) (by omega)), (x_up_k (x_up_k h10 (by omega)) (by omega)), (x_up_k (x_up_k h11 (by omega)) (by omega)), (x_up_k (x_up_k h12 (by omega)) (by omega)), (x_up_k (x_up_k h13 (by omega)) (by omega)), (x_up_k (x_up_k h14 (by omega)) (by omega)), (x_up_k (x_up_k h15 (by omega)) (by omega)), (x_up_k (x_up_k h16 (by omega)) (by omega)), (x_up_k (x_up_k h17 (by omega)) (by omega)), (x_up_k (x_up_k h18 (by omega)) (by omega)), by omega, by omega, by omega, by omega, by omega, by omega⟩⟩)
                              · skip
                                have c104 : n ≠ 0 := by
                                  have z : ¬ (n = 0) := fun zz => c104 ((nI_eq (a := n) (b := 0) (by omega) (by omega)).mpr zz)
                                  omega
                                exact absurd c104 (by omega)
                            · skip
                              have c103 : (mbg (cN tx (q + rM tx sn q) (rD tx sn (q + rM tx sn q))) (rD tx sn (q + rM tx sn q)) (cN tx (q + rM tx sn q) (rD tx sn (q + rM tx sn q))) (rD tx sn (q + rM tx sn q))) = false := bI_0 c103
                              have hla := mUp_la (by omega) hup
                              have hbad : mBad ds xs dg n (rM tx sn q) (cN tx (q + rM tx sn q) (rD tx sn (q + rM tx sn q))) (rD tx sn (q + rM tx sn q)) = true := by rw [mBad, if_neg (by omega), hla]
                              refine x_aload_n F 6 dM_readsCode_246 rfl rfl ?_
                              refine x_iconst F (v := nI (3)) dM_readsCode_247 (by decide) ?_
                              refine x_iload F 2 dM_readsCode_248 rfl ?_
                              refine yVr (n := 2) (As := [.int (nI (3)), .int (nI (q + rM tx sn q))]) (ci := 6) F kmM_115 kiM_fails ksM_fails knM kcM_fails (by decide +kernel) dM_readsCode_250 (cM_fails l (nx) (x_up (x_up M (a + 4) (.inl (.int, 160, .inl (upd (ds) (120 + n) (nI (rM tx sn q)))))) (a + 3) (.inl (.long, 160, .inr (.inl (vp_updL (cd) (120 + n) (lN (cN tx (q + rM tx sn q) (rD tx sn (q + rM tx sn q))))))))) (a) th sg sn pr fk fp rws (vp_updL (cd) (120 + n) (lN (cN tx (q + rM tx sn q) (rD tx sn (q + rM tx sn q))))) (upd (ds) (120 + n) (nI (rM tx sn q))) wc wd nn nE nC nK nO ln lF lC lT lO fn fC fP ak ac pt ⟨(x_up_k (x_up_k h0 (by omega)) (by omega)), (x_up_k (x_up_k h1 (by omega)) (by omega)), (x_up_k (x_up_k h2 (by omega)) (by omega)), x_up_s, (x_up_k x_up_s (by omega)), (x_up_k (x_up_k h5 (by omega)) (by omega)), (x_up_k (x_up_k h6 (by omega)) (by omega)), (x_up_k (x_up_k h7 (by omega)) (by omega)), (x_up_k (x_up_k h8 (by omega)) (by omega)), (x_up_k (x_up_k h9 (by omega)) (by omega)), (x_up_k (x_up_k h10 (by omega)) (by omega)), (x_up_k (x_up_k h11 (by omega)) (by omega)), (x_up_k (x_up_k h12 (by omega)) (by omega)), (x_up_k (x_up_k h13 (by omega)) (by omega)), (x_up_k (x_up_k h14 (by omega)) (by omega)), (x_up_k (x_up_k h15 (by omega)) (by omega)), (x_up_k (x_up_k h16 (by omega)) (by omega)), (x_up_k (x_up_k h17 (by omega)) (by omega)), (x_up_k (x_up_k h18 (by omega)) (by omega)), by omega, by omega, by omega, by omega, by omega, by omega⟩ (nI (3)) (nI (q + rM tx sn q))) rfl (x_up_k (x_up_k h0 (by omega)) (by omega)) rfl rfl (Nat.le_of_ble_eq_true rfl) ⟨Nat.le_of_ble_eq_true rfl, Nat.le_of_ble_eq_true rfl⟩ ⟨Nat.le_of_ble_eq_true rfl, Nat.le_of_ble_eq_true rfl⟩ (fun r' n' M495 hp => ?_)
                              obtain ⟨hr', hn', hM495, hf495⟩ := hp
                              rw [hn', hr']
                              obtain ⟨v495_0, v495_1, v495_2, v495_3, v495_4, v495_5, v495_6, v495_7, v495_8, v495_9, v495_10, v495_11, v495_12, v495_13, v495_14, v495_15, v495_16, v495_17, v495_18, vb495_0, vb495_1, vb495_2, vb495_3, vb495_4, vb495_5⟩ := id hM495
                              show xW p l e ({ frames := 4, cells := 0, slots := 0, locals := 96 } : Room) s m args below meth c D xcl (x_A M nx) 8 (MQ below (x_Q D xcl (x_A M nx) (mcPost nx M a th sg sn pr fk fp rws cd ds wc wd nn nE nC nK nO ln lF lC lT lO fn fC fP ak ac pt n (rM tx sn q) (cN tx (q + rM tx sn q) (rD tx sn (q + rM tx sn q))) (mrc tx sn ds xs dg n q))) args s 0 0 (x_A M nx)) 0 0 (nx) M495 253 [(7, .int ((-1))), (6, .int (nI (rD tx sn (q + rM tx sn q)))), (5, .int (nI (q + rM tx sn q))), (4, .int (nI (rM tx sn q))), (3, .int (nI (120 + n))), (2, .int (nI (n))), (0, .ref (a)), (1, .int (nI (q)))] [.int (nI (0))]
                              exact x_zret F hr (by rfl) dM_readsCode_253 (by rw [show mrc tx sn ds xs dg n q = some (3, q + rM tx sn q) from by rw [mrc, if_neg (fun z => by have z := z.2; rw [c59] at z; cases z), if_neg h70, if_neg c94, if_neg (by omega), if_neg c96, if_neg (by omega), if_neg c99, if_pos hbad]]; exact ⟨rfl, fun b hb => (hf495 _ (by omega)).trans ((x_up_n (by omega)).trans ((x_up_n (by omega)).trans (rfl))), rfl, _, _, (fun i hi => ⟨updL_ne (by omega), upd_ne (by omega)⟩), hM495⟩)
                      · skip
                        have c100 : rM tx sn q = 0 := by
                          exact (nI_eq (a := rM tx sn q) (b := 0) (by omega) (by omega)).mp c100
                        refine x_iload F 1 dM_readsCode_207 rfl ?_
                        refine x_iconst F (v := nI (2)) dM_readsCode_209 (by decide) ?_
                        refine x_icmp_ne F (tgt := 246) dM_readsCode_210 (by decide) (fun c105 => ?_) (fun c105 => ?_)
                        · skip
                          have c105 : rD tx sn (q + rM tx sn q) ≠ 2 := by
                            have z : ¬ (rD tx sn (q + rM tx sn q) = 2) := fun zz => c105 ((nI_eq (a := rD tx sn (q + rM tx sn q)) (b := 2) (by omega) (by omega)).mpr zz)
                            omega
                          have hbad : mBad ds xs dg n (rM tx sn q) (cN tx (q + rM tx sn q) (rD tx sn (q + rM tx sn q))) (rD tx sn (q + rM tx sn q)) = true := by rw [mBad, if_pos c100, decide_eq_false c105]; rfl
                          refine x_aload_n F 6 dM_readsCode_246 rfl rfl ?_
                          refine x_iconst F (v := nI (3)) dM_readsCode_247 (by decide) ?_
                          refine x_iload F 2 dM_readsCode_248 rfl ?_
                          refine yVr (n := 2) (As := [.int (nI (3)), .int (nI (q + rM tx sn q))]) (ci := 6) F kmM_115 kiM_fails ksM_fails knM kcM_fails (by decide +kernel) dM_readsCode_250 (cM_fails l (nx) (x_up (x_up M (a + 4) (.inl (.int, 160, .inl (upd (ds) (120 + n) (nI (rM tx sn q)))))) (a + 3) (.inl (.long, 160, .inr (.inl (vp_updL (cd) (120 + n) (lN (cN tx (q + rM tx sn q) (rD tx sn (q + rM tx sn q))))))))) (a) th sg sn pr fk fp rws (vp_updL (cd) (120 + n) (lN (cN tx (q + rM tx sn q) (rD tx sn (q + rM tx sn q))))) (upd (ds) (120 + n) (nI (rM tx sn q))) wc wd nn nE nC nK nO ln lF lC lT lO fn fC fP ak ac pt ⟨(x_up_k (x_up_k h0 (by omega)) (by omega)), (x_up_k (x_up_k h1 (by omega)) (by omega)), (x_up_k (x_up_k h2 (by omega)) (by omega)), x_up_s, (x_up_k x_up_s (by omega)), (x_up_k (x_up_k h5 (by omega)) (by omega)), (x_up_k (x_up_k h6 (by omega)) (by omega)), (x_up_k (x_up_k h7 (by omega)) (by omega)), (x_up_k (x_up_k h8 (by omega)) (by omega)), (x_up_k (x_up_k h9 (by omega)) (by omega)), (x_up_k (x_up_k h10 (by omega)) (by omega)), (x_up_k (x_up_k h11 (by omega)) (by omega)), (x_up_k (x_up_k h12 (by omega)) (by omega)), (x_up_k (x_up_k h13 (by omega)) (by omega)), (x_up_k (x_up_k h14 (by omega)) (by omega)), (x_up_k (x_up_k h15 (by omega)) (by omega)), (x_up_k (x_up_k h16 (by omega)) (by omega)), (x_up_k (x_up_k h17 (by omega)) (by omega)), (x_up_k (x_up_k h18 (by omega)) (by omega)), by omega, by omega, by omega, by omega, by omega, by omega⟩ (nI (3)) (nI (q + rM tx sn q))) rfl (x_up_k (x_up_k h0 (by omega)) (by omega)) rfl rfl (Nat.le_of_ble_eq_true rfl) ⟨Nat.le_of_ble_eq_true rfl, Nat.le_of_ble_eq_true rfl⟩ ⟨Nat.le_of_ble_eq_true rfl, Nat.le_of_ble_eq_true rfl⟩ (fun r' n' M496 hp => ?_)
                          obtain ⟨hr', hn', hM496, hf496⟩ := hp
                          rw [hn', hr']
                          obtain ⟨v496_0, v496_1, v496_2, v496_3, v496_4, v496_5, v496_6, v496_7, v496_8, v496_9, v496_10, v496_11, v496_12, v496_13, v496_14, v496_15, v496_16, v496_17, v496_18, vb496_0, vb496_1, vb496_2, vb496_3, vb496_4, vb496_5⟩ := id hM496
                          show xW p l e ({ frames := 4, cells := 0, slots := 0, locals := 96 } : Room) s m args below meth c D xcl (x_A M nx) 8 (MQ below (x_Q D xcl (x_A M nx) (mcPost nx M a th sg sn pr fk fp rws cd ds wc wd nn nE nC nK nO ln lF lC lT lO fn fC fP ak ac pt n (rM tx sn q) (cN tx (q + rM tx sn q) (rD tx sn (q + rM tx sn q))) (mrc tx sn ds xs dg n q))) args s 0 0 (x_A M nx)) 0 0 (nx) M496 253 [(7, .int ((-1))), (6, .int (nI (rD tx sn (q + rM tx sn q)))), (5, .int (nI (q + rM tx sn q))), (4, .int (nI (rM tx sn q))), (3, .int (nI (120 + n))), (2, .int (nI (n))), (0, .ref (a)), (1, .int (nI (q)))] [.int (nI (0))]
                          exact x_zret F hr (by rfl) dM_readsCode_253 (by rw [show mrc tx sn ds xs dg n q = some (3, q + rM tx sn q) from by rw [mrc, if_neg (fun z => by have z := z.2; rw [c59] at z; cases z), if_neg h70, if_neg c94, if_neg (by omega), if_neg c96, if_neg (by omega), if_neg c99, if_pos hbad]]; exact ⟨rfl, fun b hb => (hf496 _ (by omega)).trans ((x_up_n (by omega)).trans ((x_up_n (by omega)).trans (rfl))), rfl, _, _, (fun i hi => ⟨updL_ne (by omega), upd_ne (by omega)⟩), hM496⟩)
                        · skip
                          have c105 : rD tx sn (q + rM tx sn q) = 2 := by
                            exact (nI_eq (a := rD tx sn (q + rM tx sn q)) (b := 2) (by omega) (by omega)).mp c105
                          refine x_iload F 3 dM_readsCode_213 rfl ?_
                          refine x_if_le F (tgt := 254) dM_readsCode_215 (by decide) (fun c106 => ?_) (fun c106 => ?_)
                          · skip
                            have c106 : rM tx sn q ≤ 0 := by
                              exact (nI_leI (a := rM tx sn q) (b := 0) (by omega) (by omega)).mp c106
                            have hbad : mBad ds xs dg n (rM tx sn q) (cN tx (q + rM tx sn q) (rD tx sn (q + rM tx sn q))) (rD tx sn (q + rM tx sn q)) = false := by rw [mBad, if_pos (by omega), decide_eq_true (by omega)]; rfl
                            refine x_iload_n F 5 dM_readsCode_254 rfl rfl ?_
                            refine x_if_eq F (tgt := 288) dM_readsCode_255 (by decide) (fun c107 => ?_) (fun c107 => ?_)
                            · skip
                              have c107 : n = 0 := by
                                exact (nI_eq (a := n) (b := 0) (by omega) (by omega)).mp c107
                              have hbeh : mBeh xs dg n (cN tx (q + rM tx sn q) (rD tx sn (q + rM tx sn q))) (rD tx sn (q + rM tx sn q)) = true := by rw [c107]; rfl
                              refine x_iconst F (v := nI (1)) dM_readsCode_288 (by decide) ?_
                              refine x_goto F (tgt := 293) dM_readsCode_289 (by decide) ?_
                              exact x_zret F hr (by rfl) dM_readsCode_293 (by rw [show mrc tx sn ds xs dg n q = none from by rw [mrc, if_neg (fun z => by have z := z.2; rw [c59] at z; cases z), if_neg h70, if_neg c94, if_neg (by omega), if_neg c96, if_neg (by omega), if_neg c99, if_neg (by rw [hbad]; decide), if_neg (by rw [hbeh]; decide)]]; exact ⟨rfl, fun b hb => (x_up_n (by omega)).trans ((x_up_n (by omega)).trans (rfl)), rfl, ⟨(x_up_k (x_up_k h0 (by omega)) (by omega)), (x_up_k (x_up_k h1 (by omega)) (by omega)), (x_up_k (x_up_k h2 (by omega)) (by omega)), x_up_s, (x_up_k x_up_s (by omega)), (x_up_k (x_up_k h5 (by omega)) (by omega)), (x_up_k (x_up_k h6 (by omega)) (by omega)), (x_up_k (x_up_k h7 (by omega)) (by omega)), (x_up_k (x_up_k h8 (by omega)) (by omega)), (x_up_k (x_up_k h9 (by omega)) (by omega)), (x_up_k (x_up_k h10 (by omega)) (by omega)), (x_up_k (x_up_k h11 (by omega)) (by omega)), (x_up_k (x_up_k h12 (by omega)) (by omega)), (x_up_k (x_up_k h13 (by omega)) (by omega)), (x_up_k (x_up_k h14 (by omega)) (by omega)), (x_up_k (x_up_k h15 (by omega)) (by omega)), (x_up_k (x_up_k h16 (by omega)) (by omega)), (x_up_k (x_up_k h17 (by omega)) (by omega)), (x_up_k (x_up_k h18 (by omega)) (by omega)), by omega, by omega, by omega, by omega, by omega, by omega⟩⟩)
                            · skip
                              have c107 : n ≠ 0 := by
                                have z : ¬ (n = 0) := fun zz => c107 ((nI_eq (a := n) (b := 0) (by omega) (by omega)).mpr zz)
                                omega
                              exact absurd c107 (by omega)
                          · skip
                            have c106 : 0 < rM tx sn q := by
                              have z : ¬ (rM tx sn q ≤ 0) := fun zz => c106 ((nI_leI (a := rM tx sn q) (b := 0) (by omega) (by omega)).mpr zz)
                              omega
                            exact absurd c106 (by omega)
                    · skip
                      have hj : j < n := mUp_lt hup
                      refine xW.ste (st' := [.int (nI (120 + j))]) (by show ([.int (oj 120 (mUp (upd ds (120 + n) (nI (rM tx sn q))) 120 n))] : List Value) = _; rw [hup]; rfl) ?_
                      refine x_istore F [(7, .int (nI (120 + j))), (6, .int (nI (rD tx sn (q + rM tx sn q)))), (5, .int (nI (q + rM tx sn q))), (4, .int (nI (rM tx sn q))), (3, .int (nI (120 + n))), (2, .int (nI (n))), (0, .ref (a)), (1, .int (nI (q)))] dM_readsCode_200 (by decide) rfl ?_
                      refine x_iload F 3 dM_readsCode_202 rfl ?_
                      refine x_if_ne F (tgt := 213) dM_readsCode_204 (by decide) (fun c108 => ?_) (fun c108 => ?_)
                      · skip
                        have c108 : rM tx sn q ≠ 0 := by
                          have z : ¬ (rM tx sn q = 0) := fun zz => c108 ((nI_eq (a := rM tx sn q) (b := 0) (by omega) (by omega)).mpr zz)
                          omega
                        refine x_iload F 3 dM_readsCode_213 rfl ?_
                        refine x_if_le F (tgt := 254) dM_readsCode_215 (by decide) (fun c109 => ?_) (fun c109 => ?_)
                        · skip
                          have c109 : rM tx sn q ≤ 0 := by
                            exact (nI_leI (a := rM tx sn q) (b := 0) (by omega) (by omega)).mp c109
                          exact absurd c109 (by omega)
                        · skip
                          have c109 : 0 < rM tx sn q := by
                            have z : ¬ (rM tx sn q ≤ 0) := fun zz => c109 ((nI_leI (a := rM tx sn q) (b := 0) (by omega) (by omega)).mpr zz)
                            omega
                          refine x_aload_n F 6 dM_readsCode_218 rfl rfl ?_
                          refine x_get (ci := 6) F 7 (x_in inM) rfl (by decide) (x_m kfM_20) dM_readsCode_219 (x_up_k (x_up_k h0 (by omega)) (by omega)) rfl ?_
                          refine x_iload_n F 4 dM_readsCode_222 rfl rfl ?_
                          refine x_lald F dM_readsCode_223 x_up_s (pk_in (120 + n) (160) (by omega)) ?_
                          refine xW.tol (lN (cN tx (q + rM tx sn q) (rD tx sn (q + rM tx sn q)))) (by rw [nI_clamp (by omega)]; exact vp_us) ?_
                          refine x_aload_n F 6 dM_readsCode_224 rfl rfl ?_
                          refine x_get (ci := 6) F 7 (x_in inM) rfl (by decide) (x_m kfM_20) dM_readsCode_225 (x_up_k (x_up_k h0 (by omega)) (by omega)) rfl ?_
                          refine x_iload F 0 dM_readsCode_228 rfl ?_
                          refine x_if_ge F (tgt := 237) dM_readsCode_230 (by decide) (fun c110 => ?_) (fun c110 => ?_)
                          · skip
                            have c110 : 0 ≤ 120 + j := by
                              exact (nI_leI (a := 0) (b := 120 + j) (by omega) (by omega)).mp c110
                            refine x_iload F 0 dM_readsCode_237 rfl ?_
                            refine x_lald F dM_readsCode_239 x_up_s (pk_in (120 + j) (160) (by omega)) ?_
                            refine xW.tol (lN (xs j)) (by rw [nI_clamp (by omega)]; exact (updL_ne (by omega)).trans (hcd j hj).1) ?_
                            refine yS (n := 2) (As := [.long (lN (cN tx (q + rM tx sn q) (rD tx sn (q + rM tx sn q)))), .long (lN (xs j))]) F kmM_107 ktM_begins knM kcM_begins (by decide +kernel) dM_readsCode_240 (cM_begins l (nx) (x_up (x_up M (a + 4) (.inl (.int, 160, .inl (upd (ds) (120 + n) (nI (rM tx sn q)))))) (a + 3) (.inl (.long, 160, .inr (.inl (vp_updL (cd) (120 + n) (lN (cN tx (q + rM tx sn q) (rD tx sn (q + rM tx sn q))))))))) (cN tx (q + rM tx sn q) (rD tx sn (q + rM tx sn q))) (rD tx sn (q + rM tx sn q)) (xs j) (dg j) hX10 (hcd j hj).2) rfl rfl (Nat.le_of_ble_eq_true rfl) ⟨Nat.le_of_ble_eq_true rfl, Nat.le_of_ble_eq_true rfl⟩ ⟨Nat.le_of_ble_eq_true rfl, Nat.le_of_ble_eq_true rfl⟩ ?_
                            refine x_if_ne F (tgt := 254) dM_readsCode_243 (by decide) (fun c111 => ?_) (fun c111 => ?_)
                            · skip
                              have c111 : (mbg (cN tx (q + rM tx sn q) (rD tx sn (q + rM tx sn q))) (rD tx sn (q + rM tx sn q)) (xs j) (dg j)) = true := bI_1 c111
                              have hla := mUp_la (by omega) hup
                              have hbad : mBad ds xs dg n (rM tx sn q) (cN tx (q + rM tx sn q) (rD tx sn (q + rM tx sn q))) (rD tx sn (q + rM tx sn q)) = false := by rw [mBad, if_neg (by omega), hla]; show (! mbg (cN tx (q + rM tx sn q) (rD tx sn (q + rM tx sn q))) (rD tx sn (q + rM tx sn q)) (xs j) (dg j)) = false; rw [c111]; rfl
                              refine x_iload_n F 5 dM_readsCode_254 rfl rfl ?_
                              refine x_if_eq F (tgt := 288) dM_readsCode_255 (by decide) (fun c112 => ?_) (fun c112 => ?_)
                              · skip
                                have c112 : n = 0 := by
                                  exact (nI_eq (a := n) (b := 0) (by omega) (by omega)).mp c112
                                have hbeh : mBeh xs dg n (cN tx (q + rM tx sn q) (rD tx sn (q + rM tx sn q))) (rD tx sn (q + rM tx sn q)) = true := by rw [c112]; rfl
                                refine x_iconst F (v := nI (1)) dM_readsCode_288 (by decide) ?_
                                refine x_goto F (tgt := 293) dM_readsCode_289 (by decide) ?_
                                exact x_zret F hr (by rfl) dM_readsCode_293 (by rw [show mrc tx sn ds xs dg n q = none from by rw [mrc, if_neg (fun z => by have z := z.2; rw [c59] at z; cases z), if_neg h70, if_neg c94, if_neg (by omega), if_neg c96, if_neg (by omega), if_neg c99, if_neg (by rw [hbad]; decide), if_neg (by rw [hbeh]; decide)]]; exact ⟨rfl, fun b hb => (x_up_n (by omega)).trans ((x_up_n (by omega)).trans (rfl)), rfl, ⟨(x_up_k (x_up_k h0 (by omega)) (by omega)), (x_up_k (x_up_k h1 (by omega)) (by omega)), (x_up_k (x_up_k h2 (by omega)) (by omega)), x_up_s, (x_up_k x_up_s (by omega)), (x_up_k (x_up_k h5 (by omega)) (by omega)), (x_up_k (x_up_k h6 (by omega)) (by omega)), (x_up_k (x_up_k h7 (by omega)) (by omega)), (x_up_k (x_up_k h8 (by omega)) (by omega)), (x_up_k (x_up_k h9 (by omega)) (by omega)), (x_up_k (x_up_k h10 (by omega)) (by omega)), (x_up_k (x_up_k h11 (by omega)) (by omega)), (x_up_k (x_up_k h12 (by omega)) (by omega)), (x_up_k (x_up_k h13 (by omega)) (by omega)), (x_up_k (x_up_k h14 (by omega)) (by omega)), (x_up_k (x_up_k h15 (by omega)) (by omega)), (x_up_k (x_up_k h16 (by omega)) (by omega)), (x_up_k (x_up_k h17 (by omega)) (by omega)), (x_up_k (x_up_k h18 (by omega)) (by omega)), by omega, by omega, by omega, by omega, by omega, by omega⟩⟩)
                              · skip
                                have c112 : n ≠ 0 := by
                                  have z : ¬ (n = 0) := fun zz => c112 ((nI_eq (a := n) (b := 0) (by omega) (by omega)).mpr zz)
                                  omega
                                exact absurd c112 (by omega)
                            · skip
                              have c111 : (mbg (cN tx (q + rM tx sn q) (rD tx sn (q + rM tx sn q))) (rD tx sn (q + rM tx sn q)) (xs j) (dg j)) = false := bI_0 c111
                              have hla := mUp_la (by omega) hup
                              have hbad : mBad ds xs dg n (rM tx sn q) (cN tx (q + rM tx sn q) (rD tx sn (q + rM tx sn q))) (rD tx sn (q + rM tx sn q)) = true := by rw [mBad, if_neg (by omega), hla]; show (! mbg (cN tx (q + rM tx sn q) (rD tx sn (q + rM tx sn q))) (rD tx sn (q + rM tx sn q)) (xs j) (dg j)) = true; rw [c111]; rfl
                              refine x_aload_n F 6 dM_readsCode_246 rfl rfl ?_
                              refine x_iconst F (v := nI (3)) dM_readsCode_247 (by decide) ?_
                              refine x_iload F 2 dM_readsCode_248 rfl ?_
                              refine yVr (n := 2) (As := [.int (nI (3)), .int (nI (q + rM tx sn q))]) (ci := 6) F kmM_115 kiM_fails ksM_fails knM kcM_fails (by decide +kernel) dM_readsCode_250 (cM_fails l (nx) (x_up (x_up M (a + 4) (.inl (.int, 160, .inl (upd (ds) (120 + n) (nI (rM tx sn q)))))) (a + 3) (.inl (.long, 160, .inr (.inl (vp_updL (cd) (120 + n) (lN (cN tx (q + rM tx sn q) (rD tx sn (q + rM tx sn q))))))))) (a) th sg sn pr fk fp rws (vp_updL (cd) (120 + n) (lN (cN tx (q + rM tx sn q) (rD tx sn (q + rM tx sn q))))) (upd (ds) (120 + n) (nI (rM tx sn q))) wc wd nn nE nC nK nO ln lF lC lT lO fn fC fP ak ac pt ⟨(x_up_k (x_up_k h0 (by omega)) (by omega)), (x_up_k (x_up_k h1 (by omega)) (by omega)), (x_up_k (x_up_k h2 (by omega)) (by omega)), x_up_s, (x_up_k x_up_s (by omega)), (x_up_k (x_up_k h5 (by omega)) (by omega)), (x_up_k (x_up_k h6 (by omega)) (by omega)), (x_up_k (x_up_k h7 (by omega)) (by omega)), (x_up_k (x_up_k h8 (by omega)) (by omega)), (x_up_k (x_up_k h9 (by omega)) (by omega)), (x_up_k (x_up_k h10 (by omega)) (by omega)), (x_up_k (x_up_k h11 (by omega)) (by omega)), (x_up_k (x_up_k h12 (by omega)) (by omega)), (x_up_k (x_up_k h13 (by omega)) (by omega)), (x_up_k (x_up_k h14 (by omega)) (by omega)), (x_up_k (x_up_k h15 (by omega)) (by omega)), (x_up_k (x_up_k h16 (by omega)) (by omega)), (x_up_k (x_up_k h17 (by omega)) (by omega)), (x_up_k (x_up_k h18 (by omega)) (by omega)), by omega, by omega, by omega, by omega, by omega, by omega⟩ (nI (3)) (nI (q + rM tx sn q))) rfl (x_up_k (x_up_k h0 (by omega)) (by omega)) rfl rfl (Nat.le_of_ble_eq_true rfl) ⟨Nat.le_of_ble_eq_true rfl, Nat.le_of_ble_eq_true rfl⟩ ⟨Nat.le_of_ble_eq_true rfl, Nat.le_of_ble_eq_true rfl⟩ (fun r' n' M497 hp => ?_)
                              obtain ⟨hr', hn', hM497, hf497⟩ := hp
                              rw [hn', hr']
                              obtain ⟨v497_0, v497_1, v497_2, v497_3, v497_4, v497_5, v497_6, v497_7, v497_8, v497_9, v497_10, v497_11, v497_12, v497_13, v497_14, v497_15, v497_16, v497_17, v497_18, vb497_0, vb497_1, vb497_2, vb497_3, vb497_4, vb497_5⟩ := id hM497
                              show xW p l e ({ frames := 4, cells := 0, slots := 0, locals := 96 } : Room) s m args below meth c D xcl (x_A M nx) 8 (MQ below (x_Q D xcl (x_A M nx) (mcPost nx M a th sg sn pr fk fp rws cd ds wc wd nn nE nC nK nO ln lF lC lT lO fn fC fP ak ac pt n (rM tx sn q) (cN tx (q + rM tx sn q) (rD tx sn (q + rM tx sn q))) (mrc tx sn ds xs dg n q))) args s 0 0 (x_A M nx)) 0 0 (nx) M497 253 [(7, .int (nI (120 + j))), (6, .int (nI (rD tx sn (q + rM tx sn q)))), (5, .int (nI (q + rM tx sn q))), (4, .int (nI (rM tx sn q))), (3, .int (nI (120 + n))), (2, .int (nI (n))), (0, .ref (a)), (1, .int (nI (q)))] [.int (nI (0))]
                              exact x_zret F hr (by rfl) dM_readsCode_253 (by rw [show mrc tx sn ds xs dg n q = some (3, q + rM tx sn q) from by rw [mrc, if_neg (fun z => by have z := z.2; rw [c59] at z; cases z), if_neg h70, if_neg c94, if_neg (by omega), if_neg c96, if_neg (by omega), if_neg c99, if_pos hbad]]; exact ⟨rfl, fun b hb => (hf497 _ (by omega)).trans ((x_up_n (by omega)).trans ((x_up_n (by omega)).trans (rfl))), rfl, _, _, (fun i hi => ⟨updL_ne (by omega), upd_ne (by omega)⟩), hM497⟩)
                          · skip
                            have c110 : 120 + j < 0 := by
                              have z : ¬ (0 ≤ 120 + j) := fun zz => c110 ((nI_leI (a := 0) (b := 120 + j) (by omega) (by omega)).mpr zz)
                              omega
                            exact absurd c110 (by omega)
                      · skip
                        have c108 : rM tx sn q = 0 := by
                          exact (nI_eq (a := rM tx sn q) (b := 0) (by omega) (by omega)).mp c108
                        refine x_iload F 1 dM_readsCode_207 rfl ?_
                        refine x_iconst F (v := nI (2)) dM_readsCode_209 (by decide) ?_
                        refine x_icmp_ne F (tgt := 246) dM_readsCode_210 (by decide) (fun c113 => ?_) (fun c113 => ?_)
                        · skip
                          have c113 : rD tx sn (q + rM tx sn q) ≠ 2 := by
                            have z : ¬ (rD tx sn (q + rM tx sn q) = 2) := fun zz => c113 ((nI_eq (a := rD tx sn (q + rM tx sn q)) (b := 2) (by omega) (by omega)).mpr zz)
                            omega
                          have hbad : mBad ds xs dg n (rM tx sn q) (cN tx (q + rM tx sn q) (rD tx sn (q + rM tx sn q))) (rD tx sn (q + rM tx sn q)) = true := by rw [mBad, if_pos c108, decide_eq_false c113]; rfl
                          refine x_aload_n F 6 dM_readsCode_246 rfl rfl ?_
                          refine x_iconst F (v := nI (3)) dM_readsCode_247 (by decide) ?_
                          refine x_iload F 2 dM_readsCode_248 rfl ?_
                          refine yVr (n := 2) (As := [.int (nI (3)), .int (nI (q + rM tx sn q))]) (ci := 6) F kmM_115 kiM_fails ksM_fails knM kcM_fails (by decide +kernel) dM_readsCode_250 (cM_fails l (nx) (x_up (x_up M (a + 4) (.inl (.int, 160, .inl (upd (ds) (120 + n) (nI (rM tx sn q)))))) (a + 3) (.inl (.long, 160, .inr (.inl (vp_updL (cd) (120 + n) (lN (cN tx (q + rM tx sn q) (rD tx sn (q + rM tx sn q))))))))) (a) th sg sn pr fk fp rws (vp_updL (cd) (120 + n) (lN (cN tx (q + rM tx sn q) (rD tx sn (q + rM tx sn q))))) (upd (ds) (120 + n) (nI (rM tx sn q))) wc wd nn nE nC nK nO ln lF lC lT lO fn fC fP ak ac pt ⟨(x_up_k (x_up_k h0 (by omega)) (by omega)), (x_up_k (x_up_k h1 (by omega)) (by omega)), (x_up_k (x_up_k h2 (by omega)) (by omega)), x_up_s, (x_up_k x_up_s (by omega)), (x_up_k (x_up_k h5 (by omega)) (by omega)), (x_up_k (x_up_k h6 (by omega)) (by omega)), (x_up_k (x_up_k h7 (by omega)) (by omega)), (x_up_k (x_up_k h8 (by omega)) (by omega)), (x_up_k (x_up_k h9 (by omega)) (by omega)), (x_up_k (x_up_k h10 (by omega)) (by omega)), (x_up_k (x_up_k h11 (by omega)) (by omega)), (x_up_k (x_up_k h12 (by omega)) (by omega)), (x_up_k (x_up_k h13 (by omega)) (by omega)), (x_up_k (x_up_k h14 (by omega)) (by omega)), (x_up_k (x_up_k h15 (by omega)) (by omega)), (x_up_k (x_up_k h16 (by omega)) (by omega)), (x_up_k (x_up_k h17 (by omega)) (by omega)), (x_up_k (x_up_k h18 (by omega)) (by omega)), by omega, by omega, by omega, by omega, by omega, by omega⟩ (nI (3)) (nI (q + rM tx sn q))) rfl (x_up_k (x_up_k h0 (by omega)) (by omega)) rfl rfl (Nat.le_of_ble_eq_true rfl) ⟨Nat.le_of_ble_eq_true rfl, Nat.le_of_ble_eq_true rfl⟩ ⟨Nat.le_of_ble_eq_true rfl, Nat.le_of_ble_eq_true rfl⟩ (fun r' n' M498 hp => ?_)
                          obtain ⟨hr', hn', hM498, hf498⟩ := hp
                          rw [hn', hr']
                          obtain ⟨v498_0, v498_1, v498_2, v498_3, v498_4, v498_5, v498_6, v498_7, v498_8, v498_9, v498_10, v498_11, v498_12, v498_13, v498_14, v498_15, v498_16, v498_17, v498_18, vb498_0, vb498_1, vb498_2, vb498_3, vb498_4, vb498_5⟩ := id hM498
                          show xW p l e ({ frames := 4, cells := 0, slots := 0, locals := 96 } : Room) s m args below meth c D xcl (x_A M nx) 8 (MQ below (x_Q D xcl (x_A M nx) (mcPost nx M a th sg sn pr fk fp rws cd ds wc wd nn nE nC nK nO ln lF lC lT lO fn fC fP ak ac pt n (rM tx sn q) (cN tx (q + rM tx sn q) (rD tx sn (q + rM tx sn q))) (mrc tx sn ds xs dg n q))) args s 0 0 (x_A M nx)) 0 0 (nx) M498 253 [(7, .int (nI (120 + j))), (6, .int (nI (rD tx sn (q + rM tx sn q)))), (5, .int (nI (q + rM tx sn q))), (4, .int (nI (rM tx sn q))), (3, .int (nI (120 + n))), (2, .int (nI (n))), (0, .ref (a)), (1, .int (nI (q)))] [.int (nI (0))]
                          exact x_zret F hr (by rfl) dM_readsCode_253 (by rw [show mrc tx sn ds xs dg n q = some (3, q + rM tx sn q) from by rw [mrc, if_neg (fun z => by have z := z.2; rw [c59] at z; cases z), if_neg h70, if_neg c94, if_neg (by omega), if_neg c96, if_neg (by omega), if_neg c99, if_pos hbad]]; exact ⟨rfl, fun b hb => (hf498 _ (by omega)).trans ((x_up_n (by omega)).trans ((x_up_n (by omega)).trans (rfl))), rfl, _, _, (fun i hi => ⟨updL_ne (by omega), upd_ne (by omega)⟩), hM498⟩)
                        · skip
                          have c113 : rD tx sn (q + rM tx sn q) = 2 := by
                            exact (nI_eq (a := rD tx sn (q + rM tx sn q)) (b := 2) (by omega) (by omega)).mp c113
                          refine x_iload F 3 dM_readsCode_213 rfl ?_
                          refine x_if_le F (tgt := 254) dM_readsCode_215 (by decide) (fun c114 => ?_) (fun c114 => ?_)
                          · skip
                            have c114 : rM tx sn q ≤ 0 := by
                              exact (nI_leI (a := rM tx sn q) (b := 0) (by omega) (by omega)).mp c114
                            have hbad : mBad ds xs dg n (rM tx sn q) (cN tx (q + rM tx sn q) (rD tx sn (q + rM tx sn q))) (rD tx sn (q + rM tx sn q)) = false := by rw [mBad, if_pos (by omega), decide_eq_true (by omega)]; rfl
                            refine x_iload_n F 5 dM_readsCode_254 rfl rfl ?_
                            refine x_if_eq F (tgt := 288) dM_readsCode_255 (by decide) (fun c115 => ?_) (fun c115 => ?_)
                            · skip
                              have c115 : n = 0 := by
                                exact (nI_eq (a := n) (b := 0) (by omega) (by omega)).mp c115
                              have hbeh : mBeh xs dg n (cN tx (q + rM tx sn q) (rD tx sn (q + rM tx sn q))) (rD tx sn (q + rM tx sn q)) = true := by rw [c115]; rfl
                              refine x_iconst F (v := nI (1)) dM_readsCode_288 (by decide) ?_
                              refine x_goto F (tgt := 293) dM_readsCode_289 (by decide) ?_
                              exact x_zret F hr (by rfl) dM_readsCode_293 (by rw [show mrc tx sn ds xs dg n q = none from by rw [mrc, if_neg (fun z => by have z := z.2; rw [c59] at z; cases z), if_neg h70, if_neg c94, if_neg (by omega), if_neg c96, if_neg (by omega), if_neg c99, if_neg (by rw [hbad]; decide), if_neg (by rw [hbeh]; decide)]]; exact ⟨rfl, fun b hb => (x_up_n (by omega)).trans ((x_up_n (by omega)).trans (rfl)), rfl, ⟨(x_up_k (x_up_k h0 (by omega)) (by omega)), (x_up_k (x_up_k h1 (by omega)) (by omega)), (x_up_k (x_up_k h2 (by omega)) (by omega)), x_up_s, (x_up_k x_up_s (by omega)), (x_up_k (x_up_k h5 (by omega)) (by omega)), (x_up_k (x_up_k h6 (by omega)) (by omega)), (x_up_k (x_up_k h7 (by omega)) (by omega)), (x_up_k (x_up_k h8 (by omega)) (by omega)), (x_up_k (x_up_k h9 (by omega)) (by omega)), (x_up_k (x_up_k h10 (by omega)) (by omega)), (x_up_k (x_up_k h11 (by omega)) (by omega)), (x_up_k (x_up_k h12 (by omega)) (by omega)), (x_up_k (x_up_k h13 (by omega)) (by omega)), (x_up_k (x_up_k h14 (by omega)) (by omega)), (x_up_k (x_up_k h15 (by omega)) (by omega)), (x_up_k (x_up_k h16 (by omega)) (by omega)), (x_up_k (x_up_k h17 (by omega)) (by omega)), (x_up_k (x_up_k h18 (by omega)) (by omega)), by omega, by omega, by omega, by omega, by omega, by omega⟩⟩)
                            · skip
                              have c115 : n ≠ 0 := by
                                have z : ¬ (n = 0) := fun zz => c115 ((nI_eq (a := n) (b := 0) (by omega) (by omega)).mpr zz)
                                omega
                              exact absurd c115 (by omega)
                          · skip
                            have c114 : 0 < rM tx sn q := by
                              have z : ¬ (rM tx sn q ≤ 0) := fun zz => c114 ((nI_leI (a := rM tx sn q) (b := 0) (by omega) (by omega)).mpr zz)
                              omega
                            exact absurd c114 (by omega)
                  · skip
                    have c99 : (rD tx sn (q + rM tx sn q)) % 2 = 1 := by
                      exact (nI_eq (a := (rD tx sn (q + rM tx sn q)) % 2) (b := 1) (by omega) (by omega)).mp c99
                    refine x_aload_n F 5 dM_readsCode_145 rfl rfl ?_
                    refine x_iconst F (v := nI (1)) dM_readsCode_146 (by decide) ?_
                    refine x_iload F 0 dM_readsCode_147 rfl ?_
                    refine x_bipush F (v := nI (10)) dM_readsCode_149 (by decide) ?_
                    refine x_icmp_le F (tgt := 162) dM_readsCode_151 (by decide) (fun c116 => ?_) (fun c116 => ?_)
                    · skip
                      have c116 : rD tx sn (q + rM tx sn q) ≤ 10 := by
                        exact (nI_leI (a := rD tx sn (q + rM tx sn q)) (b := 10) (by omega) (by omega)).mp c116
                      refine x_iload F 1 dM_readsCode_162 rfl ?_
                      refine x_iload F 0 dM_readsCode_164 rfl ?_
                      refine x_iadd F dM_readsCode_166 ?_
                      refine xW.toi (nI (q + rM tx sn q + rD tx sn (q + rM tx sn q))) (nI_add _ _) ?_
                      refine yVr (n := 2) (As := [.int (nI (1)), .int (nI (q + rM tx sn q + rD tx sn (q + rM tx sn q)))]) (ci := 6) F kmM_115 kiM_fails ksM_fails knM kcM_fails (by decide +kernel) dM_readsCode_167 (cM_fails l (nx) M (a) th sg sn pr fk fp rws cd ds wc wd nn nE nC nK nO ln lF lC lT lO fn fC fP ak ac pt hT (nI (1)) (nI (q + rM tx sn q + rD tx sn (q + rM tx sn q)))) rfl h0 rfl rfl (Nat.le_of_ble_eq_true rfl) ⟨Nat.le_of_ble_eq_true rfl, Nat.le_of_ble_eq_true rfl⟩ ⟨Nat.le_of_ble_eq_true rfl, Nat.le_of_ble_eq_true rfl⟩ (fun r' n' M499 hp => ?_)
                      obtain ⟨hr', hn', hM499, hf499⟩ := hp
                      rw [hn', hr']
                      obtain ⟨v499_0, v499_1, v499_2, v499_3, v499_4, v499_5, v499_6, v499_7, v499_8, v499_9, v499_10, v499_11, v499_12, v499_13, v499_14, v499_15, v499_16, v499_17, v499_18, vb499_0, vb499_1, vb499_2, vb499_3, vb499_4, vb499_5⟩ := id hM499
                      show xW p l e ({ frames := 4, cells := 0, slots := 0, locals := 96 } : Room) s m args below meth c D xcl (x_A M nx) 8 (MQ below (x_Q D xcl (x_A M nx) (mcPost nx M a th sg sn pr fk fp rws cd ds wc wd nn nE nC nK nO ln lF lC lT lO fn fC fP ak ac pt n (rM tx sn q) (cN tx (q + rM tx sn q) (rD tx sn (q + rM tx sn q))) (mrc tx sn ds xs dg n q))) args s 0 0 (x_A M nx)) 0 0 (nx) M499 170 [(6, .int (nI (rD tx sn (q + rM tx sn q)))), (5, .int (nI (q + rM tx sn q))), (4, .int (nI (rM tx sn q))), (3, .int (nI (120 + n))), (2, .int (nI (n))), (0, .ref (a)), (1, .int (nI (q)))] [.int (nI (0))]
                      exact x_zret F hr (by rfl) dM_readsCode_170 (by rw [show mrc tx sn ds xs dg n q = some (1, q + rM tx sn q + rD tx sn (q + rM tx sn q)) from by rw [mrc, if_neg (fun z => by have z := z.2; rw [c59] at z; cases z), if_neg h70, if_neg c94, if_neg (by omega), if_neg c96, if_neg (by omega), if_pos c99]]; exact ⟨rfl, fun b hb => (hf499 _ (by omega)).trans (rfl), rfl, _, _, (fun i hi => ⟨rfl, rfl⟩), hM499⟩)
                    · skip
                      have c116 : 10 < rD tx sn (q + rM tx sn q) := by
                        have z : ¬ (rD tx sn (q + rM tx sn q) ≤ 10) := fun zz => c116 ((nI_leI (a := rD tx sn (q + rM tx sn q)) (b := 10) (by omega) (by omega)).mpr zz)
                        omega
                      exact absurd c116 (by omega)
              · skip
                have c96 : rD tx sn (q + rM tx sn q) = 0 := by
                  exact (nI_eq (a := rD tx sn (q + rM tx sn q)) (b := 0) (by omega) (by omega)).mp c96
                refine x_aload_n F 5 dM_readsCode_122 rfl rfl ?_
                refine x_iconst F (v := nI (1)) dM_readsCode_123 (by decide) ?_
                refine x_iload F 1 dM_readsCode_124 rfl ?_
                refine yVr (n := 2) (As := [.int (nI (1)), .int (nI (q + rM tx sn q))]) (ci := 6) F kmM_115 kiM_fails ksM_fails knM kcM_fails (by decide +kernel) dM_readsCode_126 (cM_fails l (nx) M (a) th sg sn pr fk fp rws cd ds wc wd nn nE nC nK nO ln lF lC lT lO fn fC fP ak ac pt hT (nI (1)) (nI (q + rM tx sn q))) rfl h0 rfl rfl (Nat.le_of_ble_eq_true rfl) ⟨Nat.le_of_ble_eq_true rfl, Nat.le_of_ble_eq_true rfl⟩ ⟨Nat.le_of_ble_eq_true rfl, Nat.le_of_ble_eq_true rfl⟩ (fun r' n' M500 hp => ?_)
                obtain ⟨hr', hn', hM500, hf500⟩ := hp
                rw [hn', hr']
                obtain ⟨v500_0, v500_1, v500_2, v500_3, v500_4, v500_5, v500_6, v500_7, v500_8, v500_9, v500_10, v500_11, v500_12, v500_13, v500_14, v500_15, v500_16, v500_17, v500_18, vb500_0, vb500_1, vb500_2, vb500_3, vb500_4, vb500_5⟩ := id hM500
                show xW p l e ({ frames := 4, cells := 0, slots := 0, locals := 96 } : Room) s m args below meth c D xcl (x_A M nx) 8 (MQ below (x_Q D xcl (x_A M nx) (mcPost nx M a th sg sn pr fk fp rws cd ds wc wd nn nE nC nK nO ln lF lC lT lO fn fC fP ak ac pt n (rM tx sn q) (cN tx (q + rM tx sn q) (rD tx sn (q + rM tx sn q))) (mrc tx sn ds xs dg n q))) args s 0 0 (x_A M nx)) 0 0 (nx) M500 129 [(6, .int (nI (rD tx sn (q + rM tx sn q)))), (5, .int (nI (q + rM tx sn q))), (4, .int (nI (rM tx sn q))), (3, .int (nI (120 + n))), (2, .int (nI (n))), (0, .ref (a)), (1, .int (nI (q)))] [.int (nI (0))]
                exact x_zret F hr (by rfl) dM_readsCode_129 (by rw [show mrc tx sn ds xs dg n q = some (1, q + rM tx sn q) from by rw [mrc, if_neg (fun z => by have z := z.2; rw [c59] at z; cases z), if_neg h70, if_neg c94, if_neg (by omega), if_pos c96]]; exact ⟨rfl, fun b hb => (hf500 _ (by omega)).trans (rfl), rfl, _, _, (fun i hi => ⟨rfl, rfl⟩), hM500⟩)
            · skip
              have c95 : 4 < rM tx sn q := by
                have z : ¬ (rM tx sn q ≤ 4) := fun zz => c95 ((nI_leI (a := rM tx sn q) (b := 4) (by omega) (by omega)).mpr zz)
                omega
              refine x_aload_n F 4 dM_readsCode_99 rfl rfl ?_
              refine x_iconst F (v := nI (1)) dM_readsCode_100 (by decide) ?_
              refine x_iload_n F 5 dM_readsCode_101 rfl rfl ?_
              refine x_iconst F (v := nI (4)) dM_readsCode_102 (by decide) ?_
              refine x_iadd F dM_readsCode_103 ?_
              refine xW.toi (nI (q + 4)) (nI_add _ _) ?_
              refine yVr (n := 2) (As := [.int (nI (1)), .int (nI (q + 4))]) (ci := 6) F kmM_115 kiM_fails ksM_fails knM kcM_fails (by decide +kernel) dM_readsCode_104 (cM_fails l (nx) M (a) th sg sn pr fk fp rws cd ds wc wd nn nE nC nK nO ln lF lC lT lO fn fC fP ak ac pt hT (nI (1)) (nI (q + 4))) rfl h0 rfl rfl (Nat.le_of_ble_eq_true rfl) ⟨Nat.le_of_ble_eq_true rfl, Nat.le_of_ble_eq_true rfl⟩ ⟨Nat.le_of_ble_eq_true rfl, Nat.le_of_ble_eq_true rfl⟩ (fun r' n' M501 hp => ?_)
              obtain ⟨hr', hn', hM501, hf501⟩ := hp
              rw [hn', hr']
              obtain ⟨v501_0, v501_1, v501_2, v501_3, v501_4, v501_5, v501_6, v501_7, v501_8, v501_9, v501_10, v501_11, v501_12, v501_13, v501_14, v501_15, v501_16, v501_17, v501_18, vb501_0, vb501_1, vb501_2, vb501_3, vb501_4, vb501_5⟩ := id hM501
              show xW p l e ({ frames := 4, cells := 0, slots := 0, locals := 96 } : Room) s m args below meth c D xcl (x_A M nx) 8 (MQ below (x_Q D xcl (x_A M nx) (mcPost nx M a th sg sn pr fk fp rws cd ds wc wd nn nE nC nK nO ln lF lC lT lO fn fC fP ak ac pt n (rM tx sn q) (cN tx (q + rM tx sn q) (rD tx sn (q + rM tx sn q))) (mrc tx sn ds xs dg n q))) args s 0 0 (x_A M nx)) 0 0 (nx) M501 107 [(5, .int (nI (q + rM tx sn q))), (4, .int (nI (rM tx sn q))), (3, .int (nI (120 + n))), (2, .int (nI (n))), (0, .ref (a)), (1, .int (nI (q)))] [.int (nI (0))]
              exact x_zret F hr (by rfl) dM_readsCode_107 (by rw [show mrc tx sn ds xs dg n q = some (1, q + 4) from by rw [mrc, if_neg (fun z => by have z := z.2; rw [c59] at z; cases z), if_neg h70, if_neg c94, if_pos c95]]; exact ⟨rfl, fun b hb => (hf501 _ (by omega)).trans (rfl), rfl, _, _, (fun i hi => ⟨rfl, rfl⟩), hM501⟩)
          · skip
            have c94 : n = 40 := by
              exact (nI_eq (a := n) (b := 40) (by omega) (by omega)).mp c94
            refine x_aload_n F 4 dM_readsCode_86 rfl rfl ?_
            refine x_iconst F (v := nI (5)) dM_readsCode_87 (by decide) ?_
            refine x_iload_n F 5 dM_readsCode_88 rfl rfl ?_
            refine yVr (n := 2) (As := [.int (nI (5)), .int (nI (q))]) (ci := 6) F kmM_115 kiM_fails ksM_fails knM kcM_fails (by decide +kernel) dM_readsCode_89 (cM_fails l (nx) M (a) th sg sn pr fk fp rws cd ds wc wd nn nE nC nK nO ln lF lC lT lO fn fC fP ak ac pt hT (nI (5)) (nI (q))) rfl h0 rfl rfl (Nat.le_of_ble_eq_true rfl) ⟨Nat.le_of_ble_eq_true rfl, Nat.le_of_ble_eq_true rfl⟩ ⟨Nat.le_of_ble_eq_true rfl, Nat.le_of_ble_eq_true rfl⟩ (fun r' n' M502 hp => ?_)
            obtain ⟨hr', hn', hM502, hf502⟩ := hp
            rw [hn', hr']
            obtain ⟨v502_0, v502_1, v502_2, v502_3, v502_4, v502_5, v502_6, v502_7, v502_8, v502_9, v502_10, v502_11, v502_12, v502_13, v502_14, v502_15, v502_16, v502_17, v502_18, vb502_0, vb502_1, vb502_2, vb502_3, vb502_4, vb502_5⟩ := id hM502
            show xW p l e ({ frames := 4, cells := 0, slots := 0, locals := 96 } : Room) s m args below meth c D xcl (x_A M nx) 8 (MQ below (x_Q D xcl (x_A M nx) (mcPost nx M a th sg sn pr fk fp rws cd ds wc wd nn nE nC nK nO ln lF lC lT lO fn fC fP ak ac pt n (rM tx sn q) (cN tx (q + rM tx sn q) (rD tx sn (q + rM tx sn q))) (mrc tx sn ds xs dg n q))) args s 0 0 (x_A M nx)) 0 0 (nx) M502 92 [(5, .int (nI (q + rM tx sn q))), (4, .int (nI (rM tx sn q))), (3, .int (nI (120 + n))), (2, .int (nI (n))), (0, .ref (a)), (1, .int (nI (q)))] [.int (nI (0))]
            exact x_zret F hr (by rfl) dM_readsCode_92 (by rw [show mrc tx sn ds xs dg n q = some (5, q) from by rw [mrc, if_neg (fun z => by have z := z.2; rw [c59] at z; cases z), if_neg h70, if_pos c94]]; exact ⟨rfl, fun b hb => (hf502 _ (by omega)).trans (rfl), rfl, _, _, (fun i hi => ⟨rfl, rfl⟩), hM502⟩)
        · skip
          have h70 : mPre n ds < nI (rM tx sn q) := Int32.not_le.mp c93
          refine x_aload_n F 4 dM_readsCode_73 rfl rfl ?_
          refine x_iconst F (v := nI (2)) dM_readsCode_74 (by decide) ?_
          refine x_iload_n F 5 dM_readsCode_75 rfl rfl ?_
          refine yVr (n := 2) (As := [.int (nI (2)), .int (nI (q))]) (ci := 6) F kmM_115 kiM_fails ksM_fails knM kcM_fails (by decide +kernel) dM_readsCode_76 (cM_fails l (nx) M (a) th sg sn pr fk fp rws cd ds wc wd nn nE nC nK nO ln lF lC lT lO fn fC fP ak ac pt hT (nI (2)) (nI (q))) rfl h0 rfl rfl (Nat.le_of_ble_eq_true rfl) ⟨Nat.le_of_ble_eq_true rfl, Nat.le_of_ble_eq_true rfl⟩ ⟨Nat.le_of_ble_eq_true rfl, Nat.le_of_ble_eq_true rfl⟩ (fun r' n' M503 hp => ?_)
          obtain ⟨hr', hn', hM503, hf503⟩ := hp
          rw [hn', hr']
          obtain ⟨v503_0, v503_1, v503_2, v503_3, v503_4, v503_5, v503_6, v503_7, v503_8, v503_9, v503_10, v503_11, v503_12, v503_13, v503_14, v503_15, v503_16, v503_17, v503_18, vb503_0, vb503_1, vb503_2, vb503_3, vb503_4, vb503_5⟩ := id hM503
          show xW p l e ({ frames := 4, cells := 0, slots := 0, locals := 96 } : Room) s m args below meth c D xcl (x_A M nx) 8 (MQ below (x_Q D xcl (x_A M nx) (mcPost nx M a th sg sn pr fk fp rws cd ds wc wd nn nE nC nK nO ln lF lC lT lO fn fC fP ak ac pt n (rM tx sn q) (cN tx (q + rM tx sn q) (rD tx sn (q + rM tx sn q))) (mrc tx sn ds xs dg n q))) args s 0 0 (x_A M nx)) 0 0 (nx) M503 79 [(5, .int (nI (q + rM tx sn q))), (4, .int (nI (rM tx sn q))), (3, .int (nI (120 + n))), (2, .int (nI (n))), (0, .ref (a)), (1, .int (nI (q)))] [.int (nI (0))]
          exact x_zret F hr (by rfl) dM_readsCode_79 (by rw [show mrc tx sn ds xs dg n q = some (2, q) from by rw [mrc, if_neg (fun z => by have z := z.2; rw [c59] at z; cases z), if_pos h70]]; exact ⟨rfl, fun b hb => (hf503 _ (by omega)).trans (rfl), rfl, _, _, (fun i hi => ⟨rfl, rfl⟩), hM503⟩)
    · skip
      have c59 : (dig (tx (q))) = false := bI_0 c59
      refine x_aload_n F 4 dM_readsCode_43 rfl rfl ?_
      refine x_iconst F (v := nI (1)) dM_readsCode_44 (by decide) ?_
      refine x_iload_n F 5 dM_readsCode_45 rfl rfl ?_
      refine yVr (n := 2) (As := [.int (nI (1)), .int (nI (q))]) (ci := 6) F kmM_115 kiM_fails ksM_fails knM kcM_fails (by decide +kernel) dM_readsCode_46 (cM_fails l (nx) M (a) th sg sn pr fk fp rws cd ds wc wd nn nE nC nK nO ln lF lC lT lO fn fC fP ak ac pt hT (nI (1)) (nI (q))) rfl h0 rfl rfl (Nat.le_of_ble_eq_true rfl) ⟨Nat.le_of_ble_eq_true rfl, Nat.le_of_ble_eq_true rfl⟩ ⟨Nat.le_of_ble_eq_true rfl, Nat.le_of_ble_eq_true rfl⟩ (fun r' n' M504 hp => ?_)
      obtain ⟨hr', hn', hM504, hf504⟩ := hp
      rw [hn', hr']
      obtain ⟨v504_0, v504_1, v504_2, v504_3, v504_4, v504_5, v504_6, v504_7, v504_8, v504_9, v504_10, v504_11, v504_12, v504_13, v504_14, v504_15, v504_16, v504_17, v504_18, vb504_0, vb504_1, vb504_2, vb504_3, vb504_4, vb504_5⟩ := id hM504
      show xW p l e ({ frames := 4, cells := 0, slots := 0, locals := 96 } : Room) s m args below meth c D xcl (x_A M nx) 8 (MQ below (x_Q D xcl (x_A M nx) (mcPost nx M a th sg sn pr fk fp rws cd ds wc wd nn nE nC nK nO ln lF lC lT lO fn fC fP ak ac pt n (rM tx sn q) (cN tx (q + rM tx sn q) (rD tx sn (q + rM tx sn q))) (mrc tx sn ds xs dg n q))) args s 0 0 (x_A M nx)) 0 0 (nx) M504 49 [(5, .int (nI (q + rM tx sn q))), (4, .int (nI (rM tx sn q))), (3, .int (nI (120 + n))), (2, .int (nI (n))), (0, .ref (a)), (1, .int (nI (q)))] [.int (nI (0))]
      exact x_zret F hr (by rfl) dM_readsCode_49 (by rw [show mrc tx sn ds xs dg n q = some (1, q) from by rw [mrc, if_pos ⟨c1, c59⟩]]; exact ⟨rfl, fun b hb => (hf504 _ (by omega)).trans (rfl), rfl, _, _, (fun i hi => ⟨rfl, rfl⟩), hM504⟩)
