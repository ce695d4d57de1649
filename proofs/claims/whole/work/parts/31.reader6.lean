theorem cw_r {nx : Nat} {M : xH} {r : Nat} {sg : Nat → Int32} {w1 : Nat → Int64} {n : Nat} {fk fp : Int32} {a : Nat} {cd : Nat → Int64} {ds ps ch wc : Nat → Int32} {wd : Nat → Int64} {tn cp : Nat} {tx : Nat → Nat} {dd q : Nat} {x : Option (Nat × Nat)} {o : xO} {n' : Nat} {M' : xH} (h : cwPost nx M r sg w1 n fk fp a cd ds ps ch wc wd tn cp tx dd q x o n' M') : ∃ v : Int32, o = some (.int v) ∧ narrow .boolean (.int v) = .int v := by
  obtain ⟨-, -, h⟩ := h
  cases x with
  | none => exact ⟨nI 1, h.1, rfl⟩
  | some f => exact ⟨nI 0, h.1, rfl⟩
theorem cw_fr {nx : Nat} {M M2 : xH} {r : Nat} {sg : Nat → Int32} {w1 : Nat → Int64} {n : Nat} {fk fp : Int32} {a : Nat} {cd : Nat → Int64} {ds ps ch wc : Nat → Int32} {wd : Nat → Int64} {tn cp : Nat} {tx : Nat → Nat} {dd q : Nat} {x : Option (Nat × Nat)} {o : xO} {n' : Nat} {M' : xH} (h : cwPost nx M2 r sg w1 n fk fp a cd ds ps ch wc wd tn cp tx dd q x o n' M') (hf : ∀ b, (b < r ∨ r + 2 < b) ∧ (b < a ∨ a + 6 < b) → M2 b = M b) : cwPost nx M r sg w1 n fk fp a cd ds ps ch wc wd tn cp tx dd q x o n' M' :=
  ⟨h.1, fun b hb => (h.2.1 b hb).trans (hf b hb), h.2.2⟩
/-- how many dashes stand there; the failure of a row -/
def dsh (tx : Nat → Nat) (n q : Nat) : Nat := rn (fun c => decide (c = 45)) tx (n - q) q
def rowK (tx : Nat → Nat) (n : Nat) (w1 : Nat → Int64) (cd : Nat → Int64) (ds : Nat → Int32) (tn q : Nat) : Option (Nat × Nat) :=
  if hx tx n q ≠ 45 ∧ dig (hx tx n q) = false then some (1, q) else
  if mds ds tn < nI (dsh tx n q) then some (2, q) else
  if 40 ≤ tn then some (5, q) else
  if 4 < dsh tx n q then some (1, q + 4) else cwK tx n w1 cd ds tn (dsh tx n q) (q + dsh tx n q)
/-- a tree's state; the one with a row more -/
abbrev tS : Type := (Nat → Int64) × (Nat → Int32) × (Nat → Int32) × (Nat → Int32) × (Nat → Int32) × (Nat → Int64) × Nat × Nat
def tIs (M : xH) (a : Nat) (τ : tS) : Prop := tAt M a τ.1 τ.2.1 τ.2.2.1 τ.2.2.2.1 τ.2.2.2.2.1 τ.2.2.2.2.2.1 τ.2.2.2.2.2.2.1 τ.2.2.2.2.2.2.2
abbrev tRow (tx : Nat → Nat) (n : Nat) (w1 : Nat → Int64) (τ : tS) (dd q : Nat) : tS :=
  (vp_updL τ.1 τ.2.2.2.2.2.2.1 (lN (rc tx n q)), upd τ.2.1 τ.2.2.2.2.2.2.1 (nI dd), upd τ.2.2.1 τ.2.2.2.2.2.2.1 (oi (par τ.2.1 (nI dd) τ.2.2.2.2.2.2.1)), chi τ.2.2.2.1 τ.2.2.2.2.2.2.1 (par τ.2.1 (nI dd) τ.2.2.2.2.2.2.1), upd τ.2.2.2.2.1 τ.2.2.2.2.2.2.1 (nI (wds tx n 4 4 0 (q + dN tx n q) w1).2.1), wcp (wds tx n 4 4 0 (q + dN tx n q) w1).2.2.2 (τ.2.2.2.2.2.2.1 * 4) (wds tx n 4 4 0 (q + dN tx n q) w1).2.1 τ.2.2.2.2.2.1, τ.2.2.2.2.2.2.1 + 1, chp τ.2.2.2.2.2.2.2 (par τ.2.1 (nI dd) τ.2.2.2.2.2.2.1))
/-- k rows at most from q on: the failure, or none and the tree -/
def rows (tx : Nat → Nat) (n : Nat) : Nat → (Nat → Int64) → tS → Nat → Option (Nat × Nat) × tS
  | 0, _, τ, _ => (none, τ)
  | k + 1, w1, τ, q => if q < n then (match rowK tx n w1 τ.1 τ.2.1 τ.2.2.2.2.2.2.1 q with
      | some f => (some f, τ)
      | none => rows tx n k (wds tx n 4 4 0 (q + dsh tx n q + dN tx n (q + dsh tx n q)) w1).2.2.2 (tRow tx n w1 τ (dsh tx n q) (q + dsh tx n q)) ((wds tx n 4 4 0 (q + dsh tx n q + dN tx n (q + dsh tx n q)) w1).2.2.1 + 1)) else (none, τ)
theorem rows_s (tx : Nat → Nat) (n k : Nat) (w1 : Nat → Int64) (τ : tS) (q : Nat) : rows tx n (k + 1) w1 τ q = if q < n then (match rowK tx n w1 τ.1 τ.2.1 τ.2.2.2.2.2.2.1 q with
      | some f => (some f, τ)
      | none => rows tx n k (wds tx n 4 4 0 (q + dsh tx n q + dN tx n (q + dsh tx n q)) w1).2.2.2 (tRow tx n w1 τ (dsh tx n q) (q + dsh tx n q)) ((wds tx n 4 4 0 (q + dsh tx n q + dN tx n (q + dsh tx n q)) w1).2.2.1 + 1)) else (none, τ) := rfl
def rdx (tx : Nat → Nat) (n : Nat) (w1 : Nat → Int64) (τ : tS) : Option (Nat × Nat) × tS := if n = 0 then (some (1, 0), τ) else rows tx n 41 w1 τ 0
def rwPost (nx : Nat) (M : xH) (r : Nat) (sg : Nat → Int32) (n : Nat) (a : Nat) (x : Option (Nat × Nat) × tS) : xO → Nat → xH → Prop := fun o n' M' => n' = nx ∧ (∀ b, (b < r ∨ r + 2 < b) ∧ (b < a ∨ a + 6 < b) → M' b = M b) ∧ match x.1 with
  | some f => o = some (.int (nI 0)) ∧ (∃ τ : tS, tIs M' a τ) ∧ ∃ (w2 : Nat → Int64) (c2 q2 : Nat), rAt M' r sg w2 c2 n q2 (nI f.1) (nI f.2)
  | none => o = some (.int (nI 1)) ∧ tIs M' a x.2 ∧ ∃ (w2 : Nat → Int64) (c2 q2 : Nat), rAt M' r sg w2 c2 n q2 (nI 0) (-1)
theorem chp_le {cp tn : Nat} (r : Option Nat) (h : cp ≤ tn) : chp cp r ≤ tn + 1 := by
  cases r with
  | none => show cp + 1 ≤ tn + 1; omega
  | some j => show cp ≤ tn + 1; omega
theorem q1n {n : Nat} {tx : Nat → Nat} {w1 cd : Nat → Int64} {ds : Nat → Int32} {tn q : Nat} (hk : rowK tx n w1 cd ds tn q = none) : (wds tx n 4 4 0 (q + dsh tx n q + dN tx n (q + dsh tx n q)) w1).2.2.1 + 1 ≤ n := by
  unfold rowK at hk
  split at hk; · cases hk
  split at hk; · cases hk
  split at hk; · cases hk
  split at hk; · cases hk
  unfold cwK at hk
  split at hk; · cases hk
  split at hk; · cases hk
  split at hk; · cases hk
  split at hk; · cases hk
  split at hk; · cases hk
  rename_i h
  exact (hx_in (K := fun c => decide (c = 59)) rfl (tx := tx) (n := n) (by simpa using h)).1
set_option maxHeartbeats 4000000 in
set_option maxRecDepth 100000 in
theorem cR_readRow (l : Launch) (nx : Nat) (M : xH) (a : Nat) (sg : Nat → Int32) (wd : Nat → Int64) (cw n q : Nat) (fk fp : Int32) (hT : rAt M a sg wd cw n q fk fp) (tx : Nat → Nat) (hX : sAt sg tx n) (hqn : q ≤ n) (t : Nat) (cd : Nat → Int64) (ds ps ch wc : Nat → Int32) (tw : Nat → Int64) (tn cp : Nat) (hTr : tAt M t cd ds ps ch wc tw tn cp) (hdis : t + 6 < a ∨ a + 2 < t) (hcp : cp ≤ tn) : xC l xcl yR_readRow (xw (Cond.code yR_readRow bR_readRow 4 (some .boolean))) ({ frames := 4, cells := 0, slots := 0, locals := 98 } : Room) [.ref (a), .ref (t)] nx M (cwPost nx M a sg wd n fk fp t cd ds ps ch wc tw tn cp tx (dsh tx n q) (q + dsh tx n q) (rowK tx n wd cd ds tn q)) := by
  obtain ⟨h0, h1, h2, hcw, hn4, hq4⟩ := id hT
  obtain ⟨u0, u1, u2, u3, u4, u5, u6, u7, u8⟩ := id hTr
  refine yC (by decide) (Nat.le_of_ble_eq_true rfl) ?_
  intro p e s m args below meth c D F hr hn
  refine x_aload_n F 0 dR_readRow_0 rfl rfl ?_
  refine x_get (ci := 3) F 4 (x_in inR) rfl (by decide) (x_m kfR_26) dR_readRow_1 h0 rfl ?_
  refine x_istore_n F [(2, .int (nI (q))), (0, .ref (a)), (1, .ref (t))] dR_readRow_4 rfl (by decide) rfl ?_
  refine x_aload_n F 1 dR_readRow_5 rfl rfl ?_
  refine yV (n := 0) (As := []) (ci := 3) F kmR_53 kiR_here ksR_here knR kcR_here (by decide +kernel) dR_readRow_6 (cR_here l (nx) M (a) sg wd cw n q fk fp hT tx hX) rfl h0 rfl rfl (Nat.le_of_ble_eq_true rfl) ⟨Nat.le_of_ble_eq_true rfl, Nat.le_of_ble_eq_true rfl⟩ ⟨Nat.le_of_ble_eq_true rfl, Nat.le_of_ble_eq_true rfl⟩ ?_
  have hh6 := hx_lt (q := q) hX
  refine x_bipush F (v := nI (45)) dR_readRow_9 (by decide) ?_
  refine x_icmp_eq F (tgt := 31) dR_readRow_11 (by decide) (fun c1 => ?_) (fun c1 => ?_)
  · skip
    have c1 : hx tx (n) (q) = 45 := by
      exact (nI_eq (a := hx tx (n) (q)) (b := 45) (by omega) (by omega)).mp c1
    refine x_aload_n F 1 dR_readRow_31 rfl rfl ?_
    refine yV (n := 0) (As := []) (ci := 3) F kmR_60 kiR_countDashes ksR_countDashes knR kcR_countDashes (by decide +kernel) dR_readRow_32 (cR_countDashes l (nx) M (a) sg wd cw n q fk fp hT tx hX hqn) rfl h0 rfl rfl (Nat.le_of_ble_eq_true rfl) ⟨Nat.le_of_ble_eq_true rfl, Nat.le_of_ble_eq_true rfl⟩ ⟨Nat.le_of_ble_eq_true rfl, Nat.le_of_ble_eq_true rfl⟩ ?_
    refine x_istore_n F [(3, .int (nI (dsh tx n q))), (2, .int (nI (q))), (0, .ref (a)), (1, .ref (t))] dR_readRow_35 rfl (by decide) rfl ?_
    have hd4 : dsh tx n q ≤ n - q := rn_le _ _ _ _
    refine x_iload_n F 0 dR_readRow_36 rfl rfl ?_
    refine x_aload_n F 3 dR_readRow_37 rfl rfl ?_
    refine yV (n := 0) (As := []) (ci := 4) F kmR_64 kiT_mostDashes ksT_mostDashes knT kcT_mostDashes (by decide +kernel) dR_readRow_38 (cT_most l (nx) M (t) cd ds ps ch wc tw tn cp hTr) rfl u0 rfl rfl (Nat.le_of_ble_eq_true rfl) ⟨Nat.le_of_ble_eq_true rfl, Nat.le_of_ble_eq_true rfl⟩ ⟨Nat.le_of_ble_eq_true rfl, Nat.le_of_ble_eq_true rfl⟩ ?_
    refine x_icmp_le F (tgt := 51) dR_readRow_41 (by decide) (fun c2 => ?_) (fun c2 => ?_)
    · skip
      refine x_aload_n F 3 dR_readRow_51 rfl rfl ?_
      refine yV (n := 0) (As := []) (ci := 4) F kmR_69 kiT_isFull ksT_isFull knT kcT_isFull (by decide +kernel) dR_readRow_52 (cT_isFull l (nx) M (t) cd ds ps ch wc tw tn cp hTr ) rfl u0 rfl rfl (Nat.le_of_ble_eq_true rfl) ⟨Nat.le_of_ble_eq_true rfl, Nat.le_of_ble_eq_true rfl⟩ ⟨Nat.le_of_ble_eq_true rfl, Nat.le_of_ble_eq_true rfl⟩ ?_
      refine x_if_eq F (tgt := 65) dR_readRow_55 (by decide) (fun c3 => ?_) (fun c3 => ?_)
      · skip
        have c3 : (decide (40 ≤ tn)) = false := bI_0 c3
        refine x_iload_n F 0 dR_readRow_65 rfl rfl ?_
        refine x_iconst F (v := nI (4)) dR_readRow_66 (by decide) ?_
        refine x_icmp_le F (tgt := 79) dR_readRow_67 (by decide) (fun c4 => ?_) (fun c4 => ?_)
        · skip
          have c4 : dsh tx n q ≤ 4 := by
            exact (nI_leI (a := dsh tx n q) (b := 4) (by omega) (by omega)).mp c4
          refine x_aload_n F 2 dR_readRow_79 rfl rfl ?_
          refine x_iload_n F 1 dR_readRow_80 rfl rfl ?_
          refine x_iload_n F 0 dR_readRow_81 rfl rfl ?_
          refine x_iadd F dR_readRow_82 ?_
          refine xW.toi (nI (q + dsh tx n q)) (nI_add _ _) ?_
          refine x_put (ci := 3) (ty := .int) F 4 (x_in inR) tR tR_ok nR rfl (by decide) (x_m kfR_26) dR_readRow_83 rfl (by decide +kernel) rfl rfl h0 (Nat.le_of_ble_eq_true rfl) ?_
          show xW p l e ({ frames := 4, cells := 0, slots := 0, locals := 98 } : Room) s m args below meth c D xcl (x_A M nx) 4 (MQ below (x_Q D xcl (x_A M nx) (cwPost nx M a sg wd n fk fp t cd ds ps ch wc tw tn cp tx (dsh tx n q) (q + dsh tx n q) (rowK tx n wd cd ds tn q))) args s 0 0 (x_A M nx)) 0 0 (nx) (x_up M (a) (.inr (3, [.ref (a + 1), .ref (a + 2), .int (nI (cw)), .int (nI (n)), .int (nI (q + dsh tx n q)), .int (fk), .int (fp)]))) 86 [(3, .int (nI (dsh tx n q))), (2, .int (nI (q))), (0, .ref (a)), (1, .ref (t))] []
          refine x_aload_n F 2 dR_readRow_86 rfl rfl ?_
          refine x_aload_n F 3 dR_readRow_87 rfl rfl ?_
          refine x_iload_n F 0 dR_readRow_88 rfl rfl ?_
          refine yVr (n := 2) (As := [.ref (t), .int (nI (dsh tx n q))]) (ci := 3) F kmR_73 kiR_readCodeAndWords ksR_readCodeAndWords knR kcR_readCodeAndWords (by decide +kernel) dR_readRow_89 (cR_readCodeAndWords l (nx) (x_up M (a) (.inr (3, [.ref (a + 1), .ref (a + 2), .int (nI (cw)), .int (nI (n)), .int (nI (q + dsh tx n q)), .int (fk), .int (fp)]))) (a) sg wd cw n (q + dsh tx n q) fk fp ⟨x_up_s, (x_up_k h1 (by omega)), (x_up_k h2 (by omega)), by omega, by omega, by omega⟩ tx hX (by omega) (t) cd ds ps ch wc tw tn cp (tAt_fr hTr (fun b _ _ => x_up_n (by omega))) hdis (by simpa using c3) hcp (dsh tx n q) (by omega)) rfl x_up_s rfl rfl (Nat.le_of_ble_eq_true rfl) ⟨Nat.le_of_ble_eq_true rfl, Nat.le_of_ble_eq_true rfl⟩ ⟨Nat.le_of_ble_eq_true rfl, Nat.le_of_ble_eq_true rfl⟩ (fun r' n' M' hp => ?_)
          obtain ⟨v, hv, hnv⟩ := cw_r hp
          subst hv
          obtain ⟨hn', -⟩ := id hp
          rw [hn'] at hp ⊢
          exact x_zret F hr hnv dR_readRow_92 (by rw [show rowK tx n wd cd ds tn q = cwK tx n wd cd ds tn (dsh tx n q) (q + dsh tx n q) from by rw [rowK, if_neg (fun z => z.1 c1), if_neg (Int32.not_lt.mpr c2), if_neg (by simpa using c3), if_neg (by omega)]]; exact cw_fr hp (fun b hb => (x_up_n (by omega)).trans (rfl)))
        · skip
          have c4 : 4 < dsh tx n q := by
            have z : ¬ (dsh tx n q ≤ 4) := fun zz => c4 ((nI_leI (a := dsh tx n q) (b := 4) (by omega) (by omega)).mpr zz)
            omega
          refine x_aload_n F 2 dR_readRow_70 rfl rfl ?_
          refine x_iconst F (v := nI (1)) dR_readRow_71 (by decide) ?_
          refine x_iload_n F 1 dR_readRow_72 rfl rfl ?_
          refine x_iconst F (v := nI (4)) dR_readRow_73 (by decide) ?_
          refine x_iadd F dR_readRow_74 ?_
          refine xW.toi (nI (q + 4)) (nI_add _ _) ?_
          refine yVr (n := 2) (As := [.int (nI (1)), .int (nI (q + 4))]) (ci := 3) F kmR_42 kiR_fail ksR_fail knR kcR_fail (by decide +kernel) dR_readRow_75 (cR_fail l (nx) M (a) sg wd cw n q fk fp hT (nI (1)) (nI (q + 4))) rfl h0 rfl rfl (Nat.le_of_ble_eq_true rfl) ⟨Nat.le_of_ble_eq_true rfl, Nat.le_of_ble_eq_true rfl⟩ ⟨Nat.le_of_ble_eq_true rfl, Nat.le_of_ble_eq_true rfl⟩ (fun r' n' M38 hp => ?_)
          obtain ⟨hr', hn', hR38, hf38⟩ := hp
          rw [hn', hr']
          obtain ⟨g38_0, g38_1, g38_2, g38_3, g38_4, g38_5⟩ := id hR38
          show xW p l e ({ frames := 4, cells := 0, slots := 0, locals := 98 } : Room) s m args below meth c D xcl (x_A M nx) 4 (MQ below (x_Q D xcl (x_A M nx) (cwPost nx M a sg wd n fk fp t cd ds ps ch wc tw tn cp tx (dsh tx n q) (q + dsh tx n q) (rowK tx n wd cd ds tn q))) args s 0 0 (x_A M nx)) 0 0 (nx) M38 78 [(3, .int (nI (dsh tx n q))), (2, .int (nI (q))), (0, .ref (a)), (1, .ref (t))] [.int (nI (0))]
          exact x_zret F hr (by rfl) dR_readRow_78 (by rw [show rowK tx n wd cd ds tn q = some (1, q + 4) from by rw [rowK, if_neg (fun z => z.1 c1), if_neg (Int32.not_lt.mpr c2), if_neg (by simpa using c3), if_pos c4]]; exact ⟨rfl, fun b hb => (hf38 _ (by omega)).trans (rfl), rfl, (tAt_fr hTr (fun b _ _ => hf38 b (by omega))), _, _, _, hR38⟩)
      · skip
        have c3 : (decide (40 ≤ tn)) = true := bI_1 c3
        refine x_aload_n F 2 dR_readRow_58 rfl rfl ?_
        refine x_iconst F (v := nI (5)) dR_readRow_59 (by decide) ?_
        refine x_iload_n F 1 dR_readRow_60 rfl rfl ?_
        refine yVr (n := 2) (As := [.int (nI (5)), .int (nI (q))]) (ci := 3) F kmR_42 kiR_fail ksR_fail knR kcR_fail (by decide +kernel) dR_readRow_61 (cR_fail l (nx) M (a) sg wd cw n q fk fp hT (nI (5)) (nI (q))) rfl h0 rfl rfl (Nat.le_of_ble_eq_true rfl) ⟨Nat.le_of_ble_eq_true rfl, Nat.le_of_ble_eq_true rfl⟩ ⟨Nat.le_of_ble_eq_true rfl, Nat.le_of_ble_eq_true rfl⟩ (fun r' n' M39 hp => ?_)
        obtain ⟨hr', hn', hR39, hf39⟩ := hp
        rw [hn', hr']
        obtain ⟨g39_0, g39_1, g39_2, g39_3, g39_4, g39_5⟩ := id hR39
        show xW p l e ({ frames := 4, cells := 0, slots := 0, locals := 98 } : Room) s m args below meth c D xcl (x_A M nx) 4 (MQ below (x_Q D xcl (x_A M nx) (cwPost nx M a sg wd n fk fp t cd ds ps ch wc tw tn cp tx (dsh tx n q) (q + dsh tx n q) (rowK tx n wd cd ds tn q))) args s 0 0 (x_A M nx)) 0 0 (nx) M39 64 [(3, .int (nI (dsh tx n q))), (2, .int (nI (q))), (0, .ref (a)), (1, .ref (t))] [.int (nI (0))]
        exact x_zret F hr (by rfl) dR_readRow_64 (by rw [show rowK tx n wd cd ds tn q = some (5, q) from by rw [rowK, if_neg (fun z => z.1 c1), if_neg (Int32.not_lt.mpr c2), if_pos (by simpa using c3)]]; exact ⟨rfl, fun b hb => (hf39 _ (by omega)).trans (rfl), rfl, (tAt_fr hTr (fun b _ _ => hf39 b (by omega))), _, _, _, hR39⟩)
    · skip
      refine x_aload_n F 2 dR_readRow_44 rfl rfl ?_
      refine x_iconst F (v := nI (2)) dR_readRow_45 (by decide) ?_
      refine x_iload_n F 1 dR_readRow_46 rfl rfl ?_
      refine yVr (n := 2) (As := [.int (nI (2)), .int (nI (q))]) (ci := 3) F kmR_42 kiR_fail ksR_fail knR kcR_fail (by decide +kernel) dR_readRow_47 (cR_fail l (nx) M (a) sg wd cw n q fk fp hT (nI (2)) (nI (q))) rfl h0 rfl rfl (Nat.le_of_ble_eq_true rfl) ⟨Nat.le_of_ble_eq_true rfl, Nat.le_of_ble_eq_true rfl⟩ ⟨Nat.le_of_ble_eq_true rfl, Nat.le_of_ble_eq_true rfl⟩ (fun r' n' M40 hp => ?_)
      obtain ⟨hr', hn', hR40, hf40⟩ := hp
      rw [hn', hr']
      obtain ⟨g40_0, g40_1, g40_2, g40_3, g40_4, g40_5⟩ := id hR40
      show xW p l e ({ frames := 4, cells := 0, slots := 0, locals := 98 } : Room) s m args below meth c D xcl (x_A M nx) 4 (MQ below (x_Q D xcl (x_A M nx) (cwPost nx M a sg wd n fk fp t cd ds ps ch wc tw tn cp tx (dsh tx n q) (q + dsh tx n q) (rowK tx n wd cd ds tn q))) args s 0 0 (x_A M nx)) 0 0 (nx) M40 50 [(3, .int (nI (dsh tx n q))), (2, .int (nI (q))), (0, .ref (a)), (1, .ref (t))] [.int (nI (0))]
      exact x_zret F hr (by rfl) dR_readRow_50 (by rw [show rowK tx n wd cd ds tn q = some (2, q) from by rw [rowK, if_neg (fun z => z.1 c1), if_pos (Int32.not_le.mp c2)]]; exact ⟨rfl, fun b hb => (hf40 _ (by omega)).trans (rfl), rfl, (tAt_fr hTr (fun b _ _ => hf40 b (by omega))), _, _, _, hR40⟩)
  · skip
    have c1 : hx tx (n) (q) ≠ 45 := by
      have z : ¬ (hx tx (n) (q) = 45) := fun zz => c1 ((nI_eq (a := hx tx (n) (q)) (b := 45) (by omega) (by omega)).mpr zz)
      omega
    refine x_aload_n F 1 dR_readRow_14 rfl rfl ?_
    refine yV (n := 0) (As := []) (ci := 3) F kmR_53 kiR_here ksR_here knR kcR_here (by decide +kernel) dR_readRow_15 (cR_here l (nx) M (a) sg wd cw n q fk fp hT tx hX) rfl h0 rfl rfl (Nat.le_of_ble_eq_true rfl) ⟨Nat.le_of_ble_eq_true rfl, Nat.le_of_ble_eq_true rfl⟩ ⟨Nat.le_of_ble_eq_true rfl, Nat.le_of_ble_eq_true rfl⟩ ?_
    have hh15 := hx_lt (q := q) hX
    refine yS (n := 1) (As := [.int (nI (hx tx (n) (q)))]) F kmR_57 ktR_isDigit knR kcR_isDigit (by decide +kernel) dR_readRow_18 (cR_isDigit l (nx) M (hx tx (n) (q)) (by omega)) rfl rfl (Nat.le_of_ble_eq_true rfl) ⟨Nat.le_of_ble_eq_true rfl, Nat.le_of_ble_eq_true rfl⟩ ⟨Nat.le_of_ble_eq_true rfl, Nat.le_of_ble_eq_true rfl⟩ ?_
    refine x_if_ne F (tgt := 31) dR_readRow_21 (by decide) (fun c5 => ?_) (fun c5 => ?_)
    · skip
      have c5 : (dig (hx tx (n) (q))) = true := bI_1 c5
      refine x_aload_n F 1 dR_readRow_31 rfl rfl ?_
      refine yV (n := 0) (As := []) (ci := 3) F kmR_60 kiR_countDashes ksR_countDashes knR kcR_countDashes (by decide +kernel) dR_readRow_32 (cR_countDashes l (nx) M (a) sg wd cw n q fk fp hT tx hX hqn) rfl h0 rfl rfl (Nat.le_of_ble_eq_true rfl) ⟨Nat.le_of_ble_eq_true rfl, Nat.le_of_ble_eq_true rfl⟩ ⟨Nat.le_of_ble_eq_true rfl, Nat.le_of_ble_eq_true rfl⟩ ?_
      refine x_istore_n F [(3, .int (nI (dsh tx n q))), (2, .int (nI (q))), (0, .ref (a)), (1, .ref (t))] dR_readRow_35 rfl (by decide) rfl ?_
      have hd4 : dsh tx n q ≤ n - q := rn_le _ _ _ _
      refine x_iload_n F 0 dR_readRow_36 rfl rfl ?_
      refine x_aload_n F 3 dR_readRow_37 rfl rfl ?_
      refine yV (n := 0) (As := []) (ci := 4) F kmR_64 kiT_mostDashes ksT_mostDashes knT kcT_mostDashes (by decide +kernel) dR_readRow_38 (cT_most l (nx) M (t) cd ds ps ch wc tw tn cp hTr) rfl u0 rfl rfl (Nat.le_of_ble_eq_true rfl) ⟨Nat.le_of_ble_eq_true rfl, Nat.le_of_ble_eq_true rfl⟩ ⟨Nat.le_of_ble_eq_true rfl, Nat.le_of_ble_eq_true rfl⟩ ?_
      refine x_icmp_le F (tgt := 51) dR_readRow_41 (by decide) (fun c6 => ?_) (fun c6 => ?_)
      · skip
        refine x_aload_n F 3 dR_readRow_51 rfl rfl ?_
        refine yV (n := 0) (As := []) (ci := 4) F kmR_69 kiT_isFull ksT_isFull knT kcT_isFull (by decide +kernel) dR_readRow_52 (cT_isFull l (nx) M (t) cd ds ps ch wc tw tn cp hTr ) rfl u0 rfl rfl (Nat.le_of_ble_eq_true rfl) ⟨Nat.le_of_ble_eq_true rfl, Nat.le_of_ble_eq_true rfl⟩ ⟨Nat.le_of_ble_eq_true rfl, Nat.le_of_ble_eq_true rfl⟩ ?_
        refine x_if_eq F (tgt := 65) dR_readRow_55 (by decide) (fun c7 => ?_) (fun c7 => ?_)
        · skip
          have c7 : (decide (40 ≤ tn)) = false := bI_0 c7
          refine x_iload_n F 0 dR_readRow_65 rfl rfl ?_
          refine x_iconst F (v := nI (4)) dR_readRow_66 (by decide) ?_
          refine x_icmp_le F (tgt := 79) dR_readRow_67 (by decide) (fun c8 => ?_) (fun c8 => ?_)
          · skip
            have c8 : dsh tx n q ≤ 4 := by
              exact (nI_leI (a := dsh tx n q) (b := 4) (by omega) (by omega)).mp c8
            refine x_aload_n F 2 dR_readRow_79 rfl rfl ?_
            refine x_iload_n F 1 dR_readRow_80 rfl rfl ?_
            refine x_iload_n F 0 dR_readRow_81 rfl rfl ?_
            refine x_iadd F dR_readRow_82 ?_
            refine xW.toi (nI (q + dsh tx n q)) (nI_add _ _) ?_
            refine x_put (ci := 3) (ty := .int) F 4 (x_in inR) tR tR_ok nR rfl (by decide) (x_m kfR_26) dR_readRow_83 rfl (by decide +kernel) rfl rfl h0 (Nat.le_of_ble_eq_true rfl) ?_
            show xW p l e ({ frames := 4, cells := 0, slots := 0, locals := 98 } : Room) s m args below meth c D xcl (x_A M nx) 4 (MQ below (x_Q D xcl (x_A M nx) (cwPost nx M a sg wd n fk fp t cd ds ps ch wc tw tn cp tx (dsh tx n q) (q + dsh tx n q) (rowK tx n wd cd ds tn q))) args s 0 0 (x_A M nx)) 0 0 (nx) (x_up M (a) (.inr (3, [.ref (a + 1), .ref (a + 2), .int (nI (cw)), .int (nI (n)), .int (nI (q + dsh tx n q)), .int (fk), .int (fp)]))) 86 [(3, .int (nI (dsh tx n q))), (2, .int (nI (q))), (0, .ref (a)), (1, .ref (t))] []
            refine x_aload_n F 2 dR_readRow_86 rfl rfl ?_
            refine x_aload_n F 3 dR_readRow_87 rfl rfl ?_
            refine x_iload_n F 0 dR_readRow_88 rfl rfl ?_
            refine yVr (n := 2) (As := [.ref (t), .int (nI (dsh tx n q))]) (ci := 3) F kmR_73 kiR_readCodeAndWords ksR_readCodeAndWords knR kcR_readCodeAndWords (by decide +kernel) dR_readRow_89 (cR_readCodeAndWords l (nx) (x_up M (a) (.inr (3, [.ref (a + 1), .ref (a + 2), .int (nI (cw)), .int (nI (n)), .int (nI (q + dsh tx n q)), .int (fk), .int (fp)]))) (a) sg wd cw n (q + dsh tx n q) fk fp ⟨x_up_s, (x_up_k h1 (by omega)), (x_up_k h2 (by omega)), by omega, by omega, by omega⟩ tx hX (by omega) (t) cd ds ps ch wc tw tn cp (tAt_fr hTr (fun b _ _ => x_up_n (by omega))) hdis (by simpa using c7) hcp (dsh tx n q) (by omega)) rfl x_up_s rfl rfl (Nat.le_of_ble_eq_true rfl) ⟨Nat.le_of_ble_eq_true rfl, Nat.le_of_ble_eq_true rfl⟩ ⟨Nat.le_of_ble_eq_true rfl, Nat.le_of_ble_eq_true rfl⟩ (fun r' n' M' hp => ?_)
            obtain ⟨v, hv, hnv⟩ := cw_r hp
            subst hv
            obtain ⟨hn', -⟩ := id hp
            rw [hn'] at hp ⊢
            exact x_zret F hr hnv dR_readRow_92 (by rw [show rowK tx n wd cd ds tn q = cwK tx n wd cd ds tn (dsh tx n q) (q + dsh tx n q) from by rw [rowK, if_neg (fun z => by have z := z.2; rw [c5] at z; cases z), if_neg (Int32.not_lt.mpr c6), if_neg (by simpa using c7), if_neg (by omega)]]; exact cw_fr hp (fun b hb => (x_up_n (by omega)).trans (rfl)))
          · skip
            have c8 : 4 < dsh tx n q := by
              have z : ¬ (dsh tx n q ≤ 4) := fun zz => c8 ((nI_leI (a := dsh tx n q) (b := 4) (by omega) (by omega)).mpr zz)
              omega
            refine x_aload_n F 2 dR_readRow_70 rfl rfl ?_
            refine x_iconst F (v := nI (1)) dR_readRow_71 (by decide) ?_
            refine x_iload_n F 1 dR_readRow_72 rfl rfl ?_
            refine x_iconst F (v := nI (4)) dR_readRow_73 (by decide) ?_
            refine x_iadd F dR_readRow_74 ?_
            refine xW.toi (nI (q + 4)) (nI_add _ _) ?_
            refine yVr (n := 2) (As := [.int (nI (1)), .int (nI (q + 4))]) (ci := 3) F kmR_42 kiR_fail ksR_fail knR kcR_fail (by decide +kernel) dR_readRow_75 (cR_fail l (nx) M (a) sg wd cw n q fk fp hT (nI (1)) (nI (q + 4))) rfl h0 rfl rfl (Nat.le_of_ble_eq_true rfl) ⟨Nat.le_of_ble_eq_true rfl, Nat.le_of_ble_eq_true rfl⟩ ⟨Nat.le_of_ble_eq_true rfl, Nat.le_of_ble_eq_true rfl⟩ (fun r' n' M41 hp => ?_)
            obtain ⟨hr', hn', hR41, hf41⟩ := hp
            rw [hn', hr']
            obtain ⟨g41_0, g41_1, g41_2, g41_3, g41_4, g41_5⟩ := id hR41
            show xW p l e ({ frames := 4, cells := 0, slots := 0, locals := 98 } : Room) s m args below meth c D xcl (x_A M nx) 4 (MQ below (x_Q D xcl (x_A M nx) (cwPost nx M a sg wd n fk fp t cd ds ps ch wc tw tn cp tx (dsh tx n q) (q + dsh tx n q) (rowK tx n wd cd ds tn q))) args s 0 0 (x_A M nx)) 0 0 (nx) M41 78 [(3, .int (nI (dsh tx n q))), (2, .int (nI (q))), (0, .ref (a)), (1, .ref (t))] [.int (nI (0))]
            exact x_zret F hr (by rfl) dR_readRow_78 (by rw [show rowK tx n wd cd ds tn q = some (1, q + 4) from by rw [rowK, if_neg (fun z => by have z := z.2; rw [c5] at z; cases z), if_neg (Int32.not_lt.mpr c6), if_neg (by simpa using c7), if_pos c8]]; exact ⟨rfl, fun b hb => (hf41 _ (by omega)).trans (rfl), rfl, (tAt_fr hTr (fun b _ _ => hf41 b (by omega))), _, _, _, hR41⟩)
        · skip
          have c7 : (decide (40 ≤ tn)) = true := bI_1 c7
          refine x_aload_n F 2 dR_readRow_58 rfl rfl ?_
          refine x_iconst F (v := nI (5)) dR_readRow_59 (by decide) ?_
          refine x_iload_n F 1 dR_readRow_60 rfl rfl ?_
          refine yVr (n := 2) (As := [.int (nI (5)), .int (nI (q))]) (ci := 3) F kmR_42 kiR_fail ksR_fail knR kcR_fail (by decide +kernel) dR_readRow_61 (cR_fail l (nx) M (a) sg wd cw n q fk fp hT (nI (5)) (nI (q))) rfl h0 rfl rfl (Nat.le_of_ble_eq_true rfl) ⟨Nat.le_of_ble_eq_true rfl, Nat.le_of_ble_eq_true rfl⟩ ⟨Nat.le_of_ble_eq_true rfl, Nat.le_of_ble_eq_true rfl⟩ (fun r' n' M42 hp => ?_)
          obtain ⟨hr', hn', hR42, hf42⟩ := hp
          rw [hn', hr']
          obtain ⟨g42_0, g42_1, g42_2, g42_3, g42_4, g42_5⟩ := id hR42
          show xW p l e ({ frames := 4, cells := 0, slots := 0, locals := 98 } : Room) s m args below meth c D xcl (x_A M nx) 4 (MQ below (x_Q D xcl (x_A M nx) (cwPost nx M a sg wd n fk fp t cd ds ps ch wc tw tn cp tx (dsh tx n q) (q + dsh tx n q) (rowK tx n wd cd ds tn q))) args s 0 0 (x_A M nx)) 0 0 (nx) M42 64 [(3, .int (nI (dsh tx n q))), (2, .int (nI (q))), (0, .ref (a)), (1, .ref (t))] [.int (nI (0))]
          exact x_zret F hr (by rfl) dR_readRow_64 (by rw [show rowK tx n wd cd ds tn q = some (5, q) from by rw [rowK, if_neg (fun z => by have z := z.2; rw [c5] at z; cases z), if_neg (Int32.not_lt.mpr c6), if_pos (by simpa using c7)]]; exact ⟨rfl, fun b hb => (hf42 _ (by omega)).trans (rfl), rfl, (tAt_fr hTr (fun b _ _ => hf42 b (by omega))), _, _, _, hR42⟩)
      · skip
        refine x_aload_n F 2 dR_readRow_44 rfl rfl ?_
        refine x_iconst F (v := nI (2)) dR_readRow_45 (by decide) ?_
        refine x_iload_n F 1 dR_readRow_46 rfl rfl ?_
        refine yVr (n := 2) (As := [.int (nI (2)), .int (nI (q))]) (ci := 3) F kmR_42 kiR_fail ksR_fail knR kcR_fail (by decide +kernel) dR_readRow_47 (cR_fail l (nx) M (a) sg wd cw n q fk fp hT (nI (2)) (nI (q))) rfl h0 rfl rfl (Nat.le_of_ble_eq_true rfl) ⟨Nat.le_of_ble_eq_true rfl, Nat.le_of_ble_eq_true rfl⟩ ⟨Nat.le_of_ble_eq_true rfl, Nat.le_of_ble_eq_true rfl⟩ (fun r' n' M43 hp => ?_)
        obtain ⟨hr', hn', hR43, hf43⟩ := hp
        rw [hn', hr']
        obtain ⟨g43_0, g43_1, g43_2, g43_3, g43_4, g43_5⟩ := id hR43
        show xW p l e ({ frames := 4, cells := 0, slots := 0, locals := 98 } : Room) s m args below meth c D xcl (x_A M nx) 4 (MQ below (x_Q D xcl (x_A M nx) (cwPost nx M a sg wd n fk fp t cd ds ps ch wc tw tn cp tx (dsh tx n q) (q + dsh tx n q) (rowK tx n wd cd ds tn q))) args s 0 0 (x_A M nx)) 0 0 (nx) M43 50 [(3, .int (nI (dsh tx n q))), (2, .int (nI (q))), (0, .ref (a)), (1, .ref (t))] [.int (nI (0))]
        exact x_zret F hr (by rfl) dR_readRow_50 (by rw [show rowK tx n wd cd ds tn q = some (2, q) from by rw [rowK, if_neg (fun z => by have z := z.2; rw [c5] at z; cases z), if_pos (Int32.not_le.mp c6)]]; exact ⟨rfl, fun b hb => (hf43 _ (by omega)).trans (rfl), rfl, (tAt_fr hTr (fun b _ _ => hf43 b (by omega))), _, _, _, hR43⟩)
    · skip
      have c5 : (dig (hx tx (n) (q))) = false := bI_0 c5
      refine x_aload_n F 1 dR_readRow_24 rfl rfl ?_
      refine x_iconst F (v := nI (1)) dR_readRow_25 (by decide) ?_
      refine x_iload_n F 0 dR_readRow_26 rfl rfl ?_
      refine yVr (n := 2) (As := [.int (nI (1)), .int (nI (q))]) (ci := 3) F kmR_42 kiR_fail ksR_fail knR kcR_fail (by decide +kernel) dR_readRow_27 (cR_fail l (nx) M (a) sg wd cw n q fk fp hT (nI (1)) (nI (q))) rfl h0 rfl rfl (Nat.le_of_ble_eq_true rfl) ⟨Nat.le_of_ble_eq_true rfl, Nat.le_of_ble_eq_true rfl⟩ ⟨Nat.le_of_ble_eq_true rfl, Nat.le_of_ble_eq_true rfl⟩ (fun r' n' M44 hp => ?_)
      obtain ⟨hr', hn', hR44, hf44⟩ := hp
      rw [hn', hr']
      obtain ⟨g44_0, g44_1, g44_2, g44_3, g44_4, g44_5⟩ := id hR44
      show xW p l e ({ frames := 4, cells := 0, slots := 0, locals := 98 } : Room) s m args below meth c D xcl (x_A M nx) 4 (MQ below (x_Q D xcl (x_A M nx) (cwPost nx M a sg wd n fk fp t cd ds ps ch wc tw tn cp tx (dsh tx n q) (q + dsh tx n q) (rowK tx n wd cd ds tn q))) args s 0 0 (x_A M nx)) 0 0 (nx) M44 30 [(2, .int (nI (q))), (0, .ref (a)), (1, .ref (t))] [.int (nI (0))]
      exact x_zret F hr (by rfl) dR_readRow_30 (by rw [show rowK tx n wd cd ds tn q = some (1, q) from by rw [rowK, if_pos ⟨c1, c5⟩]]; exact ⟨rfl, fun b hb => (hf44 _ (by omega)).trans (rfl), rfl, (tAt_fr hTr (fun b _ _ => hf44 b (by omega))), _, _, _, hR44⟩)
set_option maxHeartbeats 4000000 in
set_option maxRecDepth 100000 in
theorem cR_readRows (l : Launch) (nx : Nat) (M : xH) (a : Nat) (sg : Nat → Int32) (wd : Nat → Int64) (cw n q : Nat) (fk fp : Int32) (hT : rAt M a sg wd cw n q fk fp) (tx : Nat → Nat) (hX : sAt sg tx n) (t : Nat) (τ0 : tS) (hTr : tIs M t τ0) (hcp : τ0.2.2.2.2.2.2.2 ≤ τ0.2.2.2.2.2.2.1) (hdis : t + 6 < a ∨ a + 2 < t) : xC l xcl yR_readRows (xw (Cond.code yR_readRows bR_readRows 3 (some .boolean))) ({ frames := 5, cells := 0, slots := 0, locals := 121 } : Room) [.ref (a), .ref (t)] nx M (rwPost nx M a sg n t (rdx tx n wd τ0)) := by
  obtain ⟨h0, h1, h2, hcw, hn4, hq4⟩ := id hT
  obtain ⟨u0, u1, u2, u3, u4, u5, u6, u7, u8⟩ := id hTr
  refine yC (by decide) (Nat.le_of_ble_eq_true rfl) ?_
  intro p e s m args below meth c D F hr hn
  refine x_aload_n F 0 dR_readRows_0 rfl rfl ?_
  refine yVr (n := 0) (As := []) (ci := 3) F kmR_39 kiR_start ksR_start knR kcR_start (by decide +kernel) dR_readRows_1 (cR_start l (nx) M (a) sg wd cw n q fk fp hT ) rfl h0 rfl rfl (Nat.le_of_ble_eq_true rfl) ⟨Nat.le_of_ble_eq_true rfl, Nat.le_of_ble_eq_true rfl⟩ ⟨Nat.le_of_ble_eq_true rfl, Nat.le_of_ble_eq_true rfl⟩ (fun r' n' M47 hp => ?_)
  obtain ⟨hr', hn', hR47, hf47⟩ := hp
  rw [hn', hr']
  obtain ⟨g47_0, g47_1, g47_2, g47_3, g47_4, g47_5⟩ := id hR47
  show xW p l e ({ frames := 5, cells := 0, slots := 0, locals := 121 } : Room) s m args below meth c D xcl (x_A M nx) 3 (MQ below (x_Q D xcl (x_A M nx) (rwPost nx M a sg n t (rdx tx n wd τ0))) args s 0 0 (x_A M nx)) 0 0 (nx) M47 4 [(0, .ref (a)), (1, .ref (t))] []
  refine x_aload_n F 0 dR_readRows_4 rfl rfl ?_
  refine x_get (ci := 3) F 3 (x_in inR) rfl (by decide) (x_m kfR_23) dR_readRows_5 g47_0 rfl ?_
  refine x_if_ne F (tgt := 18) dR_readRows_8 (by decide) (fun c1 => ?_) (fun c1 => ?_)
  · skip
    have c1 : n ≠ 0 := by
      have z : ¬ (n = 0) := fun zz => c1 ((nI_eq (a := n) (b := 0) (by omega) (by omega)).mpr zz)
      omega
    have hn0 : ¬ n = 0 := c1
    have loop : ∀ (k : Nat) (i q1 c1 : Nat) (τ : tS) (w1 : Nat → Int64) (M1 : xH), i + k = 41 → q1 ≤ n → τ.2.2.2.2.2.2.2 ≤ τ.2.2.2.2.2.2.1 → rAt M1 a sg w1 c1 n q1 (nI 0) (-1) → tIs M1 t τ → (∀ b, (b < a ∨ a + 2 < b) ∧ (b < t ∨ t + 6 < b) → M1 b = M b) → rows tx n 41 wd τ0 0 = rows tx n k w1 τ q1 → xW p l e ({ frames := 5, cells := 0, slots := 0, locals := 121 } : Room) s m args below meth c D xcl (x_A M nx) 3 (MQ below (x_Q D xcl (x_A M nx) (rwPost nx M a sg n t (rdx tx n wd τ0))) args s 0 0 (x_A M nx)) 0 0 (nx) M1 20 [(2, .int (nI (i))), (0, .ref (a)), (1, .ref (t))] [] := by
      intro k
      induction k with
      | zero =>
        intro i q1 c1 τ w1 M1 hi hqn1 hcp1 hR1 hT1 hfr hf
        obtain ⟨g0, g1, g2, g3, g4, g5⟩ := id hR1
        obtain ⟨v0, v1, v2, v3, v4, v5, v6, v7, v8⟩ := id hT1
        refine x_iload_n F 0 dR_readRows_20 rfl rfl ?_
        refine x_bipush F (v := nI (40)) dR_readRows_21 (by decide) ?_
        refine x_icmp_gt F (tgt := 53) dR_readRows_23 (by decide) (fun c2 => ?_) (fun c2 => ?_)
        · skip
          have c2 : 40 < i := by
            exact (nI_ltI (a := 40) (b := i) (by omega) (by omega)).mp c2
          refine x_iconst F (v := nI (1)) dR_readRows_53 (by decide) ?_
          exact x_zret F hr (by rfl) dR_readRows_54 (by rw [rdx, if_neg hn0, show rows tx n 41 wd τ0 0 = (none, τ) from hf]; exact ⟨rfl, fun b hb => (hfr _ hb).trans (rfl), rfl, hT1, _, _, _, hR1⟩)
        · skip
          have c2 : i ≤ 40 := by
            have z : ¬ (40 < i) := fun zz => c2 ((nI_ltI (a := 40) (b := i) (by omega) (by omega)).mpr zz)
            omega
          exact absurd c2 (by omega)
      | succ k ih =>
        intro i q1 c1 τ w1 M1 hi hqn1 hcp1 hR1 hT1 hfr hf
        obtain ⟨g0, g1, g2, g3, g4, g5⟩ := id hR1
        obtain ⟨v0, v1, v2, v3, v4, v5, v6, v7, v8⟩ := id hT1
        refine x_iload_n F 0 dR_readRows_20 rfl rfl ?_
        refine x_bipush F (v := nI (40)) dR_readRows_21 (by decide) ?_
        refine x_icmp_gt F (tgt := 53) dR_readRows_23 (by decide) (fun c3 => ?_) (fun c3 => ?_)
        · skip
          have c3 : 40 < i := by
            exact (nI_ltI (a := 40) (b := i) (by omega) (by omega)).mp c3
          exact absurd c3 (by omega)
        · skip
          have c3 : i ≤ 40 := by
            have z : ¬ (40 < i) := fun zz => c3 ((nI_ltI (a := 40) (b := i) (by omega) (by omega)).mpr zz)
            omega
          refine x_aload_n F 1 dR_readRows_26 rfl rfl ?_
          refine x_get (ci := 3) F 4 (x_in inR) rfl (by decide) (x_m kfR_26) dR_readRows_27 g0 rfl ?_
          refine x_aload_n F 1 dR_readRows_30 rfl rfl ?_
          refine x_get (ci := 3) F 3 (x_in inR) rfl (by decide) (x_m kfR_23) dR_readRows_31 g0 rfl ?_
          refine x_icmp_ge F (tgt := 53) dR_readRows_34 (by decide) (fun c4 => ?_) (fun c4 => ?_)
          · skip
            have c4 : n ≤ q1 := by
              exact (nI_leI (a := n) (b := q1) (by omega) (by omega)).mp c4
            refine x_iconst F (v := nI (1)) dR_readRows_53 (by decide) ?_
            exact x_zret F hr (by rfl) dR_readRows_54 (by rw [rdx, if_neg hn0, show rows tx n 41 wd τ0 0 = (none, τ) from by rw [hf, rows_s, if_neg (by omega)]]; exact ⟨rfl, fun b hb => (hfr _ hb).trans (rfl), rfl, hT1, _, _, _, hR1⟩)
          · skip
            have c4 : q1 < n := by
              have z : ¬ (n ≤ q1) := fun zz => c4 ((nI_leI (a := n) (b := q1) (by omega) (by omega)).mpr zz)
              omega
            refine x_aload_n F 1 dR_readRows_37 rfl rfl ?_
            refine x_aload_n F 2 dR_readRows_38 rfl rfl ?_
            refine yVr (n := 1) (As := [.ref (t)]) (ci := 3) F kmR_46 kiR_readRow ksR_readRow knR kcR_readRow (by decide +kernel) dR_readRows_39 (cR_readRow l (nx) M1 (a) sg w1 c1 n q1 (nI 0) (-1) hR1 tx hX (by omega) (t) τ.1 τ.2.1 τ.2.2.1 τ.2.2.2.1 τ.2.2.2.2.1 τ.2.2.2.2.2.1 τ.2.2.2.2.2.2.1 τ.2.2.2.2.2.2.2 hT1 hdis hcp1) rfl g0 rfl rfl (Nat.le_of_ble_eq_true rfl) ⟨Nat.le_of_ble_eq_true rfl, Nat.le_of_ble_eq_true rfl⟩ ⟨Nat.le_of_ble_eq_true rfl, Nat.le_of_ble_eq_true rfl⟩ (fun r' n' M' hp => ?_)
            obtain ⟨hn', hfr2, hx2⟩ := id hp
            rw [hn']
            have hdq : q1 + dsh tx n q1 ≤ n := by have := rn_le (fun c => decide (c = 45)) tx (n - q1) q1; show q1 + rn _ _ _ _ ≤ n; omega
            have hb4 := wds_b (tx := tx) (n := n) (mo := 4) (f := 4) (k := 0) (q := q1 + dsh tx n q1 + dN tx n (q1 + dsh tx n q1)) (wd := w1) (by omega) (hrun_n rfl _ _ _ _ hdq)
            cases hrk : rowK tx n w1 τ.1 τ.2.1 τ.2.2.2.2.2.2.1 q1 with
            | some f =>
              rw [hrk] at hx2
              obtain ⟨rfl, hT2, w2, c2, q2, hR2⟩ := hx2
              refine x_if_ne F (tgt := 47) dR_readRows_42 (by decide) (fun z => absurd rfl z) (fun _ => ?_)
              refine x_iconst F (v := nI (0)) dR_readRows_45 (by decide) ?_
              exact x_zret F hr (by rfl) dR_readRows_46 (by rw [rdx, if_neg hn0, show rows tx n 41 wd τ0 0 = (some f, τ) from by rw [hf, rows_s, if_pos c4, hrk]]; exact ⟨rfl, fun b hb => (hfr2 b hb).trans (hfr b hb), rfl, ⟨τ, hT2⟩, _, _, _, hR2⟩)
            | none =>
              rw [hrk] at hx2
              obtain ⟨rfl, hT2, hR2⟩ := hx2
              refine x_if_ne F (tgt := 47) dR_readRows_42 (by decide) (fun _ => ?_) (fun z => absurd z (by decide))
              refine x_iinc F 0 [(2, .int (nI (i + 1))), (0, .ref (a)), (1, .ref (t))] dR_readRows_47 rfl (nI_add (i) 1) (by decide) rfl ?_
              refine x_goto F (tgt := 20) dR_readRows_50 (by decide) ?_
              exact ih (i + 1) _ _ (tRow tx n w1 τ (dsh tx n q1) (q1 + dsh tx n q1)) _ _ (by omega) (q1n hrk) (chp_le _ hcp1) hR2 hT2 (fun b hb => (hfr2 b hb).trans (hfr b hb)) (by rw [hf, rows_s, if_pos c4, hrk])
    refine x_iconst F (v := nI (0)) dR_readRows_18 (by decide) ?_
    refine x_istore_n F [(2, .int (nI (0))), (0, .ref (a)), (1, .ref (t))] dR_readRows_19 rfl (by decide) rfl ?_
    exact loop 41 0 0 _ τ0 _ _ (by omega) (by omega) hcp hR47 (tAt_fr hTr (fun b _ _ => hf47 b (by omega))) (fun b hb => (hf47 _ (by omega)).trans (rfl)) rfl
  · skip
    have c1 : n = 0 := by
      exact (nI_eq (a := n) (b := 0) (by omega) (by omega)).mp c1
    refine x_aload_n F 0 dR_readRows_11 rfl rfl ?_
    refine x_iconst F (v := nI (1)) dR_readRows_12 (by decide) ?_
    refine x_iconst F (v := nI (0)) dR_readRows_13 (by decide) ?_
    refine yVr (n := 2) (As := [.int (nI (1)), .int (nI (0))]) (ci := 3) F kmR_42 kiR_fail ksR_fail knR kcR_fail (by decide +kernel) dR_readRows_14 (cR_fail l (nx) M47 (a) sg wd cw n 0 (nI (0)) ((-1)) hR47 (nI (1)) (nI (0))) rfl g47_0 rfl rfl (Nat.le_of_ble_eq_true rfl) ⟨Nat.le_of_ble_eq_true rfl, Nat.le_of_ble_eq_true rfl⟩ ⟨Nat.le_of_ble_eq_true rfl, Nat.le_of_ble_eq_true rfl⟩ (fun r' n' M48 hp => ?_)
    obtain ⟨hr', hn', hR48, hf48⟩ := hp
    rw [hn', hr']
    obtain ⟨g48_0, g48_1, g48_2, g48_3, g48_4, g48_5⟩ := id hR48
    show xW p l e ({ frames := 5, cells := 0, slots := 0, locals := 121 } : Room) s m args below meth c D xcl (x_A M nx) 3 (MQ below (x_Q D xcl (x_A M nx) (rwPost nx M a sg n t (rdx tx n wd τ0))) args s 0 0 (x_A M nx)) 0 0 (nx) M48 17 [(0, .ref (a)), (1, .ref (t))] [.int (nI (0))]
    exact x_zret F hr (by rfl) dR_readRows_17 (by rw [rdx, if_pos c1]; exact ⟨rfl, fun b hb => (hf48 _ (by omega)).trans ((hf47 _ (by omega)).trans (rfl)), rfl, ⟨τ0, (tAt_fr (tAt_fr hTr (fun b _ _ => hf47 b (by omega))) (fun b _ _ => hf48 b (by omega)))⟩, _, _, _, hR48⟩)
