/-- words from q on: whether all is right, how many, where it stopped, the words -/
def wds (tx : Nat → Nat) (n mo : Nat) : Nat → Nat → Nat → (Nat → Int64) → Bool × Nat × Nat × (Nat → Int64)
  | 0, k, q, wd => (true, k, q, wd)
  | f + 1, k, q, wd => if lNn tx n q = 0 then (false, k, q, wd) else
      if hx tx n (q + lNn tx n q) = 46 ∧ k + 1 ≠ mo then wds tx n mo f (k + 1) (q + lNn tx n q + 1) (vp_updL wd k (lN (wN tx q (lNn tx n q)))) else (true, k + 1, q + lNn tx n q, vp_updL wd k (lN (wN tx q (lNn tx n q))))
theorem wds_s (tx : Nat → Nat) (n mo f k q : Nat) (wd : Nat → Int64) : wds tx n mo (f + 1) k q wd = if lNn tx n q = 0 then (false, k, q, wd) else
      if hx tx n (q + lNn tx n q) = 46 ∧ k + 1 ≠ mo then wds tx n mo f (k + 1) (q + lNn tx n q + 1) (vp_updL wd k (lN (wN tx q (lNn tx n q)))) else (true, k + 1, q + lNn tx n q, vp_updL wd k (lN (wN tx q (lNn tx n q)))) := rfl
theorem hrun_all {K : Nat → Bool} (h0 : K 0 = false) {tx : Nat → Nat} {n k q i : Nat} (h : i < hrun K tx n k q) : K (tx (q + i)) = true ∧ q + i < n := by
  induction k generalizing q i with
  | zero => exact absurd h (Nat.not_lt_zero _)
  | succ k ih =>
    rw [hrun_s] at h
    split at h
    · rename_i hk
      have := hx_in h0 hk
      cases i with
      | zero => exact ⟨by rw [Nat.add_zero, ← this.2]; exact hk, by omega⟩
      | succ i =>
        have := ih (q := q + 1) (i := i) (by omega)
        rw [show q + (i + 1) = q + 1 + i by omega]; exact this
    · omega
theorem wN_lt {tx : Nat → Nat} {q d : Nat} (h : ∀ i, i < d → tx (q + i) < 128) : wN tx q d < 32 ^ d := by
  induction d with
  | zero => show 0 < 1; omega
  | succ d ih =>
    have h1 := ih (fun i hi => h i (by omega))
    have h2 := h d (by omega)
    show wN tx q d * 32 + (tx (q + d) - 97 + 1) < 32 ^ (d + 1)
    rw [Nat.pow_succ]; omega
theorem wN_0 {tx : Nat → Nat} {q d : Nat} (h : wN tx q d = 0) : d = 0 := by
  cases d with
  | zero => rfl
  | succ d =>
    have h : wN tx q d * 32 + (tx (q + d) - 97 + 1) = 0 := h
    omega
theorem wN_n0 {sg : Nat → Int32} {tx : Nat → Nat} {n q : Nat} (hX : sAt sg tx n) : lN (wN tx q (lNn tx n q)) = 0 ↔ lNn tx n q = 0 := by
  have hb : wN tx q (lNn tx n q) < 32 ^ (lNn tx n q) := wN_lt (fun i hi => (hX _ (hrun_all (K := let_) rfl hi).2).2)
  have h8 : lNn tx n q ≤ 8 := hrun_k _ _ _ _ _
  have hp : 32 ^ (lNn tx n q) ≤ 32 ^ 8 := Nat.pow_le_pow_right (by omega) h8
  constructor
  · intro h
    have h : lN (wN tx q (lNn tx n q)) = lN 0 := h
    exact wN_0 ((pk_lEQ (by omega) (by omega)).mp h)
  · intro h
    rw [h]; rfl
/-- a large letter's small one -/
def sml (c : Int32) : Int32 := if nI 65 ≤ c ∧ c ≤ nI 90 then c - nI 65 + nI 97 else c
theorem i2c_n {t : Nat} (h : t < 65536) : ((nI t).toUInt32 % 65536).toInt32 = nI t := by
  rw [pk_char, pk_tn (by omega), Nat.mod_eq_of_lt h]
theorem nar_n {t : Nat} (h : t < 65536) : vp_nar .char (nI t) = nI t := by
  unfold vp_nar; rw [(pk_charN h).1]
set_option maxHeartbeats 4000000 in
set_option maxRecDepth 100000 in
theorem cR_readWords (l : Launch) (nx : Nat) (M : xH) (a : Nat) (sg : Nat → Int32) (wd : Nat → Int64) (cw n q : Nat) (fk fp : Int32) (hT : rAt M a sg wd cw n q fk fp) (tx : Nat → Nat) (hX : sAt sg tx n) (hqn : q ≤ n) (mo : Nat) (hmo : mo ≤ 6) : xC l xcl yR_readWords (xw (Cond.code yR_readWords bR_readWords 5 (some .boolean))) ({ frames := 2, cells := 0, slots := 0, locals := 43 } : Room) [.ref (a), .int (nI (mo))] nx M (rPost (some (.int (bI (wds tx n mo mo 0 q wd).1))) nx M a sg (wds tx n mo mo 0 q wd).2.2.2 (wds tx n mo mo 0 q wd).2.1 n (wds tx n mo mo 0 q wd).2.2.1 (if (wds tx n mo mo 0 q wd).1 then fk else nI 1) (if (wds tx n mo mo 0 q wd).1 then fp else nI (wds tx n mo mo 0 q wd).2.2.1)) := by
  obtain ⟨h0, h1, h2, hcw, hn4, hq4⟩ := id hT
  refine yC (by decide) (Nat.le_of_ble_eq_true rfl) ?_
  intro p e s m args below meth c D F hr hn
  have loop : ∀ (f : Nat) (k q1 : Nat) (w1 : Nat → Int64) (M1 : xH), k + f = mo → q1 ≤ n → rAt M1 a sg w1 k n q1 fk fp → (∀ b, (b < a ∨ a + 2 < b) → M1 b = M b) → wds tx n mo mo 0 q wd = wds tx n mo f k q1 w1 → xW p l e ({ frames := 2, cells := 0, slots := 0, locals := 43 } : Room) s m args below meth c D xcl (x_A M nx) 5 (MQ below (x_Q D xcl (x_A M nx) (rPost (some (.int (bI (wds tx n mo mo 0 q wd).1))) nx M a sg (wds tx n mo mo 0 q wd).2.2.2 (wds tx n mo mo 0 q wd).2.1 n (wds tx n mo mo 0 q wd).2.2.1 (if (wds tx n mo mo 0 q wd).1 then fk else nI 1) (if (wds tx n mo mo 0 q wd).1 then fp else nI (wds tx n mo mo 0 q wd).2.2.1))) args s 0 0 (x_A M nx)) 0 0 (nx) M1 7 [(2, .int (nI (k))), (0, .ref (a)), (1, .int (nI (mo)))] [] := by
    intro f
    induction f with
    | zero =>
      intro k q1 w1 M1 hi hqn1 hR1 hfr hf
      obtain ⟨g0, g1, g2, g3, g4, g5⟩ := id hR1
      have hl8 : lNn tx n q1 ≤ 8 := hrun_k _ _ _ _ _
      have hln : q1 + lNn tx n q1 ≤ n := hrun_n rfl _ _ _ _ (by omega)
      refine x_iload_n F 0 dR_readWords_7 rfl rfl ?_
      refine x_iload_n F 2 dR_readWords_8 rfl rfl ?_
      refine x_icmp_ge F (tgt := 91) dR_readWords_9 (by decide) (fun c1 => ?_) (fun c1 => ?_)
      · skip
        have c1 : mo ≤ k := by
          exact (nI_leI (a := mo) (b := k) (by omega) (by omega)).mp c1
        refine x_iconst F (v := nI (1)) dR_readWords_91 (by decide) ?_
        exact x_zret F hr (by rfl) dR_readWords_92 (by rw [show wds tx n mo mo 0 q wd = (true, k, q1, w1) from hf]; exact ⟨rfl, rfl, ⟨g0, g1, g2, (show k ≤ 6 by omega), (show n ≤ 400 by omega), (show q1 ≤ 400 by omega)⟩, fun b hb => (hfr _ hb).trans (rfl)⟩)
      · skip
        have c1 : k < mo := by
          have z : ¬ (mo ≤ k) := fun zz => c1 ((nI_leI (a := mo) (b := k) (by omega) (by omega)).mpr zz)
          omega
        exact absurd c1 (by omega)
    | succ f ih =>
      intro k q1 w1 M1 hi hqn1 hR1 hfr hf
      obtain ⟨g0, g1, g2, g3, g4, g5⟩ := id hR1
      have hl8 : lNn tx n q1 ≤ 8 := hrun_k _ _ _ _ _
      have hln : q1 + lNn tx n q1 ≤ n := hrun_n rfl _ _ _ _ (by omega)
      refine x_iload_n F 0 dR_readWords_7 rfl rfl ?_
      refine x_iload_n F 2 dR_readWords_8 rfl rfl ?_
      refine x_icmp_ge F (tgt := 91) dR_readWords_9 (by decide) (fun c2 => ?_) (fun c2 => ?_)
      · skip
        have c2 : mo ≤ k := by
          exact (nI_leI (a := mo) (b := k) (by omega) (by omega)).mp c2
        exact absurd c2 (by omega)
      · skip
        have c2 : k < mo := by
          have z : ¬ (mo ≤ k) := fun zz => c2 ((nI_leI (a := mo) (b := k) (by omega) (by omega)).mpr zz)
          omega
        refine x_iload_n F 0 dR_readWords_12 rfl rfl ?_
        refine x_aload_n F 1 dR_readWords_13 rfl rfl ?_
        refine x_get (ci := 3) F 1 (x_in inR) rfl (by decide) (x_m kfR_15) dR_readWords_14 g0 rfl ?_
        refine x_alen F (v := nI (6)) dR_readWords_17 g2 rfl ?_
        refine x_icmp_ge F (tgt := 91) dR_readWords_18 (by decide) (fun c3 => ?_) (fun c3 => ?_)
        · skip
          have c3 : 6 ≤ k := by
            exact (nI_leI (a := 6) (b := k) (by omega) (by omega)).mp c3
          exact absurd c3 (by omega)
        · skip
          have c3 : k < 6 := by
            have z : ¬ (6 ≤ k) := fun zz => c3 ((nI_leI (a := 6) (b := k) (by omega) (by omega)).mpr zz)
            omega
          refine x_aload_n F 1 dR_readWords_21 rfl rfl ?_
          refine yVr (n := 0) (As := []) (ci := 3) F kmR_99 kiR_readWord ksR_readWord knR kcR_readWord (by decide +kernel) dR_readWords_22 (cR_readWord l (nx) M1 (a) sg w1 k n q1 fk fp hR1 tx hX (by omega)) rfl g0 rfl rfl (Nat.le_of_ble_eq_true rfl) ⟨Nat.le_of_ble_eq_true rfl, Nat.le_of_ble_eq_true rfl⟩ ⟨Nat.le_of_ble_eq_true rfl, Nat.le_of_ble_eq_true rfl⟩ (fun r' n' M3 hp => ?_)
          obtain ⟨hr', hn', hR3, hf3⟩ := hp
          rw [hn', hr']
          obtain ⟨g3_0, g3_1, g3_2, g3_3, g3_4, g3_5⟩ := id hR3
          show xW p l e ({ frames := 2, cells := 0, slots := 0, locals := 43 } : Room) s m args below meth c D xcl (x_A M nx) 5 (MQ below (x_Q D xcl (x_A M nx) (rPost (some (.int (bI (wds tx n mo mo 0 q wd).1))) nx M a sg (wds tx n mo mo 0 q wd).2.2.2 (wds tx n mo mo 0 q wd).2.1 n (wds tx n mo mo 0 q wd).2.2.1 (if (wds tx n mo mo 0 q wd).1 then fk else nI 1) (if (wds tx n mo mo 0 q wd).1 then fp else nI (wds tx n mo mo 0 q wd).2.2.1))) args s 0 0 (x_A M nx)) 0 0 (nx) M3 25 [(2, .int (nI (k))), (0, .ref (a)), (1, .int (nI (mo)))] [.long (lN (wN tx (q1) (lNn tx (n) (q1))))]
          refine x_lstore_n F [(3, .long (lN (wN tx (q1) (lNn tx (n) (q1))))), (2, .int (nI (k))), (0, .ref (a)), (1, .int (nI (mo)))] dR_readWords_25 rfl (by decide) rfl ?_
          refine x_lload_n F 0 dR_readWords_26 rfl rfl ?_
          refine x_lconst F (v := 0) dR_readWords_27 (by decide) ?_
          refine x_lcmp F dR_readWords_28 ?_
          refine x_if_ne F (tgt := 42) dR_readWords_29 (by decide) (fun c4 => ?_) (fun c4 => ?_)
          · skip
            have c4 : ¬ lN (wN tx (q1) (lNn tx (n) (q1))) = 0 := fun z => c4 ((lg_cmp_eq (lN (wN tx (q1) (lNn tx (n) (q1)))) (0)).mpr z)
            refine x_aload_n F 2 dR_readWords_42 rfl rfl ?_
            refine x_get (ci := 3) F 1 (x_in inR) rfl (by decide) (x_m kfR_15) dR_readWords_43 g3_0 rfl ?_
            refine x_iload_n F 1 dR_readWords_46 rfl rfl ?_
            refine x_lload_n F 0 dR_readWords_47 rfl rfl ?_
            refine x_last F dR_readWords_48 g3_2 (pk_in (k) (6) (by omega)) ?_
            rw [nI_clamp (show k < 2 ^ 31 by omega)]
            show xW p l e ({ frames := 2, cells := 0, slots := 0, locals := 43 } : Room) s m args below meth c D xcl (x_A M nx) 5 (MQ below (x_Q D xcl (x_A M nx) (rPost (some (.int (bI (wds tx n mo mo 0 q wd).1))) nx M a sg (wds tx n mo mo 0 q wd).2.2.2 (wds tx n mo mo 0 q wd).2.1 n (wds tx n mo mo 0 q wd).2.2.1 (if (wds tx n mo mo 0 q wd).1 then fk else nI 1) (if (wds tx n mo mo 0 q wd).1 then fp else nI (wds tx n mo mo 0 q wd).2.2.1))) args s 0 0 (x_A M nx)) 0 0 (nx) (x_up M3 (a + 2) (.inl (.long, 6, .inr (.inl (vp_updL (w1) (k) (lN (wN tx (q1) (lNn tx (n) (q1))))))))) 49 [(3, .long (lN (wN tx (q1) (lNn tx (n) (q1))))), (2, .int (nI (k))), (0, .ref (a)), (1, .int (nI (mo)))] []
            refine x_aload_n F 2 dR_readWords_49 rfl rfl ?_
            refine x_iload_n F 1 dR_readWords_50 rfl rfl ?_
            refine x_iconst F (v := nI (1)) dR_readWords_51 (by decide) ?_
            refine x_iadd F dR_readWords_52 ?_
            refine xW.toi (nI (k + 1)) (nI_add _ _) ?_
            refine x_put (ci := 3) (ty := .int) F 2 (x_in inR) tR tR_ok nR rfl (by decide) (x_m kfR_19) dR_readWords_53 rfl (by decide +kernel) rfl rfl (x_up_k g3_0 (by omega)) (Nat.le_of_ble_eq_true rfl) ?_
            show xW p l e ({ frames := 2, cells := 0, slots := 0, locals := 43 } : Room) s m args below meth c D xcl (x_A M nx) 5 (MQ below (x_Q D xcl (x_A M nx) (rPost (some (.int (bI (wds tx n mo mo 0 q wd).1))) nx M a sg (wds tx n mo mo 0 q wd).2.2.2 (wds tx n mo mo 0 q wd).2.1 n (wds tx n mo mo 0 q wd).2.2.1 (if (wds tx n mo mo 0 q wd).1 then fk else nI 1) (if (wds tx n mo mo 0 q wd).1 then fp else nI (wds tx n mo mo 0 q wd).2.2.1))) args s 0 0 (x_A M nx)) 0 0 (nx) (x_up (x_up M3 (a + 2) (.inl (.long, 6, .inr (.inl (vp_updL (w1) (k) (lN (wN tx (q1) (lNn tx (n) (q1))))))))) (a) (.inr (3, [.ref (a + 1), .ref (a + 2), .int (nI (k + 1)), .int (nI (n)), .int (nI (q1 + lNn tx n q1)), .int (fk), .int (fp)]))) 56 [(3, .long (lN (wN tx (q1) (lNn tx (n) (q1))))), (2, .int (nI (k))), (0, .ref (a)), (1, .int (nI (mo)))] []
            refine x_aload_n F 2 dR_readWords_56 rfl rfl ?_
            refine yV (n := 0) (As := []) (ci := 3) F kmR_53 kiR_here ksR_here knR kcR_here (by decide +kernel) dR_readWords_57 (cR_here l (nx) (x_up (x_up M3 (a + 2) (.inl (.long, 6, .inr (.inl (vp_updL (w1) (k) (lN (wN tx (q1) (lNn tx (n) (q1))))))))) (a) (.inr (3, [.ref (a + 1), .ref (a + 2), .int (nI (k + 1)), .int (nI (n)), .int (nI (q1 + lNn tx n q1)), .int (fk), .int (fp)]))) (a) sg (vp_updL (w1) (k) (lN (wN tx (q1) (lNn tx (n) (q1))))) (k + 1) n (q1 + lNn tx n q1) fk fp ⟨x_up_s, (x_up_k (x_up_k g3_1 (by omega)) (by omega)), (x_up_k x_up_s (by omega)), by omega, by omega, by omega⟩ tx hX) rfl x_up_s rfl rfl (Nat.le_of_ble_eq_true rfl) ⟨Nat.le_of_ble_eq_true rfl, Nat.le_of_ble_eq_true rfl⟩ ⟨Nat.le_of_ble_eq_true rfl, Nat.le_of_ble_eq_true rfl⟩ ?_
            have hh57 := hx_lt (q := (q1 + lNn tx n q1)) hX
            refine x_bipush F (v := nI (46)) dR_readWords_60 (by decide) ?_
            refine x_icmp_ne F (tgt := 73) dR_readWords_62 (by decide) (fun c5 => ?_) (fun c5 => ?_)
            · skip
              have c5 : hx tx (n) ((q1 + lNn tx n q1)) ≠ 46 := by
                have z : ¬ (hx tx (n) ((q1 + lNn tx n q1)) = 46) := fun zz => c5 ((nI_eq (a := hx tx (n) ((q1 + lNn tx n q1))) (b := 46) (by omega) (by omega)).mpr zz)
                omega
              refine x_iconst F (v := nI (1)) dR_readWords_73 (by decide) ?_
              exact x_zret F hr (by rfl) dR_readWords_74 (by rw [show wds tx n mo mo 0 q wd = (true, k + 1, q1 + lNn tx n q1, vp_updL w1 k (lN (wN tx q1 (lNn tx n q1)))) from by rw [hf, wds_s, if_neg (fun e => c4 ((wN_n0 hX).mpr e)), if_neg (fun z => by have z1 := z.1; have z2 := z.2; omega)]]; exact ⟨rfl, rfl, ⟨x_up_s, (x_up_k (x_up_k g3_1 (by omega)) (by omega)), (x_up_k x_up_s (by omega)), (show k + 1 ≤ 6 by omega), (show n ≤ 400 by omega), (show q1 + lNn tx n q1 ≤ 400 by omega)⟩, fun b hb => (x_up_n (by omega)).trans ((x_up_n (by omega)).trans ((hf3 _ (by omega)).trans ((hfr _ hb).trans (rfl))))⟩)
            · skip
              have c5 : hx tx (n) ((q1 + lNn tx n q1)) = 46 := by
                exact (nI_eq (a := hx tx (n) ((q1 + lNn tx n q1))) (b := 46) (by omega) (by omega)).mp c5
              refine x_aload_n F 2 dR_readWords_65 rfl rfl ?_
              refine x_get (ci := 3) F 2 (x_in inR) rfl (by decide) (x_m kfR_19) dR_readWords_66 x_up_s rfl ?_
              refine x_iload_n F 3 dR_readWords_69 rfl rfl ?_
              refine x_icmp_ne F (tgt := 75) dR_readWords_70 (by decide) (fun c6 => ?_) (fun c6 => ?_)
              · skip
                have c6 : k + 1 ≠ mo := by
                  have z : ¬ (k + 1 = mo) := fun zz => c6 ((nI_eq (a := k + 1) (b := mo) (by omega) (by omega)).mpr zz)
                  omega
                refine x_aload_n F 2 dR_readWords_75 rfl rfl ?_
                refine x_dup F dR_readWords_76 rfl ?_
                refine x_get (ci := 3) F 4 (x_in inR) rfl (by decide) (x_m kfR_26) dR_readWords_77 x_up_s rfl ?_
                refine x_iconst F (v := nI (1)) dR_readWords_80 (by decide) ?_
                refine x_iadd F dR_readWords_81 ?_
                refine xW.toi (nI (q1 + lNn tx n q1 + 1)) (nI_add _ _) ?_
                refine x_put (ci := 3) (ty := .int) F 4 (x_in inR) tR tR_ok nR rfl (by decide) (x_m kfR_26) dR_readWords_82 rfl (by decide +kernel) rfl rfl x_up_s (Nat.le_of_ble_eq_true rfl) ?_
                show xW p l e ({ frames := 2, cells := 0, slots := 0, locals := 43 } : Room) s m args below meth c D xcl (x_A M nx) 5 (MQ below (x_Q D xcl (x_A M nx) (rPost (some (.int (bI (wds tx n mo mo 0 q wd).1))) nx M a sg (wds tx n mo mo 0 q wd).2.2.2 (wds tx n mo mo 0 q wd).2.1 n (wds tx n mo mo 0 q wd).2.2.1 (if (wds tx n mo mo 0 q wd).1 then fk else nI 1) (if (wds tx n mo mo 0 q wd).1 then fp else nI (wds tx n mo mo 0 q wd).2.2.1))) args s 0 0 (x_A M nx)) 0 0 (nx) (x_up (x_up (x_up M3 (a + 2) (.inl (.long, 6, .inr (.inl (vp_updL (w1) (k) (lN (wN tx (q1) (lNn tx (n) (q1))))))))) (a) (.inr (3, [.ref (a + 1), .ref (a + 2), .int (nI (k + 1)), .int (nI (n)), .int (nI (q1 + lNn tx n q1)), .int (fk), .int (fp)]))) (a) (.inr (3, [.ref (a + 1), .ref (a + 2), .int (nI (k + 1)), .int (nI (n)), .int (nI (q1 + lNn tx n q1 + 1)), .int (fk), .int (fp)]))) 85 [(3, .long (lN (wN tx (q1) (lNn tx (n) (q1))))), (2, .int (nI (k))), (0, .ref (a)), (1, .int (nI (mo)))] []
                refine x_iinc F 1 [(2, .int (nI (k + 1))), (3, .long (lN (wN tx (q1) (lNn tx (n) (q1))))), (0, .ref (a)), (1, .int (nI (mo)))] dR_readWords_85 rfl (nI_add (k) 1) (by decide) rfl ?_
                refine x_goto F (tgt := 7) dR_readWords_88 (by decide) ?_
                refine xW.sub [0, 2, 3] rfl ?_
                exact ih (k + 1) _ _ _ (by omega) (by have := (hx_in (K := fun c => decide (c = 46)) rfl (tx := tx) (n := n) (q := q1 + lNn tx n q1) (by simpa using c5)).1; omega) ⟨x_up_s, (x_up_k (x_up_k (x_up_k g3_1 (by omega)) (by omega)) (by omega)), (x_up_k (x_up_k x_up_s (by omega)) (by omega)), by omega, by omega, by have := (hx_in (K := fun c => decide (c = 46)) rfl (tx := tx) (n := n) (q := q1 + lNn tx n q1) (by simpa using c5)).1; omega⟩ (fun b hb => (x_up_n (by omega)).trans ((x_up_n (by omega)).trans ((x_up_n (by omega)).trans ((hf3 _ (by omega)).trans ((hfr _ hb).trans (rfl)))))) (by rw [hf, wds_s, if_neg (fun e => c4 ((wN_n0 hX).mpr e)), if_pos ⟨c5, c6⟩])
              · skip
                have c6 : k + 1 = mo := by
                  exact (nI_eq (a := k + 1) (b := mo) (by omega) (by omega)).mp c6
                refine x_iconst F (v := nI (1)) dR_readWords_73 (by decide) ?_
                exact x_zret F hr (by rfl) dR_readWords_74 (by rw [show wds tx n mo mo 0 q wd = (true, k + 1, q1 + lNn tx n q1, vp_updL w1 k (lN (wN tx q1 (lNn tx n q1)))) from by rw [hf, wds_s, if_neg (fun e => c4 ((wN_n0 hX).mpr e)), if_neg (fun z => by have z1 := z.1; have z2 := z.2; omega)]]; exact ⟨rfl, rfl, ⟨x_up_s, (x_up_k (x_up_k g3_1 (by omega)) (by omega)), (x_up_k x_up_s (by omega)), (show k + 1 ≤ 6 by omega), (show n ≤ 400 by omega), (show q1 + lNn tx n q1 ≤ 400 by omega)⟩, fun b hb => (x_up_n (by omega)).trans ((x_up_n (by omega)).trans ((hf3 _ (by omega)).trans ((hfr _ hb).trans (rfl))))⟩)
          · skip
            have c4 : lN (wN tx (q1) (lNn tx (n) (q1))) = 0 := (lg_cmp_eq (lN (wN tx (q1) (lNn tx (n) (q1)))) (0)).mp c4
            have hL0 : lNn tx n q1 = 0 := (wN_n0 hX).mp c4
            refine x_aload_n F 2 dR_readWords_32 rfl rfl ?_
            refine x_iconst F (v := nI (1)) dR_readWords_33 (by decide) ?_
            refine x_aload_n F 2 dR_readWords_34 rfl rfl ?_
            refine x_get (ci := 3) F 4 (x_in inR) rfl (by decide) (x_m kfR_26) dR_readWords_35 g3_0 rfl ?_
            refine yVr (n := 2) (As := [.int (nI (1)), .int (nI (q1 + lNn tx n q1))]) (ci := 3) F kmR_42 kiR_fail ksR_fail knR kcR_fail (by decide +kernel) dR_readWords_38 (cR_fail l (nx) M3 (a) sg w1 k n (q1 + lNn tx n q1) fk fp hR3 (nI (1)) (nI (q1 + lNn tx n q1))) rfl g3_0 rfl rfl (Nat.le_of_ble_eq_true rfl) ⟨Nat.le_of_ble_eq_true rfl, Nat.le_of_ble_eq_true rfl⟩ ⟨Nat.le_of_ble_eq_true rfl, Nat.le_of_ble_eq_true rfl⟩ (fun r' n' M4 hp => ?_)
            obtain ⟨hr', hn', hR4, hf4⟩ := hp
            rw [hn', hr']
            obtain ⟨g4_0, g4_1, g4_2, g4_3, g4_4, g4_5⟩ := id hR4
            show xW p l e ({ frames := 2, cells := 0, slots := 0, locals := 43 } : Room) s m args below meth c D xcl (x_A M nx) 5 (MQ below (x_Q D xcl (x_A M nx) (rPost (some (.int (bI (wds tx n mo mo 0 q wd).1))) nx M a sg (wds tx n mo mo 0 q wd).2.2.2 (wds tx n mo mo 0 q wd).2.1 n (wds tx n mo mo 0 q wd).2.2.1 (if (wds tx n mo mo 0 q wd).1 then fk else nI 1) (if (wds tx n mo mo 0 q wd).1 then fp else nI (wds tx n mo mo 0 q wd).2.2.1))) args s 0 0 (x_A M nx)) 0 0 (nx) M4 41 [(3, .long (lN (wN tx (q1) (lNn tx (n) (q1))))), (2, .int (nI (k))), (0, .ref (a)), (1, .int (nI (mo)))] [.int (nI (0))]
            exact x_zret F hr (by rfl) dR_readWords_41 (by rw [show wds tx n mo mo 0 q wd = (false, k, q1, w1) from by rw [hf, wds_s, if_pos ((wN_n0 hX).mp c4)]]; exact ⟨rfl, rfl, (by have z := hR4; rw [hL0] at z; exact z), fun b hb => (hf4 _ (by omega)).trans ((hf3 _ (by omega)).trans ((hfr _ hb).trans (rfl)))⟩)
  refine x_aload_n F 0 dR_readWords_0 rfl rfl ?_
  refine x_iconst F (v := nI (0)) dR_readWords_1 (by decide) ?_
  refine x_put (ci := 3) (ty := .int) F 2 (x_in inR) tR tR_ok nR rfl (by decide) (x_m kfR_19) dR_readWords_2 rfl (by decide +kernel) rfl rfl h0 (Nat.le_of_ble_eq_true rfl) ?_
  show xW p l e ({ frames := 2, cells := 0, slots := 0, locals := 43 } : Room) s m args below meth c D xcl (x_A M nx) 5 (MQ below (x_Q D xcl (x_A M nx) (rPost (some (.int (bI (wds tx n mo mo 0 q wd).1))) nx M a sg (wds tx n mo mo 0 q wd).2.2.2 (wds tx n mo mo 0 q wd).2.1 n (wds tx n mo mo 0 q wd).2.2.1 (if (wds tx n mo mo 0 q wd).1 then fk else nI 1) (if (wds tx n mo mo 0 q wd).1 then fp else nI (wds tx n mo mo 0 q wd).2.2.1))) args s 0 0 (x_A M nx)) 0 0 (nx) (x_up M (a) (.inr (3, [.ref (a + 1), .ref (a + 2), .int (nI (0)), .int (nI (n)), .int (nI (q)), .int (fk), .int (fp)]))) 5 [(0, .ref (a)), (1, .int (nI (mo)))] []
  refine x_iconst F (v := nI (0)) dR_readWords_5 (by decide) ?_
  refine x_istore_n F [(2, .int (nI (0))), (0, .ref (a)), (1, .int (nI (mo)))] dR_readWords_6 rfl (by decide) rfl ?_
  exact loop mo 0 q wd _ (by omega) hqn ⟨x_up_s, (x_up_k h1 (by omega)), (x_up_k h2 (by omega)), by omega, by omega, by omega⟩ (fun b hb => (x_up_n (by omega)).trans (rfl)) rfl
set_option maxHeartbeats 4000000 in
set_option maxRecDepth 100000 in
theorem cR_takeT (l : Launch) (nx : Nat) (M : xH) (a : Nat) (sg : Nat → Int32) (wd : Nat → Int64) (cw n q : Nat) (fk fp : Int32) (hT : rAt M a sg wd cw n q fk fp) (i : Int32) (t : Nat) (ht : t < 128) (hs : sml i = nI t) (hg : sgn (nI t) = true) (hn : n < 400) : xC l xcl yR_take (xw (Cond.code yR_take bR_take 3 (some .boolean))) ({ frames := 2, cells := 0, slots := 0, locals := 40 } : Room) [.ref (a), .int (i)] nx M (rPost (some (.int (nI 1))) nx M a (upd sg n (nI t)) wd cw (n + 1) q fk fp) := by
  obtain ⟨h0, h1, h2, hcw, hn4, hq4⟩ := id hT
  refine yC (by decide) (Nat.le_of_ble_eq_true rfl) ?_
  intro p e s m args below meth c D F hr hn
  refine x_iload_n F 1 dR_take_0 rfl rfl ?_
  refine x_bipush F (v := nI (65)) dR_take_1 (by decide) ?_
  refine x_icmp_lt F (tgt := 22) dR_take_3 (by decide) (fun c1 => ?_) (fun c1 => ?_)
  · skip
    refine x_iload_n F 1 dR_take_22 rfl rfl ?_
    refine xW.toi (nI (t)) ((show _ = sml i from by rw [sml, if_neg (fun z => absurd z.1 (Int32.not_le.mpr c1))]).trans hs) ?_
    refine x_istore_n F [(2, .int (nI (t))), (0, .ref (a)), (1, .int (i))] dR_take_23 rfl (by decide) rfl ?_
    refine x_iload_n F 0 dR_take_24 rfl rfl ?_
    refine yS (n := 1) (As := [.int (nI (t))]) F kmR_35 ktR_isSign knR kcR_isSign (by decide +kernel) dR_take_25 (cR_isSign l (nx) M (nI (t))) rfl rfl (Nat.le_of_ble_eq_true rfl) ⟨Nat.le_of_ble_eq_true rfl, Nat.le_of_ble_eq_true rfl⟩ ⟨Nat.le_of_ble_eq_true rfl, Nat.le_of_ble_eq_true rfl⟩ ?_
    refine x_if_eq F (tgt := 43) dR_take_28 (by decide) (fun c2 => ?_) (fun c2 => ?_)
    · skip
      have c2 : (sgn (nI (t))) = false := bI_0 c2
      rw [hg] at c2; cases c2
    · skip
      have c2 : (sgn (nI (t))) = true := bI_1 c2
      refine x_aload_n F 1 dR_take_31 rfl rfl ?_
      refine x_get (ci := 3) F 3 (x_in inR) rfl (by decide) (x_m kfR_23) dR_take_32 h0 rfl ?_
      refine x_aload_n F 1 dR_take_35 rfl rfl ?_
      refine x_get (ci := 3) F 0 (x_in inR) rfl (by decide) (x_m kfR_9) dR_take_36 h0 rfl ?_
      refine x_alen F (v := nI (400)) dR_take_39 h1 rfl ?_
      refine x_icmp_lt F (tgt := 45) dR_take_40 (by decide) (fun c3 => ?_) (fun c3 => ?_)
      · skip
        have c3 : n < 400 := by
          exact (nI_ltI (a := n) (b := 400) (by omega) (by omega)).mp c3
        refine x_aload_n F 1 dR_take_45 rfl rfl ?_
        refine x_get (ci := 3) F 0 (x_in inR) rfl (by decide) (x_m kfR_9) dR_take_46 h0 rfl ?_
        refine x_aload_n F 1 dR_take_49 rfl rfl ?_
        refine x_get (ci := 3) F 3 (x_in inR) rfl (by decide) (x_m kfR_23) dR_take_50 h0 rfl ?_
        refine x_iload_n F 0 dR_take_53 rfl rfl ?_
        refine x_i2c F dR_take_54 ?_
        refine xW.toi (nI (t)) (i2c_n (by omega)) ?_
        refine x_cast F dR_take_55 h1 (pk_in (n) (400) (by omega)) ?_
        rw [nI_clamp (show n < 2 ^ 31 by omega)]
        show xW p l e ({ frames := 2, cells := 0, slots := 0, locals := 40 } : Room) s m args below meth c D xcl (x_A M nx) 3 (MQ below (x_Q D xcl (x_A M nx) (rPost (some (.int (nI 1))) nx M a (upd sg n (nI t)) wd cw (n + 1) q fk fp)) args s 0 0 (x_A M nx)) 0 0 (nx) (x_up M (a + 1) (.inl (.char, 400, .inl (upd (sg) (n) (vp_nar .char (nI (t))))))) 56 [(2, .int (nI (t))), (0, .ref (a)), (1, .int (i))] []
        rw [nar_n (show t < 65536 by omega)]
        refine x_aload_n F 1 dR_take_56 rfl rfl ?_
        refine x_dup F dR_take_57 rfl ?_
        refine x_get (ci := 3) F 3 (x_in inR) rfl (by decide) (x_m kfR_23) dR_take_58 (x_up_k h0 (by omega)) rfl ?_
        refine x_iconst F (v := nI (1)) dR_take_61 (by decide) ?_
        refine x_iadd F dR_take_62 ?_
        refine xW.toi (nI (n + 1)) (nI_add _ _) ?_
        refine x_put (ci := 3) (ty := .int) F 3 (x_in inR) tR tR_ok nR rfl (by decide) (x_m kfR_23) dR_take_63 rfl (by decide +kernel) rfl rfl (x_up_k h0 (by omega)) (Nat.le_of_ble_eq_true rfl) ?_
        show xW p l e ({ frames := 2, cells := 0, slots := 0, locals := 40 } : Room) s m args below meth c D xcl (x_A M nx) 3 (MQ below (x_Q D xcl (x_A M nx) (rPost (some (.int (nI 1))) nx M a (upd sg n (nI t)) wd cw (n + 1) q fk fp)) args s 0 0 (x_A M nx)) 0 0 (nx) (x_up (x_up M (a + 1) (.inl (.char, 400, .inl (upd (sg) (n) (nI (t)))))) (a) (.inr (3, [.ref (a + 1), .ref (a + 2), .int (nI (cw)), .int (nI (n + 1)), .int (nI (q)), .int (fk), .int (fp)]))) 66 [(2, .int (nI (t))), (0, .ref (a)), (1, .int (i))] []
        refine x_iconst F (v := nI (1)) dR_take_66 (by decide) ?_
        exact x_zret F hr (by rfl) dR_take_67 (⟨rfl, rfl, ⟨x_up_s, (x_up_k x_up_s (by omega)), (x_up_k (x_up_k h2 (by omega)) (by omega)), by omega, by omega, by omega⟩, fun b hb => (x_up_n (by omega)).trans ((x_up_n (by omega)).trans (rfl))⟩)
      · skip
        have c3 : 400 ≤ n := by
          have z : ¬ (n < 400) := fun zz => c3 ((nI_ltI (a := n) (b := 400) (by omega) (by omega)).mpr zz)
          omega
        exact absurd c3 (by omega)
  · skip
    refine x_iload_n F 1 dR_take_6 rfl rfl ?_
    refine x_bipush F (v := nI (90)) dR_take_7 (by decide) ?_
    refine x_icmp_gt F (tgt := 22) dR_take_9 (by decide) (fun c4 => ?_) (fun c4 => ?_)
    · skip
      refine x_iload_n F 1 dR_take_22 rfl rfl ?_
      refine xW.toi (nI (t)) ((show _ = sml i from by rw [sml, if_neg (fun z => absurd z.2 (Int32.not_le.mpr c4))]).trans hs) ?_
      refine x_istore_n F [(2, .int (nI (t))), (0, .ref (a)), (1, .int (i))] dR_take_23 rfl (by decide) rfl ?_
      refine x_iload_n F 0 dR_take_24 rfl rfl ?_
      refine yS (n := 1) (As := [.int (nI (t))]) F kmR_35 ktR_isSign knR kcR_isSign (by decide +kernel) dR_take_25 (cR_isSign l (nx) M (nI (t))) rfl rfl (Nat.le_of_ble_eq_true rfl) ⟨Nat.le_of_ble_eq_true rfl, Nat.le_of_ble_eq_true rfl⟩ ⟨Nat.le_of_ble_eq_true rfl, Nat.le_of_ble_eq_true rfl⟩ ?_
      refine x_if_eq F (tgt := 43) dR_take_28 (by decide) (fun c5 => ?_) (fun c5 => ?_)
      · skip
        have c5 : (sgn (nI (t))) = false := bI_0 c5
        rw [hg] at c5; cases c5
      · skip
        have c5 : (sgn (nI (t))) = true := bI_1 c5
        refine x_aload_n F 1 dR_take_31 rfl rfl ?_
        refine x_get (ci := 3) F 3 (x_in inR) rfl (by decide) (x_m kfR_23) dR_take_32 h0 rfl ?_
        refine x_aload_n F 1 dR_take_35 rfl rfl ?_
        refine x_get (ci := 3) F 0 (x_in inR) rfl (by decide) (x_m kfR_9) dR_take_36 h0 rfl ?_
        refine x_alen F (v := nI (400)) dR_take_39 h1 rfl ?_
        refine x_icmp_lt F (tgt := 45) dR_take_40 (by decide) (fun c6 => ?_) (fun c6 => ?_)
        · skip
          have c6 : n < 400 := by
            exact (nI_ltI (a := n) (b := 400) (by omega) (by omega)).mp c6
          refine x_aload_n F 1 dR_take_45 rfl rfl ?_
          refine x_get (ci := 3) F 0 (x_in inR) rfl (by decide) (x_m kfR_9) dR_take_46 h0 rfl ?_
          refine x_aload_n F 1 dR_take_49 rfl rfl ?_
          refine x_get (ci := 3) F 3 (x_in inR) rfl (by decide) (x_m kfR_23) dR_take_50 h0 rfl ?_
          refine x_iload_n F 0 dR_take_53 rfl rfl ?_
          refine x_i2c F dR_take_54 ?_
          refine xW.toi (nI (t)) (i2c_n (by omega)) ?_
          refine x_cast F dR_take_55 h1 (pk_in (n) (400) (by omega)) ?_
          rw [nI_clamp (show n < 2 ^ 31 by omega)]
          show xW p l e ({ frames := 2, cells := 0, slots := 0, locals := 40 } : Room) s m args below meth c D xcl (x_A M nx) 3 (MQ below (x_Q D xcl (x_A M nx) (rPost (some (.int (nI 1))) nx M a (upd sg n (nI t)) wd cw (n + 1) q fk fp)) args s 0 0 (x_A M nx)) 0 0 (nx) (x_up M (a + 1) (.inl (.char, 400, .inl (upd (sg) (n) (vp_nar .char (nI (t))))))) 56 [(2, .int (nI (t))), (0, .ref (a)), (1, .int (i))] []
          rw [nar_n (show t < 65536 by omega)]
          refine x_aload_n F 1 dR_take_56 rfl rfl ?_
          refine x_dup F dR_take_57 rfl ?_
          refine x_get (ci := 3) F 3 (x_in inR) rfl (by decide) (x_m kfR_23) dR_take_58 (x_up_k h0 (by omega)) rfl ?_
          refine x_iconst F (v := nI (1)) dR_take_61 (by decide) ?_
          refine x_iadd F dR_take_62 ?_
          refine xW.toi (nI (n + 1)) (nI_add _ _) ?_
          refine x_put (ci := 3) (ty := .int) F 3 (x_in inR) tR tR_ok nR rfl (by decide) (x_m kfR_23) dR_take_63 rfl (by decide +kernel) rfl rfl (x_up_k h0 (by omega)) (Nat.le_of_ble_eq_true rfl) ?_
          show xW p l e ({ frames := 2, cells := 0, slots := 0, locals := 40 } : Room) s m args below meth c D xcl (x_A M nx) 3 (MQ below (x_Q D xcl (x_A M nx) (rPost (some (.int (nI 1))) nx M a (upd sg n (nI t)) wd cw (n + 1) q fk fp)) args s 0 0 (x_A M nx)) 0 0 (nx) (x_up (x_up M (a + 1) (.inl (.char, 400, .inl (upd (sg) (n) (nI (t)))))) (a) (.inr (3, [.ref (a + 1), .ref (a + 2), .int (nI (cw)), .int (nI (n + 1)), .int (nI (q)), .int (fk), .int (fp)]))) 66 [(2, .int (nI (t))), (0, .ref (a)), (1, .int (i))] []
          refine x_iconst F (v := nI (1)) dR_take_66 (by decide) ?_
          exact x_zret F hr (by rfl) dR_take_67 (⟨rfl, rfl, ⟨x_up_s, (x_up_k x_up_s (by omega)), (x_up_k (x_up_k h2 (by omega)) (by omega)), by omega, by omega, by omega⟩, fun b hb => (x_up_n (by omega)).trans ((x_up_n (by omega)).trans (rfl))⟩)
        · skip
          have c6 : 400 ≤ n := by
            have z : ¬ (n < 400) := fun zz => c6 ((nI_ltI (a := n) (b := 400) (by omega) (by omega)).mpr zz)
            omega
          exact absurd c6 (by omega)
    · skip
      refine x_iload_n F 1 dR_take_12 rfl rfl ?_
      refine x_bipush F (v := nI (65)) dR_take_13 (by decide) ?_
      refine x_isub F dR_take_15 ?_
      refine x_bipush F (v := nI (97)) dR_take_16 (by decide) ?_
      refine x_iadd F dR_take_18 ?_
      refine x_goto F (tgt := 23) dR_take_19 (by decide) ?_
      refine xW.toi (nI (t)) ((show _ = sml i from by rw [sml, if_pos ⟨Int32.not_lt.mp c1, Int32.not_lt.mp c4⟩]).trans hs) ?_
      refine x_istore_n F [(2, .int (nI (t))), (0, .ref (a)), (1, .int (i))] dR_take_23 rfl (by decide) rfl ?_
      refine x_iload_n F 0 dR_take_24 rfl rfl ?_
      refine yS (n := 1) (As := [.int (nI (t))]) F kmR_35 ktR_isSign knR kcR_isSign (by decide +kernel) dR_take_25 (cR_isSign l (nx) M (nI (t))) rfl rfl (Nat.le_of_ble_eq_true rfl) ⟨Nat.le_of_ble_eq_true rfl, Nat.le_of_ble_eq_true rfl⟩ ⟨Nat.le_of_ble_eq_true rfl, Nat.le_of_ble_eq_true rfl⟩ ?_
      refine x_if_eq F (tgt := 43) dR_take_28 (by decide) (fun c7 => ?_) (fun c7 => ?_)
      · skip
        have c7 : (sgn (nI (t))) = false := bI_0 c7
        rw [hg] at c7; cases c7
      · skip
        have c7 : (sgn (nI (t))) = true := bI_1 c7
        refine x_aload_n F 1 dR_take_31 rfl rfl ?_
        refine x_get (ci := 3) F 3 (x_in inR) rfl (by decide) (x_m kfR_23) dR_take_32 h0 rfl ?_
        refine x_aload_n F 1 dR_take_35 rfl rfl ?_
        refine x_get (ci := 3) F 0 (x_in inR) rfl (by decide) (x_m kfR_9) dR_take_36 h0 rfl ?_
        refine x_alen F (v := nI (400)) dR_take_39 h1 rfl ?_
        refine x_icmp_lt F (tgt := 45) dR_take_40 (by decide) (fun c8 => ?_) (fun c8 => ?_)
        · skip
          have c8 : n < 400 := by
            exact (nI_ltI (a := n) (b := 400) (by omega) (by omega)).mp c8
          refine x_aload_n F 1 dR_take_45 rfl rfl ?_
          refine x_get (ci := 3) F 0 (x_in inR) rfl (by decide) (x_m kfR_9) dR_take_46 h0 rfl ?_
          refine x_aload_n F 1 dR_take_49 rfl rfl ?_
          refine x_get (ci := 3) F 3 (x_in inR) rfl (by decide) (x_m kfR_23) dR_take_50 h0 rfl ?_
          refine x_iload_n F 0 dR_take_53 rfl rfl ?_
          refine x_i2c F dR_take_54 ?_
          refine xW.toi (nI (t)) (i2c_n (by omega)) ?_
          refine x_cast F dR_take_55 h1 (pk_in (n) (400) (by omega)) ?_
          rw [nI_clamp (show n < 2 ^ 31 by omega)]
          show xW p l e ({ frames := 2, cells := 0, slots := 0, locals := 40 } : Room) s m args below meth c D xcl (x_A M nx) 3 (MQ below (x_Q D xcl (x_A M nx) (rPost (some (.int (nI 1))) nx M a (upd sg n (nI t)) wd cw (n + 1) q fk fp)) args s 0 0 (x_A M nx)) 0 0 (nx) (x_up M (a + 1) (.inl (.char, 400, .inl (upd (sg) (n) (vp_nar .char (nI (t))))))) 56 [(2, .int (nI (t))), (0, .ref (a)), (1, .int (i))] []
          rw [nar_n (show t < 65536 by omega)]
          refine x_aload_n F 1 dR_take_56 rfl rfl ?_
          refine x_dup F dR_take_57 rfl ?_
          refine x_get (ci := 3) F 3 (x_in inR) rfl (by decide) (x_m kfR_23) dR_take_58 (x_up_k h0 (by omega)) rfl ?_
          refine x_iconst F (v := nI (1)) dR_take_61 (by decide) ?_
          refine x_iadd F dR_take_62 ?_
          refine xW.toi (nI (n + 1)) (nI_add _ _) ?_
          refine x_put (ci := 3) (ty := .int) F 3 (x_in inR) tR tR_ok nR rfl (by decide) (x_m kfR_23) dR_take_63 rfl (by decide +kernel) rfl rfl (x_up_k h0 (by omega)) (Nat.le_of_ble_eq_true rfl) ?_
          show xW p l e ({ frames := 2, cells := 0, slots := 0, locals := 40 } : Room) s m args below meth c D xcl (x_A M nx) 3 (MQ below (x_Q D xcl (x_A M nx) (rPost (some (.int (nI 1))) nx M a (upd sg n (nI t)) wd cw (n + 1) q fk fp)) args s 0 0 (x_A M nx)) 0 0 (nx) (x_up (x_up M (a + 1) (.inl (.char, 400, .inl (upd (sg) (n) (nI (t)))))) (a) (.inr (3, [.ref (a + 1), .ref (a + 2), .int (nI (cw)), .int (nI (n + 1)), .int (nI (q)), .int (fk), .int (fp)]))) 66 [(2, .int (nI (t))), (0, .ref (a)), (1, .int (i))] []
          refine x_iconst F (v := nI (1)) dR_take_66 (by decide) ?_
          exact x_zret F hr (by rfl) dR_take_67 (⟨rfl, rfl, ⟨x_up_s, (x_up_k x_up_s (by omega)), (x_up_k (x_up_k h2 (by omega)) (by omega)), by omega, by omega, by omega⟩, fun b hb => (x_up_n (by omega)).trans ((x_up_n (by omega)).trans (rfl))⟩)
        · skip
          have c8 : 400 ≤ n := by
            have z : ¬ (n < 400) := fun zz => c8 ((nI_ltI (a := n) (b := 400) (by omega) (by omega)).mpr zz)
            omega
          exact absurd c8 (by omega)
set_option maxHeartbeats 4000000 in
set_option maxRecDepth 100000 in
theorem cR_takeF (l : Launch) (nx : Nat) (M : xH) (a : Nat) (sg : Nat → Int32) (wd : Nat → Int64) (cw n q : Nat) (fk fp : Int32) (hT : rAt M a sg wd cw n q fk fp) (i : Int32) (hg : sgn (sml i) = true → n = 400) : xC l xcl yR_take (xw (Cond.code yR_take bR_take 3 (some .boolean))) ({ frames := 2, cells := 0, slots := 0, locals := 40 } : Room) [.ref (a), .int (i)] nx M (x_is (some (.int (nI (0)))) nx M) := by
  obtain ⟨h0, h1, h2, hcw, hn4, hq4⟩ := id hT
  refine yC (by decide) (Nat.le_of_ble_eq_true rfl) ?_
  intro p e s m args below meth c D F hr hn
  refine x_iload_n F 1 dR_take_0 rfl rfl ?_
  refine x_bipush F (v := nI (65)) dR_take_1 (by decide) ?_
  refine x_icmp_lt F (tgt := 22) dR_take_3 (by decide) (fun c1 => ?_) (fun c1 => ?_)
  · skip
    refine x_iload_n F 1 dR_take_22 rfl rfl ?_
    refine xW.toi (sml i) (show _ = sml i from by rw [sml, if_neg (fun z => absurd z.1 (Int32.not_le.mpr c1))]) ?_
    refine x_istore_n F [(2, .int (sml i)), (0, .ref (a)), (1, .int (i))] dR_take_23 rfl (by decide) rfl ?_
    refine x_iload_n F 0 dR_take_24 rfl rfl ?_
    refine yS (n := 1) (As := [.int (sml i)]) F kmR_35 ktR_isSign knR kcR_isSign (by decide +kernel) dR_take_25 (cR_isSign l (nx) M (sml i)) rfl rfl (Nat.le_of_ble_eq_true rfl) ⟨Nat.le_of_ble_eq_true rfl, Nat.le_of_ble_eq_true rfl⟩ ⟨Nat.le_of_ble_eq_true rfl, Nat.le_of_ble_eq_true rfl⟩ ?_
    refine x_if_eq F (tgt := 43) dR_take_28 (by decide) (fun c2 => ?_) (fun c2 => ?_)
    · skip
      have c2 : (sgn (sml i)) = false := bI_0 c2
      refine x_iconst F (v := nI (0)) dR_take_43 (by decide) ?_
      exact x_zret F hr (by rfl) dR_take_44 (x_is_i _ _ _)
    · skip
      have c2 : (sgn (sml i)) = true := bI_1 c2
      refine x_aload_n F 1 dR_take_31 rfl rfl ?_
      refine x_get (ci := 3) F 3 (x_in inR) rfl (by decide) (x_m kfR_23) dR_take_32 h0 rfl ?_
      refine x_aload_n F 1 dR_take_35 rfl rfl ?_
      refine x_get (ci := 3) F 0 (x_in inR) rfl (by decide) (x_m kfR_9) dR_take_36 h0 rfl ?_
      refine x_alen F (v := nI (400)) dR_take_39 h1 rfl ?_
      refine x_icmp_lt F (tgt := 45) dR_take_40 (by decide) (fun c3 => ?_) (fun c3 => ?_)
      · skip
        have c3 : n < 400 := by
          exact (nI_ltI (a := n) (b := 400) (by omega) (by omega)).mp c3
        exact absurd (hg c2) (by omega)
      · skip
        have c3 : 400 ≤ n := by
          have z : ¬ (n < 400) := fun zz => c3 ((nI_ltI (a := n) (b := 400) (by omega) (by omega)).mpr zz)
          omega
        refine x_iconst F (v := nI (0)) dR_take_43 (by decide) ?_
        exact x_zret F hr (by rfl) dR_take_44 (x_is_i _ _ _)
  · skip
    refine x_iload_n F 1 dR_take_6 rfl rfl ?_
    refine x_bipush F (v := nI (90)) dR_take_7 (by decide) ?_
    refine x_icmp_gt F (tgt := 22) dR_take_9 (by decide) (fun c4 => ?_) (fun c4 => ?_)
    · skip
      refine x_iload_n F 1 dR_take_22 rfl rfl ?_
      refine xW.toi (sml i) (show _ = sml i from by rw [sml, if_neg (fun z => absurd z.2 (Int32.not_le.mpr c4))]) ?_
      refine x_istore_n F [(2, .int (sml i)), (0, .ref (a)), (1, .int (i))] dR_take_23 rfl (by decide) rfl ?_
      refine x_iload_n F 0 dR_take_24 rfl rfl ?_
      refine yS (n := 1) (As := [.int (sml i)]) F kmR_35 ktR_isSign knR kcR_isSign (by decide +kernel) dR_take_25 (cR_isSign l (nx) M (sml i)) rfl rfl (Nat.le_of_ble_eq_true rfl) ⟨Nat.le_of_ble_eq_true rfl, Nat.le_of_ble_eq_true rfl⟩ ⟨Nat.le_of_ble_eq_true rfl, Nat.le_of_ble_eq_true rfl⟩ ?_
      refine x_if_eq F (tgt := 43) dR_take_28 (by decide) (fun c5 => ?_) (fun c5 => ?_)
      · skip
        have c5 : (sgn (sml i)) = false := bI_0 c5
        refine x_iconst F (v := nI (0)) dR_take_43 (by decide) ?_
        exact x_zret F hr (by rfl) dR_take_44 (x_is_i _ _ _)
      · skip
        have c5 : (sgn (sml i)) = true := bI_1 c5
        refine x_aload_n F 1 dR_take_31 rfl rfl ?_
        refine x_get (ci := 3) F 3 (x_in inR) rfl (by decide) (x_m kfR_23) dR_take_32 h0 rfl ?_
        refine x_aload_n F 1 dR_take_35 rfl rfl ?_
        refine x_get (ci := 3) F 0 (x_in inR) rfl (by decide) (x_m kfR_9) dR_take_36 h0 rfl ?_
        refine x_alen F (v := nI (400)) dR_take_39 h1 rfl ?_
        refine x_icmp_lt F (tgt := 45) dR_take_40 (by decide) (fun c6 => ?_) (fun c6 => ?_)
        · skip
          have c6 : n < 400 := by
            exact (nI_ltI (a := n) (b := 400) (by omega) (by omega)).mp c6
          exact absurd (hg c5) (by omega)
        · skip
          have c6 : 400 ≤ n := by
            have z : ¬ (n < 400) := fun zz => c6 ((nI_ltI (a := n) (b := 400) (by omega) (by omega)).mpr zz)
            omega
          refine x_iconst F (v := nI (0)) dR_take_43 (by decide) ?_
          exact x_zret F hr (by rfl) dR_take_44 (x_is_i _ _ _)
    · skip
      refine x_iload_n F 1 dR_take_12 rfl rfl ?_
      refine x_bipush F (v := nI (65)) dR_take_13 (by decide) ?_
      refine x_isub F dR_take_15 ?_
      refine x_bipush F (v := nI (97)) dR_take_16 (by decide) ?_
      refine x_iadd F dR_take_18 ?_
      refine x_goto F (tgt := 23) dR_take_19 (by decide) ?_
      refine xW.toi (sml i) (show _ = sml i from by rw [sml, if_pos ⟨Int32.not_lt.mp c1, Int32.not_lt.mp c4⟩]) ?_
      refine x_istore_n F [(2, .int (sml i)), (0, .ref (a)), (1, .int (i))] dR_take_23 rfl (by decide) rfl ?_
      refine x_iload_n F 0 dR_take_24 rfl rfl ?_
      refine yS (n := 1) (As := [.int (sml i)]) F kmR_35 ktR_isSign knR kcR_isSign (by decide +kernel) dR_take_25 (cR_isSign l (nx) M (sml i)) rfl rfl (Nat.le_of_ble_eq_true rfl) ⟨Nat.le_of_ble_eq_true rfl, Nat.le_of_ble_eq_true rfl⟩ ⟨Nat.le_of_ble_eq_true rfl, Nat.le_of_ble_eq_true rfl⟩ ?_
      refine x_if_eq F (tgt := 43) dR_take_28 (by decide) (fun c7 => ?_) (fun c7 => ?_)
      · skip
        have c7 : (sgn (sml i)) = false := bI_0 c7
        refine x_iconst F (v := nI (0)) dR_take_43 (by decide) ?_
        exact x_zret F hr (by rfl) dR_take_44 (x_is_i _ _ _)
      · skip
        have c7 : (sgn (sml i)) = true := bI_1 c7
        refine x_aload_n F 1 dR_take_31 rfl rfl ?_
        refine x_get (ci := 3) F 3 (x_in inR) rfl (by decide) (x_m kfR_23) dR_take_32 h0 rfl ?_
        refine x_aload_n F 1 dR_take_35 rfl rfl ?_
        refine x_get (ci := 3) F 0 (x_in inR) rfl (by decide) (x_m kfR_9) dR_take_36 h0 rfl ?_
        refine x_alen F (v := nI (400)) dR_take_39 h1 rfl ?_
        refine x_icmp_lt F (tgt := 45) dR_take_40 (by decide) (fun c8 => ?_) (fun c8 => ?_)
        · skip
          have c8 : n < 400 := by
            exact (nI_ltI (a := n) (b := 400) (by omega) (by omega)).mp c8
          exact absurd (hg c7) (by omega)
        · skip
          have c8 : 400 ≤ n := by
            have z : ¬ (n < 400) := fun zz => c8 ((nI_ltI (a := n) (b := 400) (by omega) (by omega)).mpr zz)
            omega
          refine x_iconst F (v := nI (0)) dR_take_43 (by decide) ?_
          exact x_zret F hr (by rfl) dR_take_44 (x_is_i _ _ _)
