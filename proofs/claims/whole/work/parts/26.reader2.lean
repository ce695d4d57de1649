def rPost (v : Option Value) (nx : Nat) (M : xH) (a : Nat) (sg : Nat → Int32) (wd : Nat → Int64) (c n q : Nat) (fk fp : Int32) : xO → Nat → xH → Prop := fun r n' M' => r = v ∧ n' = nx ∧ rAt M' a sg wd c n q fk fp ∧ ∀ b, (b < a ∨ a + 2 < b) → M' b = M b
theorem rAt_fr {M M' : xH} {a : Nat} {sg : Nat → Int32} {wd : Nat → Int64} {c n q : Nat} {fk fp : Int32} (h : rAt M a sg wd c n q fk fp) (hf : ∀ b, a ≤ b → b ≤ a + 2 → M' b = M b) : rAt M' a sg wd c n q fk fp := by
  obtain ⟨h0, h1, h2, h3⟩ := h
  exact ⟨(hf _ (by omega) (by omega)).trans h0, (hf _ (by omega) (by omega)).trans h1, (hf _ (by omega) (by omega)).trans h2, h3⟩
theorem tAt_fr {M M' : xH} {a : Nat} {cd : Nat → Int64} {ds ps ch wc : Nat → Int32} {wd : Nat → Int64} {n cp : Nat} (h : tAt M a cd ds ps ch wc wd n cp) (hf : ∀ b, a ≤ b → b ≤ a + 6 → M' b = M b) : tAt M' a cd ds ps ch wc wd n cp := by
  obtain ⟨h0, h1, h2, h3, h4, h5, h6, h7⟩ := h
  exact ⟨(hf _ (by omega) (by omega)).trans h0, (hf _ (by omega) (by omega)).trans h1, (hf _ (by omega) (by omega)).trans h2, (hf _ (by omega) (by omega)).trans h3, (hf _ (by omega) (by omega)).trans h4, (hf _ (by omega) (by omega)).trans h5, (hf _ (by omega) (by omega)).trans h6, h7⟩
theorem pAt_fr {M M' : xH} {a cap : Nat} {ed : Nat → Int32} {cd : Nat → Int64} {mk : Nat → Int32} {ot : Nat → Int64} {n : Nat} (h : pAt M a cap ed cd mk ot n) (hf : ∀ b, a ≤ b → b ≤ a + 4 → M' b = M b) : pAt M' a cap ed cd mk ot n := by
  obtain ⟨h0, h1, h2, h3, h4, h5⟩ := h
  exact ⟨(hf _ (by omega) (by omega)).trans h0, (hf _ (by omega) (by omega)).trans h1, (hf _ (by omega) (by omega)).trans h2, (hf _ (by omega) (by omega)).trans h3, (hf _ (by omega) (by omega)).trans h4, h5⟩
theorem fAt_fr {M M' : xH} {a : Nat} {cd : Nat → Int64} {pt : Nat → Int32} {n : Nat} (h : fAt M a cd pt n) (hf : ∀ b, a ≤ b → b ≤ a + 2 → M' b = M b) : fAt M' a cd pt n := by
  obtain ⟨h0, h1, h2, h3⟩ := h
  exact ⟨(hf _ (by omega) (by omega)).trans h0, (hf _ (by omega) (by omega)).trans h1, (hf _ (by omega) (by omega)).trans h2, h3⟩
/-- how many of k signs from q on are such ones, without a gap, up to the end -/
def hrun (K : Nat → Bool) (tx : Nat → Nat) (n : Nat) : Nat → Nat → Nat
  | 0, _ => 0
  | k + 1, q => if K (hx tx n q) then hrun K tx n k (q + 1) + 1 else 0
theorem hrun_s (K : Nat → Bool) (tx : Nat → Nat) (n k q : Nat) : hrun K tx n (k + 1) q = if K (hx tx n q) then hrun K tx n k (q + 1) + 1 else 0 := rfl
theorem hrun_k (K : Nat → Bool) (tx : Nat → Nat) (n k q : Nat) : hrun K tx n k q ≤ k := by
  induction k generalizing q with
  | zero => exact Nat.le_refl _
  | succ k ih =>
    rw [hrun_s]; split
    · have := ih (q + 1); omega
    · omega
theorem hx_in {K : Nat → Bool} (h0 : K 0 = false) {tx : Nat → Nat} {n q : Nat} (h : K (hx tx n q) = true) : q < n ∧ hx tx n q = tx q := by
  unfold hx at h ⊢
  split
  · exact ⟨by assumption, rfl⟩
  · rename_i hq
    rw [if_neg hq, h0] at h; cases h
theorem hrun_n {K : Nat → Bool} (h0 : K 0 = false) (tx : Nat → Nat) (n k q : Nat) (hq : q ≤ n) : q + hrun K tx n k q ≤ n := by
  induction k generalizing q with
  | zero => exact hq
  | succ k ih =>
    rw [hrun_s]; split
    · rename_i h
      have := (hx_in h0 h).1
      have := ih (q + 1) (by omega); omega
    · omega
/-- a code's number: its digits with a 1 ahead; a word's -/
def cN (tx : Nat → Nat) (q : Nat) : Nat → Nat
  | 0 => 1
  | d + 1 => cN tx q d * 10 + (tx (q + d) - 48)
def wN (tx : Nat → Nat) (q : Nat) : Nat → Nat
  | 0 => 0
  | d + 1 => wN tx q d * 32 + (tx (q + d) - 97 + 1)
/-- the digits that are read; the code that is read, 0 if it is none -/
def dN (tx : Nat → Nat) (n q : Nat) : Nat := hrun dig tx n 10 q
def rc (tx : Nat → Nat) (n q : Nat) : Nat := if 2 ≤ dN tx n q ∧ dN tx n q % 2 = 0 ∧ dig (hx tx n (q + dN tx n q)) = false then cN tx q (dN tx n q) else 0
def lNn (tx : Nat → Nat) (n q : Nat) : Nat := hrun let_ tx n 8 q
set_option maxHeartbeats 4000000 in
set_option maxRecDepth 100000 in
theorem cR_clear (l : Launch) (nx : Nat) (M : xH) (a : Nat) (sg : Nat → Int32) (wd : Nat → Int64) (cw n q : Nat) (fk fp : Int32) (hT : rAt M a sg wd cw n q fk fp) : xC l xcl yR_clear (xw (Cond.code yR_clear bR_clear 1 none)) ({ frames := 0, cells := 0, slots := 0, locals := 0 } : Room) [.ref (a)] nx M (rPost (none) nx M a sg wd cw 0 q fk fp) := by
  obtain ⟨h0, h1, h2, hcw, hn4, hq4⟩ := id hT
  refine yC (by decide) (Nat.le_of_ble_eq_true rfl) ?_
  intro p e s m args below meth c D F hr hn
  refine x_aload_n F 0 dR_clear_0 rfl rfl ?_
  refine x_iconst F (v := nI (0)) dR_clear_1 (by decide) ?_
  refine x_put (ci := 3) (ty := .int) F 3 (x_in inR) tR tR_ok nR rfl (by decide) (x_m kfR_23) dR_clear_2 rfl (by decide +kernel) rfl rfl h0 (Nat.le_of_ble_eq_true rfl) ?_
  show xW p l e ({ frames := 0, cells := 0, slots := 0, locals := 0 } : Room) s m args below meth c D xcl (x_A M nx) 1 (MQ below (x_Q D xcl (x_A M nx) (rPost (none) nx M a sg wd cw 0 q fk fp)) args s 0 0 (x_A M nx)) 0 0 (nx) (x_up M (a) (.inr (3, [.ref (a + 1), .ref (a + 2), .int (nI (cw)), .int (nI (0)), .int (nI (q)), .int (fk), .int (fp)]))) 5 [(0, .ref (a))] []
  exact x_vret F hr dR_clear_5 (⟨rfl, rfl, ⟨x_up_s, (x_up_k h1 (by omega)), (x_up_k h2 (by omega)), by omega, by omega, by omega⟩, fun b hb => (x_up_n (by omega)).trans (rfl)⟩)
set_option maxHeartbeats 4000000 in
set_option maxRecDepth 100000 in
theorem cR_start (l : Launch) (nx : Nat) (M : xH) (a : Nat) (sg : Nat → Int32) (wd : Nat → Int64) (cw n q : Nat) (fk fp : Int32) (hT : rAt M a sg wd cw n q fk fp) : xC l xcl yR_start (xw (Cond.code yR_start bR_start 1 none)) ({ frames := 0, cells := 0, slots := 0, locals := 0 } : Room) [.ref (a)] nx M (rPost (none) nx M a sg wd cw n 0 (nI 0) ((-1))) := by
  obtain ⟨h0, h1, h2, hcw, hn4, hq4⟩ := id hT
  refine yC (by decide) (Nat.le_of_ble_eq_true rfl) ?_
  intro p e s m args below meth c D F hr hn
  refine x_aload_n F 0 dR_start_0 rfl rfl ?_
  refine x_iconst F (v := nI (0)) dR_start_1 (by decide) ?_
  refine x_put (ci := 3) (ty := .int) F 4 (x_in inR) tR tR_ok nR rfl (by decide) (x_m kfR_26) dR_start_2 rfl (by decide +kernel) rfl rfl h0 (Nat.le_of_ble_eq_true rfl) ?_
  show xW p l e ({ frames := 0, cells := 0, slots := 0, locals := 0 } : Room) s m args below meth c D xcl (x_A M nx) 1 (MQ below (x_Q D xcl (x_A M nx) (rPost (none) nx M a sg wd cw n 0 (nI 0) ((-1)))) args s 0 0 (x_A M nx)) 0 0 (nx) (x_up M (a) (.inr (3, [.ref (a + 1), .ref (a + 2), .int (nI (cw)), .int (nI (n)), .int (nI (0)), .int (fk), .int (fp)]))) 5 [(0, .ref (a))] []
  refine x_aload_n F 0 dR_start_5 rfl rfl ?_
  refine x_iconst F (v := nI (0)) dR_start_6 (by decide) ?_
  refine x_put (ci := 3) (ty := .int) F 5 (x_in inR) tR tR_ok nR rfl (by decide) (x_m kfR_29) dR_start_7 rfl (by decide +kernel) rfl rfl x_up_s (Nat.le_of_ble_eq_true rfl) ?_
  show xW p l e ({ frames := 0, cells := 0, slots := 0, locals := 0 } : Room) s m args below meth c D xcl (x_A M nx) 1 (MQ below (x_Q D xcl (x_A M nx) (rPost (none) nx M a sg wd cw n 0 (nI 0) ((-1)))) args s 0 0 (x_A M nx)) 0 0 (nx) (x_up (x_up M (a) (.inr (3, [.ref (a + 1), .ref (a + 2), .int (nI (cw)), .int (nI (n)), .int (nI (0)), .int (fk), .int (fp)]))) (a) (.inr (3, [.ref (a + 1), .ref (a + 2), .int (nI (cw)), .int (nI (n)), .int (nI (0)), .int (nI (0)), .int (fp)]))) 10 [(0, .ref (a))] []
  refine x_aload_n F 0 dR_start_10 rfl rfl ?_
  refine x_iconst F (v := (-1)) dR_start_11 (by decide) ?_
  refine x_put (ci := 3) (ty := .int) F 6 (x_in inR) tR tR_ok nR rfl (by decide) (x_m kfR_32) dR_start_12 rfl (by decide +kernel) rfl rfl x_up_s (Nat.le_of_ble_eq_true rfl) ?_
  show xW p l e ({ frames := 0, cells := 0, slots := 0, locals := 0 } : Room) s m args below meth c D xcl (x_A M nx) 1 (MQ below (x_Q D xcl (x_A M nx) (rPost (none) nx M a sg wd cw n 0 (nI 0) ((-1)))) args s 0 0 (x_A M nx)) 0 0 (nx) (x_up (x_up (x_up M (a) (.inr (3, [.ref (a + 1), .ref (a + 2), .int (nI (cw)), .int (nI (n)), .int (nI (0)), .int (fk), .int (fp)]))) (a) (.inr (3, [.ref (a + 1), .ref (a + 2), .int (nI (cw)), .int (nI (n)), .int (nI (0)), .int (nI (0)), .int (fp)]))) (a) (.inr (3, [.ref (a + 1), .ref (a + 2), .int (nI (cw)), .int (nI (n)), .int (nI (0)), .int (nI (0)), .int ((-1))]))) 15 [(0, .ref (a))] []
  exact x_vret F hr dR_start_15 (⟨rfl, rfl, ⟨x_up_s, (x_up_k (x_up_k (x_up_k h1 (by omega)) (by omega)) (by omega)), (x_up_k (x_up_k (x_up_k h2 (by omega)) (by omega)) (by omega)), by omega, by omega, by omega⟩, fun b hb => (x_up_n (by omega)).trans ((x_up_n (by omega)).trans ((x_up_n (by omega)).trans (rfl)))⟩)
set_option maxHeartbeats 4000000 in
set_option maxRecDepth 100000 in
theorem cR_fail (l : Launch) (nx : Nat) (M : xH) (a : Nat) (sg : Nat → Int32) (wd : Nat → Int64) (cw n q : Nat) (fk fp : Int32) (hT : rAt M a sg wd cw n q fk fp) (kd at_ : Int32) : xC l xcl yR_fail (xw (Cond.code yR_fail bR_fail 3 (some .boolean))) ({ frames := 0, cells := 0, slots := 0, locals := 0 } : Room) [.ref (a), .int (kd), .int (at_)] nx M (rPost (some (.int (nI 0))) nx M a sg wd cw n q kd at_) := by
  obtain ⟨h0, h1, h2, hcw, hn4, hq4⟩ := id hT
  refine yC (by decide) (Nat.le_of_ble_eq_true rfl) ?_
  intro p e s m args below meth c D F hr hn
  refine x_aload_n F 0 dR_fail_0 rfl rfl ?_
  refine x_iload_n F 1 dR_fail_1 rfl rfl ?_
  refine x_put (ci := 3) (ty := .int) F 5 (x_in inR) tR tR_ok nR rfl (by decide) (x_m kfR_29) dR_fail_2 rfl (by decide +kernel) rfl rfl h0 (Nat.le_of_ble_eq_true rfl) ?_
  show xW p l e ({ frames := 0, cells := 0, slots := 0, locals := 0 } : Room) s m args below meth c D xcl (x_A M nx) 3 (MQ below (x_Q D xcl (x_A M nx) (rPost (some (.int (nI 0))) nx M a sg wd cw n q kd at_)) args s 0 0 (x_A M nx)) 0 0 (nx) (x_up M (a) (.inr (3, [.ref (a + 1), .ref (a + 2), .int (nI (cw)), .int (nI (n)), .int (nI (q)), .int (kd), .int (fp)]))) 5 [(0, .ref (a)), (1, .int (kd)), (2, .int (at_))] []
  refine x_aload_n F 0 dR_fail_5 rfl rfl ?_
  refine x_iload_n F 2 dR_fail_6 rfl rfl ?_
  refine x_put (ci := 3) (ty := .int) F 6 (x_in inR) tR tR_ok nR rfl (by decide) (x_m kfR_32) dR_fail_7 rfl (by decide +kernel) rfl rfl x_up_s (Nat.le_of_ble_eq_true rfl) ?_
  show xW p l e ({ frames := 0, cells := 0, slots := 0, locals := 0 } : Room) s m args below meth c D xcl (x_A M nx) 3 (MQ below (x_Q D xcl (x_A M nx) (rPost (some (.int (nI 0))) nx M a sg wd cw n q kd at_)) args s 0 0 (x_A M nx)) 0 0 (nx) (x_up (x_up M (a) (.inr (3, [.ref (a + 1), .ref (a + 2), .int (nI (cw)), .int (nI (n)), .int (nI (q)), .int (kd), .int (fp)]))) (a) (.inr (3, [.ref (a + 1), .ref (a + 2), .int (nI (cw)), .int (nI (n)), .int (nI (q)), .int (kd), .int (at_)]))) 10 [(0, .ref (a)), (1, .int (kd)), (2, .int (at_))] []
  refine x_iconst F (v := nI (0)) dR_fail_10 (by decide) ?_
  exact x_zret F hr (by rfl) dR_fail_11 (⟨rfl, rfl, ⟨x_up_s, (x_up_k (x_up_k h1 (by omega)) (by omega)), (x_up_k (x_up_k h2 (by omega)) (by omega)), by omega, by omega, by omega⟩, fun b hb => (x_up_n (by omega)).trans ((x_up_n (by omega)).trans (rfl))⟩)
set_option maxHeartbeats 4000000 in
set_option maxRecDepth 100000 in
theorem cR_readCode (l : Launch) (nx : Nat) (M : xH) (a : Nat) (sg : Nat → Int32) (wd : Nat → Int64) (cw n q : Nat) (fk fp : Int32) (hT : rAt M a sg wd cw n q fk fp) (tx : Nat → Nat) (hX : sAt sg tx n) (hqn : q ≤ n) : xC l xcl yR_readCode (xw (Cond.code yR_readCode bR_readCode 5 (some .long))) ({ frames := 1, cells := 0, slots := 0, locals := 20 } : Room) [.ref (a)] nx M (rPost (some (.long (lN (rc tx n q)))) nx M a sg wd cw n (q + dN tx n q) fk fp) := by
  obtain ⟨h0, h1, h2, hcw, hn4, hq4⟩ := id hT
  refine yC (by decide) (Nat.le_of_ble_eq_true rfl) ?_
  intro p e s m args below meth c D F hr hn
  have loop : ∀ (k : Nat) (d : Nat) (M1 : xH), d + k = 10 → q + d ≤ n → rAt M1 a sg wd cw n (q + d) fk fp → (∀ b, (b < a ∨ a + 2 < b) → M1 b = M b) → hrun dig tx n 10 q = d + hrun dig tx n k (q + d) → xW p l e ({ frames := 1, cells := 0, slots := 0, locals := 20 } : Room) s m args below meth c D xcl (x_A M nx) 5 (MQ below (x_Q D xcl (x_A M nx) (rPost (some (.long (lN (rc tx n q)))) nx M a sg wd cw n (q + dN tx n q) fk fp)) args s 0 0 (x_A M nx)) 0 0 (nx) M1 4 [(3, .int (nI (d))), (1, .long (lN (cN tx q d))), (0, .ref (a))] [] := by
    intro k
    induction k with
    | zero =>
      intro d M1 hi hqd hR1 hfr hf
      obtain ⟨g0, g1, g2, g3, g4, g5⟩ := id hR1
      refine x_iload_n F 0 dR_readCode_4 rfl rfl ?_
      refine x_bipush F (v := nI (10)) dR_readCode_5 (by decide) ?_
      refine x_icmp_ge F (tgt := 51) dR_readCode_7 (by decide) (fun c1 => ?_) (fun c1 => ?_)
      · skip
        have c1 : 10 ≤ d := by
          exact (nI_leI (a := 10) (b := d) (by omega) (by omega)).mp c1
        have hD : dN tx n q = d := by rw [dN, hf]; rfl
        refine x_iload_n F 0 dR_readCode_51 rfl rfl ?_
        refine x_iconst F (v := nI (2)) dR_readCode_52 (by decide) ?_
        refine x_icmp_lt F (tgt := 76) dR_readCode_53 (by decide) (fun c2 => ?_) (fun c2 => ?_)
        · skip
          have c2 : d < 2 := by
            exact (nI_ltI (a := d) (b := 2) (by omega) (by omega)).mp c2
          refine x_iconst F (v := nI (0)) dR_readCode_76 (by decide) ?_
          refine x_istore F [(4, .int (nI (0))), (3, .int (nI (d))), (1, .long (lN (cN tx q d))), (0, .ref (a))] dR_readCode_77 (by decide) rfl ?_
          refine x_iload F 0 dR_readCode_79 rfl ?_
          refine x_if_eq F (tgt := 88) dR_readCode_81 (by decide) (fun c3 => ?_) (fun c3 => ?_)
          · skip
            have c3 : 0 = 0 := by
              exact (nI_eq (a := 0) (b := 0) (by omega) (by omega)).mp c3
            refine x_lconst F (v := 0) dR_readCode_88 (by decide) ?_
            exact x_lret F hr dR_readCode_89 (⟨by rw [show rc tx n q = 0 from by rw [rc, hD, if_neg (fun z => absurd z.1 (by omega))]]; try rfl, rfl, (by rw [hD]; exact ⟨g0, g1, g2, by omega, by omega, by omega⟩), fun b hb => (hfr _ hb).trans (rfl)⟩)
          · skip
            have c3 : 0 ≠ 0 := by
              have z : ¬ (0 = 0) := fun zz => c3 ((nI_eq (a := 0) (b := 0) (by omega) (by omega)).mpr zz)
              omega
            exact absurd c3 (by decide)
        · skip
          have c2 : 2 ≤ d := by
            have z : ¬ (d < 2) := fun zz => c2 ((nI_ltI (a := d) (b := 2) (by omega) (by omega)).mpr zz)
            omega
          refine x_iload_n F 0 dR_readCode_56 rfl rfl ?_
          refine x_iconst F (v := nI (2)) dR_readCode_57 (by decide) ?_
          refine x_irem F dR_readCode_58 (by decide) ?_
          refine xW.toi (nI ((d) % 2)) (pk_rem (by omega) (by omega) (by omega)) ?_
          refine x_if_ne F (tgt := 76) dR_readCode_59 (by decide) (fun c4 => ?_) (fun c4 => ?_)
          · skip
            have c4 : (d) % 2 ≠ 0 := by
              have z : ¬ ((d) % 2 = 0) := fun zz => c4 ((nI_eq (a := (d) % 2) (b := 0) (by omega) (by omega)).mpr zz)
              omega
            refine x_iconst F (v := nI (0)) dR_readCode_76 (by decide) ?_
            refine x_istore F [(4, .int (nI (0))), (3, .int (nI (d))), (1, .long (lN (cN tx q d))), (0, .ref (a))] dR_readCode_77 (by decide) rfl ?_
            refine x_iload F 0 dR_readCode_79 rfl ?_
            refine x_if_eq F (tgt := 88) dR_readCode_81 (by decide) (fun c5 => ?_) (fun c5 => ?_)
            · skip
              have c5 : 0 = 0 := by
                exact (nI_eq (a := 0) (b := 0) (by omega) (by omega)).mp c5
              refine x_lconst F (v := 0) dR_readCode_88 (by decide) ?_
              exact x_lret F hr dR_readCode_89 (⟨by rw [show rc tx n q = 0 from by rw [rc, hD, if_neg (fun z => absurd z.2.1 (by omega))]]; try rfl, rfl, (by rw [hD]; exact ⟨g0, g1, g2, by omega, by omega, by omega⟩), fun b hb => (hfr _ hb).trans (rfl)⟩)
            · skip
              have c5 : 0 ≠ 0 := by
                have z : ¬ (0 = 0) := fun zz => c5 ((nI_eq (a := 0) (b := 0) (by omega) (by omega)).mpr zz)
                omega
              exact absurd c5 (by decide)
          · skip
            have c4 : (d) % 2 = 0 := by
              exact (nI_eq (a := (d) % 2) (b := 0) (by omega) (by omega)).mp c4
            refine x_aload_n F 2 dR_readCode_62 rfl rfl ?_
            refine yV (n := 0) (As := []) (ci := 3) F kmR_53 kiR_here ksR_here knR kcR_here (by decide +kernel) dR_readCode_63 (cR_here l (nx) M1 (a) sg wd cw n (q + d) fk fp hR1 tx hX) rfl g0 rfl rfl (Nat.le_of_ble_eq_true rfl) ⟨Nat.le_of_ble_eq_true rfl, Nat.le_of_ble_eq_true rfl⟩ ⟨Nat.le_of_ble_eq_true rfl, Nat.le_of_ble_eq_true rfl⟩ ?_
            have hh63 := hx_lt (q := (q + d)) hX
            refine yS (n := 1) (As := [.int (nI (hx tx (n) ((q + d))))]) F kmR_57 ktR_isDigit knR kcR_isDigit (by decide +kernel) dR_readCode_66 (cR_isDigit l (nx) M1 (hx tx (n) ((q + d))) (by omega)) rfl rfl (Nat.le_of_ble_eq_true rfl) ⟨Nat.le_of_ble_eq_true rfl, Nat.le_of_ble_eq_true rfl⟩ ⟨Nat.le_of_ble_eq_true rfl, Nat.le_of_ble_eq_true rfl⟩ ?_
            refine x_if_ne F (tgt := 76) dR_readCode_69 (by decide) (fun c6 => ?_) (fun c6 => ?_)
            · skip
              have c6 : (dig (hx tx (n) ((q + d)))) = true := bI_1 c6
              refine x_iconst F (v := nI (0)) dR_readCode_76 (by decide) ?_
              refine x_istore F [(4, .int (nI (0))), (3, .int (nI (d))), (1, .long (lN (cN tx q d))), (0, .ref (a))] dR_readCode_77 (by decide) rfl ?_
              refine x_iload F 0 dR_readCode_79 rfl ?_
              refine x_if_eq F (tgt := 88) dR_readCode_81 (by decide) (fun c7 => ?_) (fun c7 => ?_)
              · skip
                have c7 : 0 = 0 := by
                  exact (nI_eq (a := 0) (b := 0) (by omega) (by omega)).mp c7
                refine x_lconst F (v := 0) dR_readCode_88 (by decide) ?_
                exact x_lret F hr dR_readCode_89 (⟨by rw [show rc tx n q = 0 from by rw [rc, hD, if_neg (fun z => by have z := z.2.2; rw [c6] at z; cases z)]]; try rfl, rfl, (by rw [hD]; exact ⟨g0, g1, g2, by omega, by omega, by omega⟩), fun b hb => (hfr _ hb).trans (rfl)⟩)
              · skip
                have c7 : 0 ≠ 0 := by
                  have z : ¬ (0 = 0) := fun zz => c7 ((nI_eq (a := 0) (b := 0) (by omega) (by omega)).mpr zz)
                  omega
                exact absurd c7 (by decide)
            · skip
              have c6 : (dig (hx tx (n) ((q + d)))) = false := bI_0 c6
              refine x_iconst F (v := nI (1)) dR_readCode_72 (by decide) ?_
              refine x_goto F (tgt := 77) dR_readCode_73 (by decide) ?_
              refine x_istore F [(4, .int (nI (1))), (3, .int (nI (d))), (1, .long (lN (cN tx q d))), (0, .ref (a))] dR_readCode_77 (by decide) rfl ?_
              refine x_iload F 0 dR_readCode_79 rfl ?_
              refine x_if_eq F (tgt := 88) dR_readCode_81 (by decide) (fun c8 => ?_) (fun c8 => ?_)
              · skip
                have c8 : 1 = 0 := by
                  exact (nI_eq (a := 1) (b := 0) (by omega) (by omega)).mp c8
                exact absurd c8 (by decide)
              · skip
                have c8 : 1 ≠ 0 := by
                  have z : ¬ (1 = 0) := fun zz => c8 ((nI_eq (a := 1) (b := 0) (by omega) (by omega)).mpr zz)
                  omega
                refine x_lload_n F 2 dR_readCode_84 rfl rfl ?_
                refine x_goto F (tgt := 89) dR_readCode_85 (by decide) ?_
                exact x_lret F hr dR_readCode_89 (⟨by rw [show rc tx n q = cN tx q d from by rw [rc, hD, if_pos ⟨by omega, by omega, c6⟩]]; try rfl, rfl, (by rw [hD]; exact ⟨g0, g1, g2, by omega, by omega, by omega⟩), fun b hb => (hfr _ hb).trans (rfl)⟩)
      · skip
        have c1 : d < 10 := by
          have z : ¬ (10 ≤ d) := fun zz => c1 ((nI_leI (a := 10) (b := d) (by omega) (by omega)).mpr zz)
          omega
        exact absurd c1 (by omega)
    | succ k ih =>
      intro d M1 hi hqd hR1 hfr hf
      obtain ⟨g0, g1, g2, g3, g4, g5⟩ := id hR1
      refine x_iload_n F 0 dR_readCode_4 rfl rfl ?_
      refine x_bipush F (v := nI (10)) dR_readCode_5 (by decide) ?_
      refine x_icmp_ge F (tgt := 51) dR_readCode_7 (by decide) (fun c9 => ?_) (fun c9 => ?_)
      · skip
        have c9 : 10 ≤ d := by
          exact (nI_leI (a := 10) (b := d) (by omega) (by omega)).mp c9
        exact absurd c9 (by omega)
      · skip
        have c9 : d < 10 := by
          have z : ¬ (10 ≤ d) := fun zz => c9 ((nI_leI (a := 10) (b := d) (by omega) (by omega)).mpr zz)
          omega
        refine x_aload_n F 2 dR_readCode_10 rfl rfl ?_
        refine yV (n := 0) (As := []) (ci := 3) F kmR_53 kiR_here ksR_here knR kcR_here (by decide +kernel) dR_readCode_11 (cR_here l (nx) M1 (a) sg wd cw n (q + d) fk fp hR1 tx hX) rfl g0 rfl rfl (Nat.le_of_ble_eq_true rfl) ⟨Nat.le_of_ble_eq_true rfl, Nat.le_of_ble_eq_true rfl⟩ ⟨Nat.le_of_ble_eq_true rfl, Nat.le_of_ble_eq_true rfl⟩ ?_
        have hh11 := hx_lt (q := (q + d)) hX
        refine yS (n := 1) (As := [.int (nI (hx tx (n) ((q + d))))]) F kmR_57 ktR_isDigit knR kcR_isDigit (by decide +kernel) dR_readCode_14 (cR_isDigit l (nx) M1 (hx tx (n) ((q + d))) (by omega)) rfl rfl (Nat.le_of_ble_eq_true rfl) ⟨Nat.le_of_ble_eq_true rfl, Nat.le_of_ble_eq_true rfl⟩ ⟨Nat.le_of_ble_eq_true rfl, Nat.le_of_ble_eq_true rfl⟩ ?_
        refine x_if_eq F (tgt := 51) dR_readCode_17 (by decide) (fun c10 => ?_) (fun c10 => ?_)
        · skip
          have c10 : (dig (hx tx (n) ((q + d)))) = false := bI_0 c10
          have hD : dN tx n q = d := by rw [dN, hf, hrun_s, if_neg (by simp [c10])]; rfl
          refine x_iload_n F 0 dR_readCode_51 rfl rfl ?_
          refine x_iconst F (v := nI (2)) dR_readCode_52 (by decide) ?_
          refine x_icmp_lt F (tgt := 76) dR_readCode_53 (by decide) (fun c11 => ?_) (fun c11 => ?_)
          · skip
            have c11 : d < 2 := by
              exact (nI_ltI (a := d) (b := 2) (by omega) (by omega)).mp c11
            refine x_iconst F (v := nI (0)) dR_readCode_76 (by decide) ?_
            refine x_istore F [(4, .int (nI (0))), (3, .int (nI (d))), (1, .long (lN (cN tx q d))), (0, .ref (a))] dR_readCode_77 (by decide) rfl ?_
            refine x_iload F 0 dR_readCode_79 rfl ?_
            refine x_if_eq F (tgt := 88) dR_readCode_81 (by decide) (fun c12 => ?_) (fun c12 => ?_)
            · skip
              have c12 : 0 = 0 := by
                exact (nI_eq (a := 0) (b := 0) (by omega) (by omega)).mp c12
              refine x_lconst F (v := 0) dR_readCode_88 (by decide) ?_
              exact x_lret F hr dR_readCode_89 (⟨by rw [show rc tx n q = 0 from by rw [rc, hD, if_neg (fun z => absurd z.1 (by omega))]]; try rfl, rfl, (by rw [hD]; exact ⟨g0, g1, g2, by omega, by omega, by omega⟩), fun b hb => (hfr _ hb).trans (rfl)⟩)
            · skip
              have c12 : 0 ≠ 0 := by
                have z : ¬ (0 = 0) := fun zz => c12 ((nI_eq (a := 0) (b := 0) (by omega) (by omega)).mpr zz)
                omega
              exact absurd c12 (by decide)
          · skip
            have c11 : 2 ≤ d := by
              have z : ¬ (d < 2) := fun zz => c11 ((nI_ltI (a := d) (b := 2) (by omega) (by omega)).mpr zz)
              omega
            refine x_iload_n F 0 dR_readCode_56 rfl rfl ?_
            refine x_iconst F (v := nI (2)) dR_readCode_57 (by decide) ?_
            refine x_irem F dR_readCode_58 (by decide) ?_
            refine xW.toi (nI ((d) % 2)) (pk_rem (by omega) (by omega) (by omega)) ?_
            refine x_if_ne F (tgt := 76) dR_readCode_59 (by decide) (fun c13 => ?_) (fun c13 => ?_)
            · skip
              have c13 : (d) % 2 ≠ 0 := by
                have z : ¬ ((d) % 2 = 0) := fun zz => c13 ((nI_eq (a := (d) % 2) (b := 0) (by omega) (by omega)).mpr zz)
                omega
              refine x_iconst F (v := nI (0)) dR_readCode_76 (by decide) ?_
              refine x_istore F [(4, .int (nI (0))), (3, .int (nI (d))), (1, .long (lN (cN tx q d))), (0, .ref (a))] dR_readCode_77 (by decide) rfl ?_
              refine x_iload F 0 dR_readCode_79 rfl ?_
              refine x_if_eq F (tgt := 88) dR_readCode_81 (by decide) (fun c14 => ?_) (fun c14 => ?_)
              · skip
                have c14 : 0 = 0 := by
                  exact (nI_eq (a := 0) (b := 0) (by omega) (by omega)).mp c14
                refine x_lconst F (v := 0) dR_readCode_88 (by decide) ?_
                exact x_lret F hr dR_readCode_89 (⟨by rw [show rc tx n q = 0 from by rw [rc, hD, if_neg (fun z => absurd z.2.1 (by omega))]]; try rfl, rfl, (by rw [hD]; exact ⟨g0, g1, g2, by omega, by omega, by omega⟩), fun b hb => (hfr _ hb).trans (rfl)⟩)
              · skip
                have c14 : 0 ≠ 0 := by
                  have z : ¬ (0 = 0) := fun zz => c14 ((nI_eq (a := 0) (b := 0) (by omega) (by omega)).mpr zz)
                  omega
                exact absurd c14 (by decide)
            · skip
              have c13 : (d) % 2 = 0 := by
                exact (nI_eq (a := (d) % 2) (b := 0) (by omega) (by omega)).mp c13
              refine x_aload_n F 2 dR_readCode_62 rfl rfl ?_
              refine yV (n := 0) (As := []) (ci := 3) F kmR_53 kiR_here ksR_here knR kcR_here (by decide +kernel) dR_readCode_63 (cR_here l (nx) M1 (a) sg wd cw n (q + d) fk fp hR1 tx hX) rfl g0 rfl rfl (Nat.le_of_ble_eq_true rfl) ⟨Nat.le_of_ble_eq_true rfl, Nat.le_of_ble_eq_true rfl⟩ ⟨Nat.le_of_ble_eq_true rfl, Nat.le_of_ble_eq_true rfl⟩ ?_
              have hh63 := hx_lt (q := (q + d)) hX
              refine yS (n := 1) (As := [.int (nI (hx tx (n) ((q + d))))]) F kmR_57 ktR_isDigit knR kcR_isDigit (by decide +kernel) dR_readCode_66 (cR_isDigit l (nx) M1 (hx tx (n) ((q + d))) (by omega)) rfl rfl (Nat.le_of_ble_eq_true rfl) ⟨Nat.le_of_ble_eq_true rfl, Nat.le_of_ble_eq_true rfl⟩ ⟨Nat.le_of_ble_eq_true rfl, Nat.le_of_ble_eq_true rfl⟩ ?_
              refine x_if_ne F (tgt := 76) dR_readCode_69 (by decide) (fun c15 => ?_) (fun c15 => ?_)
              · skip
                have c15 : (dig (hx tx (n) ((q + d)))) = true := bI_1 c15
                refine x_iconst F (v := nI (0)) dR_readCode_76 (by decide) ?_
                refine x_istore F [(4, .int (nI (0))), (3, .int (nI (d))), (1, .long (lN (cN tx q d))), (0, .ref (a))] dR_readCode_77 (by decide) rfl ?_
                refine x_iload F 0 dR_readCode_79 rfl ?_
                refine x_if_eq F (tgt := 88) dR_readCode_81 (by decide) (fun c16 => ?_) (fun c16 => ?_)
                · skip
                  have c16 : 0 = 0 := by
                    exact (nI_eq (a := 0) (b := 0) (by omega) (by omega)).mp c16
                  refine x_lconst F (v := 0) dR_readCode_88 (by decide) ?_
                  exact x_lret F hr dR_readCode_89 (⟨by rw [show rc tx n q = 0 from by rw [rc, hD, if_neg (fun z => by have z := z.2.2; rw [c15] at z; cases z)]]; try rfl, rfl, (by rw [hD]; exact ⟨g0, g1, g2, by omega, by omega, by omega⟩), fun b hb => (hfr _ hb).trans (rfl)⟩)
                · skip
                  have c16 : 0 ≠ 0 := by
                    have z : ¬ (0 = 0) := fun zz => c16 ((nI_eq (a := 0) (b := 0) (by omega) (by omega)).mpr zz)
                    omega
                  exact absurd c16 (by decide)
              · skip
                have c15 : (dig (hx tx (n) ((q + d)))) = false := bI_0 c15
                refine x_iconst F (v := nI (1)) dR_readCode_72 (by decide) ?_
                refine x_goto F (tgt := 77) dR_readCode_73 (by decide) ?_
                refine x_istore F [(4, .int (nI (1))), (3, .int (nI (d))), (1, .long (lN (cN tx q d))), (0, .ref (a))] dR_readCode_77 (by decide) rfl ?_
                refine x_iload F 0 dR_readCode_79 rfl ?_
                refine x_if_eq F (tgt := 88) dR_readCode_81 (by decide) (fun c17 => ?_) (fun c17 => ?_)
                · skip
                  have c17 : 1 = 0 := by
                    exact (nI_eq (a := 1) (b := 0) (by omega) (by omega)).mp c17
                  exact absurd c17 (by decide)
                · skip
                  have c17 : 1 ≠ 0 := by
                    have z : ¬ (1 = 0) := fun zz => c17 ((nI_eq (a := 1) (b := 0) (by omega) (by omega)).mpr zz)
                    omega
                  refine x_lload_n F 2 dR_readCode_84 rfl rfl ?_
                  refine x_goto F (tgt := 89) dR_readCode_85 (by decide) ?_
                  exact x_lret F hr dR_readCode_89 (⟨by rw [show rc tx n q = cN tx q d from by rw [rc, hD, if_pos ⟨by omega, by omega, c15⟩]]; try rfl, rfl, (by rw [hD]; exact ⟨g0, g1, g2, by omega, by omega, by omega⟩), fun b hb => (hfr _ hb).trans (rfl)⟩)
        · skip
          have c10 : (dig (hx tx (n) ((q + d)))) = true := bI_1 c10
          refine x_lload_n F 1 dR_readCode_20 rfl rfl ?_
          refine x_ldc2 F (x_m kjR_97) dR_readCode_21 ?_
          refine x_lmul F dR_readCode_24 ?_
          refine xW.tol (lN (cN tx q d * 10)) (lN_mul _ 10) ?_
          refine x_aload_n F 2 dR_readCode_25 rfl rfl ?_
          refine yV (n := 0) (As := []) (ci := 3) F kmR_53 kiR_here ksR_here knR kcR_here (by decide +kernel) dR_readCode_26 (cR_here l (nx) M1 (a) sg wd cw n (q + d) fk fp hR1 tx hX) rfl g0 rfl rfl (Nat.le_of_ble_eq_true rfl) ⟨Nat.le_of_ble_eq_true rfl, Nat.le_of_ble_eq_true rfl⟩ ⟨Nat.le_of_ble_eq_true rfl, Nat.le_of_ble_eq_true rfl⟩ ?_
          have hh26 := hx_lt (q := (q + d)) hX
          refine x_bipush F (v := nI (48)) dR_readCode_29 (by decide) ?_
          refine x_isub F dR_readCode_31 ?_
          refine xW.toi (nI (hx tx (n) ((q + d)) - 48)) (pk_sub (by simp [dig] at c10; omega)) ?_
          refine x_i2l F dR_readCode_32 ?_
          refine xW.tol (lN (hx tx (n) ((q + d)) - 48)) (nI_l (by omega)) ?_
          refine x_ladd F dR_readCode_33 ?_
          refine xW.tol (lN (cN tx q (d + 1))) (by rw [lN_add]; show _ = lN (cN tx q d * 10 + (tx (q + d) - 48)); rw [← (hx_in (K := dig) rfl c10).2]) ?_
          refine x_lstore_n F [(1, .long (lN (cN tx q (d + 1)))), (3, .int (nI (d))), (0, .ref (a))] dR_readCode_34 rfl (by decide) rfl ?_
          refine x_iinc F 1 [(3, .int (nI (d + 1))), (1, .long (lN (cN tx q (d + 1)))), (0, .ref (a))] dR_readCode_35 rfl (nI_add (d) 1) (by decide) rfl ?_
          refine x_aload_n F 2 dR_readCode_38 rfl rfl ?_
          refine x_dup F dR_readCode_39 rfl ?_
          refine x_get (ci := 3) F 4 (x_in inR) rfl (by decide) (x_m kfR_26) dR_readCode_40 g0 rfl ?_
          refine x_iconst F (v := nI (1)) dR_readCode_43 (by decide) ?_
          refine x_iadd F dR_readCode_44 ?_
          refine xW.toi (nI (q + d + 1)) (nI_add _ _) ?_
          refine x_put (ci := 3) (ty := .int) F 4 (x_in inR) tR tR_ok nR rfl (by decide) (x_m kfR_26) dR_readCode_45 rfl (by decide +kernel) rfl rfl g0 (Nat.le_of_ble_eq_true rfl) ?_
          show xW p l e ({ frames := 1, cells := 0, slots := 0, locals := 20 } : Room) s m args below meth c D xcl (x_A M nx) 5 (MQ below (x_Q D xcl (x_A M nx) (rPost (some (.long (lN (rc tx n q)))) nx M a sg wd cw n (q + dN tx n q) fk fp)) args s 0 0 (x_A M nx)) 0 0 (nx) (x_up M1 (a) (.inr (3, [.ref (a + 1), .ref (a + 2), .int (nI (cw)), .int (nI (n)), .int (nI (q + d + 1)), .int (fk), .int (fp)]))) 48 [(3, .int (nI (d + 1))), (1, .long (lN (cN tx q (d + 1)))), (0, .ref (a))] []
          refine x_goto F (tgt := 4) dR_readCode_48 (by decide) ?_
          exact ih (d + 1) _ (by omega) (by have := (hx_in (K := dig) rfl c10).1; omega) ⟨x_up_s, (x_up_k g1 (by omega)), (x_up_k g2 (by omega)), by omega, by omega, by have := (hx_in (K := dig) rfl c10).1; omega⟩ (fun b hb => (x_up_n (by omega)).trans ((hfr _ hb).trans (rfl))) (by rw [hf, hrun_s, if_pos c10]; show _ = d + 1 + hrun dig tx n k (q + d + 1); omega)
  refine x_lconst F (v := 1) dR_readCode_0 (by decide) ?_
  refine x_lstore_n F [(1, .long (1)), (0, .ref (a))] dR_readCode_1 rfl (by decide) rfl ?_
  refine x_iconst F (v := nI (0)) dR_readCode_2 (by decide) ?_
  refine x_istore_n F [(3, .int (nI (0))), (1, .long (1)), (0, .ref (a))] dR_readCode_3 rfl (by decide) rfl ?_
  exact loop 10 0 M rfl hqn hT (fun _ _ => rfl) (Nat.zero_add _).symm
set_option maxHeartbeats 4000000 in
set_option maxRecDepth 100000 in
theorem cR_readWord (l : Launch) (nx : Nat) (M : xH) (a : Nat) (sg : Nat → Int32) (wd : Nat → Int64) (cw n q : Nat) (fk fp : Int32) (hT : rAt M a sg wd cw n q fk fp) (tx : Nat → Nat) (hX : sAt sg tx n) (hqn : q ≤ n) : xC l xcl yR_readWord (xw (Cond.code yR_readWord bR_readWord 4 (some .long))) ({ frames := 1, cells := 0, slots := 0, locals := 20 } : Room) [.ref (a)] nx M (rPost (some (.long (lN (wN tx q (lNn tx n q))))) nx M a sg wd cw n (q + lNn tx n q) fk fp) := by
  obtain ⟨h0, h1, h2, hcw, hn4, hq4⟩ := id hT
  refine yC (by decide) (Nat.le_of_ble_eq_true rfl) ?_
  intro p e s m args below meth c D F hr hn
  have loop : ∀ (k : Nat) (d : Nat) (M1 : xH), d + k = 8 → q + d ≤ n → rAt M1 a sg wd cw n (q + d) fk fp → (∀ b, (b < a ∨ a + 2 < b) → M1 b = M b) → hrun let_ tx n 8 q = d + hrun let_ tx n k (q + d) → xW p l e ({ frames := 1, cells := 0, slots := 0, locals := 20 } : Room) s m args below meth c D xcl (x_A M nx) 4 (MQ below (x_Q D xcl (x_A M nx) (rPost (some (.long (lN (wN tx q (lNn tx n q))))) nx M a sg wd cw n (q + lNn tx n q) fk fp)) args s 0 0 (x_A M nx)) 0 0 (nx) M1 4 [(3, .int (nI (d))), (1, .long (lN (wN tx q d))), (0, .ref (a))] [] := by
    intro k
    induction k with
    | zero =>
      intro d M1 hi hqd hR1 hfr hf
      obtain ⟨g0, g1, g2, g3, g4, g5⟩ := id hR1
      refine x_iload_n F 0 dR_readWord_4 rfl rfl ?_
      refine x_bipush F (v := nI (8)) dR_readWord_5 (by decide) ?_
      refine x_icmp_ge F (tgt := 53) dR_readWord_7 (by decide) (fun c1 => ?_) (fun c1 => ?_)
      · skip
        have c1 : 8 ≤ d := by
          exact (nI_leI (a := 8) (b := d) (by omega) (by omega)).mp c1
        have hD : lNn tx n q = d := by rw [lNn, hf]; rfl
        refine x_lload_n F 1 dR_readWord_53 rfl rfl ?_
        exact x_lret F hr dR_readWord_54 (⟨by rw [hD], rfl, (by rw [hD]; exact ⟨g0, g1, g2, by omega, by omega, by omega⟩), fun b hb => (hfr _ hb).trans (rfl)⟩)
      · skip
        have c1 : d < 8 := by
          have z : ¬ (8 ≤ d) := fun zz => c1 ((nI_leI (a := 8) (b := d) (by omega) (by omega)).mpr zz)
          omega
        exact absurd c1 (by omega)
    | succ k ih =>
      intro d M1 hi hqd hR1 hfr hf
      obtain ⟨g0, g1, g2, g3, g4, g5⟩ := id hR1
      refine x_iload_n F 0 dR_readWord_4 rfl rfl ?_
      refine x_bipush F (v := nI (8)) dR_readWord_5 (by decide) ?_
      refine x_icmp_ge F (tgt := 53) dR_readWord_7 (by decide) (fun c2 => ?_) (fun c2 => ?_)
      · skip
        have c2 : 8 ≤ d := by
          exact (nI_leI (a := 8) (b := d) (by omega) (by omega)).mp c2
        exact absurd c2 (by omega)
      · skip
        have c2 : d < 8 := by
          have z : ¬ (8 ≤ d) := fun zz => c2 ((nI_leI (a := 8) (b := d) (by omega) (by omega)).mpr zz)
          omega
        refine x_aload_n F 2 dR_readWord_10 rfl rfl ?_
        refine yV (n := 0) (As := []) (ci := 3) F kmR_53 kiR_here ksR_here knR kcR_here (by decide +kernel) dR_readWord_11 (cR_here l (nx) M1 (a) sg wd cw n (q + d) fk fp hR1 tx hX) rfl g0 rfl rfl (Nat.le_of_ble_eq_true rfl) ⟨Nat.le_of_ble_eq_true rfl, Nat.le_of_ble_eq_true rfl⟩ ⟨Nat.le_of_ble_eq_true rfl, Nat.le_of_ble_eq_true rfl⟩ ?_
        have hh11 := hx_lt (q := (q + d)) hX
        refine yS (n := 1) (As := [.int (nI (hx tx (n) ((q + d))))]) F kmR_102 ktR_isLetter knR kcR_isLetter (by decide +kernel) dR_readWord_14 (cR_isLetter l (nx) M1 (hx tx (n) ((q + d))) (by omega)) rfl rfl (Nat.le_of_ble_eq_true rfl) ⟨Nat.le_of_ble_eq_true rfl, Nat.le_of_ble_eq_true rfl⟩ ⟨Nat.le_of_ble_eq_true rfl, Nat.le_of_ble_eq_true rfl⟩ ?_
        refine x_if_eq F (tgt := 53) dR_readWord_17 (by decide) (fun c3 => ?_) (fun c3 => ?_)
        · skip
          have c3 : (let_ (hx tx (n) ((q + d)))) = false := bI_0 c3
          have hD : lNn tx n q = d := by rw [lNn, hf, hrun_s, if_neg (by simp [c3])]; rfl
          refine x_lload_n F 1 dR_readWord_53 rfl rfl ?_
          exact x_lret F hr dR_readWord_54 (⟨by rw [hD], rfl, (by rw [hD]; exact ⟨g0, g1, g2, by omega, by omega, by omega⟩), fun b hb => (hfr _ hb).trans (rfl)⟩)
        · skip
          have c3 : (let_ (hx tx (n) ((q + d)))) = true := bI_1 c3
          refine x_lload_n F 1 dR_readWord_20 rfl rfl ?_
          refine x_ldc2 F (x_m kjR_105) dR_readWord_21 ?_
          refine x_lmul F dR_readWord_24 ?_
          refine xW.tol (lN (wN tx q d * 32)) (lN_mul _ 32) ?_
          refine x_aload_n F 2 dR_readWord_25 rfl rfl ?_
          refine yV (n := 0) (As := []) (ci := 3) F kmR_53 kiR_here ksR_here knR kcR_here (by decide +kernel) dR_readWord_26 (cR_here l (nx) M1 (a) sg wd cw n (q + d) fk fp hR1 tx hX) rfl g0 rfl rfl (Nat.le_of_ble_eq_true rfl) ⟨Nat.le_of_ble_eq_true rfl, Nat.le_of_ble_eq_true rfl⟩ ⟨Nat.le_of_ble_eq_true rfl, Nat.le_of_ble_eq_true rfl⟩ ?_
          have hh26 := hx_lt (q := (q + d)) hX
          refine x_bipush F (v := nI (97)) dR_readWord_29 (by decide) ?_
          refine x_isub F dR_readWord_31 ?_
          refine xW.toi (nI (hx tx (n) ((q + d)) - 97)) (pk_sub (by simp [let_] at c3; omega)) ?_
          refine x_iconst F (v := nI (1)) dR_readWord_32 (by decide) ?_
          refine x_iadd F dR_readWord_33 ?_
          refine xW.toi (nI (hx tx (n) ((q + d)) - 97 + 1)) (nI_add _ _) ?_
          refine x_i2l F dR_readWord_34 ?_
          refine xW.tol (lN (hx tx (n) ((q + d)) - 97 + 1)) (nI_l (by omega)) ?_
          refine x_ladd F dR_readWord_35 ?_
          refine xW.tol (lN (wN tx q (d + 1))) (by rw [lN_add]; show _ = lN (wN tx q d * 32 + (tx (q + d) - 97 + 1)); rw [← (hx_in (K := let_) rfl c3).2]) ?_
          refine x_lstore_n F [(1, .long (lN (wN tx q (d + 1)))), (3, .int (nI (d))), (0, .ref (a))] dR_readWord_36 rfl (by decide) rfl ?_
          refine x_aload_n F 2 dR_readWord_37 rfl rfl ?_
          refine x_dup F dR_readWord_38 rfl ?_
          refine x_get (ci := 3) F 4 (x_in inR) rfl (by decide) (x_m kfR_26) dR_readWord_39 g0 rfl ?_
          refine x_iconst F (v := nI (1)) dR_readWord_42 (by decide) ?_
          refine x_iadd F dR_readWord_43 ?_
          refine xW.toi (nI (q + d + 1)) (nI_add _ _) ?_
          refine x_put (ci := 3) (ty := .int) F 4 (x_in inR) tR tR_ok nR rfl (by decide) (x_m kfR_26) dR_readWord_44 rfl (by decide +kernel) rfl rfl g0 (Nat.le_of_ble_eq_true rfl) ?_
          show xW p l e ({ frames := 1, cells := 0, slots := 0, locals := 20 } : Room) s m args below meth c D xcl (x_A M nx) 4 (MQ below (x_Q D xcl (x_A M nx) (rPost (some (.long (lN (wN tx q (lNn tx n q))))) nx M a sg wd cw n (q + lNn tx n q) fk fp)) args s 0 0 (x_A M nx)) 0 0 (nx) (x_up M1 (a) (.inr (3, [.ref (a + 1), .ref (a + 2), .int (nI (cw)), .int (nI (n)), .int (nI (q + d + 1)), .int (fk), .int (fp)]))) 47 [(1, .long (lN (wN tx q (d + 1)))), (3, .int (nI (d))), (0, .ref (a))] []
          refine x_iinc F 1 [(3, .int (nI (d + 1))), (1, .long (lN (wN tx q (d + 1)))), (0, .ref (a))] dR_readWord_47 rfl (nI_add (d) 1) (by decide) rfl ?_
          refine x_goto F (tgt := 4) dR_readWord_50 (by decide) ?_
          exact ih (d + 1) _ (by omega) (by have := (hx_in (K := let_) rfl c3).1; omega) ⟨x_up_s, (x_up_k g1 (by omega)), (x_up_k g2 (by omega)), by omega, by omega, by have := (hx_in (K := let_) rfl c3).1; omega⟩ (fun b hb => (x_up_n (by omega)).trans ((hfr _ hb).trans (rfl))) (by rw [hf, hrun_s, if_pos c3]; show _ = d + 1 + hrun let_ tx n k (q + d + 1); omega)
  refine x_lconst F (v := 0) dR_readWord_0 (by decide) ?_
  refine x_lstore_n F [(1, .long (0)), (0, .ref (a))] dR_readWord_1 rfl (by decide) rfl ?_
  refine x_iconst F (v := nI (0)) dR_readWord_2 (by decide) ?_
  refine x_istore_n F [(3, .int (nI (0))), (1, .long (0)), (0, .ref (a))] dR_readWord_3 rfl (by decide) rfl ?_
  exact loop 8 0 M rfl hqn hT (fun _ _ => rfl) (Nat.zero_add _).symm
