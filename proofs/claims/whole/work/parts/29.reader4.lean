theorem wds_b {tx : Nat → Nat} {n mo f k q : Nat} {wd : Nat → Int64} (hk : k + f = mo) (hq : q ≤ n) : (wds tx n mo f k q wd).2.1 ≤ mo ∧ (wds tx n mo f k q wd).2.2.1 ≤ n := by
  induction f generalizing k q wd with
  | zero => exact ⟨by show k ≤ mo; omega, hq⟩
  | succ f ih =>
    have hl : q + lNn tx n q ≤ n := hrun_n rfl _ _ _ _ hq
    rw [wds_s]
    split
    · exact ⟨by show k ≤ mo; omega, hq⟩
    · split
      · rename_i h
        have := (hx_in (K := fun c => decide (c = 46)) rfl (tx := tx) (n := n) (q := q + lNn tx n q) (by simpa using h.1)).1
        exact ih (by omega) (by omega)
      · exact ⟨by show k + 1 ≤ mo; omega, hl⟩
/-- whether the text is words, and where that ends -/
def ask (tx : Nat → Nat) (n : Nat) (wd : Nat → Int64) : Bool := (wds tx n 6 6 0 0 wd).1 && decide ((wds tx n 6 6 0 0 wd).2.2.1 = n)
/-- a code that fits below its row, that comes behind the one ahead -/
def fit (cd : Nat → Int64) (ds : Nat → Int32) (tn dd co : Nat) : Bool := match par ds (nI dd) tn with
  | none => decide (lN co < 200)
  | some j => (! decide (lN co = cd j)) && decide (bw (cd j) 10 (lN co) = cd j)
def bhd (cd : Nat → Int64) (tn co : Nat) : Bool := match tn with
  | 0 => true
  | k + 1 => cb (lN co) (cd k)
/-- the failure from a row's code on -/
def cwK (tx : Nat → Nat) (n : Nat) (w1 : Nat → Int64) (cd : Nat → Int64) (ds : Nat → Int32) (tn dd q : Nat) : Option (Nat × Nat) :=
  if rc tx n q = 0 then some (1, q + dN tx n q) else
  if fit cd ds tn dd (rc tx n q) = false then some (3, q) else
  if bhd cd tn (rc tx n q) = false then some (4, q) else
  if (wds tx n 4 4 0 (q + dN tx n q) w1).1 = false then some (1, (wds tx n 4 4 0 (q + dN tx n q) w1).2.2.1) else
  if hx tx n (wds tx n 4 4 0 (q + dN tx n q) w1).2.2.1 ≠ 59 then some (1, (wds tx n 4 4 0 (q + dN tx n q) w1).2.2.1) else none
/-- what a row leaves: a failure, told by the reader; or the row in the tree -/
def cwPost (nx : Nat) (M : xH) (r : Nat) (sg : Nat → Int32) (w1 : Nat → Int64) (n : Nat) (fk fp : Int32) (a : Nat) (cd : Nat → Int64) (ds ps ch wc : Nat → Int32) (wd : Nat → Int64) (tn cp : Nat) (tx : Nat → Nat) (dd q : Nat) (x : Option (Nat × Nat)) : xO → Nat → xH → Prop := fun o n' M' => n' = nx ∧ (∀ b, (b < r ∨ r + 2 < b) ∧ (b < a ∨ a + 6 < b) → M' b = M b) ∧ match x with
  | some f => o = some (.int (nI 0)) ∧ tAt M' a cd ds ps ch wc wd tn cp ∧ ∃ (w2 : Nat → Int64) (c2 q2 : Nat), rAt M' r sg w2 c2 n q2 (nI f.1) (nI f.2)
  | none => o = some (.int (nI 1)) ∧ tAt M' a (vp_updL cd tn (lN (rc tx n q))) (upd ds tn (nI dd)) (upd ps tn (oi (par ds (nI dd) tn))) (chi ch tn (par ds (nI dd) tn)) (upd wc tn (nI (wds tx n 4 4 0 (q + dN tx n q) w1).2.1)) (wcp (wds tx n 4 4 0 (q + dN tx n q) w1).2.2.2 (tn * 4) (wds tx n 4 4 0 (q + dN tx n q) w1).2.1 wd) (tn + 1) (chp cp (par ds (nI dd) tn)) ∧ rAt M' r sg (wds tx n 4 4 0 (q + dN tx n q) w1).2.2.2 (wds tx n 4 4 0 (q + dN tx n q) w1).2.1 n ((wds tx n 4 4 0 (q + dN tx n q) w1).2.2.1 + 1) fk fp
theorem rc_n0 {tx : Nat → Nat} {n q : Nat} : lN (rc tx n q) = 0 ↔ rc tx n q = 0 := by
  have hb : ∀ d, d ≤ dN tx n q → cN tx q d < 2 * 10 ^ d := by
    intro d
    induction d with
    | zero => intro _; show 1 < 2 * 1; omega
    | succ d ih =>
      intro hd
      have h1 := ih (by omega)
      have h2 := (hrun_all (K := dig) rfl (show d < hrun dig tx n 10 q from hd)).1
      simp [dig] at h2
      show cN tx q d * 10 + (tx (q + d) - 48) < 2 * 10 ^ (d + 1)
      rw [Nat.pow_succ]; omega
  have h10 : dN tx n q ≤ 10 := hrun_k _ _ _ _ _
  have hp : 10 ^ dN tx n q ≤ 10 ^ 10 := Nat.pow_le_pow_right (by omega) h10
  have h3 := hb _ (Nat.le_refl _)
  have h4 : rc tx n q < 2 ^ 62 := by
    unfold rc; split <;> omega
  constructor
  · intro h
    have h : lN (rc tx n q) = lN 0 := h
    exact (pk_lEQ (by omega) (by omega)).mp h
  · intro h; rw [h]; rfl
set_option maxHeartbeats 4000000 in
set_option maxRecDepth 100000 in
theorem cR_readAsked (l : Launch) (nx : Nat) (M : xH) (a : Nat) (sg : Nat → Int32) (wd : Nat → Int64) (cw n q : Nat) (fk fp : Int32) (hT : rAt M a sg wd cw n q fk fp) (tx : Nat → Nat) (hX : sAt sg tx n) : xC l xcl yR_readAsked (xw (Cond.code yR_readAsked bR_readAsked 1 (some .boolean))) ({ frames := 3, cells := 0, slots := 0, locals := 67 } : Room) [.ref (a)] nx M (rPost (some (.int (bI (ask tx n wd)))) nx M a sg (wds tx n 6 6 0 0 wd).2.2.2 (wds tx n 6 6 0 0 wd).2.1 n (wds tx n 6 6 0 0 wd).2.2.1 (if ask tx n wd then nI 0 else nI 1) (if ask tx n wd then (-1) else nI (wds tx n 6 6 0 0 wd).2.2.1)) := by
  obtain ⟨h0, h1, h2, hcw, hn4, hq4⟩ := id hT
  refine yC (by decide) (Nat.le_of_ble_eq_true rfl) ?_
  intro p e s m args below meth c D F hr hn
  refine x_aload_n F 0 dR_readAsked_0 rfl rfl ?_
  refine yVr (n := 0) (As := []) (ci := 3) F kmR_39 kiR_start ksR_start knR kcR_start (by decide +kernel) dR_readAsked_1 (cR_start l (nx) M (a) sg wd cw n q fk fp hT ) rfl h0 rfl rfl (Nat.le_of_ble_eq_true rfl) ⟨Nat.le_of_ble_eq_true rfl, Nat.le_of_ble_eq_true rfl⟩ ⟨Nat.le_of_ble_eq_true rfl, Nat.le_of_ble_eq_true rfl⟩ (fun r' n' M8 hp => ?_)
  obtain ⟨hr', hn', hR8, hf8⟩ := hp
  rw [hn', hr']
  obtain ⟨g8_0, g8_1, g8_2, g8_3, g8_4, g8_5⟩ := id hR8
  show xW p l e ({ frames := 3, cells := 0, slots := 0, locals := 67 } : Room) s m args below meth c D xcl (x_A M nx) 1 (MQ below (x_Q D xcl (x_A M nx) (rPost (some (.int (bI (ask tx n wd)))) nx M a sg (wds tx n 6 6 0 0 wd).2.2.2 (wds tx n 6 6 0 0 wd).2.1 n (wds tx n 6 6 0 0 wd).2.2.1 (if ask tx n wd then nI 0 else nI 1) (if ask tx n wd then (-1) else nI (wds tx n 6 6 0 0 wd).2.2.1))) args s 0 0 (x_A M nx)) 0 0 (nx) M8 4 [(0, .ref (a))] []
  refine x_aload_n F 0 dR_readAsked_4 rfl rfl ?_
  refine x_bipush F (v := nI (6)) dR_readAsked_5 (by decide) ?_
  refine yVr (n := 1) (As := [.int (nI (6))]) (ci := 3) F kmR_50 kiR_readWords ksR_readWords knR kcR_readWords (by decide +kernel) dR_readAsked_7 (cR_readWords l (nx) M8 (a) sg wd cw n 0 (nI (0)) ((-1)) hR8 tx hX (by omega) 6 (by omega)) rfl g8_0 rfl rfl (Nat.le_of_ble_eq_true rfl) ⟨Nat.le_of_ble_eq_true rfl, Nat.le_of_ble_eq_true rfl⟩ ⟨Nat.le_of_ble_eq_true rfl, Nat.le_of_ble_eq_true rfl⟩ (fun r' n' M9 hp => ?_)
  obtain ⟨hr', hn', hR9, hf9⟩ := hp
  rw [hn', hr']
  obtain ⟨g9_0, g9_1, g9_2, g9_3, g9_4, g9_5⟩ := id hR9
  show xW p l e ({ frames := 3, cells := 0, slots := 0, locals := 67 } : Room) s m args below meth c D xcl (x_A M nx) 1 (MQ below (x_Q D xcl (x_A M nx) (rPost (some (.int (bI (ask tx n wd)))) nx M a sg (wds tx n 6 6 0 0 wd).2.2.2 (wds tx n 6 6 0 0 wd).2.1 n (wds tx n 6 6 0 0 wd).2.2.1 (if ask tx n wd then nI 0 else nI 1) (if ask tx n wd then (-1) else nI (wds tx n 6 6 0 0 wd).2.2.1))) args s 0 0 (x_A M nx)) 0 0 (nx) M9 10 [(0, .ref (a))] [.int (bI ((wds tx n 6 6 0 0 wd).1))]
  refine x_if_eq F (tgt := 40) dR_readAsked_10 (by decide) (fun c1 => ?_) (fun c1 => ?_)
  · skip
    have c1 : ((wds tx n 6 6 0 0 wd).1) = false := bI_0 c1
    refine x_iconst F (v := nI (0)) dR_readAsked_40 (by decide) ?_
    exact x_zret F hr (by rfl) dR_readAsked_41 (by rw [show ask tx n wd = false from by simp only [ask, c1]; rfl]; refine ⟨rfl, rfl, ?_, fun b hb => (hf9 _ (by omega)).trans ((hf8 _ (by omega)).trans (rfl))⟩; have z := hR9; first | exact z | (rw [c1] at z; exact z))
  · skip
    have c1 : ((wds tx n 6 6 0 0 wd).1) = true := bI_1 c1
    have hb6 := wds_b (tx := tx) (n := n) (mo := 6) (f := 6) (k := 0) (q := 0) (wd := wd) (by omega) (by omega)
    refine x_aload_n F 0 dR_readAsked_13 rfl rfl ?_
    refine x_get (ci := 3) F 4 (x_in inR) rfl (by decide) (x_m kfR_26) dR_readAsked_14 g9_0 rfl ?_
    refine x_aload_n F 0 dR_readAsked_17 rfl rfl ?_
    refine x_get (ci := 3) F 3 (x_in inR) rfl (by decide) (x_m kfR_23) dR_readAsked_18 g9_0 rfl ?_
    refine x_icmp_eq F (tgt := 36) dR_readAsked_21 (by decide) (fun c2 => ?_) (fun c2 => ?_)
    · skip
      have c2 : (wds tx n 6 6 0 0 wd).2.2.1 = n := by
        exact (nI_eq (a := (wds tx n 6 6 0 0 wd).2.2.1) (b := n) (by omega) (by omega)).mp c2
      refine x_iconst F (v := nI (1)) dR_readAsked_36 (by decide) ?_
      refine x_goto F (tgt := 41) dR_readAsked_37 (by decide) ?_
      exact x_zret F hr (by rfl) dR_readAsked_41 (by rw [show ask tx n wd = true from by simp only [ask, c1]; simp; exact c2]; refine ⟨rfl, rfl, ?_, fun b hb => (hf9 _ (by omega)).trans ((hf8 _ (by omega)).trans (rfl))⟩; have z := hR9; first | exact z | (rw [c1] at z; exact z))
    · skip
      have c2 : (wds tx n 6 6 0 0 wd).2.2.1 ≠ n := by
        have z : ¬ ((wds tx n 6 6 0 0 wd).2.2.1 = n) := fun zz => c2 ((nI_eq (a := (wds tx n 6 6 0 0 wd).2.2.1) (b := n) (by omega) (by omega)).mpr zz)
        omega
      refine x_aload_n F 0 dR_readAsked_24 rfl rfl ?_
      refine x_iconst F (v := nI (1)) dR_readAsked_25 (by decide) ?_
      refine x_aload_n F 0 dR_readAsked_26 rfl rfl ?_
      refine x_get (ci := 3) F 4 (x_in inR) rfl (by decide) (x_m kfR_26) dR_readAsked_27 g9_0 rfl ?_
      refine yVr (n := 2) (As := [.int (nI (1)), .int (nI ((wds tx n 6 6 0 0 wd).2.2.1))]) (ci := 3) F kmR_42 kiR_fail ksR_fail knR kcR_fail (by decide +kernel) dR_readAsked_30 (cR_fail l (nx) M9 (a) sg ((wds tx n 6 6 0 0 wd).2.2.2) ((wds tx n 6 6 0 0 wd).2.1) n ((wds tx n 6 6 0 0 wd).2.2.1) (if (wds tx n 6 6 0 0 wd).1 then (nI (0)) else nI 1) (if (wds tx n 6 6 0 0 wd).1 then ((-1)) else nI (wds tx n 6 6 0 0 wd).2.2.1) hR9 (nI (1)) (nI ((wds tx n 6 6 0 0 wd).2.2.1))) rfl g9_0 rfl rfl (Nat.le_of_ble_eq_true rfl) ⟨Nat.le_of_ble_eq_true rfl, Nat.le_of_ble_eq_true rfl⟩ ⟨Nat.le_of_ble_eq_true rfl, Nat.le_of_ble_eq_true rfl⟩ (fun r' n' M10 hp => ?_)
      obtain ⟨hr', hn', hR10, hf10⟩ := hp
      rw [hn', hr']
      obtain ⟨g10_0, g10_1, g10_2, g10_3, g10_4, g10_5⟩ := id hR10
      show xW p l e ({ frames := 3, cells := 0, slots := 0, locals := 67 } : Room) s m args below meth c D xcl (x_A M nx) 1 (MQ below (x_Q D xcl (x_A M nx) (rPost (some (.int (bI (ask tx n wd)))) nx M a sg (wds tx n 6 6 0 0 wd).2.2.2 (wds tx n 6 6 0 0 wd).2.1 n (wds tx n 6 6 0 0 wd).2.2.1 (if ask tx n wd then nI 0 else nI 1) (if ask tx n wd then (-1) else nI (wds tx n 6 6 0 0 wd).2.2.1))) args s 0 0 (x_A M nx)) 0 0 (nx) M10 33 [(0, .ref (a))] [.int (nI (0))]
      refine x_if_eq F (tgt := 40) dR_readAsked_33 (by decide) (fun c3 => ?_) (fun c3 => ?_)
      · skip
        have c3 : 0 = 0 := by
          exact (nI_eq (a := 0) (b := 0) (by omega) (by omega)).mp c3
        refine x_iconst F (v := nI (0)) dR_readAsked_40 (by decide) ?_
        exact x_zret F hr (by rfl) dR_readAsked_41 (by rw [show ask tx n wd = false from by simp only [ask, c1]; simp; exact c2]; refine ⟨rfl, rfl, ?_, fun b hb => (hf10 _ (by omega)).trans ((hf9 _ (by omega)).trans ((hf8 _ (by omega)).trans (rfl)))⟩; have z := hR10; first | exact z | (rw [c1] at z; exact z))
      · skip
        have c3 : 0 ≠ 0 := by
          have z : ¬ (0 = 0) := fun zz => c3 ((nI_eq (a := 0) (b := 0) (by omega) (by omega)).mpr zz)
          omega
        exact absurd c3 (by decide)
