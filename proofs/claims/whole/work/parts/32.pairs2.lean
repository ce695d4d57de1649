abbrev pS : Type := (Nat → Int32) × (Nat → Int64) × (Nat → Int32) × (Nat → Int64) × Nat
def pIs (M : xH) (a cap : Nat) (σ : pS) : Prop := pAt M a cap σ.1 σ.2.1 σ.2.2.1 σ.2.2.2.1 σ.2.2.2.2
def pPost (v : Option Value) (nx : Nat) (M : xH) (a cap : Nat) (σ : pS) : xO → Nat → xH → Prop := fun r n' M' => r = v ∧ n' = nx ∧ pIs M' a cap σ ∧ ∀ b, (b < a ∨ a + 4 < b) → M' b = M b
/-- from g on up to i each place has what the next one had -/
def sh {α : Type} (f : Nat → α) (g i : Nat) : Nat → α := fun j => if g ≤ j ∧ j < i then f (j + 1) else f j
theorem sh_0 {α : Type} (f : Nat → α) (g : Nat) : sh f g g = f := by
  funext j; unfold sh; rw [if_neg (by omega)]
theorem sh_n {α : Type} (f : Nat → α) (g i : Nat) : sh f g i (i + 1) = f (i + 1) := by unfold sh; rw [if_neg (by omega)]
theorem sh_i (f : Nat → Int32) (g i : Nat) (h : g ≤ i) : upd (sh f g i) i (f (i + 1)) = sh f g (i + 1) := by
  funext j
  unfold upd sh
  by_cases hj : j = i
  · subst hj; rw [if_pos rfl, if_pos (by omega)]
  · rw [if_neg hj]
    by_cases h2 : g ≤ j ∧ j < i
    · rw [if_pos h2, if_pos (by omega)]
    · rw [if_neg h2, if_neg (by omega)]
theorem sh_l (f : Nat → Int64) (g i : Nat) (h : g ≤ i) : vp_updL (sh f g i) i (f (i + 1)) = sh f g (i + 1) := by
  funext j
  unfold vp_updL sh
  by_cases hj : j = i
  · subst hj; rw [if_pos rfl, if_pos (by omega)]
  · rw [if_neg hj]
    by_cases h2 : g ≤ j ∧ j < i
    · rw [if_pos h2, if_pos (by omega)]
    · rw [if_neg h2, if_neg (by omega)]
def dp (σ : pS) (g : Nat) : pS := (sh σ.1 g (σ.2.2.2.2 - 1), sh σ.2.1 g (σ.2.2.2.2 - 1), sh σ.2.2.1 g (σ.2.2.2.2 - 1), sh σ.2.2.2.1 g (σ.2.2.2.2 - 1), σ.2.2.2.2 - 1)
/-- from the k-th down, those with P are dropped -/
def dpa (P : pS → Nat → Bool) : Nat → pS → pS
  | 0, σ => σ
  | k + 1, σ => if P σ k then dpa P k (dp σ k) else dpa P k σ
theorem dpa_s (P : pS → Nat → Bool) (k : Nat) (σ : pS) : dpa P (k + 1) σ = if P σ k then dpa P k (dp σ k) else dpa P k σ := rfl
def padd (σ : pS) (e : Int32) (c : Int64) (m : Int32) (o : Int64) : pS := (upd σ.1 σ.2.2.2.2 e, vp_updL σ.2.1 σ.2.2.2.2 c, upd σ.2.2.1 σ.2.2.2.2 m, vp_updL σ.2.2.2.1 σ.2.2.2.2 o, σ.2.2.2.2 + 1)
set_option maxHeartbeats 4000000 in
set_option maxRecDepth 100000 in
theorem cP_add (l : Launch) (nx : Nat) (M : xH) (a cap : Nat) (σ : pS) (hT : pIs M a cap σ) (hc : σ.2.2.2.2 < cap) (ee : Int32) (co : Int64) (mm : Int32) (oo : Int64) : xC l xcl yP_add (xw (Cond.code yP_add bP_add 7 none)) ({ frames := 1, cells := 0, slots := 0, locals := 20 } : Room) [.ref (a), .int (ee), .long (co), .int (mm), .long (oo)] nx M (pPost none nx M a cap (padd σ ee co mm oo)) := by
  obtain ⟨h0, h1, h2, h3, h4, hz, hcp⟩ := id hT
  refine yC (by decide) (Nat.le_of_ble_eq_true rfl) ?_
  intro p e s m args below meth c D F hr hn
  refine x_aload_n F 0 dP_add_0 rfl rfl ?_
  refine yV (n := 0) (As := []) (ci := 2) F kmP_39 kiP_isFull ksP_isFull knP kcP_isFull (by decide +kernel) dP_add_1 (cP_isFull l (nx) M (a) cap σ.1 σ.2.1 σ.2.2.1 σ.2.2.2.1 σ.2.2.2.2 hT ) rfl h0 rfl rfl (Nat.le_of_ble_eq_true rfl) ⟨Nat.le_of_ble_eq_true rfl, Nat.le_of_ble_eq_true rfl⟩ ⟨Nat.le_of_ble_eq_true rfl, Nat.le_of_ble_eq_true rfl⟩ ?_
  refine x_if_eq F (tgt := 8) dP_add_4 (by decide) (fun c1 => ?_) (fun c1 => ?_)
  · skip
    have c1 : (decide (cap ≤ σ.2.2.2.2)) = false := bI_0 c1
    refine x_aload_n F 0 dP_add_8 rfl rfl ?_
    refine x_get (ci := 2) F 0 (x_in inP) rfl (by decide) (x_m kfP_21) dP_add_9 h0 rfl ?_
    refine x_aload_n F 0 dP_add_12 rfl rfl ?_
    refine x_get (ci := 2) F 4 (x_in inP) rfl (by decide) (x_m kfP_9) dP_add_13 h0 rfl ?_
    refine x_iload_n F 1 dP_add_16 rfl rfl ?_
    refine x_iast F dP_add_17 h1 (pk_in (σ.2.2.2.2) (cap) (by omega)) ?_
    rw [nI_clamp (show σ.2.2.2.2 < 2 ^ 31 by omega)]
    show xW p l e ({ frames := 1, cells := 0, slots := 0, locals := 20 } : Room) s m args below meth c D xcl (x_A M nx) 7 (MQ below (x_Q D xcl (x_A M nx) (pPost none nx M a cap (padd σ ee co mm oo))) args s 0 0 (x_A M nx)) 0 0 (nx) (x_up M (a + 1) (.inl (.int, cap, .inl (upd (σ.1) (σ.2.2.2.2) (ee))))) 18 [(0, .ref (a)), (1, .int (ee)), (2, .long (co)), (4, .int (mm)), (5, .long (oo))] []
    refine x_aload_n F 0 dP_add_18 rfl rfl ?_
    refine x_get (ci := 2) F 1 (x_in inP) rfl (by decide) (x_m kfP_25) dP_add_19 (x_up_k h0 (by omega)) rfl ?_
    refine x_aload_n F 0 dP_add_22 rfl rfl ?_
    refine x_get (ci := 2) F 4 (x_in inP) rfl (by decide) (x_m kfP_9) dP_add_23 (x_up_k h0 (by omega)) rfl ?_
    refine x_lload_n F 2 dP_add_26 rfl rfl ?_
    refine x_last F dP_add_27 (x_up_k h2 (by omega)) (pk_in (σ.2.2.2.2) (cap) (by omega)) ?_
    rw [nI_clamp (show σ.2.2.2.2 < 2 ^ 31 by omega)]
    show xW p l e ({ frames := 1, cells := 0, slots := 0, locals := 20 } : Room) s m args below meth c D xcl (x_A M nx) 7 (MQ below (x_Q D xcl (x_A M nx) (pPost none nx M a cap (padd σ ee co mm oo))) args s 0 0 (x_A M nx)) 0 0 (nx) (x_up (x_up M (a + 1) (.inl (.int, cap, .inl (upd (σ.1) (σ.2.2.2.2) (ee))))) (a + 2) (.inl (.long, cap, .inr (.inl (vp_updL (σ.2.1) (σ.2.2.2.2) (co)))))) 28 [(0, .ref (a)), (1, .int (ee)), (2, .long (co)), (4, .int (mm)), (5, .long (oo))] []
    refine x_aload_n F 0 dP_add_28 rfl rfl ?_
    refine x_get (ci := 2) F 2 (x_in inP) rfl (by decide) (x_m kfP_29) dP_add_29 (x_up_k (x_up_k h0 (by omega)) (by omega)) rfl ?_
    refine x_aload_n F 0 dP_add_32 rfl rfl ?_
    refine x_get (ci := 2) F 4 (x_in inP) rfl (by decide) (x_m kfP_9) dP_add_33 (x_up_k (x_up_k h0 (by omega)) (by omega)) rfl ?_
    refine x_iload F 3 dP_add_36 rfl ?_
    refine x_iast F dP_add_38 (x_up_k (x_up_k h3 (by omega)) (by omega)) (pk_in (σ.2.2.2.2) (cap) (by omega)) ?_
    rw [nI_clamp (show σ.2.2.2.2 < 2 ^ 31 by omega)]
    show xW p l e ({ frames := 1, cells := 0, slots := 0, locals := 20 } : Room) s m args below meth c D xcl (x_A M nx) 7 (MQ below (x_Q D xcl (x_A M nx) (pPost none nx M a cap (padd σ ee co mm oo))) args s 0 0 (x_A M nx)) 0 0 (nx) (x_up (x_up (x_up M (a + 1) (.inl (.int, cap, .inl (upd (σ.1) (σ.2.2.2.2) (ee))))) (a + 2) (.inl (.long, cap, .inr (.inl (vp_updL (σ.2.1) (σ.2.2.2.2) (co)))))) (a + 3) (.inl (.int, cap, .inl (upd (σ.2.2.1) (σ.2.2.2.2) (mm))))) 39 [(0, .ref (a)), (1, .int (ee)), (2, .long (co)), (4, .int (mm)), (5, .long (oo))] []
    refine x_aload_n F 0 dP_add_39 rfl rfl ?_
    refine x_get (ci := 2) F 3 (x_in inP) rfl (by decide) (x_m kfP_32) dP_add_40 (x_up_k (x_up_k (x_up_k h0 (by omega)) (by omega)) (by omega)) rfl ?_
    refine x_aload_n F 0 dP_add_43 rfl rfl ?_
    refine x_get (ci := 2) F 4 (x_in inP) rfl (by decide) (x_m kfP_9) dP_add_44 (x_up_k (x_up_k (x_up_k h0 (by omega)) (by omega)) (by omega)) rfl ?_
    refine x_lload F 4 dP_add_47 rfl ?_
    refine x_last F dP_add_49 (x_up_k (x_up_k (x_up_k h4 (by omega)) (by omega)) (by omega)) (pk_in (σ.2.2.2.2) (cap) (by omega)) ?_
    rw [nI_clamp (show σ.2.2.2.2 < 2 ^ 31 by omega)]
    show xW p l e ({ frames := 1, cells := 0, slots := 0, locals := 20 } : Room) s m args below meth c D xcl (x_A M nx) 7 (MQ below (x_Q D xcl (x_A M nx) (pPost none nx M a cap (padd σ ee co mm oo))) args s 0 0 (x_A M nx)) 0 0 (nx) (x_up (x_up (x_up (x_up M (a + 1) (.inl (.int, cap, .inl (upd (σ.1) (σ.2.2.2.2) (ee))))) (a + 2) (.inl (.long, cap, .inr (.inl (vp_updL (σ.2.1) (σ.2.2.2.2) (co)))))) (a + 3) (.inl (.int, cap, .inl (upd (σ.2.2.1) (σ.2.2.2.2) (mm))))) (a + 4) (.inl (.long, cap, .inr (.inl (vp_updL (σ.2.2.2.1) (σ.2.2.2.2) (oo)))))) 50 [(0, .ref (a)), (1, .int (ee)), (2, .long (co)), (4, .int (mm)), (5, .long (oo))] []
    refine x_aload_n F 0 dP_add_50 rfl rfl ?_
    refine x_dup F dP_add_51 rfl ?_
    refine x_get (ci := 2) F 4 (x_in inP) rfl (by decide) (x_m kfP_9) dP_add_52 (x_up_k (x_up_k (x_up_k (x_up_k h0 (by omega)) (by omega)) (by omega)) (by omega)) rfl ?_
    refine x_iconst F (v := nI (1)) dP_add_55 (by decide) ?_
    refine x_iadd F dP_add_56 ?_
    refine xW.toi (nI (σ.2.2.2.2 + 1)) (nI_add _ _) ?_
    refine x_put (ci := 2) (ty := .int) F 4 (x_in inP) tP tP_ok nP rfl (by decide) (x_m kfP_9) dP_add_57 rfl (by decide +kernel) rfl rfl (x_up_k (x_up_k (x_up_k (x_up_k h0 (by omega)) (by omega)) (by omega)) (by omega)) (Nat.le_of_ble_eq_true rfl) ?_
    show xW p l e ({ frames := 1, cells := 0, slots := 0, locals := 20 } : Room) s m args below meth c D xcl (x_A M nx) 7 (MQ below (x_Q D xcl (x_A M nx) (pPost none nx M a cap (padd σ ee co mm oo))) args s 0 0 (x_A M nx)) 0 0 (nx) (x_up (x_up (x_up (x_up (x_up M (a + 1) (.inl (.int, cap, .inl (upd (σ.1) (σ.2.2.2.2) (ee))))) (a + 2) (.inl (.long, cap, .inr (.inl (vp_updL (σ.2.1) (σ.2.2.2.2) (co)))))) (a + 3) (.inl (.int, cap, .inl (upd (σ.2.2.1) (σ.2.2.2.2) (mm))))) (a + 4) (.inl (.long, cap, .inr (.inl (vp_updL (σ.2.2.2.1) (σ.2.2.2.2) (oo)))))) (a) (.inr (2, [.ref (a + 1), .ref (a + 2), .ref (a + 3), .ref (a + 4), .int (nI (σ.2.2.2.2 + 1))]))) 60 [(0, .ref (a)), (1, .int (ee)), (2, .long (co)), (4, .int (mm)), (5, .long (oo))] []
    exact x_vret F hr dP_add_60 (⟨rfl, rfl, ⟨x_up_s, (x_up_k (x_up_k (x_up_k (x_up_k x_up_s (by omega)) (by omega)) (by omega)) (by omega)), (x_up_k (x_up_k (x_up_k x_up_s (by omega)) (by omega)) (by omega)), (x_up_k (x_up_k x_up_s (by omega)) (by omega)), (x_up_k x_up_s (by omega)), (show σ.2.2.2.2 + 1 ≤ cap by omega), by omega⟩, fun b hb => (x_up_n (by omega)).trans ((x_up_n (by omega)).trans ((x_up_n (by omega)).trans ((x_up_n (by omega)).trans ((x_up_n (by omega)).trans (rfl)))))⟩)
  · skip
    have c1 : (decide (cap ≤ σ.2.2.2.2)) = true := bI_1 c1
    simp at c1
    exact absurd hc (by omega)
set_option maxHeartbeats 4000000 in
set_option maxRecDepth 100000 in
theorem cP_drop (l : Launch) (nx : Nat) (M : xH) (a cap : Nat) (σ : pS) (hT : pIs M a cap σ) (g : Nat) (hg : g < σ.2.2.2.2) : xC l xcl yP_drop (xw (Cond.code yP_drop bP_drop 3 none)) ({ frames := 0, cells := 0, slots := 0, locals := 0 } : Room) [.ref (a), .int (nI (g))] nx M (pPost none nx M a cap (dp σ g)) := by
  obtain ⟨h0, h1, h2, h3, h4, hz, hcp⟩ := id hT
  refine yC (by decide) (Nat.le_of_ble_eq_true rfl) ?_
  intro p e s m args below meth c D F hr hn
  have loop : ∀ (k : Nat) (i : Nat) (M1 : xH), i + k = σ.2.2.2.2 - 1 → g ≤ i → pAt M1 a cap (sh σ.1 g i) (sh σ.2.1 g i) (sh σ.2.2.1 g i) (sh σ.2.2.2.1 g i) σ.2.2.2.2 → (∀ b, (b < a ∨ a + 4 < b) → M1 b = M b) → xW p l e ({ frames := 0, cells := 0, slots := 0, locals := 0 } : Room) s m args below meth c D xcl (x_A M nx) 3 (MQ below (x_Q D xcl (x_A M nx) (pPost none nx M a cap (dp σ g))) args s 0 0 (x_A M nx)) 0 0 (nx) M1 2 [(2, .int (nI (i))), (0, .ref (a)), (1, .int (nI (g)))] [] := by
    intro k
    induction k with
    | zero =>
      intro i M1 hi hgi hP1 hfr
      obtain ⟨g0, g1, g2, g3, g4, g5, g6⟩ := id hP1
      refine x_iload_n F 0 dP_drop_2 rfl rfl ?_
      refine x_if_lt F (tgt := 78) dP_drop_3 (by decide) (fun c1 => ?_) (fun c1 => ?_)
      · skip
        have c1 : i < 0 := by
          exact (nI_ltI (a := i) (b := 0) (by omega) (by omega)).mp c1
        exact absurd c1 (by omega)
      · skip
        have c1 : 0 ≤ i := by
          have z : ¬ (i < 0) := fun zz => c1 ((nI_ltI (a := i) (b := 0) (by omega) (by omega)).mpr zz)
          omega
        refine x_iload_n F 0 dP_drop_6 rfl rfl ?_
        refine x_aload_n F 1 dP_drop_7 rfl rfl ?_
        refine x_get (ci := 2) F 4 (x_in inP) rfl (by decide) (x_m kfP_9) dP_drop_8 g0 rfl ?_
        refine x_iconst F (v := nI (1)) dP_drop_11 (by decide) ?_
        refine x_isub F dP_drop_12 ?_
        refine xW.toi (nI (σ.2.2.2.2 - 1)) (pk_sub (by omega)) ?_
        refine x_icmp_ge F (tgt := 78) dP_drop_13 (by decide) (fun c2 => ?_) (fun c2 => ?_)
        · skip
          have c2 : σ.2.2.2.2 - 1 ≤ i := by
            exact (nI_leI (a := σ.2.2.2.2 - 1) (b := i) (by omega) (by omega)).mp c2
          have hz1 : i = σ.2.2.2.2 - 1 := by omega
          refine x_aload_n F 1 dP_drop_78 rfl rfl ?_
          refine x_dup F dP_drop_79 rfl ?_
          refine x_get (ci := 2) F 4 (x_in inP) rfl (by decide) (x_m kfP_9) dP_drop_80 g0 rfl ?_
          refine x_iconst F (v := nI (1)) dP_drop_83 (by decide) ?_
          refine x_isub F dP_drop_84 ?_
          refine xW.toi (nI (σ.2.2.2.2 - 1)) (pk_sub (by omega)) ?_
          refine x_put (ci := 2) (ty := .int) F 4 (x_in inP) tP tP_ok nP rfl (by decide) (x_m kfP_9) dP_drop_85 rfl (by decide +kernel) rfl rfl g0 (Nat.le_of_ble_eq_true rfl) ?_
          show xW p l e ({ frames := 0, cells := 0, slots := 0, locals := 0 } : Room) s m args below meth c D xcl (x_A M nx) 3 (MQ below (x_Q D xcl (x_A M nx) (pPost none nx M a cap (dp σ g))) args s 0 0 (x_A M nx)) 0 0 (nx) (x_up M1 (a) (.inr (2, [.ref (a + 1), .ref (a + 2), .ref (a + 3), .ref (a + 4), .int (nI (σ.2.2.2.2 - 1))]))) 88 [(2, .int (nI (i))), (0, .ref (a)), (1, .int (nI (g)))] []
          exact x_vret F hr dP_drop_88 (⟨rfl, rfl, (by have e : pAt _ a cap (sh σ.1 g i) (sh σ.2.1 g i) (sh σ.2.2.1 g i) (sh σ.2.2.2.1 g i) (σ.2.2.2.2 - 1) := ⟨x_up_s, (x_up_k g1 (by omega)), (x_up_k g2 (by omega)), (x_up_k g3 (by omega)), (x_up_k g4 (by omega)), (by omega), (by omega)⟩; rw [hz1] at e; exact e), fun b hb => (x_up_n (by omega)).trans ((hfr _ hb).trans (rfl))⟩)
        · skip
          have c2 : i < σ.2.2.2.2 - 1 := by
            have z : ¬ (σ.2.2.2.2 - 1 ≤ i) := fun zz => c2 ((nI_leI (a := σ.2.2.2.2 - 1) (b := i) (by omega) (by omega)).mpr zz)
            omega
          exact absurd c2 (by omega)
    | succ k ih =>
      intro i M1 hi hgi hP1 hfr
      obtain ⟨g0, g1, g2, g3, g4, g5, g6⟩ := id hP1
      refine x_iload_n F 0 dP_drop_2 rfl rfl ?_
      refine x_if_lt F (tgt := 78) dP_drop_3 (by decide) (fun c3 => ?_) (fun c3 => ?_)
      · skip
        have c3 : i < 0 := by
          exact (nI_ltI (a := i) (b := 0) (by omega) (by omega)).mp c3
        exact absurd c3 (by omega)
      · skip
        have c3 : 0 ≤ i := by
          have z : ¬ (i < 0) := fun zz => c3 ((nI_ltI (a := i) (b := 0) (by omega) (by omega)).mpr zz)
          omega
        refine x_iload_n F 0 dP_drop_6 rfl rfl ?_
        refine x_aload_n F 1 dP_drop_7 rfl rfl ?_
        refine x_get (ci := 2) F 4 (x_in inP) rfl (by decide) (x_m kfP_9) dP_drop_8 g0 rfl ?_
        refine x_iconst F (v := nI (1)) dP_drop_11 (by decide) ?_
        refine x_isub F dP_drop_12 ?_
        refine xW.toi (nI (σ.2.2.2.2 - 1)) (pk_sub (by omega)) ?_
        refine x_icmp_ge F (tgt := 78) dP_drop_13 (by decide) (fun c4 => ?_) (fun c4 => ?_)
        · skip
          have c4 : σ.2.2.2.2 - 1 ≤ i := by
            exact (nI_leI (a := σ.2.2.2.2 - 1) (b := i) (by omega) (by omega)).mp c4
          exact absurd c4 (by omega)
        · skip
          have c4 : i < σ.2.2.2.2 - 1 := by
            have z : ¬ (σ.2.2.2.2 - 1 ≤ i) := fun zz => c4 ((nI_leI (a := σ.2.2.2.2 - 1) (b := i) (by omega) (by omega)).mpr zz)
            omega
          refine x_aload_n F 1 dP_drop_16 rfl rfl ?_
          refine x_get (ci := 2) F 0 (x_in inP) rfl (by decide) (x_m kfP_21) dP_drop_17 g0 rfl ?_
          refine x_iload_n F 0 dP_drop_20 rfl rfl ?_
          refine x_aload_n F 1 dP_drop_21 rfl rfl ?_
          refine x_get (ci := 2) F 0 (x_in inP) rfl (by decide) (x_m kfP_21) dP_drop_22 g0 rfl ?_
          refine x_iload_n F 0 dP_drop_25 rfl rfl ?_
          refine x_iconst F (v := nI (1)) dP_drop_26 (by decide) ?_
          refine x_iadd F dP_drop_27 ?_
          refine xW.toi (nI (i + 1)) (nI_add _ _) ?_
          refine x_iald F dP_drop_28 g1 (pk_in (i + 1) (cap) (by omega)) ?_
          refine xW.toi (σ.1 (i + 1)) (by rw [nI_clamp (by omega)]; exact sh_n σ.1 g i) ?_
          refine x_iast F dP_drop_29 g1 (pk_in (i) (cap) (by omega)) ?_
          rw [nI_clamp (show i < 2 ^ 31 by omega)]
          show xW p l e ({ frames := 0, cells := 0, slots := 0, locals := 0 } : Room) s m args below meth c D xcl (x_A M nx) 3 (MQ below (x_Q D xcl (x_A M nx) (pPost none nx M a cap (dp σ g))) args s 0 0 (x_A M nx)) 0 0 (nx) (x_up M1 (a + 1) (.inl (.int, cap, .inl (upd ((sh σ.1 g i)) (i) (σ.1 (i + 1)))))) 30 [(2, .int (nI (i))), (0, .ref (a)), (1, .int (nI (g)))] []
          refine x_aload_n F 1 dP_drop_30 rfl rfl ?_
          refine x_get (ci := 2) F 1 (x_in inP) rfl (by decide) (x_m kfP_25) dP_drop_31 (x_up_k g0 (by omega)) rfl ?_
          refine x_iload_n F 0 dP_drop_34 rfl rfl ?_
          refine x_aload_n F 1 dP_drop_35 rfl rfl ?_
          refine x_get (ci := 2) F 1 (x_in inP) rfl (by decide) (x_m kfP_25) dP_drop_36 (x_up_k g0 (by omega)) rfl ?_
          refine x_iload_n F 0 dP_drop_39 rfl rfl ?_
          refine x_iconst F (v := nI (1)) dP_drop_40 (by decide) ?_
          refine x_iadd F dP_drop_41 ?_
          refine xW.toi (nI (i + 1)) (nI_add _ _) ?_
          refine x_lald F dP_drop_42 (x_up_k g2 (by omega)) (pk_in (i + 1) (cap) (by omega)) ?_
          refine xW.tol (σ.2.1 (i + 1)) (by rw [nI_clamp (by omega)]; exact sh_n σ.2.1 g i) ?_
          refine x_last F dP_drop_43 (x_up_k g2 (by omega)) (pk_in (i) (cap) (by omega)) ?_
          rw [nI_clamp (show i < 2 ^ 31 by omega)]
          show xW p l e ({ frames := 0, cells := 0, slots := 0, locals := 0 } : Room) s m args below meth c D xcl (x_A M nx) 3 (MQ below (x_Q D xcl (x_A M nx) (pPost none nx M a cap (dp σ g))) args s 0 0 (x_A M nx)) 0 0 (nx) (x_up (x_up M1 (a + 1) (.inl (.int, cap, .inl (upd ((sh σ.1 g i)) (i) (σ.1 (i + 1)))))) (a + 2) (.inl (.long, cap, .inr (.inl (vp_updL ((sh σ.2.1 g i)) (i) (σ.2.1 (i + 1))))))) 44 [(2, .int (nI (i))), (0, .ref (a)), (1, .int (nI (g)))] []
          refine x_aload_n F 1 dP_drop_44 rfl rfl ?_
          refine x_get (ci := 2) F 2 (x_in inP) rfl (by decide) (x_m kfP_29) dP_drop_45 (x_up_k (x_up_k g0 (by omega)) (by omega)) rfl ?_
          refine x_iload_n F 0 dP_drop_48 rfl rfl ?_
          refine x_aload_n F 1 dP_drop_49 rfl rfl ?_
          refine x_get (ci := 2) F 2 (x_in inP) rfl (by decide) (x_m kfP_29) dP_drop_50 (x_up_k (x_up_k g0 (by omega)) (by omega)) rfl ?_
          refine x_iload_n F 0 dP_drop_53 rfl rfl ?_
          refine x_iconst F (v := nI (1)) dP_drop_54 (by decide) ?_
          refine x_iadd F dP_drop_55 ?_
          refine xW.toi (nI (i + 1)) (nI_add _ _) ?_
          refine x_iald F dP_drop_56 (x_up_k (x_up_k g3 (by omega)) (by omega)) (pk_in (i + 1) (cap) (by omega)) ?_
          refine xW.toi (σ.2.2.1 (i + 1)) (by rw [nI_clamp (by omega)]; exact sh_n σ.2.2.1 g i) ?_
          refine x_iast F dP_drop_57 (x_up_k (x_up_k g3 (by omega)) (by omega)) (pk_in (i) (cap) (by omega)) ?_
          rw [nI_clamp (show i < 2 ^ 31 by omega)]
          show xW p l e ({ frames := 0, cells := 0, slots := 0, locals := 0 } : Room) s m args below meth c D xcl (x_A M nx) 3 (MQ below (x_Q D xcl (x_A M nx) (pPost none nx M a cap (dp σ g))) args s 0 0 (x_A M nx)) 0 0 (nx) (x_up (x_up (x_up M1 (a + 1) (.inl (.int, cap, .inl (upd ((sh σ.1 g i)) (i) (σ.1 (i + 1)))))) (a + 2) (.inl (.long, cap, .inr (.inl (vp_updL ((sh σ.2.1 g i)) (i) (σ.2.1 (i + 1))))))) (a + 3) (.inl (.int, cap, .inl (upd ((sh σ.2.2.1 g i)) (i) (σ.2.2.1 (i + 1)))))) 58 [(2, .int (nI (i))), (0, .ref (a)), (1, .int (nI (g)))] []
          refine x_aload_n F 1 dP_drop_58 rfl rfl ?_
          refine x_get (ci := 2) F 3 (x_in inP) rfl (by decide) (x_m kfP_32) dP_drop_59 (x_up_k (x_up_k (x_up_k g0 (by omega)) (by omega)) (by omega)) rfl ?_
          refine x_iload_n F 0 dP_drop_62 rfl rfl ?_
          refine x_aload_n F 1 dP_drop_63 rfl rfl ?_
          refine x_get (ci := 2) F 3 (x_in inP) rfl (by decide) (x_m kfP_32) dP_drop_64 (x_up_k (x_up_k (x_up_k g0 (by omega)) (by omega)) (by omega)) rfl ?_
          refine x_iload_n F 0 dP_drop_67 rfl rfl ?_
          refine x_iconst F (v := nI (1)) dP_drop_68 (by decide) ?_
          refine x_iadd F dP_drop_69 ?_
          refine xW.toi (nI (i + 1)) (nI_add _ _) ?_
          refine x_lald F dP_drop_70 (x_up_k (x_up_k (x_up_k g4 (by omega)) (by omega)) (by omega)) (pk_in (i + 1) (cap) (by omega)) ?_
          refine xW.tol (σ.2.2.2.1 (i + 1)) (by rw [nI_clamp (by omega)]; exact sh_n σ.2.2.2.1 g i) ?_
          refine x_last F dP_drop_71 (x_up_k (x_up_k (x_up_k g4 (by omega)) (by omega)) (by omega)) (pk_in (i) (cap) (by omega)) ?_
          rw [nI_clamp (show i < 2 ^ 31 by omega)]
          show xW p l e ({ frames := 0, cells := 0, slots := 0, locals := 0 } : Room) s m args below meth c D xcl (x_A M nx) 3 (MQ below (x_Q D xcl (x_A M nx) (pPost none nx M a cap (dp σ g))) args s 0 0 (x_A M nx)) 0 0 (nx) (x_up (x_up (x_up (x_up M1 (a + 1) (.inl (.int, cap, .inl (upd ((sh σ.1 g i)) (i) (σ.1 (i + 1)))))) (a + 2) (.inl (.long, cap, .inr (.inl (vp_updL ((sh σ.2.1 g i)) (i) (σ.2.1 (i + 1))))))) (a + 3) (.inl (.int, cap, .inl (upd ((sh σ.2.2.1 g i)) (i) (σ.2.2.1 (i + 1)))))) (a + 4) (.inl (.long, cap, .inr (.inl (vp_updL ((sh σ.2.2.2.1 g i)) (i) (σ.2.2.2.1 (i + 1))))))) 72 [(2, .int (nI (i))), (0, .ref (a)), (1, .int (nI (g)))] []
          refine x_iinc F 0 [(2, .int (nI (i + 1))), (0, .ref (a)), (1, .int (nI (g)))] dP_drop_72 rfl (nI_add (i) 1) (by decide) rfl ?_
          refine x_goto F (tgt := 2) dP_drop_75 (by decide) ?_
          exact ih (i + 1) _ (by omega) (by omega) ⟨(x_up_k (x_up_k (x_up_k (x_up_k g0 (by omega)) (by omega)) (by omega)) (by omega)), (by rw [← sh_i σ.1 g i (by omega)]; exact (x_up_k (x_up_k (x_up_k x_up_s (by omega)) (by omega)) (by omega))), (by rw [← sh_l σ.2.1 g i (by omega)]; exact (x_up_k (x_up_k x_up_s (by omega)) (by omega))), (by rw [← sh_i σ.2.2.1 g i (by omega)]; exact (x_up_k x_up_s (by omega))), (by rw [← sh_l σ.2.2.2.1 g i (by omega)]; exact x_up_s), by omega, by omega⟩ (fun b hb => (x_up_n (by omega)).trans ((x_up_n (by omega)).trans ((x_up_n (by omega)).trans ((x_up_n (by omega)).trans ((hfr _ hb).trans (rfl))))))
  refine x_iload_n F 1 dP_drop_0 rfl rfl ?_
  refine x_istore_n F [(2, .int (nI (g))), (0, .ref (a)), (1, .int (nI (g)))] dP_drop_1 rfl (by decide) rfl ?_
  exact loop (σ.2.2.2.2 - 1 - g) g M (by omega) (by omega) (by rw [sh_0, sh_0, sh_0, sh_0]; exact hT) (fun _ _ => rfl)
set_option maxHeartbeats 4000000 in
set_option maxRecDepth 100000 in
theorem cP_dropFrom (l : Launch) (nx : Nat) (M : xH) (a cap : Nat) (σ : pS) (hT : pIs M a cap σ) (ee : Int32) : xC l xcl yP_dropFrom (xw (Cond.code yP_dropFrom bP_dropFrom 3 none)) ({ frames := 1, cells := 0, slots := 0, locals := 22 } : Room) [.ref (a), .int (ee)] nx M (pPost none nx M a cap (dpa (fun (s : pS) (j : Nat) => decide (s.1 j = ee)) σ.2.2.2.2 σ)) := by
  obtain ⟨h0, h1, h2, h3, h4, hz, hcp⟩ := id hT
  refine yC (by decide) (Nat.le_of_ble_eq_true rfl) ?_
  intro p e s m args below meth c D F hr hn
  have loop : ∀ (k : Nat) (σ1 : pS) (M1 : xH), k ≤ σ1.2.2.2.2 → pIs M1 a cap σ1 → (∀ b, (b < a ∨ a + 4 < b) → M1 b = M b) → dpa (fun (s : pS) (j : Nat) => decide (s.1 j = ee)) σ.2.2.2.2 σ = dpa (fun (s : pS) (j : Nat) => decide (s.1 j = ee)) k σ1 → xW p l e ({ frames := 1, cells := 0, slots := 0, locals := 22 } : Room) s m args below meth c D xcl (x_A M nx) 3 (MQ below (x_Q D xcl (x_A M nx) (pPost none nx M a cap (dpa (fun (s : pS) (j : Nat) => decide (s.1 j = ee)) σ.2.2.2.2 σ))) args s 0 0 (x_A M nx)) 0 0 (nx) M1 7 [(2, .int (pd (k))), (0, .ref (a)), (1, .int (ee))] [] := by
    intro k
    induction k with
    | zero =>
      intro σ1 M1 hk hP1 hfr hf
      show xW p l e ({ frames := 1, cells := 0, slots := 0, locals := 22 } : Room) s m args below meth c D xcl (x_A M nx) 3 (MQ below (x_Q D xcl (x_A M nx) (pPost none nx M a cap (dpa (fun (s : pS) (j : Nat) => decide (s.1 j = ee)) σ.2.2.2.2 σ))) args s 0 0 (x_A M nx)) 0 0 (nx) M1 7 [(2, .int ((-1))), (0, .ref (a)), (1, .int (ee))] []
      obtain ⟨g0, g1, g2, g3, g4, g5, g6⟩ := id hP1
      refine x_iload_n F 0 dP_dropFrom_7 rfl rfl ?_
      refine x_if_lt F (tgt := 32) dP_dropFrom_8 (by decide) (fun c1 => ?_) (fun c1 => ?_)
      · skip
        exact x_vret F hr dP_dropFrom_32 (by rw [show dpa (fun (s : pS) (j : Nat) => decide (s.1 j = ee)) σ.2.2.2.2 σ = σ1 from hf]; exact ⟨rfl, rfl, hP1, hfr⟩)
      · skip
        exact absurd (by decide) c1
    | succ k ih =>
      intro σ1 M1 hk hP1 hfr hf
      show xW p l e ({ frames := 1, cells := 0, slots := 0, locals := 22 } : Room) s m args below meth c D xcl (x_A M nx) 3 (MQ below (x_Q D xcl (x_A M nx) (pPost none nx M a cap (dpa (fun (s : pS) (j : Nat) => decide (s.1 j = ee)) σ.2.2.2.2 σ))) args s 0 0 (x_A M nx)) 0 0 (nx) M1 7 [(2, .int (nI (k))), (0, .ref (a)), (1, .int (ee))] []
      obtain ⟨g0, g1, g2, g3, g4, g5, g6⟩ := id hP1
      refine x_iload_n F 0 dP_dropFrom_7 rfl rfl ?_
      refine x_if_lt F (tgt := 32) dP_dropFrom_8 (by decide) (fun c2 => ?_) (fun c2 => ?_)
      · skip
        have c2 : k < 0 := by
          exact (nI_ltI (a := k) (b := 0) (by omega) (by omega)).mp c2
        exact absurd c2 (by omega)
      · skip
        have c2 : 0 ≤ k := by
          have z : ¬ (k < 0) := fun zz => c2 ((nI_ltI (a := k) (b := 0) (by omega) (by omega)).mpr zz)
          omega
        refine x_aload_n F 1 dP_dropFrom_11 rfl rfl ?_
        refine x_get (ci := 2) F 0 (x_in inP) rfl (by decide) (x_m kfP_21) dP_dropFrom_12 g0 rfl ?_
        refine x_iload_n F 0 dP_dropFrom_15 rfl rfl ?_
        refine x_iald F dP_dropFrom_16 g1 (pk_in (k) (cap) (by omega)) ?_
        refine xW.toi ((σ1.1) (k)) (by rw [nI_clamp (by omega)]) ?_
        refine x_iload_n F 2 dP_dropFrom_17 rfl rfl ?_
        refine x_icmp_ne F (tgt := 26) dP_dropFrom_18 (by decide) (fun c3 => ?_) (fun c3 => ?_)
        · skip
          refine x_iinc F 0 [(2, .int (pd (k))), (0, .ref (a)), (1, .int (ee))] dP_dropFrom_26 rfl (pd_dec (k)) (by decide) rfl ?_
          refine x_goto F (tgt := 7) dP_dropFrom_29 (by decide) ?_
          exact ih _ _ (by omega) hP1 hfr (by rw [hf, dpa_s, if_neg (by simpa using c3)])
        · skip
          refine x_aload_n F 1 dP_dropFrom_21 rfl rfl ?_
          refine x_iload_n F 0 dP_dropFrom_22 rfl rfl ?_
          refine yVr (n := 1) (As := [.int (nI (k))]) (ci := 2) F kmP_47 kiP_drop ksP_drop knP kcP_drop (by decide +kernel) dP_dropFrom_23 (cP_drop l (nx) M1 (a) cap σ1 hP1 (k) (by omega)) rfl g0 rfl rfl (Nat.le_of_ble_eq_true rfl) ⟨Nat.le_of_ble_eq_true rfl, Nat.le_of_ble_eq_true rfl⟩ ⟨Nat.le_of_ble_eq_true rfl, Nat.le_of_ble_eq_true rfl⟩ (fun r' n' M202 hp => ?_)
          obtain ⟨hr', hn', hP202, hf202⟩ := hp
          rw [hn', hr']
          obtain ⟨v202_0, v202_1, v202_2, v202_3, v202_4, v202_5, v202_6⟩ := id hP202
          show xW p l e ({ frames := 1, cells := 0, slots := 0, locals := 22 } : Room) s m args below meth c D xcl (x_A M nx) 3 (MQ below (x_Q D xcl (x_A M nx) (pPost none nx M a cap (dpa (fun (s : pS) (j : Nat) => decide (s.1 j = ee)) σ.2.2.2.2 σ))) args s 0 0 (x_A M nx)) 0 0 (nx) M202 26 [(2, .int (nI (k))), (0, .ref (a)), (1, .int (ee))] []
          refine x_iinc F 0 [(2, .int (pd (k))), (0, .ref (a)), (1, .int (ee))] dP_dropFrom_26 rfl (pd_dec (k)) (by decide) rfl ?_
          refine x_goto F (tgt := 7) dP_dropFrom_29 (by decide) ?_
          exact ih _ _ (by show k ≤ σ1.2.2.2.2 - 1; omega) hP202 (fun b hb => (hf202 _ (by omega)).trans ((hfr _ hb).trans (rfl))) (by rw [hf, dpa_s, if_pos (by simpa using c3)])
  refine x_aload_n F 0 dP_dropFrom_0 rfl rfl ?_
  refine x_get (ci := 2) F 4 (x_in inP) rfl (by decide) (x_m kfP_9) dP_dropFrom_1 h0 rfl ?_
  refine x_iconst F (v := nI (1)) dP_dropFrom_4 (by decide) ?_
  refine x_isub F dP_dropFrom_5 ?_
  refine xW.toi (pd (σ.2.2.2.2)) (pd_of (σ.2.2.2.2)) ?_
  refine x_istore_n F [(2, .int (pd (σ.2.2.2.2))), (0, .ref (a)), (1, .int (ee))] dP_dropFrom_6 rfl (by decide) rfl ?_
  exact loop σ.2.2.2.2 σ M (Nat.le_refl _) hT (fun _ _ => rfl) rfl
set_option maxHeartbeats 4000000 in
set_option maxRecDepth 100000 in
theorem cP_dropMarked (l : Launch) (nx : Nat) (M : xH) (a cap : Nat) (σ : pS) (hT : pIs M a cap σ) (ee : Int32) : xC l xcl yP_dropMarked (xw (Cond.code yP_dropMarked bP_dropMarked 3 none)) ({ frames := 1, cells := 0, slots := 0, locals := 22 } : Room) [.ref (a), .int (ee)] nx M (pPost none nx M a cap (dpa (fun (s : pS) (j : Nat) => decide (s.2.2.1 j = ee)) σ.2.2.2.2 σ)) := by
  obtain ⟨h0, h1, h2, h3, h4, hz, hcp⟩ := id hT
  refine yC (by decide) (Nat.le_of_ble_eq_true rfl) ?_
  intro p e s m args below meth c D F hr hn
  have loop : ∀ (k : Nat) (σ1 : pS) (M1 : xH), k ≤ σ1.2.2.2.2 → pIs M1 a cap σ1 → (∀ b, (b < a ∨ a + 4 < b) → M1 b = M b) → dpa (fun (s : pS) (j : Nat) => decide (s.2.2.1 j = ee)) σ.2.2.2.2 σ = dpa (fun (s : pS) (j : Nat) => decide (s.2.2.1 j = ee)) k σ1 → xW p l e ({ frames := 1, cells := 0, slots := 0, locals := 22 } : Room) s m args below meth c D xcl (x_A M nx) 3 (MQ below (x_Q D xcl (x_A M nx) (pPost none nx M a cap (dpa (fun (s : pS) (j : Nat) => decide (s.2.2.1 j = ee)) σ.2.2.2.2 σ))) args s 0 0 (x_A M nx)) 0 0 (nx) M1 7 [(2, .int (pd (k))), (0, .ref (a)), (1, .int (ee))] [] := by
    intro k
    induction k with
    | zero =>
      intro σ1 M1 hk hP1 hfr hf
      show xW p l e ({ frames := 1, cells := 0, slots := 0, locals := 22 } : Room) s m args below meth c D xcl (x_A M nx) 3 (MQ below (x_Q D xcl (x_A M nx) (pPost none nx M a cap (dpa (fun (s : pS) (j : Nat) => decide (s.2.2.1 j = ee)) σ.2.2.2.2 σ))) args s 0 0 (x_A M nx)) 0 0 (nx) M1 7 [(2, .int ((-1))), (0, .ref (a)), (1, .int (ee))] []
      obtain ⟨g0, g1, g2, g3, g4, g5, g6⟩ := id hP1
      refine x_iload_n F 0 dP_dropMarked_7 rfl rfl ?_
      refine x_if_lt F (tgt := 32) dP_dropMarked_8 (by decide) (fun c1 => ?_) (fun c1 => ?_)
      · skip
        exact x_vret F hr dP_dropMarked_32 (by rw [show dpa (fun (s : pS) (j : Nat) => decide (s.2.2.1 j = ee)) σ.2.2.2.2 σ = σ1 from hf]; exact ⟨rfl, rfl, hP1, hfr⟩)
      · skip
        exact absurd (by decide) c1
    | succ k ih =>
      intro σ1 M1 hk hP1 hfr hf
      show xW p l e ({ frames := 1, cells := 0, slots := 0, locals := 22 } : Room) s m args below meth c D xcl (x_A M nx) 3 (MQ below (x_Q D xcl (x_A M nx) (pPost none nx M a cap (dpa (fun (s : pS) (j : Nat) => decide (s.2.2.1 j = ee)) σ.2.2.2.2 σ))) args s 0 0 (x_A M nx)) 0 0 (nx) M1 7 [(2, .int (nI (k))), (0, .ref (a)), (1, .int (ee))] []
      obtain ⟨g0, g1, g2, g3, g4, g5, g6⟩ := id hP1
      refine x_iload_n F 0 dP_dropMarked_7 rfl rfl ?_
      refine x_if_lt F (tgt := 32) dP_dropMarked_8 (by decide) (fun c2 => ?_) (fun c2 => ?_)
      · skip
        have c2 : k < 0 := by
          exact (nI_ltI (a := k) (b := 0) (by omega) (by omega)).mp c2
        exact absurd c2 (by omega)
      · skip
        have c2 : 0 ≤ k := by
          have z : ¬ (k < 0) := fun zz => c2 ((nI_ltI (a := k) (b := 0) (by omega) (by omega)).mpr zz)
          omega
        refine x_aload_n F 1 dP_dropMarked_11 rfl rfl ?_
        refine x_get (ci := 2) F 2 (x_in inP) rfl (by decide) (x_m kfP_29) dP_dropMarked_12 g0 rfl ?_
        refine x_iload_n F 0 dP_dropMarked_15 rfl rfl ?_
        refine x_iald F dP_dropMarked_16 g3 (pk_in (k) (cap) (by omega)) ?_
        refine xW.toi ((σ1.2.2.1) (k)) (by rw [nI_clamp (by omega)]) ?_
        refine x_iload_n F 2 dP_dropMarked_17 rfl rfl ?_
        refine x_icmp_ne F (tgt := 26) dP_dropMarked_18 (by decide) (fun c3 => ?_) (fun c3 => ?_)
        · skip
          refine x_iinc F 0 [(2, .int (pd (k))), (0, .ref (a)), (1, .int (ee))] dP_dropMarked_26 rfl (pd_dec (k)) (by decide) rfl ?_
          refine x_goto F (tgt := 7) dP_dropMarked_29 (by decide) ?_
          exact ih _ _ (by omega) hP1 hfr (by rw [hf, dpa_s, if_neg (by simpa using c3)])
        · skip
          refine x_aload_n F 1 dP_dropMarked_21 rfl rfl ?_
          refine x_iload_n F 0 dP_dropMarked_22 rfl rfl ?_
          refine yVr (n := 1) (As := [.int (nI (k))]) (ci := 2) F kmP_47 kiP_drop ksP_drop knP kcP_drop (by decide +kernel) dP_dropMarked_23 (cP_drop l (nx) M1 (a) cap σ1 hP1 (k) (by omega)) rfl g0 rfl rfl (Nat.le_of_ble_eq_true rfl) ⟨Nat.le_of_ble_eq_true rfl, Nat.le_of_ble_eq_true rfl⟩ ⟨Nat.le_of_ble_eq_true rfl, Nat.le_of_ble_eq_true rfl⟩ (fun r' n' M204 hp => ?_)
          obtain ⟨hr', hn', hP204, hf204⟩ := hp
          rw [hn', hr']
          obtain ⟨v204_0, v204_1, v204_2, v204_3, v204_4, v204_5, v204_6⟩ := id hP204
          show xW p l e ({ frames := 1, cells := 0, slots := 0, locals := 22 } : Room) s m args below meth c D xcl (x_A M nx) 3 (MQ below (x_Q D xcl (x_A M nx) (pPost none nx M a cap (dpa (fun (s : pS) (j : Nat) => decide (s.2.2.1 j = ee)) σ.2.2.2.2 σ))) args s 0 0 (x_A M nx)) 0 0 (nx) M204 26 [(2, .int (nI (k))), (0, .ref (a)), (1, .int (ee))] []
          refine x_iinc F 0 [(2, .int (pd (k))), (0, .ref (a)), (1, .int (ee))] dP_dropMarked_26 rfl (pd_dec (k)) (by decide) rfl ?_
          refine x_goto F (tgt := 7) dP_dropMarked_29 (by decide) ?_
          exact ih _ _ (by show k ≤ σ1.2.2.2.2 - 1; omega) hP204 (fun b hb => (hf204 _ (by omega)).trans ((hfr _ hb).trans (rfl))) (by rw [hf, dpa_s, if_pos (by simpa using c3)])
  refine x_aload_n F 0 dP_dropMarked_0 rfl rfl ?_
  refine x_get (ci := 2) F 4 (x_in inP) rfl (by decide) (x_m kfP_9) dP_dropMarked_1 h0 rfl ?_
  refine x_iconst F (v := nI (1)) dP_dropMarked_4 (by decide) ?_
  refine x_isub F dP_dropMarked_5 ?_
  refine xW.toi (pd (σ.2.2.2.2)) (pd_of (σ.2.2.2.2)) ?_
  refine x_istore_n F [(2, .int (pd (σ.2.2.2.2))), (0, .ref (a)), (1, .int (ee))] dP_dropMarked_6 rfl (by decide) rfl ?_
  exact loop σ.2.2.2.2 σ M (Nat.le_refl _) hT (fun _ _ => rfl) rfl
