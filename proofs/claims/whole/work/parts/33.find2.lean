def fPost (v : Option Value) (nx : Nat) (M : xH) (a : Nat) (cd : Nat → Int64) (pt : Nat → Int32) (n : Nat) : xO → Nat → xH → Prop := fun r n' M' => r = v ∧ n' = nx ∧ fAt M' a cd pt n ∧ ∀ b, (b < a ∨ a + 2 < b) → M' b = M b
/-- those with fewer points go one place on -/
def fsh (g : Int32) : Nat → (Nat → Int64) → (Nat → Int32) → (Nat → Int64) × (Nat → Int32) × Nat
  | 0, cd, pt => (cd, pt, 0)
  | k + 1, cd, pt => if pt k < g then fsh g k (vp_updL cd (k + 1) (cd k)) (upd pt (k + 1) (pt k)) else (cd, pt, k + 1)
theorem fsh_s (g : Int32) (k : Nat) (cd : Nat → Int64) (pt : Nat → Int32) : fsh g (k + 1) cd pt = if pt k < g then fsh g k (vp_updL cd (k + 1) (cd k)) (upd pt (k + 1) (pt k)) else (cd, pt, k + 1) := rfl
abbrev fS : Type := (Nat → Int64) × (Nat → Int32) × Nat
def fIs (M : xH) (a : Nat) (φ : fS) : Prop := fAt M a φ.1 φ.2.1 φ.2.2
def fins (φ : fS) (co : Int64) (g : Int32) : fS := (vp_updL (fsh g φ.2.2 φ.1 φ.2.1).1 (fsh g φ.2.2 φ.1 φ.2.1).2.2 co, upd (fsh g φ.2.2 φ.1 φ.2.1).2.1 (fsh g φ.2.2 φ.1 φ.2.1).2.2 g, φ.2.2 + 1)
/-- one more, if it has points -/
def fadd (φ : fS) (co : Int64) (g : Int32) : fS := if g ≤ 0 then φ else fins φ co g
set_option maxHeartbeats 4000000 in
set_option maxRecDepth 100000 in
theorem cF_clear (l : Launch) (nx : Nat) (M : xH) (a : Nat) (cd : Nat → Int64) (pt : Nat → Int32) (n : Nat) (hT : fAt M a cd pt n) : xC l xcl yF_clear (xw (Cond.code yF_clear bF_clear 1 none)) ({ frames := 0, cells := 0, slots := 0, locals := 0 } : Room) [.ref (a)] nx M (fPost none nx M a cd pt 0) := by
  obtain ⟨h0, h1, h2, hz⟩ := id hT
  refine yC (by decide) (Nat.le_of_ble_eq_true rfl) ?_
  intro p e s m args below meth c D F hr hn
  refine x_aload_n F 0 dF_clear_0 rfl rfl ?_
  refine x_iconst F (v := nI (0)) dF_clear_1 (by decide) ?_
  refine x_put (ci := 1) (ty := .int) F 2 (x_in inF) tF tF_ok nF rfl (by decide) (x_m kfF_19) dF_clear_2 rfl (by decide +kernel) rfl rfl h0 (Nat.le_of_ble_eq_true rfl) ?_
  show xW p l e ({ frames := 0, cells := 0, slots := 0, locals := 0 } : Room) s m args below meth c D xcl (x_A M nx) 1 (MQ below (x_Q D xcl (x_A M nx) (fPost none nx M a cd pt 0)) args s 0 0 (x_A M nx)) 0 0 (nx) (x_up M (a) (.inr (1, [.ref (a + 1), .ref (a + 2), .int (nI (0))]))) 5 [(0, .ref (a))] []
  exact x_vret F hr dF_clear_5 (⟨rfl, rfl, ⟨x_up_s, (x_up_k h1 (by omega)), (x_up_k h2 (by omega)), by omega⟩, fun b hb => (x_up_n (by omega)).trans (rfl)⟩)
set_option maxHeartbeats 4000000 in
set_option maxRecDepth 100000 in
theorem cF_add (l : Launch) (nx : Nat) (M : xH) (a : Nat) (cd : Nat → Int64) (pt : Nat → Int32) (n : Nat) (hT : fAt M a cd pt n) (hn40 : n < 40) (co : Int64) (g : Int32) : xC l xcl yF_add (xw (Cond.code yF_add bF_add 5 none)) ({ frames := 0, cells := 0, slots := 0, locals := 0 } : Room) [.ref (a), .long (co), .int (g)] nx M (fPost none nx M a (fadd (cd, pt, n) co g).1 (fadd (cd, pt, n) co g).2.1 (fadd (cd, pt, n) co g).2.2) := by
  obtain ⟨h0, h1, h2, hz⟩ := id hT
  refine yC (by decide) (Nat.le_of_ble_eq_true rfl) ?_
  intro p e s m args below meth c D F hr hn
  refine x_iload_n F 2 dF_add_0 rfl rfl ?_
  refine x_if_le F (tgt := 13) dF_add_1 (by decide) (fun c1 => ?_) (fun c1 => ?_)
  · skip
    exact x_vret F hr dF_add_13 (by rw [fadd, if_pos c1]; exact ⟨rfl, rfl, hT, fun _ _ => rfl⟩)
  · skip
    refine x_aload_n F 0 dF_add_4 rfl rfl ?_
    refine x_get (ci := 1) F 2 (x_in inF) rfl (by decide) (x_m kfF_19) dF_add_5 h0 rfl ?_
    refine x_bipush F (v := nI (40)) dF_add_8 (by decide) ?_
    refine x_icmp_lt F (tgt := 14) dF_add_10 (by decide) (fun c2 => ?_) (fun c2 => ?_)
    · skip
      have c2 : n < 40 := by
        exact (nI_ltI (a := n) (b := 40) (by omega) (by omega)).mp c2
      have hg0 : ¬ g ≤ 0 := c1
      have loop : ∀ (k : Nat) (cd1 : Nat → Int64) (pt1 : Nat → Int32) (M1 : xH), k ≤ n → fAt M1 a cd1 pt1 n → (∀ b, (b < a ∨ a + 2 < b) → M1 b = M b) → fsh g n cd pt = fsh g k cd1 pt1 → xW p l e ({ frames := 0, cells := 0, slots := 0, locals := 0 } : Room) s m args below meth c D xcl (x_A M nx) 5 (MQ below (x_Q D xcl (x_A M nx) (fPost none nx M a (fadd (cd, pt, n) co g).1 (fadd (cd, pt, n) co g).2.1 (fadd (cd, pt, n) co g).2.2)) args s 0 0 (x_A M nx)) 0 0 (nx) M1 20 [(4, .int (nI (k))), (0, .ref (a)), (1, .long (co)), (3, .int (g))] [] := by
        intro k
        induction k with
        | zero =>
          intro cd1 pt1 M1 hk hF1 hfr hf
          show xW p l e ({ frames := 0, cells := 0, slots := 0, locals := 0 } : Room) s m args below meth c D xcl (x_A M nx) 5 (MQ below (x_Q D xcl (x_A M nx) (fPost none nx M a (fadd (cd, pt, n) co g).1 (fadd (cd, pt, n) co g).2.1 (fadd (cd, pt, n) co g).2.2)) args s 0 0 (x_A M nx)) 0 0 (nx) M1 20 [(4, .int (nI (0))), (0, .ref (a)), (1, .long (co)), (3, .int (g))] []
          obtain ⟨g0, g1, g2, g3⟩ := id hF1
          refine x_iload F 0 dF_add_20 rfl ?_
          refine x_if_le F (tgt := 76) dF_add_22 (by decide) (fun c3 => ?_) (fun c3 => ?_)
          · skip
            have c3 : 0 ≤ 0 := by
              exact (nI_leI (a := 0) (b := 0) (by omega) (by omega)).mp c3
            have hS : fsh g n cd pt = (cd1, pt1, 0) := hf
            refine x_aload_n F 1 dF_add_76 rfl rfl ?_
            refine x_get (ci := 1) F 0 (x_in inF) rfl (by decide) (x_m kfF_9) dF_add_77 g0 rfl ?_
            refine x_iload F 0 dF_add_80 rfl ?_
            refine x_lload_n F 2 dF_add_82 rfl rfl ?_
            refine x_last F dF_add_83 g1 (pk_in (0) (40) (by omega)) ?_
            rw [nI_clamp (show 0 < 2 ^ 31 by omega)]
            show xW p l e ({ frames := 0, cells := 0, slots := 0, locals := 0 } : Room) s m args below meth c D xcl (x_A M nx) 5 (MQ below (x_Q D xcl (x_A M nx) (fPost none nx M a (fadd (cd, pt, n) co g).1 (fadd (cd, pt, n) co g).2.1 (fadd (cd, pt, n) co g).2.2)) args s 0 0 (x_A M nx)) 0 0 (nx) (x_up M1 (a + 1) (.inl (.long, 40, .inr (.inl (vp_updL (cd1) (0) (co)))))) 84 [(4, .int (nI (0))), (0, .ref (a)), (1, .long (co)), (3, .int (g))] []
            refine x_aload_n F 1 dF_add_84 rfl rfl ?_
            refine x_get (ci := 1) F 1 (x_in inF) rfl (by decide) (x_m kfF_15) dF_add_85 (x_up_k g0 (by omega)) rfl ?_
            refine x_iload F 0 dF_add_88 rfl ?_
            refine x_iload_n F 3 dF_add_90 rfl rfl ?_
            refine x_iast F dF_add_91 (x_up_k g2 (by omega)) (pk_in (0) (40) (by omega)) ?_
            rw [nI_clamp (show 0 < 2 ^ 31 by omega)]
            show xW p l e ({ frames := 0, cells := 0, slots := 0, locals := 0 } : Room) s m args below meth c D xcl (x_A M nx) 5 (MQ below (x_Q D xcl (x_A M nx) (fPost none nx M a (fadd (cd, pt, n) co g).1 (fadd (cd, pt, n) co g).2.1 (fadd (cd, pt, n) co g).2.2)) args s 0 0 (x_A M nx)) 0 0 (nx) (x_up (x_up M1 (a + 1) (.inl (.long, 40, .inr (.inl (vp_updL (cd1) (0) (co)))))) (a + 2) (.inl (.int, 40, .inl (upd (pt1) (0) (g))))) 92 [(4, .int (nI (0))), (0, .ref (a)), (1, .long (co)), (3, .int (g))] []
            refine x_aload_n F 1 dF_add_92 rfl rfl ?_
            refine x_dup F dF_add_93 rfl ?_
            refine x_get (ci := 1) F 2 (x_in inF) rfl (by decide) (x_m kfF_19) dF_add_94 (x_up_k (x_up_k g0 (by omega)) (by omega)) rfl ?_
            refine x_iconst F (v := nI (1)) dF_add_97 (by decide) ?_
            refine x_iadd F dF_add_98 ?_
            refine xW.toi (nI (n + 1)) (nI_add _ _) ?_
            refine x_put (ci := 1) (ty := .int) F 2 (x_in inF) tF tF_ok nF rfl (by decide) (x_m kfF_19) dF_add_99 rfl (by decide +kernel) rfl rfl (x_up_k (x_up_k g0 (by omega)) (by omega)) (Nat.le_of_ble_eq_true rfl) ?_
            show xW p l e ({ frames := 0, cells := 0, slots := 0, locals := 0 } : Room) s m args below meth c D xcl (x_A M nx) 5 (MQ below (x_Q D xcl (x_A M nx) (fPost none nx M a (fadd (cd, pt, n) co g).1 (fadd (cd, pt, n) co g).2.1 (fadd (cd, pt, n) co g).2.2)) args s 0 0 (x_A M nx)) 0 0 (nx) (x_up (x_up (x_up M1 (a + 1) (.inl (.long, 40, .inr (.inl (vp_updL (cd1) (0) (co)))))) (a + 2) (.inl (.int, 40, .inl (upd (pt1) (0) (g))))) (a) (.inr (1, [.ref (a + 1), .ref (a + 2), .int (nI (n + 1))]))) 102 [(4, .int (nI (0))), (0, .ref (a)), (1, .long (co)), (3, .int (g))] []
            exact x_vret F hr dF_add_102 (by rw [fadd, if_neg hg0, fins, hS]; exact ⟨rfl, rfl, ⟨x_up_s, (x_up_k (x_up_k x_up_s (by omega)) (by omega)), (x_up_k x_up_s (by omega)), (show n + 1 ≤ 40 by omega)⟩, fun b hb => (x_up_n (by omega)).trans ((x_up_n (by omega)).trans ((x_up_n (by omega)).trans ((hfr _ hb).trans (rfl))))⟩)
          · skip
            have c3 : 0 < 0 := by
              have z : ¬ (0 ≤ 0) := fun zz => c3 ((nI_leI (a := 0) (b := 0) (by omega) (by omega)).mpr zz)
              omega
            exact absurd c3 (by decide)
        | succ k ih =>
          intro cd1 pt1 M1 hk hF1 hfr hf
          show xW p l e ({ frames := 0, cells := 0, slots := 0, locals := 0 } : Room) s m args below meth c D xcl (x_A M nx) 5 (MQ below (x_Q D xcl (x_A M nx) (fPost none nx M a (fadd (cd, pt, n) co g).1 (fadd (cd, pt, n) co g).2.1 (fadd (cd, pt, n) co g).2.2)) args s 0 0 (x_A M nx)) 0 0 (nx) M1 20 [(4, .int (nI (k + 1))), (0, .ref (a)), (1, .long (co)), (3, .int (g))] []
          obtain ⟨g0, g1, g2, g3⟩ := id hF1
          refine x_iload F 0 dF_add_20 rfl ?_
          refine x_if_le F (tgt := 76) dF_add_22 (by decide) (fun c4 => ?_) (fun c4 => ?_)
          · skip
            have c4 : k + 1 ≤ 0 := by
              exact (nI_leI (a := k + 1) (b := 0) (by omega) (by omega)).mp c4
            exact absurd c4 (by omega)
          · skip
            have c4 : 0 < k + 1 := by
              have z : ¬ (k + 1 ≤ 0) := fun zz => c4 ((nI_leI (a := k + 1) (b := 0) (by omega) (by omega)).mpr zz)
              omega
            refine x_aload_n F 1 dF_add_25 rfl rfl ?_
            refine x_get (ci := 1) F 1 (x_in inF) rfl (by decide) (x_m kfF_15) dF_add_26 g0 rfl ?_
            refine x_iload F 0 dF_add_29 rfl ?_
            refine x_iconst F (v := nI (1)) dF_add_31 (by decide) ?_
            refine x_isub F dF_add_32 ?_
            refine xW.toi (nI (k)) (nI_pred k) ?_
            refine x_iald F dF_add_33 g2 (pk_in (k) (40) (by omega)) ?_
            refine xW.toi ((pt1) (k)) (by rw [nI_clamp (by omega)]) ?_
            refine x_iload_n F 3 dF_add_34 rfl rfl ?_
            refine x_icmp_ge F (tgt := 76) dF_add_35 (by decide) (fun c5 => ?_) (fun c5 => ?_)
            · skip
              have hS : fsh g n cd pt = (cd1, pt1, k + 1) := by rw [hf, fsh_s, if_neg (Int32.not_lt.mpr c5)]
              refine x_aload_n F 1 dF_add_76 rfl rfl ?_
              refine x_get (ci := 1) F 0 (x_in inF) rfl (by decide) (x_m kfF_9) dF_add_77 g0 rfl ?_
              refine x_iload F 0 dF_add_80 rfl ?_
              refine x_lload_n F 2 dF_add_82 rfl rfl ?_
              refine x_last F dF_add_83 g1 (pk_in (k + 1) (40) (by omega)) ?_
              rw [nI_clamp (show k + 1 < 2 ^ 31 by omega)]
              show xW p l e ({ frames := 0, cells := 0, slots := 0, locals := 0 } : Room) s m args below meth c D xcl (x_A M nx) 5 (MQ below (x_Q D xcl (x_A M nx) (fPost none nx M a (fadd (cd, pt, n) co g).1 (fadd (cd, pt, n) co g).2.1 (fadd (cd, pt, n) co g).2.2)) args s 0 0 (x_A M nx)) 0 0 (nx) (x_up M1 (a + 1) (.inl (.long, 40, .inr (.inl (vp_updL (cd1) (k + 1) (co)))))) 84 [(4, .int (nI (k + 1))), (0, .ref (a)), (1, .long (co)), (3, .int (g))] []
              refine x_aload_n F 1 dF_add_84 rfl rfl ?_
              refine x_get (ci := 1) F 1 (x_in inF) rfl (by decide) (x_m kfF_15) dF_add_85 (x_up_k g0 (by omega)) rfl ?_
              refine x_iload F 0 dF_add_88 rfl ?_
              refine x_iload_n F 3 dF_add_90 rfl rfl ?_
              refine x_iast F dF_add_91 (x_up_k g2 (by omega)) (pk_in (k + 1) (40) (by omega)) ?_
              rw [nI_clamp (show k + 1 < 2 ^ 31 by omega)]
              show xW p l e ({ frames := 0, cells := 0, slots := 0, locals := 0 } : Room) s m args below meth c D xcl (x_A M nx) 5 (MQ below (x_Q D xcl (x_A M nx) (fPost none nx M a (fadd (cd, pt, n) co g).1 (fadd (cd, pt, n) co g).2.1 (fadd (cd, pt, n) co g).2.2)) args s 0 0 (x_A M nx)) 0 0 (nx) (x_up (x_up M1 (a + 1) (.inl (.long, 40, .inr (.inl (vp_updL (cd1) (k + 1) (co)))))) (a + 2) (.inl (.int, 40, .inl (upd (pt1) (k + 1) (g))))) 92 [(4, .int (nI (k + 1))), (0, .ref (a)), (1, .long (co)), (3, .int (g))] []
              refine x_aload_n F 1 dF_add_92 rfl rfl ?_
              refine x_dup F dF_add_93 rfl ?_
              refine x_get (ci := 1) F 2 (x_in inF) rfl (by decide) (x_m kfF_19) dF_add_94 (x_up_k (x_up_k g0 (by omega)) (by omega)) rfl ?_
              refine x_iconst F (v := nI (1)) dF_add_97 (by decide) ?_
              refine x_iadd F dF_add_98 ?_
              refine xW.toi (nI (n + 1)) (nI_add _ _) ?_
              refine x_put (ci := 1) (ty := .int) F 2 (x_in inF) tF tF_ok nF rfl (by decide) (x_m kfF_19) dF_add_99 rfl (by decide +kernel) rfl rfl (x_up_k (x_up_k g0 (by omega)) (by omega)) (Nat.le_of_ble_eq_true rfl) ?_
              show xW p l e ({ frames := 0, cells := 0, slots := 0, locals := 0 } : Room) s m args below meth c D xcl (x_A M nx) 5 (MQ below (x_Q D xcl (x_A M nx) (fPost none nx M a (fadd (cd, pt, n) co g).1 (fadd (cd, pt, n) co g).2.1 (fadd (cd, pt, n) co g).2.2)) args s 0 0 (x_A M nx)) 0 0 (nx) (x_up (x_up (x_up M1 (a + 1) (.inl (.long, 40, .inr (.inl (vp_updL (cd1) (k + 1) (co)))))) (a + 2) (.inl (.int, 40, .inl (upd (pt1) (k + 1) (g))))) (a) (.inr (1, [.ref (a + 1), .ref (a + 2), .int (nI (n + 1))]))) 102 [(4, .int (nI (k + 1))), (0, .ref (a)), (1, .long (co)), (3, .int (g))] []
              exact x_vret F hr dF_add_102 (by rw [fadd, if_neg hg0, fins, hS]; exact ⟨rfl, rfl, ⟨x_up_s, (x_up_k (x_up_k x_up_s (by omega)) (by omega)), (x_up_k x_up_s (by omega)), (show n + 1 ≤ 40 by omega)⟩, fun b hb => (x_up_n (by omega)).trans ((x_up_n (by omega)).trans ((x_up_n (by omega)).trans ((hfr _ hb).trans (rfl))))⟩)
            · skip
              refine x_aload_n F 1 dF_add_38 rfl rfl ?_
              refine x_get (ci := 1) F 0 (x_in inF) rfl (by decide) (x_m kfF_9) dF_add_39 g0 rfl ?_
              refine x_iload F 0 dF_add_42 rfl ?_
              refine x_aload_n F 1 dF_add_44 rfl rfl ?_
              refine x_get (ci := 1) F 0 (x_in inF) rfl (by decide) (x_m kfF_9) dF_add_45 g0 rfl ?_
              refine x_iload F 0 dF_add_48 rfl ?_
              refine x_iconst F (v := nI (1)) dF_add_50 (by decide) ?_
              refine x_isub F dF_add_51 ?_
              refine xW.toi (nI (k)) (nI_pred k) ?_
              refine x_lald F dF_add_52 g1 (pk_in (k) (40) (by omega)) ?_
              refine xW.tol ((cd1) (k)) (by rw [nI_clamp (by omega)]) ?_
              refine x_last F dF_add_53 g1 (pk_in (k + 1) (40) (by omega)) ?_
              rw [nI_clamp (show k + 1 < 2 ^ 31 by omega)]
              show xW p l e ({ frames := 0, cells := 0, slots := 0, locals := 0 } : Room) s m args below meth c D xcl (x_A M nx) 5 (MQ below (x_Q D xcl (x_A M nx) (fPost none nx M a (fadd (cd, pt, n) co g).1 (fadd (cd, pt, n) co g).2.1 (fadd (cd, pt, n) co g).2.2)) args s 0 0 (x_A M nx)) 0 0 (nx) (x_up M1 (a + 1) (.inl (.long, 40, .inr (.inl (vp_updL (cd1) (k + 1) ((cd1) (k))))))) 54 [(4, .int (nI (k + 1))), (0, .ref (a)), (1, .long (co)), (3, .int (g))] []
              refine x_aload_n F 1 dF_add_54 rfl rfl ?_
              refine x_get (ci := 1) F 1 (x_in inF) rfl (by decide) (x_m kfF_15) dF_add_55 (x_up_k g0 (by omega)) rfl ?_
              refine x_iload F 0 dF_add_58 rfl ?_
              refine x_aload_n F 1 dF_add_60 rfl rfl ?_
              refine x_get (ci := 1) F 1 (x_in inF) rfl (by decide) (x_m kfF_15) dF_add_61 (x_up_k g0 (by omega)) rfl ?_
              refine x_iload F 0 dF_add_64 rfl ?_
              refine x_iconst F (v := nI (1)) dF_add_66 (by decide) ?_
              refine x_isub F dF_add_67 ?_
              refine xW.toi (nI (k)) (nI_pred k) ?_
              refine x_iald F dF_add_68 (x_up_k g2 (by omega)) (pk_in (k) (40) (by omega)) ?_
              refine xW.toi ((pt1) (k)) (by rw [nI_clamp (by omega)]) ?_
              refine x_iast F dF_add_69 (x_up_k g2 (by omega)) (pk_in (k + 1) (40) (by omega)) ?_
              rw [nI_clamp (show k + 1 < 2 ^ 31 by omega)]
              show xW p l e ({ frames := 0, cells := 0, slots := 0, locals := 0 } : Room) s m args below meth c D xcl (x_A M nx) 5 (MQ below (x_Q D xcl (x_A M nx) (fPost none nx M a (fadd (cd, pt, n) co g).1 (fadd (cd, pt, n) co g).2.1 (fadd (cd, pt, n) co g).2.2)) args s 0 0 (x_A M nx)) 0 0 (nx) (x_up (x_up M1 (a + 1) (.inl (.long, 40, .inr (.inl (vp_updL (cd1) (k + 1) ((cd1) (k))))))) (a + 2) (.inl (.int, 40, .inl (upd (pt1) (k + 1) ((pt1) (k)))))) 70 [(4, .int (nI (k + 1))), (0, .ref (a)), (1, .long (co)), (3, .int (g))] []
              refine x_iinc F 0 [(4, .int (nI (k))), (0, .ref (a)), (1, .long (co)), (3, .int (g))] dF_add_70 rfl (pk_m1 (k)) (by decide) rfl ?_
              refine x_goto F (tgt := 20) dF_add_73 (by decide) ?_
              exact ih _ _ _ (by omega) ⟨(x_up_k (x_up_k g0 (by omega)) (by omega)), (x_up_k x_up_s (by omega)), x_up_s, by omega⟩ (fun b hb => (x_up_n (by omega)).trans ((x_up_n (by omega)).trans ((hfr _ hb).trans (rfl)))) (by rw [hf, fsh_s, if_pos (Int32.not_le.mp c5)])
      refine x_aload_n F 0 dF_add_14 rfl rfl ?_
      refine x_get (ci := 1) F 2 (x_in inF) rfl (by decide) (x_m kfF_19) dF_add_15 h0 rfl ?_
      refine x_istore F [(4, .int (nI (n))), (0, .ref (a)), (1, .long (co)), (3, .int (g))] dF_add_18 (by decide) rfl ?_
      exact loop n cd pt M (Nat.le_refl _) hT (fun _ _ => rfl) rfl
    · skip
      have c2 : 40 ≤ n := by
        have z : ¬ (n < 40) := fun zz => c2 ((nI_ltI (a := n) (b := 40) (by omega) (by omega)).mpr zz)
        omega
      exact absurd c2 (by omega)
